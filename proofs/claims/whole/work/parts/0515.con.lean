theorem hdV_X8_explains : yX8_explains.cls = RX8 ∧ yX8_explains.cls ≠ "java/lang/invoke/MethodHandle" ∧ yX8_explains.cls ≠ "java/lang/invoke/VarHandle" ∧ (parseMethodDescriptor yX8_explains.desc).map (fun d => d.parameters.length) = some 2 := by decide +kernel
abbrev rmX8_explains : Room := { frames := 3, cells := 0, slots := 0, locals := 80 }
set_option maxHeartbeats 4000000 in
set_option maxRecDepth 100000 in
theorem k_X8_explains (l : Launch) (D : va_G) (cI cJ cZ : ClassId) (q : Nat → Nat) (I : Nat → Int32) (S : Int64) (A : Nat → Nat → Int32) (x1 : Int32) (x2 : Int32) (o : Int32) (h : fX8_explains I A x1 x2 = some o) : Met l yX8_explains wsX8_explains rmX8_explains (sh_Pr D (sh_ty cI cJ cZ) (sh_w8 q cI cJ cZ I S A) [.ref (q 0), .int x1, .int x2]) (vp_Si (fun z => z = o)) 0 0 (fun _ => False) := by
  refine Met.ofW (cc := cX8_explains) (maxL := 8) (ret := (some .boolean)) (by decide) rfl ?_
  intro p e s m args below meth c s₁ hB hml hv
  obtain ⟨hargs, hP, hK⟩ := hv
  have hx := hB.exec
  have hb := hB.bytes
  have hr := hB.returns
  have hts := atoms_spec (ws := wsX8_explains) hB.pre
  have hown : s.vm.findClass RX8 = some m.cls := findClass_of_methodNamed hB.named
  have hlocks := hB.notSynchronized
  have hfix : CallFix p m c cX8_explains 8 s args wsX8_explains RX8 := ⟨hx, hb, hml, hown, hts⟩
  have hinX8 : ∀ w ∈ wsX80, w ∈ wsX8_explains := by decide +kernel
  have lk1 := hts (.fieldLink RX8 16 "ShadeTreeModel" "page" "[I") (by decide +kernel)
  have lk2 := hts (.constantLong RX8 67 (-1)) (by decide +kernel)
  have lk3 := hts (.fieldLink RX8 145 "ShadeTreeModel" "seen" "I") (by decide +kernel)
  have lk4 := hts (.fieldLink RX8 35 "ShadeTreeModel" "seenOne" "[I") (by decide +kernel)
  have lk5 := hts (.fieldLink RX8 38 "ShadeTreeModel" "seenOther" "[I") (by decide +kernel)
  have lk6 := hts (.fieldLink RX8 41 "ShadeTreeModel" "seenIs" "[I") (by decide +kernel)
  rw [show entryFrame m args 8 = entryFrame m ([.ref (q 0), .int x1, .int x2] : List Value).toArray 8 by rw [hargs], lg_entry_eq]
  have hl := lv_entry ([.ref (q 0), .int x1, .int x2]) (n := 8) (Nat.le_of_ble_eq_true rfl)
  generalize (lg_sl ([.ref (q 0), .int x1, .int x2]) ++ List.replicate (8 - (lg_sl ([.ref (q 0), .int x1, .int x2])).length) Slot.unset).toArray = ls at hl ⊢
  have hl : lv_has ls 8 [(0, .ref (q 0)), (1, .int x1), (2, .int x2)] := hl
  generalize hQ : MQ below (vp_Si (fun z => z = o)) args s 0 0 (fun _ => False) = Q
  unfold fX8_explains at h
  refine lv_aload_n hx hb dX8_explains_0 rfl (lv_at hl 0 rfl) ?_
  refine va_get (ci := 8) (v := .ref (q 3)) (C := RX8) (T := TX8) (N := 21) hx hb hts hinX8 hown hK hP 0 rfl rfl 4 (by decide) lk1 (fun _ h9 => h9) rfl dX8_explains_1 ?_
  refine lv_iload_n hx hb dX8_explains_4 rfl (lv_at hl 1 rfl) ?_
  refine lv_ldc2 hx hb hown lk2 dX8_explains_5 ?_
  obtain ⟨v1, hc2, h⟩ := sh_b1_e h
  refine sh_cSl (As := [.ref (q 3), .int x1, .long (-1)]) (rest := []) hfix (k_X8_bright l D cI cJ cZ (q 3) (A 2) x1 (-1) v1 hc2) (va_cwS 3 hts gX8_explains_X8_bright rfl rfl rfl hdS_X8_bright ⟨Nat.le_of_ble_eq_true rfl, Nat.le_of_ble_eq_true rfl⟩) hP hK [3] rfl rfl hl.1 rfl (Nat.le_of_ble_eq_true rfl) dX8_explains_8 ⟨Nat.zero_le _, Nat.zero_le _⟩ ?_
  refine lv_lstore_n (lv' := [(3, .long v1), (0, .ref (q 0)), (1, .int x1), (2, .int x2)]) hx hb dX8_explains_11 rfl hl (by decide) rfl (fun ls hl => ?_)
  refine lv_iconst (v := 1) hx hb dX8_explains_12 (by decide) ?_
  refine lv_istore (lv' := [(5, .int 1), (3, .long v1), (0, .ref (q 0)), (1, .int x1), (2, .int x2)]) hx hb dX8_explains_13 hl (by decide) rfl (fun ls hl => ?_)
  refine lv_iconst (v := 0) hx hb dX8_explains_15 (by decide) ?_
  refine lv_istore (lv' := [(6, .int 0), (5, .int 1), (3, .long v1), (0, .ref (q 0)), (1, .int x1), (2, .int x2)]) hx hb dX8_explains_16 hl (by decide) rfl (fun ls hl => ?_)
  have LP15 : ∀ (n : Nat) (x2 : Int32) (x3 : Int64) (x5 : Int32) (x6 : Int32) (ow5 : Int32) (ls : Array Slot), fX8_explains_L18 n x2 x3 x5 x6 I A = some ow5 → lv_has ls 8 [(0, .ref (q 0)), (2, .int x2), (3, .long x3), (5, .int x5), (6, .int x6)] → (∀ (ls : Array Slot), lv_has ls 8 [(5, .int ow5)] → W p l e (headSpec wsX8_explains rmX8_explains).room s m args below meth c s.heap [] 0 0 Q (F0 m 94 ls [])) → W p l e (headSpec wsX8_explains rmX8_explains).room s m args below meth c s.heap [] 0 0 Q (F0 m 18 ls []) := by
    intro n
    induction n with
    | zero =>
      intro x2 x3 x5 x6 ow5 ls h hl hk
      exact nomatch ((fX8_explains_L18_z x2 x3 x5 x6 I A).symm.trans h)
    | succ n ih =>
      intro x2 x3 x5 x6 ow5 ls h hl hk
      rw [fX8_explains_L18_s] at h
      refine lv_iload hx hb dX8_explains_18 (lv_at hl 4 rfl) ?_
      refine lv_aload_n hx hb dX8_explains_20 rfl (lv_at hl 0 rfl) ?_
      refine va_get (ci := 8) (v := .int (I 3)) (C := RX8) (T := TX8) (N := 21) hx hb hts hinX8 hown hK hP 0 rfl rfl 11 (by decide) lk3 (fun _ h9 => h9) rfl dX8_explains_21 ?_
      refine lv_icmp_ge (tgt := 94) hx hb dX8_explains_24 (by decide) (fun g3 => ?_) (fun g3 => ?_)
      · rw [if_pos g3] at h
        cases h
        exact hk ls (lv_sub hl [3] rfl) 
      · rw [if_neg g3] at h
        refine lv_aload_n hx hb dX8_explains_27 rfl (lv_at hl 0 rfl) ?_
        refine va_get (ci := 8) (v := .ref (q 3)) (C := RX8) (T := TX8) (N := 21) hx hb hts hinX8 hown hK hP 0 rfl rfl 4 (by decide) lk1 (fun _ h9 => h9) rfl dX8_explains_28 ?_
        refine lv_aload_n hx hb dX8_explains_31 rfl (lv_at hl 0 rfl) ?_
        refine va_get (ci := 8) (v := .ref (q 9)) (C := RX8) (T := TX8) (N := 21) hx hb hts hinX8 hown hK hP 0 rfl rfl 12 (by decide) lk4 (fun _ h9 => h9) rfl dX8_explains_32 ?_
        refine lv_iload hx hb dX8_explains_35 (lv_at hl 4 rfl) ?_
        obtain ⟨v4, hcv4, h⟩ := sh_b1_e h
        refine sh_iald hx hb hK hP 9 0 rfl rfl (sh_ald_e hcv4) dX8_explains_37 ?_
        refine lv_lload_n hx hb dX8_explains_38 rfl (lv_at hl 2 rfl) ?_
        refine lv_iload_n hx hb dX8_explains_39 rfl (lv_at hl 1 rfl) ?_
        obtain ⟨v5, hc6, h⟩ := sh_b1_e h
        refine sh_cSl (As := [.ref (q 3), .int v4, .long x3, .int x2]) (rest := []) hfix (k_X8_spread l D cI cJ cZ (q 3) (A 2) v4 x3 x2 v5 hc6) (va_cwS 4 hts gX8_explains_X8_spread rfl rfl rfl hdS_X8_spread ⟨Nat.le_of_ble_eq_true rfl, Nat.le_of_ble_eq_true rfl⟩) hP hK [3] rfl rfl hl.1 rfl (Nat.le_of_ble_eq_true rfl) dX8_explains_40 ⟨Nat.zero_le _, Nat.zero_le _⟩ ?_
        refine lv_aload_n hx hb dX8_explains_43 rfl (lv_at hl 0 rfl) ?_
        refine va_get (ci := 8) (v := .ref (q 10)) (C := RX8) (T := TX8) (N := 21) hx hb hts hinX8 hown hK hP 0 rfl rfl 13 (by decide) lk5 (fun _ h9 => h9) rfl dX8_explains_44 ?_
        refine lv_iload hx hb dX8_explains_47 (lv_at hl 4 rfl) ?_
        obtain ⟨v7, hcv7, h⟩ := sh_b1_e h
        refine sh_iald hx hb hK hP 10 0 rfl rfl (sh_ald_e hcv7) dX8_explains_49 ?_
        obtain ⟨v8, hc9, h⟩ := sh_b1_e h
        refine sh_cSi (As := [.long v5, .int v7]) (rest := []) hfix (k_X8_has l D cI cJ cZ v5 v7 v8 hc9) (va_cwS 2 hts gX8_explains_X8_has rfl rfl rfl hdS_X8_has ⟨Nat.le_of_ble_eq_true rfl, Nat.le_of_ble_eq_true rfl⟩) hP hK [] rfl rfl hl.1 rfl (Nat.le_of_ble_eq_true rfl) dX8_explains_50 ⟨Nat.zero_le _, Nat.zero_le _⟩ ?_
        refine lv_istore (lv' := [(7, .int v8), (0, .ref (q 0)), (2, .int x2), (3, .long x3), (5, .int x5), (6, .int x6)]) hx hb dX8_explains_53 hl (by decide) rfl (fun ls hl => ?_)
        refine lv_iload hx hb dX8_explains_55 (lv_at hl 4 rfl) ?_
        refine lv_if_eq (tgt := 85) hx hb dX8_explains_57 (by decide) (fun g10 => ?_) (fun g10 => ?_)
        · rw [if_pos g10] at h
          refine lv_iconst (v := 0) hx hb dX8_explains_85 (by decide) ?_
          refine lv_istore (lv' := [(5, .int 0), (7, .int v8), (0, .ref (q 0)), (2, .int x2), (3, .long x3), (6, .int x6)]) hx hb dX8_explains_86 hl (by decide) rfl (fun ls hl => ?_)
          refine lv_iinc (v := (x6 + 1)) (lv' := [(6, .int (x6 + 1)), (5, .int 0), (7, .int v8), (0, .ref (q 0)), (2, .int x2), (3, .long x3)]) hx hb dX8_explains_88 hl (k := 5) rfl rfl (by decide) rfl (fun ls hl => ?_)
          refine lv_goto (tgt := 18) hx hb dX8_explains_91 (by decide) ?_
          exact ih x2 x3 0 (x6 + 1) ow5 ls h (lv_sub hl [3, 4, 5, 1, 0] rfl)  hk
        · rw [if_neg g10] at h
          refine lv_iload hx hb dX8_explains_60 (lv_at hl 0 rfl) ?_
          refine lv_aload_n hx hb dX8_explains_62 rfl (lv_at hl 1 rfl) ?_
          refine va_get (ci := 8) (v := .ref (q 11)) (C := RX8) (T := TX8) (N := 21) hx hb hts hinX8 hown hK hP 0 rfl rfl 14 (by decide) lk6 (fun _ h9 => h9) rfl dX8_explains_63 ?_
          refine lv_iload hx hb dX8_explains_66 (lv_at hl 5 rfl) ?_
          obtain ⟨v11, hcv11, h⟩ := sh_b1_e h
          refine sh_iald hx hb hK hP 11 0 rfl rfl (sh_ald_e hcv11) dX8_explains_68 ?_
          refine lv_iconst (v := 1) hx hb dX8_explains_69 (by decide) ?_
          refine lv_icmp_ne (tgt := 77) hx hb dX8_explains_70 (by decide) (fun g12 => ?_) (fun g12 => ?_)
          · rw [if_neg g12] at h
            refine lv_iconst (v := 0) hx hb dX8_explains_77 (by decide) ?_
            refine lv_icmp_ne (tgt := 85) hx hb dX8_explains_78 (by decide) (fun g13 => ?_) (fun g13 => ?_)
            · rw [if_neg g13] at h
              refine lv_iconst (v := 0) hx hb dX8_explains_85 (by decide) ?_
              refine lv_istore (lv' := [(5, .int 0), (7, .int v8), (0, .ref (q 0)), (2, .int x2), (3, .long x3), (6, .int x6)]) hx hb dX8_explains_86 hl (by decide) rfl (fun ls hl => ?_)
              refine lv_iinc (v := (x6 + 1)) (lv' := [(6, .int (x6 + 1)), (5, .int 0), (7, .int v8), (0, .ref (q 0)), (2, .int x2), (3, .long x3)]) hx hb dX8_explains_88 hl (k := 5) rfl rfl (by decide) rfl (fun ls hl => ?_)
              refine lv_goto (tgt := 18) hx hb dX8_explains_91 (by decide) ?_
              exact ih x2 x3 0 (x6 + 1) ow5 ls h (lv_sub hl [3, 4, 5, 1, 0] rfl)  hk
            · rw [if_pos g13] at h
              refine lv_iconst (v := 1) hx hb dX8_explains_81 (by decide) ?_
              refine lv_goto (tgt := 86) hx hb dX8_explains_82 (by decide) ?_
              refine lv_istore (lv' := [(5, .int 1), (7, .int v8), (0, .ref (q 0)), (2, .int x2), (3, .long x3), (6, .int x6)]) hx hb dX8_explains_86 hl (by decide) rfl (fun ls hl => ?_)
              refine lv_iinc (v := (x6 + 1)) (lv' := [(6, .int (x6 + 1)), (5, .int 1), (7, .int v8), (0, .ref (q 0)), (2, .int x2), (3, .long x3)]) hx hb dX8_explains_88 hl (k := 5) rfl rfl (by decide) rfl (fun ls hl => ?_)
              refine lv_goto (tgt := 18) hx hb dX8_explains_91 (by decide) ?_
              exact ih x2 x3 1 (x6 + 1) ow5 ls h (lv_sub hl [3, 4, 5, 1, 0] rfl)  hk
          · rw [if_pos g12] at h
            refine lv_iconst (v := 1) hx hb dX8_explains_73 (by decide) ?_
            refine lv_goto (tgt := 78) hx hb dX8_explains_74 (by decide) ?_
            refine lv_icmp_ne (tgt := 85) hx hb dX8_explains_78 (by decide) (fun g14 => ?_) (fun g14 => ?_)
            · rw [if_neg g14] at h
              refine lv_iconst (v := 0) hx hb dX8_explains_85 (by decide) ?_
              refine lv_istore (lv' := [(5, .int 0), (7, .int v8), (0, .ref (q 0)), (2, .int x2), (3, .long x3), (6, .int x6)]) hx hb dX8_explains_86 hl (by decide) rfl (fun ls hl => ?_)
              refine lv_iinc (v := (x6 + 1)) (lv' := [(6, .int (x6 + 1)), (5, .int 0), (7, .int v8), (0, .ref (q 0)), (2, .int x2), (3, .long x3)]) hx hb dX8_explains_88 hl (k := 5) rfl rfl (by decide) rfl (fun ls hl => ?_)
              refine lv_goto (tgt := 18) hx hb dX8_explains_91 (by decide) ?_
              exact ih x2 x3 0 (x6 + 1) ow5 ls h (lv_sub hl [3, 4, 5, 1, 0] rfl)  hk
            · rw [if_pos g14] at h
              refine lv_iconst (v := 1) hx hb dX8_explains_81 (by decide) ?_
              refine lv_goto (tgt := 86) hx hb dX8_explains_82 (by decide) ?_
              refine lv_istore (lv' := [(5, .int 1), (7, .int v8), (0, .ref (q 0)), (2, .int x2), (3, .long x3), (6, .int x6)]) hx hb dX8_explains_86 hl (by decide) rfl (fun ls hl => ?_)
              refine lv_iinc (v := (x6 + 1)) (lv' := [(6, .int (x6 + 1)), (5, .int 1), (7, .int v8), (0, .ref (q 0)), (2, .int x2), (3, .long x3)]) hx hb dX8_explains_88 hl (k := 5) rfl rfl (by decide) rfl (fun ls hl => ?_)
              refine lv_goto (tgt := 18) hx hb dX8_explains_91 (by decide) ?_
              exact ih x2 x3 1 (x6 + 1) ow5 ls h (lv_sub hl [3, 4, 5, 1, 0] rfl)  hk
  obtain ⟨w16, hc18, h⟩ := sh_b1_e h
  refine LP15 sh_fu x2 v1 1 0 w16 ls hc18 (lv_sub hl [3, 5, 2, 1, 0] rfl)  (fun ls hl  => ?_)
  refine lv_iload hx hb dX8_explains_94 (lv_at hl 0 rfl) ?_
  exact sh_roz hx hb hr hlocks hQ (sh_zr_e h) dX8_explains_96
theorem hdV_X8_ways : yX8_ways.cls = RX8 ∧ yX8_ways.cls ≠ "java/lang/invoke/MethodHandle" ∧ yX8_ways.cls ≠ "java/lang/invoke/VarHandle" ∧ (parseMethodDescriptor yX8_ways.desc).map (fun d => d.parameters.length) = some 1 := by decide +kernel
abbrev rmX8_ways : Room := { frames := 4, cells := 0, slots := 0, locals := 107 }
set_option maxHeartbeats 4000000 in
set_option maxRecDepth 100000 in
theorem k_X8_ways (l : Launch) (D : va_G) (cI cJ cZ : ClassId) (sz : Nat) (q : Nat → Nat) (I : Nat → Int32) (S : Int64) (A : Nat → Nat → Int32) (x1 : Int32) (o : Int32) (oI : Nat → Int32) (h : fX8_ways I A x1 = some (o, oI)) : Met l yX8_ways wsX8_ways rmX8_ways (sh_Pw D (sh_ty cI cJ cZ) sz (sh_w8 q cI cJ cZ I S A) [.ref (q 0), .int x1]) (sh_Qi D (sh_ty cI cJ cZ) (va_A (sh_w8 q cI cJ cZ I S A) sz) (sh_w8 q cI cJ cZ oI S A) o) 0 0 (va_A (sh_w8 q cI cJ cZ I S A) sz) := by
  refine Met.ofW (cc := cX8_ways) (maxL := 5) (ret := (some .int)) (by decide) rfl ?_
  intro p e s m args below meth c s₁ hB hml hv
  obtain ⟨hargs, hsz, hP, hK, hD0⟩ := hv
  have hx := hB.exec
  have hb := hB.bytes
  have hr := hB.returns
  have hts := atoms_spec (ws := wsX8_ways) hB.pre
  have hown : s.vm.findClass RX8 = some m.cls := findClass_of_methodNamed hB.named
  have hlocks := hB.notSynchronized
  have hfix : CallFix p m c cX8_ways 5 s args wsX8_ways RX8 := ⟨hx, hb, hml, hown, hts⟩
  have hinX8 : ∀ w ∈ wsX80, w ∈ wsX8_ways := by decide +kernel
  have lk1 := hts (.fieldLink RX8 47 "ShadeTreeModel" "thrown" "I") (by decide +kernel)
  have lk2 := hts (.fieldLink RX8 237 "ShadeTreeModel" "wayMany" "I") (by decide +kernel)
  have lk3 := hts (.fieldLink RX8 240 "ShadeTreeModel" "wayFirst" "I") (by decide +kernel)
  rw [show entryFrame m args 5 = entryFrame m ([.ref (q 0), .int x1] : List Value).toArray 5 by rw [hargs], lg_entry_eq]
  have hl := lv_entry ([.ref (q 0), .int x1]) (n := 5) (Nat.le_of_ble_eq_true rfl)
  generalize (lg_sl ([.ref (q 0), .int x1]) ++ List.replicate (5 - (lg_sl ([.ref (q 0), .int x1])).length) Slot.unset).toArray = ls at hl ⊢
  have hl : lv_has ls 5 [(0, .ref (q 0)), (1, .int x1)] := hl
  subst hsz
  have hD := hD0.self (sz := s.heap.size)
  generalize hAe : va_A (sh_w8 q cI cJ cZ I S A) s.heap.size = Az at hD ⊢
  have hA : ∀ q : Nat, s.heap.size ≤ q → Az q := fun q h => by rw [← hAe]; exact Or.inr h
  have hS : va_S Az s.heap s.heap [] := va_S.rf
  generalize hQ : MQ below (sh_Qi D (sh_ty cI cJ cZ) Az (sh_w8 q cI cJ cZ oI S A) o) args s 0 0 Az = Q
  unfold fX8_ways at h
  refine lv_aload_n hx hb dX8_ways_0 rfl (lv_at hl 0 rfl) ?_
  refine lv_iconst (v := 0) hx hb dX8_ways_1 (by decide) ?_
  refine sh_put (wn := (sh_w8 q cI cJ cZ (upd I 0 0) S A)) (ci := 8) (v := .int 0) (ty := .int) (C := RX8) (T := TX8) (N := 21) hx hb hts hinX8 tyX8 tyX8_ok nmX8 hown hK hP hD hS 0 rfl rfl 0 (by decide) lk1 (fun _ h9 => h9) rfl (by decide +kernel) rfl rfl (Nat.le_of_ble_eq_true rfl) rfl dX8_ways_2 (fun H locs hP hD hS => ?_)
  refine lv_iload_n hx hb dX8_ways_5 rfl (lv_at hl 1 rfl) ?_
  refine lv_i2l (v := (Int32.toInt64 x1)) hx hb dX8_ways_6 rfl ?_
  refine lv_lconst (v := 0) hx hb dX8_ways_7 (by decide) ?_
  refine lv_lconst (v := 1) hx hb dX8_ways_8 (by decide) ?_
  obtain ⟨v1, hc2, h⟩ := sh_b1_e h
  refine sh_cSi (As := [.long (Int32.toInt64 x1), .long 0, .long 1]) (rest := []) hfix (k_X8_in l D cI cJ cZ (Int32.toInt64 x1) 0 1 v1 hc2) (va_cwS 3 hts gX8_ways_X8_in rfl rfl rfl hdS_X8_in ⟨Nat.le_of_ble_eq_true rfl, Nat.le_of_ble_eq_true rfl⟩) hP hK [] rfl rfl hl.1 rfl (Nat.le_of_ble_eq_true rfl) dX8_ways_9 ⟨Nat.zero_le _, Nat.zero_le _⟩ ?_
  refine lv_if_ne (tgt := 18) hx hb dX8_ways_12 (by decide) (fun g3 => ?_) (fun g3 => ?_)
  · rw [if_neg g3] at h
    refine lv_aload_n hx hb dX8_ways_18 rfl (lv_at hl 0 rfl) ?_
    refine lv_iconst (v := 0) hx hb dX8_ways_19 (by decide) ?_
    refine sh_put (wn := (sh_w8 q cI cJ cZ (upd (upd I 0 0) 6 0) S A)) (ci := 8) (v := .int 0) (ty := .int) (C := RX8) (T := TX8) (N := 21) hx hb hts hinX8 tyX8 tyX8_ok nmX8 hown hK hP hD hS 0 rfl rfl 18 (by decide) lk2 (fun _ h9 => h9) rfl (by decide +kernel) rfl rfl (Nat.le_of_ble_eq_true rfl) rfl dX8_ways_20 (fun H locs hP hD hS => ?_)
    refine lv_aload_n hx hb dX8_ways_23 rfl (lv_at hl 0 rfl) ?_
    refine lv_bipush (v := -9) hx hb dX8_ways_24 (by decide) ?_
    refine sh_put (wn := (sh_w8 q cI cJ cZ (upd (upd (upd I 0 0) 6 0) 7 (-9)) S A)) (ci := 8) (v := .int (-9)) (ty := .int) (C := RX8) (T := TX8) (N := 21) hx hb hts hinX8 tyX8 tyX8_ok nmX8 hown hK hP hD hS 0 rfl rfl 19 (by decide) lk3 (fun _ h9 => h9) rfl (by decide +kernel) rfl rfl (Nat.le_of_ble_eq_true rfl) rfl dX8_ways_26 (fun H locs hP hD hS => ?_)
    refine lv_iconst (v := 0) hx hb dX8_ways_29 (by decide) ?_
    refine lv_istore_n (lv' := [(2, .int 0), (0, .ref (q 0)), (1, .int x1)]) hx hb dX8_ways_30 rfl hl (by decide) rfl (fun ls hl => ?_)
    have LP16 : ∀ (n : Nat) (x1 : Int32) (x2 : Int32) (I : Nat → Int32) (oI : (Nat → Int32)) (H : Heap) (locs : List Loc) (ls : Array Slot), fX8_ways_L31 n x1 x2 I A = some oI → lv_has ls 5 [(0, .ref (q 0)), (1, .int x1), (2, .int x2)] → va_P D vwCl (sh_w8 q cI cJ cZ I S A) H → va_D Az (sh_w8 q cI cJ cZ I S A) → va_S Az s.heap H locs → (∀ (H : Heap) (locs : List Loc) (ls : Array Slot), lv_has ls 5 [(0, .ref (q 0)), (1, .int x1)] → va_P D vwCl (sh_w8 q cI cJ cZ oI S A) H → va_D Az (sh_w8 q cI cJ cZ oI S A) → va_S Az s.heap H locs → W p l e (headSpec wsX8_ways rmX8_ways).room s m args below meth c H locs 0 0 Q (F0 m 113 ls [])) → W p l e (headSpec wsX8_ways rmX8_ways).room s m args below meth c H locs 0 0 Q (F0 m 31 ls []) := by
      intro n
      induction n with
      | zero =>
        intro x1 x2 I oI H locs ls h hl hP hD hS hk
        exact nomatch ((fX8_ways_L31_z x1 x2 I A).symm.trans h)
      | succ n ih =>
        intro x1 x2 I oI H locs ls h hl hP hD hS hk
        rw [fX8_ways_L31_s] at h
        refine lv_iload_n hx hb dX8_ways_31 rfl (lv_at hl 2 rfl) ?_
        refine lv_bipush (v := 9) hx hb dX8_ways_32 (by decide) ?_
        refine lv_icmp_gt (tgt := 113) hx hb dX8_ways_34 (by decide) (fun g4 => ?_) (fun g4 => ?_)
        · rw [if_pos g4] at h
          cases h
          exact hk _ _ ls (lv_sub hl [0, 1] rfl) hP hD hS
        · rw [if_neg g4] at h
          refine lv_iconst (v := 4) hx hb dX8_ways_37 (by decide) ?_
          refine lv_istore_n (lv' := [(3, .int 4), (0, .ref (q 0)), (1, .int x1), (2, .int x2)]) hx hb dX8_ways_38 rfl hl (by decide) rfl (fun ls hl => ?_)
          have LP13 : ∀ (n : Nat) (x1 : Int32) (x2 : Int32) (x3 : Int32) (I : Nat → Int32) (oI : (Nat → Int32)) (H : Heap) (locs : List Loc) (ls : Array Slot), fX8_ways_L39 n x1 x2 x3 I A = some oI → lv_has ls 5 [(0, .ref (q 0)), (1, .int x1), (2, .int x2), (3, .int x3)] → va_P D vwCl (sh_w8 q cI cJ cZ I S A) H → va_D Az (sh_w8 q cI cJ cZ I S A) → va_S Az s.heap H locs → (∀ (H : Heap) (locs : List Loc) (ls : Array Slot), lv_has ls 5 [(0, .ref (q 0)), (1, .int x1), (2, .int x2)] → va_P D vwCl (sh_w8 q cI cJ cZ oI S A) H → va_D Az (sh_w8 q cI cJ cZ oI S A) → va_S Az s.heap H locs → W p l e (headSpec wsX8_ways rmX8_ways).room s m args below meth c H locs 0 0 Q (F0 m 107 ls [])) → W p l e (headSpec wsX8_ways rmX8_ways).room s m args below meth c H locs 0 0 Q (F0 m 39 ls []) := by
            intro n
            induction n with
            | zero =>
              intro x1 x2 x3 I oI H locs ls h hl hP hD hS hk
              exact nomatch ((fX8_ways_L39_z x1 x2 x3 I A).symm.trans h)
            | succ n ih =>
              intro x1 x2 x3 I oI H locs ls h hl hP hD hS hk
              rw [fX8_ways_L39_s] at h
              refine lv_iload_n hx hb dX8_ways_39 rfl (lv_at hl 3 rfl) ?_
              refine lv_bipush (v := 9) hx hb dX8_ways_40 (by decide) ?_
              refine lv_icmp_ge (tgt := 107) hx hb dX8_ways_42 (by decide) (fun g5 => ?_) (fun g5 => ?_)
              · rw [if_pos g5] at h
                cases h
                exact hk _ _ ls (lv_sub hl [0, 1, 2] rfl) hP hD hS
              · rw [if_neg g5] at h
                refine lv_aload_n hx hb dX8_ways_45 rfl (lv_at hl 0 rfl) ?_
                refine lv_iload_n hx hb dX8_ways_46 rfl (lv_at hl 2 rfl) ?_
                refine lv_iload_n hx hb dX8_ways_47 rfl (lv_at hl 3 rfl) ?_
                obtain ⟨v6, hc7, h⟩ := sh_b1_e h
                refine sh_cVi (As := [.int x2, .int x3]) (rest := []) hfix (k_X8_explains l D cI cJ cZ q I S A x2 x3 v6 hc7) (cwV 2 hts gX8_ways_X8_explains rfl rfl rfl hdV_X8_explains ⟨Nat.le_of_ble_eq_true rfl, Nat.le_of_ble_eq_true rfl⟩) hP hK [0, 1, 2, 3, 4, 5, 6, 7, 8, 9, 10, 11, 12] rfl 0 rfl rfl rfl hl.1 rfl (Nat.le_of_ble_eq_true rfl) dX8_ways_48 ⟨Nat.zero_le _, Nat.zero_le _⟩ ?_
                refine lv_istore (lv' := [(4, .int v6), (0, .ref (q 0)), (1, .int x1), (2, .int x2), (3, .int x3)]) hx hb dX8_ways_51 hl (by decide) rfl (fun ls hl => ?_)
                refine lv_aload_n hx hb dX8_ways_53 rfl (lv_at hl 1 rfl) ?_
                refine lv_iload hx hb dX8_ways_54 (lv_at hl 0 rfl) ?_
                refine lv_if_eq (tgt := 75) hx hb dX8_ways_56 (by decide) (fun g8 => ?_) (fun g8 => ?_)
                · rw [if_pos g8] at h
                  refine lv_aload_n hx hb dX8_ways_75 rfl (lv_at hl 1 rfl) ?_
                  refine va_get (ci := 8) (v := .int (I 7)) (C := RX8) (T := TX8) (N := 21) hx hb hts hinX8 hown hK hP 0 rfl rfl 19 (by decide) lk3 (fun _ h9 => h9) rfl dX8_ways_76 ?_
                  refine sh_put (wn := (sh_w8 q cI cJ cZ (upd I 7 (I 7)) S A)) (ci := 8) (v := .int (I 7)) (ty := .int) (C := RX8) (T := TX8) (N := 21) hx hb hts hinX8 tyX8 tyX8_ok nmX8 hown hK hP hD hS 0 rfl rfl 19 (by decide) lk3 (fun _ h9 => h9) rfl (by decide +kernel) rfl rfl (Nat.le_of_ble_eq_true rfl) rfl dX8_ways_79 (fun H locs hP hD hS => ?_)
                  refine lv_aload_n hx hb dX8_ways_82 rfl (lv_at hl 1 rfl) ?_
                  refine lv_dup hx hb dX8_ways_83 rfl ?_
                  refine va_get (ci := 8) (v := .int (I 6)) (C := RX8) (T := TX8) (N := 21) hx hb hts hinX8 hown hK hP 0 rfl rfl 18 (by decide) lk2 (fun _ h9 => h9) rfl dX8_ways_84 ?_
                  refine lv_iload hx hb dX8_ways_87 (lv_at hl 0 rfl) ?_
                  refine lv_if_eq (tgt := 96) hx hb dX8_ways_89 (by decide) (fun g9 => ?_) (fun g9 => ?_)
                  · rw [if_pos g9] at h
                    refine lv_iconst (v := 0) hx hb dX8_ways_96 (by decide) ?_
                    refine lv_iadd hx hb dX8_ways_97 ?_
                    refine sh_put (wn := (sh_w8 q cI cJ cZ (upd (upd I 7 (I 7)) 6 ((I 6) + 0)) S A)) (ci := 8) (v := .int ((I 6) + 0)) (ty := .int) (C := RX8) (T := TX8) (N := 21) hx hb hts hinX8 tyX8 tyX8_ok nmX8 hown hK hP hD hS 0 rfl rfl 18 (by decide) lk2 (fun _ h9 => h9) rfl (by decide +kernel) rfl rfl (Nat.le_of_ble_eq_true rfl) rfl dX8_ways_98 (fun H locs hP hD hS => ?_)
                    refine lv_iinc (v := (x3 + 4)) (lv' := [(3, .int (x3 + 4)), (4, .int v6), (0, .ref (q 0)), (1, .int x1), (2, .int x2)]) hx hb dX8_ways_101 hl (k := 4) rfl rfl (by decide) rfl (fun ls hl => ?_)
                    refine lv_goto (tgt := 39) hx hb dX8_ways_104 (by decide) ?_
                    exact ih x1 x2 (x3 + 4) (upd (upd I 7 (I 7)) 6 ((I 6) + 0)) oI _ _ ls h (lv_sub hl [2, 3, 4, 0] rfl) hP hD hS hk
                  · rw [if_neg g9] at h
                    refine lv_iconst (v := 1) hx hb dX8_ways_92 (by decide) ?_
                    refine lv_goto (tgt := 97) hx hb dX8_ways_93 (by decide) ?_
                    refine lv_iadd hx hb dX8_ways_97 ?_
                    refine sh_put (wn := (sh_w8 q cI cJ cZ (upd (upd I 7 (I 7)) 6 ((I 6) + 1)) S A)) (ci := 8) (v := .int ((I 6) + 1)) (ty := .int) (C := RX8) (T := TX8) (N := 21) hx hb hts hinX8 tyX8 tyX8_ok nmX8 hown hK hP hD hS 0 rfl rfl 18 (by decide) lk2 (fun _ h9 => h9) rfl (by decide +kernel) rfl rfl (Nat.le_of_ble_eq_true rfl) rfl dX8_ways_98 (fun H locs hP hD hS => ?_)
                    refine lv_iinc (v := (x3 + 4)) (lv' := [(3, .int (x3 + 4)), (4, .int v6), (0, .ref (q 0)), (1, .int x1), (2, .int x2)]) hx hb dX8_ways_101 hl (k := 4) rfl rfl (by decide) rfl (fun ls hl => ?_)
                    refine lv_goto (tgt := 39) hx hb dX8_ways_104 (by decide) ?_
                    exact ih x1 x2 (x3 + 4) (upd (upd I 7 (I 7)) 6 ((I 6) + 1)) oI _ _ ls h (lv_sub hl [2, 3, 4, 0] rfl) hP hD hS hk
                · rw [if_neg g8] at h
                  refine lv_aload_n hx hb dX8_ways_59 rfl (lv_at hl 1 rfl) ?_
                  refine va_get (ci := 8) (v := .int (I 6)) (C := RX8) (T := TX8) (N := 21) hx hb hts hinX8 hown hK hP 0 rfl rfl 18 (by decide) lk2 (fun _ h9 => h9) rfl dX8_ways_60 ?_
                  refine lv_if_ne (tgt := 75) hx hb dX8_ways_63 (by decide) (fun g10 => ?_) (fun g10 => ?_)
                  · rw [if_neg g10] at h
                    refine lv_aload_n hx hb dX8_ways_75 rfl (lv_at hl 1 rfl) ?_
                    refine va_get (ci := 8) (v := .int (I 7)) (C := RX8) (T := TX8) (N := 21) hx hb hts hinX8 hown hK hP 0 rfl rfl 19 (by decide) lk3 (fun _ h9 => h9) rfl dX8_ways_76 ?_
                    refine sh_put (wn := (sh_w8 q cI cJ cZ (upd I 7 (I 7)) S A)) (ci := 8) (v := .int (I 7)) (ty := .int) (C := RX8) (T := TX8) (N := 21) hx hb hts hinX8 tyX8 tyX8_ok nmX8 hown hK hP hD hS 0 rfl rfl 19 (by decide) lk3 (fun _ h9 => h9) rfl (by decide +kernel) rfl rfl (Nat.le_of_ble_eq_true rfl) rfl dX8_ways_79 (fun H locs hP hD hS => ?_)
                    refine lv_aload_n hx hb dX8_ways_82 rfl (lv_at hl 1 rfl) ?_
                    refine lv_dup hx hb dX8_ways_83 rfl ?_
                    refine va_get (ci := 8) (v := .int (I 6)) (C := RX8) (T := TX8) (N := 21) hx hb hts hinX8 hown hK hP 0 rfl rfl 18 (by decide) lk2 (fun _ h9 => h9) rfl dX8_ways_84 ?_
                    refine lv_iload hx hb dX8_ways_87 (lv_at hl 0 rfl) ?_
                    refine lv_if_eq (tgt := 96) hx hb dX8_ways_89 (by decide) (fun g11 => ?_) (fun g11 => ?_)
                    · rw [if_pos g11] at h
                      refine lv_iconst (v := 0) hx hb dX8_ways_96 (by decide) ?_
                      refine lv_iadd hx hb dX8_ways_97 ?_
                      refine sh_put (wn := (sh_w8 q cI cJ cZ (upd (upd I 7 (I 7)) 6 ((I 6) + 0)) S A)) (ci := 8) (v := .int ((I 6) + 0)) (ty := .int) (C := RX8) (T := TX8) (N := 21) hx hb hts hinX8 tyX8 tyX8_ok nmX8 hown hK hP hD hS 0 rfl rfl 18 (by decide) lk2 (fun _ h9 => h9) rfl (by decide +kernel) rfl rfl (Nat.le_of_ble_eq_true rfl) rfl dX8_ways_98 (fun H locs hP hD hS => ?_)
                      refine lv_iinc (v := (x3 + 4)) (lv' := [(3, .int (x3 + 4)), (4, .int v6), (0, .ref (q 0)), (1, .int x1), (2, .int x2)]) hx hb dX8_ways_101 hl (k := 4) rfl rfl (by decide) rfl (fun ls hl => ?_)
                      refine lv_goto (tgt := 39) hx hb dX8_ways_104 (by decide) ?_
                      exact ih x1 x2 (x3 + 4) (upd (upd I 7 (I 7)) 6 ((I 6) + 0)) oI _ _ ls h (lv_sub hl [2, 3, 4, 0] rfl) hP hD hS hk
                    · rw [if_neg g11] at h
                      refine lv_iconst (v := 1) hx hb dX8_ways_92 (by decide) ?_
                      refine lv_goto (tgt := 97) hx hb dX8_ways_93 (by decide) ?_
                      refine lv_iadd hx hb dX8_ways_97 ?_
                      refine sh_put (wn := (sh_w8 q cI cJ cZ (upd (upd I 7 (I 7)) 6 ((I 6) + 1)) S A)) (ci := 8) (v := .int ((I 6) + 1)) (ty := .int) (C := RX8) (T := TX8) (N := 21) hx hb hts hinX8 tyX8 tyX8_ok nmX8 hown hK hP hD hS 0 rfl rfl 18 (by decide) lk2 (fun _ h9 => h9) rfl (by decide +kernel) rfl rfl (Nat.le_of_ble_eq_true rfl) rfl dX8_ways_98 (fun H locs hP hD hS => ?_)
                      refine lv_iinc (v := (x3 + 4)) (lv' := [(3, .int (x3 + 4)), (4, .int v6), (0, .ref (q 0)), (1, .int x1), (2, .int x2)]) hx hb dX8_ways_101 hl (k := 4) rfl rfl (by decide) rfl (fun ls hl => ?_)
                      refine lv_goto (tgt := 39) hx hb dX8_ways_104 (by decide) ?_
                      exact ih x1 x2 (x3 + 4) (upd (upd I 7 (I 7)) 6 ((I 6) + 1)) oI _ _ ls h (lv_sub hl [2, 3, 4, 0] rfl) hP hD hS hk
                  · rw [if_pos g10] at h
                    refine lv_bipush (v := 10) hx hb dX8_ways_66 (by decide) ?_
                    refine lv_iload_n hx hb dX8_ways_68 rfl (lv_at hl 3 rfl) ?_
                    refine lv_imul hx hb dX8_ways_69 ?_
                    refine lv_iload_n hx hb dX8_ways_70 rfl (lv_at hl 4 rfl) ?_
                    refine lv_iadd hx hb dX8_ways_71 ?_
                    refine lv_goto (tgt := 79) hx hb dX8_ways_72 (by decide) ?_
                    refine sh_put (wn := (sh_w8 q cI cJ cZ (upd I 7 ((10 * x2) + x3)) S A)) (ci := 8) (v := .int ((10 * x2) + x3)) (ty := .int) (C := RX8) (T := TX8) (N := 21) hx hb hts hinX8 tyX8 tyX8_ok nmX8 hown hK hP hD hS 0 rfl rfl 19 (by decide) lk3 (fun _ h9 => h9) rfl (by decide +kernel) rfl rfl (Nat.le_of_ble_eq_true rfl) rfl dX8_ways_79 (fun H locs hP hD hS => ?_)
                    refine lv_aload_n hx hb dX8_ways_82 rfl (lv_at hl 1 rfl) ?_
                    refine lv_dup hx hb dX8_ways_83 rfl ?_
                    refine va_get (ci := 8) (v := .int (I 6)) (C := RX8) (T := TX8) (N := 21) hx hb hts hinX8 hown hK hP 0 rfl rfl 18 (by decide) lk2 (fun _ h9 => h9) rfl dX8_ways_84 ?_
                    refine lv_iload hx hb dX8_ways_87 (lv_at hl 0 rfl) ?_
                    refine lv_if_eq (tgt := 96) hx hb dX8_ways_89 (by decide) (fun g12 => ?_) (fun g12 => ?_)
                    · rw [if_pos g12] at h
                      refine lv_iconst (v := 0) hx hb dX8_ways_96 (by decide) ?_
                      refine lv_iadd hx hb dX8_ways_97 ?_
                      refine sh_put (wn := (sh_w8 q cI cJ cZ (upd (upd I 7 ((10 * x2) + x3)) 6 ((I 6) + 0)) S A)) (ci := 8) (v := .int ((I 6) + 0)) (ty := .int) (C := RX8) (T := TX8) (N := 21) hx hb hts hinX8 tyX8 tyX8_ok nmX8 hown hK hP hD hS 0 rfl rfl 18 (by decide) lk2 (fun _ h9 => h9) rfl (by decide +kernel) rfl rfl (Nat.le_of_ble_eq_true rfl) rfl dX8_ways_98 (fun H locs hP hD hS => ?_)
                      refine lv_iinc (v := (x3 + 4)) (lv' := [(3, .int (x3 + 4)), (4, .int v6), (0, .ref (q 0)), (1, .int x1), (2, .int x2)]) hx hb dX8_ways_101 hl (k := 4) rfl rfl (by decide) rfl (fun ls hl => ?_)
                      refine lv_goto (tgt := 39) hx hb dX8_ways_104 (by decide) ?_
                      exact ih x1 x2 (x3 + 4) (upd (upd I 7 ((10 * x2) + x3)) 6 ((I 6) + 0)) oI _ _ ls h (lv_sub hl [2, 3, 4, 0] rfl) hP hD hS hk
                    · rw [if_neg g12] at h
                      refine lv_iconst (v := 1) hx hb dX8_ways_92 (by decide) ?_
                      refine lv_goto (tgt := 97) hx hb dX8_ways_93 (by decide) ?_
                      refine lv_iadd hx hb dX8_ways_97 ?_
                      refine sh_put (wn := (sh_w8 q cI cJ cZ (upd (upd I 7 ((10 * x2) + x3)) 6 ((I 6) + 1)) S A)) (ci := 8) (v := .int ((I 6) + 1)) (ty := .int) (C := RX8) (T := TX8) (N := 21) hx hb hts hinX8 tyX8 tyX8_ok nmX8 hown hK hP hD hS 0 rfl rfl 18 (by decide) lk2 (fun _ h9 => h9) rfl (by decide +kernel) rfl rfl (Nat.le_of_ble_eq_true rfl) rfl dX8_ways_98 (fun H locs hP hD hS => ?_)
                      refine lv_iinc (v := (x3 + 4)) (lv' := [(3, .int (x3 + 4)), (4, .int v6), (0, .ref (q 0)), (1, .int x1), (2, .int x2)]) hx hb dX8_ways_101 hl (k := 4) rfl rfl (by decide) rfl (fun ls hl => ?_)
                      refine lv_goto (tgt := 39) hx hb dX8_ways_104 (by decide) ?_
                      exact ih x1 x2 (x3 + 4) (upd (upd I 7 ((10 * x2) + x3)) 6 ((I 6) + 1)) oI _ _ ls h (lv_sub hl [2, 3, 4, 0] rfl) hP hD hS hk
          obtain ⟨w14, hc15, h⟩ := sh_b1_e h
          refine LP13 sh_fu x1 x2 4 I w14 _ _ ls hc15 (lv_sub hl [1, 2, 3, 0] rfl) hP hD hS (fun H locs ls hl hP hD hS => ?_)
          refine lv_iinc (v := (x2 + 1)) (lv' := [(2, .int (x2 + 1)), (0, .ref (q 0)), (1, .int x1)]) hx hb dX8_ways_107 hl (k := 2) rfl rfl (by decide) rfl (fun ls hl => ?_)
          refine lv_goto (tgt := 31) hx hb dX8_ways_110 (by decide) ?_
          exact ih x1 (x2 + 1) w14 oI _ _ ls h (lv_sub hl [1, 2, 0] rfl) hP hD hS hk
    obtain ⟨w17, hc19, h⟩ := sh_b1_e h
    refine LP16 sh_fu x1 0 (upd (upd (upd I 0 0) 6 0) 7 (-9)) w17 _ _ ls hc19 (lv_sub hl [1, 2, 0] rfl) hP hD hS (fun H locs ls hl hP hD hS => ?_)
    refine lv_iload_n hx hb dX8_ways_113 rfl (lv_at hl 1 rfl) ?_
    refine lv_if_ne (tgt := 124) hx hb dX8_ways_114 (by decide) (fun g18 => ?_) (fun g18 => ?_)
    · rw [if_neg g18] at h
      refine lv_aload_n hx hb dX8_ways_124 rfl (lv_at hl 0 rfl) ?_
      refine va_get (ci := 8) (v := .int (w17 7)) (C := RX8) (T := TX8) (N := 21) hx hb hts hinX8 hown hK hP 0 rfl rfl 19 (by decide) lk3 (fun _ h9 => h9) rfl dX8_ways_125 ?_
      cases h
      exact sh_rwi hx hb hr hlocks hQ hK hP hD hS dX8_ways_128
    · rw [if_pos g18] at h
      refine lv_aload_n hx hb dX8_ways_117 rfl (lv_at hl 0 rfl) ?_
      refine va_get (ci := 8) (v := .int (w17 6)) (C := RX8) (T := TX8) (N := 21) hx hb hts hinX8 hown hK hP 0 rfl rfl 18 (by decide) lk2 (fun _ h9 => h9) rfl dX8_ways_118 ?_
      refine lv_goto (tgt := 128) hx hb dX8_ways_121 (by decide) ?_
      cases h
      exact sh_rwi hx hb hr hlocks hQ hK hP hD hS dX8_ways_128
  · rw [if_pos g3] at h
    refine lv_bipush (v := -2) hx hb dX8_ways_15 (by decide) ?_
    cases h
    exact sh_rwi hx hb hr hlocks hQ hK hP hD hS dX8_ways_17
theorem hdV_X8_fades : yX8_fades.cls = RX8 ∧ yX8_fades.cls ≠ "java/lang/invoke/MethodHandle" ∧ yX8_fades.cls ≠ "java/lang/invoke/VarHandle" ∧ (parseMethodDescriptor yX8_fades.desc).map (fun d => d.parameters.length) = some 5 := by decide +kernel
abbrev rmX8_fades : Room := { frames := 4, cells := 0, slots := 0, locals := 107 }
set_option maxHeartbeats 4000000 in
set_option maxRecDepth 100000 in
theorem k_X8_fades (l : Launch) (D : va_G) (cI cJ cZ : ClassId) (sz : Nat) (q : Nat → Nat) (I : Nat → Int32) (S : Int64) (A : Nat → Nat → Int32) (x1 : Int32) (x2 : Int32) (x3 : Int32) (x4 : Int32) (x5 : Int32) (o : Int32) (oI : Nat → Int32) (oA : Nat → Nat → Int32) (h : fX8_fades I A x1 x2 x3 x4 x5 = some (o, oI, oA)) : Met l yX8_fades wsX8_fades rmX8_fades (sh_Pw D (sh_ty cI cJ cZ) sz (sh_w8 q cI cJ cZ I S A) [.ref (q 0), .int x1, .int x2, .int x3, .int x4, .int x5]) (sh_Qi D (sh_ty cI cJ cZ) (va_A (sh_w8 q cI cJ cZ I S A) sz) (sh_w8 q cI cJ cZ oI S oA) o) 0 0 (va_A (sh_w8 q cI cJ cZ I S A) sz) := by
  refine Met.ofW (cc := cX8_fades) (maxL := 11) (ret := (some .int)) (by decide) rfl ?_
  intro p e s m args below meth c s₁ hB hml hv
  obtain ⟨hargs, hsz, hP, hK, hD0⟩ := hv
  have hx := hB.exec
  have hb := hB.bytes
  have hr := hB.returns
  have hts := atoms_spec (ws := wsX8_fades) hB.pre
  have hown : s.vm.findClass RX8 = some m.cls := findClass_of_methodNamed hB.named
  have hlocks := hB.notSynchronized
  have hfix : CallFix p m c cX8_fades 11 s args wsX8_fades RX8 := ⟨hx, hb, hml, hown, hts⟩
  have hinX8 : ∀ w ∈ wsX80, w ∈ wsX8_fades := by decide +kernel
  have lk1 := hts (.fieldLink RX8 47 "ShadeTreeModel" "thrown" "I") (by decide +kernel)
  have lk2 := hts (.fieldLink RX8 16 "ShadeTreeModel" "page" "[I") (by decide +kernel)
  have lk3 := hts (.constantLong RX8 117 (9)) (by decide +kernel)
  have lk4 := hts (.constantLong RX8 181 (36)) (by decide +kernel)
  have lk5 := hts (.constantLong RX8 247 (10)) (by decide +kernel)
  have lk6 := hts (.fieldLink RX8 19 "ShadeTreeModel" "trial" "[I") (by decide +kernel)
  have lk7 := hts (.constantLong RX8 67 (-1)) (by decide +kernel)
  rw [show entryFrame m args 11 = entryFrame m ([.ref (q 0), .int x1, .int x2, .int x3, .int x4, .int x5] : List Value).toArray 11 by rw [hargs], lg_entry_eq]
  have hl := lv_entry ([.ref (q 0), .int x1, .int x2, .int x3, .int x4, .int x5]) (n := 11) (Nat.le_of_ble_eq_true rfl)
  generalize (lg_sl ([.ref (q 0), .int x1, .int x2, .int x3, .int x4, .int x5]) ++ List.replicate (11 - (lg_sl ([.ref (q 0), .int x1, .int x2, .int x3, .int x4, .int x5])).length) Slot.unset).toArray = ls at hl ⊢
  have hl : lv_has ls 11 [(0, .ref (q 0)), (1, .int x1), (2, .int x2), (3, .int x3), (4, .int x4), (5, .int x5)] := hl
  subst hsz
  have hD := hD0.self (sz := s.heap.size)
  generalize hAe : va_A (sh_w8 q cI cJ cZ I S A) s.heap.size = Az at hD ⊢
  have hA : ∀ q : Nat, s.heap.size ≤ q → Az q := fun q h => by rw [← hAe]; exact Or.inr h
  have hS : va_S Az s.heap s.heap [] := va_S.rf
  generalize hQ : MQ below (sh_Qi D (sh_ty cI cJ cZ) Az (sh_w8 q cI cJ cZ oI S oA) o) args s 0 0 Az = Q
  unfold fX8_fades at h
  refine lv_aload_n hx hb dX8_fades_0 rfl (lv_at hl 0 rfl) ?_
  refine lv_iconst (v := 0) hx hb dX8_fades_1 (by decide) ?_
  refine sh_put (wn := (sh_w8 q cI cJ cZ (upd I 0 0) S A)) (ci := 8) (v := .int 0) (ty := .int) (C := RX8) (T := TX8) (N := 21) hx hb hts hinX8 tyX8 tyX8_ok nmX8 hown hK hP hD hS 0 rfl rfl 0 (by decide) lk1 (fun _ h9 => h9) rfl (by decide +kernel) rfl rfl (Nat.le_of_ble_eq_true rfl) rfl dX8_fades_2 (fun H locs hP hD hS => ?_)
  refine lv_aload_n hx hb dX8_fades_5 rfl (lv_at hl 0 rfl) ?_
  refine va_get (ci := 8) (v := .ref (q 3)) (C := RX8) (T := TX8) (N := 21) hx hb hts hinX8 hown hK hP 0 rfl rfl 4 (by decide) lk2 (fun _ h9 => h9) rfl dX8_fades_6 ?_
  refine lv_iconst (v := 1) hx hb dX8_fades_9 (by decide) ?_
  refine sh_iald (v := ((A 2) 1)) hx hb hK hP 3 0 rfl rfl ⟨by unfold vp_in; decide, rfl⟩ dX8_fades_10 ?_
  refine lv_istore (lv' := [(6, .int ((A 2) 1)), (0, .ref (q 0)), (1, .int x1), (2, .int x2), (3, .int x3), (4, .int x4), (5, .int x5)]) hx hb dX8_fades_11 hl (by decide) rfl (fun ls hl => ?_)
  refine lv_iload_n hx hb dX8_fades_13 rfl (lv_at hl 2 rfl) ?_
  refine lv_i2l (v := (Int32.toInt64 x1)) hx hb dX8_fades_14 rfl ?_
  refine lv_lconst (v := 0) hx hb dX8_fades_15 (by decide) ?_
  refine lv_aload_n hx hb dX8_fades_16 rfl (lv_at hl 1 rfl) ?_
  refine va_get (ci := 8) (v := .ref (q 3)) (C := RX8) (T := TX8) (N := 21) hx hb hts hinX8 hown hK hP 0 rfl rfl 4 (by decide) lk2 (fun _ h9 => h9) rfl dX8_fades_17 ?_
  refine lv_iconst (v := 2) hx hb dX8_fades_20 (by decide) ?_
  refine sh_iald (v := ((A 2) 2)) hx hb hK hP 3 0 rfl rfl ⟨by unfold vp_in; decide, rfl⟩ dX8_fades_21 ?_
  refine lv_iconst (v := 1) hx hb dX8_fades_22 (by decide) ?_
  refine lv_isub hx hb dX8_fades_23 ?_
  refine lv_i2l (v := (Int32.toInt64 (((A 2) 2) - 1))) hx hb dX8_fades_24 rfl ?_
  obtain ⟨v1, hc2, h⟩ := sh_b1_e h
  refine sh_cSi (As := [.long (Int32.toInt64 x1), .long 0, .long (Int32.toInt64 (((A 2) 2) - 1))]) (rest := []) hfix (k_X8_in l D cI cJ cZ (Int32.toInt64 x1) 0 (Int32.toInt64 (((A 2) 2) - 1)) v1 hc2) (va_cwS 3 hts gX8_fades_X8_in rfl rfl rfl hdS_X8_in ⟨Nat.le_of_ble_eq_true rfl, Nat.le_of_ble_eq_true rfl⟩) hP hK [] rfl rfl hl.1 rfl (Nat.le_of_ble_eq_true rfl) dX8_fades_25 ⟨Nat.zero_le _, Nat.zero_le _⟩ ?_
  refine lv_if_ne (tgt := 33) hx hb dX8_fades_28 (by decide) (fun g3 => ?_) (fun g3 => ?_)
  · rw [if_neg g3] at h
    refine lv_iload_n hx hb dX8_fades_33 rfl (lv_at hl 3 rfl) ?_
    refine lv_i2l (v := (Int32.toInt64 x2)) hx hb dX8_fades_34 rfl ?_
    refine lv_lconst (v := 1) hx hb dX8_fades_35 (by decide) ?_
    refine lv_ldc2 hx hb hown lk3 dX8_fades_36 ?_
    obtain ⟨v4, hc5, h⟩ := sh_b1_e h
    refine sh_cSi (As := [.long (Int32.toInt64 x2), .long 1, .long 9]) (rest := []) hfix (k_X8_in l D cI cJ cZ (Int32.toInt64 x2) 1 9 v4 hc5) (va_cwS 3 hts gX8_fades_X8_in rfl rfl rfl hdS_X8_in ⟨Nat.le_of_ble_eq_true rfl, Nat.le_of_ble_eq_true rfl⟩) hP hK [] rfl rfl hl.1 rfl (Nat.le_of_ble_eq_true rfl) dX8_fades_39 ⟨Nat.zero_le _, Nat.zero_le _⟩ ?_
    refine lv_if_eq (tgt := 70) hx hb dX8_fades_42 (by decide) (fun g6 => ?_) (fun g6 => ?_)
    · rw [if_pos g6] at h
      refine lv_bipush (v := -2) hx hb dX8_fades_70 (by decide) ?_
      cases h
      exact sh_rwi hx hb hr hlocks hQ hK hP hD hS dX8_fades_72
    · rw [if_neg g6] at h
      refine lv_iload_n hx hb dX8_fades_45 rfl (lv_at hl 4 rfl) ?_
      refine lv_i2l (v := (Int32.toInt64 x3)) hx hb dX8_fades_46 rfl ?_
      refine lv_lconst (v := 0) hx hb dX8_fades_47 (by decide) ?_
      refine lv_ldc2 hx hb hown lk4 dX8_fades_48 ?_
      obtain ⟨v7, hc8, h⟩ := sh_b1_e h
      refine sh_cSi (As := [.long (Int32.toInt64 x3), .long 0, .long 36]) (rest := []) hfix (k_X8_in l D cI cJ cZ (Int32.toInt64 x3) 0 36 v7 hc8) (va_cwS 3 hts gX8_fades_X8_in rfl rfl rfl hdS_X8_in ⟨Nat.le_of_ble_eq_true rfl, Nat.le_of_ble_eq_true rfl⟩) hP hK [] rfl rfl hl.1 rfl (Nat.le_of_ble_eq_true rfl) dX8_fades_51 ⟨Nat.zero_le _, Nat.zero_le _⟩ ?_
      refine lv_if_eq (tgt := 70) hx hb dX8_fades_54 (by decide) (fun g9 => ?_) (fun g9 => ?_)
      · rw [if_pos g9] at h
        refine lv_bipush (v := -2) hx hb dX8_fades_70 (by decide) ?_
        cases h
        exact sh_rwi hx hb hr hlocks hQ hK hP hD hS dX8_fades_72
      · rw [if_neg g9] at h
        refine lv_iload hx hb dX8_fades_57 (lv_at hl 5 rfl) ?_
        refine lv_i2l (v := (Int32.toInt64 x4)) hx hb dX8_fades_59 rfl ?_
        refine lv_lconst (v := 0) hx hb dX8_fades_60 (by decide) ?_
        refine lv_ldc2 hx hb hown lk5 dX8_fades_61 ?_
        obtain ⟨v10, hc11, h⟩ := sh_b1_e h
        refine sh_cSi (As := [.long (Int32.toInt64 x4), .long 0, .long 10]) (rest := []) hfix (k_X8_in l D cI cJ cZ (Int32.toInt64 x4) 0 10 v10 hc11) (va_cwS 3 hts gX8_fades_X8_in rfl rfl rfl hdS_X8_in ⟨Nat.le_of_ble_eq_true rfl, Nat.le_of_ble_eq_true rfl⟩) hP hK [] rfl rfl hl.1 rfl (Nat.le_of_ble_eq_true rfl) dX8_fades_64 ⟨Nat.zero_le _, Nat.zero_le _⟩ ?_
        refine lv_if_ne (tgt := 73) hx hb dX8_fades_67 (by decide) (fun g12 => ?_) (fun g12 => ?_)
        · rw [if_neg g12] at h
          refine lv_iconst (v := 0) hx hb dX8_fades_73 (by decide) ?_
          refine lv_istore (lv' := [(7, .int 0), (6, .int ((A 2) 1)), (0, .ref (q 0)), (1, .int x1), (2, .int x2), (3, .int x3), (4, .int x4), (5, .int x5)]) hx hb dX8_fades_74 hl (by decide) rfl (fun ls hl => ?_)
          refine lv_iconst (v := 0) hx hb dX8_fades_76 (by decide) ?_
          refine lv_istore (lv' := [(8, .int 0), (7, .int 0), (6, .int ((A 2) 1)), (0, .ref (q 0)), (1, .int x1), (2, .int x2), (3, .int x3), (4, .int x4), (5, .int x5)]) hx hb dX8_fades_77 hl (by decide) rfl (fun ls hl => ?_)
          have LP35 : ∀ (n : Nat) (x1 : Int32) (x2 : Int32) (x3 : Int32) (x4 : Int32) (x5 : Int32) (x6 : Int32) (x7 : Int32) (x8 : Int32) (A : Nat → Nat → Int32) (ow7 : Int32) (oA : (Nat → Nat → Int32)) (H : Heap) (locs : List Loc) (ls : Array Slot), fX8_fades_L79 n x1 x2 x3 x4 x5 x6 x7 x8 A = some (ow7, oA) → lv_has ls 11 [(0, .ref (q 0)), (1, .int x1), (2, .int x2), (3, .int x3), (4, .int x4), (5, .int x5), (6, .int x6), (7, .int x7), (8, .int x8)] → va_P D vwCl (sh_w8 q cI cJ cZ (upd I 0 0) S A) H → va_D Az (sh_w8 q cI cJ cZ (upd I 0 0) S A) → va_S Az s.heap H locs → (∀ (H : Heap) (locs : List Loc) (ls : Array Slot), lv_has ls 11 [(5, .int x5), (6, .int x6), (7, .int ow7)] → va_P D vwCl (sh_w8 q cI cJ cZ (upd I 0 0) S oA) H → va_D Az (sh_w8 q cI cJ cZ (upd I 0 0) S oA) → va_S Az s.heap H locs → W p l e (headSpec wsX8_fades rmX8_fades).room s m args below meth c H locs 0 0 Q (F0 m 207 ls [])) → W p l e (headSpec wsX8_fades rmX8_fades).room s m args below meth c H locs 0 0 Q (F0 m 79 ls []) := by
            intro n
            induction n with
            | zero =>
              intro x1 x2 x3 x4 x5 x6 x7 x8 A ow7 oA H locs ls h hl hP hD hS hk
              exact nomatch ((fX8_fades_L79_z x1 x2 x3 x4 x5 x6 x7 x8 A).symm.trans h)
            | succ n ih =>
              intro x1 x2 x3 x4 x5 x6 x7 x8 A ow7 oA H locs ls h hl hP hD hS hk
              rw [fX8_fades_L79_s] at h
              refine lv_iload hx hb dX8_fades_79 (lv_at hl 8 rfl) ?_
              refine lv_iconst (v := 1) hx hb dX8_fades_81 (by decide) ?_
              refine lv_iload hx hb dX8_fades_82 (lv_at hl 6 rfl) ?_
              refine lv_ishl hx hb dX8_fades_84 ?_
              refine lv_icmp_ge (tgt := 207) hx hb dX8_fades_85 (by decide) (fun g13 => ?_) (fun g13 => ?_)
              · rw [if_pos g13] at h
                cases h
                exact hk _ _ ls (lv_sub hl [5, 6, 7] rfl) hP hD hS
              · rw [if_neg g13] at h
                refine lv_aload_n hx hb dX8_fades_88 rfl (lv_at hl 0 rfl) ?_
                obtain ⟨u14, hc15, h⟩ := sh_b1_e h
                refine sh_wVv (wn := (sh_w8 q cI cJ cZ (upd I 0 0) S u14)) (As := []) (rest := []) hfix (k_X8_begin l D cI cJ cZ _ q (upd I 0 0) S A u14 hc15) (cwV 0 hts gX8_fades_X8_begin rfl rfl rfl hdV_X8_begin ⟨Nat.le_of_ble_eq_true rfl, Nat.le_of_ble_eq_true rfl⟩) hP hK hD hS hA [0, 1, 2, 3, 4, 5, 6, 7, 8, 9, 10, 11, 12] [] [0, 1, 2, 3, 4, 5, 6, 7, 8, 9, 10, 11, 12] rfl rfl rfl rfl rfl rfl rfl 0 rfl rfl rfl hl.1 rfl (Nat.le_of_ble_eq_true rfl) dX8_fades_89 ⟨Nat.zero_le _, Nat.zero_le _⟩ (fun H locs hP hD hS => ?_)
                refine lv_iconst (v := 0) hx hb dX8_fades_92 (by decide) ?_
                refine lv_istore (lv' := [(9, .int 0), (0, .ref (q 0)), (1, .int x1), (2, .int x2), (3, .int x3), (4, .int x4), (5, .int x5), (6, .int x6), (7, .int x7), (8, .int x8)]) hx hb dX8_fades_93 hl (by decide) rfl (fun ls hl => ?_)
                have LP23 : ∀ (n : Nat) (x1 : Int32) (x2 : Int32) (x3 : Int32) (x4 : Int32) (x5 : Int32) (x6 : Int32) (x7 : Int32) (x8 : Int32) (x9 : Int32) (A : Nat → Nat → Int32) (oA : (Nat → Nat → Int32)) (H : Heap) (locs : List Loc) (ls : Array Slot), fX8_fades_L95 n x1 x2 x3 x4 x5 x6 x7 x8 x9 A = some oA → lv_has ls 11 [(0, .ref (q 0)), (1, .int x1), (2, .int x2), (3, .int x3), (4, .int x4), (5, .int x5), (6, .int x6), (7, .int x7), (8, .int x8), (9, .int x9)] → va_P D vwCl (sh_w8 q cI cJ cZ (upd I 0 0) S A) H → va_D Az (sh_w8 q cI cJ cZ (upd I 0 0) S A) → va_S Az s.heap H locs → (∀ (H : Heap) (locs : List Loc) (ls : Array Slot), lv_has ls 11 [(0, .ref (q 0)), (1, .int x1), (2, .int x2), (3, .int x3), (4, .int x4), (5, .int x5), (6, .int x6), (7, .int x7), (8, .int x8)] → va_P D vwCl (sh_w8 q cI cJ cZ (upd I 0 0) S oA) H → va_D Az (sh_w8 q cI cJ cZ (upd I 0 0) S oA) → va_S Az s.heap H locs → W p l e (headSpec wsX8_fades rmX8_fades).room s m args below meth c H locs 0 0 Q (F0 m 148 ls [])) → W p l e (headSpec wsX8_fades rmX8_fades).room s m args below meth c H locs 0 0 Q (F0 m 95 ls []) := by
                  intro n
                  induction n with
                  | zero =>
                    intro x1 x2 x3 x4 x5 x6 x7 x8 x9 A oA H locs ls h hl hP hD hS hk
                    exact nomatch ((fX8_fades_L95_z x1 x2 x3 x4 x5 x6 x7 x8 x9 A).symm.trans h)
                  | succ n ih =>
                    intro x1 x2 x3 x4 x5 x6 x7 x8 x9 A oA H locs ls h hl hP hD hS hk
                    rw [fX8_fades_L95_s] at h
                    refine lv_iload hx hb dX8_fades_95 (lv_at hl 9 rfl) ?_
                    refine lv_iload hx hb dX8_fades_97 (lv_at hl 6 rfl) ?_
                    refine lv_icmp_ge (tgt := 148) hx hb dX8_fades_99 (by decide) (fun g16 => ?_) (fun g16 => ?_)
                    · rw [if_pos g16] at h
                      cases h
                      exact hk _ _ ls (lv_sub hl [0, 1, 2, 3, 4, 5, 6, 7, 8] rfl) hP hD hS
                    · rw [if_neg g16] at h
                      refine lv_iconst (v := 3) hx hb dX8_fades_102 (by decide) ?_
                      refine lv_iload hx hb dX8_fades_103 (lv_at hl 6 rfl) ?_
                      refine lv_iload_n hx hb dX8_fades_105 rfl (lv_at hl 1 rfl) ?_
                      refine lv_imul hx hb dX8_fades_106 ?_
                      refine lv_iadd hx hb dX8_fades_107 ?_
                      refine lv_iload hx hb dX8_fades_108 (lv_at hl 9 rfl) ?_
                      refine lv_iadd hx hb dX8_fades_110 ?_
                      refine lv_istore (lv' := [(10, .int ((3 + (x6 * x1)) + x9)), (0, .ref (q 0)), (1, .int x1), (2, .int x2), (3, .int x3), (4, .int x4), (5, .int x5), (6, .int x6), (7, .int x7), (8, .int x8), (9, .int x9)]) hx hb dX8_fades_111 hl (by decide) rfl (fun ls hl => ?_)
                      refine lv_aload_n hx hb dX8_fades_113 rfl (lv_at hl 1 rfl) ?_
                      refine va_get (ci := 8) (v := .ref (q 4)) (C := RX8) (T := TX8) (N := 21) hx hb hts hinX8 hown hK hP 0 rfl rfl 5 (by decide) lk6 (fun _ h9 => h9) rfl dX8_fades_114 ?_
                      refine lv_iload hx hb dX8_fades_117 (lv_at hl 0 rfl) ?_
                      refine lv_iload hx hb dX8_fades_119 (lv_at hl 9 rfl) ?_
                      refine lv_i2l (v := (Int32.toInt64 x8)) hx hb dX8_fades_121 rfl ?_
                      refine lv_iload hx hb dX8_fades_122 (lv_at hl 10 rfl) ?_
                      obtain ⟨v17, hc18, h⟩ := sh_b1_e h
                      refine sh_cSi (As := [.long (Int32.toInt64 x8), .int x9]) (rest := [.int ((3 + (x6 * x1)) + x9), .ref (q 4)]) hfix (k_X8_has l D cI cJ cZ (Int32.toInt64 x8) x9 v17 hc18) (va_cwS 2 hts gX8_fades_X8_has rfl rfl rfl hdS_X8_has ⟨Nat.le_of_ble_eq_true rfl, Nat.le_of_ble_eq_true rfl⟩) hP hK [] rfl rfl hl.1 rfl (Nat.le_of_ble_eq_true rfl) dX8_fades_124 ⟨Nat.zero_le _, Nat.zero_le _⟩ ?_
                      refine lv_if_eq (tgt := 134) hx hb dX8_fades_127 (by decide) (fun g19 => ?_) (fun g19 => ?_)
                      · rw [if_pos g19] at h
                        refine lv_aload_n hx hb dX8_fades_134 rfl (lv_at hl 1 rfl) ?_
                        refine va_get (ci := 8) (v := .ref (q 4)) (C := RX8) (T := TX8) (N := 21) hx hb hts hinX8 hown hK hP 0 rfl rfl 5 (by decide) lk6 (fun _ h9 => h9) rfl dX8_fades_135 ?_
                        refine lv_iload hx hb dX8_fades_138 (lv_at hl 0 rfl) ?_
                        obtain ⟨v20, hcv20, h⟩ := sh_b1_e h
                        refine sh_iald hx hb hK hP 4 0 rfl rfl (sh_ald_e hcv20) dX8_fades_140 ?_
                        obtain ⟨f21, hcf21, h⟩ := sh_b1_e h
                        refine sh_iast (wn := (sh_w8 q cI cJ cZ (upd I 0 0) S (va_up A 3 f21))) hx hb hK hP hD hS 4 0 rfl rfl (sh_ast_e hcf21) rfl dX8_fades_141 (fun H locs hP hD hS => ?_)
                        refine lv_iinc (v := (x9 + 1)) (lv' := [(9, .int (x9 + 1)), (10, .int ((3 + (x6 * x1)) + x9)), (0, .ref (q 0)), (1, .int x1), (2, .int x2), (3, .int x3), (4, .int x4), (5, .int x5), (6, .int x6), (7, .int x7), (8, .int x8)]) hx hb dX8_fades_142 hl (k := 10) rfl rfl (by decide) rfl (fun ls hl => ?_)
                        refine lv_goto (tgt := 95) hx hb dX8_fades_145 (by decide) ?_
                        exact ih x1 x2 x3 x4 x5 x6 x7 x8 (x9 + 1) (va_up A 3 f21) oA _ _ ls h (lv_sub hl [2, 3, 4, 5, 6, 7, 8, 9, 10, 0] rfl) hP hD hS hk
                      · rw [if_neg g19] at h
                        refine lv_iconst (v := 0) hx hb dX8_fades_130 (by decide) ?_
                        refine lv_goto (tgt := 141) hx hb dX8_fades_131 (by decide) ?_
                        obtain ⟨f22, hcf22, h⟩ := sh_b1_e h
                        refine sh_iast (wn := (sh_w8 q cI cJ cZ (upd I 0 0) S (va_up A 3 f22))) hx hb hK hP hD hS 4 0 rfl rfl (sh_ast_e hcf22) rfl dX8_fades_141 (fun H locs hP hD hS => ?_)
                        refine lv_iinc (v := (x9 + 1)) (lv' := [(9, .int (x9 + 1)), (10, .int ((3 + (x6 * x1)) + x9)), (0, .ref (q 0)), (1, .int x1), (2, .int x2), (3, .int x3), (4, .int x4), (5, .int x5), (6, .int x6), (7, .int x7), (8, .int x8)]) hx hb dX8_fades_142 hl (k := 10) rfl rfl (by decide) rfl (fun ls hl => ?_)
                        refine lv_goto (tgt := 95) hx hb dX8_fades_145 (by decide) ?_
                        exact ih x1 x2 x3 x4 x5 x6 x7 x8 (x9 + 1) (va_up A 3 f22) oA _ _ ls h (lv_sub hl [2, 3, 4, 5, 6, 7, 8, 9, 10, 0] rfl) hP hD hS hk
                obtain ⟨w24, hc34, h⟩ := sh_b1_e h
                refine LP23 sh_fu x1 x2 x3 x4 x5 x6 x7 x8 0 u14 w24 _ _ ls hc34 (lv_sub hl [1, 2, 3, 4, 5, 6, 7, 8, 9, 0] rfl) hP hD hS (fun H locs ls hl hP hD hS => ?_)
                refine lv_iload hx hb dX8_fades_148 (lv_at hl 8 rfl) ?_
                refine lv_i2l (v := (Int32.toInt64 x8)) hx hb dX8_fades_150 rfl ?_
                obtain ⟨v25, hc26, h⟩ := sh_b1_e h
                refine sh_cSi (As := [.long (Int32.toInt64 x8)]) (rest := []) hfix (k_X8_many l D cI cJ cZ (Int32.toInt64 x8) v25 hc26) (va_cwS 1 hts gX8_fades_X8_many rfl rfl rfl hdS_X8_many ⟨Nat.le_of_ble_eq_true rfl, Nat.le_of_ble_eq_true rfl⟩) hP hK [] rfl rfl hl.1 rfl (Nat.le_of_ble_eq_true rfl) dX8_fades_151 ⟨Nat.zero_le _, Nat.zero_le _⟩ ?_
                refine lv_istore (lv' := [(9, .int v25), (0, .ref (q 0)), (1, .int x1), (2, .int x2), (3, .int x3), (4, .int x4), (5, .int x5), (6, .int x6), (7, .int x7), (8, .int x8)]) hx hb dX8_fades_154 hl (by decide) rfl (fun ls hl => ?_)
                refine lv_iload hx hb dX8_fades_156 (lv_at hl 8 rfl) ?_
                refine lv_aload_n hx hb dX8_fades_158 rfl (lv_at hl 1 rfl) ?_
                refine va_get (ci := 8) (v := .ref (q 4)) (C := RX8) (T := TX8) (N := 21) hx hb hts hinX8 hown hK hP 0 rfl rfl 5 (by decide) lk6 (fun _ h9 => h9) rfl dX8_fades_159 ?_
                refine lv_iload_n hx hb dX8_fades_162 rfl (lv_at hl 3 rfl) ?_
                refine lv_ldc2 hx hb hown lk7 dX8_fades_163 ?_
                obtain ⟨v27, hc28, h⟩ := sh_b1_e h
                refine sh_cSi (As := [.ref (q 4), .int x2, .long (-1)]) (rest := [.int x7]) hfix (k_X8_partsOf l D cI cJ cZ (q 4) (w24 3) x2 (-1) v27 hc28) (va_cwS 3 hts gX8_fades_X8_partsOf rfl rfl rfl hdS_X8_partsOf ⟨Nat.le_of_ble_eq_true rfl, Nat.le_of_ble_eq_true rfl⟩) hP hK [4] rfl rfl hl.1 rfl (Nat.le_of_ble_eq_true rfl) dX8_fades_166 ⟨Nat.zero_le _, Nat.zero_le _⟩ ?_
                refine lv_iload_n hx hb dX8_fades_169 rfl (lv_at hl 4 rfl) ?_
                refine lv_icmp_lt (tgt := 197) hx hb dX8_fades_170 (by decide) (fun g29 => ?_) (fun g29 => ?_)
                · rw [if_pos g29] at h
                  refine lv_iconst (v := 0) hx hb dX8_fades_197 (by decide) ?_
                  refine lv_iadd hx hb dX8_fades_198 ?_
                  refine lv_istore (lv' := [(7, .int (x7 + 0)), (9, .int v25), (0, .ref (q 0)), (1, .int x1), (2, .int x2), (3, .int x3), (4, .int x4), (5, .int x5), (6, .int x6), (8, .int x8)]) hx hb dX8_fades_199 hl (by decide) rfl (fun ls hl => ?_)
                  refine lv_iinc (v := (x8 + 1)) (lv' := [(8, .int (x8 + 1)), (7, .int (x7 + 0)), (9, .int v25), (0, .ref (q 0)), (1, .int x1), (2, .int x2), (3, .int x3), (4, .int x4), (5, .int x5), (6, .int x6)]) hx hb dX8_fades_201 hl (k := 9) rfl rfl (by decide) rfl (fun ls hl => ?_)
                  refine lv_goto (tgt := 79) hx hb dX8_fades_204 (by decide) ?_
                  exact ih x1 x2 x3 x4 x5 x6 (x7 + 0) (x8 + 1) w24 ow7 oA _ _ ls h (lv_sub hl [3, 4, 5, 6, 7, 8, 9, 1, 0] rfl) hP hD hS hk
                · rw [if_neg g29] at h
                  refine lv_iload hx hb dX8_fades_173 (lv_at hl 5 rfl) ?_
                  refine lv_iload hx hb dX8_fades_175 (lv_at hl 0 rfl) ?_
                  obtain ⟨v30, hc31, h⟩ := sh_b1_e h
                  refine sh_cSi (As := [.int x4, .int v25]) (rest := [.int x7]) hfix (k_X8_power l D cI cJ cZ x4 v25 v30 hc31) (va_cwS 2 hts gX8_fades_X8_power rfl rfl rfl hdS_X8_power ⟨Nat.le_of_ble_eq_true rfl, Nat.le_of_ble_eq_true rfl⟩) hP hK [] rfl rfl hl.1 rfl (Nat.le_of_ble_eq_true rfl) dX8_fades_177 ⟨Nat.zero_le _, Nat.zero_le _⟩ ?_
                  refine lv_bipush (v := 10) hx hb dX8_fades_180 (by decide) ?_
                  refine lv_iload hx hb dX8_fades_182 (lv_at hl 5 rfl) ?_
                  refine lv_isub hx hb dX8_fades_184 ?_
                  refine lv_iload hx hb dX8_fades_185 (lv_at hl 7 rfl) ?_
                  refine lv_iload hx hb dX8_fades_187 (lv_at hl 0 rfl) ?_
                  refine lv_isub hx hb dX8_fades_189 ?_
                  obtain ⟨v32, hc33, h⟩ := sh_b1_e h
                  refine sh_cSi (As := [.int (10 - x4), .int (x6 - v25)]) (rest := [.int v30, .int x7]) hfix (k_X8_power l D cI cJ cZ (10 - x4) (x6 - v25) v32 hc33) (va_cwS 2 hts gX8_fades_X8_power rfl rfl rfl hdS_X8_power ⟨Nat.le_of_ble_eq_true rfl, Nat.le_of_ble_eq_true rfl⟩) hP hK [] rfl rfl hl.1 rfl (Nat.le_of_ble_eq_true rfl) dX8_fades_190 ⟨Nat.zero_le _, Nat.zero_le _⟩ ?_
                  refine lv_imul hx hb dX8_fades_193 ?_
                  refine lv_goto (tgt := 198) hx hb dX8_fades_194 (by decide) ?_
                  refine lv_iadd hx hb dX8_fades_198 ?_
                  refine lv_istore (lv' := [(7, .int (x7 + (v30 * v32))), (9, .int v25), (0, .ref (q 0)), (1, .int x1), (2, .int x2), (3, .int x3), (4, .int x4), (5, .int x5), (6, .int x6), (8, .int x8)]) hx hb dX8_fades_199 hl (by decide) rfl (fun ls hl => ?_)
                  refine lv_iinc (v := (x8 + 1)) (lv' := [(8, .int (x8 + 1)), (7, .int (x7 + (v30 * v32))), (9, .int v25), (0, .ref (q 0)), (1, .int x1), (2, .int x2), (3, .int x3), (4, .int x4), (5, .int x5), (6, .int x6)]) hx hb dX8_fades_201 hl (k := 9) rfl rfl (by decide) rfl (fun ls hl => ?_)
                  refine lv_goto (tgt := 79) hx hb dX8_fades_204 (by decide) ?_
                  exact ih x1 x2 x3 x4 x5 x6 (x7 + (v30 * v32)) (x8 + 1) w24 ow7 oA _ _ ls h (lv_sub hl [3, 4, 5, 6, 7, 8, 9, 1, 0] rfl) hP hD hS hk
          obtain ⟨w36, w37, hc42, h⟩ := sh_b2_e h
          refine LP35 sh_fu x1 x2 x3 x4 x5 ((A 2) 1) 0 0 A w36 w37 _ _ ls hc42 (lv_sub hl [3, 4, 5, 6, 7, 8, 2, 1, 0] rfl) hP hD hS (fun H locs ls hl hP hD hS => ?_)
          refine lv_iload hx hb dX8_fades_207 (lv_at hl 2 rfl) ?_
          refine lv_bipush (v := 10) hx hb dX8_fades_209 (by decide) ?_
          refine lv_iload hx hb dX8_fades_211 (lv_at hl 1 rfl) ?_
          obtain ⟨v38, hc39, h⟩ := sh_b1_e h
          refine sh_cSi (As := [.int 10, .int ((A 2) 1)]) (rest := [.int w36]) hfix (k_X8_power l D cI cJ cZ 10 ((A 2) 1) v38 hc39) (va_cwS 2 hts gX8_fades_X8_power rfl rfl rfl hdS_X8_power ⟨Nat.le_of_ble_eq_true rfl, Nat.le_of_ble_eq_true rfl⟩) hP hK [] rfl rfl hl.1 rfl (Nat.le_of_ble_eq_true rfl) dX8_fades_213 ⟨Nat.zero_le _, Nat.zero_le _⟩ ?_
          refine lv_iload hx hb dX8_fades_216 (lv_at hl 0 rfl) ?_
          obtain ⟨v40, hc41, h⟩ := sh_b1_e h
          refine sh_cSi (As := [.int w36, .int v38, .int x5]) (rest := []) hfix (k_X8_fraction l D cI cJ cZ w36 v38 x5 v40 hc41) (va_cwS 3 hts gX8_fades_X8_fraction rfl rfl rfl hdS_X8_fraction ⟨Nat.le_of_ble_eq_true rfl, Nat.le_of_ble_eq_true rfl⟩) hP hK [] rfl rfl hl.1 rfl (Nat.le_of_ble_eq_true rfl) dX8_fades_218 ⟨Nat.zero_le _, Nat.zero_le _⟩ ?_
          cases h
          exact sh_rwi hx hb hr hlocks hQ hK hP hD hS dX8_fades_221
        · rw [if_pos g12] at h
          refine lv_bipush (v := -2) hx hb dX8_fades_70 (by decide) ?_
          cases h
          exact sh_rwi hx hb hr hlocks hQ hK hP hD hS dX8_fades_72
  · rw [if_pos g3] at h
    refine lv_iconst (v := -1) hx hb dX8_fades_31 (by decide) ?_
    cases h
    exact sh_rwi hx hb hr hlocks hQ hK hP hD hS dX8_fades_32
theorem hdV_X8_seed : yX8_seed.cls = RX8 ∧ yX8_seed.cls ≠ "java/lang/invoke/MethodHandle" ∧ yX8_seed.cls ≠ "java/lang/invoke/VarHandle" ∧ (parseMethodDescriptor yX8_seed.desc).map (fun d => d.parameters.length) = some 1 := by decide +kernel
abbrev rmX8_seed : Room := { frames := 0, cells := 0, slots := 0, locals := 0 }
set_option maxHeartbeats 4000000 in
set_option maxRecDepth 100000 in
theorem k_X8_seed (l : Launch) (D : va_G) (cI cJ cZ : ClassId) (sz : Nat) (q : Nat → Nat) (I : Nat → Int32) (S : Int64) (A : Nat → Nat → Int32) (x1 : Int64) (o : Int64) (oI : Nat → Int32) (oS : Int64) (h : fX8_seed I S x1 = some (o, oI, oS)) : Met l yX8_seed wsX8_seed rmX8_seed (sh_Pw D (sh_ty cI cJ cZ) sz (sh_w8 q cI cJ cZ I S A) [.ref (q 0), .long x1]) (sh_Ql D (sh_ty cI cJ cZ) (va_A (sh_w8 q cI cJ cZ I S A) sz) (sh_w8 q cI cJ cZ oI oS A) o) 0 0 (va_A (sh_w8 q cI cJ cZ I S A) sz) := by
  refine Met.ofW (cc := cX8_seed) (maxL := 5) (ret := (some .long)) (by decide) rfl ?_
  intro p e s m args below meth c s₁ hB hml hv
  obtain ⟨hargs, hsz, hP, hK, hD0⟩ := hv
  have hx := hB.exec
  have hb := hB.bytes
  have hr := hB.returns
  have hts := atoms_spec (ws := wsX8_seed) hB.pre
  have hown : s.vm.findClass RX8 = some m.cls := findClass_of_methodNamed hB.named
  have hlocks := hB.notSynchronized
  have hfix : CallFix p m c cX8_seed 5 s args wsX8_seed RX8 := ⟨hx, hb, hml, hown, hts⟩
  have hinX8 : ∀ w ∈ wsX80, w ∈ wsX8_seed := by decide +kernel
  have lk1 := hts (.fieldLink RX8 47 "ShadeTreeModel" "thrown" "I") (by decide +kernel)
  have lk2 := hts (.fieldLink RX8 252 "ShadeTreeModel" "seed" "J") (by decide +kernel)
  rw [show entryFrame m args 5 = entryFrame m ([.ref (q 0), .long x1] : List Value).toArray 5 by rw [hargs], lg_entry_eq]
  have hl := lv_entry ([.ref (q 0), .long x1]) (n := 5) (Nat.le_of_ble_eq_true rfl)
  generalize (lg_sl ([.ref (q 0), .long x1]) ++ List.replicate (5 - (lg_sl ([.ref (q 0), .long x1])).length) Slot.unset).toArray = ls at hl ⊢
  have hl : lv_has ls 5 [(0, .ref (q 0)), (1, .long x1)] := hl
  subst hsz
  have hD := hD0.self (sz := s.heap.size)
  generalize hAe : va_A (sh_w8 q cI cJ cZ I S A) s.heap.size = Az at hD ⊢
  have hA : ∀ q : Nat, s.heap.size ≤ q → Az q := fun q h => by rw [← hAe]; exact Or.inr h
  have hS : va_S Az s.heap s.heap [] := va_S.rf
  generalize hQ : MQ below (sh_Ql D (sh_ty cI cJ cZ) Az (sh_w8 q cI cJ cZ oI oS A) o) args s 0 0 Az = Q
  unfold fX8_seed at h
  refine lv_aload_n hx hb dX8_seed_0 rfl (lv_at hl 0 rfl) ?_
  refine lv_iconst (v := 0) hx hb dX8_seed_1 (by decide) ?_
  refine sh_put (wn := (sh_w8 q cI cJ cZ (upd I 0 0) S A)) (ci := 8) (v := .int 0) (ty := .int) (C := RX8) (T := TX8) (N := 21) hx hb hts hinX8 tyX8 tyX8_ok nmX8 hown hK hP hD hS 0 rfl rfl 0 (by decide) lk1 (fun _ h9 => h9) rfl (by decide +kernel) rfl rfl (Nat.le_of_ble_eq_true rfl) rfl dX8_seed_2 (fun H locs hP hD hS => ?_)
  refine lv_aload_n hx hb dX8_seed_5 rfl (lv_at hl 0 rfl) ?_
  refine va_get (ci := 8) (v := .long S) (C := RX8) (T := TX8) (N := 21) hx hb hts hinX8 hown hK hP 0 rfl rfl 15 (by decide) lk2 (fun _ h9 => h9) rfl dX8_seed_6 ?_
  refine lv_lstore_n (lv' := [(3, .long S), (0, .ref (q 0)), (1, .long x1)]) hx hb dX8_seed_9 rfl hl (by decide) rfl (fun ls hl => ?_)
  refine lv_aload_n hx hb dX8_seed_10 rfl (lv_at hl 1 rfl) ?_
  refine lv_lload_n hx hb dX8_seed_11 rfl (lv_at hl 2 rfl) ?_
  refine sh_put (wn := (sh_w8 q cI cJ cZ (upd I 0 0) x1 A)) (ci := 8) (v := .long x1) (ty := .long) (C := RX8) (T := TX8) (N := 21) hx hb hts hinX8 tyX8 tyX8_ok nmX8 hown hK hP hD hS 0 rfl rfl 15 (by decide) lk2 (fun _ h9 => h9) rfl (by decide +kernel) rfl rfl (Nat.le_of_ble_eq_true rfl) rfl dX8_seed_12 (fun H locs hP hD hS => ?_)
  refine lv_lload_n hx hb dX8_seed_15 rfl (lv_at hl 0 rfl) ?_
  cases h
  exact sh_rwl hx hb hr hlocks hQ hK hP hD hS dX8_seed_16
theorem hdV_X8_goDraw : yX8_goDraw.cls = RX8 ∧ yX8_goDraw.cls ≠ "java/lang/invoke/MethodHandle" ∧ yX8_goDraw.cls ≠ "java/lang/invoke/VarHandle" ∧ (parseMethodDescriptor yX8_goDraw.desc).map (fun d => d.parameters.length) = some 2 := by decide +kernel
abbrev rmX8_goDraw : Room := { frames := 6, cells := 0, slots := 0, locals := 153 }
set_option maxHeartbeats 4000000 in
set_option maxRecDepth 100000 in
theorem k_X8_goDraw (l : Launch) (D : va_G) (cI cJ cZ : ClassId) (sz : Nat) (q : Nat → Nat) (I : Nat → Int32) (S : Int64) (A : Nat → Nat → Int32) (x1 : Int32) (x2 : Int32) (oA : Nat → Nat → Int32) (h : fX8_goDraw A x1 x2 = some oA) : Met l yX8_goDraw wsX8_goDraw rmX8_goDraw (sh_Pw D (sh_ty cI cJ cZ) sz (sh_w8 q cI cJ cZ I S A) [.ref (q 0), .int x1, .int x2]) (sh_Qv D (sh_ty cI cJ cZ) (va_A (sh_w8 q cI cJ cZ I S A) sz) (sh_w8 q cI cJ cZ I S oA)) 0 0 (va_A (sh_w8 q cI cJ cZ I S A) sz) := by
  refine Met.ofW (cc := cX8_goDraw) (maxL := 3) (ret := none) (by decide) rfl ?_
  intro p e s m args below meth c s₁ hB hml hv
  obtain ⟨hargs, hsz, hP, hK, hD0⟩ := hv
  have hx := hB.exec
  have hb := hB.bytes
  have hr := hB.returns
  have hts := atoms_spec (ws := wsX8_goDraw) hB.pre
  have hown : s.vm.findClass RX8 = some m.cls := findClass_of_methodNamed hB.named
  have hlocks := hB.notSynchronized
  have hfix : CallFix p m c cX8_goDraw 3 s args wsX8_goDraw RX8 := ⟨hx, hb, hml, hown, hts⟩
  have hinX8 : ∀ w ∈ wsX80, w ∈ wsX8_goDraw := by decide +kernel
  have lk1 := hts (.fieldLink RX8 19 "ShadeTreeModel" "trial" "[I") (by decide +kernel)
  rw [show entryFrame m args 3 = entryFrame m ([.ref (q 0), .int x1, .int x2] : List Value).toArray 3 by rw [hargs], lg_entry_eq]
  have hl := lv_entry ([.ref (q 0), .int x1, .int x2]) (n := 3) (Nat.le_of_ble_eq_true rfl)
  generalize (lg_sl ([.ref (q 0), .int x1, .int x2]) ++ List.replicate (3 - (lg_sl ([.ref (q 0), .int x1, .int x2])).length) Slot.unset).toArray = ls at hl ⊢
  have hl : lv_has ls 3 [(0, .ref (q 0)), (1, .int x1), (2, .int x2)] := hl
  subst hsz
  have hD := hD0.self (sz := s.heap.size)
  generalize hAe : va_A (sh_w8 q cI cJ cZ I S A) s.heap.size = Az at hD ⊢
  have hA : ∀ q : Nat, s.heap.size ≤ q → Az q := fun q h => by rw [← hAe]; exact Or.inr h
  have hS : va_S Az s.heap s.heap [] := va_S.rf
  generalize hQ : MQ below (sh_Qv D (sh_ty cI cJ cZ) Az (sh_w8 q cI cJ cZ I S oA)) args s 0 0 Az = Q
  unfold fX8_goDraw at h
  refine lv_iload_n hx hb dX8_goDraw_0 rfl (lv_at hl 2 rfl) ?_
  refine lv_bipush (v := 10) hx hb dX8_goDraw_1 (by decide) ?_
  refine lv_icmp_ge (tgt := 18) hx hb dX8_goDraw_3 (by decide) (fun g1 => ?_) (fun g1 => ?_)
  · rw [if_pos g1] at h
    refine lv_iload_n hx hb dX8_goDraw_18 rfl (lv_at hl 2 rfl) ?_
    refine lv_bipush (v := 10) hx hb dX8_goDraw_19 (by decide) ?_
    refine lv_icmp_ne (tgt := 34) hx hb dX8_goDraw_21 (by decide) (fun g2 => ?_) (fun g2 => ?_)
    · rw [if_neg g2] at h
      refine lv_aload_n hx hb dX8_goDraw_34 rfl (lv_at hl 0 rfl) ?_
      refine lv_aload_n hx hb dX8_goDraw_35 rfl (lv_at hl 0 rfl) ?_
      refine va_get (ci := 8) (v := .ref (q 4)) (C := RX8) (T := TX8) (N := 21) hx hb hts hinX8 hown hK hP 0 rfl rfl 5 (by decide) lk1 (fun _ h9 => h9) rfl dX8_goDraw_36 ?_
      refine lv_iconst (v := 0) hx hb dX8_goDraw_39 (by decide) ?_
      refine lv_iconst (v := 2) hx hb dX8_goDraw_40 (by decide) ?_
      obtain ⟨v3, u4, hc5, h⟩ := sh_b2_e h
      refine sh_wVi (wn := (sh_w8 q cI cJ cZ I S u4)) (As := [.ref (q 4), .int 0, .int 2]) (rest := []) hfix (k_X8_goSift_t l D cI cJ cZ _ q I S A 0 2 v3 u4 hc5) (cwV 3 hts gX8_goDraw_X8_goSift rfl rfl rfl hdV_X8_goSift_t ⟨Nat.le_of_ble_eq_true rfl, Nat.le_of_ble_eq_true rfl⟩) hP hK hD hS hA [0, 1, 2, 3, 4, 5, 6, 7, 8, 9, 10, 11, 12] [] [0, 1, 2, 3, 4, 5, 6, 7, 8, 9, 10, 11, 12] rfl rfl rfl rfl rfl rfl rfl 0 rfl rfl rfl hl.1 rfl (Nat.le_of_ble_eq_true rfl) dX8_goDraw_41 ⟨Nat.zero_le _, Nat.zero_le _⟩ (fun H locs hP hD hS => ?_)
      refine lv_pop hx hb dX8_goDraw_44 rfl ?_
      cases h
      exact sh_rwv hx hb hr hlocks hQ hK hP hD hS dX8_goDraw_45
    · rw [if_pos g2] at h
      refine lv_aload_n hx hb dX8_goDraw_24 rfl (lv_at hl 0 rfl) ?_
      refine va_get (ci := 8) (v := .ref (q 4)) (C := RX8) (T := TX8) (N := 21) hx hb hts hinX8 hown hK hP 0 rfl rfl 5 (by decide) lk1 (fun _ h9 => h9) rfl dX8_goDraw_25 ?_
      obtain ⟨u6, hc7, h⟩ := sh_b1_e h
      refine sh_wSv (wn := (sh_w8 q cI cJ cZ I S (va_up A 3 u6))) (As := [.ref (q 4)]) (rest := []) hfix (k_X8_goNegative l D cI cJ cZ _ (q 4) (A 3) u6 hc7) (va_cwS 1 hts gX8_goDraw_X8_goNegative rfl rfl rfl hdS_X8_goNegative ⟨Nat.le_of_ble_eq_true rfl, Nat.le_of_ble_eq_true rfl⟩) hP hK hD hS hA [4] [0, 1, 2, 3, 5, 6, 7, 8, 9, 10, 11, 12] [0, 1, 2, 3, 12, 4, 5, 6, 7, 8, 9, 10, 11] rfl rfl rfl rfl rfl rfl rfl rfl hl.1 rfl (Nat.le_of_ble_eq_true rfl) dX8_goDraw_28 ⟨Nat.zero_le _, Nat.zero_le _⟩ (fun H locs hP hD hS => ?_)
      refine lv_goto (tgt := 45) hx hb dX8_goDraw_31 (by decide) ?_
      cases h
      exact sh_rwv hx hb hr hlocks hQ hK hP hD hS dX8_goDraw_45
  · rw [if_neg g1] at h
    refine lv_aload_n hx hb dX8_goDraw_6 rfl (lv_at hl 0 rfl) ?_
    refine va_get (ci := 8) (v := .ref (q 4)) (C := RX8) (T := TX8) (N := 21) hx hb hts hinX8 hown hK hP 0 rfl rfl 5 (by decide) lk1 (fun _ h9 => h9) rfl dX8_goDraw_7 ?_
    refine lv_iconst (v := 3) hx hb dX8_goDraw_10 (by decide) ?_
    refine lv_iload_n hx hb dX8_goDraw_11 rfl (lv_at hl 1 rfl) ?_
    refine lv_iadd hx hb dX8_goDraw_12 ?_
    refine lv_iload_n hx hb dX8_goDraw_13 rfl (lv_at hl 2 rfl) ?_
    obtain ⟨f8, hcf8, h⟩ := sh_b1_e h
    refine sh_iast (wn := (sh_w8 q cI cJ cZ I S (va_up A 3 f8))) hx hb hK hP hD hS 4 0 rfl rfl (sh_ast_e hcf8) rfl dX8_goDraw_14 (fun H locs hP hD hS => ?_)
    refine lv_goto (tgt := 45) hx hb dX8_goDraw_15 (by decide) ?_
    cases h
    exact sh_rwv hx hb hr hlocks hQ hK hP hD hS dX8_goDraw_45
theorem hdV_X8_drawn : yX8_drawn.cls = RX8 ∧ yX8_drawn.cls ≠ "java/lang/invoke/MethodHandle" ∧ yX8_drawn.cls ≠ "java/lang/invoke/VarHandle" ∧ (parseMethodDescriptor yX8_drawn.desc).map (fun d => d.parameters.length) = some 1 := by decide +kernel
abbrev rmX8_drawn : Room := { frames := 7, cells := 0, slots := 0, locals := 175 }
set_option maxHeartbeats 4000000 in
set_option maxRecDepth 100000 in
theorem k_X8_drawn (l : Launch) (D : va_G) (cI cJ cZ : ClassId) (sz : Nat) (q : Nat → Nat) (I : Nat → Int32) (S : Int64) (A : Nat → Nat → Int32) (x1 : Int32) (o : Int32) (oI : Nat → Int32) (oS : Int64) (oA : Nat → Nat → Int32) (h : fX8_drawn I S A x1 = some (o, oI, oS, oA)) : Met l yX8_drawn wsX8_drawn rmX8_drawn (sh_Pw D (sh_ty cI cJ cZ) sz (sh_w8 q cI cJ cZ I S A) [.ref (q 0), .int x1]) (sh_Qi D (sh_ty cI cJ cZ) (va_A (sh_w8 q cI cJ cZ I S A) sz) (sh_w8 q cI cJ cZ oI oS oA) o) 0 0 (va_A (sh_w8 q cI cJ cZ I S A) sz) := by
  refine Met.ofW (cc := cX8_drawn) (maxL := 5) (ret := (some .int)) (by decide) rfl ?_
  intro p e s m args below meth c s₁ hB hml hv
  obtain ⟨hargs, hsz, hP, hK, hD0⟩ := hv
  have hx := hB.exec
  have hb := hB.bytes
  have hr := hB.returns
  have hts := atoms_spec (ws := wsX8_drawn) hB.pre
  have hown : s.vm.findClass RX8 = some m.cls := findClass_of_methodNamed hB.named
  have hlocks := hB.notSynchronized
  have hfix : CallFix p m c cX8_drawn 5 s args wsX8_drawn RX8 := ⟨hx, hb, hml, hown, hts⟩
  have hinX8 : ∀ w ∈ wsX80, w ∈ wsX8_drawn := by decide +kernel
  have lk1 := hts (.fieldLink RX8 47 "ShadeTreeModel" "thrown" "I") (by decide +kernel)
  have lk2 := hts (.constantLong RX8 256 (20)) (by decide +kernel)
  have lk3 := hts (.fieldLink RX8 252 "ShadeTreeModel" "seed" "J") (by decide +kernel)
  have lk4 := hts (.constantLong RX8 258 (6364136223846793005)) (by decide +kernel)
  have lk5 := hts (.constantLong RX8 260 (1442695040888963407)) (by decide +kernel)
  have lk6 := hts (.fieldLink RX8 19 "ShadeTreeModel" "trial" "[I") (by decide +kernel)
  rw [show entryFrame m args 5 = entryFrame m ([.ref (q 0), .int x1] : List Value).toArray 5 by rw [hargs], lg_entry_eq]
  have hl := lv_entry ([.ref (q 0), .int x1]) (n := 5) (Nat.le_of_ble_eq_true rfl)
  generalize (lg_sl ([.ref (q 0), .int x1]) ++ List.replicate (5 - (lg_sl ([.ref (q 0), .int x1])).length) Slot.unset).toArray = ls at hl ⊢
  have hl : lv_has ls 5 [(0, .ref (q 0)), (1, .int x1)] := hl
  subst hsz
  have hD := hD0.self (sz := s.heap.size)
  generalize hAe : va_A (sh_w8 q cI cJ cZ I S A) s.heap.size = Az at hD ⊢
  have hA : ∀ q : Nat, s.heap.size ≤ q → Az q := fun q h => by rw [← hAe]; exact Or.inr h
  have hS : va_S Az s.heap s.heap [] := va_S.rf
  generalize hQ : MQ below (sh_Qi D (sh_ty cI cJ cZ) Az (sh_w8 q cI cJ cZ oI oS oA) o) args s 0 0 Az = Q
  unfold fX8_drawn at h
  refine lv_aload_n hx hb dX8_drawn_0 rfl (lv_at hl 0 rfl) ?_
  refine lv_iconst (v := 0) hx hb dX8_drawn_1 (by decide) ?_
  refine sh_put (wn := (sh_w8 q cI cJ cZ (upd I 0 0) S A)) (ci := 8) (v := .int 0) (ty := .int) (C := RX8) (T := TX8) (N := 21) hx hb hts hinX8 tyX8 tyX8_ok nmX8 hown hK hP hD hS 0 rfl rfl 0 (by decide) lk1 (fun _ h9 => h9) rfl (by decide +kernel) rfl rfl (Nat.le_of_ble_eq_true rfl) rfl dX8_drawn_2 (fun H locs hP hD hS => ?_)
  refine lv_iload_n hx hb dX8_drawn_5 rfl (lv_at hl 1 rfl) ?_
  refine lv_i2l (v := (Int32.toInt64 x1)) hx hb dX8_drawn_6 rfl ?_
  refine lv_lconst (v := 1) hx hb dX8_drawn_7 (by decide) ?_
  refine lv_ldc2 hx hb hown lk2 dX8_drawn_8 ?_
  obtain ⟨v1, hc2, h⟩ := sh_b1_e h
  refine sh_cSi (As := [.long (Int32.toInt64 x1), .long 1, .long 20]) (rest := []) hfix (k_X8_in l D cI cJ cZ (Int32.toInt64 x1) 1 20 v1 hc2) (va_cwS 3 hts gX8_drawn_X8_in rfl rfl rfl hdS_X8_in ⟨Nat.le_of_ble_eq_true rfl, Nat.le_of_ble_eq_true rfl⟩) hP hK [] rfl rfl hl.1 rfl (Nat.le_of_ble_eq_true rfl) dX8_drawn_11 ⟨Nat.zero_le _, Nat.zero_le _⟩ ?_
  refine lv_if_ne (tgt := 20) hx hb dX8_drawn_14 (by decide) (fun g3 => ?_) (fun g3 => ?_)
  · rw [if_neg g3] at h
    refine lv_aload_n hx hb dX8_drawn_20 rfl (lv_at hl 0 rfl) ?_
    obtain ⟨u4, hc5, h⟩ := sh_b1_e h
    refine sh_wVv (wn := (sh_w8 q cI cJ cZ (upd I 0 0) S u4)) (As := []) (rest := []) hfix (k_X8_begin l D cI cJ cZ _ q (upd I 0 0) S A u4 hc5) (cwV 0 hts gX8_drawn_X8_begin rfl rfl rfl hdV_X8_begin ⟨Nat.le_of_ble_eq_true rfl, Nat.le_of_ble_eq_true rfl⟩) hP hK hD hS hA [0, 1, 2, 3, 4, 5, 6, 7, 8, 9, 10, 11, 12] [] [0, 1, 2, 3, 4, 5, 6, 7, 8, 9, 10, 11, 12] rfl rfl rfl rfl rfl rfl rfl 0 rfl rfl rfl hl.1 rfl (Nat.le_of_ble_eq_true rfl) dX8_drawn_21 ⟨Nat.zero_le _, Nat.zero_le _⟩ (fun H locs hP hD hS => ?_)
    refine lv_iconst (v := 0) hx hb dX8_drawn_24 (by decide) ?_
    refine lv_istore_n (lv' := [(2, .int 0), (0, .ref (q 0)), (1, .int x1)]) hx hb dX8_drawn_25 rfl hl (by decide) rfl (fun ls hl => ?_)
    refine lv_iconst (v := 0) hx hb dX8_drawn_26 (by decide) ?_
    refine lv_istore_n (lv' := [(3, .int 0), (2, .int 0), (0, .ref (q 0)), (1, .int x1)]) hx hb dX8_drawn_27 rfl hl (by decide) rfl (fun ls hl => ?_)
    have LP15 : ∀ (n : Nat) (x1 : Int32) (x2 : Int32) (x3 : Int32) (S : Int64) (A : Nat → Nat → Int32) (ow2 : Int32) (oS : (Int64)) (oA : (Nat → Nat → Int32)) (H : Heap) (locs : List Loc) (ls : Array Slot), fX8_drawn_L28 n x1 x2 x3 S A = some (ow2, oS, oA) → lv_has ls 5 [(0, .ref (q 0)), (1, .int x1), (2, .int x2), (3, .int x3)] → va_P D vwCl (sh_w8 q cI cJ cZ (upd I 0 0) S A) H → va_D Az (sh_w8 q cI cJ cZ (upd I 0 0) S A) → va_S Az s.heap H locs → (∀ (H : Heap) (locs : List Loc) (ls : Array Slot), lv_has ls 5 [(2, .int ow2)] → va_P D vwCl (sh_w8 q cI cJ cZ (upd I 0 0) oS oA) H → va_D Az (sh_w8 q cI cJ cZ (upd I 0 0) oS oA) → va_S Az s.heap H locs → W p l e (headSpec wsX8_drawn rmX8_drawn).room s m args below meth c H locs 0 0 Q (F0 m 97 ls [])) → W p l e (headSpec wsX8_drawn rmX8_drawn).room s m args below meth c H locs 0 0 Q (F0 m 28 ls []) := by
      intro n
      induction n with
      | zero =>
        intro x1 x2 x3 S A ow2 oS oA H locs ls h hl hP hD hS hk
        exact nomatch ((fX8_drawn_L28_z x1 x2 x3 S A).symm.trans h)
      | succ n ih =>
        intro x1 x2 x3 S A ow2 oS oA H locs ls h hl hP hD hS hk
        rw [fX8_drawn_L28_s] at h
        refine lv_iload_n hx hb dX8_drawn_28 rfl (lv_at hl 3 rfl) ?_
        refine lv_iload_n hx hb dX8_drawn_29 rfl (lv_at hl 1 rfl) ?_
        refine lv_icmp_ge (tgt := 97) hx hb dX8_drawn_30 (by decide) (fun g6 => ?_) (fun g6 => ?_)
        · rw [if_pos g6] at h
          cases h
          exact hk _ _ ls (lv_sub hl [2] rfl) hP hD hS
        · rw [if_neg g6] at h
          refine lv_aload_n hx hb dX8_drawn_33 rfl (lv_at hl 0 rfl) ?_
          refine lv_aload_n hx hb dX8_drawn_34 rfl (lv_at hl 0 rfl) ?_
          refine va_get (ci := 8) (v := .long S) (C := RX8) (T := TX8) (N := 21) hx hb hts hinX8 hown hK hP 0 rfl rfl 15 (by decide) lk3 (fun _ h9 => h9) rfl dX8_drawn_35 ?_
          refine lv_ldc2 hx hb hown lk4 dX8_drawn_38 ?_
          refine lv_lmul hx hb dX8_drawn_41 ?_
          refine lv_ldc2 hx hb hown lk5 dX8_drawn_42 ?_
          refine lv_ladd hx hb dX8_drawn_45 ?_
          refine sh_put (wn := (sh_w8 q cI cJ cZ (upd I 0 0) ((S * 6364136223846793005) + 1442695040888963407) A)) (ci := 8) (v := .long ((S * 6364136223846793005) + 1442695040888963407)) (ty := .long) (C := RX8) (T := TX8) (N := 21) hx hb hts hinX8 tyX8 tyX8_ok nmX8 hown hK hP hD hS 0 rfl rfl 15 (by decide) lk3 (fun _ h9 => h9) rfl (by decide +kernel) rfl rfl (Nat.le_of_ble_eq_true rfl) rfl dX8_drawn_46 (fun H locs hP hD hS => ?_)
          refine lv_aload_n hx hb dX8_drawn_49 rfl (lv_at hl 0 rfl) ?_
          refine va_get (ci := 8) (v := .long ((S * 6364136223846793005) + 1442695040888963407)) (C := RX8) (T := TX8) (N := 21) hx hb hts hinX8 hown hK hP 0 rfl rfl 15 (by decide) lk3 (fun _ h9 => h9) rfl dX8_drawn_50 ?_
          refine lv_bipush (v := 33) hx hb dX8_drawn_53 (by decide) ?_
          refine lv_lushr (v := (sh_lsr ((S * 6364136223846793005) + 1442695040888963407) 33)) hx hb dX8_drawn_55 rfl ?_
          refine lv_l2i (v := (Int64.toInt32 (sh_lsr ((S * 6364136223846793005) + 1442695040888963407) 33))) hx hb dX8_drawn_56 rfl ?_
          obtain ⟨y7, ey7, h⟩ := sh_nm_e h
          rw [← ey7]
          refine lv_istore (lv' := [(4, .int y7), (0, .ref (q 0)), (1, .int x1), (2, .int x2), (3, .int x3)]) hx hb dX8_drawn_57 hl (by decide) rfl (fun ls hl => ?_)
          refine lv_aload_n hx hb dX8_drawn_59 rfl (lv_at hl 1 rfl) ?_
          refine lv_iload hx hb dX8_drawn_60 (lv_at hl 0 rfl) ?_
          refine lv_aload_n hx hb dX8_drawn_62 rfl (lv_at hl 1 rfl) ?_
          refine va_get (ci := 8) (v := .ref (q 4)) (C := RX8) (T := TX8) (N := 21) hx hb hts hinX8 hown hK hP 0 rfl rfl 5 (by decide) lk6 (fun _ h9 => h9) rfl dX8_drawn_63 ?_
          obtain ⟨v8, hc9, h⟩ := sh_b1_e h
          refine sh_cSi (As := [.ref (q 4)]) (rest := [.int y7, .ref (q 0)]) hfix (k_X8_dotsOf l D cI cJ cZ (q 4) (A 3) v8 hc9) (va_cwS 1 hts gX8_drawn_X8_dotsOf rfl rfl rfl hdS_X8_dotsOf ⟨Nat.le_of_ble_eq_true rfl, Nat.le_of_ble_eq_true rfl⟩) hP hK [4] rfl rfl hl.1 rfl (Nat.le_of_ble_eq_true rfl) dX8_drawn_66 ⟨Nat.zero_le _, Nat.zero_le _⟩ ?_
          obtain ⟨v10, hcv10, h⟩ := sh_b1_e h
          refine sh_irem hx hb (sh_rem_e hcv10) dX8_drawn_69 ?_
          refine lv_iload hx hb dX8_drawn_70 (lv_at hl 0 rfl) ?_
          refine lv_bipush (v := 64) hx hb dX8_drawn_72 (by decide) ?_
          refine lv_idiv hx hb dX8_drawn_74 (by decide) ?_
          refine lv_bipush (v := 12) hx hb dX8_drawn_75 (by decide) ?_
          refine lv_irem hx hb dX8_drawn_77 (by decide) ?_
          obtain ⟨u11, hc12, h⟩ := sh_b1_e h
          refine sh_wVv (wn := (sh_w8 q cI cJ cZ (upd I 0 0) ((S * 6364136223846793005) + 1442695040888963407) u11)) (As := [.int v10, .int ((y7 / 64) - (y7 / 64) / 12 * 12)]) (rest := []) hfix (k_X8_goDraw l D cI cJ cZ _ q (upd I 0 0) ((S * 6364136223846793005) + 1442695040888963407) A v10 ((y7 / 64) - (y7 / 64) / 12 * 12) u11 hc12) (cwV 2 hts gX8_drawn_X8_goDraw rfl rfl rfl hdV_X8_goDraw ⟨Nat.le_of_ble_eq_true rfl, Nat.le_of_ble_eq_true rfl⟩) hP hK hD hS hA [0, 1, 2, 3, 4, 5, 6, 7, 8, 9, 10, 11, 12] [] [0, 1, 2, 3, 4, 5, 6, 7, 8, 9, 10, 11, 12] rfl rfl rfl rfl rfl rfl rfl 0 rfl rfl rfl hl.1 rfl (Nat.le_of_ble_eq_true rfl) dX8_drawn_78 ⟨Nat.zero_le _, Nat.zero_le _⟩ (fun H locs hP hD hS => ?_)
          refine lv_iload_n hx hb dX8_drawn_81 rfl (lv_at hl 3 rfl) ?_
          refine lv_aload_n hx hb dX8_drawn_82 rfl (lv_at hl 1 rfl) ?_
          refine va_get (ci := 8) (v := .ref (q 4)) (C := RX8) (T := TX8) (N := 21) hx hb hts hinX8 hown hK hP 0 rfl rfl 5 (by decide) lk6 (fun _ h9 => h9) rfl dX8_drawn_83 ?_
          obtain ⟨v13, hc14, h⟩ := sh_b1_e h
          refine sh_cSi (As := [.ref (q 4)]) (rest := [.int x2]) hfix (k_X8_nodes l D cI cJ cZ (q 4) (u11 3) v13 hc14) (va_cwS 1 hts gX8_drawn_X8_nodes rfl rfl rfl hdS_X8_nodes ⟨Nat.le_of_ble_eq_true rfl, Nat.le_of_ble_eq_true rfl⟩) hP hK [4] rfl rfl hl.1 rfl (Nat.le_of_ble_eq_true rfl) dX8_drawn_86 ⟨Nat.zero_le _, Nat.zero_le _⟩ ?_
          refine lv_iadd hx hb dX8_drawn_89 ?_
          refine lv_istore_n (lv' := [(2, .int (x2 + v13)), (4, .int y7), (0, .ref (q 0)), (1, .int x1), (3, .int x3)]) hx hb dX8_drawn_90 rfl hl (by decide) rfl (fun ls hl => ?_)
          refine lv_iinc (v := (x3 + 1)) (lv' := [(3, .int (x3 + 1)), (2, .int (x2 + v13)), (4, .int y7), (0, .ref (q 0)), (1, .int x1)]) hx hb dX8_drawn_91 hl (k := 4) rfl rfl (by decide) rfl (fun ls hl => ?_)
          refine lv_goto (tgt := 28) hx hb dX8_drawn_94 (by decide) ?_
          exact ih x1 (x2 + v13) (x3 + 1) ((S * 6364136223846793005) + 1442695040888963407) u11 ow2 oS oA _ _ ls h (lv_sub hl [3, 4, 1, 0] rfl) hP hD hS hk
    obtain ⟨w16, w17, w18, hc19, h⟩ := sh_b3_e h
    refine LP15 sh_fu x1 0 0 S u4 w16 w17 w18 _ _ ls hc19 (lv_sub hl [2, 3, 1, 0] rfl) hP hD hS (fun H locs ls hl hP hD hS => ?_)
    refine lv_iload_n hx hb dX8_drawn_97 rfl (lv_at hl 0 rfl) ?_
    cases h
    exact sh_rwi hx hb hr hlocks hQ hK hP hD hS dX8_drawn_98
  · rw [if_pos g3] at h
    refine lv_bipush (v := -2) hx hb dX8_drawn_17 (by decide) ?_
    cases h
    exact sh_rwi hx hb hr hlocks hQ hK hP hD hS dX8_drawn_19
theorem hdV_X8_keep : yX8_keep.cls = RX8 ∧ yX8_keep.cls ≠ "java/lang/invoke/MethodHandle" ∧ yX8_keep.cls ≠ "java/lang/invoke/VarHandle" ∧ (parseMethodDescriptor yX8_keep.desc).map (fun d => d.parameters.length) = some 1 := by decide +kernel
abbrev rmX8_keep : Room := { frames := 7, cells := 0, slots := 0, locals := 166 }
set_option maxHeartbeats 4000000 in
set_option maxRecDepth 100000 in
theorem k_X8_keep (l : Launch) (D : va_G) (cI cJ cZ : ClassId) (sz : Nat) (q : Nat → Nat) (I : Nat → Int32) (S : Int64) (A : Nat → Nat → Int32) (x1 : Int32) (o : Int32) (oI : Nat → Int32) (oA : Nat → Nat → Int32) (h : fX8_keep I A x1 = some (o, oI, oA)) : Met l yX8_keep wsX8_keep rmX8_keep (sh_Pw D (sh_ty cI cJ cZ) sz (sh_w8 q cI cJ cZ I S A) [.ref (q 0), .int x1]) (sh_Qi D (sh_ty cI cJ cZ) (va_A (sh_w8 q cI cJ cZ I S A) sz) (sh_w8 q cI cJ cZ oI S oA) o) 0 0 (va_A (sh_w8 q cI cJ cZ I S A) sz) := by
  refine Met.ofW (cc := cX8_keep) (maxL := 3) (ret := (some .int)) (by decide) rfl ?_
  intro p e s m args below meth c s₁ hB hml hv
  obtain ⟨hargs, hsz, hP, hK, hD0⟩ := hv
  have hx := hB.exec
  have hb := hB.bytes
  have hr := hB.returns
  have hts := atoms_spec (ws := wsX8_keep) hB.pre
  have hown : s.vm.findClass RX8 = some m.cls := findClass_of_methodNamed hB.named
  have hlocks := hB.notSynchronized
  have hfix : CallFix p m c cX8_keep 3 s args wsX8_keep RX8 := ⟨hx, hb, hml, hown, hts⟩
  have hinX8 : ∀ w ∈ wsX80, w ∈ wsX8_keep := by decide +kernel
  have lk1 := hts (.fieldLink RX8 47 "ShadeTreeModel" "thrown" "I") (by decide +kernel)
  have lk2 := hts (.fieldLink RX8 31 "ShadeTreeModel" "isKept" "[Z") (by decide +kernel)
  have lk3 := hts (.fieldLink RX8 28 "ShadeTreeModel" "kept" "[I") (by decide +kernel)
  have lk4 := hts (.fieldLink RX8 16 "ShadeTreeModel" "page" "[I") (by decide +kernel)
  rw [show entryFrame m args 3 = entryFrame m ([.ref (q 0), .int x1] : List Value).toArray 3 by rw [hargs], lg_entry_eq]
  have hl := lv_entry ([.ref (q 0), .int x1]) (n := 3) (Nat.le_of_ble_eq_true rfl)
  generalize (lg_sl ([.ref (q 0), .int x1]) ++ List.replicate (3 - (lg_sl ([.ref (q 0), .int x1])).length) Slot.unset).toArray = ls at hl ⊢
  have hl : lv_has ls 3 [(0, .ref (q 0)), (1, .int x1)] := hl
  subst hsz
  have hD := hD0.self (sz := s.heap.size)
  generalize hAe : va_A (sh_w8 q cI cJ cZ I S A) s.heap.size = Az at hD ⊢
  have hA : ∀ q : Nat, s.heap.size ≤ q → Az q := fun q h => by rw [← hAe]; exact Or.inr h
  have hS : va_S Az s.heap s.heap [] := va_S.rf
  generalize hQ : MQ below (sh_Qi D (sh_ty cI cJ cZ) Az (sh_w8 q cI cJ cZ oI S oA) o) args s 0 0 Az = Q
  unfold fX8_keep at h
  refine lv_aload_n hx hb dX8_keep_0 rfl (lv_at hl 0 rfl) ?_
  refine lv_iconst (v := 0) hx hb dX8_keep_1 (by decide) ?_
  refine sh_put (wn := (sh_w8 q cI cJ cZ (upd I 0 0) S A)) (ci := 8) (v := .int 0) (ty := .int) (C := RX8) (T := TX8) (N := 21) hx hb hts hinX8 tyX8 tyX8_ok nmX8 hown hK hP hD hS 0 rfl rfl 0 (by decide) lk1 (fun _ h9 => h9) rfl (by decide +kernel) rfl rfl (Nat.le_of_ble_eq_true rfl) rfl dX8_keep_2 (fun H locs hP hD hS => ?_)
  refine lv_iload_n hx hb dX8_keep_5 rfl (lv_at hl 1 rfl) ?_
  refine lv_i2l (v := (Int32.toInt64 x1)) hx hb dX8_keep_6 rfl ?_
  refine lv_lconst (v := 0) hx hb dX8_keep_7 (by decide) ?_
  refine lv_lconst (v := 1) hx hb dX8_keep_8 (by decide) ?_
  obtain ⟨v1, hc2, h⟩ := sh_b1_e h
  refine sh_cSi (As := [.long (Int32.toInt64 x1), .long 0, .long 1]) (rest := []) hfix (k_X8_in l D cI cJ cZ (Int32.toInt64 x1) 0 1 v1 hc2) (va_cwS 3 hts gX8_keep_X8_in rfl rfl rfl hdS_X8_in ⟨Nat.le_of_ble_eq_true rfl, Nat.le_of_ble_eq_true rfl⟩) hP hK [] rfl rfl hl.1 rfl (Nat.le_of_ble_eq_true rfl) dX8_keep_9 ⟨Nat.zero_le _, Nat.zero_le _⟩ ?_
  refine lv_if_ne (tgt := 17) hx hb dX8_keep_12 (by decide) (fun g3 => ?_) (fun g3 => ?_)
  · rw [if_neg g3] at h
    refine lv_aload_n hx hb dX8_keep_17 rfl (lv_at hl 0 rfl) ?_
    refine va_get (ci := 8) (v := .ref (q 8)) (C := RX8) (T := TX8) (N := 21) hx hb hts hinX8 hown hK hP 0 rfl rfl 10 (by decide) lk2 (fun _ h9 => h9) rfl dX8_keep_18 ?_
    refine lv_iload_n hx hb dX8_keep_21 rfl (lv_at hl 1 rfl) ?_
    refine lv_iconst (v := 1) hx hb dX8_keep_22 (by decide) ?_
    obtain ⟨f4, hcf4, h⟩ := sh_b1_e h
    refine sh_zast (wn := (sh_w8 q cI cJ cZ (upd I 0 0) S (va_up A 7 f4))) hx hb hK hP hD hS 8 2 rfl rfl (sh_astZ_e hcf4) rfl dX8_keep_23 (fun H locs hP hD hS => ?_)
    refine lv_iconst (v := 0) hx hb dX8_keep_24 (by decide) ?_
    refine lv_istore_n (lv' := [(2, .int 0), (0, .ref (q 0)), (1, .int x1)]) hx hb dX8_keep_25 rfl hl (by decide) rfl (fun ls hl => ?_)
    have LP8 : ∀ (n : Nat) (x1 : Int32) (x2 : Int32) (A : Nat → Nat → Int32) (oA : (Nat → Nat → Int32)) (H : Heap) (locs : List Loc) (ls : Array Slot), fX8_keep_L26 n x1 x2 A = some oA → lv_has ls 3 [(0, .ref (q 0)), (1, .int x1), (2, .int x2)] → va_P D vwCl (sh_w8 q cI cJ cZ (upd I 0 0) S A) H → va_D Az (sh_w8 q cI cJ cZ (upd I 0 0) S A) → va_S Az s.heap H locs → (∀ (H : Heap) (locs : List Loc) (ls : Array Slot), lv_has ls 3 [(0, .ref (q 0))] → va_P D vwCl (sh_w8 q cI cJ cZ (upd I 0 0) S oA) H → va_D Az (sh_w8 q cI cJ cZ (upd I 0 0) S oA) → va_S Az s.heap H locs → W p l e (headSpec wsX8_keep rmX8_keep).room s m args below meth c H locs 0 0 Q (F0 m 55 ls [])) → W p l e (headSpec wsX8_keep rmX8_keep).room s m args below meth c H locs 0 0 Q (F0 m 26 ls []) := by
      intro n
      induction n with
      | zero =>
        intro x1 x2 A oA H locs ls h hl hP hD hS hk
        exact nomatch ((fX8_keep_L26_z x1 x2 A).symm.trans h)
      | succ n ih =>
        intro x1 x2 A oA H locs ls h hl hP hD hS hk
        rw [fX8_keep_L26_s] at h
        refine lv_iload_n hx hb dX8_keep_26 rfl (lv_at hl 2 rfl) ?_
        refine lv_bipush (v := 39) hx hb dX8_keep_27 (by decide) ?_
        refine lv_icmp_ge (tgt := 55) hx hb dX8_keep_29 (by decide) (fun g5 => ?_) (fun g5 => ?_)
        · rw [if_pos g5] at h
          cases h
          exact hk _ _ ls (lv_sub hl [0] rfl) hP hD hS
        · rw [if_neg g5] at h
          refine lv_aload_n hx hb dX8_keep_32 rfl (lv_at hl 0 rfl) ?_
          refine va_get (ci := 8) (v := .ref (q 7)) (C := RX8) (T := TX8) (N := 21) hx hb hts hinX8 hown hK hP 0 rfl rfl 9 (by decide) lk3 (fun _ h9 => h9) rfl dX8_keep_33 ?_
          refine lv_bipush (v := 39) hx hb dX8_keep_36 (by decide) ?_
          refine lv_iload_n hx hb dX8_keep_38 rfl (lv_at hl 1 rfl) ?_
          refine lv_imul hx hb dX8_keep_39 ?_
          refine lv_iload_n hx hb dX8_keep_40 rfl (lv_at hl 2 rfl) ?_
          refine lv_iadd hx hb dX8_keep_41 ?_
          refine lv_aload_n hx hb dX8_keep_42 rfl (lv_at hl 0 rfl) ?_
          refine va_get (ci := 8) (v := .ref (q 3)) (C := RX8) (T := TX8) (N := 21) hx hb hts hinX8 hown hK hP 0 rfl rfl 4 (by decide) lk4 (fun _ h9 => h9) rfl dX8_keep_43 ?_
          refine lv_iload_n hx hb dX8_keep_46 rfl (lv_at hl 2 rfl) ?_
          obtain ⟨v6, hcv6, h⟩ := sh_b1_e h
          refine sh_iald hx hb hK hP 3 0 rfl rfl (sh_ald_e hcv6) dX8_keep_47 ?_
          obtain ⟨f7, hcf7, h⟩ := sh_b1_e h
          refine sh_iast (wn := (sh_w8 q cI cJ cZ (upd I 0 0) S (va_up A 6 f7))) hx hb hK hP hD hS 7 0 rfl rfl (sh_ast_e hcf7) rfl dX8_keep_48 (fun H locs hP hD hS => ?_)
          refine lv_iinc (v := (x2 + 1)) (lv' := [(2, .int (x2 + 1)), (0, .ref (q 0)), (1, .int x1)]) hx hb dX8_keep_49 hl (k := 2) rfl rfl (by decide) rfl (fun ls hl => ?_)
          refine lv_goto (tgt := 26) hx hb dX8_keep_52 (by decide) ?_
          exact ih x1 (x2 + 1) (va_up A 6 f7) oA _ _ ls h (lv_sub hl [1, 2, 0] rfl) hP hD hS hk
    obtain ⟨w9, hc12, h⟩ := sh_b1_e h
    refine LP8 sh_fu x1 0 (va_up A 7 f4) w9 _ _ ls hc12 (lv_sub hl [1, 2, 0] rfl) hP hD hS (fun H locs ls hl hP hD hS => ?_)
    refine lv_aload_n hx hb dX8_keep_55 rfl (lv_at hl 0 rfl) ?_
    refine va_get (ci := 8) (v := .ref (q 3)) (C := RX8) (T := TX8) (N := 21) hx hb hts hinX8 hown hK hP 0 rfl rfl 4 (by decide) lk4 (fun _ h9 => h9) rfl dX8_keep_56 ?_
    obtain ⟨v10, hc11, h⟩ := sh_b1_e h
    refine sh_cSi (As := [.ref (q 3)]) (rest := []) hfix (k_X8_nodes l D cI cJ cZ (q 3) (w9 2) v10 hc11) (va_cwS 1 hts gX8_keep_X8_nodes rfl rfl rfl hdS_X8_nodes ⟨Nat.le_of_ble_eq_true rfl, Nat.le_of_ble_eq_true rfl⟩) hP hK [3] rfl rfl hl.1 rfl (Nat.le_of_ble_eq_true rfl) dX8_keep_59 ⟨Nat.zero_le _, Nat.zero_le _⟩ ?_
    cases h
    exact sh_rwi hx hb hr hlocks hQ hK hP hD hS dX8_keep_62
  · rw [if_pos g3] at h
    refine lv_iconst (v := -1) hx hb dX8_keep_15 (by decide) ?_
    cases h
    exact sh_rwi hx hb hr hlocks hQ hK hP hD hS dX8_keep_16
