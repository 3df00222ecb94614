theorem hdV_X8_again : yX8_again.cls = RX8 ∧ yX8_again.cls ≠ "java/lang/invoke/MethodHandle" ∧ yX8_again.cls ≠ "java/lang/invoke/VarHandle" ∧ (parseMethodDescriptor yX8_again.desc).map (fun d => d.parameters.length) = some 1 := by decide +kernel
abbrev rmX8_again : Room := { frames := 7, cells := 0, slots := 0, locals := 166 }
set_option maxHeartbeats 4000000 in
set_option maxRecDepth 100000 in
theorem k_X8_again (l : Launch) (D : va_G) (cI cJ cZ : ClassId) (sz : Nat) (q : Nat → Nat) (I : Nat → Int32) (S : Int64) (A : Nat → Nat → Int32) (x1 : Int32) (o : Int32) (oI : Nat → Int32) (oA : Nat → Nat → Int32) (h : fX8_again I A x1 = some (o, oI, oA)) : Met l yX8_again wsX8_again rmX8_again (sh_Pw D (sh_ty cI cJ cZ) sz (sh_w8 q cI cJ cZ I S A) [.ref (q 0), .int x1]) (sh_Qi D (sh_ty cI cJ cZ) (va_A (sh_w8 q cI cJ cZ I S A) sz) (sh_w8 q cI cJ cZ oI S oA) o) 0 0 (va_A (sh_w8 q cI cJ cZ I S A) sz) := by
  refine Met.ofW (cc := cX8_again) (maxL := 3) (ret := (some .int)) (by decide) rfl ?_
  intro p e s m args below meth c s₁ hB hml hv
  obtain ⟨hargs, hsz, hP, hK, hD0⟩ := hv
  have hx := hB.exec
  have hb := hB.bytes
  have hr := hB.returns
  have hts := atoms_spec (ws := wsX8_again) hB.pre
  have hown : s.vm.findClass RX8 = some m.cls := findClass_of_methodNamed hB.named
  have hlocks := hB.notSynchronized
  have hfix : CallFix p m c cX8_again 3 s args wsX8_again RX8 := ⟨hx, hb, hml, hown, hts⟩
  have hinX8 : ∀ w ∈ wsX80, w ∈ wsX8_again := by decide +kernel
  have lk1 := hts (.fieldLink RX8 47 "ShadeTreeModel" "thrown" "I") (by decide +kernel)
  have lk2 := hts (.fieldLink RX8 31 "ShadeTreeModel" "isKept" "[Z") (by decide +kernel)
  have lk3 := hts (.fieldLink RX8 16 "ShadeTreeModel" "page" "[I") (by decide +kernel)
  have lk4 := hts (.fieldLink RX8 28 "ShadeTreeModel" "kept" "[I") (by decide +kernel)
  have lk5 := hts (.fieldLink RX8 123 "ShadeTreeModel" "doings" "I") (by decide +kernel)
  rw [show entryFrame m args 3 = entryFrame m ([.ref (q 0), .int x1] : List Value).toArray 3 by rw [hargs], lg_entry_eq]
  have hl := lv_entry ([.ref (q 0), .int x1]) (n := 3) (Nat.le_of_ble_eq_true rfl)
  generalize (lg_sl ([.ref (q 0), .int x1]) ++ List.replicate (3 - (lg_sl ([.ref (q 0), .int x1])).length) Slot.unset).toArray = ls at hl ⊢
  have hl : lv_has ls 3 [(0, .ref (q 0)), (1, .int x1)] := hl
  subst hsz
  have hD := hD0.self (sz := s.heap.size)
  generalize hAe : va_A (sh_w8 q cI cJ cZ I S A) s.heap.size = Az at hD ⊢
  have hA : ∀ q : Nat, s.heap.size ≤ q → Az q := fun q h => by rw [← hAe]; exact Or.inr h
  have hS : va_S Az s.heap s.heap [] := va_S.rf
  generalize hQ : MQ below (sh_Qi D (sh_ty cI cJ cZ) Az (sh_w8 q cI cJ cZ oI S oA) o) args s 0 0 Az = Q
  unfold fX8_again at h
  refine lv_aload_n hx hb dX8_again_0 rfl (lv_at hl 0 rfl) ?_
  refine lv_iconst (v := 0) hx hb dX8_again_1 (by decide) ?_
  refine sh_put (wn := (sh_w8 q cI cJ cZ (upd I 0 0) S A)) (ci := 8) (v := .int 0) (ty := .int) (C := RX8) (T := TX8) (N := 21) hx hb hts hinX8 tyX8 tyX8_ok nmX8 hown hK hP hD hS 0 rfl rfl 0 (by decide) lk1 (fun _ h9 => h9) rfl (by decide +kernel) rfl rfl (Nat.le_of_ble_eq_true rfl) rfl dX8_again_2 (fun H locs hP hD hS => ?_)
  refine lv_iload_n hx hb dX8_again_5 rfl (lv_at hl 1 rfl) ?_
  refine lv_i2l (v := (Int32.toInt64 x1)) hx hb dX8_again_6 rfl ?_
  refine lv_lconst (v := 0) hx hb dX8_again_7 (by decide) ?_
  refine lv_lconst (v := 1) hx hb dX8_again_8 (by decide) ?_
  obtain ⟨v1, hc2, h⟩ := sh_b1_e h
  refine sh_cSi (As := [.long (Int32.toInt64 x1), .long 0, .long 1]) (rest := []) hfix (k_X8_in l D cI cJ cZ (Int32.toInt64 x1) 0 1 v1 hc2) (va_cwS 3 hts gX8_again_X8_in rfl rfl rfl hdS_X8_in ⟨Nat.le_of_ble_eq_true rfl, Nat.le_of_ble_eq_true rfl⟩) hP hK [] rfl rfl hl.1 rfl (Nat.le_of_ble_eq_true rfl) dX8_again_9 ⟨Nat.zero_le _, Nat.zero_le _⟩ ?_
  refine lv_if_ne (tgt := 17) hx hb dX8_again_12 (by decide) (fun g3 => ?_) (fun g3 => ?_)
  · rw [if_neg g3] at h
    refine lv_aload_n hx hb dX8_again_17 rfl (lv_at hl 0 rfl) ?_
    refine va_get (ci := 8) (v := .ref (q 8)) (C := RX8) (T := TX8) (N := 21) hx hb hts hinX8 hown hK hP 0 rfl rfl 10 (by decide) lk2 (fun _ h9 => h9) rfl dX8_again_18 ?_
    refine lv_iload_n hx hb dX8_again_21 rfl (lv_at hl 1 rfl) ?_
    obtain ⟨v4, hcv4, h⟩ := sh_b1_e h
    refine sh_zald hx hb hK hP 8 2 rfl rfl (sh_ald_e hcv4) dX8_again_22 ?_
    refine lv_if_ne (tgt := 29) hx hb dX8_again_23 (by decide) (fun g5 => ?_) (fun g5 => ?_)
    · rw [if_neg g5] at h
      refine lv_iconst (v := 0) hx hb dX8_again_29 (by decide) ?_
      refine lv_istore_n (lv' := [(2, .int 0), (0, .ref (q 0)), (1, .int x1)]) hx hb dX8_again_30 rfl hl (by decide) rfl (fun ls hl => ?_)
      have LP9 : ∀ (n : Nat) (x1 : Int32) (x2 : Int32) (A : Nat → Nat → Int32) (oA : (Nat → Nat → Int32)) (H : Heap) (locs : List Loc) (ls : Array Slot), fX8_again_L31 n x1 x2 A = some oA → lv_has ls 3 [(0, .ref (q 0)), (1, .int x1), (2, .int x2)] → va_P D vwCl (sh_w8 q cI cJ cZ (upd I 0 0) S A) H → va_D Az (sh_w8 q cI cJ cZ (upd I 0 0) S A) → va_S Az s.heap H locs → (∀ (H : Heap) (locs : List Loc) (ls : Array Slot), lv_has ls 3 [(0, .ref (q 0))] → va_P D vwCl (sh_w8 q cI cJ cZ (upd I 0 0) S oA) H → va_D Az (sh_w8 q cI cJ cZ (upd I 0 0) S oA) → va_S Az s.heap H locs → W p l e (headSpec wsX8_again rmX8_again).room s m args below meth c H locs 0 0 Q (F0 m 60 ls [])) → W p l e (headSpec wsX8_again rmX8_again).room s m args below meth c H locs 0 0 Q (F0 m 31 ls []) := by
        intro n
        induction n with
        | zero =>
          intro x1 x2 A oA H locs ls h hl hP hD hS hk
          exact nomatch ((fX8_again_L31_z x1 x2 A).symm.trans h)
        | succ n ih =>
          intro x1 x2 A oA H locs ls h hl hP hD hS hk
          rw [fX8_again_L31_s] at h
          refine lv_iload_n hx hb dX8_again_31 rfl (lv_at hl 2 rfl) ?_
          refine lv_bipush (v := 39) hx hb dX8_again_32 (by decide) ?_
          refine lv_icmp_ge (tgt := 60) hx hb dX8_again_34 (by decide) (fun g6 => ?_) (fun g6 => ?_)
          · rw [if_pos g6] at h
            cases h
            exact hk _ _ ls (lv_sub hl [0] rfl) hP hD hS
          · rw [if_neg g6] at h
            refine lv_aload_n hx hb dX8_again_37 rfl (lv_at hl 0 rfl) ?_
            refine va_get (ci := 8) (v := .ref (q 3)) (C := RX8) (T := TX8) (N := 21) hx hb hts hinX8 hown hK hP 0 rfl rfl 4 (by decide) lk3 (fun _ h9 => h9) rfl dX8_again_38 ?_
            refine lv_iload_n hx hb dX8_again_41 rfl (lv_at hl 2 rfl) ?_
            refine lv_aload_n hx hb dX8_again_42 rfl (lv_at hl 0 rfl) ?_
            refine va_get (ci := 8) (v := .ref (q 7)) (C := RX8) (T := TX8) (N := 21) hx hb hts hinX8 hown hK hP 0 rfl rfl 9 (by decide) lk4 (fun _ h9 => h9) rfl dX8_again_43 ?_
            refine lv_bipush (v := 39) hx hb dX8_again_46 (by decide) ?_
            refine lv_iload_n hx hb dX8_again_48 rfl (lv_at hl 1 rfl) ?_
            refine lv_imul hx hb dX8_again_49 ?_
            refine lv_iload_n hx hb dX8_again_50 rfl (lv_at hl 2 rfl) ?_
            refine lv_iadd hx hb dX8_again_51 ?_
            obtain ⟨v7, hcv7, h⟩ := sh_b1_e h
            refine sh_iald hx hb hK hP 7 0 rfl rfl (sh_ald_e hcv7) dX8_again_52 ?_
            obtain ⟨f8, hcf8, h⟩ := sh_b1_e h
            refine sh_iast (wn := (sh_w8 q cI cJ cZ (upd I 0 0) S (va_up A 2 f8))) hx hb hK hP hD hS 3 0 rfl rfl (sh_ast_e hcf8) rfl dX8_again_53 (fun H locs hP hD hS => ?_)
            refine lv_iinc (v := (x2 + 1)) (lv' := [(2, .int (x2 + 1)), (0, .ref (q 0)), (1, .int x1)]) hx hb dX8_again_54 hl (k := 2) rfl rfl (by decide) rfl (fun ls hl => ?_)
            refine lv_goto (tgt := 31) hx hb dX8_again_57 (by decide) ?_
            exact ih x1 (x2 + 1) (va_up A 2 f8) oA _ _ ls h (lv_sub hl [1, 2, 0] rfl) hP hD hS hk
      obtain ⟨w10, hc13, h⟩ := sh_b1_e h
      refine LP9 sh_fu x1 0 A w10 _ _ ls hc13 (lv_sub hl [1, 2, 0] rfl) hP hD hS (fun H locs ls hl hP hD hS => ?_)
      refine lv_aload_n hx hb dX8_again_60 rfl (lv_at hl 0 rfl) ?_
      refine lv_iconst (v := 0) hx hb dX8_again_61 (by decide) ?_
      refine sh_put (wn := (sh_w8 q cI cJ cZ (upd (upd I 0 0) 2 0) S w10)) (ci := 8) (v := .int 0) (ty := .int) (C := RX8) (T := TX8) (N := 21) hx hb hts hinX8 tyX8 tyX8_ok nmX8 hown hK hP hD hS 0 rfl rfl 8 (by decide) lk5 (fun _ h9 => h9) rfl (by decide +kernel) rfl rfl (Nat.le_of_ble_eq_true rfl) rfl dX8_again_62 (fun H locs hP hD hS => ?_)
      refine lv_aload_n hx hb dX8_again_65 rfl (lv_at hl 0 rfl) ?_
      refine va_get (ci := 8) (v := .ref (q 3)) (C := RX8) (T := TX8) (N := 21) hx hb hts hinX8 hown hK hP 0 rfl rfl 4 (by decide) lk3 (fun _ h9 => h9) rfl dX8_again_66 ?_
      obtain ⟨v11, hc12, h⟩ := sh_b1_e h
      refine sh_cSi (As := [.ref (q 3)]) (rest := []) hfix (k_X8_nodes l D cI cJ cZ (q 3) (w10 2) v11 hc12) (va_cwS 1 hts gX8_again_X8_nodes rfl rfl rfl hdS_X8_nodes ⟨Nat.le_of_ble_eq_true rfl, Nat.le_of_ble_eq_true rfl⟩) hP hK [3] rfl rfl hl.1 rfl (Nat.le_of_ble_eq_true rfl) dX8_again_69 ⟨Nat.zero_le _, Nat.zero_le _⟩ ?_
      cases h
      exact sh_rwi hx hb hr hlocks hQ hK hP hD hS dX8_again_72
    · rw [if_pos g5] at h
      refine lv_bipush (v := -3) hx hb dX8_again_26 (by decide) ?_
      cases h
      exact sh_rwi hx hb hr hlocks hQ hK hP hD hS dX8_again_28
  · rw [if_pos g3] at h
    refine lv_iconst (v := -1) hx hb dX8_again_15 (by decide) ?_
    cases h
    exact sh_rwi hx hb hr hlocks hQ hK hP hD hS dX8_again_16
