theorem hdS_X8_goNegative : yX8_goNegative.cls ≠ "java/lang/invoke/MethodHandle" ∧ yX8_goNegative.cls ≠ "java/lang/invoke/VarHandle" ∧ (parseMethodDescriptor yX8_goNegative.desc).map (fun d => d.parameters.length) = some 1 := by decide +kernel
abbrev rmX8_goNegative : Room := { frames := 1, cells := 0, slots := 0, locals := 20 }
set_option maxHeartbeats 4000000 in
set_option maxRecDepth 100000 in
theorem k_X8_goNegative (l : Launch) (D : va_G) (cI cJ cZ : ClassId) (sz : Nat) (aA : Nat) (pA : Nat → Int32) (opA : Nat → Int32) (h : fX8_goNegative pA = some opA) : Met l yX8_goNegative wsX8_goNegative rmX8_goNegative (sh_Pw D (sh_ty cI cJ cZ) sz [(aA, .inl (cI, 39, .inl pA))] [.ref aA]) (sh_Qv D (sh_ty cI cJ cZ) (va_A [(aA, .inl (cI, 39, .inl pA))] sz) [(aA, .inl (cI, 39, .inl opA))]) 0 0 (va_A [(aA, .inl (cI, 39, .inl pA))] sz) := by
  refine Met.ofW (cc := cX8_goNegative) (maxL := 2) (ret := none) (by decide) rfl ?_
  intro p e s m args below meth c s₁ hB hml hv
  obtain ⟨hargs, hsz, hP, hK, hD0⟩ := hv
  have hx := hB.exec
  have hb := hB.bytes
  have hr := hB.returns
  have hts := atoms_spec (ws := wsX8_goNegative) hB.pre
  have hown : s.vm.findClass RX8 = some m.cls := findClass_of_methodNamed hB.named
  have hlocks := hB.notSynchronized
  have hfix : CallFix p m c cX8_goNegative 2 s args wsX8_goNegative RX8 := ⟨hx, hb, hml, hown, hts⟩
  rw [show entryFrame m args 2 = entryFrame m ([.ref aA] : List Value).toArray 2 by rw [hargs], lg_entry_eq]
  have hl := lv_entry ([.ref aA]) (n := 2) (Nat.le_of_ble_eq_true rfl)
  generalize (lg_sl ([.ref aA]) ++ List.replicate (2 - (lg_sl ([.ref aA])).length) Slot.unset).toArray = ls at hl ⊢
  have hl : lv_has ls 2 [(0, .ref aA)] := hl
  subst hsz
  have hD := hD0.self (sz := s.heap.size)
  generalize hAe : va_A [(aA, .inl (cI, 39, .inl pA))] s.heap.size = Az at hD ⊢
  have hA : ∀ q : Nat, s.heap.size ≤ q → Az q := fun q h => by rw [← hAe]; exact Or.inr h
  have hS : va_S Az s.heap s.heap [] := va_S.rf
  generalize hQ : MQ below (sh_Qv D (sh_ty cI cJ cZ) Az [(aA, .inl (cI, 39, .inl opA))]) args s 0 0 Az = Q
  unfold fX8_goNegative at h
  refine lv_iconst (v := 0) hx hb dX8_goNegative_0 (by decide) ?_
  refine lv_istore_n (lv' := [(1, .int 0), (0, .ref aA)]) hx hb dX8_goNegative_1 rfl hl (by decide) rfl (fun ls hl => ?_)
  have LP6 : ∀ (n : Nat) (x1 : Int32) (pA : Nat → Int32) (opA : (Nat → Int32)) (H : Heap) (locs : List Loc) (ls : Array Slot), fX8_goNegative_L2 n x1 pA = some opA → lv_has ls 2 [(0, .ref aA), (1, .int x1)] → va_P D vwCl [(aA, .inl (cI, 39, .inl pA))] H → va_D Az [(aA, .inl (cI, 39, .inl pA))] → va_S Az s.heap H locs → (∀ (H : Heap) (locs : List Loc) (ls : Array Slot), lv_has ls 2 [] → va_P D vwCl [(aA, .inl (cI, 39, .inl opA))] H → va_D Az [(aA, .inl (cI, 39, .inl opA))] → va_S Az s.heap H locs → W p l e (headSpec wsX8_goNegative rmX8_goNegative).room s m args below meth c H locs 0 0 Q (F0 m 29 ls [])) → W p l e (headSpec wsX8_goNegative rmX8_goNegative).room s m args below meth c H locs 0 0 Q (F0 m 2 ls []) := by
    intro n
    induction n with
    | zero =>
      intro x1 pA opA H locs ls h hl hP hD hS hk
      exact nomatch ((fX8_goNegative_L2_z x1 pA).symm.trans h)
    | succ n ih =>
      intro x1 pA opA H locs ls h hl hP hD hS hk
      rw [fX8_goNegative_L2_s] at h
      refine lv_iload_n hx hb dX8_goNegative_2 rfl (lv_at hl 1 rfl) ?_
      refine lv_aload_n hx hb dX8_goNegative_3 rfl (lv_at hl 0 rfl) ?_
      obtain ⟨v1, hc2, h⟩ := sh_b1_e h
      refine sh_cSi (As := [.ref aA]) (rest := [.int x1]) hfix (k_X8_dotsOf l D cI cJ cZ aA pA v1 hc2) (va_cwS 1 hts gX8_goNegative_X8_dotsOf rfl rfl rfl hdS_X8_dotsOf ⟨Nat.le_of_ble_eq_true rfl, Nat.le_of_ble_eq_true rfl⟩) hP hK [0] rfl rfl hl.1 rfl (Nat.le_of_ble_eq_true rfl) dX8_goNegative_4 ⟨Nat.zero_le _, Nat.zero_le _⟩ ?_
      refine lv_icmp_ge (tgt := 29) hx hb dX8_goNegative_7 (by decide) (fun g3 => ?_) (fun g3 => ?_)
      · rw [if_pos g3] at h
        cases h
        exact hk _ _ ls (lv_sub hl [] rfl) hP hD hS
      · rw [if_neg g3] at h
        refine lv_aload_n hx hb dX8_goNegative_10 rfl (lv_at hl 0 rfl) ?_
        refine lv_iconst (v := 3) hx hb dX8_goNegative_11 (by decide) ?_
        refine lv_iload_n hx hb dX8_goNegative_12 rfl (lv_at hl 1 rfl) ?_
        refine lv_iadd hx hb dX8_goNegative_13 ?_
        refine lv_bipush (v := 9) hx hb dX8_goNegative_14 (by decide) ?_
        refine lv_aload_n hx hb dX8_goNegative_16 rfl (lv_at hl 0 rfl) ?_
        refine lv_iconst (v := 3) hx hb dX8_goNegative_17 (by decide) ?_
        refine lv_iload_n hx hb dX8_goNegative_18 rfl (lv_at hl 1 rfl) ?_
        refine lv_iadd hx hb dX8_goNegative_19 ?_
        obtain ⟨v4, hcv4, h⟩ := sh_b1_e h
        refine sh_iald hx hb hK hP 0 0 rfl rfl (sh_ald_e hcv4) dX8_goNegative_20 ?_
        refine lv_isub hx hb dX8_goNegative_21 ?_
        obtain ⟨f5, hcf5, h⟩ := sh_b1_e h
        refine sh_iast (wn := [(aA, .inl (cI, 39, .inl f5))]) hx hb hK hP hD hS 0 0 rfl rfl (sh_ast_e hcf5) rfl dX8_goNegative_22 (fun H locs hP hD hS => ?_)
        refine lv_iinc (v := (x1 + 1)) (lv' := [(1, .int (x1 + 1)), (0, .ref aA)]) hx hb dX8_goNegative_23 hl (k := 1) rfl rfl (by decide) rfl (fun ls hl => ?_)
        refine lv_goto (tgt := 2) hx hb dX8_goNegative_26 (by decide) ?_
        exact ih (x1 + 1) f5 opA _ _ ls h (lv_sub hl [1, 0] rfl) hP hD hS hk
  obtain ⟨w7, hc8, h⟩ := sh_b1_e h
  refine LP6 sh_fu 0 pA w7 _ _ ls hc8 (lv_sub hl [1, 0] rfl) hP hD hS (fun H locs ls hl hP hD hS => ?_)
  cases h
  exact sh_rwv hx hb hr hlocks hQ hK hP hD hS dX8_goNegative_29
theorem hdV_X8_negative : yX8_negative.cls = RX8 ∧ yX8_negative.cls ≠ "java/lang/invoke/MethodHandle" ∧ yX8_negative.cls ≠ "java/lang/invoke/VarHandle" ∧ (parseMethodDescriptor yX8_negative.desc).map (fun d => d.parameters.length) = some 0 := by decide +kernel
abbrev rmX8_negative : Room := { frames := 7, cells := 0, slots := 0, locals := 166 }
set_option maxHeartbeats 4000000 in
set_option maxRecDepth 100000 in
theorem k_X8_negative (l : Launch) (D : va_G) (cI cJ cZ : ClassId) (sz : Nat) (q : Nat → Nat) (I : Nat → Int32) (S : Int64) (A : Nat → Nat → Int32) (o : Int32) (oI : Nat → Int32) (oA : Nat → Nat → Int32) (h : fX8_negative I A = some (o, oI, oA)) : Met l yX8_negative wsX8_negative rmX8_negative (sh_Pw D (sh_ty cI cJ cZ) sz (sh_w8 q cI cJ cZ I S A) [.ref (q 0)]) (sh_Qi D (sh_ty cI cJ cZ) (va_A (sh_w8 q cI cJ cZ I S A) sz) (sh_w8 q cI cJ cZ oI S oA) o) 0 0 (va_A (sh_w8 q cI cJ cZ I S A) sz) := by
  refine Met.ofW (cc := cX8_negative) (maxL := 1) (ret := (some .int)) (by decide) rfl ?_
  intro p e s m args below meth c s₁ hB hml hv
  obtain ⟨hargs, hsz, hP, hK, hD0⟩ := hv
  have hx := hB.exec
  have hb := hB.bytes
  have hr := hB.returns
  have hts := atoms_spec (ws := wsX8_negative) hB.pre
  have hown : s.vm.findClass RX8 = some m.cls := findClass_of_methodNamed hB.named
  have hlocks := hB.notSynchronized
  have hfix : CallFix p m c cX8_negative 1 s args wsX8_negative RX8 := ⟨hx, hb, hml, hown, hts⟩
  have hinX8 : ∀ w ∈ wsX80, w ∈ wsX8_negative := by decide +kernel
  have lk1 := hts (.fieldLink RX8 47 "ShadeTreeModel" "thrown" "I") (by decide +kernel)
  have lk2 := hts (.fieldLink RX8 16 "ShadeTreeModel" "page" "[I") (by decide +kernel)
  rw [show entryFrame m args 1 = entryFrame m ([.ref (q 0)] : List Value).toArray 1 by rw [hargs], lg_entry_eq]
  have hl := lv_entry ([.ref (q 0)]) (n := 1) (Nat.le_of_ble_eq_true rfl)
  generalize (lg_sl ([.ref (q 0)]) ++ List.replicate (1 - (lg_sl ([.ref (q 0)])).length) Slot.unset).toArray = ls at hl ⊢
  have hl : lv_has ls 1 [(0, .ref (q 0))] := hl
  subst hsz
  have hD := hD0.self (sz := s.heap.size)
  generalize hAe : va_A (sh_w8 q cI cJ cZ I S A) s.heap.size = Az at hD ⊢
  have hA : ∀ q : Nat, s.heap.size ≤ q → Az q := fun q h => by rw [← hAe]; exact Or.inr h
  have hS : va_S Az s.heap s.heap [] := va_S.rf
  generalize hQ : MQ below (sh_Qi D (sh_ty cI cJ cZ) Az (sh_w8 q cI cJ cZ oI S oA) o) args s 0 0 Az = Q
  unfold fX8_negative at h
  refine lv_aload_n hx hb dX8_negative_0 rfl (lv_at hl 0 rfl) ?_
  refine lv_iconst (v := 0) hx hb dX8_negative_1 (by decide) ?_
  refine sh_put (wn := (sh_w8 q cI cJ cZ (upd I 0 0) S A)) (ci := 8) (v := .int 0) (ty := .int) (C := RX8) (T := TX8) (N := 21) hx hb hts hinX8 tyX8 tyX8_ok nmX8 hown hK hP hD hS 0 rfl rfl 0 (by decide) lk1 (fun _ h9 => h9) rfl (by decide +kernel) rfl rfl (Nat.le_of_ble_eq_true rfl) rfl dX8_negative_2 (fun H locs hP hD hS => ?_)
  refine lv_aload_n hx hb dX8_negative_5 rfl (lv_at hl 0 rfl) ?_
  obtain ⟨u1, u2, hc3, h⟩ := sh_b2_e h
  refine sh_wVv (wn := (sh_w8 q cI cJ cZ u1 S u2)) (As := []) (rest := []) hfix (k_X8_note l D cI cJ cZ _ q (upd I 0 0) S A u1 u2 hc3) (cwV 0 hts gX8_negative_X8_note rfl rfl rfl hdV_X8_note ⟨Nat.le_of_ble_eq_true rfl, Nat.le_of_ble_eq_true rfl⟩) hP hK hD hS hA [0, 1, 2, 3, 4, 5, 6, 7, 8, 9, 10, 11, 12] [] [0, 1, 2, 3, 4, 5, 6, 7, 8, 9, 10, 11, 12] rfl rfl rfl rfl rfl rfl rfl 0 rfl rfl rfl hl.1 rfl (Nat.le_of_ble_eq_true rfl) dX8_negative_6 ⟨Nat.zero_le _, Nat.zero_le _⟩ (fun H locs hP hD hS => ?_)
  refine lv_aload_n hx hb dX8_negative_9 rfl (lv_at hl 0 rfl) ?_
  refine va_get (ci := 8) (v := .ref (q 3)) (C := RX8) (T := TX8) (N := 21) hx hb hts hinX8 hown hK hP 0 rfl rfl 4 (by decide) lk2 (fun _ h9 => h9) rfl dX8_negative_10 ?_
  obtain ⟨u4, hc5, h⟩ := sh_b1_e h
  refine sh_wSv (wn := (sh_w8 q cI cJ cZ u1 S (va_up u2 2 u4))) (As := [.ref (q 3)]) (rest := []) hfix (k_X8_goNegative l D cI cJ cZ _ (q 3) (u2 2) u4 hc5) (va_cwS 1 hts gX8_negative_X8_goNegative rfl rfl rfl hdS_X8_goNegative ⟨Nat.le_of_ble_eq_true rfl, Nat.le_of_ble_eq_true rfl⟩) hP hK hD hS hA [3] [0, 1, 2, 4, 5, 6, 7, 8, 9, 10, 11, 12] [0, 1, 2, 12, 3, 4, 5, 6, 7, 8, 9, 10, 11] rfl rfl rfl rfl rfl rfl rfl rfl hl.1 rfl (Nat.le_of_ble_eq_true rfl) dX8_negative_13 ⟨Nat.zero_le _, Nat.zero_le _⟩ (fun H locs hP hD hS => ?_)
  refine lv_aload_n hx hb dX8_negative_16 rfl (lv_at hl 0 rfl) ?_
  refine va_get (ci := 8) (v := .ref (q 3)) (C := RX8) (T := TX8) (N := 21) hx hb hts hinX8 hown hK hP 0 rfl rfl 4 (by decide) lk2 (fun _ h9 => h9) rfl dX8_negative_17 ?_
  obtain ⟨v6, hc7, h⟩ := sh_b1_e h
  refine sh_cSi (As := [.ref (q 3)]) (rest := []) hfix (k_X8_nodes l D cI cJ cZ (q 3) u4 v6 hc7) (va_cwS 1 hts gX8_negative_X8_nodes rfl rfl rfl hdS_X8_nodes ⟨Nat.le_of_ble_eq_true rfl, Nat.le_of_ble_eq_true rfl⟩) hP hK [3] rfl rfl hl.1 rfl (Nat.le_of_ble_eq_true rfl) dX8_negative_20 ⟨Nat.zero_le _, Nat.zero_le _⟩ ?_
  cases h
  exact sh_rwi hx hb hr hlocks hQ hK hP hD hS dX8_negative_23
theorem hdS_X8_stays : yX8_stays.cls ≠ "java/lang/invoke/MethodHandle" ∧ yX8_stays.cls ≠ "java/lang/invoke/VarHandle" ∧ (parseMethodDescriptor yX8_stays.desc).map (fun d => d.parameters.length) = some 4 := by decide +kernel
abbrev rmX8_stays : Room := { frames := 2, cells := 0, slots := 0, locals := 49 }
set_option maxHeartbeats 4000000 in
set_option maxRecDepth 100000 in
theorem k_X8_stays (l : Launch) (D : va_G) (cI cJ cZ : ClassId) (aA : Nat) (pA : Nat → Int32) (x1 : Int64) (x3 : Int32) (x4 : Int32) (o : Int32) (h : fX8_stays pA x1 x3 x4 = some o) : Met l yX8_stays wsX8_stays rmX8_stays (sh_Pr D (sh_ty cI cJ cZ) [(aA, .inl (cI, 39, .inl pA))] [.ref aA, .long x1, .int x3, .int x4]) (vp_Si (fun z => z = o)) 0 0 (fun _ => False) := by
  refine Met.ofW (cc := cX8_stays) (maxL := 5) (ret := (some .boolean)) (by decide) rfl ?_
  intro p e s m args below meth c s₁ hB hml hv
  obtain ⟨hargs, hP, hK⟩ := hv
  have hx := hB.exec
  have hb := hB.bytes
  have hr := hB.returns
  have hts := atoms_spec (ws := wsX8_stays) hB.pre
  have hown : s.vm.findClass RX8 = some m.cls := findClass_of_methodNamed hB.named
  have hlocks := hB.notSynchronized
  have hfix : CallFix p m c cX8_stays 5 s args wsX8_stays RX8 := ⟨hx, hb, hml, hown, hts⟩
  rw [show entryFrame m args 5 = entryFrame m ([.ref aA, .long x1, .int x3, .int x4] : List Value).toArray 5 by rw [hargs], lg_entry_eq]
  have hl := lv_entry ([.ref aA, .long x1, .int x3, .int x4]) (n := 5) (Nat.le_of_ble_eq_true rfl)
  generalize (lg_sl ([.ref aA, .long x1, .int x3, .int x4]) ++ List.replicate (5 - (lg_sl ([.ref aA, .long x1, .int x3, .int x4])).length) Slot.unset).toArray = ls at hl ⊢
  have hl : lv_has ls 5 [(0, .ref aA), (1, .long x1), (3, .int x3), (4, .int x4)] := hl
  generalize hQ : MQ below (vp_Si (fun z => z = o)) args s 0 0 (fun _ => False) = Q
  unfold fX8_stays at h
  refine lv_iload_n hx hb dX8_stays_0 rfl (lv_at hl 2 rfl) ?_
  refine lv_if_ne (tgt := 21) hx hb dX8_stays_1 (by decide) (fun g1 => ?_) (fun g1 => ?_)
  · rw [if_neg g1] at h
    refine lv_aload_n hx hb dX8_stays_21 rfl (lv_at hl 0 rfl) ?_
    refine lv_lload_n hx hb dX8_stays_22 rfl (lv_at hl 1 rfl) ?_
    refine lv_iconst (v := 1) hx hb dX8_stays_23 (by decide) ?_
    obtain ⟨v2, hc3, h⟩ := sh_b1_e h
    refine sh_cSi (As := [.ref aA, .long x1, .int 1]) (rest := []) hfix (k_X8_box l D cI cJ cZ aA pA x1 1 v2 hc3) (va_cwS 3 hts gX8_stays_X8_box rfl rfl rfl hdS_X8_box ⟨Nat.le_of_ble_eq_true rfl, Nat.le_of_ble_eq_true rfl⟩) hP hK [0] rfl rfl hl.1 rfl (Nat.le_of_ble_eq_true rfl) dX8_stays_24 ⟨Nat.zero_le _, Nat.zero_le _⟩ ?_
    refine lv_iload hx hb dX8_stays_27 (lv_at hl 3 rfl) ?_
    refine lv_icmp_ge (tgt := 43) hx hb dX8_stays_29 (by decide) (fun g4 => ?_) (fun g4 => ?_)
    · rw [if_pos g4] at h
      refine lv_iconst (v := 1) hx hb dX8_stays_43 (by decide) ?_
      refine lv_goto (tgt := 48) hx hb dX8_stays_44 (by decide) ?_
      exact sh_roz hx hb hr hlocks hQ ⟨rfl, (Option.some.inj h)⟩ dX8_stays_48
    · rw [if_neg g4] at h
      refine lv_aload_n hx hb dX8_stays_32 rfl (lv_at hl 0 rfl) ?_
      refine lv_lload_n hx hb dX8_stays_33 rfl (lv_at hl 1 rfl) ?_
      refine lv_iconst (v := 0) hx hb dX8_stays_34 (by decide) ?_
      obtain ⟨v5, hc6, h⟩ := sh_b1_e h
      refine sh_cSi (As := [.ref aA, .long x1, .int 0]) (rest := []) hfix (k_X8_box l D cI cJ cZ aA pA x1 0 v5 hc6) (va_cwS 3 hts gX8_stays_X8_box rfl rfl rfl hdS_X8_box ⟨Nat.le_of_ble_eq_true rfl, Nat.le_of_ble_eq_true rfl⟩) hP hK [0] rfl rfl hl.1 rfl (Nat.le_of_ble_eq_true rfl) dX8_stays_35 ⟨Nat.zero_le _, Nat.zero_le _⟩ ?_
      refine lv_iload hx hb dX8_stays_38 (lv_at hl 3 rfl) ?_
      refine lv_icmp_lt (tgt := 47) hx hb dX8_stays_40 (by decide) (fun g7 => ?_) (fun g7 => ?_)
      · rw [if_pos g7] at h
        refine lv_iconst (v := 0) hx hb dX8_stays_47 (by decide) ?_
        exact sh_roz hx hb hr hlocks hQ ⟨rfl, (Option.some.inj h)⟩ dX8_stays_48
      · rw [if_neg g7] at h
        refine lv_iconst (v := 1) hx hb dX8_stays_43 (by decide) ?_
        refine lv_goto (tgt := 48) hx hb dX8_stays_44 (by decide) ?_
        exact sh_roz hx hb hr hlocks hQ ⟨rfl, (Option.some.inj h)⟩ dX8_stays_48
  · rw [if_pos g1] at h
    refine lv_lload_n hx hb dX8_stays_4 rfl (lv_at hl 1 rfl) ?_
    obtain ⟨v8, hc9, h⟩ := sh_b1_e h
    refine sh_cSi (As := [.long x1]) (rest := []) hfix (k_X8_many l D cI cJ cZ x1 v8 hc9) (va_cwS 1 hts gX8_stays_X8_many rfl rfl rfl hdS_X8_many ⟨Nat.le_of_ble_eq_true rfl, Nat.le_of_ble_eq_true rfl⟩) hP hK [] rfl rfl hl.1 rfl (Nat.le_of_ble_eq_true rfl) dX8_stays_5 ⟨Nat.zero_le _, Nat.zero_le _⟩ ?_
    refine lv_iload hx hb dX8_stays_8 (lv_at hl 3 rfl) ?_
    refine lv_icmp_lt (tgt := 17) hx hb dX8_stays_10 (by decide) (fun g10 => ?_) (fun g10 => ?_)
    · rw [if_pos g10] at h
      refine lv_iconst (v := 0) hx hb dX8_stays_17 (by decide) ?_
      refine lv_goto (tgt := 48) hx hb dX8_stays_18 (by decide) ?_
      exact sh_roz hx hb hr hlocks hQ ⟨rfl, (Option.some.inj h)⟩ dX8_stays_48
    · rw [if_neg g10] at h
      refine lv_iconst (v := 1) hx hb dX8_stays_13 (by decide) ?_
      refine lv_goto (tgt := 48) hx hb dX8_stays_14 (by decide) ?_
      exact sh_roz hx hb hr hlocks hQ ⟨rfl, (Option.some.inj h)⟩ dX8_stays_48
theorem hdS_X8_sifted : yX8_sifted.cls ≠ "java/lang/invoke/MethodHandle" ∧ yX8_sifted.cls ≠ "java/lang/invoke/VarHandle" ∧ (parseMethodDescriptor yX8_sifted.desc).map (fun d => d.parameters.length) = some 4 := by decide +kernel
abbrev rmX8_sifted : Room := { frames := 4, cells := 0, slots := 0, locals := 102 }
set_option maxHeartbeats 4000000 in
set_option maxRecDepth 100000 in
theorem k_X8_sifted (l : Launch) (D : va_G) (cI cJ cZ : ClassId) (aA : Nat) (pA : Nat → Int32) (x1 : Int32) (x2 : Int32) (x3 : Int32) (o : Int32) (h : fX8_sifted pA x1 x2 x3 = some o) : Met l yX8_sifted wsX8_sifted rmX8_sifted (sh_Pr D (sh_ty cI cJ cZ) [(aA, .inl (cI, 39, .inl pA))] [.ref aA, .int x1, .int x2, .int x3]) (vp_Si (fun z => z = o)) 0 0 (fun _ => False) := by
  refine Met.ofW (cc := cX8_sifted) (maxL := 7) (ret := (some .int)) (by decide) rfl ?_
  intro p e s m args below meth c s₁ hB hml hv
  obtain ⟨hargs, hP, hK⟩ := hv
  have hx := hB.exec
  have hb := hB.bytes
  have hr := hB.returns
  have hts := atoms_spec (ws := wsX8_sifted) hB.pre
  have hown : s.vm.findClass RX8 = some m.cls := findClass_of_methodNamed hB.named
  have hlocks := hB.notSynchronized
  have hfix : CallFix p m c cX8_sifted 7 s args wsX8_sifted RX8 := ⟨hx, hb, hml, hown, hts⟩
  have lk1 := hts (.constantLong RX8 67 (-1)) (by decide +kernel)
  rw [show entryFrame m args 7 = entryFrame m ([.ref aA, .int x1, .int x2, .int x3] : List Value).toArray 7 by rw [hargs], lg_entry_eq]
  have hl := lv_entry ([.ref aA, .int x1, .int x2, .int x3]) (n := 7) (Nat.le_of_ble_eq_true rfl)
  generalize (lg_sl ([.ref aA, .int x1, .int x2, .int x3]) ++ List.replicate (7 - (lg_sl ([.ref aA, .int x1, .int x2, .int x3])).length) Slot.unset).toArray = ls at hl ⊢
  have hl : lv_has ls 7 [(0, .ref aA), (1, .int x1), (2, .int x2), (3, .int x3)] := hl
  generalize hQ : MQ below (vp_Si (fun z => z = o)) args s 0 0 (fun _ => False) = Q
  unfold fX8_sifted at h
  refine lv_aload_n hx hb dX8_sifted_0 rfl (lv_at hl 0 rfl) ?_
  refine lv_iconst (v := 3) hx hb dX8_sifted_1 (by decide) ?_
  refine lv_iload_n hx hb dX8_sifted_2 rfl (lv_at hl 1 rfl) ?_
  refine lv_iadd hx hb dX8_sifted_3 ?_
  obtain ⟨v1, hcv1, h⟩ := sh_b1_e h
  refine sh_iald hx hb hK hP 0 0 rfl rfl (sh_ald_e hcv1) dX8_sifted_4 ?_
  refine lv_istore (lv' := [(4, .int v1), (0, .ref aA), (1, .int x1), (2, .int x2), (3, .int x3)]) hx hb dX8_sifted_5 hl (by decide) rfl (fun ls hl => ?_)
  have LP10 : ∀ (n : Nat) (x1 : Int32) (x2 : Int32) (x3 : Int32) (x4 : Int32) (z : (Int32) ⊕ (Unit)) (ls : Array Slot), fX8_sifted_L7 n x1 x2 x3 x4 pA = some z → lv_has ls 7 [(0, .ref aA), (1, .int x1), (2, .int x2), (3, .int x3), (4, .int x4)] → (∀ x, z = .inl x → x = o) → (∀ (t : Unit), z = .inr t → ∀ (ls : Array Slot), lv_has ls 7 [(0, .ref aA)] → W p l e (headSpec wsX8_sifted rmX8_sifted).room s m args below meth c s.heap [] 0 0 Q (F0 m 45 ls [])) → W p l e (headSpec wsX8_sifted rmX8_sifted).room s m args below meth c s.heap [] 0 0 Q (F0 m 7 ls []) := by
    intro n
    induction n with
    | zero =>
      intro x1 x2 x3 x4 z ls h hl hret hk
      exact nomatch ((fX8_sifted_L7_z x1 x2 x3 x4 pA).symm.trans h)
    | succ n ih =>
      intro x1 x2 x3 x4 z ls h hl hret hk
      rw [fX8_sifted_L7_s] at h
      refine lv_iload hx hb dX8_sifted_7 (lv_at hl 4 rfl) ?_
      refine lv_if_lt (tgt := 45) hx hb dX8_sifted_9 (by decide) (fun g2 => ?_) (fun g2 => ?_)
      · rw [if_pos g2] at h
        exact hk () (Option.some.inj h).symm ls (lv_sub hl [0] rfl) 
      · rw [if_neg g2] at h
        refine lv_aload_n hx hb dX8_sifted_12 rfl (lv_at hl 0 rfl) ?_
        refine lv_iload_n hx hb dX8_sifted_13 rfl (lv_at hl 1 rfl) ?_
        refine lv_iload hx hb dX8_sifted_14 (lv_at hl 4 rfl) ?_
        obtain ⟨v3, hc4, h⟩ := sh_b1_e h
        refine sh_cSl (As := [.ref aA, .int x1, .int x4]) (rest := []) hfix (k_X8_part l D cI cJ cZ aA pA x1 x4 v3 hc4) (va_cwS 3 hts gX8_sifted_X8_part rfl rfl rfl hdS_X8_part ⟨Nat.le_of_ble_eq_true rfl, Nat.le_of_ble_eq_true rfl⟩) hP hK [0] rfl rfl hl.1 rfl (Nat.le_of_ble_eq_true rfl) dX8_sifted_16 ⟨Nat.zero_le _, Nat.zero_le _⟩ ?_
        refine lv_lstore (lv' := [(5, .long v3), (0, .ref aA), (1, .int x1), (2, .int x2), (3, .int x3), (4, .int x4)]) hx hb dX8_sifted_19 hl (by decide) rfl (fun ls hl => ?_)
        refine lv_aload_n hx hb dX8_sifted_21 rfl (lv_at hl 1 rfl) ?_
        refine lv_lload hx hb dX8_sifted_22 (lv_at hl 0 rfl) ?_
        refine lv_iload_n hx hb dX8_sifted_24 rfl (lv_at hl 3 rfl) ?_
        refine lv_iload_n hx hb dX8_sifted_25 rfl (lv_at hl 4 rfl) ?_
        obtain ⟨v5, hc6, h⟩ := sh_b1_e h
        refine sh_cSi (As := [.ref aA, .long v3, .int x2, .int x3]) (rest := []) hfix (k_X8_stays l D cI cJ cZ aA pA v3 x2 x3 v5 hc6) (va_cwS 4 hts gX8_sifted_X8_stays rfl rfl rfl hdS_X8_stays ⟨Nat.le_of_ble_eq_true rfl, Nat.le_of_ble_eq_true rfl⟩) hP hK [0] rfl rfl hl.1 rfl (Nat.le_of_ble_eq_true rfl) dX8_sifted_26 ⟨Nat.zero_le _, Nat.zero_le _⟩ ?_
        refine lv_if_eq (tgt := 39) hx hb dX8_sifted_29 (by decide) (fun g7 => ?_) (fun g7 => ?_)
        · rw [if_pos g7] at h
          refine lv_iinc (v := (x4 + (-1))) (lv' := [(4, .int (x4 + (-1))), (5, .long v3), (0, .ref aA), (1, .int x1), (2, .int x2), (3, .int x3)]) hx hb dX8_sifted_39 hl (k := 5) rfl rfl (by decide) rfl (fun ls hl => ?_)
          refine lv_goto (tgt := 7) hx hb dX8_sifted_42 (by decide) ?_
          exact ih x1 x2 x3 (x4 + (-1)) z ls h (lv_sub hl [2, 3, 4, 5, 0] rfl)  hret hk
        · rw [if_neg g7] at h
          refine lv_aload_n hx hb dX8_sifted_32 rfl (lv_at hl 1 rfl) ?_
          refine lv_lload hx hb dX8_sifted_33 (lv_at hl 0 rfl) ?_
          obtain ⟨v8, hc9, h⟩ := sh_b1_e h
          refine sh_cSi (As := [.ref aA, .long v3]) (rest := []) hfix (k_X8_level l D cI cJ cZ aA pA v3 v8 hc9) (va_cwS 2 hts gX8_sifted_X8_level rfl rfl rfl hdS_X8_level ⟨Nat.le_of_ble_eq_true rfl, Nat.le_of_ble_eq_true rfl⟩) hP hK [0] rfl rfl hl.1 rfl (Nat.le_of_ble_eq_true rfl) dX8_sifted_35 ⟨Nat.zero_le _, Nat.zero_le _⟩ ?_
          exact sh_roi hx hb hr hlocks hQ (hret _ (Option.some.inj h).symm) dX8_sifted_38
  obtain ⟨z11, hcz11, hrz11, hkz11⟩ := sh_bs_e h
  refine LP10 sh_fu x1 x2 x3 v1 z11 ls hcz11 (lv_sub hl [1, 2, 3, 4, 0] rfl)  hrz11 (fun t12 et12 ls hl  => ?_)
  have h := hkz11 t12 et12
  refine lv_aload_n hx hb dX8_sifted_45 rfl (lv_at hl 0 rfl) ?_
  refine lv_ldc2 hx hb hown lk1 dX8_sifted_46 ?_
  obtain ⟨v13, hc14, h⟩ := sh_b1_e h
  refine sh_cSi (As := [.ref aA, .long (-1)]) (rest := []) hfix (k_X8_level l D cI cJ cZ aA pA (-1) v13 hc14) (va_cwS 2 hts gX8_sifted_X8_level rfl rfl rfl hdS_X8_level ⟨Nat.le_of_ble_eq_true rfl, Nat.le_of_ble_eq_true rfl⟩) hP hK [0] rfl rfl hl.1 rfl (Nat.le_of_ble_eq_true rfl) dX8_sifted_49 ⟨Nat.zero_le _, Nat.zero_le _⟩ ?_
  exact sh_roi hx hb hr hlocks hQ (Option.some.inj h) dX8_sifted_52
theorem hdV_X8_goSift_p : yX8_goSift.cls = RX8 ∧ yX8_goSift.cls ≠ "java/lang/invoke/MethodHandle" ∧ yX8_goSift.cls ≠ "java/lang/invoke/VarHandle" ∧ (parseMethodDescriptor yX8_goSift.desc).map (fun d => d.parameters.length) = some 3 := by decide +kernel
abbrev rmX8_goSift_p : Room := { frames := 5, cells := 0, slots := 0, locals := 128 }
set_option maxHeartbeats 4000000 in
set_option maxRecDepth 100000 in
theorem k_X8_goSift_p (l : Launch) (D : va_G) (cI cJ cZ : ClassId) (sz : Nat) (q : Nat → Nat) (I : Nat → Int32) (S : Int64) (A : Nat → Nat → Int32) (x2 : Int32) (x3 : Int32) (o : Int32) (oA : Nat → Nat → Int32) (h : fX8_goSift_p A x2 x3 = some (o, oA)) : Met l yX8_goSift wsX8_goSift rmX8_goSift_p (sh_Pw D (sh_ty cI cJ cZ) sz (sh_w8 q cI cJ cZ I S A) [.ref (q 0), .ref (q 3), .int x2, .int x3]) (sh_Qi D (sh_ty cI cJ cZ) (va_A (sh_w8 q cI cJ cZ I S A) sz) (sh_w8 q cI cJ cZ I S oA) o) 0 0 (va_A (sh_w8 q cI cJ cZ I S A) sz) := by
  refine Met.ofW (cc := cX8_goSift) (maxL := 6) (ret := (some .int)) (by decide) rfl ?_
  intro p e s m args below meth c s₁ hB hml hv
  obtain ⟨hargs, hsz, hP, hK, hD0⟩ := hv
  have hx := hB.exec
  have hb := hB.bytes
  have hr := hB.returns
  have hts := atoms_spec (ws := wsX8_goSift) hB.pre
  have hown : s.vm.findClass RX8 = some m.cls := findClass_of_methodNamed hB.named
  have hlocks := hB.notSynchronized
  have hfix : CallFix p m c cX8_goSift 6 s args wsX8_goSift RX8 := ⟨hx, hb, hml, hown, hts⟩
  have hinX8 : ∀ w ∈ wsX80, w ∈ wsX8_goSift := by decide +kernel
  have lk1 := hts (.fieldLink RX8 22 "ShadeTreeModel" "changed" "[I") (by decide +kernel)
  rw [show entryFrame m args 6 = entryFrame m ([.ref (q 0), .ref (q 3), .int x2, .int x3] : List Value).toArray 6 by rw [hargs], lg_entry_eq]
  have hl := lv_entry ([.ref (q 0), .ref (q 3), .int x2, .int x3]) (n := 6) (Nat.le_of_ble_eq_true rfl)
  generalize (lg_sl ([.ref (q 0), .ref (q 3), .int x2, .int x3]) ++ List.replicate (6 - (lg_sl ([.ref (q 0), .ref (q 3), .int x2, .int x3])).length) Slot.unset).toArray = ls at hl ⊢
  have hl : lv_has ls 6 [(0, .ref (q 0)), (1, .ref (q 3)), (2, .int x2), (3, .int x3)] := hl
  subst hsz
  have hD := hD0.self (sz := s.heap.size)
  generalize hAe : va_A (sh_w8 q cI cJ cZ I S A) s.heap.size = Az at hD ⊢
  have hA : ∀ q : Nat, s.heap.size ≤ q → Az q := fun q h => by rw [← hAe]; exact Or.inr h
  have hS : va_S Az s.heap s.heap [] := va_S.rf
  generalize hQ : MQ below (sh_Qi D (sh_ty cI cJ cZ) Az (sh_w8 q cI cJ cZ I S oA) o) args s 0 0 Az = Q
  unfold fX8_goSift_p at h
  refine lv_iconst (v := 0) hx hb dX8_goSift_0 (by decide) ?_
  refine lv_istore (lv' := [(4, .int 0), (0, .ref (q 0)), (1, .ref (q 3)), (2, .int x2), (3, .int x3)]) hx hb dX8_goSift_1 hl (by decide) rfl (fun ls hl => ?_)
  refine lv_iconst (v := 0) hx hb dX8_goSift_3 (by decide) ?_
  refine lv_istore (lv' := [(5, .int 0), (4, .int 0), (0, .ref (q 0)), (1, .ref (q 3)), (2, .int x2), (3, .int x3)]) hx hb dX8_goSift_4 hl (by decide) rfl (fun ls hl => ?_)
  have LP10 : ∀ (n : Nat) (x2 : Int32) (x3 : Int32) (x4 : Int32) (x5 : Int32) (A : Nat → Nat → Int32) (ow4 : Int32) (oA : (Nat → Nat → Int32)) (H : Heap) (locs : List Loc) (ls : Array Slot), fX8_goSift_p_L6 n x2 x3 x4 x5 A = some (ow4, oA) → lv_has ls 6 [(0, .ref (q 0)), (1, .ref (q 3)), (2, .int x2), (3, .int x3), (4, .int x4), (5, .int x5)] → va_P D vwCl (sh_w8 q cI cJ cZ I S A) H → va_D Az (sh_w8 q cI cJ cZ I S A) → va_S Az s.heap H locs → (∀ (H : Heap) (locs : List Loc) (ls : Array Slot), lv_has ls 6 [(0, .ref (q 0)), (1, .ref (q 3)), (4, .int ow4)] → va_P D vwCl (sh_w8 q cI cJ cZ I S oA) H → va_D Az (sh_w8 q cI cJ cZ I S oA) → va_S Az s.heap H locs → W p l e (headSpec wsX8_goSift rmX8_goSift_p).room s m args below meth c H locs 0 0 Q (F0 m 62 ls [])) → W p l e (headSpec wsX8_goSift rmX8_goSift_p).room s m args below meth c H locs 0 0 Q (F0 m 6 ls []) := by
    intro n
    induction n with
    | zero =>
      intro x2 x3 x4 x5 A ow4 oA H locs ls h hl hP hD hS hk
      exact nomatch ((fX8_goSift_p_L6_z x2 x3 x4 x5 A).symm.trans h)
    | succ n ih =>
      intro x2 x3 x4 x5 A ow4 oA H locs ls h hl hP hD hS hk
      rw [fX8_goSift_p_L6_s] at h
      refine lv_iload hx hb dX8_goSift_6 (lv_at hl 5 rfl) ?_
      refine lv_aload_n hx hb dX8_goSift_8 rfl (lv_at hl 1 rfl) ?_
      obtain ⟨v1, hc2, h⟩ := sh_b1_e h
      refine sh_cSi (As := [.ref (q 3)]) (rest := [.int x5]) hfix (k_X8_dotsOf l D cI cJ cZ (q 3) (A 2) v1 hc2) (va_cwS 1 hts gX8_goSift_X8_dotsOf rfl rfl rfl hdS_X8_dotsOf ⟨Nat.le_of_ble_eq_true rfl, Nat.le_of_ble_eq_true rfl⟩) hP hK [3] rfl rfl hl.1 rfl (Nat.le_of_ble_eq_true rfl) dX8_goSift_9 ⟨Nat.zero_le _, Nat.zero_le _⟩ ?_
      refine lv_icmp_ge (tgt := 62) hx hb dX8_goSift_12 (by decide) (fun g3 => ?_) (fun g3 => ?_)
      · rw [if_pos g3] at h
        cases h
        exact hk _ _ ls (lv_sub hl [0, 1, 4] rfl) hP hD hS
      · rw [if_neg g3] at h
        refine lv_aload_n hx hb dX8_goSift_15 rfl (lv_at hl 0 rfl) ?_
        refine va_get (ci := 8) (v := .ref (q 5)) (C := RX8) (T := TX8) (N := 21) hx hb hts hinX8 hown hK hP 0 rfl rfl 6 (by decide) lk1 (fun _ h9 => h9) rfl dX8_goSift_16 ?_
        refine lv_iload hx hb dX8_goSift_19 (lv_at hl 5 rfl) ?_
        refine lv_aload_n hx hb dX8_goSift_21 rfl (lv_at hl 1 rfl) ?_
        refine lv_iload hx hb dX8_goSift_22 (lv_at hl 5 rfl) ?_
        refine lv_iload_n hx hb dX8_goSift_24 rfl (lv_at hl 2 rfl) ?_
        refine lv_iload_n hx hb dX8_goSift_25 rfl (lv_at hl 3 rfl) ?_
        obtain ⟨v4, hc5, h⟩ := sh_b1_e h
        refine sh_cSi (As := [.ref (q 3), .int x5, .int x2, .int x3]) (rest := [.int x5, .ref (q 5)]) hfix (k_X8_sifted l D cI cJ cZ (q 3) (A 2) x5 x2 x3 v4 hc5) (va_cwS 4 hts gX8_goSift_X8_sifted rfl rfl rfl hdS_X8_sifted ⟨Nat.le_of_ble_eq_true rfl, Nat.le_of_ble_eq_true rfl⟩) hP hK [3] rfl rfl hl.1 rfl (Nat.le_of_ble_eq_true rfl) dX8_goSift_26 ⟨Nat.zero_le _, Nat.zero_le _⟩ ?_
        obtain ⟨f6, hcf6, h⟩ := sh_b1_e h
        refine sh_iast (wn := (sh_w8 q cI cJ cZ I S (va_up A 4 f6))) hx hb hK hP hD hS 5 0 rfl rfl (sh_ast_e hcf6) rfl dX8_goSift_29 (fun H locs hP hD hS => ?_)
        refine lv_iload hx hb dX8_goSift_30 (lv_at hl 4 rfl) ?_
        refine lv_aload_n hx hb dX8_goSift_32 rfl (lv_at hl 0 rfl) ?_
        refine va_get (ci := 8) (v := .ref (q 5)) (C := RX8) (T := TX8) (N := 21) hx hb hts hinX8 hown hK hP 0 rfl rfl 6 (by decide) lk1 (fun _ h9 => h9) rfl dX8_goSift_33 ?_
        refine lv_iload hx hb dX8_goSift_36 (lv_at hl 5 rfl) ?_
        obtain ⟨v7, hcv7, h⟩ := sh_b1_e h
        refine sh_iald hx hb hK hP 5 0 rfl rfl (sh_ald_e hcv7) dX8_goSift_38 ?_
        refine lv_aload_n hx hb dX8_goSift_39 rfl (lv_at hl 1 rfl) ?_
        refine lv_iconst (v := 3) hx hb dX8_goSift_40 (by decide) ?_
        refine lv_iload hx hb dX8_goSift_41 (lv_at hl 5 rfl) ?_
        refine lv_iadd hx hb dX8_goSift_43 ?_
        obtain ⟨v8, hcv8, h⟩ := sh_b1_e h
        refine sh_iald hx hb hK hP 3 0 rfl rfl (sh_ald_e hcv8) dX8_goSift_44 ?_
        refine lv_icmp_ne (tgt := 52) hx hb dX8_goSift_45 (by decide) (fun g9 => ?_) (fun g9 => ?_)
        · rw [if_neg g9] at h
          refine lv_iconst (v := 1) hx hb dX8_goSift_52 (by decide) ?_
          refine lv_iadd hx hb dX8_goSift_53 ?_
          refine lv_istore (lv' := [(4, .int (x4 + 1)), (0, .ref (q 0)), (1, .ref (q 3)), (2, .int x2), (3, .int x3), (5, .int x5)]) hx hb dX8_goSift_54 hl (by decide) rfl (fun ls hl => ?_)
          refine lv_iinc (v := (x5 + 1)) (lv' := [(5, .int (x5 + 1)), (4, .int (x4 + 1)), (0, .ref (q 0)), (1, .ref (q 3)), (2, .int x2), (3, .int x3)]) hx hb dX8_goSift_56 hl (k := 5) rfl rfl (by decide) rfl (fun ls hl => ?_)
          refine lv_goto (tgt := 6) hx hb dX8_goSift_59 (by decide) ?_
          exact ih x2 x3 (x4 + 1) (x5 + 1) (va_up A 4 f6) ow4 oA _ _ ls h (lv_sub hl [2, 3, 4, 5, 1, 0] rfl) hP hD hS hk
        · rw [if_pos g9] at h
          refine lv_iconst (v := 0) hx hb dX8_goSift_48 (by decide) ?_
          refine lv_goto (tgt := 53) hx hb dX8_goSift_49 (by decide) ?_
          refine lv_iadd hx hb dX8_goSift_53 ?_
          refine lv_istore (lv' := [(4, .int (x4 + 0)), (0, .ref (q 0)), (1, .ref (q 3)), (2, .int x2), (3, .int x3), (5, .int x5)]) hx hb dX8_goSift_54 hl (by decide) rfl (fun ls hl => ?_)
          refine lv_iinc (v := (x5 + 1)) (lv' := [(5, .int (x5 + 1)), (4, .int (x4 + 0)), (0, .ref (q 0)), (1, .ref (q 3)), (2, .int x2), (3, .int x3)]) hx hb dX8_goSift_56 hl (k := 5) rfl rfl (by decide) rfl (fun ls hl => ?_)
          refine lv_goto (tgt := 6) hx hb dX8_goSift_59 (by decide) ?_
          exact ih x2 x3 (x4 + 0) (x5 + 1) (va_up A 4 f6) ow4 oA _ _ ls h (lv_sub hl [2, 3, 4, 5, 1, 0] rfl) hP hD hS hk
  obtain ⟨w11, w12, hc21, h⟩ := sh_b2_e h
  refine LP10 sh_fu x2 x3 0 0 A w11 w12 _ _ ls hc21 (lv_sub hl [2, 3, 4, 5, 1, 0] rfl) hP hD hS (fun H locs ls hl hP hD hS => ?_)
  refine lv_iconst (v := 0) hx hb dX8_goSift_62 (by decide) ?_
  refine lv_istore (lv' := [(5, .int 0), (0, .ref (q 0)), (1, .ref (q 3)), (4, .int w11)]) hx hb dX8_goSift_63 hl (by decide) rfl (fun ls hl => ?_)
  have LP18 : ∀ (n : Nat) (x4 : Int32) (x5 : Int32) (A : Nat → Nat → Int32) (oA : (Nat → Nat → Int32)) (H : Heap) (locs : List Loc) (ls : Array Slot), fX8_goSift_p_L65 n x4 x5 A = some oA → lv_has ls 6 [(0, .ref (q 0)), (1, .ref (q 3)), (4, .int x4), (5, .int x5)] → va_P D vwCl (sh_w8 q cI cJ cZ I S A) H → va_D Az (sh_w8 q cI cJ cZ I S A) → va_S Az s.heap H locs → (∀ (H : Heap) (locs : List Loc) (ls : Array Slot), lv_has ls 6 [(4, .int x4)] → va_P D vwCl (sh_w8 q cI cJ cZ I S oA) H → va_D Az (sh_w8 q cI cJ cZ I S oA) → va_S Az s.heap H locs → W p l e (headSpec wsX8_goSift rmX8_goSift_p).room s m args below meth c H locs 0 0 Q (F0 m 93 ls [])) → W p l e (headSpec wsX8_goSift rmX8_goSift_p).room s m args below meth c H locs 0 0 Q (F0 m 65 ls []) := by
    intro n
    induction n with
    | zero =>
      intro x4 x5 A oA H locs ls h hl hP hD hS hk
      exact nomatch ((fX8_goSift_p_L65_z x4 x5 A).symm.trans h)
    | succ n ih =>
      intro x4 x5 A oA H locs ls h hl hP hD hS hk
      rw [fX8_goSift_p_L65_s] at h
      refine lv_iload hx hb dX8_goSift_65 (lv_at hl 3 rfl) ?_
      refine lv_aload_n hx hb dX8_goSift_67 rfl (lv_at hl 1 rfl) ?_
      obtain ⟨v13, hc14, h⟩ := sh_b1_e h
      refine sh_cSi (As := [.ref (q 3)]) (rest := [.int x5]) hfix (k_X8_dotsOf l D cI cJ cZ (q 3) (A 2) v13 hc14) (va_cwS 1 hts gX8_goSift_X8_dotsOf rfl rfl rfl hdS_X8_dotsOf ⟨Nat.le_of_ble_eq_true rfl, Nat.le_of_ble_eq_true rfl⟩) hP hK [3] rfl rfl hl.1 rfl (Nat.le_of_ble_eq_true rfl) dX8_goSift_68 ⟨Nat.zero_le _, Nat.zero_le _⟩ ?_
      refine lv_icmp_ge (tgt := 93) hx hb dX8_goSift_71 (by decide) (fun g15 => ?_) (fun g15 => ?_)
      · rw [if_pos g15] at h
        cases h
        exact hk _ _ ls (lv_sub hl [2] rfl) hP hD hS
      · rw [if_neg g15] at h
        refine lv_aload_n hx hb dX8_goSift_74 rfl (lv_at hl 1 rfl) ?_
        refine lv_iconst (v := 3) hx hb dX8_goSift_75 (by decide) ?_
        refine lv_iload hx hb dX8_goSift_76 (lv_at hl 3 rfl) ?_
        refine lv_iadd hx hb dX8_goSift_78 ?_
        refine lv_aload_n hx hb dX8_goSift_79 rfl (lv_at hl 0 rfl) ?_
        refine va_get (ci := 8) (v := .ref (q 5)) (C := RX8) (T := TX8) (N := 21) hx hb hts hinX8 hown hK hP 0 rfl rfl 6 (by decide) lk1 (fun _ h9 => h9) rfl dX8_goSift_80 ?_
        refine lv_iload hx hb dX8_goSift_83 (lv_at hl 3 rfl) ?_
        obtain ⟨v16, hcv16, h⟩ := sh_b1_e h
        refine sh_iald hx hb hK hP 5 0 rfl rfl (sh_ald_e hcv16) dX8_goSift_85 ?_
        obtain ⟨f17, hcf17, h⟩ := sh_b1_e h
        refine sh_iast (wn := (sh_w8 q cI cJ cZ I S (va_up A 2 f17))) hx hb hK hP hD hS 3 0 rfl rfl (sh_ast_e hcf17) rfl dX8_goSift_86 (fun H locs hP hD hS => ?_)
        refine lv_iinc (v := (x5 + 1)) (lv' := [(5, .int (x5 + 1)), (0, .ref (q 0)), (1, .ref (q 3)), (4, .int x4)]) hx hb dX8_goSift_87 hl (k := 3) rfl rfl (by decide) rfl (fun ls hl => ?_)
        refine lv_goto (tgt := 65) hx hb dX8_goSift_90 (by decide) ?_
        exact ih x4 (x5 + 1) (va_up A 2 f17) oA _ _ ls h (lv_sub hl [1, 2, 3, 0] rfl) hP hD hS hk
  obtain ⟨w19, hc20, h⟩ := sh_b1_e h
  refine LP18 sh_fu w11 0 w12 w19 _ _ ls hc20 (lv_sub hl [1, 2, 3, 0] rfl) hP hD hS (fun H locs ls hl hP hD hS => ?_)
  refine lv_iload hx hb dX8_goSift_93 (lv_at hl 0 rfl) ?_
  cases h
  exact sh_rwi hx hb hr hlocks hQ hK hP hD hS dX8_goSift_95
theorem hdV_X8_goSift_t : yX8_goSift.cls = RX8 ∧ yX8_goSift.cls ≠ "java/lang/invoke/MethodHandle" ∧ yX8_goSift.cls ≠ "java/lang/invoke/VarHandle" ∧ (parseMethodDescriptor yX8_goSift.desc).map (fun d => d.parameters.length) = some 3 := by decide +kernel
abbrev rmX8_goSift_t : Room := { frames := 5, cells := 0, slots := 0, locals := 128 }
set_option maxHeartbeats 4000000 in
set_option maxRecDepth 100000 in
theorem k_X8_goSift_t (l : Launch) (D : va_G) (cI cJ cZ : ClassId) (sz : Nat) (q : Nat → Nat) (I : Nat → Int32) (S : Int64) (A : Nat → Nat → Int32) (x2 : Int32) (x3 : Int32) (o : Int32) (oA : Nat → Nat → Int32) (h : fX8_goSift_t A x2 x3 = some (o, oA)) : Met l yX8_goSift wsX8_goSift rmX8_goSift_t (sh_Pw D (sh_ty cI cJ cZ) sz (sh_w8 q cI cJ cZ I S A) [.ref (q 0), .ref (q 4), .int x2, .int x3]) (sh_Qi D (sh_ty cI cJ cZ) (va_A (sh_w8 q cI cJ cZ I S A) sz) (sh_w8 q cI cJ cZ I S oA) o) 0 0 (va_A (sh_w8 q cI cJ cZ I S A) sz) := by
  refine Met.ofW (cc := cX8_goSift) (maxL := 6) (ret := (some .int)) (by decide) rfl ?_
  intro p e s m args below meth c s₁ hB hml hv
  obtain ⟨hargs, hsz, hP, hK, hD0⟩ := hv
  have hx := hB.exec
  have hb := hB.bytes
  have hr := hB.returns
  have hts := atoms_spec (ws := wsX8_goSift) hB.pre
  have hown : s.vm.findClass RX8 = some m.cls := findClass_of_methodNamed hB.named
  have hlocks := hB.notSynchronized
  have hfix : CallFix p m c cX8_goSift 6 s args wsX8_goSift RX8 := ⟨hx, hb, hml, hown, hts⟩
  have hinX8 : ∀ w ∈ wsX80, w ∈ wsX8_goSift := by decide +kernel
  have lk1 := hts (.fieldLink RX8 22 "ShadeTreeModel" "changed" "[I") (by decide +kernel)
  rw [show entryFrame m args 6 = entryFrame m ([.ref (q 0), .ref (q 4), .int x2, .int x3] : List Value).toArray 6 by rw [hargs], lg_entry_eq]
  have hl := lv_entry ([.ref (q 0), .ref (q 4), .int x2, .int x3]) (n := 6) (Nat.le_of_ble_eq_true rfl)
  generalize (lg_sl ([.ref (q 0), .ref (q 4), .int x2, .int x3]) ++ List.replicate (6 - (lg_sl ([.ref (q 0), .ref (q 4), .int x2, .int x3])).length) Slot.unset).toArray = ls at hl ⊢
  have hl : lv_has ls 6 [(0, .ref (q 0)), (1, .ref (q 4)), (2, .int x2), (3, .int x3)] := hl
  subst hsz
  have hD := hD0.self (sz := s.heap.size)
  generalize hAe : va_A (sh_w8 q cI cJ cZ I S A) s.heap.size = Az at hD ⊢
  have hA : ∀ q : Nat, s.heap.size ≤ q → Az q := fun q h => by rw [← hAe]; exact Or.inr h
  have hS : va_S Az s.heap s.heap [] := va_S.rf
  generalize hQ : MQ below (sh_Qi D (sh_ty cI cJ cZ) Az (sh_w8 q cI cJ cZ I S oA) o) args s 0 0 Az = Q
  unfold fX8_goSift_t at h
  refine lv_iconst (v := 0) hx hb dX8_goSift_0 (by decide) ?_
  refine lv_istore (lv' := [(4, .int 0), (0, .ref (q 0)), (1, .ref (q 4)), (2, .int x2), (3, .int x3)]) hx hb dX8_goSift_1 hl (by decide) rfl (fun ls hl => ?_)
  refine lv_iconst (v := 0) hx hb dX8_goSift_3 (by decide) ?_
  refine lv_istore (lv' := [(5, .int 0), (4, .int 0), (0, .ref (q 0)), (1, .ref (q 4)), (2, .int x2), (3, .int x3)]) hx hb dX8_goSift_4 hl (by decide) rfl (fun ls hl => ?_)
  have LP10 : ∀ (n : Nat) (x2 : Int32) (x3 : Int32) (x4 : Int32) (x5 : Int32) (A : Nat → Nat → Int32) (ow4 : Int32) (oA : (Nat → Nat → Int32)) (H : Heap) (locs : List Loc) (ls : Array Slot), fX8_goSift_t_L6 n x2 x3 x4 x5 A = some (ow4, oA) → lv_has ls 6 [(0, .ref (q 0)), (1, .ref (q 4)), (2, .int x2), (3, .int x3), (4, .int x4), (5, .int x5)] → va_P D vwCl (sh_w8 q cI cJ cZ I S A) H → va_D Az (sh_w8 q cI cJ cZ I S A) → va_S Az s.heap H locs → (∀ (H : Heap) (locs : List Loc) (ls : Array Slot), lv_has ls 6 [(0, .ref (q 0)), (1, .ref (q 4)), (4, .int ow4)] → va_P D vwCl (sh_w8 q cI cJ cZ I S oA) H → va_D Az (sh_w8 q cI cJ cZ I S oA) → va_S Az s.heap H locs → W p l e (headSpec wsX8_goSift rmX8_goSift_t).room s m args below meth c H locs 0 0 Q (F0 m 62 ls [])) → W p l e (headSpec wsX8_goSift rmX8_goSift_t).room s m args below meth c H locs 0 0 Q (F0 m 6 ls []) := by
    intro n
    induction n with
    | zero =>
      intro x2 x3 x4 x5 A ow4 oA H locs ls h hl hP hD hS hk
      exact nomatch ((fX8_goSift_t_L6_z x2 x3 x4 x5 A).symm.trans h)
    | succ n ih =>
      intro x2 x3 x4 x5 A ow4 oA H locs ls h hl hP hD hS hk
      rw [fX8_goSift_t_L6_s] at h
      refine lv_iload hx hb dX8_goSift_6 (lv_at hl 5 rfl) ?_
      refine lv_aload_n hx hb dX8_goSift_8 rfl (lv_at hl 1 rfl) ?_
      obtain ⟨v1, hc2, h⟩ := sh_b1_e h
      refine sh_cSi (As := [.ref (q 4)]) (rest := [.int x5]) hfix (k_X8_dotsOf l D cI cJ cZ (q 4) (A 3) v1 hc2) (va_cwS 1 hts gX8_goSift_X8_dotsOf rfl rfl rfl hdS_X8_dotsOf ⟨Nat.le_of_ble_eq_true rfl, Nat.le_of_ble_eq_true rfl⟩) hP hK [4] rfl rfl hl.1 rfl (Nat.le_of_ble_eq_true rfl) dX8_goSift_9 ⟨Nat.zero_le _, Nat.zero_le _⟩ ?_
      refine lv_icmp_ge (tgt := 62) hx hb dX8_goSift_12 (by decide) (fun g3 => ?_) (fun g3 => ?_)
      · rw [if_pos g3] at h
        cases h
        exact hk _ _ ls (lv_sub hl [0, 1, 4] rfl) hP hD hS
      · rw [if_neg g3] at h
        refine lv_aload_n hx hb dX8_goSift_15 rfl (lv_at hl 0 rfl) ?_
        refine va_get (ci := 8) (v := .ref (q 5)) (C := RX8) (T := TX8) (N := 21) hx hb hts hinX8 hown hK hP 0 rfl rfl 6 (by decide) lk1 (fun _ h9 => h9) rfl dX8_goSift_16 ?_
        refine lv_iload hx hb dX8_goSift_19 (lv_at hl 5 rfl) ?_
        refine lv_aload_n hx hb dX8_goSift_21 rfl (lv_at hl 1 rfl) ?_
        refine lv_iload hx hb dX8_goSift_22 (lv_at hl 5 rfl) ?_
        refine lv_iload_n hx hb dX8_goSift_24 rfl (lv_at hl 2 rfl) ?_
        refine lv_iload_n hx hb dX8_goSift_25 rfl (lv_at hl 3 rfl) ?_
        obtain ⟨v4, hc5, h⟩ := sh_b1_e h
        refine sh_cSi (As := [.ref (q 4), .int x5, .int x2, .int x3]) (rest := [.int x5, .ref (q 5)]) hfix (k_X8_sifted l D cI cJ cZ (q 4) (A 3) x5 x2 x3 v4 hc5) (va_cwS 4 hts gX8_goSift_X8_sifted rfl rfl rfl hdS_X8_sifted ⟨Nat.le_of_ble_eq_true rfl, Nat.le_of_ble_eq_true rfl⟩) hP hK [4] rfl rfl hl.1 rfl (Nat.le_of_ble_eq_true rfl) dX8_goSift_26 ⟨Nat.zero_le _, Nat.zero_le _⟩ ?_
        obtain ⟨f6, hcf6, h⟩ := sh_b1_e h
        refine sh_iast (wn := (sh_w8 q cI cJ cZ I S (va_up A 4 f6))) hx hb hK hP hD hS 5 0 rfl rfl (sh_ast_e hcf6) rfl dX8_goSift_29 (fun H locs hP hD hS => ?_)
        refine lv_iload hx hb dX8_goSift_30 (lv_at hl 4 rfl) ?_
        refine lv_aload_n hx hb dX8_goSift_32 rfl (lv_at hl 0 rfl) ?_
        refine va_get (ci := 8) (v := .ref (q 5)) (C := RX8) (T := TX8) (N := 21) hx hb hts hinX8 hown hK hP 0 rfl rfl 6 (by decide) lk1 (fun _ h9 => h9) rfl dX8_goSift_33 ?_
        refine lv_iload hx hb dX8_goSift_36 (lv_at hl 5 rfl) ?_
        obtain ⟨v7, hcv7, h⟩ := sh_b1_e h
        refine sh_iald hx hb hK hP 5 0 rfl rfl (sh_ald_e hcv7) dX8_goSift_38 ?_
        refine lv_aload_n hx hb dX8_goSift_39 rfl (lv_at hl 1 rfl) ?_
        refine lv_iconst (v := 3) hx hb dX8_goSift_40 (by decide) ?_
        refine lv_iload hx hb dX8_goSift_41 (lv_at hl 5 rfl) ?_
        refine lv_iadd hx hb dX8_goSift_43 ?_
        obtain ⟨v8, hcv8, h⟩ := sh_b1_e h
        refine sh_iald hx hb hK hP 4 0 rfl rfl (sh_ald_e hcv8) dX8_goSift_44 ?_
        refine lv_icmp_ne (tgt := 52) hx hb dX8_goSift_45 (by decide) (fun g9 => ?_) (fun g9 => ?_)
        · rw [if_neg g9] at h
          refine lv_iconst (v := 1) hx hb dX8_goSift_52 (by decide) ?_
          refine lv_iadd hx hb dX8_goSift_53 ?_
          refine lv_istore (lv' := [(4, .int (x4 + 1)), (0, .ref (q 0)), (1, .ref (q 4)), (2, .int x2), (3, .int x3), (5, .int x5)]) hx hb dX8_goSift_54 hl (by decide) rfl (fun ls hl => ?_)
          refine lv_iinc (v := (x5 + 1)) (lv' := [(5, .int (x5 + 1)), (4, .int (x4 + 1)), (0, .ref (q 0)), (1, .ref (q 4)), (2, .int x2), (3, .int x3)]) hx hb dX8_goSift_56 hl (k := 5) rfl rfl (by decide) rfl (fun ls hl => ?_)
          refine lv_goto (tgt := 6) hx hb dX8_goSift_59 (by decide) ?_
          exact ih x2 x3 (x4 + 1) (x5 + 1) (va_up A 4 f6) ow4 oA _ _ ls h (lv_sub hl [2, 3, 4, 5, 1, 0] rfl) hP hD hS hk
        · rw [if_pos g9] at h
          refine lv_iconst (v := 0) hx hb dX8_goSift_48 (by decide) ?_
          refine lv_goto (tgt := 53) hx hb dX8_goSift_49 (by decide) ?_
          refine lv_iadd hx hb dX8_goSift_53 ?_
          refine lv_istore (lv' := [(4, .int (x4 + 0)), (0, .ref (q 0)), (1, .ref (q 4)), (2, .int x2), (3, .int x3), (5, .int x5)]) hx hb dX8_goSift_54 hl (by decide) rfl (fun ls hl => ?_)
          refine lv_iinc (v := (x5 + 1)) (lv' := [(5, .int (x5 + 1)), (4, .int (x4 + 0)), (0, .ref (q 0)), (1, .ref (q 4)), (2, .int x2), (3, .int x3)]) hx hb dX8_goSift_56 hl (k := 5) rfl rfl (by decide) rfl (fun ls hl => ?_)
          refine lv_goto (tgt := 6) hx hb dX8_goSift_59 (by decide) ?_
          exact ih x2 x3 (x4 + 0) (x5 + 1) (va_up A 4 f6) ow4 oA _ _ ls h (lv_sub hl [2, 3, 4, 5, 1, 0] rfl) hP hD hS hk
  obtain ⟨w11, w12, hc21, h⟩ := sh_b2_e h
  refine LP10 sh_fu x2 x3 0 0 A w11 w12 _ _ ls hc21 (lv_sub hl [2, 3, 4, 5, 1, 0] rfl) hP hD hS (fun H locs ls hl hP hD hS => ?_)
  refine lv_iconst (v := 0) hx hb dX8_goSift_62 (by decide) ?_
  refine lv_istore (lv' := [(5, .int 0), (0, .ref (q 0)), (1, .ref (q 4)), (4, .int w11)]) hx hb dX8_goSift_63 hl (by decide) rfl (fun ls hl => ?_)
  have LP18 : ∀ (n : Nat) (x4 : Int32) (x5 : Int32) (A : Nat → Nat → Int32) (oA : (Nat → Nat → Int32)) (H : Heap) (locs : List Loc) (ls : Array Slot), fX8_goSift_t_L65 n x4 x5 A = some oA → lv_has ls 6 [(0, .ref (q 0)), (1, .ref (q 4)), (4, .int x4), (5, .int x5)] → va_P D vwCl (sh_w8 q cI cJ cZ I S A) H → va_D Az (sh_w8 q cI cJ cZ I S A) → va_S Az s.heap H locs → (∀ (H : Heap) (locs : List Loc) (ls : Array Slot), lv_has ls 6 [(4, .int x4)] → va_P D vwCl (sh_w8 q cI cJ cZ I S oA) H → va_D Az (sh_w8 q cI cJ cZ I S oA) → va_S Az s.heap H locs → W p l e (headSpec wsX8_goSift rmX8_goSift_t).room s m args below meth c H locs 0 0 Q (F0 m 93 ls [])) → W p l e (headSpec wsX8_goSift rmX8_goSift_t).room s m args below meth c H locs 0 0 Q (F0 m 65 ls []) := by
    intro n
    induction n with
    | zero =>
      intro x4 x5 A oA H locs ls h hl hP hD hS hk
      exact nomatch ((fX8_goSift_t_L65_z x4 x5 A).symm.trans h)
    | succ n ih =>
      intro x4 x5 A oA H locs ls h hl hP hD hS hk
      rw [fX8_goSift_t_L65_s] at h
      refine lv_iload hx hb dX8_goSift_65 (lv_at hl 3 rfl) ?_
      refine lv_aload_n hx hb dX8_goSift_67 rfl (lv_at hl 1 rfl) ?_
      obtain ⟨v13, hc14, h⟩ := sh_b1_e h
      refine sh_cSi (As := [.ref (q 4)]) (rest := [.int x5]) hfix (k_X8_dotsOf l D cI cJ cZ (q 4) (A 3) v13 hc14) (va_cwS 1 hts gX8_goSift_X8_dotsOf rfl rfl rfl hdS_X8_dotsOf ⟨Nat.le_of_ble_eq_true rfl, Nat.le_of_ble_eq_true rfl⟩) hP hK [4] rfl rfl hl.1 rfl (Nat.le_of_ble_eq_true rfl) dX8_goSift_68 ⟨Nat.zero_le _, Nat.zero_le _⟩ ?_
      refine lv_icmp_ge (tgt := 93) hx hb dX8_goSift_71 (by decide) (fun g15 => ?_) (fun g15 => ?_)
      · rw [if_pos g15] at h
        cases h
        exact hk _ _ ls (lv_sub hl [2] rfl) hP hD hS
      · rw [if_neg g15] at h
        refine lv_aload_n hx hb dX8_goSift_74 rfl (lv_at hl 1 rfl) ?_
        refine lv_iconst (v := 3) hx hb dX8_goSift_75 (by decide) ?_
        refine lv_iload hx hb dX8_goSift_76 (lv_at hl 3 rfl) ?_
        refine lv_iadd hx hb dX8_goSift_78 ?_
        refine lv_aload_n hx hb dX8_goSift_79 rfl (lv_at hl 0 rfl) ?_
        refine va_get (ci := 8) (v := .ref (q 5)) (C := RX8) (T := TX8) (N := 21) hx hb hts hinX8 hown hK hP 0 rfl rfl 6 (by decide) lk1 (fun _ h9 => h9) rfl dX8_goSift_80 ?_
        refine lv_iload hx hb dX8_goSift_83 (lv_at hl 3 rfl) ?_
        obtain ⟨v16, hcv16, h⟩ := sh_b1_e h
        refine sh_iald hx hb hK hP 5 0 rfl rfl (sh_ald_e hcv16) dX8_goSift_85 ?_
        obtain ⟨f17, hcf17, h⟩ := sh_b1_e h
        refine sh_iast (wn := (sh_w8 q cI cJ cZ I S (va_up A 3 f17))) hx hb hK hP hD hS 4 0 rfl rfl (sh_ast_e hcf17) rfl dX8_goSift_86 (fun H locs hP hD hS => ?_)
        refine lv_iinc (v := (x5 + 1)) (lv' := [(5, .int (x5 + 1)), (0, .ref (q 0)), (1, .ref (q 4)), (4, .int x4)]) hx hb dX8_goSift_87 hl (k := 3) rfl rfl (by decide) rfl (fun ls hl => ?_)
        refine lv_goto (tgt := 65) hx hb dX8_goSift_90 (by decide) ?_
        exact ih x4 (x5 + 1) (va_up A 3 f17) oA _ _ ls h (lv_sub hl [1, 2, 3, 0] rfl) hP hD hS hk
  obtain ⟨w19, hc20, h⟩ := sh_b1_e h
  refine LP18 sh_fu w11 0 w12 w19 _ _ ls hc20 (lv_sub hl [1, 2, 3, 0] rfl) hP hD hS (fun H locs ls hl hP hD hS => ?_)
  refine lv_iload hx hb dX8_goSift_93 (lv_at hl 0 rfl) ?_
  cases h
  exact sh_rwi hx hb hr hlocks hQ hK hP hD hS dX8_goSift_95
theorem hdV_X8_sift : yX8_sift.cls = RX8 ∧ yX8_sift.cls ≠ "java/lang/invoke/MethodHandle" ∧ yX8_sift.cls ≠ "java/lang/invoke/VarHandle" ∧ (parseMethodDescriptor yX8_sift.desc).map (fun d => d.parameters.length) = some 2 := by decide +kernel
abbrev rmX8_sift : Room := { frames := 6, cells := 0, slots := 0, locals := 153 }
set_option maxHeartbeats 4000000 in
set_option maxRecDepth 100000 in
theorem k_X8_sift (l : Launch) (D : va_G) (cI cJ cZ : ClassId) (sz : Nat) (q : Nat → Nat) (I : Nat → Int32) (S : Int64) (A : Nat → Nat → Int32) (x1 : Int32) (x2 : Int32) (o : Int32) (oI : Nat → Int32) (oA : Nat → Nat → Int32) (h : fX8_sift I A x1 x2 = some (o, oI, oA)) : Met l yX8_sift wsX8_sift rmX8_sift (sh_Pw D (sh_ty cI cJ cZ) sz (sh_w8 q cI cJ cZ I S A) [.ref (q 0), .int x1, .int x2]) (sh_Qi D (sh_ty cI cJ cZ) (va_A (sh_w8 q cI cJ cZ I S A) sz) (sh_w8 q cI cJ cZ oI S oA) o) 0 0 (va_A (sh_w8 q cI cJ cZ I S A) sz) := by
  refine Met.ofW (cc := cX8_sift) (maxL := 3) (ret := (some .int)) (by decide) rfl ?_
  intro p e s m args below meth c s₁ hB hml hv
  obtain ⟨hargs, hsz, hP, hK, hD0⟩ := hv
  have hx := hB.exec
  have hb := hB.bytes
  have hr := hB.returns
  have hts := atoms_spec (ws := wsX8_sift) hB.pre
  have hown : s.vm.findClass RX8 = some m.cls := findClass_of_methodNamed hB.named
  have hlocks := hB.notSynchronized
  have hfix : CallFix p m c cX8_sift 3 s args wsX8_sift RX8 := ⟨hx, hb, hml, hown, hts⟩
  have hinX8 : ∀ w ∈ wsX80, w ∈ wsX8_sift := by decide +kernel
  have lk1 := hts (.fieldLink RX8 47 "ShadeTreeModel" "thrown" "I") (by decide +kernel)
  have lk2 := hts (.constantLong RX8 115 (6)) (by decide +kernel)
  have lk3 := hts (.fieldLink RX8 16 "ShadeTreeModel" "page" "[I") (by decide +kernel)
  have lk4 := hts (.constantLong RX8 181 (36)) (by decide +kernel)
  rw [show entryFrame m args 3 = entryFrame m ([.ref (q 0), .int x1, .int x2] : List Value).toArray 3 by rw [hargs], lg_entry_eq]
  have hl := lv_entry ([.ref (q 0), .int x1, .int x2]) (n := 3) (Nat.le_of_ble_eq_true rfl)
  generalize (lg_sl ([.ref (q 0), .int x1, .int x2]) ++ List.replicate (3 - (lg_sl ([.ref (q 0), .int x1, .int x2])).length) Slot.unset).toArray = ls at hl ⊢
  have hl : lv_has ls 3 [(0, .ref (q 0)), (1, .int x1), (2, .int x2)] := hl
  subst hsz
  have hD := hD0.self (sz := s.heap.size)
  generalize hAe : va_A (sh_w8 q cI cJ cZ I S A) s.heap.size = Az at hD ⊢
  have hA : ∀ q : Nat, s.heap.size ≤ q → Az q := fun q h => by rw [← hAe]; exact Or.inr h
  have hS : va_S Az s.heap s.heap [] := va_S.rf
  generalize hQ : MQ below (sh_Qi D (sh_ty cI cJ cZ) Az (sh_w8 q cI cJ cZ oI S oA) o) args s 0 0 Az = Q
  unfold fX8_sift at h
  refine lv_aload_n hx hb dX8_sift_0 rfl (lv_at hl 0 rfl) ?_
  refine lv_iconst (v := 0) hx hb dX8_sift_1 (by decide) ?_
  refine sh_put (wn := (sh_w8 q cI cJ cZ (upd I 0 0) S A)) (ci := 8) (v := .int 0) (ty := .int) (C := RX8) (T := TX8) (N := 21) hx hb hts hinX8 tyX8 tyX8_ok nmX8 hown hK hP hD hS 0 rfl rfl 0 (by decide) lk1 (fun _ h9 => h9) rfl (by decide +kernel) rfl rfl (Nat.le_of_ble_eq_true rfl) rfl dX8_sift_2 (fun H locs hP hD hS => ?_)
  refine lv_iload_n hx hb dX8_sift_5 rfl (lv_at hl 1 rfl) ?_
  refine lv_i2l (v := (Int32.toInt64 x1)) hx hb dX8_sift_6 rfl ?_
  refine lv_lconst (v := 0) hx hb dX8_sift_7 (by decide) ?_
  refine lv_lconst (v := 1) hx hb dX8_sift_8 (by decide) ?_
  obtain ⟨v1, hc2, h⟩ := sh_b1_e h
  refine sh_cSi (As := [.long (Int32.toInt64 x1), .long 0, .long 1]) (rest := []) hfix (k_X8_in l D cI cJ cZ (Int32.toInt64 x1) 0 1 v1 hc2) (va_cwS 3 hts gX8_sift_X8_in rfl rfl rfl hdS_X8_in ⟨Nat.le_of_ble_eq_true rfl, Nat.le_of_ble_eq_true rfl⟩) hP hK [] rfl rfl hl.1 rfl (Nat.le_of_ble_eq_true rfl) dX8_sift_9 ⟨Nat.zero_le _, Nat.zero_le _⟩ ?_
  refine lv_if_eq (tgt := 37) hx hb dX8_sift_12 (by decide) (fun g3 => ?_) (fun g3 => ?_)
  · rw [if_pos g3] at h
    refine lv_bipush (v := -2) hx hb dX8_sift_37 (by decide) ?_
    cases h
    exact sh_rwi hx hb hr hlocks hQ hK hP hD hS dX8_sift_39
  · rw [if_neg g3] at h
    refine lv_iload_n hx hb dX8_sift_15 rfl (lv_at hl 2 rfl) ?_
    refine lv_i2l (v := (Int32.toInt64 x2)) hx hb dX8_sift_16 rfl ?_
    refine lv_lconst (v := 1) hx hb dX8_sift_17 (by decide) ?_
    refine lv_iload_n hx hb dX8_sift_18 rfl (lv_at hl 1 rfl) ?_
    refine lv_if_ne (tgt := 28) hx hb dX8_sift_19 (by decide) (fun g4 => ?_) (fun g4 => ?_)
    · rw [if_neg g4] at h
      refine lv_ldc2 hx hb hown lk2 dX8_sift_28 ?_
      obtain ⟨v5, hc6, h⟩ := sh_b1_e h
      refine sh_cSi (As := [.long (Int32.toInt64 x2), .long 1, .long 6]) (rest := []) hfix (k_X8_in l D cI cJ cZ (Int32.toInt64 x2) 1 6 v5 hc6) (va_cwS 3 hts gX8_sift_X8_in rfl rfl rfl hdS_X8_in ⟨Nat.le_of_ble_eq_true rfl, Nat.le_of_ble_eq_true rfl⟩) hP hK [] rfl rfl hl.1 rfl (Nat.le_of_ble_eq_true rfl) dX8_sift_31 ⟨Nat.zero_le _, Nat.zero_le _⟩ ?_
      refine lv_if_ne (tgt := 40) hx hb dX8_sift_34 (by decide) (fun g7 => ?_) (fun g7 => ?_)
      · rw [if_neg g7] at h
        refine lv_aload_n hx hb dX8_sift_40 rfl (lv_at hl 0 rfl) ?_
        obtain ⟨u8, u9, hc10, h⟩ := sh_b2_e h
        refine sh_wVv (wn := (sh_w8 q cI cJ cZ u8 S u9)) (As := []) (rest := []) hfix (k_X8_note l D cI cJ cZ _ q (upd I 0 0) S A u8 u9 hc10) (cwV 0 hts gX8_sift_X8_note rfl rfl rfl hdV_X8_note ⟨Nat.le_of_ble_eq_true rfl, Nat.le_of_ble_eq_true rfl⟩) hP hK hD hS hA [0, 1, 2, 3, 4, 5, 6, 7, 8, 9, 10, 11, 12] [] [0, 1, 2, 3, 4, 5, 6, 7, 8, 9, 10, 11, 12] rfl rfl rfl rfl rfl rfl rfl 0 rfl rfl rfl hl.1 rfl (Nat.le_of_ble_eq_true rfl) dX8_sift_41 ⟨Nat.zero_le _, Nat.zero_le _⟩ (fun H locs hP hD hS => ?_)
        refine lv_aload_n hx hb dX8_sift_44 rfl (lv_at hl 0 rfl) ?_
        refine lv_aload_n hx hb dX8_sift_45 rfl (lv_at hl 0 rfl) ?_
        refine va_get (ci := 8) (v := .ref (q 3)) (C := RX8) (T := TX8) (N := 21) hx hb hts hinX8 hown hK hP 0 rfl rfl 4 (by decide) lk3 (fun _ h9 => h9) rfl dX8_sift_46 ?_
        refine lv_iload_n hx hb dX8_sift_49 rfl (lv_at hl 1 rfl) ?_
        refine lv_iload_n hx hb dX8_sift_50 rfl (lv_at hl 2 rfl) ?_
        obtain ⟨v11, u12, hc13, h⟩ := sh_b2_e h
        refine sh_wVi (wn := (sh_w8 q cI cJ cZ u8 S u12)) (As := [.ref (q 3), .int x1, .int x2]) (rest := []) hfix (k_X8_goSift_p l D cI cJ cZ _ q u8 S u9 x1 x2 v11 u12 hc13) (cwV 3 hts gX8_sift_X8_goSift rfl rfl rfl hdV_X8_goSift_p ⟨Nat.le_of_ble_eq_true rfl, Nat.le_of_ble_eq_true rfl⟩) hP hK hD hS hA [0, 1, 2, 3, 4, 5, 6, 7, 8, 9, 10, 11, 12] [] [0, 1, 2, 3, 4, 5, 6, 7, 8, 9, 10, 11, 12] rfl rfl rfl rfl rfl rfl rfl 0 rfl rfl rfl hl.1 rfl (Nat.le_of_ble_eq_true rfl) dX8_sift_51 ⟨Nat.zero_le _, Nat.zero_le _⟩ (fun H locs hP hD hS => ?_)
        cases h
        exact sh_rwi hx hb hr hlocks hQ hK hP hD hS dX8_sift_54
      · rw [if_pos g7] at h
        refine lv_bipush (v := -2) hx hb dX8_sift_37 (by decide) ?_
        cases h
        exact sh_rwi hx hb hr hlocks hQ hK hP hD hS dX8_sift_39
    · rw [if_pos g4] at h
      refine lv_ldc2 hx hb hown lk4 dX8_sift_22 ?_
      refine lv_goto (tgt := 31) hx hb dX8_sift_25 (by decide) ?_
      obtain ⟨v14, hc15, h⟩ := sh_b1_e h
      refine sh_cSi (As := [.long (Int32.toInt64 x2), .long 1, .long 36]) (rest := []) hfix (k_X8_in l D cI cJ cZ (Int32.toInt64 x2) 1 36 v14 hc15) (va_cwS 3 hts gX8_sift_X8_in rfl rfl rfl hdS_X8_in ⟨Nat.le_of_ble_eq_true rfl, Nat.le_of_ble_eq_true rfl⟩) hP hK [] rfl rfl hl.1 rfl (Nat.le_of_ble_eq_true rfl) dX8_sift_31 ⟨Nat.zero_le _, Nat.zero_le _⟩ ?_
      refine lv_if_ne (tgt := 40) hx hb dX8_sift_34 (by decide) (fun g16 => ?_) (fun g16 => ?_)
      · rw [if_neg g16] at h
        refine lv_aload_n hx hb dX8_sift_40 rfl (lv_at hl 0 rfl) ?_
        obtain ⟨u17, u18, hc19, h⟩ := sh_b2_e h
        refine sh_wVv (wn := (sh_w8 q cI cJ cZ u17 S u18)) (As := []) (rest := []) hfix (k_X8_note l D cI cJ cZ _ q (upd I 0 0) S A u17 u18 hc19) (cwV 0 hts gX8_sift_X8_note rfl rfl rfl hdV_X8_note ⟨Nat.le_of_ble_eq_true rfl, Nat.le_of_ble_eq_true rfl⟩) hP hK hD hS hA [0, 1, 2, 3, 4, 5, 6, 7, 8, 9, 10, 11, 12] [] [0, 1, 2, 3, 4, 5, 6, 7, 8, 9, 10, 11, 12] rfl rfl rfl rfl rfl rfl rfl 0 rfl rfl rfl hl.1 rfl (Nat.le_of_ble_eq_true rfl) dX8_sift_41 ⟨Nat.zero_le _, Nat.zero_le _⟩ (fun H locs hP hD hS => ?_)
        refine lv_aload_n hx hb dX8_sift_44 rfl (lv_at hl 0 rfl) ?_
        refine lv_aload_n hx hb dX8_sift_45 rfl (lv_at hl 0 rfl) ?_
        refine va_get (ci := 8) (v := .ref (q 3)) (C := RX8) (T := TX8) (N := 21) hx hb hts hinX8 hown hK hP 0 rfl rfl 4 (by decide) lk3 (fun _ h9 => h9) rfl dX8_sift_46 ?_
        refine lv_iload_n hx hb dX8_sift_49 rfl (lv_at hl 1 rfl) ?_
        refine lv_iload_n hx hb dX8_sift_50 rfl (lv_at hl 2 rfl) ?_
        obtain ⟨v20, u21, hc22, h⟩ := sh_b2_e h
        refine sh_wVi (wn := (sh_w8 q cI cJ cZ u17 S u21)) (As := [.ref (q 3), .int x1, .int x2]) (rest := []) hfix (k_X8_goSift_p l D cI cJ cZ _ q u17 S u18 x1 x2 v20 u21 hc22) (cwV 3 hts gX8_sift_X8_goSift rfl rfl rfl hdV_X8_goSift_p ⟨Nat.le_of_ble_eq_true rfl, Nat.le_of_ble_eq_true rfl⟩) hP hK hD hS hA [0, 1, 2, 3, 4, 5, 6, 7, 8, 9, 10, 11, 12] [] [0, 1, 2, 3, 4, 5, 6, 7, 8, 9, 10, 11, 12] rfl rfl rfl rfl rfl rfl rfl 0 rfl rfl rfl hl.1 rfl (Nat.le_of_ble_eq_true rfl) dX8_sift_51 ⟨Nat.zero_le _, Nat.zero_le _⟩ (fun H locs hP hD hS => ?_)
        cases h
        exact sh_rwi hx hb hr hlocks hQ hK hP hD hS dX8_sift_54
      · rw [if_pos g16] at h
        refine lv_bipush (v := -2) hx hb dX8_sift_37 (by decide) ?_
        cases h
        exact sh_rwi hx hb hr hlocks hQ hK hP hD hS dX8_sift_39
theorem hdV_X8_undo : yX8_undo.cls = RX8 ∧ yX8_undo.cls ≠ "java/lang/invoke/MethodHandle" ∧ yX8_undo.cls ≠ "java/lang/invoke/VarHandle" ∧ (parseMethodDescriptor yX8_undo.desc).map (fun d => d.parameters.length) = some 0 := by decide +kernel
abbrev rmX8_undo : Room := { frames := 0, cells := 0, slots := 0, locals := 0 }
set_option maxHeartbeats 4000000 in
set_option maxRecDepth 100000 in
theorem k_X8_undo (l : Launch) (D : va_G) (cI cJ cZ : ClassId) (sz : Nat) (q : Nat → Nat) (I : Nat → Int32) (S : Int64) (A : Nat → Nat → Int32) (o : Int32) (oI : Nat → Int32) (oA : Nat → Nat → Int32) (h : fX8_undo I A = some (o, oI, oA)) : Met l yX8_undo wsX8_undo rmX8_undo (sh_Pw D (sh_ty cI cJ cZ) sz (sh_w8 q cI cJ cZ I S A) [.ref (q 0)]) (sh_Qi D (sh_ty cI cJ cZ) (va_A (sh_w8 q cI cJ cZ I S A) sz) (sh_w8 q cI cJ cZ oI S oA) o) 0 0 (va_A (sh_w8 q cI cJ cZ I S A) sz) := by
  refine Met.ofW (cc := cX8_undo) (maxL := 2) (ret := (some .int)) (by decide) rfl ?_
  intro p e s m args below meth c s₁ hB hml hv
  obtain ⟨hargs, hsz, hP, hK, hD0⟩ := hv
  have hx := hB.exec
  have hb := hB.bytes
  have hr := hB.returns
  have hts := atoms_spec (ws := wsX8_undo) hB.pre
  have hown : s.vm.findClass RX8 = some m.cls := findClass_of_methodNamed hB.named
  have hlocks := hB.notSynchronized
  have hfix : CallFix p m c cX8_undo 2 s args wsX8_undo RX8 := ⟨hx, hb, hml, hown, hts⟩
  have hinX8 : ∀ w ∈ wsX80, w ∈ wsX8_undo := by decide +kernel
  have lk1 := hts (.fieldLink RX8 47 "ShadeTreeModel" "thrown" "I") (by decide +kernel)
  have lk2 := hts (.fieldLink RX8 123 "ShadeTreeModel" "doings" "I") (by decide +kernel)
  have lk3 := hts (.fieldLink RX8 16 "ShadeTreeModel" "page" "[I") (by decide +kernel)
  have lk4 := hts (.fieldLink RX8 25 "ShadeTreeModel" "book" "[I") (by decide +kernel)
  rw [show entryFrame m args 2 = entryFrame m ([.ref (q 0)] : List Value).toArray 2 by rw [hargs], lg_entry_eq]
  have hl := lv_entry ([.ref (q 0)]) (n := 2) (Nat.le_of_ble_eq_true rfl)
  generalize (lg_sl ([.ref (q 0)]) ++ List.replicate (2 - (lg_sl ([.ref (q 0)])).length) Slot.unset).toArray = ls at hl ⊢
  have hl : lv_has ls 2 [(0, .ref (q 0))] := hl
  subst hsz
  have hD := hD0.self (sz := s.heap.size)
  generalize hAe : va_A (sh_w8 q cI cJ cZ I S A) s.heap.size = Az at hD ⊢
  have hA : ∀ q : Nat, s.heap.size ≤ q → Az q := fun q h => by rw [← hAe]; exact Or.inr h
  have hS : va_S Az s.heap s.heap [] := va_S.rf
  generalize hQ : MQ below (sh_Qi D (sh_ty cI cJ cZ) Az (sh_w8 q cI cJ cZ oI S oA) o) args s 0 0 Az = Q
  unfold fX8_undo at h
  refine lv_aload_n hx hb dX8_undo_0 rfl (lv_at hl 0 rfl) ?_
  refine lv_iconst (v := 0) hx hb dX8_undo_1 (by decide) ?_
  refine sh_put (wn := (sh_w8 q cI cJ cZ (upd I 0 0) S A)) (ci := 8) (v := .int 0) (ty := .int) (C := RX8) (T := TX8) (N := 21) hx hb hts hinX8 tyX8 tyX8_ok nmX8 hown hK hP hD hS 0 rfl rfl 0 (by decide) lk1 (fun _ h9 => h9) rfl (by decide +kernel) rfl rfl (Nat.le_of_ble_eq_true rfl) rfl dX8_undo_2 (fun H locs hP hD hS => ?_)
  refine lv_aload_n hx hb dX8_undo_5 rfl (lv_at hl 0 rfl) ?_
  refine va_get (ci := 8) (v := .int (I 2)) (C := RX8) (T := TX8) (N := 21) hx hb hts hinX8 hown hK hP 0 rfl rfl 8 (by decide) lk2 (fun _ h9 => h9) rfl dX8_undo_6 ?_
  refine lv_if_ne (tgt := 15) hx hb dX8_undo_9 (by decide) (fun g1 => ?_) (fun g1 => ?_)
  · rw [if_neg g1] at h
    refine lv_aload_n hx hb dX8_undo_15 rfl (lv_at hl 0 rfl) ?_
    refine lv_dup hx hb dX8_undo_16 rfl ?_
    refine va_get (ci := 8) (v := .int (I 2)) (C := RX8) (T := TX8) (N := 21) hx hb hts hinX8 hown hK hP 0 rfl rfl 8 (by decide) lk2 (fun _ h9 => h9) rfl dX8_undo_17 ?_
    refine lv_iconst (v := 1) hx hb dX8_undo_20 (by decide) ?_
    refine lv_isub hx hb dX8_undo_21 ?_
    refine sh_put (wn := (sh_w8 q cI cJ cZ (upd (upd I 0 0) 2 ((I 2) - 1)) S A)) (ci := 8) (v := .int ((I 2) - 1)) (ty := .int) (C := RX8) (T := TX8) (N := 21) hx hb hts hinX8 tyX8 tyX8_ok nmX8 hown hK hP hD hS 0 rfl rfl 8 (by decide) lk2 (fun _ h9 => h9) rfl (by decide +kernel) rfl rfl (Nat.le_of_ble_eq_true rfl) rfl dX8_undo_22 (fun H locs hP hD hS => ?_)
    refine lv_iconst (v := 0) hx hb dX8_undo_25 (by decide) ?_
    refine lv_istore_n (lv' := [(1, .int 0), (0, .ref (q 0))]) hx hb dX8_undo_26 rfl hl (by decide) rfl (fun ls hl => ?_)
    have LP5 : ∀ (n : Nat) (x1 : Int32) (A : Nat → Nat → Int32) (oA : (Nat → Nat → Int32)) (H : Heap) (locs : List Loc) (ls : Array Slot), fX8_undo_L27 n x1 (upd (upd I 0 0) 2 ((I 2) - 1)) A = some oA → lv_has ls 2 [(0, .ref (q 0)), (1, .int x1)] → va_P D vwCl (sh_w8 q cI cJ cZ (upd (upd I 0 0) 2 ((I 2) - 1)) S A) H → va_D Az (sh_w8 q cI cJ cZ (upd (upd I 0 0) 2 ((I 2) - 1)) S A) → va_S Az s.heap H locs → (∀ (H : Heap) (locs : List Loc) (ls : Array Slot), lv_has ls 2 [(0, .ref (q 0))] → va_P D vwCl (sh_w8 q cI cJ cZ (upd (upd I 0 0) 2 ((I 2) - 1)) S oA) H → va_D Az (sh_w8 q cI cJ cZ (upd (upd I 0 0) 2 ((I 2) - 1)) S oA) → va_S Az s.heap H locs → W p l e (headSpec wsX8_undo rmX8_undo).room s m args below meth c H locs 0 0 Q (F0 m 59 ls [])) → W p l e (headSpec wsX8_undo rmX8_undo).room s m args below meth c H locs 0 0 Q (F0 m 27 ls []) := by
      intro n
      induction n with
      | zero =>
        intro x1 A oA H locs ls h hl hP hD hS hk
        exact nomatch ((fX8_undo_L27_z x1 (upd (upd I 0 0) 2 ((I 2) - 1)) A).symm.trans h)
      | succ n ih =>
        intro x1 A oA H locs ls h hl hP hD hS hk
        rw [fX8_undo_L27_s] at h
        refine lv_iload_n hx hb dX8_undo_27 rfl (lv_at hl 1 rfl) ?_
        refine lv_bipush (v := 39) hx hb dX8_undo_28 (by decide) ?_
        refine lv_icmp_ge (tgt := 59) hx hb dX8_undo_30 (by decide) (fun g2 => ?_) (fun g2 => ?_)
        · rw [if_pos g2] at h
          cases h
          exact hk _ _ ls (lv_sub hl [0] rfl) hP hD hS
        · rw [if_neg g2] at h
          refine lv_aload_n hx hb dX8_undo_33 rfl (lv_at hl 0 rfl) ?_
          refine va_get (ci := 8) (v := .ref (q 3)) (C := RX8) (T := TX8) (N := 21) hx hb hts hinX8 hown hK hP 0 rfl rfl 4 (by decide) lk3 (fun _ h9 => h9) rfl dX8_undo_34 ?_
          refine lv_iload_n hx hb dX8_undo_37 rfl (lv_at hl 1 rfl) ?_
          refine lv_aload_n hx hb dX8_undo_38 rfl (lv_at hl 0 rfl) ?_
          refine va_get (ci := 8) (v := .ref (q 6)) (C := RX8) (T := TX8) (N := 21) hx hb hts hinX8 hown hK hP 0 rfl rfl 7 (by decide) lk4 (fun _ h9 => h9) rfl dX8_undo_39 ?_
          refine lv_bipush (v := 39) hx hb dX8_undo_42 (by decide) ?_
          refine lv_aload_n hx hb dX8_undo_44 rfl (lv_at hl 0 rfl) ?_
          refine va_get (ci := 8) (v := .int ((upd (upd I 0 0) 2 ((I 2) - 1)) 2)) (C := RX8) (T := TX8) (N := 21) hx hb hts hinX8 hown hK hP 0 rfl rfl 8 (by decide) lk2 (fun _ h9 => h9) rfl dX8_undo_45 ?_
          refine lv_imul hx hb dX8_undo_48 ?_
          refine lv_iload_n hx hb dX8_undo_49 rfl (lv_at hl 1 rfl) ?_
          refine lv_iadd hx hb dX8_undo_50 ?_
          obtain ⟨v3, hcv3, h⟩ := sh_b1_e h
          refine sh_iald hx hb hK hP 6 0 rfl rfl (sh_ald_e hcv3) dX8_undo_51 ?_
          obtain ⟨f4, hcf4, h⟩ := sh_b1_e h
          refine sh_iast (wn := (sh_w8 q cI cJ cZ (upd (upd I 0 0) 2 ((I 2) - 1)) S (va_up A 2 f4))) hx hb hK hP hD hS 3 0 rfl rfl (sh_ast_e hcf4) rfl dX8_undo_52 (fun H locs hP hD hS => ?_)
          refine lv_iinc (v := (x1 + 1)) (lv' := [(1, .int (x1 + 1)), (0, .ref (q 0))]) hx hb dX8_undo_53 hl (k := 1) rfl rfl (by decide) rfl (fun ls hl => ?_)
          refine lv_goto (tgt := 27) hx hb dX8_undo_56 (by decide) ?_
          exact ih (x1 + 1) (va_up A 2 f4) oA _ _ ls h (lv_sub hl [1, 0] rfl) hP hD hS hk
    obtain ⟨w6, hc7, h⟩ := sh_b1_e h
    refine LP5 sh_fu 0 A w6 _ _ ls hc7 (lv_sub hl [1, 0] rfl) hP hD hS (fun H locs ls hl hP hD hS => ?_)
    refine lv_aload_n hx hb dX8_undo_59 rfl (lv_at hl 0 rfl) ?_
    refine va_get (ci := 8) (v := .int ((I 2) - 1)) (C := RX8) (T := TX8) (N := 21) hx hb hts hinX8 hown hK hP 0 rfl rfl 8 (by decide) lk2 (fun _ h9 => h9) rfl dX8_undo_60 ?_
    cases h
    exact sh_rwi hx hb hr hlocks hQ hK hP hD hS dX8_undo_63
  · rw [if_pos g1] at h
    refine lv_bipush (v := -3) hx hb dX8_undo_12 (by decide) ?_
    cases h
    exact sh_rwi hx hb hr hlocks hQ hK hP hD hS dX8_undo_14
theorem hdV_X8_pass : yX8_pass.cls = RX8 ∧ yX8_pass.cls ≠ "java/lang/invoke/MethodHandle" ∧ yX8_pass.cls ≠ "java/lang/invoke/VarHandle" ∧ (parseMethodDescriptor yX8_pass.desc).map (fun d => d.parameters.length) = some 2 := by decide +kernel
abbrev rmX8_pass : Room := { frames := 4, cells := 0, slots := 0, locals := 102 }
set_option maxHeartbeats 4000000 in
set_option maxRecDepth 100000 in
theorem k_X8_pass (l : Launch) (D : va_G) (cI cJ cZ : ClassId) (sz : Nat) (q : Nat → Nat) (I : Nat → Int32) (S : Int64) (A : Nat → Nat → Int32) (x1 : Int32) (x2 : Int32) (o : Int32) (oI : Nat → Int32) (h : fX8_pass I A x1 x2 = some (o, oI)) : Met l yX8_pass wsX8_pass rmX8_pass (sh_Pw D (sh_ty cI cJ cZ) sz (sh_w8 q cI cJ cZ I S A) [.ref (q 0), .int x1, .int x2]) (sh_Qi D (sh_ty cI cJ cZ) (va_A (sh_w8 q cI cJ cZ I S A) sz) (sh_w8 q cI cJ cZ oI S A) o) 0 0 (va_A (sh_w8 q cI cJ cZ I S A) sz) := by
  refine Met.ofW (cc := cX8_pass) (maxL := 4) (ret := (some .int)) (by decide) rfl ?_
  intro p e s m args below meth c s₁ hB hml hv
  obtain ⟨hargs, hsz, hP, hK, hD0⟩ := hv
  have hx := hB.exec
  have hb := hB.bytes
  have hr := hB.returns
  have hts := atoms_spec (ws := wsX8_pass) hB.pre
  have hown : s.vm.findClass RX8 = some m.cls := findClass_of_methodNamed hB.named
  have hlocks := hB.notSynchronized
  have hfix : CallFix p m c cX8_pass 4 s args wsX8_pass RX8 := ⟨hx, hb, hml, hown, hts⟩
  have hinX8 : ∀ w ∈ wsX80, w ∈ wsX8_pass := by decide +kernel
  have lk1 := hts (.fieldLink RX8 47 "ShadeTreeModel" "thrown" "I") (by decide +kernel)
  have lk2 := hts (.fieldLink RX8 16 "ShadeTreeModel" "page" "[I") (by decide +kernel)
  rw [show entryFrame m args 4 = entryFrame m ([.ref (q 0), .int x1, .int x2] : List Value).toArray 4 by rw [hargs], lg_entry_eq]
  have hl := lv_entry ([.ref (q 0), .int x1, .int x2]) (n := 4) (Nat.le_of_ble_eq_true rfl)
  generalize (lg_sl ([.ref (q 0), .int x1, .int x2]) ++ List.replicate (4 - (lg_sl ([.ref (q 0), .int x1, .int x2])).length) Slot.unset).toArray = ls at hl ⊢
  have hl : lv_has ls 4 [(0, .ref (q 0)), (1, .int x1), (2, .int x2)] := hl
  subst hsz
  have hD := hD0.self (sz := s.heap.size)
  generalize hAe : va_A (sh_w8 q cI cJ cZ I S A) s.heap.size = Az at hD ⊢
  have hA : ∀ q : Nat, s.heap.size ≤ q → Az q := fun q h => by rw [← hAe]; exact Or.inr h
  have hS : va_S Az s.heap s.heap [] := va_S.rf
  generalize hQ : MQ below (sh_Qi D (sh_ty cI cJ cZ) Az (sh_w8 q cI cJ cZ oI S A) o) args s 0 0 Az = Q
  unfold fX8_pass at h
  refine lv_aload_n hx hb dX8_pass_0 rfl (lv_at hl 0 rfl) ?_
  refine lv_iconst (v := 0) hx hb dX8_pass_1 (by decide) ?_
  refine sh_put (wn := (sh_w8 q cI cJ cZ (upd I 0 0) S A)) (ci := 8) (v := .int 0) (ty := .int) (C := RX8) (T := TX8) (N := 21) hx hb hts hinX8 tyX8 tyX8_ok nmX8 hown hK hP hD hS 0 rfl rfl 0 (by decide) lk1 (fun _ h9 => h9) rfl (by decide +kernel) rfl rfl (Nat.le_of_ble_eq_true rfl) rfl dX8_pass_2 (fun H locs hP hD hS => ?_)
  refine lv_aload_n hx hb dX8_pass_5 rfl (lv_at hl 0 rfl) ?_
  refine lv_iload_n hx hb dX8_pass_6 rfl (lv_at hl 1 rfl) ?_
  obtain ⟨v1, hc2, h⟩ := sh_b1_e h
  refine sh_cVi (As := [.int x1]) (rest := []) hfix (k_X8_noDot l D cI cJ cZ q (upd I 0 0) S A x1 v1 hc2) (cwV 1 hts gX8_pass_X8_noDot rfl rfl rfl hdV_X8_noDot ⟨Nat.le_of_ble_eq_true rfl, Nat.le_of_ble_eq_true rfl⟩) hP hK [0, 1, 2, 3, 4, 5, 6, 7, 8, 9, 10, 11, 12] rfl 0 rfl rfl rfl hl.1 rfl (Nat.le_of_ble_eq_true rfl) dX8_pass_7 ⟨Nat.zero_le _, Nat.zero_le _⟩ ?_
  refine lv_if_ne (tgt := 21) hx hb dX8_pass_10 (by decide) (fun g3 => ?_) (fun g3 => ?_)
  · rw [if_neg g3] at h
    refine lv_iconst (v := -1) hx hb dX8_pass_21 (by decide) ?_
    cases h
    exact sh_rwi hx hb hr hlocks hQ hK hP hD hS dX8_pass_22
  · rw [if_pos g3] at h
    refine lv_aload_n hx hb dX8_pass_13 rfl (lv_at hl 0 rfl) ?_
    refine lv_iload_n hx hb dX8_pass_14 rfl (lv_at hl 2 rfl) ?_
    obtain ⟨v4, hc5, h⟩ := sh_b1_e h
    refine sh_cVi (As := [.int x2]) (rest := []) hfix (k_X8_noDot l D cI cJ cZ q (upd I 0 0) S A x2 v4 hc5) (cwV 1 hts gX8_pass_X8_noDot rfl rfl rfl hdV_X8_noDot ⟨Nat.le_of_ble_eq_true rfl, Nat.le_of_ble_eq_true rfl⟩) hP hK [0, 1, 2, 3, 4, 5, 6, 7, 8, 9, 10, 11, 12] rfl 0 rfl rfl rfl hl.1 rfl (Nat.le_of_ble_eq_true rfl) dX8_pass_15 ⟨Nat.zero_le _, Nat.zero_le _⟩ ?_
    refine lv_if_eq (tgt := 23) hx hb dX8_pass_18 (by decide) (fun g6 => ?_) (fun g6 => ?_)
    · rw [if_pos g6] at h
      refine lv_bipush (v := 9) hx hb dX8_pass_23 (by decide) ?_
      refine lv_istore_n (lv' := [(3, .int 9), (0, .ref (q 0)), (1, .int x1), (2, .int x2)]) hx hb dX8_pass_25 rfl hl (by decide) rfl (fun ls hl => ?_)
      have LP12 : ∀ (n : Nat) (x1 : Int32) (x2 : Int32) (x3 : Int32) (ow3 : Int32) (H : Heap) (locs : List Loc) (ls : Array Slot), fX8_pass_L26 n x1 x2 x3 A = some ow3 → lv_has ls 4 [(0, .ref (q 0)), (1, .int x1), (2, .int x2), (3, .int x3)] → va_P D vwCl (sh_w8 q cI cJ cZ (upd I 0 0) S A) H → va_D Az (sh_w8 q cI cJ cZ (upd I 0 0) S A) → va_S Az s.heap H locs → (∀ (H : Heap) (locs : List Loc) (ls : Array Slot), lv_has ls 4 [(3, .int ow3)] → va_P D vwCl (sh_w8 q cI cJ cZ (upd I 0 0) S A) H → va_D Az (sh_w8 q cI cJ cZ (upd I 0 0) S A) → va_S Az s.heap H locs → W p l e (headSpec wsX8_pass rmX8_pass).room s m args below meth c H locs 0 0 Q (F0 m 48 ls [])) → W p l e (headSpec wsX8_pass rmX8_pass).room s m args below meth c H locs 0 0 Q (F0 m 26 ls []) := by
        intro n
        induction n with
        | zero =>
          intro x1 x2 x3 ow3 H locs ls h hl hP hD hS hk
          exact nomatch ((fX8_pass_L26_z x1 x2 x3 A).symm.trans h)
        | succ n ih =>
          intro x1 x2 x3 ow3 H locs ls h hl hP hD hS hk
          rw [fX8_pass_L26_s] at h
          refine lv_aload_n hx hb dX8_pass_26 rfl (lv_at hl 0 rfl) ?_
          refine va_get (ci := 8) (v := .ref (q 3)) (C := RX8) (T := TX8) (N := 21) hx hb hts hinX8 hown hK hP 0 rfl rfl 4 (by decide) lk2 (fun _ h9 => h9) rfl dX8_pass_27 ?_
          refine lv_iload_n hx hb dX8_pass_30 rfl (lv_at hl 1 rfl) ?_
          refine lv_iload_n hx hb dX8_pass_31 rfl (lv_at hl 3 rfl) ?_
          obtain ⟨v7, hc8, h⟩ := sh_b1_e h
          refine sh_cSl (As := [.ref (q 3), .int x1, .int x3]) (rest := []) hfix (k_X8_part l D cI cJ cZ (q 3) (A 2) x1 x3 v7 hc8) (va_cwS 3 hts gX8_pass_X8_part rfl rfl rfl hdS_X8_part ⟨Nat.le_of_ble_eq_true rfl, Nat.le_of_ble_eq_true rfl⟩) hP hK [3] rfl rfl hl.1 rfl (Nat.le_of_ble_eq_true rfl) dX8_pass_32 ⟨Nat.zero_le _, Nat.zero_le _⟩ ?_
          refine lv_iload_n hx hb dX8_pass_35 rfl (lv_at hl 2 rfl) ?_
          obtain ⟨v9, hc10, h⟩ := sh_b1_e h
          refine sh_cSi (As := [.long v7, .int x2]) (rest := []) hfix (k_X8_has l D cI cJ cZ v7 x2 v9 hc10) (va_cwS 2 hts gX8_pass_X8_has rfl rfl rfl hdS_X8_has ⟨Nat.le_of_ble_eq_true rfl, Nat.le_of_ble_eq_true rfl⟩) hP hK [] rfl rfl hl.1 rfl (Nat.le_of_ble_eq_true rfl) dX8_pass_36 ⟨Nat.zero_le _, Nat.zero_le _⟩ ?_
          refine lv_if_ne (tgt := 48) hx hb dX8_pass_39 (by decide) (fun g11 => ?_) (fun g11 => ?_)
          · rw [if_neg g11] at h
            cases h
            exact hk _ _ ls (lv_sub hl [3] rfl) hP hD hS
          · rw [if_pos g11] at h
            refine lv_iinc (v := (x3 + (-1))) (lv' := [(3, .int (x3 + (-1))), (0, .ref (q 0)), (1, .int x1), (2, .int x2)]) hx hb dX8_pass_42 hl (k := 3) rfl rfl (by decide) rfl (fun ls hl => ?_)
            refine lv_goto (tgt := 26) hx hb dX8_pass_45 (by decide) ?_
            exact ih x1 x2 (x3 + (-1)) ow3 _ _ ls h (lv_sub hl [1, 2, 3, 0] rfl) hP hD hS hk
      obtain ⟨w13, hc14, h⟩ := sh_b1_e h
      refine LP12 sh_fu x1 x2 9 w13 _ _ ls hc14 (lv_sub hl [1, 2, 3, 0] rfl) hP hD hS (fun H locs ls hl hP hD hS => ?_)
      refine lv_iload_n hx hb dX8_pass_48 rfl (lv_at hl 0 rfl) ?_
      cases h
      exact sh_rwi hx hb hr hlocks hQ hK hP hD hS dX8_pass_49
    · rw [if_neg g6] at h
      refine lv_iconst (v := -1) hx hb dX8_pass_21 (by decide) ?_
      cases h
      exact sh_rwi hx hb hr hlocks hQ hK hP hD hS dX8_pass_22
theorem hdS_X8_divisor : yX8_divisor.cls ≠ "java/lang/invoke/MethodHandle" ∧ yX8_divisor.cls ≠ "java/lang/invoke/VarHandle" ∧ (parseMethodDescriptor yX8_divisor.desc).map (fun d => d.parameters.length) = some 2 := by decide +kernel
abbrev rmX8_divisor : Room := { frames := 0, cells := 0, slots := 0, locals := 0 }
set_option maxHeartbeats 4000000 in
set_option maxRecDepth 100000 in
theorem k_X8_divisor (l : Launch) (D : va_G) (cI cJ cZ : ClassId) (x0 : Int32) (x1 : Int32) (o : Int32) (h : fX8_divisor x0 x1 = some o) : Met l yX8_divisor wsX8_divisor rmX8_divisor (sh_Pr D (sh_ty cI cJ cZ) [] [.int x0, .int x1]) (vp_Si (fun z => z = o)) 0 0 (fun _ => False) := by
  refine Met.ofW (cc := cX8_divisor) (maxL := 5) (ret := (some .int)) (by decide) rfl ?_
  intro p e s m args below meth c s₁ hB hml hv
  obtain ⟨hargs, hP, hK⟩ := hv
  have hx := hB.exec
  have hb := hB.bytes
  have hr := hB.returns
  have hts := atoms_spec (ws := wsX8_divisor) hB.pre
  have hown : s.vm.findClass RX8 = some m.cls := findClass_of_methodNamed hB.named
  have hlocks := hB.notSynchronized
  have hfix : CallFix p m c cX8_divisor 5 s args wsX8_divisor RX8 := ⟨hx, hb, hml, hown, hts⟩
  rw [show entryFrame m args 5 = entryFrame m ([.int x0, .int x1] : List Value).toArray 5 by rw [hargs], lg_entry_eq]
  have hl := lv_entry ([.int x0, .int x1]) (n := 5) (Nat.le_of_ble_eq_true rfl)
  generalize (lg_sl ([.int x0, .int x1]) ++ List.replicate (5 - (lg_sl ([.int x0, .int x1])).length) Slot.unset).toArray = ls at hl ⊢
  have hl : lv_has ls 5 [(0, .int x0), (1, .int x1)] := hl
  generalize hQ : MQ below (vp_Si (fun z => z = o)) args s 0 0 (fun _ => False) = Q
  unfold fX8_divisor at h
  refine lv_iload_n hx hb dX8_divisor_0 rfl (lv_at hl 0 rfl) ?_
  refine lv_if_ge (tgt := 9) hx hb dX8_divisor_1 (by decide) (fun g1 => ?_) (fun g1 => ?_)
  · rw [if_pos g1] at h
    refine lv_iload_n hx hb dX8_divisor_9 rfl (lv_at hl 0 rfl) ?_
    refine lv_istore_n (lv' := [(2, .int x0), (0, .int x0), (1, .int x1)]) hx hb dX8_divisor_10 rfl hl (by decide) rfl (fun ls hl => ?_)
    refine lv_iload_n hx hb dX8_divisor_11 rfl (lv_at hl 2 rfl) ?_
    refine lv_istore_n (lv' := [(3, .int x1), (2, .int x0), (0, .int x0), (1, .int x1)]) hx hb dX8_divisor_12 rfl hl (by decide) rfl (fun ls hl => ?_)
    have LP4 : ∀ (n : Nat) (x2 : Int32) (x3 : Int32) (ow2 : Int32) (ls : Array Slot), fX8_divisor_L13 n x2 x3 = some ow2 → lv_has ls 5 [(2, .int x2), (3, .int x3)] → (∀ (ls : Array Slot), lv_has ls 5 [(2, .int ow2)] → W p l e (headSpec wsX8_divisor rmX8_divisor).room s m args below meth c s.heap [] 0 0 Q (F0 m 30 ls [])) → W p l e (headSpec wsX8_divisor rmX8_divisor).room s m args below meth c s.heap [] 0 0 Q (F0 m 13 ls []) := by
      intro n
      induction n with
      | zero =>
        intro x2 x3 ow2 ls h hl hk
        exact nomatch ((fX8_divisor_L13_z x2 x3).symm.trans h)
      | succ n ih =>
        intro x2 x3 ow2 ls h hl hk
        rw [fX8_divisor_L13_s] at h
        refine lv_iload_n hx hb dX8_divisor_13 rfl (lv_at hl 1 rfl) ?_
        refine lv_if_eq (tgt := 30) hx hb dX8_divisor_14 (by decide) (fun g2 => ?_) (fun g2 => ?_)
        · rw [if_pos g2] at h
          cases h
          exact hk ls (lv_sub hl [0] rfl) 
        · rw [if_neg g2] at h
          refine lv_iload_n hx hb dX8_divisor_17 rfl (lv_at hl 0 rfl) ?_
          refine lv_iload_n hx hb dX8_divisor_18 rfl (lv_at hl 1 rfl) ?_
          obtain ⟨v3, hcv3, h⟩ := sh_b1_e h
          refine sh_irem hx hb (sh_rem_e hcv3) dX8_divisor_19 ?_
          refine lv_istore (lv' := [(4, .int v3), (2, .int x2), (3, .int x3)]) hx hb dX8_divisor_20 hl (by decide) rfl (fun ls hl => ?_)
          refine lv_iload_n hx hb dX8_divisor_22 rfl (lv_at hl 2 rfl) ?_
          refine lv_istore_n (lv' := [(2, .int x3), (4, .int v3), (3, .int x3)]) hx hb dX8_divisor_23 rfl hl (by decide) rfl (fun ls hl => ?_)
          refine lv_iload hx hb dX8_divisor_24 (lv_at hl 1 rfl) ?_
          refine lv_istore_n (lv' := [(3, .int v3), (2, .int x3), (4, .int v3)]) hx hb dX8_divisor_26 rfl hl (by decide) rfl (fun ls hl => ?_)
          refine lv_goto (tgt := 13) hx hb dX8_divisor_27 (by decide) ?_
          exact ih x3 v3 ow2 ls h (lv_sub hl [1, 0] rfl)  hk
    obtain ⟨w5, hc6, h⟩ := sh_b1_e h
    refine LP4 sh_fu x0 x1 w5 ls hc6 (lv_sub hl [1, 0] rfl)  (fun ls hl  => ?_)
    refine lv_iload_n hx hb dX8_divisor_30 rfl (lv_at hl 0 rfl) ?_
    exact sh_roi hx hb hr hlocks hQ (Option.some.inj h) dX8_divisor_31
  · rw [if_neg g1] at h
    refine lv_iload_n hx hb dX8_divisor_4 rfl (lv_at hl 0 rfl) ?_
    refine lv_ineg hx hb dX8_divisor_5 ?_
    refine lv_goto (tgt := 10) hx hb dX8_divisor_6 (by decide) ?_
    refine lv_istore_n (lv' := [(2, .int (-x0)), (0, .int x0), (1, .int x1)]) hx hb dX8_divisor_10 rfl hl (by decide) rfl (fun ls hl => ?_)
    refine lv_iload_n hx hb dX8_divisor_11 rfl (lv_at hl 2 rfl) ?_
    refine lv_istore_n (lv' := [(3, .int x1), (2, .int (-x0)), (0, .int x0), (1, .int x1)]) hx hb dX8_divisor_12 rfl hl (by decide) rfl (fun ls hl => ?_)
    have LP9 : ∀ (n : Nat) (x2 : Int32) (x3 : Int32) (ow2 : Int32) (ls : Array Slot), fX8_divisor_L13 n x2 x3 = some ow2 → lv_has ls 5 [(2, .int x2), (3, .int x3)] → (∀ (ls : Array Slot), lv_has ls 5 [(2, .int ow2)] → W p l e (headSpec wsX8_divisor rmX8_divisor).room s m args below meth c s.heap [] 0 0 Q (F0 m 30 ls [])) → W p l e (headSpec wsX8_divisor rmX8_divisor).room s m args below meth c s.heap [] 0 0 Q (F0 m 13 ls []) := by
      intro n
      induction n with
      | zero =>
        intro x2 x3 ow2 ls h hl hk
        exact nomatch ((fX8_divisor_L13_z x2 x3).symm.trans h)
      | succ n ih =>
        intro x2 x3 ow2 ls h hl hk
        rw [fX8_divisor_L13_s] at h
        refine lv_iload_n hx hb dX8_divisor_13 rfl (lv_at hl 1 rfl) ?_
        refine lv_if_eq (tgt := 30) hx hb dX8_divisor_14 (by decide) (fun g7 => ?_) (fun g7 => ?_)
        · rw [if_pos g7] at h
          cases h
          exact hk ls (lv_sub hl [0] rfl) 
        · rw [if_neg g7] at h
          refine lv_iload_n hx hb dX8_divisor_17 rfl (lv_at hl 0 rfl) ?_
          refine lv_iload_n hx hb dX8_divisor_18 rfl (lv_at hl 1 rfl) ?_
          obtain ⟨v8, hcv8, h⟩ := sh_b1_e h
          refine sh_irem hx hb (sh_rem_e hcv8) dX8_divisor_19 ?_
          refine lv_istore (lv' := [(4, .int v8), (2, .int x2), (3, .int x3)]) hx hb dX8_divisor_20 hl (by decide) rfl (fun ls hl => ?_)
          refine lv_iload_n hx hb dX8_divisor_22 rfl (lv_at hl 2 rfl) ?_
          refine lv_istore_n (lv' := [(2, .int x3), (4, .int v8), (3, .int x3)]) hx hb dX8_divisor_23 rfl hl (by decide) rfl (fun ls hl => ?_)
          refine lv_iload hx hb dX8_divisor_24 (lv_at hl 1 rfl) ?_
          refine lv_istore_n (lv' := [(3, .int v8), (2, .int x3), (4, .int v8)]) hx hb dX8_divisor_26 rfl hl (by decide) rfl (fun ls hl => ?_)
          refine lv_goto (tgt := 13) hx hb dX8_divisor_27 (by decide) ?_
          exact ih x3 v8 ow2 ls h (lv_sub hl [1, 0] rfl)  hk
    obtain ⟨w10, hc11, h⟩ := sh_b1_e h
    refine LP9 sh_fu (-x0) x1 w10 ls hc11 (lv_sub hl [1, 0] rfl)  (fun ls hl  => ?_)
    refine lv_iload_n hx hb dX8_divisor_30 rfl (lv_at hl 0 rfl) ?_
    exact sh_roi hx hb hr hlocks hQ (Option.some.inj h) dX8_divisor_31
theorem hdS_X8_fraction : yX8_fraction.cls ≠ "java/lang/invoke/MethodHandle" ∧ yX8_fraction.cls ≠ "java/lang/invoke/VarHandle" ∧ (parseMethodDescriptor yX8_fraction.desc).map (fun d => d.parameters.length) = some 3 := by decide +kernel
abbrev rmX8_fraction : Room := { frames := 1, cells := 0, slots := 0, locals := 24 }
set_option maxHeartbeats 4000000 in
set_option maxRecDepth 100000 in
theorem k_X8_fraction (l : Launch) (D : va_G) (cI cJ cZ : ClassId) (x0 : Int32) (x1 : Int32) (x2 : Int32) (o : Int32) (h : fX8_fraction x0 x1 x2 = some o) : Met l yX8_fraction wsX8_fraction rmX8_fraction (sh_Pr D (sh_ty cI cJ cZ) [] [.int x0, .int x1, .int x2]) (vp_Si (fun z => z = o)) 0 0 (fun _ => False) := by
  refine Met.ofW (cc := cX8_fraction) (maxL := 4) (ret := (some .int)) (by decide) rfl ?_
  intro p e s m args below meth c s₁ hB hml hv
  obtain ⟨hargs, hP, hK⟩ := hv
  have hx := hB.exec
  have hb := hB.bytes
  have hr := hB.returns
  have hts := atoms_spec (ws := wsX8_fraction) hB.pre
  have hown : s.vm.findClass RX8 = some m.cls := findClass_of_methodNamed hB.named
  have hlocks := hB.notSynchronized
  have hfix : CallFix p m c cX8_fraction 4 s args wsX8_fraction RX8 := ⟨hx, hb, hml, hown, hts⟩
  rw [show entryFrame m args 4 = entryFrame m ([.int x0, .int x1, .int x2] : List Value).toArray 4 by rw [hargs], lg_entry_eq]
  have hl := lv_entry ([.int x0, .int x1, .int x2]) (n := 4) (Nat.le_of_ble_eq_true rfl)
  generalize (lg_sl ([.int x0, .int x1, .int x2]) ++ List.replicate (4 - (lg_sl ([.int x0, .int x1, .int x2])).length) Slot.unset).toArray = ls at hl ⊢
  have hl : lv_has ls 4 [(0, .int x0), (1, .int x1), (2, .int x2)] := hl
  generalize hQ : MQ below (vp_Si (fun z => z = o)) args s 0 0 (fun _ => False) = Q
  unfold fX8_fraction at h
  refine lv_iload_n hx hb dX8_fraction_0 rfl (lv_at hl 0 rfl) ?_
  refine lv_iload_n hx hb dX8_fraction_1 rfl (lv_at hl 1 rfl) ?_
  obtain ⟨v1, hc2, h⟩ := sh_b1_e h
  refine sh_cSi (As := [.int x0, .int x1]) (rest := []) hfix (k_X8_divisor l D cI cJ cZ x0 x1 v1 hc2) (va_cwS 2 hts gX8_fraction_X8_divisor rfl rfl rfl hdS_X8_divisor ⟨Nat.le_of_ble_eq_true rfl, Nat.le_of_ble_eq_true rfl⟩) hP hK [] rfl rfl hl.1 rfl (Nat.le_of_ble_eq_true rfl) dX8_fraction_2 ⟨Nat.zero_le _, Nat.zero_le _⟩ ?_
  refine lv_istore_n (lv' := [(3, .int v1), (0, .int x0), (1, .int x1), (2, .int x2)]) hx hb dX8_fraction_5 rfl hl (by decide) rfl (fun ls hl => ?_)
  refine lv_iload_n hx hb dX8_fraction_6 rfl (lv_at hl 3 rfl) ?_
  refine lv_if_eq (tgt := 16) hx hb dX8_fraction_7 (by decide) (fun g3 => ?_) (fun g3 => ?_)
  · rw [if_pos g3] at h
    refine lv_iload_n hx hb dX8_fraction_16 rfl (lv_at hl 2 rfl) ?_
    refine lv_iload_n hx hb dX8_fraction_17 rfl (lv_at hl 0 rfl) ?_
    obtain ⟨v4, hcv4, h⟩ := sh_b1_e h
    refine sh_idiv hx hb (sh_div_e hcv4) dX8_fraction_18 ?_
    exact sh_roi hx hb hr hlocks hQ (Option.some.inj h) dX8_fraction_19
  · rw [if_neg g3] at h
    refine lv_iload_n hx hb dX8_fraction_10 rfl (lv_at hl 1 rfl) ?_
    refine lv_iload_n hx hb dX8_fraction_11 rfl (lv_at hl 0 rfl) ?_
    obtain ⟨v5, hcv5, h⟩ := sh_b1_e h
    refine sh_idiv hx hb (sh_div_e hcv5) dX8_fraction_12 ?_
    refine lv_goto (tgt := 19) hx hb dX8_fraction_13 (by decide) ?_
    exact sh_roi hx hb hr hlocks hQ (Option.some.inj h) dX8_fraction_19
