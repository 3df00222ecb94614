theorem hdV_X8_layGrown : yX8_layGrown.cls = RX8 ∧ yX8_layGrown.cls ≠ "java/lang/invoke/MethodHandle" ∧ yX8_layGrown.cls ≠ "java/lang/invoke/VarHandle" ∧ (parseMethodDescriptor yX8_layGrown.desc).map (fun d => d.parameters.length) = some 2 := by decide +kernel
abbrev rmX8_layGrown : Room := { frames := 4, cells := 0, slots := 0, locals := 102 }
set_option maxHeartbeats 4000000 in
set_option maxRecDepth 100000 in
theorem k_X8_layGrown (l : Launch) (D : va_G) (cI cJ cZ : ClassId) (sz : Nat) (q : Nat → Nat) (I : Nat → Int32) (S : Int64) (A : Nat → Nat → Int32) (x1 : Int64) (x3 : Int32) (oI : Nat → Int32) (h : fX8_layGrown I A x1 x3 = some oI) : Met l yX8_layGrown wsX8_layGrown rmX8_layGrown (sh_Pw D (sh_ty cI cJ cZ) sz (sh_w8 q cI cJ cZ I S A) [.ref (q 0), .long x1, .int x3]) (sh_Qv D (sh_ty cI cJ cZ) (va_A (sh_w8 q cI cJ cZ I S A) sz) (sh_w8 q cI cJ cZ oI S A)) 0 0 (va_A (sh_w8 q cI cJ cZ I S A) sz) := by
  refine Met.ofW (cc := cX8_layGrown) (maxL := 5) (ret := none) (by decide) rfl ?_
  intro p e s m args below meth c s₁ hB hml hv
  obtain ⟨hargs, hsz, hP, hK, hD0⟩ := hv
  have hx := hB.exec
  have hb := hB.bytes
  have hr := hB.returns
  have hts := atoms_spec (ws := wsX8_layGrown) hB.pre
  have hown : s.vm.findClass RX8 = some m.cls := findClass_of_methodNamed hB.named
  have hlocks := hB.notSynchronized
  have hfix : CallFix p m c cX8_layGrown 5 s args wsX8_layGrown RX8 := ⟨hx, hb, hml, hown, hts⟩
  have hinX8 : ∀ w ∈ wsX80, w ∈ wsX8_layGrown := by decide +kernel
  have lk1 := hts (.fieldLink RX8 16 "ShadeTreeModel" "page" "[I") (by decide +kernel)
  have lk2 := hts (.fieldLink RX8 191 "ShadeTreeModel" "grown" "I") (by decide +kernel)
  have lk3 := hts (.fieldLink RX8 194 "ShadeTreeModel" "grownBy" "I") (by decide +kernel)
  rw [show entryFrame m args 5 = entryFrame m ([.ref (q 0), .long x1, .int x3] : List Value).toArray 5 by rw [hargs], lg_entry_eq]
  have hl := lv_entry ([.ref (q 0), .long x1, .int x3]) (n := 5) (Nat.le_of_ble_eq_true rfl)
  generalize (lg_sl ([.ref (q 0), .long x1, .int x3]) ++ List.replicate (5 - (lg_sl ([.ref (q 0), .long x1, .int x3])).length) Slot.unset).toArray = ls at hl ⊢
  have hl : lv_has ls 5 [(0, .ref (q 0)), (1, .long x1), (3, .int x3)] := hl
  subst hsz
  have hD := hD0.self (sz := s.heap.size)
  generalize hAe : va_A (sh_w8 q cI cJ cZ I S A) s.heap.size = Az at hD ⊢
  have hA : ∀ q : Nat, s.heap.size ≤ q → Az q := fun q h => by rw [← hAe]; exact Or.inr h
  have hS : va_S Az s.heap s.heap [] := va_S.rf
  generalize hQ : MQ below (sh_Qv D (sh_ty cI cJ cZ) Az (sh_w8 q cI cJ cZ oI S A)) args s 0 0 Az = Q
  unfold fX8_layGrown at h
  refine lv_aload_n hx hb dX8_layGrown_0 rfl (lv_at hl 0 rfl) ?_
  refine va_get (ci := 8) (v := .ref (q 3)) (C := RX8) (T := TX8) (N := 21) hx hb hts hinX8 hown hK hP 0 rfl rfl 4 (by decide) lk1 (fun _ h9 => h9) rfl dX8_layGrown_1 ?_
  refine lv_lload_n hx hb dX8_layGrown_4 rfl (lv_at hl 1 rfl) ?_
  obtain ⟨v1, hc2, h⟩ := sh_b1_e h
  refine sh_cSi (As := [.ref (q 3), .long x1]) (rest := []) hfix (k_X8_level l D cI cJ cZ (q 3) (A 2) x1 v1 hc2) (va_cwS 2 hts gX8_layGrown_X8_level rfl rfl rfl hdS_X8_level ⟨Nat.le_of_ble_eq_true rfl, Nat.le_of_ble_eq_true rfl⟩) hP hK [3] rfl rfl hl.1 rfl (Nat.le_of_ble_eq_true rfl) dX8_layGrown_5 ⟨Nat.zero_le _, Nat.zero_le _⟩ ?_
  refine lv_iload_n hx hb dX8_layGrown_8 rfl (lv_at hl 2 rfl) ?_
  refine lv_isub hx hb dX8_layGrown_9 ?_
  refine lv_istore (lv' := [(4, .int (v1 - x3)), (0, .ref (q 0)), (1, .long x1), (3, .int x3)]) hx hb dX8_layGrown_10 hl (by decide) rfl (fun ls hl => ?_)
  refine lv_aload_n hx hb dX8_layGrown_12 rfl (lv_at hl 1 rfl) ?_
  refine lv_aload_n hx hb dX8_layGrown_13 rfl (lv_at hl 1 rfl) ?_
  refine va_get (ci := 8) (v := .ref (q 3)) (C := RX8) (T := TX8) (N := 21) hx hb hts hinX8 hown hK hP 0 rfl rfl 4 (by decide) lk1 (fun _ h9 => h9) rfl dX8_layGrown_14 ?_
  refine lv_aload_n hx hb dX8_layGrown_17 rfl (lv_at hl 1 rfl) ?_
  refine va_get (ci := 8) (v := .ref (q 3)) (C := RX8) (T := TX8) (N := 21) hx hb hts hinX8 hown hK hP 0 rfl rfl 4 (by decide) lk1 (fun _ h9 => h9) rfl dX8_layGrown_18 ?_
  refine lv_lload_n hx hb dX8_layGrown_21 rfl (lv_at hl 2 rfl) ?_
  obtain ⟨v3, hc4, h⟩ := sh_b1_e h
  refine sh_cSi (As := [.ref (q 3), .long x1]) (rest := [.ref (q 3), .ref (q 0)]) hfix (k_X8_head l D cI cJ cZ (q 3) (A 2) x1 v3 hc4) (va_cwS 2 hts gX8_layGrown_X8_head rfl rfl rfl hdS_X8_head ⟨Nat.le_of_ble_eq_true rfl, Nat.le_of_ble_eq_true rfl⟩) hP hK [3] rfl rfl hl.1 rfl (Nat.le_of_ble_eq_true rfl) dX8_layGrown_22 ⟨Nat.zero_le _, Nat.zero_le _⟩ ?_
  refine lv_iload hx hb dX8_layGrown_25 (lv_at hl 0 rfl) ?_
  refine lv_if_ge (tgt := 34) hx hb dX8_layGrown_27 (by decide) (fun g5 => ?_) (fun g5 => ?_)
  · rw [if_pos g5] at h
    refine lv_iload hx hb dX8_layGrown_34 (lv_at hl 0 rfl) ?_
    obtain ⟨v6, hc7, h⟩ := sh_b1_e h
    refine sh_cSl (As := [.ref (q 3), .int v3, .int (v1 - x3)]) (rest := [.ref (q 0)]) hfix (k_X8_part l D cI cJ cZ (q 3) (A 2) v3 (v1 - x3) v6 hc7) (va_cwS 3 hts gX8_layGrown_X8_part rfl rfl rfl hdS_X8_part ⟨Nat.le_of_ble_eq_true rfl, Nat.le_of_ble_eq_true rfl⟩) hP hK [3] rfl rfl hl.1 rfl (Nat.le_of_ble_eq_true rfl) dX8_layGrown_36 ⟨Nat.zero_le _, Nat.zero_le _⟩ ?_
    obtain ⟨v8, hc9, h⟩ := sh_b1_e h
    refine sh_cSi (As := [.long v6]) (rest := [.ref (q 0)]) hfix (k_X8_many l D cI cJ cZ v6 v8 hc9) (va_cwS 1 hts gX8_layGrown_X8_many rfl rfl rfl hdS_X8_many ⟨Nat.le_of_ble_eq_true rfl, Nat.le_of_ble_eq_true rfl⟩) hP hK [] rfl rfl hl.1 rfl (Nat.le_of_ble_eq_true rfl) dX8_layGrown_39 ⟨Nat.zero_le _, Nat.zero_le _⟩ ?_
    refine lv_lload_n hx hb dX8_layGrown_42 rfl (lv_at hl 2 rfl) ?_
    obtain ⟨v10, hc11, h⟩ := sh_b1_e h
    refine sh_cSi (As := [.long x1]) (rest := [.int v8, .ref (q 0)]) hfix (k_X8_many l D cI cJ cZ x1 v10 hc11) (va_cwS 1 hts gX8_layGrown_X8_many rfl rfl rfl hdS_X8_many ⟨Nat.le_of_ble_eq_true rfl, Nat.le_of_ble_eq_true rfl⟩) hP hK [] rfl rfl hl.1 rfl (Nat.le_of_ble_eq_true rfl) dX8_layGrown_43 ⟨Nat.zero_le _, Nat.zero_le _⟩ ?_
    refine lv_isub hx hb dX8_layGrown_46 ?_
    refine sh_put (wn := (sh_w8 q cI cJ cZ (upd I 4 (v8 - v10)) S A)) (ci := 8) (v := .int (v8 - v10)) (ty := .int) (C := RX8) (T := TX8) (N := 21) hx hb hts hinX8 tyX8 tyX8_ok nmX8 hown hK hP hD hS 0 rfl rfl 16 (by decide) lk2 (fun _ h9 => h9) rfl (by decide +kernel) rfl rfl (Nat.le_of_ble_eq_true rfl) rfl dX8_layGrown_47 (fun H locs hP hD hS => ?_)
    refine lv_aload_n hx hb dX8_layGrown_50 rfl (lv_at hl 1 rfl) ?_
    refine lv_lload_n hx hb dX8_layGrown_51 rfl (lv_at hl 2 rfl) ?_
    obtain ⟨v12, hc13, h⟩ := sh_b1_e h
    refine sh_cSi (As := [.long x1]) (rest := [.ref (q 0)]) hfix (k_X8_many l D cI cJ cZ x1 v12 hc13) (va_cwS 1 hts gX8_layGrown_X8_many rfl rfl rfl hdS_X8_many ⟨Nat.le_of_ble_eq_true rfl, Nat.le_of_ble_eq_true rfl⟩) hP hK [] rfl rfl hl.1 rfl (Nat.le_of_ble_eq_true rfl) dX8_layGrown_52 ⟨Nat.zero_le _, Nat.zero_le _⟩ ?_
    refine sh_put (wn := (sh_w8 q cI cJ cZ (upd (upd I 4 (v8 - v10)) 5 v12) S A)) (ci := 8) (v := .int v12) (ty := .int) (C := RX8) (T := TX8) (N := 21) hx hb hts hinX8 tyX8 tyX8_ok nmX8 hown hK hP hD hS 0 rfl rfl 17 (by decide) lk3 (fun _ h9 => h9) rfl (by decide +kernel) rfl rfl (Nat.le_of_ble_eq_true rfl) rfl dX8_layGrown_55 (fun H locs hP hD hS => ?_)
    cases h
    exact sh_rwv hx hb hr hlocks hQ hK hP hD hS dX8_layGrown_58
  · rw [if_neg g5] at h
    refine lv_iconst (v := 0) hx hb dX8_layGrown_30 (by decide) ?_
    refine lv_goto (tgt := 36) hx hb dX8_layGrown_31 (by decide) ?_
    obtain ⟨v14, hc15, h⟩ := sh_b1_e h
    refine sh_cSl (As := [.ref (q 3), .int v3, .int 0]) (rest := [.ref (q 0)]) hfix (k_X8_part l D cI cJ cZ (q 3) (A 2) v3 0 v14 hc15) (va_cwS 3 hts gX8_layGrown_X8_part rfl rfl rfl hdS_X8_part ⟨Nat.le_of_ble_eq_true rfl, Nat.le_of_ble_eq_true rfl⟩) hP hK [3] rfl rfl hl.1 rfl (Nat.le_of_ble_eq_true rfl) dX8_layGrown_36 ⟨Nat.zero_le _, Nat.zero_le _⟩ ?_
    obtain ⟨v16, hc17, h⟩ := sh_b1_e h
    refine sh_cSi (As := [.long v14]) (rest := [.ref (q 0)]) hfix (k_X8_many l D cI cJ cZ v14 v16 hc17) (va_cwS 1 hts gX8_layGrown_X8_many rfl rfl rfl hdS_X8_many ⟨Nat.le_of_ble_eq_true rfl, Nat.le_of_ble_eq_true rfl⟩) hP hK [] rfl rfl hl.1 rfl (Nat.le_of_ble_eq_true rfl) dX8_layGrown_39 ⟨Nat.zero_le _, Nat.zero_le _⟩ ?_
    refine lv_lload_n hx hb dX8_layGrown_42 rfl (lv_at hl 2 rfl) ?_
    obtain ⟨v18, hc19, h⟩ := sh_b1_e h
    refine sh_cSi (As := [.long x1]) (rest := [.int v16, .ref (q 0)]) hfix (k_X8_many l D cI cJ cZ x1 v18 hc19) (va_cwS 1 hts gX8_layGrown_X8_many rfl rfl rfl hdS_X8_many ⟨Nat.le_of_ble_eq_true rfl, Nat.le_of_ble_eq_true rfl⟩) hP hK [] rfl rfl hl.1 rfl (Nat.le_of_ble_eq_true rfl) dX8_layGrown_43 ⟨Nat.zero_le _, Nat.zero_le _⟩ ?_
    refine lv_isub hx hb dX8_layGrown_46 ?_
    refine sh_put (wn := (sh_w8 q cI cJ cZ (upd I 4 (v16 - v18)) S A)) (ci := 8) (v := .int (v16 - v18)) (ty := .int) (C := RX8) (T := TX8) (N := 21) hx hb hts hinX8 tyX8 tyX8_ok nmX8 hown hK hP hD hS 0 rfl rfl 16 (by decide) lk2 (fun _ h9 => h9) rfl (by decide +kernel) rfl rfl (Nat.le_of_ble_eq_true rfl) rfl dX8_layGrown_47 (fun H locs hP hD hS => ?_)
    refine lv_aload_n hx hb dX8_layGrown_50 rfl (lv_at hl 1 rfl) ?_
    refine lv_lload_n hx hb dX8_layGrown_51 rfl (lv_at hl 2 rfl) ?_
    obtain ⟨v20, hc21, h⟩ := sh_b1_e h
    refine sh_cSi (As := [.long x1]) (rest := [.ref (q 0)]) hfix (k_X8_many l D cI cJ cZ x1 v20 hc21) (va_cwS 1 hts gX8_layGrown_X8_many rfl rfl rfl hdS_X8_many ⟨Nat.le_of_ble_eq_true rfl, Nat.le_of_ble_eq_true rfl⟩) hP hK [] rfl rfl hl.1 rfl (Nat.le_of_ble_eq_true rfl) dX8_layGrown_52 ⟨Nat.zero_le _, Nat.zero_le _⟩ ?_
    refine sh_put (wn := (sh_w8 q cI cJ cZ (upd (upd I 4 (v16 - v18)) 5 v20) S A)) (ci := 8) (v := .int v20) (ty := .int) (C := RX8) (T := TX8) (N := 21) hx hb hts hinX8 tyX8 tyX8_ok nmX8 hown hK hP hD hS 0 rfl rfl 17 (by decide) lk3 (fun _ h9 => h9) rfl (by decide +kernel) rfl rfl (Nat.le_of_ble_eq_true rfl) rfl dX8_layGrown_55 (fun H locs hP hD hS => ?_)
    cases h
    exact sh_rwv hx hb hr hlocks hQ hK hP hD hS dX8_layGrown_58
theorem hdV_X8_grows : yX8_grows.cls = RX8 ∧ yX8_grows.cls ≠ "java/lang/invoke/MethodHandle" ∧ yX8_grows.cls ≠ "java/lang/invoke/VarHandle" ∧ (parseMethodDescriptor yX8_grows.desc).map (fun d => d.parameters.length) = some 3 := by decide +kernel
abbrev rmX8_grows : Room := { frames := 5, cells := 0, slots := 0, locals := 126 }
set_option maxHeartbeats 4000000 in
set_option maxRecDepth 100000 in
theorem k_X8_grows (l : Launch) (D : va_G) (cI cJ cZ : ClassId) (sz : Nat) (q : Nat → Nat) (I : Nat → Int32) (S : Int64) (A : Nat → Nat → Int32) (x1 : Int32) (x2 : Int32) (x3 : Int32) (o : Int32) (oI : Nat → Int32) (h : fX8_grows I A x1 x2 x3 = some (o, oI)) : Met l yX8_grows wsX8_grows rmX8_grows (sh_Pw D (sh_ty cI cJ cZ) sz (sh_w8 q cI cJ cZ I S A) [.ref (q 0), .int x1, .int x2, .int x3]) (sh_Qi D (sh_ty cI cJ cZ) (va_A (sh_w8 q cI cJ cZ I S A) sz) (sh_w8 q cI cJ cZ oI S A) o) 0 0 (va_A (sh_w8 q cI cJ cZ I S A) sz) := by
  refine Met.ofW (cc := cX8_grows) (maxL := 4) (ret := (some .int)) (by decide) rfl ?_
  intro p e s m args below meth c s₁ hB hml hv
  obtain ⟨hargs, hsz, hP, hK, hD0⟩ := hv
  have hx := hB.exec
  have hb := hB.bytes
  have hr := hB.returns
  have hts := atoms_spec (ws := wsX8_grows) hB.pre
  have hown : s.vm.findClass RX8 = some m.cls := findClass_of_methodNamed hB.named
  have hlocks := hB.notSynchronized
  have hfix : CallFix p m c cX8_grows 4 s args wsX8_grows RX8 := ⟨hx, hb, hml, hown, hts⟩
  have hinX8 : ∀ w ∈ wsX80, w ∈ wsX8_grows := by decide +kernel
  have lk1 := hts (.fieldLink RX8 47 "ShadeTreeModel" "thrown" "I") (by decide +kernel)
  have lk2 := hts (.constantLong RX8 117 (9)) (by decide +kernel)
  have lk3 := hts (.fieldLink RX8 16 "ShadeTreeModel" "page" "[I") (by decide +kernel)
  have lk4 := hts (.fieldLink RX8 191 "ShadeTreeModel" "grown" "I") (by decide +kernel)
  have lk5 := hts (.fieldLink RX8 194 "ShadeTreeModel" "grownBy" "I") (by decide +kernel)
  rw [show entryFrame m args 4 = entryFrame m ([.ref (q 0), .int x1, .int x2, .int x3] : List Value).toArray 4 by rw [hargs], lg_entry_eq]
  have hl := lv_entry ([.ref (q 0), .int x1, .int x2, .int x3]) (n := 4) (Nat.le_of_ble_eq_true rfl)
  generalize (lg_sl ([.ref (q 0), .int x1, .int x2, .int x3]) ++ List.replicate (4 - (lg_sl ([.ref (q 0), .int x1, .int x2, .int x3])).length) Slot.unset).toArray = ls at hl ⊢
  have hl : lv_has ls 4 [(0, .ref (q 0)), (1, .int x1), (2, .int x2), (3, .int x3)] := hl
  subst hsz
  have hD := hD0.self (sz := s.heap.size)
  generalize hAe : va_A (sh_w8 q cI cJ cZ I S A) s.heap.size = Az at hD ⊢
  have hA : ∀ q : Nat, s.heap.size ≤ q → Az q := fun q h => by rw [← hAe]; exact Or.inr h
  have hS : va_S Az s.heap s.heap [] := va_S.rf
  generalize hQ : MQ below (sh_Qi D (sh_ty cI cJ cZ) Az (sh_w8 q cI cJ cZ oI S A) o) args s 0 0 Az = Q
  unfold fX8_grows at h
  refine lv_aload_n hx hb dX8_grows_0 rfl (lv_at hl 0 rfl) ?_
  refine lv_iconst (v := 0) hx hb dX8_grows_1 (by decide) ?_
  refine sh_put (wn := (sh_w8 q cI cJ cZ (upd I 0 0) S A)) (ci := 8) (v := .int 0) (ty := .int) (C := RX8) (T := TX8) (N := 21) hx hb hts hinX8 tyX8 tyX8_ok nmX8 hown hK hP hD hS 0 rfl rfl 0 (by decide) lk1 (fun _ h9 => h9) rfl (by decide +kernel) rfl rfl (Nat.le_of_ble_eq_true rfl) rfl dX8_grows_2 (fun H locs hP hD hS => ?_)
  refine lv_aload_n hx hb dX8_grows_5 rfl (lv_at hl 0 rfl) ?_
  refine lv_iload_n hx hb dX8_grows_6 rfl (lv_at hl 1 rfl) ?_
  obtain ⟨v1, hc2, h⟩ := sh_b1_e h
  refine sh_cVi (As := [.int x1]) (rest := []) hfix (k_X8_noDot l D cI cJ cZ q (upd I 0 0) S A x1 v1 hc2) (cwV 1 hts gX8_grows_X8_noDot rfl rfl rfl hdV_X8_noDot ⟨Nat.le_of_ble_eq_true rfl, Nat.le_of_ble_eq_true rfl⟩) hP hK [0, 1, 2, 3, 4, 5, 6, 7, 8, 9, 10, 11, 12] rfl 0 rfl rfl rfl hl.1 rfl (Nat.le_of_ble_eq_true rfl) dX8_grows_7 ⟨Nat.zero_le _, Nat.zero_le _⟩ ?_
  refine lv_if_eq (tgt := 15) hx hb dX8_grows_10 (by decide) (fun g3 => ?_) (fun g3 => ?_)
  · rw [if_pos g3] at h
    refine lv_iload_n hx hb dX8_grows_15 rfl (lv_at hl 2 rfl) ?_
    refine lv_i2l (v := (Int32.toInt64 x2)) hx hb dX8_grows_16 rfl ?_
    refine lv_lconst (v := 1) hx hb dX8_grows_17 (by decide) ?_
    refine lv_ldc2 hx hb hown lk2 dX8_grows_18 ?_
    obtain ⟨v4, hc5, h⟩ := sh_b1_e h
    refine sh_cSi (As := [.long (Int32.toInt64 x2), .long 1, .long 9]) (rest := []) hfix (k_X8_in l D cI cJ cZ (Int32.toInt64 x2) 1 9 v4 hc5) (va_cwS 3 hts gX8_grows_X8_in rfl rfl rfl hdS_X8_in ⟨Nat.le_of_ble_eq_true rfl, Nat.le_of_ble_eq_true rfl⟩) hP hK [] rfl rfl hl.1 rfl (Nat.le_of_ble_eq_true rfl) dX8_grows_21 ⟨Nat.zero_le _, Nat.zero_le _⟩ ?_
    refine lv_if_ne (tgt := 30) hx hb dX8_grows_24 (by decide) (fun g6 => ?_) (fun g6 => ?_)
    · rw [if_neg g6] at h
      refine lv_aload_n hx hb dX8_grows_30 rfl (lv_at hl 0 rfl) ?_
      refine lv_aload_n hx hb dX8_grows_31 rfl (lv_at hl 0 rfl) ?_
      refine va_get (ci := 8) (v := .ref (q 3)) (C := RX8) (T := TX8) (N := 21) hx hb hts hinX8 hown hK hP 0 rfl rfl 4 (by decide) lk3 (fun _ h9 => h9) rfl dX8_grows_32 ?_
      refine lv_iload_n hx hb dX8_grows_35 rfl (lv_at hl 1 rfl) ?_
      obtain ⟨v7, hc8, h⟩ := sh_b1_e h
      refine sh_cSl (As := [.ref (q 3), .int x1]) (rest := [.ref (q 0)]) hfix (k_X8_nodeOf l D cI cJ cZ (q 3) (A 2) x1 v7 hc8) (va_cwS 2 hts gX8_grows_X8_nodeOf rfl rfl rfl hdS_X8_nodeOf ⟨Nat.le_of_ble_eq_true rfl, Nat.le_of_ble_eq_true rfl⟩) hP hK [3] rfl rfl hl.1 rfl (Nat.le_of_ble_eq_true rfl) dX8_grows_36 ⟨Nat.zero_le _, Nat.zero_le _⟩ ?_
      refine lv_iload_n hx hb dX8_grows_39 rfl (lv_at hl 2 rfl) ?_
      obtain ⟨u9, hc10, h⟩ := sh_b1_e h
      refine sh_wVv (wn := (sh_w8 q cI cJ cZ u9 S A)) (As := [.long v7, .int x2]) (rest := []) hfix (k_X8_layGrown l D cI cJ cZ _ q (upd I 0 0) S A v7 x2 u9 hc10) (cwV 2 hts gX8_grows_X8_layGrown rfl rfl rfl hdV_X8_layGrown ⟨Nat.le_of_ble_eq_true rfl, Nat.le_of_ble_eq_true rfl⟩) hP hK hD hS hA [0, 1, 2, 3, 4, 5, 6, 7, 8, 9, 10, 11, 12] [] [0, 1, 2, 3, 4, 5, 6, 7, 8, 9, 10, 11, 12] rfl rfl rfl rfl rfl rfl rfl 0 rfl rfl rfl hl.1 rfl (Nat.le_of_ble_eq_true rfl) dX8_grows_40 ⟨Nat.zero_le _, Nat.zero_le _⟩ (fun H locs hP hD hS => ?_)
      refine lv_aload_n hx hb dX8_grows_43 rfl (lv_at hl 0 rfl) ?_
      refine va_get (ci := 8) (v := .int (u9 4)) (C := RX8) (T := TX8) (N := 21) hx hb hts hinX8 hown hK hP 0 rfl rfl 16 (by decide) lk4 (fun _ h9 => h9) rfl dX8_grows_44 ?_
      refine lv_aload_n hx hb dX8_grows_47 rfl (lv_at hl 0 rfl) ?_
      refine va_get (ci := 8) (v := .int (u9 5)) (C := RX8) (T := TX8) (N := 21) hx hb hts hinX8 hown hK hP 0 rfl rfl 17 (by decide) lk5 (fun _ h9 => h9) rfl dX8_grows_48 ?_
      refine lv_iload_n hx hb dX8_grows_51 rfl (lv_at hl 3 rfl) ?_
      obtain ⟨v11, hc12, h⟩ := sh_b1_e h
      refine sh_cSi (As := [.int (u9 4), .int (u9 5), .int x3]) (rest := []) hfix (k_X8_fraction l D cI cJ cZ (u9 4) (u9 5) x3 v11 hc12) (va_cwS 3 hts gX8_grows_X8_fraction rfl rfl rfl hdS_X8_fraction ⟨Nat.le_of_ble_eq_true rfl, Nat.le_of_ble_eq_true rfl⟩) hP hK [] rfl rfl hl.1 rfl (Nat.le_of_ble_eq_true rfl) dX8_grows_52 ⟨Nat.zero_le _, Nat.zero_le _⟩ ?_
      cases h
      exact sh_rwi hx hb hr hlocks hQ hK hP hD hS dX8_grows_55
    · rw [if_pos g6] at h
      refine lv_bipush (v := -2) hx hb dX8_grows_27 (by decide) ?_
      cases h
      exact sh_rwi hx hb hr hlocks hQ hK hP hD hS dX8_grows_29
  · rw [if_neg g3] at h
    refine lv_iconst (v := -1) hx hb dX8_grows_13 (by decide) ?_
    cases h
    exact sh_rwi hx hb hr hlocks hQ hK hP hD hS dX8_grows_14
theorem hdV_X8_growsLess : yX8_growsLess.cls = RX8 ∧ yX8_growsLess.cls ≠ "java/lang/invoke/MethodHandle" ∧ yX8_growsLess.cls ≠ "java/lang/invoke/VarHandle" ∧ (parseMethodDescriptor yX8_growsLess.desc).map (fun d => d.parameters.length) = some 3 := by decide +kernel
abbrev rmX8_growsLess : Room := { frames := 5, cells := 0, slots := 0, locals := 126 }
set_option maxHeartbeats 4000000 in
set_option maxRecDepth 100000 in
theorem k_X8_growsLess (l : Launch) (D : va_G) (cI cJ cZ : ClassId) (sz : Nat) (q : Nat → Nat) (I : Nat → Int32) (S : Int64) (A : Nat → Nat → Int32) (x1 : Int64) (x3 : Int64) (x5 : Int32) (o : Int32) (oI : Nat → Int32) (h : fX8_growsLess I A x1 x3 x5 = some (o, oI)) : Met l yX8_growsLess wsX8_growsLess rmX8_growsLess (sh_Pw D (sh_ty cI cJ cZ) sz (sh_w8 q cI cJ cZ I S A) [.ref (q 0), .long x1, .long x3, .int x5]) (sh_Qi D (sh_ty cI cJ cZ) (va_A (sh_w8 q cI cJ cZ I S A) sz) (sh_w8 q cI cJ cZ oI S A) o) 0 0 (va_A (sh_w8 q cI cJ cZ I S A) sz) := by
  refine Met.ofW (cc := cX8_growsLess) (maxL := 8) (ret := (some .boolean)) (by decide) rfl ?_
  intro p e s m args below meth c s₁ hB hml hv
  obtain ⟨hargs, hsz, hP, hK, hD0⟩ := hv
  have hx := hB.exec
  have hb := hB.bytes
  have hr := hB.returns
  have hts := atoms_spec (ws := wsX8_growsLess) hB.pre
  have hown : s.vm.findClass RX8 = some m.cls := findClass_of_methodNamed hB.named
  have hlocks := hB.notSynchronized
  have hfix : CallFix p m c cX8_growsLess 8 s args wsX8_growsLess RX8 := ⟨hx, hb, hml, hown, hts⟩
  have hinX8 : ∀ w ∈ wsX80, w ∈ wsX8_growsLess := by decide +kernel
  have lk1 := hts (.fieldLink RX8 191 "ShadeTreeModel" "grown" "I") (by decide +kernel)
  have lk2 := hts (.fieldLink RX8 194 "ShadeTreeModel" "grownBy" "I") (by decide +kernel)
  rw [show entryFrame m args 8 = entryFrame m ([.ref (q 0), .long x1, .long x3, .int x5] : List Value).toArray 8 by rw [hargs], lg_entry_eq]
  have hl := lv_entry ([.ref (q 0), .long x1, .long x3, .int x5]) (n := 8) (Nat.le_of_ble_eq_true rfl)
  generalize (lg_sl ([.ref (q 0), .long x1, .long x3, .int x5]) ++ List.replicate (8 - (lg_sl ([.ref (q 0), .long x1, .long x3, .int x5])).length) Slot.unset).toArray = ls at hl ⊢
  have hl : lv_has ls 8 [(0, .ref (q 0)), (1, .long x1), (3, .long x3), (5, .int x5)] := hl
  subst hsz
  have hD := hD0.self (sz := s.heap.size)
  generalize hAe : va_A (sh_w8 q cI cJ cZ I S A) s.heap.size = Az at hD ⊢
  have hA : ∀ q : Nat, s.heap.size ≤ q → Az q := fun q h => by rw [← hAe]; exact Or.inr h
  have hS : va_S Az s.heap s.heap [] := va_S.rf
  generalize hQ : MQ below (sh_Qi D (sh_ty cI cJ cZ) Az (sh_w8 q cI cJ cZ oI S A) o) args s 0 0 Az = Q
  unfold fX8_growsLess at h
  refine lv_aload_n hx hb dX8_growsLess_0 rfl (lv_at hl 0 rfl) ?_
  refine lv_lload_n hx hb dX8_growsLess_1 rfl (lv_at hl 1 rfl) ?_
  refine lv_iload hx hb dX8_growsLess_2 (lv_at hl 3 rfl) ?_
  obtain ⟨u1, hc2, h⟩ := sh_b1_e h
  refine sh_wVv (wn := (sh_w8 q cI cJ cZ u1 S A)) (As := [.long x1, .int x5]) (rest := []) hfix (k_X8_layGrown l D cI cJ cZ _ q I S A x1 x5 u1 hc2) (cwV 2 hts gX8_growsLess_X8_layGrown rfl rfl rfl hdV_X8_layGrown ⟨Nat.le_of_ble_eq_true rfl, Nat.le_of_ble_eq_true rfl⟩) hP hK hD hS hA [0, 1, 2, 3, 4, 5, 6, 7, 8, 9, 10, 11, 12] [] [0, 1, 2, 3, 4, 5, 6, 7, 8, 9, 10, 11, 12] rfl rfl rfl rfl rfl rfl rfl 0 rfl rfl rfl hl.1 rfl (Nat.le_of_ble_eq_true rfl) dX8_growsLess_4 ⟨Nat.zero_le _, Nat.zero_le _⟩ (fun H locs hP hD hS => ?_)
  refine lv_aload_n hx hb dX8_growsLess_7 rfl (lv_at hl 0 rfl) ?_
  refine va_get (ci := 8) (v := .int (u1 4)) (C := RX8) (T := TX8) (N := 21) hx hb hts hinX8 hown hK hP 0 rfl rfl 16 (by decide) lk1 (fun _ h9 => h9) rfl dX8_growsLess_8 ?_
  refine lv_istore (lv' := [(6, .int (u1 4)), (0, .ref (q 0)), (1, .long x1), (3, .long x3), (5, .int x5)]) hx hb dX8_growsLess_11 hl (by decide) rfl (fun ls hl => ?_)
  refine lv_aload_n hx hb dX8_growsLess_13 rfl (lv_at hl 1 rfl) ?_
  refine va_get (ci := 8) (v := .int (u1 5)) (C := RX8) (T := TX8) (N := 21) hx hb hts hinX8 hown hK hP 0 rfl rfl 17 (by decide) lk2 (fun _ h9 => h9) rfl dX8_growsLess_14 ?_
  refine lv_istore (lv' := [(7, .int (u1 5)), (6, .int (u1 4)), (0, .ref (q 0)), (1, .long x1), (3, .long x3), (5, .int x5)]) hx hb dX8_growsLess_17 hl (by decide) rfl (fun ls hl => ?_)
  refine lv_aload_n hx hb dX8_growsLess_19 rfl (lv_at hl 2 rfl) ?_
  refine lv_lload_n hx hb dX8_growsLess_20 rfl (lv_at hl 4 rfl) ?_
  refine lv_iload hx hb dX8_growsLess_21 (lv_at hl 5 rfl) ?_
  obtain ⟨u3, hc4, h⟩ := sh_b1_e h
  refine sh_wVv (wn := (sh_w8 q cI cJ cZ u3 S A)) (As := [.long x3, .int x5]) (rest := []) hfix (k_X8_layGrown l D cI cJ cZ _ q u1 S A x3 x5 u3 hc4) (cwV 2 hts gX8_growsLess_X8_layGrown rfl rfl rfl hdV_X8_layGrown ⟨Nat.le_of_ble_eq_true rfl, Nat.le_of_ble_eq_true rfl⟩) hP hK hD hS hA [0, 1, 2, 3, 4, 5, 6, 7, 8, 9, 10, 11, 12] [] [0, 1, 2, 3, 4, 5, 6, 7, 8, 9, 10, 11, 12] rfl rfl rfl rfl rfl rfl rfl 0 rfl rfl rfl hl.1 rfl (Nat.le_of_ble_eq_true rfl) dX8_growsLess_23 ⟨Nat.zero_le _, Nat.zero_le _⟩ (fun H locs hP hD hS => ?_)
  refine lv_iload hx hb dX8_growsLess_26 (lv_at hl 1 rfl) ?_
  refine lv_aload_n hx hb dX8_growsLess_28 rfl (lv_at hl 2 rfl) ?_
  refine va_get (ci := 8) (v := .int (u3 5)) (C := RX8) (T := TX8) (N := 21) hx hb hts hinX8 hown hK hP 0 rfl rfl 17 (by decide) lk2 (fun _ h9 => h9) rfl dX8_growsLess_29 ?_
  refine lv_imul hx hb dX8_growsLess_32 ?_
  refine lv_aload_n hx hb dX8_growsLess_33 rfl (lv_at hl 2 rfl) ?_
  refine va_get (ci := 8) (v := .int (u3 4)) (C := RX8) (T := TX8) (N := 21) hx hb hts hinX8 hown hK hP 0 rfl rfl 16 (by decide) lk1 (fun _ h9 => h9) rfl dX8_growsLess_34 ?_
  refine lv_iload hx hb dX8_growsLess_37 (lv_at hl 0 rfl) ?_
  refine lv_imul hx hb dX8_growsLess_39 ?_
  refine lv_icmp_gt (tgt := 47) hx hb dX8_growsLess_40 (by decide) (fun g5 => ?_) (fun g5 => ?_)
  · rw [if_pos g5] at h
    refine lv_iconst (v := 0) hx hb dX8_growsLess_47 (by decide) ?_
    cases h
    exact sh_rwz hx hb hr hlocks hQ rfl hK hP hD hS dX8_growsLess_48
  · rw [if_neg g5] at h
    refine lv_iconst (v := 1) hx hb dX8_growsLess_43 (by decide) ?_
    refine lv_goto (tgt := 48) hx hb dX8_growsLess_44 (by decide) ?_
    cases h
    exact sh_rwz hx hb hr hlocks hQ rfl hK hP hD hS dX8_growsLess_48
theorem hdV_X8_isSteady : yX8_isSteady.cls = RX8 ∧ yX8_isSteady.cls ≠ "java/lang/invoke/MethodHandle" ∧ yX8_isSteady.cls ≠ "java/lang/invoke/VarHandle" ∧ (parseMethodDescriptor yX8_isSteady.desc).map (fun d => d.parameters.length) = some 2 := by decide +kernel
abbrev rmX8_isSteady : Room := { frames := 6, cells := 0, slots := 0, locals := 153 }
set_option maxHeartbeats 4000000 in
set_option maxRecDepth 100000 in
theorem k_X8_isSteady (l : Launch) (D : va_G) (cI cJ cZ : ClassId) (sz : Nat) (q : Nat → Nat) (I : Nat → Int32) (S : Int64) (A : Nat → Nat → Int32) (x1 : Int64) (x3 : Int32) (o : Int32) (oI : Nat → Int32) (h : fX8_isSteady I A x1 x3 = some (o, oI)) : Met l yX8_isSteady wsX8_isSteady rmX8_isSteady (sh_Pw D (sh_ty cI cJ cZ) sz (sh_w8 q cI cJ cZ I S A) [.ref (q 0), .long x1, .int x3]) (sh_Qi D (sh_ty cI cJ cZ) (va_A (sh_w8 q cI cJ cZ I S A) sz) (sh_w8 q cI cJ cZ oI S A) o) 0 0 (va_A (sh_w8 q cI cJ cZ I S A) sz) := by
  refine Met.ofW (cc := cX8_isSteady) (maxL := 10) (ret := (some .boolean)) (by decide) rfl ?_
  intro p e s m args below meth c s₁ hB hml hv
  obtain ⟨hargs, hsz, hP, hK, hD0⟩ := hv
  have hx := hB.exec
  have hb := hB.bytes
  have hr := hB.returns
  have hts := atoms_spec (ws := wsX8_isSteady) hB.pre
  have hown : s.vm.findClass RX8 = some m.cls := findClass_of_methodNamed hB.named
  have hlocks := hB.notSynchronized
  have hfix : CallFix p m c cX8_isSteady 10 s args wsX8_isSteady RX8 := ⟨hx, hb, hml, hown, hts⟩
  have hinX8 : ∀ w ∈ wsX80, w ∈ wsX8_isSteady := by decide +kernel
  have lk1 := hts (.fieldLink RX8 16 "ShadeTreeModel" "page" "[I") (by decide +kernel)
  rw [show entryFrame m args 10 = entryFrame m ([.ref (q 0), .long x1, .int x3] : List Value).toArray 10 by rw [hargs], lg_entry_eq]
  have hl := lv_entry ([.ref (q 0), .long x1, .int x3]) (n := 10) (Nat.le_of_ble_eq_true rfl)
  generalize (lg_sl ([.ref (q 0), .long x1, .int x3]) ++ List.replicate (10 - (lg_sl ([.ref (q 0), .long x1, .int x3])).length) Slot.unset).toArray = ls at hl ⊢
  have hl : lv_has ls 10 [(0, .ref (q 0)), (1, .long x1), (3, .int x3)] := hl
  subst hsz
  have hD := hD0.self (sz := s.heap.size)
  generalize hAe : va_A (sh_w8 q cI cJ cZ I S A) s.heap.size = Az at hD ⊢
  have hA : ∀ q : Nat, s.heap.size ≤ q → Az q := fun q h => by rw [← hAe]; exact Or.inr h
  have hS : va_S Az s.heap s.heap [] := va_S.rf
  generalize hQ : MQ below (sh_Qi D (sh_ty cI cJ cZ) Az (sh_w8 q cI cJ cZ oI S A) o) args s 0 0 Az = Q
  unfold fX8_isSteady at h
  refine lv_aload_n hx hb dX8_isSteady_0 rfl (lv_at hl 0 rfl) ?_
  refine va_get (ci := 8) (v := .ref (q 3)) (C := RX8) (T := TX8) (N := 21) hx hb hts hinX8 hown hK hP 0 rfl rfl 4 (by decide) lk1 (fun _ h9 => h9) rfl dX8_isSteady_1 ?_
  refine lv_lload_n hx hb dX8_isSteady_4 rfl (lv_at hl 1 rfl) ?_
  obtain ⟨v1, hc2, h⟩ := sh_b1_e h
  refine sh_cSl (As := [.ref (q 3), .long x1]) (rest := []) hfix (k_X8_parent l D cI cJ cZ (q 3) (A 2) x1 v1 hc2) (va_cwS 2 hts gX8_isSteady_X8_parent rfl rfl rfl hdS_X8_parent ⟨Nat.le_of_ble_eq_true rfl, Nat.le_of_ble_eq_true rfl⟩) hP hK [3] rfl rfl hl.1 rfl (Nat.le_of_ble_eq_true rfl) dX8_isSteady_5 ⟨Nat.zero_le _, Nat.zero_le _⟩ ?_
  refine lv_lstore (lv' := [(4, .long v1), (0, .ref (q 0)), (1, .long x1), (3, .int x3)]) hx hb dX8_isSteady_8 hl (by decide) rfl (fun ls hl => ?_)
  refine lv_aload_n hx hb dX8_isSteady_10 rfl (lv_at hl 1 rfl) ?_
  refine lv_lload_n hx hb dX8_isSteady_11 rfl (lv_at hl 2 rfl) ?_
  refine lv_lload hx hb dX8_isSteady_12 (lv_at hl 0 rfl) ?_
  refine lv_iload_n hx hb dX8_isSteady_14 rfl (lv_at hl 3 rfl) ?_
  obtain ⟨v3, u4, hc5, h⟩ := sh_b2_e h
  refine sh_wVi (wn := (sh_w8 q cI cJ cZ u4 S A)) (As := [.long x1, .long v1, .int x3]) (rest := []) hfix (k_X8_growsLess l D cI cJ cZ _ q I S A x1 v1 x3 v3 u4 hc5) (cwV 3 hts gX8_isSteady_X8_growsLess rfl rfl rfl hdV_X8_growsLess ⟨Nat.le_of_ble_eq_true rfl, Nat.le_of_ble_eq_true rfl⟩) hP hK hD hS hA [0, 1, 2, 3, 4, 5, 6, 7, 8, 9, 10, 11, 12] [] [0, 1, 2, 3, 4, 5, 6, 7, 8, 9, 10, 11, 12] rfl rfl rfl rfl rfl rfl rfl 0 rfl rfl rfl hl.1 rfl (Nat.le_of_ble_eq_true rfl) dX8_isSteady_15 ⟨Nat.zero_le _, Nat.zero_le _⟩ (fun H locs hP hD hS => ?_)
  refine lv_istore (lv' := [(6, .int v3), (4, .long v1), (0, .ref (q 0)), (1, .long x1), (3, .int x3)]) hx hb dX8_isSteady_18 hl (by decide) rfl (fun ls hl => ?_)
  refine lv_iconst (v := 0) hx hb dX8_isSteady_20 (by decide) ?_
  refine lv_istore (lv' := [(7, .int 0), (6, .int v3), (4, .long v1), (0, .ref (q 0)), (1, .long x1), (3, .int x3)]) hx hb dX8_isSteady_21 hl (by decide) rfl (fun ls hl => ?_)
  have LP26 : ∀ (n : Nat) (x1 : Int64) (x3 : Int32) (x6 : Int32) (x7 : Int32) (I : Nat → Int32) (ow6 : Int32) (oI : (Nat → Int32)) (H : Heap) (locs : List Loc) (ls : Array Slot), fX8_isSteady_L23 n x1 x3 x6 x7 I A = some (ow6, oI) → lv_has ls 10 [(0, .ref (q 0)), (1, .long x1), (3, .int x3), (6, .int x6), (7, .int x7)] → va_P D vwCl (sh_w8 q cI cJ cZ I S A) H → va_D Az (sh_w8 q cI cJ cZ I S A) → va_S Az s.heap H locs → (∀ (H : Heap) (locs : List Loc) (ls : Array Slot), lv_has ls 10 [(6, .int ow6)] → va_P D vwCl (sh_w8 q cI cJ cZ oI S A) H → va_D Az (sh_w8 q cI cJ cZ oI S A) → va_S Az s.heap H locs → W p l e (headSpec wsX8_isSteady rmX8_isSteady).room s m args below meth c H locs 0 0 Q (F0 m 117 ls [])) → W p l e (headSpec wsX8_isSteady rmX8_isSteady).room s m args below meth c H locs 0 0 Q (F0 m 23 ls []) := by
    intro n
    induction n with
    | zero =>
      intro x1 x3 x6 x7 I ow6 oI H locs ls h hl hP hD hS hk
      exact nomatch ((fX8_isSteady_L23_z x1 x3 x6 x7 I A).symm.trans h)
    | succ n ih =>
      intro x1 x3 x6 x7 I ow6 oI H locs ls h hl hP hD hS hk
      rw [fX8_isSteady_L23_s] at h
      refine lv_iload hx hb dX8_isSteady_23 (lv_at hl 4 rfl) ?_
      refine lv_aload_n hx hb dX8_isSteady_25 rfl (lv_at hl 0 rfl) ?_
      refine va_get (ci := 8) (v := .ref (q 3)) (C := RX8) (T := TX8) (N := 21) hx hb hts hinX8 hown hK hP 0 rfl rfl 4 (by decide) lk1 (fun _ h9 => h9) rfl dX8_isSteady_26 ?_
      obtain ⟨v6, hc7, h⟩ := sh_b1_e h
      refine sh_cSi (As := [.ref (q 3)]) (rest := [.int x7]) hfix (k_X8_dotsOf l D cI cJ cZ (q 3) (A 2) v6 hc7) (va_cwS 1 hts gX8_isSteady_X8_dotsOf rfl rfl rfl hdS_X8_dotsOf ⟨Nat.le_of_ble_eq_true rfl, Nat.le_of_ble_eq_true rfl⟩) hP hK [3] rfl rfl hl.1 rfl (Nat.le_of_ble_eq_true rfl) dX8_isSteady_29 ⟨Nat.zero_le _, Nat.zero_le _⟩ ?_
      refine lv_icmp_ge (tgt := 117) hx hb dX8_isSteady_32 (by decide) (fun g8 => ?_) (fun g8 => ?_)
      · rw [if_pos g8] at h
        cases h
        exact hk _ _ ls (lv_sub hl [3] rfl) hP hD hS
      · rw [if_neg g8] at h
        refine lv_lload_n hx hb dX8_isSteady_35 rfl (lv_at hl 1 rfl) ?_
        refine lv_iload hx hb dX8_isSteady_36 (lv_at hl 4 rfl) ?_
        obtain ⟨v9, hc10, h⟩ := sh_b1_e h
        refine sh_cSi (As := [.long x1, .int x7]) (rest := []) hfix (k_X8_has l D cI cJ cZ x1 x7 v9 hc10) (va_cwS 2 hts gX8_isSteady_X8_has rfl rfl rfl hdS_X8_has ⟨Nat.le_of_ble_eq_true rfl, Nat.le_of_ble_eq_true rfl⟩) hP hK [] rfl rfl hl.1 rfl (Nat.le_of_ble_eq_true rfl) dX8_isSteady_38 ⟨Nat.zero_le _, Nat.zero_le _⟩ ?_
        refine lv_if_eq (tgt := 111) hx hb dX8_isSteady_41 (by decide) (fun g11 => ?_) (fun g11 => ?_)
        · rw [if_pos g11] at h
          refine lv_iinc (v := (x7 + 1)) (lv' := [(7, .int (x7 + 1)), (0, .ref (q 0)), (1, .long x1), (3, .int x3), (6, .int x6)]) hx hb dX8_isSteady_111 hl (k := 4) rfl rfl (by decide) rfl (fun ls hl => ?_)
          refine lv_goto (tgt := 23) hx hb dX8_isSteady_114 (by decide) ?_
          exact ih x1 x3 x6 (x7 + 1) I ow6 oI _ _ ls h (lv_sub hl [1, 2, 3, 4, 0] rfl) hP hD hS hk
        · rw [if_neg g11] at h
          refine lv_aload_n hx hb dX8_isSteady_44 rfl (lv_at hl 0 rfl) ?_
          refine va_get (ci := 8) (v := .ref (q 3)) (C := RX8) (T := TX8) (N := 21) hx hb hts hinX8 hown hK hP 0 rfl rfl 4 (by decide) lk1 (fun _ h9 => h9) rfl dX8_isSteady_45 ?_
          refine lv_iload hx hb dX8_isSteady_48 (lv_at hl 4 rfl) ?_
          obtain ⟨v12, hc13, h⟩ := sh_b1_e h
          refine sh_cSi (As := [.ref (q 3), .int x7]) (rest := []) hfix (k_X8_isHead l D cI cJ cZ (q 3) (A 2) x7 v12 hc13) (va_cwS 2 hts gX8_isSteady_X8_isHead rfl rfl rfl hdS_X8_isHead ⟨Nat.le_of_ble_eq_true rfl, Nat.le_of_ble_eq_true rfl⟩) hP hK [3] rfl rfl hl.1 rfl (Nat.le_of_ble_eq_true rfl) dX8_isSteady_50 ⟨Nat.zero_le _, Nat.zero_le _⟩ ?_
          refine lv_if_eq (tgt := 111) hx hb dX8_isSteady_53 (by decide) (fun g14 => ?_) (fun g14 => ?_)
          · rw [if_pos g14] at h
            refine lv_iinc (v := (x7 + 1)) (lv' := [(7, .int (x7 + 1)), (0, .ref (q 0)), (1, .long x1), (3, .int x3), (6, .int x6)]) hx hb dX8_isSteady_111 hl (k := 4) rfl rfl (by decide) rfl (fun ls hl => ?_)
            refine lv_goto (tgt := 23) hx hb dX8_isSteady_114 (by decide) ?_
            exact ih x1 x3 x6 (x7 + 1) I ow6 oI _ _ ls h (lv_sub hl [1, 2, 3, 4, 0] rfl) hP hD hS hk
          · rw [if_neg g14] at h
            refine lv_aload_n hx hb dX8_isSteady_56 rfl (lv_at hl 0 rfl) ?_
            refine va_get (ci := 8) (v := .ref (q 3)) (C := RX8) (T := TX8) (N := 21) hx hb hts hinX8 hown hK hP 0 rfl rfl 4 (by decide) lk1 (fun _ h9 => h9) rfl dX8_isSteady_57 ?_
            refine lv_iload hx hb dX8_isSteady_60 (lv_at hl 4 rfl) ?_
            obtain ⟨v15, hc16, h⟩ := sh_b1_e h
            refine sh_cSl (As := [.ref (q 3), .int x7]) (rest := []) hfix (k_X8_nodeOf l D cI cJ cZ (q 3) (A 2) x7 v15 hc16) (va_cwS 2 hts gX8_isSteady_X8_nodeOf rfl rfl rfl hdS_X8_nodeOf ⟨Nat.le_of_ble_eq_true rfl, Nat.le_of_ble_eq_true rfl⟩) hP hK [3] rfl rfl hl.1 rfl (Nat.le_of_ble_eq_true rfl) dX8_isSteady_62 ⟨Nat.zero_le _, Nat.zero_le _⟩ ?_
            refine lv_lstore (lv' := [(8, .long v15), (0, .ref (q 0)), (1, .long x1), (3, .int x3), (6, .int x6), (7, .int x7)]) hx hb dX8_isSteady_65 hl (by decide) rfl (fun ls hl => ?_)
            refine lv_iload hx hb dX8_isSteady_67 (lv_at hl 4 rfl) ?_
            refine lv_if_eq (tgt := 108) hx hb dX8_isSteady_69 (by decide) (fun g17 => ?_) (fun g17 => ?_)
            · rw [if_pos g17] at h
              refine lv_iconst (v := 0) hx hb dX8_isSteady_108 (by decide) ?_
              refine lv_istore (lv' := [(6, .int 0), (8, .long v15), (0, .ref (q 0)), (1, .long x1), (3, .int x3), (7, .int x7)]) hx hb dX8_isSteady_109 hl (by decide) rfl (fun ls hl => ?_)
              refine lv_iinc (v := (x7 + 1)) (lv' := [(7, .int (x7 + 1)), (6, .int 0), (8, .long v15), (0, .ref (q 0)), (1, .long x1), (3, .int x3)]) hx hb dX8_isSteady_111 hl (k := 5) rfl rfl (by decide) rfl (fun ls hl => ?_)
              refine lv_goto (tgt := 23) hx hb dX8_isSteady_114 (by decide) ?_
              exact ih x1 x3 0 (x7 + 1) I ow6 oI _ _ ls h (lv_sub hl [3, 4, 5, 1, 0] rfl) hP hD hS hk
            · rw [if_neg g17] at h
              refine lv_lload hx hb dX8_isSteady_72 (lv_at hl 0 rfl) ?_
              refine lv_lload_n hx hb dX8_isSteady_74 rfl (lv_at hl 2 rfl) ?_
              refine sh_leq (tgt := 104) hx hb dX8_isSteady_75 dX8_isSteady_76 (by decide) (fun g18 => ?_) (fun g18 => ?_)
              · rw [if_pos g18] at h
                refine lv_iconst (v := 1) hx hb dX8_isSteady_104 (by decide) ?_
                refine lv_goto (tgt := 109) hx hb dX8_isSteady_105 (by decide) ?_
                refine lv_istore (lv' := [(6, .int 1), (8, .long v15), (0, .ref (q 0)), (1, .long x1), (3, .int x3), (7, .int x7)]) hx hb dX8_isSteady_109 hl (by decide) rfl (fun ls hl => ?_)
                refine lv_iinc (v := (x7 + 1)) (lv' := [(7, .int (x7 + 1)), (6, .int 1), (8, .long v15), (0, .ref (q 0)), (1, .long x1), (3, .int x3)]) hx hb dX8_isSteady_111 hl (k := 5) rfl rfl (by decide) rfl (fun ls hl => ?_)
                refine lv_goto (tgt := 23) hx hb dX8_isSteady_114 (by decide) ?_
                exact ih x1 x3 1 (x7 + 1) I ow6 oI _ _ ls h (lv_sub hl [3, 4, 5, 1, 0] rfl) hP hD hS hk
              · rw [if_neg g18] at h
                refine lv_aload_n hx hb dX8_isSteady_79 rfl (lv_at hl 1 rfl) ?_
                refine va_get (ci := 8) (v := .ref (q 3)) (C := RX8) (T := TX8) (N := 21) hx hb hts hinX8 hown hK hP 0 rfl rfl 4 (by decide) lk1 (fun _ h9 => h9) rfl dX8_isSteady_80 ?_
                refine lv_lload hx hb dX8_isSteady_83 (lv_at hl 0 rfl) ?_
                obtain ⟨v19, hc20, h⟩ := sh_b1_e h
                refine sh_cSl (As := [.ref (q 3), .long v15]) (rest := []) hfix (k_X8_parent l D cI cJ cZ (q 3) (A 2) v15 v19 hc20) (va_cwS 2 hts gX8_isSteady_X8_parent rfl rfl rfl hdS_X8_parent ⟨Nat.le_of_ble_eq_true rfl, Nat.le_of_ble_eq_true rfl⟩) hP hK [3] rfl rfl hl.1 rfl (Nat.le_of_ble_eq_true rfl) dX8_isSteady_85 ⟨Nat.zero_le _, Nat.zero_le _⟩ ?_
                refine lv_lload_n hx hb dX8_isSteady_88 rfl (lv_at hl 2 rfl) ?_
                refine sh_lne (tgt := 104) hx hb dX8_isSteady_89 dX8_isSteady_90 (by decide) (fun g21 => ?_) (fun g21 => ?_)
                · rw [if_neg g21] at h
                  refine lv_iconst (v := 1) hx hb dX8_isSteady_104 (by decide) ?_
                  refine lv_goto (tgt := 109) hx hb dX8_isSteady_105 (by decide) ?_
                  refine lv_istore (lv' := [(6, .int 1), (8, .long v15), (0, .ref (q 0)), (1, .long x1), (3, .int x3), (7, .int x7)]) hx hb dX8_isSteady_109 hl (by decide) rfl (fun ls hl => ?_)
                  refine lv_iinc (v := (x7 + 1)) (lv' := [(7, .int (x7 + 1)), (6, .int 1), (8, .long v15), (0, .ref (q 0)), (1, .long x1), (3, .int x3)]) hx hb dX8_isSteady_111 hl (k := 5) rfl rfl (by decide) rfl (fun ls hl => ?_)
                  refine lv_goto (tgt := 23) hx hb dX8_isSteady_114 (by decide) ?_
                  exact ih x1 x3 1 (x7 + 1) I ow6 oI _ _ ls h (lv_sub hl [3, 4, 5, 1, 0] rfl) hP hD hS hk
                · rw [if_pos g21] at h
                  refine lv_aload_n hx hb dX8_isSteady_93 rfl (lv_at hl 1 rfl) ?_
                  refine lv_lload_n hx hb dX8_isSteady_94 rfl (lv_at hl 2 rfl) ?_
                  refine lv_lload hx hb dX8_isSteady_95 (lv_at hl 0 rfl) ?_
                  refine lv_iload_n hx hb dX8_isSteady_97 rfl (lv_at hl 3 rfl) ?_
                  obtain ⟨v22, u23, hc24, h⟩ := sh_b2_e h
                  refine sh_wVi (wn := (sh_w8 q cI cJ cZ u23 S A)) (As := [.long x1, .long v15, .int x3]) (rest := []) hfix (k_X8_growsLess l D cI cJ cZ _ q I S A x1 v15 x3 v22 u23 hc24) (cwV 3 hts gX8_isSteady_X8_growsLess rfl rfl rfl hdV_X8_growsLess ⟨Nat.le_of_ble_eq_true rfl, Nat.le_of_ble_eq_true rfl⟩) hP hK hD hS hA [0, 1, 2, 3, 4, 5, 6, 7, 8, 9, 10, 11, 12] [] [0, 1, 2, 3, 4, 5, 6, 7, 8, 9, 10, 11, 12] rfl rfl rfl rfl rfl rfl rfl 0 rfl rfl rfl hl.1 rfl (Nat.le_of_ble_eq_true rfl) dX8_isSteady_98 ⟨Nat.zero_le _, Nat.zero_le _⟩ (fun H locs hP hD hS => ?_)
                  refine lv_if_eq (tgt := 108) hx hb dX8_isSteady_101 (by decide) (fun g25 => ?_) (fun g25 => ?_)
                  · rw [if_pos g25] at h
                    refine lv_iconst (v := 0) hx hb dX8_isSteady_108 (by decide) ?_
                    refine lv_istore (lv' := [(6, .int 0), (8, .long v15), (0, .ref (q 0)), (1, .long x1), (3, .int x3), (7, .int x7)]) hx hb dX8_isSteady_109 hl (by decide) rfl (fun ls hl => ?_)
                    refine lv_iinc (v := (x7 + 1)) (lv' := [(7, .int (x7 + 1)), (6, .int 0), (8, .long v15), (0, .ref (q 0)), (1, .long x1), (3, .int x3)]) hx hb dX8_isSteady_111 hl (k := 5) rfl rfl (by decide) rfl (fun ls hl => ?_)
                    refine lv_goto (tgt := 23) hx hb dX8_isSteady_114 (by decide) ?_
                    exact ih x1 x3 0 (x7 + 1) u23 ow6 oI _ _ ls h (lv_sub hl [3, 4, 5, 1, 0] rfl) hP hD hS hk
                  · rw [if_neg g25] at h
                    refine lv_iconst (v := 1) hx hb dX8_isSteady_104 (by decide) ?_
                    refine lv_goto (tgt := 109) hx hb dX8_isSteady_105 (by decide) ?_
                    refine lv_istore (lv' := [(6, .int 1), (8, .long v15), (0, .ref (q 0)), (1, .long x1), (3, .int x3), (7, .int x7)]) hx hb dX8_isSteady_109 hl (by decide) rfl (fun ls hl => ?_)
                    refine lv_iinc (v := (x7 + 1)) (lv' := [(7, .int (x7 + 1)), (6, .int 1), (8, .long v15), (0, .ref (q 0)), (1, .long x1), (3, .int x3)]) hx hb dX8_isSteady_111 hl (k := 5) rfl rfl (by decide) rfl (fun ls hl => ?_)
                    refine lv_goto (tgt := 23) hx hb dX8_isSteady_114 (by decide) ?_
                    exact ih x1 x3 1 (x7 + 1) u23 ow6 oI _ _ ls h (lv_sub hl [3, 4, 5, 1, 0] rfl) hP hD hS hk
  obtain ⟨w27, w28, hc30, h⟩ := sh_b2_e h
  refine LP26 sh_fu x1 x3 v3 0 u4 w27 w28 _ _ ls hc30 (lv_sub hl [3, 4, 5, 1, 0] rfl) hP hD hS (fun H locs ls hl hP hD hS => ?_)
  refine lv_iload hx hb dX8_isSteady_117 (lv_at hl 0 rfl) ?_
  obtain ⟨v29, hcv29, h⟩ := sh_b1_e h
  obtain ⟨hnv29, rfl⟩ := sh_zr_e hcv29
  cases h
  exact sh_rwz hx hb hr hlocks hQ hnv29 hK hP hD hS dX8_isSteady_119
theorem hdV_X8_steady : yX8_steady.cls = RX8 ∧ yX8_steady.cls ≠ "java/lang/invoke/MethodHandle" ∧ yX8_steady.cls ≠ "java/lang/invoke/VarHandle" ∧ (parseMethodDescriptor yX8_steady.desc).map (fun d => d.parameters.length) = some 2 := by decide +kernel
abbrev rmX8_steady : Room := { frames := 7, cells := 0, slots := 0, locals := 182 }
set_option maxHeartbeats 4000000 in
set_option maxRecDepth 100000 in
theorem k_X8_steady (l : Launch) (D : va_G) (cI cJ cZ : ClassId) (sz : Nat) (q : Nat → Nat) (I : Nat → Int32) (S : Int64) (A : Nat → Nat → Int32) (x1 : Int32) (x2 : Int32) (o : Int32) (oI : Nat → Int32) (h : fX8_steady I A x1 x2 = some (o, oI)) : Met l yX8_steady wsX8_steady rmX8_steady (sh_Pw D (sh_ty cI cJ cZ) sz (sh_w8 q cI cJ cZ I S A) [.ref (q 0), .int x1, .int x2]) (sh_Qi D (sh_ty cI cJ cZ) (va_A (sh_w8 q cI cJ cZ I S A) sz) (sh_w8 q cI cJ cZ oI S A) o) 0 0 (va_A (sh_w8 q cI cJ cZ I S A) sz) := by
  refine Met.ofW (cc := cX8_steady) (maxL := 3) (ret := (some .int)) (by decide) rfl ?_
  intro p e s m args below meth c s₁ hB hml hv
  obtain ⟨hargs, hsz, hP, hK, hD0⟩ := hv
  have hx := hB.exec
  have hb := hB.bytes
  have hr := hB.returns
  have hts := atoms_spec (ws := wsX8_steady) hB.pre
  have hown : s.vm.findClass RX8 = some m.cls := findClass_of_methodNamed hB.named
  have hlocks := hB.notSynchronized
  have hfix : CallFix p m c cX8_steady 3 s args wsX8_steady RX8 := ⟨hx, hb, hml, hown, hts⟩
  have hinX8 : ∀ w ∈ wsX80, w ∈ wsX8_steady := by decide +kernel
  have lk1 := hts (.fieldLink RX8 47 "ShadeTreeModel" "thrown" "I") (by decide +kernel)
  have lk2 := hts (.constantLong RX8 117 (9)) (by decide +kernel)
  have lk3 := hts (.fieldLink RX8 16 "ShadeTreeModel" "page" "[I") (by decide +kernel)
  rw [show entryFrame m args 3 = entryFrame m ([.ref (q 0), .int x1, .int x2] : List Value).toArray 3 by rw [hargs], lg_entry_eq]
  have hl := lv_entry ([.ref (q 0), .int x1, .int x2]) (n := 3) (Nat.le_of_ble_eq_true rfl)
  generalize (lg_sl ([.ref (q 0), .int x1, .int x2]) ++ List.replicate (3 - (lg_sl ([.ref (q 0), .int x1, .int x2])).length) Slot.unset).toArray = ls at hl ⊢
  have hl : lv_has ls 3 [(0, .ref (q 0)), (1, .int x1), (2, .int x2)] := hl
  subst hsz
  have hD := hD0.self (sz := s.heap.size)
  generalize hAe : va_A (sh_w8 q cI cJ cZ I S A) s.heap.size = Az at hD ⊢
  have hA : ∀ q : Nat, s.heap.size ≤ q → Az q := fun q h => by rw [← hAe]; exact Or.inr h
  have hS : va_S Az s.heap s.heap [] := va_S.rf
  generalize hQ : MQ below (sh_Qi D (sh_ty cI cJ cZ) Az (sh_w8 q cI cJ cZ oI S A) o) args s 0 0 Az = Q
  unfold fX8_steady at h
  refine lv_aload_n hx hb dX8_steady_0 rfl (lv_at hl 0 rfl) ?_
  refine lv_iconst (v := 0) hx hb dX8_steady_1 (by decide) ?_
  refine sh_put (wn := (sh_w8 q cI cJ cZ (upd I 0 0) S A)) (ci := 8) (v := .int 0) (ty := .int) (C := RX8) (T := TX8) (N := 21) hx hb hts hinX8 tyX8 tyX8_ok nmX8 hown hK hP hD hS 0 rfl rfl 0 (by decide) lk1 (fun _ h9 => h9) rfl (by decide +kernel) rfl rfl (Nat.le_of_ble_eq_true rfl) rfl dX8_steady_2 (fun H locs hP hD hS => ?_)
  refine lv_aload_n hx hb dX8_steady_5 rfl (lv_at hl 0 rfl) ?_
  refine lv_iload_n hx hb dX8_steady_6 rfl (lv_at hl 1 rfl) ?_
  obtain ⟨v1, hc2, h⟩ := sh_b1_e h
  refine sh_cVi (As := [.int x1]) (rest := []) hfix (k_X8_noDot l D cI cJ cZ q (upd I 0 0) S A x1 v1 hc2) (cwV 1 hts gX8_steady_X8_noDot rfl rfl rfl hdV_X8_noDot ⟨Nat.le_of_ble_eq_true rfl, Nat.le_of_ble_eq_true rfl⟩) hP hK [0, 1, 2, 3, 4, 5, 6, 7, 8, 9, 10, 11, 12] rfl 0 rfl rfl rfl hl.1 rfl (Nat.le_of_ble_eq_true rfl) dX8_steady_7 ⟨Nat.zero_le _, Nat.zero_le _⟩ ?_
  refine lv_if_eq (tgt := 15) hx hb dX8_steady_10 (by decide) (fun g3 => ?_) (fun g3 => ?_)
  · rw [if_pos g3] at h
    refine lv_iload_n hx hb dX8_steady_15 rfl (lv_at hl 2 rfl) ?_
    refine lv_i2l (v := (Int32.toInt64 x2)) hx hb dX8_steady_16 rfl ?_
    refine lv_lconst (v := 1) hx hb dX8_steady_17 (by decide) ?_
    refine lv_ldc2 hx hb hown lk2 dX8_steady_18 ?_
    obtain ⟨v4, hc5, h⟩ := sh_b1_e h
    refine sh_cSi (As := [.long (Int32.toInt64 x2), .long 1, .long 9]) (rest := []) hfix (k_X8_in l D cI cJ cZ (Int32.toInt64 x2) 1 9 v4 hc5) (va_cwS 3 hts gX8_steady_X8_in rfl rfl rfl hdS_X8_in ⟨Nat.le_of_ble_eq_true rfl, Nat.le_of_ble_eq_true rfl⟩) hP hK [] rfl rfl hl.1 rfl (Nat.le_of_ble_eq_true rfl) dX8_steady_21 ⟨Nat.zero_le _, Nat.zero_le _⟩ ?_
    refine lv_if_ne (tgt := 30) hx hb dX8_steady_24 (by decide) (fun g6 => ?_) (fun g6 => ?_)
    · rw [if_neg g6] at h
      refine lv_aload_n hx hb dX8_steady_30 rfl (lv_at hl 0 rfl) ?_
      refine lv_aload_n hx hb dX8_steady_31 rfl (lv_at hl 0 rfl) ?_
      refine va_get (ci := 8) (v := .ref (q 3)) (C := RX8) (T := TX8) (N := 21) hx hb hts hinX8 hown hK hP 0 rfl rfl 4 (by decide) lk3 (fun _ h9 => h9) rfl dX8_steady_32 ?_
      refine lv_iload_n hx hb dX8_steady_35 rfl (lv_at hl 1 rfl) ?_
      obtain ⟨v7, hc8, h⟩ := sh_b1_e h
      refine sh_cSl (As := [.ref (q 3), .int x1]) (rest := [.ref (q 0)]) hfix (k_X8_nodeOf l D cI cJ cZ (q 3) (A 2) x1 v7 hc8) (va_cwS 2 hts gX8_steady_X8_nodeOf rfl rfl rfl hdS_X8_nodeOf ⟨Nat.le_of_ble_eq_true rfl, Nat.le_of_ble_eq_true rfl⟩) hP hK [3] rfl rfl hl.1 rfl (Nat.le_of_ble_eq_true rfl) dX8_steady_36 ⟨Nat.zero_le _, Nat.zero_le _⟩ ?_
      refine lv_iload_n hx hb dX8_steady_39 rfl (lv_at hl 2 rfl) ?_
      obtain ⟨v9, u10, hc11, h⟩ := sh_b2_e h
      refine sh_wVi (wn := (sh_w8 q cI cJ cZ u10 S A)) (As := [.long v7, .int x2]) (rest := []) hfix (k_X8_isSteady l D cI cJ cZ _ q (upd I 0 0) S A v7 x2 v9 u10 hc11) (cwV 2 hts gX8_steady_X8_isSteady rfl rfl rfl hdV_X8_isSteady ⟨Nat.le_of_ble_eq_true rfl, Nat.le_of_ble_eq_true rfl⟩) hP hK hD hS hA [0, 1, 2, 3, 4, 5, 6, 7, 8, 9, 10, 11, 12] [] [0, 1, 2, 3, 4, 5, 6, 7, 8, 9, 10, 11, 12] rfl rfl rfl rfl rfl rfl rfl 0 rfl rfl rfl hl.1 rfl (Nat.le_of_ble_eq_true rfl) dX8_steady_40 ⟨Nat.zero_le _, Nat.zero_le _⟩ (fun H locs hP hD hS => ?_)
      refine lv_if_eq (tgt := 50) hx hb dX8_steady_43 (by decide) (fun g12 => ?_) (fun g12 => ?_)
      · rw [if_pos g12] at h
        refine lv_iconst (v := 0) hx hb dX8_steady_50 (by decide) ?_
        cases h
        exact sh_rwi hx hb hr hlocks hQ hK hP hD hS dX8_steady_51
      · rw [if_neg g12] at h
        refine lv_iconst (v := 1) hx hb dX8_steady_46 (by decide) ?_
        refine lv_goto (tgt := 51) hx hb dX8_steady_47 (by decide) ?_
        cases h
        exact sh_rwi hx hb hr hlocks hQ hK hP hD hS dX8_steady_51
    · rw [if_pos g6] at h
      refine lv_bipush (v := -2) hx hb dX8_steady_27 (by decide) ?_
      cases h
      exact sh_rwi hx hb hr hlocks hQ hK hP hD hS dX8_steady_29
  · rw [if_neg g3] at h
    refine lv_iconst (v := -1) hx hb dX8_steady_13 (by decide) ?_
    cases h
    exact sh_rwi hx hb hr hlocks hQ hK hP hD hS dX8_steady_14
theorem hdV_X8_begin : yX8_begin.cls = RX8 ∧ yX8_begin.cls ≠ "java/lang/invoke/MethodHandle" ∧ yX8_begin.cls ≠ "java/lang/invoke/VarHandle" ∧ (parseMethodDescriptor yX8_begin.desc).map (fun d => d.parameters.length) = some 0 := by decide +kernel
abbrev rmX8_begin : Room := { frames := 0, cells := 0, slots := 0, locals := 0 }
set_option maxHeartbeats 4000000 in
set_option maxRecDepth 100000 in
theorem k_X8_begin (l : Launch) (D : va_G) (cI cJ cZ : ClassId) (sz : Nat) (q : Nat → Nat) (I : Nat → Int32) (S : Int64) (A : Nat → Nat → Int32) (oA : Nat → Nat → Int32) (h : fX8_begin A = some oA) : Met l yX8_begin wsX8_begin rmX8_begin (sh_Pw D (sh_ty cI cJ cZ) sz (sh_w8 q cI cJ cZ I S A) [.ref (q 0)]) (sh_Qv D (sh_ty cI cJ cZ) (va_A (sh_w8 q cI cJ cZ I S A) sz) (sh_w8 q cI cJ cZ I S oA)) 0 0 (va_A (sh_w8 q cI cJ cZ I S A) sz) := by
  refine Met.ofW (cc := cX8_begin) (maxL := 2) (ret := none) (by decide) rfl ?_
  intro p e s m args below meth c s₁ hB hml hv
  obtain ⟨hargs, hsz, hP, hK, hD0⟩ := hv
  have hx := hB.exec
  have hb := hB.bytes
  have hr := hB.returns
  have hts := atoms_spec (ws := wsX8_begin) hB.pre
  have hown : s.vm.findClass RX8 = some m.cls := findClass_of_methodNamed hB.named
  have hlocks := hB.notSynchronized
  have hfix : CallFix p m c cX8_begin 2 s args wsX8_begin RX8 := ⟨hx, hb, hml, hown, hts⟩
  have hinX8 : ∀ w ∈ wsX80, w ∈ wsX8_begin := by decide +kernel
  have lk1 := hts (.fieldLink RX8 19 "ShadeTreeModel" "trial" "[I") (by decide +kernel)
  have lk2 := hts (.fieldLink RX8 16 "ShadeTreeModel" "page" "[I") (by decide +kernel)
  rw [show entryFrame m args 2 = entryFrame m ([.ref (q 0)] : List Value).toArray 2 by rw [hargs], lg_entry_eq]
  have hl := lv_entry ([.ref (q 0)]) (n := 2) (Nat.le_of_ble_eq_true rfl)
  generalize (lg_sl ([.ref (q 0)]) ++ List.replicate (2 - (lg_sl ([.ref (q 0)])).length) Slot.unset).toArray = ls at hl ⊢
  have hl : lv_has ls 2 [(0, .ref (q 0))] := hl
  subst hsz
  have hD := hD0.self (sz := s.heap.size)
  generalize hAe : va_A (sh_w8 q cI cJ cZ I S A) s.heap.size = Az at hD ⊢
  have hA : ∀ q : Nat, s.heap.size ≤ q → Az q := fun q h => by rw [← hAe]; exact Or.inr h
  have hS : va_S Az s.heap s.heap [] := va_S.rf
  generalize hQ : MQ below (sh_Qv D (sh_ty cI cJ cZ) Az (sh_w8 q cI cJ cZ I S oA)) args s 0 0 Az = Q
  unfold fX8_begin at h
  refine lv_iconst (v := 0) hx hb dX8_begin_0 (by decide) ?_
  refine lv_istore_n (lv' := [(1, .int 0), (0, .ref (q 0))]) hx hb dX8_begin_1 rfl hl (by decide) rfl (fun ls hl => ?_)
  have LP4 : ∀ (n : Nat) (x1 : Int32) (A : Nat → Nat → Int32) (oA : (Nat → Nat → Int32)) (H : Heap) (locs : List Loc) (ls : Array Slot), fX8_begin_L2 n x1 A = some oA → lv_has ls 2 [(0, .ref (q 0)), (1, .int x1)] → va_P D vwCl (sh_w8 q cI cJ cZ I S A) H → va_D Az (sh_w8 q cI cJ cZ I S A) → va_S Az s.heap H locs → (∀ (H : Heap) (locs : List Loc) (ls : Array Slot), lv_has ls 2 [] → va_P D vwCl (sh_w8 q cI cJ cZ I S oA) H → va_D Az (sh_w8 q cI cJ cZ I S oA) → va_S Az s.heap H locs → W p l e (headSpec wsX8_begin rmX8_begin).room s m args below meth c H locs 0 0 Q (F0 m 26 ls [])) → W p l e (headSpec wsX8_begin rmX8_begin).room s m args below meth c H locs 0 0 Q (F0 m 2 ls []) := by
    intro n
    induction n with
    | zero =>
      intro x1 A oA H locs ls h hl hP hD hS hk
      exact nomatch ((fX8_begin_L2_z x1 A).symm.trans h)
    | succ n ih =>
      intro x1 A oA H locs ls h hl hP hD hS hk
      rw [fX8_begin_L2_s] at h
      refine lv_iload_n hx hb dX8_begin_2 rfl (lv_at hl 1 rfl) ?_
      refine lv_bipush (v := 39) hx hb dX8_begin_3 (by decide) ?_
      refine lv_icmp_ge (tgt := 26) hx hb dX8_begin_5 (by decide) (fun g1 => ?_) (fun g1 => ?_)
      · rw [if_pos g1] at h
        cases h
        exact hk _ _ ls (lv_sub hl [] rfl) hP hD hS
      · rw [if_neg g1] at h
        refine lv_aload_n hx hb dX8_begin_8 rfl (lv_at hl 0 rfl) ?_
        refine va_get (ci := 8) (v := .ref (q 4)) (C := RX8) (T := TX8) (N := 21) hx hb hts hinX8 hown hK hP 0 rfl rfl 5 (by decide) lk1 (fun _ h9 => h9) rfl dX8_begin_9 ?_
        refine lv_iload_n hx hb dX8_begin_12 rfl (lv_at hl 1 rfl) ?_
        refine lv_aload_n hx hb dX8_begin_13 rfl (lv_at hl 0 rfl) ?_
        refine va_get (ci := 8) (v := .ref (q 3)) (C := RX8) (T := TX8) (N := 21) hx hb hts hinX8 hown hK hP 0 rfl rfl 4 (by decide) lk2 (fun _ h9 => h9) rfl dX8_begin_14 ?_
        refine lv_iload_n hx hb dX8_begin_17 rfl (lv_at hl 1 rfl) ?_
        obtain ⟨v2, hcv2, h⟩ := sh_b1_e h
        refine sh_iald hx hb hK hP 3 0 rfl rfl (sh_ald_e hcv2) dX8_begin_18 ?_
        obtain ⟨f3, hcf3, h⟩ := sh_b1_e h
        refine sh_iast (wn := (sh_w8 q cI cJ cZ I S (va_up A 3 f3))) hx hb hK hP hD hS 4 0 rfl rfl (sh_ast_e hcf3) rfl dX8_begin_19 (fun H locs hP hD hS => ?_)
        refine lv_iinc (v := (x1 + 1)) (lv' := [(1, .int (x1 + 1)), (0, .ref (q 0))]) hx hb dX8_begin_20 hl (k := 1) rfl rfl (by decide) rfl (fun ls hl => ?_)
        refine lv_goto (tgt := 2) hx hb dX8_begin_23 (by decide) ?_
        exact ih (x1 + 1) (va_up A 3 f3) oA _ _ ls h (lv_sub hl [1, 0] rfl) hP hD hS hk
  obtain ⟨w5, hc6, h⟩ := sh_b1_e h
  refine LP4 sh_fu 0 A w5 _ _ ls hc6 (lv_sub hl [1, 0] rfl) hP hD hS (fun H locs ls hl hP hD hS => ?_)
  cases h
  exact sh_rwv hx hb hr hlocks hQ hK hP hD hS dX8_begin_26
theorem hdS_X8_longPower : yX8_longPower.cls ≠ "java/lang/invoke/MethodHandle" ∧ yX8_longPower.cls ≠ "java/lang/invoke/VarHandle" ∧ (parseMethodDescriptor yX8_longPower.desc).map (fun d => d.parameters.length) = some 2 := by decide +kernel
abbrev rmX8_longPower : Room := { frames := 0, cells := 0, slots := 0, locals := 0 }
set_option maxHeartbeats 4000000 in
set_option maxRecDepth 100000 in
theorem k_X8_longPower (l : Launch) (D : va_G) (cI cJ cZ : ClassId) (x0 : Int64) (x2 : Int32) (o : Int64) (h : fX8_longPower x0 x2 = some o) : Met l yX8_longPower wsX8_longPower rmX8_longPower (sh_Pr D (sh_ty cI cJ cZ) [] [.long x0, .int x2]) (vp_Sl (fun z => z = o)) 0 0 (fun _ => False) := by
  refine Met.ofW (cc := cX8_longPower) (maxL := 6) (ret := (some .long)) (by decide) rfl ?_
  intro p e s m args below meth c s₁ hB hml hv
  obtain ⟨hargs, hP, hK⟩ := hv
  have hx := hB.exec
  have hb := hB.bytes
  have hr := hB.returns
  have hts := atoms_spec (ws := wsX8_longPower) hB.pre
  have hown : s.vm.findClass RX8 = some m.cls := findClass_of_methodNamed hB.named
  have hlocks := hB.notSynchronized
  have hfix : CallFix p m c cX8_longPower 6 s args wsX8_longPower RX8 := ⟨hx, hb, hml, hown, hts⟩
  rw [show entryFrame m args 6 = entryFrame m ([.long x0, .int x2] : List Value).toArray 6 by rw [hargs], lg_entry_eq]
  have hl := lv_entry ([.long x0, .int x2]) (n := 6) (Nat.le_of_ble_eq_true rfl)
  generalize (lg_sl ([.long x0, .int x2]) ++ List.replicate (6 - (lg_sl ([.long x0, .int x2])).length) Slot.unset).toArray = ls at hl ⊢
  have hl : lv_has ls 6 [(0, .long x0), (2, .int x2)] := hl
  generalize hQ : MQ below (vp_Sl (fun z => z = o)) args s 0 0 (fun _ => False) = Q
  unfold fX8_longPower at h
  refine lv_lconst (v := 1) hx hb dX8_longPower_0 (by decide) ?_
  refine lv_lstore_n (lv' := [(3, .long 1), (0, .long x0), (2, .int x2)]) hx hb dX8_longPower_1 rfl hl (by decide) rfl (fun ls hl => ?_)
  refine lv_iconst (v := 0) hx hb dX8_longPower_2 (by decide) ?_
  refine lv_istore (lv' := [(5, .int 0), (3, .long 1), (0, .long x0), (2, .int x2)]) hx hb dX8_longPower_3 hl (by decide) rfl (fun ls hl => ?_)
  have LP2 : ∀ (n : Nat) (x0 : Int64) (x2 : Int32) (x3 : Int64) (x5 : Int32) (ow3 : Int64) (ls : Array Slot), fX8_longPower_L5 n x0 x2 x3 x5 = some ow3 → lv_has ls 6 [(0, .long x0), (2, .int x2), (3, .long x3), (5, .int x5)] → (∀ (ls : Array Slot), lv_has ls 6 [(3, .long ow3)] → W p l e (headSpec wsX8_longPower rmX8_longPower).room s m args below meth c s.heap [] 0 0 Q (F0 m 21 ls [])) → W p l e (headSpec wsX8_longPower rmX8_longPower).room s m args below meth c s.heap [] 0 0 Q (F0 m 5 ls []) := by
    intro n
    induction n with
    | zero =>
      intro x0 x2 x3 x5 ow3 ls h hl hk
      exact nomatch ((fX8_longPower_L5_z x0 x2 x3 x5).symm.trans h)
    | succ n ih =>
      intro x0 x2 x3 x5 ow3 ls h hl hk
      rw [fX8_longPower_L5_s] at h
      refine lv_iload hx hb dX8_longPower_5 (lv_at hl 3 rfl) ?_
      refine lv_iload_n hx hb dX8_longPower_7 rfl (lv_at hl 1 rfl) ?_
      refine lv_icmp_ge (tgt := 21) hx hb dX8_longPower_8 (by decide) (fun g1 => ?_) (fun g1 => ?_)
      · rw [if_pos g1] at h
        cases h
        exact hk ls (lv_sub hl [2] rfl) 
      · rw [if_neg g1] at h
        refine lv_lload_n hx hb dX8_longPower_11 rfl (lv_at hl 2 rfl) ?_
        refine lv_lload_n hx hb dX8_longPower_12 rfl (lv_at hl 0 rfl) ?_
        refine lv_lmul hx hb dX8_longPower_13 ?_
        refine lv_lstore_n (lv' := [(3, .long (x3 * x0)), (0, .long x0), (2, .int x2), (5, .int x5)]) hx hb dX8_longPower_14 rfl hl (by decide) rfl (fun ls hl => ?_)
        refine lv_iinc (v := (x5 + 1)) (lv' := [(5, .int (x5 + 1)), (3, .long (x3 * x0)), (0, .long x0), (2, .int x2)]) hx hb dX8_longPower_15 hl (k := 3) rfl rfl (by decide) rfl (fun ls hl => ?_)
        refine lv_goto (tgt := 5) hx hb dX8_longPower_18 (by decide) ?_
        exact ih x0 x2 (x3 * x0) (x5 + 1) ow3 ls h (lv_sub hl [2, 3, 1, 0] rfl)  hk
  obtain ⟨w3, hc4, h⟩ := sh_b1_e h
  refine LP2 sh_fu x0 x2 1 0 w3 ls hc4 (lv_sub hl [2, 3, 1, 0] rfl)  (fun ls hl  => ?_)
  refine lv_lload_n hx hb dX8_longPower_21 rfl (lv_at hl 0 rfl) ?_
  exact sh_rol hx hb hr hlocks hQ (Option.some.inj h) dX8_longPower_22
theorem hdV_X8_isSo : yX8_isSo.cls = RX8 ∧ yX8_isSo.cls ≠ "java/lang/invoke/MethodHandle" ∧ yX8_isSo.cls ≠ "java/lang/invoke/VarHandle" ∧ (parseMethodDescriptor yX8_isSo.desc).map (fun d => d.parameters.length) = some 3 := by decide +kernel
abbrev rmX8_isSo : Room := { frames := 5, cells := 0, slots := 0, locals := 128 }
set_option maxHeartbeats 4000000 in
set_option maxRecDepth 100000 in
theorem k_X8_isSo (l : Launch) (D : va_G) (cI cJ cZ : ClassId) (q : Nat → Nat) (I : Nat → Int32) (S : Int64) (A : Nat → Nat → Int32) (x1 : Int32) (x2 : Int32) (x3 : Int32) (o : Int32) (h : fX8_isSo A x1 x2 x3 = some o) : Met l yX8_isSo wsX8_isSo rmX8_isSo (sh_Pr D (sh_ty cI cJ cZ) (sh_w8 q cI cJ cZ I S A) [.ref (q 0), .int x1, .int x2, .int x3]) (vp_Si (fun z => z = o)) 0 0 (fun _ => False) := by
  refine Met.ofW (cc := cX8_isSo) (maxL := 8) (ret := (some .boolean)) (by decide) rfl ?_
  intro p e s m args below meth c s₁ hB hml hv
  obtain ⟨hargs, hP, hK⟩ := hv
  have hx := hB.exec
  have hb := hB.bytes
  have hr := hB.returns
  have hts := atoms_spec (ws := wsX8_isSo) hB.pre
  have hown : s.vm.findClass RX8 = some m.cls := findClass_of_methodNamed hB.named
  have hlocks := hB.notSynchronized
  have hfix : CallFix p m c cX8_isSo 8 s args wsX8_isSo RX8 := ⟨hx, hb, hml, hown, hts⟩
  have hinX8 : ∀ w ∈ wsX80, w ∈ wsX8_isSo := by decide +kernel
  have lk1 := hts (.fieldLink RX8 19 "ShadeTreeModel" "trial" "[I") (by decide +kernel)
  have lk2 := hts (.constantLong RX8 67 (-1)) (by decide +kernel)
  rw [show entryFrame m args 8 = entryFrame m ([.ref (q 0), .int x1, .int x2, .int x3] : List Value).toArray 8 by rw [hargs], lg_entry_eq]
  have hl := lv_entry ([.ref (q 0), .int x1, .int x2, .int x3]) (n := 8) (Nat.le_of_ble_eq_true rfl)
  generalize (lg_sl ([.ref (q 0), .int x1, .int x2, .int x3]) ++ List.replicate (8 - (lg_sl ([.ref (q 0), .int x1, .int x2, .int x3])).length) Slot.unset).toArray = ls at hl ⊢
  have hl : lv_has ls 8 [(0, .ref (q 0)), (1, .int x1), (2, .int x2), (3, .int x3)] := hl
  generalize hQ : MQ below (vp_Si (fun z => z = o)) args s 0 0 (fun _ => False) = Q
  unfold fX8_isSo at h
  refine lv_iload_n hx hb dX8_isSo_0 rfl (lv_at hl 1 rfl) ?_
  refine lv_bipush (v := 6) hx hb dX8_isSo_1 (by decide) ?_
  refine lv_icmp_ne (tgt := 27) hx hb dX8_isSo_3 (by decide) (fun g1 => ?_) (fun g1 => ?_)
  · rw [if_neg g1] at h
    refine lv_iload_n hx hb dX8_isSo_27 rfl (lv_at hl 2 rfl) ?_
    refine lv_aload_n hx hb dX8_isSo_28 rfl (lv_at hl 0 rfl) ?_
    refine va_get (ci := 8) (v := .ref (q 4)) (C := RX8) (T := TX8) (N := 21) hx hb hts hinX8 hown hK hP 0 rfl rfl 5 (by decide) lk1 (fun _ h9 => h9) rfl dX8_isSo_29 ?_
    obtain ⟨v2, hc3, h⟩ := sh_b1_e h
    refine sh_cSi (As := [.ref (q 4)]) (rest := [.int x2]) hfix (k_X8_dotsOf l D cI cJ cZ (q 4) (A 3) v2 hc3) (va_cwS 1 hts gX8_isSo_X8_dotsOf rfl rfl rfl hdS_X8_dotsOf ⟨Nat.le_of_ble_eq_true rfl, Nat.le_of_ble_eq_true rfl⟩) hP hK [4] rfl rfl hl.1 rfl (Nat.le_of_ble_eq_true rfl) dX8_isSo_32 ⟨Nat.zero_le _, Nat.zero_le _⟩ ?_
    refine lv_icmp_lt (tgt := 40) hx hb dX8_isSo_35 (by decide) (fun g4 => ?_) (fun g4 => ?_)
    · rw [if_pos g4] at h
      refine lv_aload_n hx hb dX8_isSo_40 rfl (lv_at hl 0 rfl) ?_
      refine va_get (ci := 8) (v := .ref (q 4)) (C := RX8) (T := TX8) (N := 21) hx hb hts hinX8 hown hK hP 0 rfl rfl 5 (by decide) lk1 (fun _ h9 => h9) rfl dX8_isSo_41 ?_
      refine lv_iload_n hx hb dX8_isSo_44 rfl (lv_at hl 2 rfl) ?_
      obtain ⟨v5, hc6, h⟩ := sh_b1_e h
      refine sh_cSl (As := [.ref (q 4), .int x2]) (rest := []) hfix (k_X8_nodeOf l D cI cJ cZ (q 4) (A 3) x2 v5 hc6) (va_cwS 2 hts gX8_isSo_X8_nodeOf rfl rfl rfl hdS_X8_nodeOf ⟨Nat.le_of_ble_eq_true rfl, Nat.le_of_ble_eq_true rfl⟩) hP hK [4] rfl rfl hl.1 rfl (Nat.le_of_ble_eq_true rfl) dX8_isSo_45 ⟨Nat.zero_le _, Nat.zero_le _⟩ ?_
      refine lv_lstore (lv' := [(4, .long v5), (0, .ref (q 0)), (1, .int x1), (2, .int x2), (3, .int x3)]) hx hb dX8_isSo_48 hl (by decide) rfl (fun ls hl => ?_)
      refine lv_aload_n hx hb dX8_isSo_50 rfl (lv_at hl 1 rfl) ?_
      refine va_get (ci := 8) (v := .ref (q 4)) (C := RX8) (T := TX8) (N := 21) hx hb hts hinX8 hown hK hP 0 rfl rfl 5 (by decide) lk1 (fun _ h9 => h9) rfl dX8_isSo_51 ?_
      refine lv_lload hx hb dX8_isSo_54 (lv_at hl 0 rfl) ?_
      obtain ⟨v7, hc8, h⟩ := sh_b1_e h
      refine sh_cSl (As := [.ref (q 4), .long v5]) (rest := []) hfix (k_X8_parent l D cI cJ cZ (q 4) (A 3) v5 v7 hc8) (va_cwS 2 hts gX8_isSo_X8_parent rfl rfl rfl hdS_X8_parent ⟨Nat.le_of_ble_eq_true rfl, Nat.le_of_ble_eq_true rfl⟩) hP hK [4] rfl rfl hl.1 rfl (Nat.le_of_ble_eq_true rfl) dX8_isSo_56 ⟨Nat.zero_le _, Nat.zero_le _⟩ ?_
      refine lv_lstore (lv' := [(6, .long v7), (4, .long v5), (0, .ref (q 0)), (1, .int x1), (2, .int x2), (3, .int x3)]) hx hb dX8_isSo_59 hl (by decide) rfl (fun ls hl => ?_)
      refine lv_iload_n hx hb dX8_isSo_61 rfl (lv_at hl 3 rfl) ?_
      refine lv_iconst (v := 5) hx hb dX8_isSo_62 (by decide) ?_
      refine lv_icmp_ne (tgt := 95) hx hb dX8_isSo_63 (by decide) (fun g9 => ?_) (fun g9 => ?_)
      · rw [if_neg g9] at h
        refine lv_iload_n hx hb dX8_isSo_95 rfl (lv_at hl 3 rfl) ?_
        refine lv_bipush (v := 7) hx hb dX8_isSo_96 (by decide) ?_
        refine lv_icmp_ne (tgt := 118) hx hb dX8_isSo_98 (by decide) (fun g10 => ?_) (fun g10 => ?_)
        · rw [if_neg g10] at h
          refine lv_iconst (v := 0) hx hb dX8_isSo_118 (by decide) ?_
          exact sh_roz hx hb hr hlocks hQ ⟨rfl, (Option.some.inj h)⟩ dX8_isSo_119
        · rw [if_pos g10] at h
          refine lv_aload_n hx hb dX8_isSo_101 rfl (lv_at hl 2 rfl) ?_
          refine va_get (ci := 8) (v := .ref (q 4)) (C := RX8) (T := TX8) (N := 21) hx hb hts hinX8 hown hK hP 0 rfl rfl 5 (by decide) lk1 (fun _ h9 => h9) rfl dX8_isSo_102 ?_
          refine lv_lload hx hb dX8_isSo_105 (lv_at hl 1 rfl) ?_
          obtain ⟨v11, hc12, h⟩ := sh_b1_e h
          refine sh_cSi (As := [.ref (q 4), .long v5]) (rest := []) hfix (k_X8_rise l D cI cJ cZ (q 4) (A 3) v5 v11 hc12) (va_cwS 2 hts gX8_isSo_X8_rise rfl rfl rfl hdS_X8_rise ⟨Nat.le_of_ble_eq_true rfl, Nat.le_of_ble_eq_true rfl⟩) hP hK [4] rfl rfl hl.1 rfl (Nat.le_of_ble_eq_true rfl) dX8_isSo_107 ⟨Nat.zero_le _, Nat.zero_le _⟩ ?_
          refine lv_iload_n hx hb dX8_isSo_110 rfl (lv_at hl 5 rfl) ?_
          refine lv_icmp_ne (tgt := 118) hx hb dX8_isSo_111 (by decide) (fun g13 => ?_) (fun g13 => ?_)
          · rw [if_neg g13] at h
            refine lv_iconst (v := 0) hx hb dX8_isSo_118 (by decide) ?_
            exact sh_roz hx hb hr hlocks hQ ⟨rfl, (Option.some.inj h)⟩ dX8_isSo_119
          · rw [if_pos g13] at h
            refine lv_iconst (v := 1) hx hb dX8_isSo_114 (by decide) ?_
            refine lv_goto (tgt := 119) hx hb dX8_isSo_115 (by decide) ?_
            exact sh_roz hx hb hr hlocks hQ ⟨rfl, (Option.some.inj h)⟩ dX8_isSo_119
      · rw [if_pos g9] at h
        refine lv_lload hx hb dX8_isSo_66 (lv_at hl 0 rfl) ?_
        refine lv_lload hx hb dX8_isSo_68 (lv_at hl 1 rfl) ?_
        refine sh_leq (tgt := 91) hx hb dX8_isSo_70 dX8_isSo_71 (by decide) (fun g14 => ?_) (fun g14 => ?_)
        · rw [if_pos g14] at h
          refine lv_iconst (v := 0) hx hb dX8_isSo_91 (by decide) ?_
          refine lv_goto (tgt := 119) hx hb dX8_isSo_92 (by decide) ?_
          exact sh_roz hx hb hr hlocks hQ ⟨rfl, (Option.some.inj h)⟩ dX8_isSo_119
        · rw [if_neg g14] at h
          refine lv_aload_n hx hb dX8_isSo_74 rfl (lv_at hl 2 rfl) ?_
          refine va_get (ci := 8) (v := .ref (q 4)) (C := RX8) (T := TX8) (N := 21) hx hb hts hinX8 hown hK hP 0 rfl rfl 5 (by decide) lk1 (fun _ h9 => h9) rfl dX8_isSo_75 ?_
          refine lv_lload hx hb dX8_isSo_78 (lv_at hl 0 rfl) ?_
          obtain ⟨v15, hc16, h⟩ := sh_b1_e h
          refine sh_cSi (As := [.ref (q 4), .long v7]) (rest := []) hfix (k_X8_level l D cI cJ cZ (q 4) (A 3) v7 v15 hc16) (va_cwS 2 hts gX8_isSo_X8_level rfl rfl rfl hdS_X8_level ⟨Nat.le_of_ble_eq_true rfl, Nat.le_of_ble_eq_true rfl⟩) hP hK [4] rfl rfl hl.1 rfl (Nat.le_of_ble_eq_true rfl) dX8_isSo_80 ⟨Nat.zero_le _, Nat.zero_le _⟩ ?_
          refine lv_iload_n hx hb dX8_isSo_83 rfl (lv_at hl 5 rfl) ?_
          refine lv_icmp_ne (tgt := 91) hx hb dX8_isSo_84 (by decide) (fun g17 => ?_) (fun g17 => ?_)
          · rw [if_neg g17] at h
            refine lv_iconst (v := 0) hx hb dX8_isSo_91 (by decide) ?_
            refine lv_goto (tgt := 119) hx hb dX8_isSo_92 (by decide) ?_
            exact sh_roz hx hb hr hlocks hQ ⟨rfl, (Option.some.inj h)⟩ dX8_isSo_119
          · rw [if_pos g17] at h
            refine lv_iconst (v := 1) hx hb dX8_isSo_87 (by decide) ?_
            refine lv_goto (tgt := 119) hx hb dX8_isSo_88 (by decide) ?_
            exact sh_roz hx hb hr hlocks hQ ⟨rfl, (Option.some.inj h)⟩ dX8_isSo_119
    · rw [if_neg g4] at h
      refine lv_iconst (v := 0) hx hb dX8_isSo_38 (by decide) ?_
      exact sh_roz hx hb hr hlocks hQ ⟨rfl, (Option.some.inj h)⟩ dX8_isSo_39
  · rw [if_pos g1] at h
    refine lv_aload_n hx hb dX8_isSo_6 rfl (lv_at hl 0 rfl) ?_
    refine va_get (ci := 8) (v := .ref (q 4)) (C := RX8) (T := TX8) (N := 21) hx hb hts hinX8 hown hK hP 0 rfl rfl 5 (by decide) lk1 (fun _ h9 => h9) rfl dX8_isSo_7 ?_
    refine lv_iload_n hx hb dX8_isSo_10 rfl (lv_at hl 3 rfl) ?_
    refine lv_ldc2 hx hb hown lk2 dX8_isSo_11 ?_
    obtain ⟨v18, hc19, h⟩ := sh_b1_e h
    refine sh_cSi (As := [.ref (q 4), .int x3, .long (-1)]) (rest := []) hfix (k_X8_partsOf l D cI cJ cZ (q 4) (A 3) x3 (-1) v18 hc19) (va_cwS 3 hts gX8_isSo_X8_partsOf rfl rfl rfl hdS_X8_partsOf ⟨Nat.le_of_ble_eq_true rfl, Nat.le_of_ble_eq_true rfl⟩) hP hK [4] rfl rfl hl.1 rfl (Nat.le_of_ble_eq_true rfl) dX8_isSo_14 ⟨Nat.zero_le _, Nat.zero_le _⟩ ?_
    refine lv_iload_n hx hb dX8_isSo_17 rfl (lv_at hl 2 rfl) ?_
    refine lv_icmp_lt (tgt := 25) hx hb dX8_isSo_18 (by decide) (fun g20 => ?_) (fun g20 => ?_)
    · rw [if_pos g20] at h
      refine lv_iconst (v := 0) hx hb dX8_isSo_25 (by decide) ?_
      exact sh_roz hx hb hr hlocks hQ ⟨rfl, (Option.some.inj h)⟩ dX8_isSo_26
    · rw [if_neg g20] at h
      refine lv_iconst (v := 1) hx hb dX8_isSo_21 (by decide) ?_
      refine lv_goto (tgt := 26) hx hb dX8_isSo_22 (by decide) ?_
      exact sh_roz hx hb hr hlocks hQ ⟨rfl, (Option.some.inj h)⟩ dX8_isSo_26
