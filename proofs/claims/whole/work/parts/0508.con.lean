theorem hdV_X7_fades : yX7_fades.cls = RX7 ∧ yX7_fades.cls ≠ "java/lang/invoke/MethodHandle" ∧ yX7_fades.cls ≠ "java/lang/invoke/VarHandle" ∧ (parseMethodDescriptor yX7_fades.desc).map (fun d => d.parameters.length) = some 5 := by decide +kernel
abbrev rmX7_fades : Room := { frames := 4, cells := 0, slots := 0, locals := 113 }
set_option maxHeartbeats 4000000 in
set_option maxRecDepth 100000 in
theorem k_X7_fades (l : Launch) (D : va_G) (cI cJ cZ : ClassId) (q : Nat → Nat) (I : Nat → Int32) (J : Nat → Int64) (A : Nat → Nat → Int32) (B : Nat → Nat → Int64) (x1 : Int32) (x2 : Int32) (x3 : Int32) (x4 : Int32) (x5 : Int32) (o : Int32) (h : fX7_fades I J B x1 x2 x3 x4 x5 = some o) : Met l yX7_fades wsX7_fades rmX7_fades (sh_Pr D (sh_ty cI cJ cZ) (sh_w7 q cI cJ cZ I J A B) [.ref (q 0), .int x1, .int x2, .int x3, .int x4, .int x5]) (vp_Si (fun z => z = o)) 0 0 (fun _ => False) := by
  refine Met.ofW (cc := cX7_fades) (maxL := 10) (ret := (some .int)) (by decide) rfl ?_
  intro p e s m args below meth c s₁ hB hml hv
  obtain ⟨hargs, hP, hK⟩ := hv
  have hx := hB.exec
  have hb := hB.bytes
  have hr := hB.returns
  have hts := atoms_spec (ws := wsX7_fades) hB.pre
  have hown : s.vm.findClass RX7 = some m.cls := findClass_of_methodNamed hB.named
  have hlocks := hB.notSynchronized
  have hfix : CallFix p m c cX7_fades 10 s args wsX7_fades RX7 := ⟨hx, hb, hml, hown, hts⟩
  have hinX7 : ∀ w ∈ wsX70, w ∈ wsX7_fades := by decide +kernel
  have lk1 := hts (.fieldLink RX7 19 "ShadeTree" "grid" "LShadeTree$Grid;") (by decide +kernel)
  have lk2 := hts (.fieldLink RX7 28 "ShadeTree" "now" "LShadeTree$Shades;") (by decide +kernel)
  rw [show entryFrame m args 10 = entryFrame m ([.ref (q 0), .int x1, .int x2, .int x3, .int x4, .int x5] : List Value).toArray 10 by rw [hargs], lg_entry_eq]
  have hl := lv_entry ([.ref (q 0), .int x1, .int x2, .int x3, .int x4, .int x5]) (n := 10) (Nat.le_of_ble_eq_true rfl)
  generalize (lg_sl ([.ref (q 0), .int x1, .int x2, .int x3, .int x4, .int x5]) ++ List.replicate (10 - (lg_sl ([.ref (q 0), .int x1, .int x2, .int x3, .int x4, .int x5])).length) Slot.unset).toArray = ls at hl ⊢
  have hl : lv_has ls 10 [(0, .ref (q 0)), (1, .int x1), (2, .int x2), (3, .int x3), (4, .int x4), (5, .int x5)] := hl
  generalize hQ : MQ below (vp_Si (fun z => z = o)) args s 0 0 (fun _ => False) = Q
  unfold fX7_fades at h
  refine lv_aload_n hx hb dX7_fades_0 rfl (lv_at hl 0 rfl) ?_
  refine va_get (ci := 7) (v := .ref (q 3)) (C := RX7) (T := TX7) (N := 10) hx hb hts hinX7 hown hK hP 0 rfl rfl 1 (by decide) lk1 (fun _ h9 => h9) rfl dX7_fades_1 ?_
  refine lv_iload_n hx hb dX7_fades_4 rfl (lv_at hl 1 rfl) ?_
  obtain ⟨v1, hc2, h⟩ := sh_b1_e h
  refine sh_cVi (As := [.int x1]) (rest := []) hfix (k_X1_hasRow l D cI cJ cZ (q 3) (I 1) (I 2) (I 3) (J 0) (J 1) (J 2) x1 v1 hc2) (cwV 1 hts gX7_fades_X1_hasRow rfl rfl rfl hdV_X1_hasRow ⟨Nat.le_of_ble_eq_true rfl, Nat.le_of_ble_eq_true rfl⟩) hP hK [3] rfl 3 rfl rfl rfl hl.1 rfl (Nat.le_of_ble_eq_true rfl) dX7_fades_5 ⟨Nat.zero_le _, Nat.zero_le _⟩ ?_
  refine lv_if_ne (tgt := 13) hx hb dX7_fades_8 (by decide) (fun g3 => ?_) (fun g3 => ?_)
  · rw [if_neg g3] at h
    refine lv_iload_n hx hb dX7_fades_13 rfl (lv_at hl 2 rfl) ?_
    refine lv_iconst (v := 1) hx hb dX7_fades_14 (by decide) ?_
    refine lv_icmp_lt (tgt := 46) hx hb dX7_fades_15 (by decide) (fun g4 => ?_) (fun g4 => ?_)
    · rw [if_pos g4] at h
      refine lv_bipush (v := -2) hx hb dX7_fades_46 (by decide) ?_
      exact sh_roi hx hb hr hlocks hQ (Option.some.inj h) dX7_fades_48
    · rw [if_neg g4] at h
      refine lv_iload_n hx hb dX7_fades_18 rfl (lv_at hl 2 rfl) ?_
      refine lv_bipush (v := 9) hx hb dX7_fades_19 (by decide) ?_
      refine lv_icmp_gt (tgt := 46) hx hb dX7_fades_21 (by decide) (fun g5 => ?_) (fun g5 => ?_)
      · rw [if_pos g5] at h
        refine lv_bipush (v := -2) hx hb dX7_fades_46 (by decide) ?_
        exact sh_roi hx hb hr hlocks hQ (Option.some.inj h) dX7_fades_48
      · rw [if_neg g5] at h
        refine lv_iload_n hx hb dX7_fades_24 rfl (lv_at hl 3 rfl) ?_
        refine lv_if_lt (tgt := 46) hx hb dX7_fades_25 (by decide) (fun g6 => ?_) (fun g6 => ?_)
        · rw [if_pos g6] at h
          refine lv_bipush (v := -2) hx hb dX7_fades_46 (by decide) ?_
          exact sh_roi hx hb hr hlocks hQ (Option.some.inj h) dX7_fades_48
        · rw [if_neg g6] at h
          refine lv_iload_n hx hb dX7_fades_28 rfl (lv_at hl 3 rfl) ?_
          refine lv_bipush (v := 36) hx hb dX7_fades_29 (by decide) ?_
          refine lv_icmp_gt (tgt := 46) hx hb dX7_fades_31 (by decide) (fun g7 => ?_) (fun g7 => ?_)
          · rw [if_pos g7] at h
            refine lv_bipush (v := -2) hx hb dX7_fades_46 (by decide) ?_
            exact sh_roi hx hb hr hlocks hQ (Option.some.inj h) dX7_fades_48
          · rw [if_neg g7] at h
            refine lv_iload hx hb dX7_fades_34 (lv_at hl 4 rfl) ?_
            refine lv_if_lt (tgt := 46) hx hb dX7_fades_36 (by decide) (fun g8 => ?_) (fun g8 => ?_)
            · rw [if_pos g8] at h
              refine lv_bipush (v := -2) hx hb dX7_fades_46 (by decide) ?_
              exact sh_roi hx hb hr hlocks hQ (Option.some.inj h) dX7_fades_48
            · rw [if_neg g8] at h
              refine lv_iload hx hb dX7_fades_39 (lv_at hl 4 rfl) ?_
              refine lv_bipush (v := 10) hx hb dX7_fades_41 (by decide) ?_
              refine lv_icmp_le (tgt := 49) hx hb dX7_fades_43 (by decide) (fun g9 => ?_) (fun g9 => ?_)
              · rw [if_pos g9] at h
                refine lv_aload_n hx hb dX7_fades_49 rfl (lv_at hl 0 rfl) ?_
                refine va_get (ci := 7) (v := .ref (q 4)) (C := RX7) (T := TX7) (N := 10) hx hb hts hinX7 hown hK hP 0 rfl rfl 2 (by decide) lk2 (fun _ h9 => h9) rfl dX7_fades_50 ?_
                refine lv_iload_n hx hb dX7_fades_53 rfl (lv_at hl 2 rfl) ?_
                obtain ⟨v10, hc11, h⟩ := sh_b1_e h
                refine sh_cVl (As := [.int x2]) (rest := []) hfix (k_X2_atLeast l D cI cJ cZ (q 3) (q 4) (q 5) (I 1) (I 2) (I 3) (J 0) (J 1) (J 2) (B 0) x2 v10 hc11) (cwV 1 hts gX7_fades_X2_atLeast rfl rfl rfl hdV_X2_atLeast ⟨Nat.le_of_ble_eq_true rfl, Nat.le_of_ble_eq_true rfl⟩) hP hK [4, 5, 3] rfl 4 rfl rfl rfl hl.1 rfl (Nat.le_of_ble_eq_true rfl) dX7_fades_54 ⟨Nat.zero_le _, Nat.zero_le _⟩ ?_
                refine lv_lstore (lv' := [(6, .long v10), (0, .ref (q 0)), (1, .int x1), (2, .int x2), (3, .int x3), (4, .int x4), (5, .int x5)]) hx hb dX7_fades_57 hl (by decide) rfl (fun ls hl => ?_)
                refine lv_lload hx hb dX7_fades_59 (lv_at hl 0 rfl) ?_
                refine lv_aload_n hx hb dX7_fades_61 rfl (lv_at hl 1 rfl) ?_
                refine va_get (ci := 7) (v := .ref (q 3)) (C := RX7) (T := TX7) (N := 10) hx hb hts hinX7 hown hK hP 0 rfl rfl 1 (by decide) lk1 (fun _ h9 => h9) rfl dX7_fades_62 ?_
                refine lv_iload_n hx hb dX7_fades_65 rfl (lv_at hl 2 rfl) ?_
                obtain ⟨v12, hc13, h⟩ := sh_b1_e h
                refine sh_cVl (As := [.int x1]) (rest := [.long v10]) hfix (k_X1_row l D cI cJ cZ (q 3) (I 1) (I 2) (I 3) (J 0) (J 1) (J 2) x1 v12 hc13) (cwV 1 hts gX7_fades_X1_row rfl rfl rfl hdV_X1_row ⟨Nat.le_of_ble_eq_true rfl, Nat.le_of_ble_eq_true rfl⟩) hP hK [3] rfl 3 rfl rfl rfl hl.1 rfl (Nat.le_of_ble_eq_true rfl) dX7_fades_66 ⟨Nat.zero_le _, Nat.zero_le _⟩ ?_
                refine lv_land hx hb dX7_fades_69 ?_
                refine lv_lstore (lv' := [(8, .long (v10 &&& v12)), (6, .long v10), (0, .ref (q 0)), (1, .int x1), (2, .int x2), (3, .int x3), (4, .int x4), (5, .int x5)]) hx hb dX7_fades_70 hl (by decide) rfl (fun ls hl => ?_)
                refine lv_aload_n hx hb dX7_fades_72 rfl (lv_at hl 2 rfl) ?_
                refine lv_lload hx hb dX7_fades_73 (lv_at hl 1 rfl) ?_
                refine lv_lload hx hb dX7_fades_75 (lv_at hl 0 rfl) ?_
                refine lv_iload_n hx hb dX7_fades_77 rfl (lv_at hl 5 rfl) ?_
                refine lv_iload hx hb dX7_fades_78 (lv_at hl 6 rfl) ?_
                obtain ⟨v14, hc15, h⟩ := sh_b1_e h
                refine sh_cVi (As := [.long v10, .long (v10 &&& v12), .int x3, .int x4]) (rest := []) hfix (k_X7_fadedOut l D cI cJ cZ q I J A B v10 (v10 &&& v12) x3 x4 v14 hc15) (cwV 4 hts gX7_fades_X7_fadedOut rfl rfl rfl hdV_X7_fadedOut ⟨Nat.le_of_ble_eq_true rfl, Nat.le_of_ble_eq_true rfl⟩) hP hK [0, 1, 2, 3, 4, 5, 6, 7, 8, 9, 10, 11, 12, 13, 14, 15, 16, 17, 18, 19, 20, 21, 22] rfl 0 rfl rfl rfl hl.1 rfl (Nat.le_of_ble_eq_true rfl) dX7_fades_80 ⟨Nat.zero_le _, Nat.zero_le _⟩ ?_
                refine lv_bipush (v := 10) hx hb dX7_fades_83 (by decide) ?_
                refine lv_lload hx hb dX7_fades_85 (lv_at hl 0 rfl) ?_
                obtain ⟨v16, hc17, h⟩ := sh_b1_e h
                refine sh_cSi (As := [.long (v10 &&& v12)]) (rest := [.int 10, .int v14]) hfix (k_J13_bitCount_95d88 l D cI cJ cZ (v10 &&& v12) v16 hc17) (va_cwS 1 hts gX7_fades_J13_bitCount_95d88 rfl rfl rfl hdS_J13_bitCount_95d88 ⟨Nat.le_of_ble_eq_true rfl, Nat.le_of_ble_eq_true rfl⟩) hP hK [] rfl rfl hl.1 rfl (Nat.le_of_ble_eq_true rfl) dX7_fades_87 ⟨Nat.zero_le _, Nat.zero_le _⟩ ?_
                obtain ⟨v18, hc19, h⟩ := sh_b1_e h
                refine sh_cSi (As := [.int 10, .int v16]) (rest := [.int v14]) hfix (k_X7_power l D cI cJ cZ 10 v16 v18 hc19) (va_cwS 2 hts gX7_fades_X7_power rfl rfl rfl hdS_X7_power ⟨Nat.le_of_ble_eq_true rfl, Nat.le_of_ble_eq_true rfl⟩) hP hK [] rfl rfl hl.1 rfl (Nat.le_of_ble_eq_true rfl) dX7_fades_90 ⟨Nat.zero_le _, Nat.zero_le _⟩ ?_
                refine lv_iload hx hb dX7_fades_93 (lv_at hl 7 rfl) ?_
                obtain ⟨v20, hc21, h⟩ := sh_b1_e h
                refine sh_cSi (As := [.int v14, .int v18, .int x5]) (rest := []) hfix (k_X7_fraction l D cI cJ cZ v14 v18 x5 v20 hc21) (va_cwS 3 hts gX7_fades_X7_fraction rfl rfl rfl hdS_X7_fraction ⟨Nat.le_of_ble_eq_true rfl, Nat.le_of_ble_eq_true rfl⟩) hP hK [] rfl rfl hl.1 rfl (Nat.le_of_ble_eq_true rfl) dX7_fades_95 ⟨Nat.zero_le _, Nat.zero_le _⟩ ?_
                exact sh_roi hx hb hr hlocks hQ (Option.some.inj h) dX7_fades_98
              · rw [if_neg g9] at h
                refine lv_bipush (v := -2) hx hb dX7_fades_46 (by decide) ?_
                exact sh_roi hx hb hr hlocks hQ (Option.some.inj h) dX7_fades_48
  · rw [if_pos g3] at h
    refine lv_iconst (v := -1) hx hb dX7_fades_11 (by decide) ?_
    exact sh_roi hx hb hr hlocks hQ (Option.some.inj h) dX7_fades_12
theorem hdV_X7_seed : yX7_seed.cls = RX7 ∧ yX7_seed.cls ≠ "java/lang/invoke/MethodHandle" ∧ yX7_seed.cls ≠ "java/lang/invoke/VarHandle" ∧ (parseMethodDescriptor yX7_seed.desc).map (fun d => d.parameters.length) = some 1 := by decide +kernel
abbrev rmX7_seed : Room := { frames := 0, cells := 0, slots := 0, locals := 0 }
set_option maxHeartbeats 4000000 in
set_option maxRecDepth 100000 in
theorem k_X7_seed (l : Launch) (D : va_G) (cI cJ cZ : ClassId) (sz : Nat) (q : Nat → Nat) (I : Nat → Int32) (J : Nat → Int64) (A : Nat → Nat → Int32) (B : Nat → Nat → Int64) (x1 : Int64) (o : Int64) (oJ : Nat → Int64) (h : fX7_seed J x1 = some (o, oJ)) : Met l yX7_seed wsX7_seed rmX7_seed (sh_Pw D (sh_ty cI cJ cZ) sz (sh_w7 q cI cJ cZ I J A B) [.ref (q 0), .long x1]) (sh_Ql D (sh_ty cI cJ cZ) (va_A (sh_w7 q cI cJ cZ I J A B) sz) (sh_w7 q cI cJ cZ I oJ A B) o) 0 0 (va_A (sh_w7 q cI cJ cZ I J A B) sz) := by
  refine Met.ofW (cc := cX7_seed) (maxL := 5) (ret := (some .long)) (by decide) rfl ?_
  intro p e s m args below meth c s₁ hB hml hv
  obtain ⟨hargs, hsz, hP, hK, hD0⟩ := hv
  have hx := hB.exec
  have hb := hB.bytes
  have hr := hB.returns
  have hts := atoms_spec (ws := wsX7_seed) hB.pre
  have hown : s.vm.findClass RX7 = some m.cls := findClass_of_methodNamed hB.named
  have hlocks := hB.notSynchronized
  have hfix : CallFix p m c cX7_seed 5 s args wsX7_seed RX7 := ⟨hx, hb, hml, hown, hts⟩
  have hinX7 : ∀ w ∈ wsX70, w ∈ wsX7_seed := by decide +kernel
  have lk1 := hts (.fieldLink RX7 68 "ShadeTree" "seedNow" "J") (by decide +kernel)
  rw [show entryFrame m args 5 = entryFrame m ([.ref (q 0), .long x1] : List Value).toArray 5 by rw [hargs], lg_entry_eq]
  have hl := lv_entry ([.ref (q 0), .long x1]) (n := 5) (Nat.le_of_ble_eq_true rfl)
  generalize (lg_sl ([.ref (q 0), .long x1]) ++ List.replicate (5 - (lg_sl ([.ref (q 0), .long x1])).length) Slot.unset).toArray = ls at hl ⊢
  have hl : lv_has ls 5 [(0, .ref (q 0)), (1, .long x1)] := hl
  subst hsz
  have hD := hD0.self (sz := s.heap.size)
  generalize hAe : va_A (sh_w7 q cI cJ cZ I J A B) s.heap.size = Az at hD ⊢
  have hA : ∀ q : Nat, s.heap.size ≤ q → Az q := fun q h => by rw [← hAe]; exact Or.inr h
  have hS : va_S Az s.heap s.heap [] := va_S.rf
  generalize hQ : MQ below (sh_Ql D (sh_ty cI cJ cZ) Az (sh_w7 q cI cJ cZ I oJ A B) o) args s 0 0 Az = Q
  unfold fX7_seed at h
  refine lv_aload_n hx hb dX7_seed_0 rfl (lv_at hl 0 rfl) ?_
  refine va_get (ci := 7) (v := .long (J 3)) (C := RX7) (T := TX7) (N := 10) hx hb hts hinX7 hown hK hP 0 rfl rfl 9 (by decide) lk1 (fun _ h9 => h9) rfl dX7_seed_1 ?_
  refine lv_lstore_n (lv' := [(3, .long (J 3)), (0, .ref (q 0)), (1, .long x1)]) hx hb dX7_seed_4 rfl hl (by decide) rfl (fun ls hl => ?_)
  refine lv_aload_n hx hb dX7_seed_5 rfl (lv_at hl 1 rfl) ?_
  refine lv_lload_n hx hb dX7_seed_6 rfl (lv_at hl 2 rfl) ?_
  refine sh_put (wn := (sh_w7 q cI cJ cZ I (vp_updL J 3 x1) A B)) (ci := 7) (v := .long x1) (ty := .long) (C := RX7) (T := TX7) (N := 10) hx hb hts hinX7 tyX7 tyX7_ok nmX7 hown hK hP hD hS 0 rfl rfl 9 (by decide) lk1 (fun _ h9 => h9) rfl (by decide +kernel) rfl rfl (Nat.le_of_ble_eq_true rfl) rfl dX7_seed_7 (fun H locs hP hD hS => ?_)
  refine lv_lload_n hx hb dX7_seed_10 rfl (lv_at hl 0 rfl) ?_
  cases h
  exact sh_rwl hx hb hr hlocks hQ hK hP hD hS dX7_seed_11
theorem hdV_X7_change : yX7_change.cls = RX7 ∧ yX7_change.cls ≠ "java/lang/invoke/MethodHandle" ∧ yX7_change.cls ≠ "java/lang/invoke/VarHandle" ∧ (parseMethodDescriptor yX7_change.desc).map (fun d => d.parameters.length) = some 1 := by decide +kernel
abbrev rmX7_change : Room := { frames := 5, cells := 0, slots := 0, locals := 127 }
set_option maxHeartbeats 4000000 in
set_option maxRecDepth 100000 in
theorem k_X7_change (l : Launch) (D : va_G) (cI cJ cZ : ClassId) (sz : Nat) (q : Nat → Nat) (I : Nat → Int32) (J : Nat → Int64) (A : Nat → Nat → Int32) (B : Nat → Nat → Int64) (x1 : Int64) (oB : Nat → Nat → Int64) (h : fX7_change I J B x1 = some oB) : Met l yX7_change wsX7_change rmX7_change (sh_Pw D (sh_ty cI cJ cZ) sz (sh_w7 q cI cJ cZ I J A B) [.ref (q 0), .long x1]) (sh_Qv D (sh_ty cI cJ cZ) (va_A (sh_w7 q cI cJ cZ I J A B) sz) (sh_w7 q cI cJ cZ I J A oB)) 0 0 (va_A (sh_w7 q cI cJ cZ I J A B) sz) := by
  refine Met.ofW (cc := cX7_change) (maxL := 6) (ret := none) (by decide) rfl ?_
  intro p e s m args below meth c s₁ hB hml hv
  obtain ⟨hargs, hsz, hP, hK, hD0⟩ := hv
  have hx := hB.exec
  have hb := hB.bytes
  have hr := hB.returns
  have hts := atoms_spec (ws := wsX7_change) hB.pre
  have hown : s.vm.findClass RX7 = some m.cls := findClass_of_methodNamed hB.named
  have hlocks := hB.notSynchronized
  have hfix : CallFix p m c cX7_change 6 s args wsX7_change RX7 := ⟨hx, hb, hml, hown, hts⟩
  have hinX7 : ∀ w ∈ wsX70, w ∈ wsX7_change := by decide +kernel
  have lk1 := hts (.fieldLink RX7 19 "ShadeTree" "grid" "LShadeTree$Grid;") (by decide +kernel)
  have lk2 := hts (.constantLong RX7 288 (64)) (by decide +kernel)
  have lk3 := hts (.constantLong RX7 290 (12)) (by decide +kernel)
  have lk4 := hts (.fieldLink RX7 41 "ShadeTree" "trial" "LShadeTree$Shades;") (by decide +kernel)
  rw [show entryFrame m args 6 = entryFrame m ([.ref (q 0), .long x1] : List Value).toArray 6 by rw [hargs], lg_entry_eq]
  have hl := lv_entry ([.ref (q 0), .long x1]) (n := 6) (Nat.le_of_ble_eq_true rfl)
  generalize (lg_sl ([.ref (q 0), .long x1]) ++ List.replicate (6 - (lg_sl ([.ref (q 0), .long x1])).length) Slot.unset).toArray = ls at hl ⊢
  have hl : lv_has ls 6 [(0, .ref (q 0)), (1, .long x1)] := hl
  subst hsz
  have hD := hD0.self (sz := s.heap.size)
  generalize hAe : va_A (sh_w7 q cI cJ cZ I J A B) s.heap.size = Az at hD ⊢
  have hA : ∀ q : Nat, s.heap.size ≤ q → Az q := fun q h => by rw [← hAe]; exact Or.inr h
  have hS : va_S Az s.heap s.heap [] := va_S.rf
  generalize hQ : MQ below (sh_Qv D (sh_ty cI cJ cZ) Az (sh_w7 q cI cJ cZ I J A oB)) args s 0 0 Az = Q
  unfold fX7_change at h
  refine lv_aload_n hx hb dX7_change_0 rfl (lv_at hl 0 rfl) ?_
  refine va_get (ci := 7) (v := .ref (q 3)) (C := RX7) (T := TX7) (N := 10) hx hb hts hinX7 hown hK hP 0 rfl rfl 1 (by decide) lk1 (fun _ h9 => h9) rfl dX7_change_1 ?_
  obtain ⟨v1, hc2, h⟩ := sh_b1_e h
  refine sh_cVi (As := []) (rest := []) hfix (k_X1_size l D cI cJ cZ (q 3) (I 1) (I 2) (I 3) (J 0) (J 1) (J 2) v1 hc2) (cwV 0 hts gX7_change_X1_size rfl rfl rfl hdV_X1_size ⟨Nat.le_of_ble_eq_true rfl, Nat.le_of_ble_eq_true rfl⟩) hP hK [3] rfl 3 rfl rfl rfl hl.1 rfl (Nat.le_of_ble_eq_true rfl) dX7_change_4 ⟨Nat.zero_le _, Nat.zero_le _⟩ ?_
  refine lv_istore_n (lv' := [(3, .int v1), (0, .ref (q 0)), (1, .long x1)]) hx hb dX7_change_7 rfl hl (by decide) rfl (fun ls hl => ?_)
  refine lv_iload_n hx hb dX7_change_8 rfl (lv_at hl 0 rfl) ?_
  refine lv_iconst (v := 1) hx hb dX7_change_9 (by decide) ?_
  refine lv_icmp_ge (tgt := 14) hx hb dX7_change_10 (by decide) (fun g3 => ?_) (fun g3 => ?_)
  · rw [if_pos g3] at h
    refine lv_lload_n hx hb dX7_change_14 rfl (lv_at hl 2 rfl) ?_
    refine lv_iload_n hx hb dX7_change_15 rfl (lv_at hl 0 rfl) ?_
    refine lv_i2l (v := (Int32.toInt64 v1)) hx hb dX7_change_16 rfl ?_
    obtain ⟨v4, hcv4, h⟩ := sh_b1_e h
    refine sh_lrem hx hb (sh_remL_e hcv4) dX7_change_17 ?_
    refine lv_l2i (v := (Int64.toInt32 v4)) hx hb dX7_change_18 rfl ?_
    refine lv_istore (lv' := [(4, .int (Int64.toInt32 v4)), (3, .int v1), (0, .ref (q 0)), (1, .long x1)]) hx hb dX7_change_19 hl (by decide) rfl (fun ls hl => ?_)
    refine lv_lload_n hx hb dX7_change_21 rfl (lv_at hl 3 rfl) ?_
    refine lv_ldc2 hx hb hown lk2 dX7_change_22 ?_
    refine lv_ldiv hx hb dX7_change_25 (by decide) ?_
    refine lv_ldc2 hx hb hown lk3 dX7_change_26 ?_
    refine lv_lrem hx hb dX7_change_29 (by decide) ?_
    refine lv_l2i (v := (Int64.toInt32 ((x1 / 64) - (x1 / 64) / 12 * 12))) hx hb dX7_change_30 rfl ?_
    refine lv_istore (lv' := [(5, .int (Int64.toInt32 ((x1 / 64) - (x1 / 64) / 12 * 12))), (4, .int (Int64.toInt32 v4)), (3, .int v1), (0, .ref (q 0)), (1, .long x1)]) hx hb dX7_change_31 hl (by decide) rfl (fun ls hl => ?_)
    refine lv_iload hx hb dX7_change_33 (lv_at hl 0 rfl) ?_
    refine lv_bipush (v := 9) hx hb dX7_change_35 (by decide) ?_
    refine lv_icmp_gt (tgt := 54) hx hb dX7_change_37 (by decide) (fun g5 => ?_) (fun g5 => ?_)
    · rw [if_pos g5] at h
      refine lv_iload hx hb dX7_change_54 (lv_at hl 0 rfl) ?_
      refine lv_bipush (v := 10) hx hb dX7_change_56 (by decide) ?_
      refine lv_icmp_ne (tgt := 71) hx hb dX7_change_58 (by decide) (fun g6 => ?_) (fun g6 => ?_)
      · rw [if_neg g6] at h
        refine lv_aload_n hx hb dX7_change_71 rfl (lv_at hl 3 rfl) ?_
        refine va_get (ci := 7) (v := .ref (q 9)) (C := RX7) (T := TX7) (N := 10) hx hb hts hinX7 hown hK hP 0 rfl rfl 4 (by decide) lk4 (fun _ h9 => h9) rfl dX7_change_72 ?_
        refine lv_iconst (v := 0) hx hb dX7_change_75 (by decide) ?_
        refine lv_iconst (v := 2) hx hb dX7_change_76 (by decide) ?_
        obtain ⟨v7, u8, hc9, h⟩ := sh_b2_e h
        refine sh_wVi (wn := (sh_w7 q cI cJ cZ I J A (va_up B 1 u8))) (As := [.int 0, .int 2]) (rest := []) hfix (k_X2_thin l D cI cJ cZ _ (q 3) (q 9) (q 10) (I 1) (I 2) (I 3) (J 0) (J 1) (J 2) (B 1) 0 2 v7 u8 hc9) (cwV 2 hts gX7_change_X2_thin rfl rfl rfl hdV_X2_thin ⟨Nat.le_of_ble_eq_true rfl, Nat.le_of_ble_eq_true rfl⟩) hP hK hD hS hA [9, 10, 3] [0, 1, 2, 4, 5, 6, 7, 8, 11, 12, 13, 14, 15, 16, 17, 18, 19, 20, 21, 22] [0, 1, 2, 22, 3, 4, 5, 6, 7, 20, 21, 8, 9, 10, 11, 12, 13, 14, 15, 16, 17, 18, 19] rfl rfl rfl rfl rfl rfl rfl 9 rfl rfl rfl hl.1 rfl (Nat.le_of_ble_eq_true rfl) dX7_change_77 ⟨Nat.zero_le _, Nat.zero_le _⟩ (fun H locs hP hD hS => ?_)
        refine lv_pop hx hb dX7_change_80 rfl ?_
        cases h
        exact sh_rwv hx hb hr hlocks hQ hK hP hD hS dX7_change_81
      · rw [if_pos g6] at h
        refine lv_aload_n hx hb dX7_change_61 rfl (lv_at hl 3 rfl) ?_
        refine va_get (ci := 7) (v := .ref (q 9)) (C := RX7) (T := TX7) (N := 10) hx hb hts hinX7 hown hK hP 0 rfl rfl 4 (by decide) lk4 (fun _ h9 => h9) rfl dX7_change_62 ?_
        obtain ⟨u10, hc11, h⟩ := sh_b1_e h
        refine sh_wVv (wn := (sh_w7 q cI cJ cZ I J A (va_up B 1 u10))) (As := []) (rest := []) hfix (k_X2_turn l D cI cJ cZ _ (q 3) (q 9) (q 10) (I 1) (I 2) (I 3) (J 0) (J 1) (J 2) (B 1) u10 hc11) (cwV 0 hts gX7_change_X2_turn rfl rfl rfl hdV_X2_turn ⟨Nat.le_of_ble_eq_true rfl, Nat.le_of_ble_eq_true rfl⟩) hP hK hD hS hA [9, 10, 3] [0, 1, 2, 4, 5, 6, 7, 8, 11, 12, 13, 14, 15, 16, 17, 18, 19, 20, 21, 22] [0, 1, 2, 22, 3, 4, 5, 6, 7, 20, 21, 8, 9, 10, 11, 12, 13, 14, 15, 16, 17, 18, 19] rfl rfl rfl rfl rfl rfl rfl 9 rfl rfl rfl hl.1 rfl (Nat.le_of_ble_eq_true rfl) dX7_change_65 ⟨Nat.zero_le _, Nat.zero_le _⟩ (fun H locs hP hD hS => ?_)
        refine lv_goto (tgt := 81) hx hb dX7_change_68 (by decide) ?_
        cases h
        exact sh_rwv hx hb hr hlocks hQ hK hP hD hS dX7_change_81
    · rw [if_neg g5] at h
      refine lv_aload_n hx hb dX7_change_40 rfl (lv_at hl 3 rfl) ?_
      refine va_get (ci := 7) (v := .ref (q 9)) (C := RX7) (T := TX7) (N := 10) hx hb hts hinX7 hown hK hP 0 rfl rfl 4 (by decide) lk4 (fun _ h9 => h9) rfl dX7_change_41 ?_
      refine lv_iload hx hb dX7_change_44 (lv_at hl 1 rfl) ?_
      refine lv_iload hx hb dX7_change_46 (lv_at hl 0 rfl) ?_
      obtain ⟨u12, hc13, h⟩ := sh_b1_e h
      refine sh_wVv (wn := (sh_w7 q cI cJ cZ I J A (va_up B 1 u12))) (As := [.int (Int64.toInt32 v4), .int (Int64.toInt32 ((x1 / 64) - (x1 / 64) / 12 * 12))]) (rest := []) hfix (k_X2_set l D cI cJ cZ _ (q 3) (q 9) (q 10) (I 1) (I 2) (I 3) (J 0) (J 1) (J 2) (B 1) (Int64.toInt32 v4) (Int64.toInt32 ((x1 / 64) - (x1 / 64) / 12 * 12)) u12 hc13) (cwV 2 hts gX7_change_X2_set rfl rfl rfl hdV_X2_set ⟨Nat.le_of_ble_eq_true rfl, Nat.le_of_ble_eq_true rfl⟩) hP hK hD hS hA [9, 10, 3] [0, 1, 2, 4, 5, 6, 7, 8, 11, 12, 13, 14, 15, 16, 17, 18, 19, 20, 21, 22] [0, 1, 2, 22, 3, 4, 5, 6, 7, 20, 21, 8, 9, 10, 11, 12, 13, 14, 15, 16, 17, 18, 19] rfl rfl rfl rfl rfl rfl rfl 9 rfl rfl rfl hl.1 rfl (Nat.le_of_ble_eq_true rfl) dX7_change_48 ⟨Nat.zero_le _, Nat.zero_le _⟩ (fun H locs hP hD hS => ?_)
      refine lv_goto (tgt := 81) hx hb dX7_change_51 (by decide) ?_
      cases h
      exact sh_rwv hx hb hr hlocks hQ hK hP hD hS dX7_change_81
  · rw [if_neg g3] at h
    cases h
    exact sh_rwv hx hb hr hlocks hQ hK hP hD hS dX7_change_13
theorem hdV_X7_drawn : yX7_drawn.cls = RX7 ∧ yX7_drawn.cls ≠ "java/lang/invoke/MethodHandle" ∧ yX7_drawn.cls ≠ "java/lang/invoke/VarHandle" ∧ (parseMethodDescriptor yX7_drawn.desc).map (fun d => d.parameters.length) = some 1 := by decide +kernel
abbrev rmX7_drawn : Room := { frames := 6, cells := 0, slots := 0, locals := 152 }
set_option maxHeartbeats 4000000 in
set_option maxRecDepth 100000 in
theorem k_X7_drawn (l : Launch) (D : va_G) (cI cJ cZ : ClassId) (sz : Nat) (q : Nat → Nat) (I : Nat → Int32) (J : Nat → Int64) (A : Nat → Nat → Int32) (B : Nat → Nat → Int64) (x1 : Int32) (o : Int32) (oI : Nat → Int32) (oJ : Nat → Int64) (oA : Nat → Nat → Int32) (oB : Nat → Nat → Int64) (h : fX7_drawn I J A B x1 = some (o, oI, oJ, oA, oB)) : Met l yX7_drawn wsX7_drawn rmX7_drawn (sh_Pw D (sh_ty cI cJ cZ) sz (sh_w7 q cI cJ cZ I J A B) [.ref (q 0), .int x1]) (sh_Qi D (sh_ty cI cJ cZ) (va_A (sh_w7 q cI cJ cZ I J A B) sz) (sh_w7 q cI cJ cZ oI oJ oA oB) o) 0 0 (va_A (sh_w7 q cI cJ cZ I J A B) sz) := by
  refine Met.ofW (cc := cX7_drawn) (maxL := 4) (ret := (some .int)) (by decide) rfl ?_
  intro p e s m args below meth c s₁ hB hml hv
  obtain ⟨hargs, hsz, hP, hK, hD0⟩ := hv
  have hx := hB.exec
  have hb := hB.bytes
  have hr := hB.returns
  have hts := atoms_spec (ws := wsX7_drawn) hB.pre
  have hown : s.vm.findClass RX7 = some m.cls := findClass_of_methodNamed hB.named
  have hlocks := hB.notSynchronized
  have hfix : CallFix p m c cX7_drawn 4 s args wsX7_drawn RX7 := ⟨hx, hb, hml, hown, hts⟩
  have hinX7 : ∀ w ∈ wsX70, w ∈ wsX7_drawn := by decide +kernel
  have lk1 := hts (.fieldLink RX7 41 "ShadeTree" "trial" "LShadeTree$Shades;") (by decide +kernel)
  have lk2 := hts (.fieldLink RX7 28 "ShadeTree" "now" "LShadeTree$Shades;") (by decide +kernel)
  have lk3 := hts (.fieldLink RX7 68 "ShadeTree" "seedNow" "J") (by decide +kernel)
  have lk4 := hts (.constantLong RX7 257 (6364136223846793005)) (by decide +kernel)
  have lk5 := hts (.constantLong RX7 259 (1442695040888963407)) (by decide +kernel)
  have lk6 := hts (.fieldLink RX7 44 "ShadeTree" "trialTree" "LShadeTree$Tree;") (by decide +kernel)
  rw [show entryFrame m args 4 = entryFrame m ([.ref (q 0), .int x1] : List Value).toArray 4 by rw [hargs], lg_entry_eq]
  have hl := lv_entry ([.ref (q 0), .int x1]) (n := 4) (Nat.le_of_ble_eq_true rfl)
  generalize (lg_sl ([.ref (q 0), .int x1]) ++ List.replicate (4 - (lg_sl ([.ref (q 0), .int x1])).length) Slot.unset).toArray = ls at hl ⊢
  have hl : lv_has ls 4 [(0, .ref (q 0)), (1, .int x1)] := hl
  subst hsz
  have hD := hD0.self (sz := s.heap.size)
  generalize hAe : va_A (sh_w7 q cI cJ cZ I J A B) s.heap.size = Az at hD ⊢
  have hA : ∀ q : Nat, s.heap.size ≤ q → Az q := fun q h => by rw [← hAe]; exact Or.inr h
  have hS : va_S Az s.heap s.heap [] := va_S.rf
  generalize hQ : MQ below (sh_Qi D (sh_ty cI cJ cZ) Az (sh_w7 q cI cJ cZ oI oJ oA oB) o) args s 0 0 Az = Q
  unfold fX7_drawn at h
  refine lv_iload_n hx hb dX7_drawn_0 rfl (lv_at hl 1 rfl) ?_
  refine lv_iconst (v := 1) hx hb dX7_drawn_1 (by decide) ?_
  refine lv_icmp_lt (tgt := 11) hx hb dX7_drawn_2 (by decide) (fun g1 => ?_) (fun g1 => ?_)
  · rw [if_pos g1] at h
    refine lv_bipush (v := -2) hx hb dX7_drawn_11 (by decide) ?_
    cases h
    exact sh_rwi hx hb hr hlocks hQ hK hP hD hS dX7_drawn_13
  · rw [if_neg g1] at h
    refine lv_iload_n hx hb dX7_drawn_5 rfl (lv_at hl 1 rfl) ?_
    refine lv_bipush (v := 20) hx hb dX7_drawn_6 (by decide) ?_
    refine lv_icmp_le (tgt := 14) hx hb dX7_drawn_8 (by decide) (fun g2 => ?_) (fun g2 => ?_)
    · rw [if_pos g2] at h
      refine lv_aload_n hx hb dX7_drawn_14 rfl (lv_at hl 0 rfl) ?_
      refine va_get (ci := 7) (v := .ref (q 9)) (C := RX7) (T := TX7) (N := 10) hx hb hts hinX7 hown hK hP 0 rfl rfl 4 (by decide) lk1 (fun _ h9 => h9) rfl dX7_drawn_15 ?_
      refine lv_aload_n hx hb dX7_drawn_18 rfl (lv_at hl 0 rfl) ?_
      refine va_get (ci := 7) (v := .ref (q 4)) (C := RX7) (T := TX7) (N := 10) hx hb hts hinX7 hown hK hP 0 rfl rfl 2 (by decide) lk2 (fun _ h9 => h9) rfl dX7_drawn_19 ?_
      obtain ⟨u3, hc4, h⟩ := sh_b1_e h
      refine sh_wVv (wn := (sh_w7 q cI cJ cZ I J A (va_up B 1 u3))) (As := [.ref (q 4)]) (rest := []) hfix (k_X2_copy l D cI cJ cZ _ (q 3) (q 9) (q 10) (q 4) (q 5) (B 1) (B 0) u3 hc4) (cwV 1 hts gX7_drawn_X2_copy rfl rfl rfl hdV_X2_copy ⟨Nat.le_of_ble_eq_true rfl, Nat.le_of_ble_eq_true rfl⟩) hP hK hD hS hA [9, 10, 4, 5] [0, 1, 2, 3, 6, 7, 8, 11, 12, 13, 14, 15, 16, 17, 18, 19, 20, 21, 22] [0, 1, 2, 3, 21, 22, 4, 5, 6, 19, 20, 7, 8, 9, 10, 11, 12, 13, 14, 15, 16, 17, 18] rfl rfl rfl rfl rfl rfl rfl 9 rfl rfl rfl hl.1 rfl (Nat.le_of_ble_eq_true rfl) dX7_drawn_22 ⟨Nat.zero_le _, Nat.zero_le _⟩ (fun H locs hP hD hS => ?_)
      refine lv_iconst (v := 0) hx hb dX7_drawn_25 (by decide) ?_
      refine lv_istore_n (lv' := [(2, .int 0), (0, .ref (q 0)), (1, .int x1)]) hx hb dX7_drawn_26 rfl hl (by decide) rfl (fun ls hl => ?_)
      refine lv_iconst (v := 0) hx hb dX7_drawn_27 (by decide) ?_
      refine lv_istore_n (lv' := [(3, .int 0), (2, .int 0), (0, .ref (q 0)), (1, .int x1)]) hx hb dX7_drawn_28 rfl hl (by decide) rfl (fun ls hl => ?_)
      have LP13 : ∀ (n : Nat) (x1 : Int32) (x2 : Int32) (x3 : Int32) (I : Nat → Int32) (J : Nat → Int64) (A : Nat → Nat → Int32) (B : Nat → Nat → Int64) (ow2 : Int32) (oI : (Nat → Int32)) (oJ : (Nat → Int64)) (oA : (Nat → Nat → Int32)) (oB : (Nat → Nat → Int64)) (H : Heap) (locs : List Loc) (ls : Array Slot), fX7_drawn_L29 n x1 x2 x3 I J A B = some (ow2, oI, oJ, oA, oB) → lv_has ls 4 [(0, .ref (q 0)), (1, .int x1), (2, .int x2), (3, .int x3)] → va_P D vwCl (sh_w7 q cI cJ cZ I J A B) H → va_D Az (sh_w7 q cI cJ cZ I J A B) → va_S Az s.heap H locs → (∀ (H : Heap) (locs : List Loc) (ls : Array Slot), lv_has ls 4 [(2, .int ow2)] → va_P D vwCl (sh_w7 q cI cJ cZ oI oJ oA oB) H → va_D Az (sh_w7 q cI cJ cZ oI oJ oA oB) → va_S Az s.heap H locs → W p l e (headSpec wsX7_drawn rmX7_drawn).room s m args below meth c H locs 0 0 Q (F0 m 77 ls [])) → W p l e (headSpec wsX7_drawn rmX7_drawn).room s m args below meth c H locs 0 0 Q (F0 m 29 ls []) := by
        intro n
        induction n with
        | zero =>
          intro x1 x2 x3 I J A B ow2 oI oJ oA oB H locs ls h hl hP hD hS hk
          exact nomatch ((fX7_drawn_L29_z x1 x2 x3 I J A B).symm.trans h)
        | succ n ih =>
          intro x1 x2 x3 I J A B ow2 oI oJ oA oB H locs ls h hl hP hD hS hk
          rw [fX7_drawn_L29_s] at h
          refine lv_iload_n hx hb dX7_drawn_29 rfl (lv_at hl 3 rfl) ?_
          refine lv_iload_n hx hb dX7_drawn_30 rfl (lv_at hl 1 rfl) ?_
          refine lv_icmp_ge (tgt := 77) hx hb dX7_drawn_31 (by decide) (fun g5 => ?_) (fun g5 => ?_)
          · rw [if_pos g5] at h
            cases h
            exact hk _ _ ls (lv_sub hl [2] rfl) hP hD hS
          · rw [if_neg g5] at h
            refine lv_aload_n hx hb dX7_drawn_34 rfl (lv_at hl 0 rfl) ?_
            refine lv_aload_n hx hb dX7_drawn_35 rfl (lv_at hl 0 rfl) ?_
            refine va_get (ci := 7) (v := .long (J 3)) (C := RX7) (T := TX7) (N := 10) hx hb hts hinX7 hown hK hP 0 rfl rfl 9 (by decide) lk3 (fun _ h9 => h9) rfl dX7_drawn_36 ?_
            refine lv_ldc2 hx hb hown lk4 dX7_drawn_39 ?_
            refine lv_lmul hx hb dX7_drawn_42 ?_
            refine lv_ldc2 hx hb hown lk5 dX7_drawn_43 ?_
            refine lv_ladd hx hb dX7_drawn_46 ?_
            refine sh_put (wn := (sh_w7 q cI cJ cZ I (vp_updL J 3 (((J 3) * 6364136223846793005) + 1442695040888963407)) A B)) (ci := 7) (v := .long (((J 3) * 6364136223846793005) + 1442695040888963407)) (ty := .long) (C := RX7) (T := TX7) (N := 10) hx hb hts hinX7 tyX7 tyX7_ok nmX7 hown hK hP hD hS 0 rfl rfl 9 (by decide) lk3 (fun _ h9 => h9) rfl (by decide +kernel) rfl rfl (Nat.le_of_ble_eq_true rfl) rfl dX7_drawn_47 (fun H locs hP hD hS => ?_)
            refine lv_aload_n hx hb dX7_drawn_50 rfl (lv_at hl 0 rfl) ?_
            refine lv_aload_n hx hb dX7_drawn_51 rfl (lv_at hl 0 rfl) ?_
            refine va_get (ci := 7) (v := .long (((J 3) * 6364136223846793005) + 1442695040888963407)) (C := RX7) (T := TX7) (N := 10) hx hb hts hinX7 hown hK hP 0 rfl rfl 9 (by decide) lk3 (fun _ h9 => h9) rfl dX7_drawn_52 ?_
            refine lv_bipush (v := 33) hx hb dX7_drawn_55 (by decide) ?_
            refine lv_lushr (v := (sh_lsr (((J 3) * 6364136223846793005) + 1442695040888963407) 33)) hx hb dX7_drawn_57 rfl ?_
            obtain ⟨u6, hc7, h⟩ := sh_b1_e h
            refine sh_wVv (wn := (sh_w7 q cI cJ cZ I (vp_updL J 3 (((J 3) * 6364136223846793005) + 1442695040888963407)) A u6)) (As := [.long (sh_lsr (((J 3) * 6364136223846793005) + 1442695040888963407) 33)]) (rest := []) hfix (k_X7_change l D cI cJ cZ _ q I (vp_updL J 3 (((J 3) * 6364136223846793005) + 1442695040888963407)) A B (sh_lsr (((J 3) * 6364136223846793005) + 1442695040888963407) 33) u6 hc7) (cwV 1 hts gX7_drawn_X7_change rfl rfl rfl hdV_X7_change ⟨Nat.le_of_ble_eq_true rfl, Nat.le_of_ble_eq_true rfl⟩) hP hK hD hS hA [0, 1, 2, 3, 4, 5, 6, 7, 8, 9, 10, 11, 12, 13, 14, 15, 16, 17, 18, 19, 20, 21, 22] [] [0, 1, 2, 3, 4, 5, 6, 7, 8, 9, 10, 11, 12, 13, 14, 15, 16, 17, 18, 19, 20, 21, 22] rfl rfl rfl rfl rfl rfl rfl 0 rfl rfl rfl hl.1 rfl (Nat.le_of_ble_eq_true rfl) dX7_drawn_58 ⟨Nat.zero_le _, Nat.zero_le _⟩ (fun H locs hP hD hS => ?_)
            refine lv_iload_n hx hb dX7_drawn_61 rfl (lv_at hl 2 rfl) ?_
            refine lv_aload_n hx hb dX7_drawn_62 rfl (lv_at hl 0 rfl) ?_
            refine va_get (ci := 7) (v := .ref (q 11)) (C := RX7) (T := TX7) (N := 10) hx hb hts hinX7 hown hK hP 0 rfl rfl 5 (by decide) lk6 (fun _ h9 => h9) rfl dX7_drawn_63 ?_
            obtain ⟨v8, u9, u10, u11, hc12, h⟩ := sh_b4_e h
            refine sh_wVi (wn := (sh_w7 q cI cJ cZ (upd I 5 u11) (vp_updL J 3 (((J 3) * 6364136223846793005) + 1442695040888963407)) (va_up A 2 u10) (va_up u6 3 u9))) (As := []) (rest := [.int x2]) hfix (k_X6_countNodes l D cI cJ cZ _ (q 3) (q 9) (q 10) (q 11) (q 12) (q 13) (I 1) (I 2) (I 3) (J 0) (J 1) (J 2) (u6 1) (u6 3) (A 2) (I 5) v8 u9 u10 u11 hc12) (cwV 0 hts gX7_drawn_X6_countNodes rfl rfl rfl hdV_X6_countNodes ⟨Nat.le_of_ble_eq_true rfl, Nat.le_of_ble_eq_true rfl⟩) hP hK hD hS hA [11, 12, 13, 9, 10, 3] [0, 1, 2, 4, 5, 6, 7, 8, 14, 15, 16, 17, 18, 19, 20, 21, 22] [0, 1, 2, 22, 3, 4, 5, 6, 7, 20, 21, 17, 18, 19, 8, 9, 10, 11, 12, 13, 14, 15, 16] rfl rfl rfl rfl rfl rfl rfl 11 rfl rfl rfl hl.1 rfl (Nat.le_of_ble_eq_true rfl) dX7_drawn_66 ⟨Nat.zero_le _, Nat.zero_le _⟩ (fun H locs hP hD hS => ?_)
            refine lv_iadd hx hb dX7_drawn_69 ?_
            refine lv_istore_n (lv' := [(2, .int (x2 + v8)), (0, .ref (q 0)), (1, .int x1), (3, .int x3)]) hx hb dX7_drawn_70 rfl hl (by decide) rfl (fun ls hl => ?_)
            refine lv_iinc (v := (x3 + 1)) (lv' := [(3, .int (x3 + 1)), (2, .int (x2 + v8)), (0, .ref (q 0)), (1, .int x1)]) hx hb dX7_drawn_71 hl (k := 3) rfl rfl (by decide) rfl (fun ls hl => ?_)
            refine lv_goto (tgt := 29) hx hb dX7_drawn_74 (by decide) ?_
            exact ih x1 (x2 + v8) (x3 + 1) (upd I 5 u11) (vp_updL J 3 (((J 3) * 6364136223846793005) + 1442695040888963407)) (va_up A 2 u10) (va_up u6 3 u9) ow2 oI oJ oA oB _ _ ls h (lv_sub hl [2, 3, 1, 0] rfl) hP hD hS hk
      obtain ⟨w14, w15, w16, w17, w18, hc19, h⟩ := sh_b5_e h
      refine LP13 sh_fu x1 0 0 I J A (va_up B 1 u3) w14 w15 w16 w17 w18 _ _ ls hc19 (lv_sub hl [2, 3, 1, 0] rfl) hP hD hS (fun H locs ls hl hP hD hS => ?_)
      refine lv_iload_n hx hb dX7_drawn_77 rfl (lv_at hl 0 rfl) ?_
      cases h
      exact sh_rwi hx hb hr hlocks hQ hK hP hD hS dX7_drawn_78
    · rw [if_neg g2] at h
      refine lv_bipush (v := -2) hx hb dX7_drawn_11 (by decide) ?_
      cases h
      exact sh_rwi hx hb hr hlocks hQ hK hP hD hS dX7_drawn_13
theorem hdV_X7_keep : yX7_keep.cls = RX7 ∧ yX7_keep.cls ≠ "java/lang/invoke/MethodHandle" ∧ yX7_keep.cls ≠ "java/lang/invoke/VarHandle" ∧ (parseMethodDescriptor yX7_keep.desc).map (fun d => d.parameters.length) = some 1 := by decide +kernel
abbrev rmX7_keep : Room := { frames := 5, cells := 0, slots := 0, locals := 125 }
set_option maxHeartbeats 4000000 in
set_option maxRecDepth 100000 in
theorem k_X7_keep (l : Launch) (D : va_G) (cI cJ cZ : ClassId) (sz : Nat) (q : Nat → Nat) (I : Nat → Int32) (J : Nat → Int64) (A : Nat → Nat → Int32) (B : Nat → Nat → Int64) (x1 : Int32) (o : Int32) (oI : Nat → Int32) (oA : Nat → Nat → Int32) (oB : Nat → Nat → Int64) (h : fX7_keep I J A B x1 = some (o, oI, oA, oB)) : Met l yX7_keep wsX7_keep rmX7_keep (sh_Pw D (sh_ty cI cJ cZ) sz (sh_w7 q cI cJ cZ I J A B) [.ref (q 0), .int x1]) (sh_Qi D (sh_ty cI cJ cZ) (va_A (sh_w7 q cI cJ cZ I J A B) sz) (sh_w7 q cI cJ cZ oI J oA oB) o) 0 0 (va_A (sh_w7 q cI cJ cZ I J A B) sz) := by
  refine Met.ofW (cc := cX7_keep) (maxL := 2) (ret := (some .int)) (by decide) rfl ?_
  intro p e s m args below meth c s₁ hB hml hv
  obtain ⟨hargs, hsz, hP, hK, hD0⟩ := hv
  have hx := hB.exec
  have hb := hB.bytes
  have hr := hB.returns
  have hts := atoms_spec (ws := wsX7_keep) hB.pre
  have hown : s.vm.findClass RX7 = some m.cls := findClass_of_methodNamed hB.named
  have hlocks := hB.notSynchronized
  have hfix : CallFix p m c cX7_keep 2 s args wsX7_keep RX7 := ⟨hx, hb, hml, hown, hts⟩
  have hinX7 : ∀ w ∈ wsX70, w ∈ wsX7_keep := by decide +kernel
  have lk1 := hts (.fieldLink RX7 57 "ShadeTree" "slots" "LShadeTree$Slots;") (by decide +kernel)
  have lk2 := hts (.fieldLink RX7 28 "ShadeTree" "now" "LShadeTree$Shades;") (by decide +kernel)
  have lk3 := hts (.fieldLink RX7 37 "ShadeTree" "tree" "LShadeTree$Tree;") (by decide +kernel)
  rw [show entryFrame m args 2 = entryFrame m ([.ref (q 0), .int x1] : List Value).toArray 2 by rw [hargs], lg_entry_eq]
  have hl := lv_entry ([.ref (q 0), .int x1]) (n := 2) (Nat.le_of_ble_eq_true rfl)
  generalize (lg_sl ([.ref (q 0), .int x1]) ++ List.replicate (2 - (lg_sl ([.ref (q 0), .int x1])).length) Slot.unset).toArray = ls at hl ⊢
  have hl : lv_has ls 2 [(0, .ref (q 0)), (1, .int x1)] := hl
  subst hsz
  have hD := hD0.self (sz := s.heap.size)
  generalize hAe : va_A (sh_w7 q cI cJ cZ I J A B) s.heap.size = Az at hD ⊢
  have hA : ∀ q : Nat, s.heap.size ≤ q → Az q := fun q h => by rw [← hAe]; exact Or.inr h
  have hS : va_S Az s.heap s.heap [] := va_S.rf
  generalize hQ : MQ below (sh_Qi D (sh_ty cI cJ cZ) Az (sh_w7 q cI cJ cZ oI J oA oB) o) args s 0 0 Az = Q
  unfold fX7_keep at h
  refine lv_aload_n hx hb dX7_keep_0 rfl (lv_at hl 0 rfl) ?_
  refine va_get (ci := 7) (v := .ref (q 16)) (C := RX7) (T := TX7) (N := 10) hx hb hts hinX7 hown hK hP 0 rfl rfl 7 (by decide) lk1 (fun _ h9 => h9) rfl dX7_keep_1 ?_
  refine lv_iload_n hx hb dX7_keep_4 rfl (lv_at hl 1 rfl) ?_
  refine lv_aload_n hx hb dX7_keep_5 rfl (lv_at hl 0 rfl) ?_
  refine va_get (ci := 7) (v := .ref (q 4)) (C := RX7) (T := TX7) (N := 10) hx hb hts hinX7 hown hK hP 0 rfl rfl 2 (by decide) lk2 (fun _ h9 => h9) rfl dX7_keep_6 ?_
  obtain ⟨v1, u2, u3, hc4, h⟩ := sh_b3_e h
  refine sh_wVi (wn := (sh_w7 q cI cJ cZ I J (va_up A 3 u3) (va_up B 5 u2))) (As := [.int x1, .ref (q 4)]) (rest := []) hfix (k_X4_put l D cI cJ cZ _ (q 16) (q 17) (q 18) (q 3) (q 4) (q 5) (B 5) (A 3) (B 0) x1 v1 u2 u3 hc4) (cwV 2 hts gX7_keep_X4_put rfl rfl rfl hdV_X4_put ⟨Nat.le_of_ble_eq_true rfl, Nat.le_of_ble_eq_true rfl⟩) hP hK hD hS hA [16, 17, 18, 4, 5] [0, 1, 2, 3, 6, 7, 8, 9, 10, 11, 12, 13, 14, 15, 19, 20, 21, 22] [0, 1, 2, 3, 21, 22, 4, 5, 6, 7, 8, 9, 10, 11, 12, 13, 18, 19, 20, 14, 15, 16, 17] rfl rfl rfl rfl rfl rfl rfl 16 rfl rfl rfl hl.1 rfl (Nat.le_of_ble_eq_true rfl) dX7_keep_9 ⟨Nat.zero_le _, Nat.zero_le _⟩ (fun H locs hP hD hS => ?_)
  refine lv_if_eq (tgt := 25) hx hb dX7_keep_12 (by decide) (fun g5 => ?_) (fun g5 => ?_)
  · rw [if_pos g5] at h
    refine lv_iconst (v := -1) hx hb dX7_keep_25 (by decide) ?_
    cases h
    exact sh_rwi hx hb hr hlocks hQ hK hP hD hS dX7_keep_26
  · rw [if_neg g5] at h
    refine lv_aload_n hx hb dX7_keep_15 rfl (lv_at hl 0 rfl) ?_
    refine va_get (ci := 7) (v := .ref (q 6)) (C := RX7) (T := TX7) (N := 10) hx hb hts hinX7 hown hK hP 0 rfl rfl 3 (by decide) lk3 (fun _ h9 => h9) rfl dX7_keep_16 ?_
    obtain ⟨v6, u7, u8, u9, hc10, h⟩ := sh_b4_e h
    refine sh_wVi (wn := (sh_w7 q cI cJ cZ (upd I 4 u9) J (va_up (va_up A 3 u3) 1 u8) (va_up (va_up B 5 u2) 2 u7))) (As := []) (rest := []) hfix (k_X6_countNodes l D cI cJ cZ _ (q 3) (q 4) (q 5) (q 6) (q 7) (q 8) (I 1) (I 2) (I 3) (J 0) (J 1) (J 2) (B 0) (B 2) (A 1) (I 4) v6 u7 u8 u9 hc10) (cwV 0 hts gX7_keep_X6_countNodes rfl rfl rfl hdV_X6_countNodes ⟨Nat.le_of_ble_eq_true rfl, Nat.le_of_ble_eq_true rfl⟩) hP hK hD hS hA [6, 7, 8, 4, 5, 3] [0, 1, 2, 9, 10, 11, 12, 13, 14, 15, 16, 17, 18, 19, 20, 21, 22] [0, 1, 2, 22, 20, 21, 17, 18, 19, 3, 4, 5, 6, 7, 8, 9, 10, 11, 12, 13, 14, 15, 16] rfl rfl rfl rfl rfl rfl rfl 6 rfl rfl rfl hl.1 rfl (Nat.le_of_ble_eq_true rfl) dX7_keep_19 ⟨Nat.zero_le _, Nat.zero_le _⟩ (fun H locs hP hD hS => ?_)
    refine lv_goto (tgt := 26) hx hb dX7_keep_22 (by decide) ?_
    cases h
    exact sh_rwi hx hb hr hlocks hQ hK hP hD hS dX7_keep_26
theorem hdV_X7_again : yX7_again.cls = RX7 ∧ yX7_again.cls ≠ "java/lang/invoke/MethodHandle" ∧ yX7_again.cls ≠ "java/lang/invoke/VarHandle" ∧ (parseMethodDescriptor yX7_again.desc).map (fun d => d.parameters.length) = some 1 := by decide +kernel
abbrev rmX7_again : Room := { frames := 5, cells := 0, slots := 0, locals := 125 }
set_option maxHeartbeats 4000000 in
set_option maxRecDepth 100000 in
theorem k_X7_again (l : Launch) (D : va_G) (cI cJ cZ : ClassId) (sz : Nat) (q : Nat → Nat) (I : Nat → Int32) (J : Nat → Int64) (A : Nat → Nat → Int32) (B : Nat → Nat → Int64) (x1 : Int32) (o : Int32) (oI : Nat → Int32) (oA : Nat → Nat → Int32) (oB : Nat → Nat → Int64) (h : fX7_again I J A B x1 = some (o, oI, oA, oB)) : Met l yX7_again wsX7_again rmX7_again (sh_Pw D (sh_ty cI cJ cZ) sz (sh_w7 q cI cJ cZ I J A B) [.ref (q 0), .int x1]) (sh_Qi D (sh_ty cI cJ cZ) (va_A (sh_w7 q cI cJ cZ I J A B) sz) (sh_w7 q cI cJ cZ oI J oA oB) o) 0 0 (va_A (sh_w7 q cI cJ cZ I J A B) sz) := by
  refine Met.ofW (cc := cX7_again) (maxL := 2) (ret := (some .int)) (by decide) rfl ?_
  intro p e s m args below meth c s₁ hB hml hv
  obtain ⟨hargs, hsz, hP, hK, hD0⟩ := hv
  have hx := hB.exec
  have hb := hB.bytes
  have hr := hB.returns
  have hts := atoms_spec (ws := wsX7_again) hB.pre
  have hown : s.vm.findClass RX7 = some m.cls := findClass_of_methodNamed hB.named
  have hlocks := hB.notSynchronized
  have hfix : CallFix p m c cX7_again 2 s args wsX7_again RX7 := ⟨hx, hb, hml, hown, hts⟩
  have hinX7 : ∀ w ∈ wsX70, w ∈ wsX7_again := by decide +kernel
  have lk1 := hts (.fieldLink RX7 57 "ShadeTree" "slots" "LShadeTree$Slots;") (by decide +kernel)
  have lk2 := hts (.fieldLink RX7 28 "ShadeTree" "now" "LShadeTree$Shades;") (by decide +kernel)
  have lk3 := hts (.fieldLink RX7 50 "ShadeTree" "doings" "LShadeTree$Doings;") (by decide +kernel)
  have lk4 := hts (.fieldLink RX7 37 "ShadeTree" "tree" "LShadeTree$Tree;") (by decide +kernel)
  rw [show entryFrame m args 2 = entryFrame m ([.ref (q 0), .int x1] : List Value).toArray 2 by rw [hargs], lg_entry_eq]
  have hl := lv_entry ([.ref (q 0), .int x1]) (n := 2) (Nat.le_of_ble_eq_true rfl)
  generalize (lg_sl ([.ref (q 0), .int x1]) ++ List.replicate (2 - (lg_sl ([.ref (q 0), .int x1])).length) Slot.unset).toArray = ls at hl ⊢
  have hl : lv_has ls 2 [(0, .ref (q 0)), (1, .int x1)] := hl
  subst hsz
  have hD := hD0.self (sz := s.heap.size)
  generalize hAe : va_A (sh_w7 q cI cJ cZ I J A B) s.heap.size = Az at hD ⊢
  have hA : ∀ q : Nat, s.heap.size ≤ q → Az q := fun q h => by rw [← hAe]; exact Or.inr h
  have hS : va_S Az s.heap s.heap [] := va_S.rf
  generalize hQ : MQ below (sh_Qi D (sh_ty cI cJ cZ) Az (sh_w7 q cI cJ cZ oI J oA oB) o) args s 0 0 Az = Q
  unfold fX7_again at h
  refine lv_aload_n hx hb dX7_again_0 rfl (lv_at hl 0 rfl) ?_
  refine va_get (ci := 7) (v := .ref (q 16)) (C := RX7) (T := TX7) (N := 10) hx hb hts hinX7 hown hK hP 0 rfl rfl 7 (by decide) lk1 (fun _ h9 => h9) rfl dX7_again_1 ?_
  refine lv_iload_n hx hb dX7_again_4 rfl (lv_at hl 1 rfl) ?_
  obtain ⟨v1, hc2, h⟩ := sh_b1_e h
  refine sh_cVi (As := [.int x1]) (rest := []) hfix (k_X4_has l D cI cJ cZ (q 16) (q 17) (q 18) (B 5) (A 3) x1 v1 hc2) (cwV 1 hts gX7_again_X4_has rfl rfl rfl hdV_X4_has ⟨Nat.le_of_ble_eq_true rfl, Nat.le_of_ble_eq_true rfl⟩) hP hK [16, 17, 18] rfl 16 rfl rfl rfl hl.1 rfl (Nat.le_of_ble_eq_true rfl) dX7_again_5 ⟨Nat.zero_le _, Nat.zero_le _⟩ ?_
  refine lv_if_ne (tgt := 13) hx hb dX7_again_8 (by decide) (fun g3 => ?_) (fun g3 => ?_)
  · rw [if_neg g3] at h
    refine lv_aload_n hx hb dX7_again_13 rfl (lv_at hl 0 rfl) ?_
    refine va_get (ci := 7) (v := .ref (q 16)) (C := RX7) (T := TX7) (N := 10) hx hb hts hinX7 hown hK hP 0 rfl rfl 7 (by decide) lk1 (fun _ h9 => h9) rfl dX7_again_14 ?_
    refine lv_iload_n hx hb dX7_again_17 rfl (lv_at hl 1 rfl) ?_
    refine lv_aload_n hx hb dX7_again_18 rfl (lv_at hl 0 rfl) ?_
    refine va_get (ci := 7) (v := .ref (q 4)) (C := RX7) (T := TX7) (N := 10) hx hb hts hinX7 hown hK hP 0 rfl rfl 2 (by decide) lk2 (fun _ h9 => h9) rfl dX7_again_19 ?_
    obtain ⟨v4, u5, hc6, h⟩ := sh_b2_e h
    refine sh_wVi (wn := (sh_w7 q cI cJ cZ I J A (va_up B 0 u5))) (As := [.int x1, .ref (q 4)]) (rest := []) hfix (k_X4_bringBack l D cI cJ cZ _ (q 16) (q 17) (q 18) (q 3) (q 4) (q 5) (B 5) (A 3) (B 0) x1 v4 u5 hc6) (cwV 2 hts gX7_again_X4_bringBack rfl rfl rfl hdV_X4_bringBack ⟨Nat.le_of_ble_eq_true rfl, Nat.le_of_ble_eq_true rfl⟩) hP hK hD hS hA [16, 17, 18, 4, 5] [0, 1, 2, 3, 6, 7, 8, 9, 10, 11, 12, 13, 14, 15, 19, 20, 21, 22] [0, 1, 2, 3, 21, 22, 4, 5, 6, 7, 8, 9, 10, 11, 12, 13, 18, 19, 20, 14, 15, 16, 17] rfl rfl rfl rfl rfl rfl rfl 16 rfl rfl rfl hl.1 rfl (Nat.le_of_ble_eq_true rfl) dX7_again_22 ⟨Nat.zero_le _, Nat.zero_le _⟩ (fun H locs hP hD hS => ?_)
    refine lv_if_ne (tgt := 31) hx hb dX7_again_25 (by decide) (fun g7 => ?_) (fun g7 => ?_)
    · rw [if_neg g7] at h
      refine lv_aload_n hx hb dX7_again_31 rfl (lv_at hl 0 rfl) ?_
      refine va_get (ci := 7) (v := .ref (q 14)) (C := RX7) (T := TX7) (N := 10) hx hb hts hinX7 hown hK hP 0 rfl rfl 6 (by decide) lk3 (fun _ h9 => h9) rfl dX7_again_32 ?_
      obtain ⟨u8, hc9, h⟩ := sh_b1_e h
      refine sh_wVv (wn := (sh_w7 q cI cJ cZ (upd I 6 u8) J A (va_up B 0 u5))) (As := []) (rest := []) hfix (k_X0_clear l D cI cJ cZ _ (q 14) (q 15) (B 4) (I 6) u8 hc9) (cwV 0 hts gX7_again_X0_clear rfl rfl rfl hdV_X0_clear ⟨Nat.le_of_ble_eq_true rfl, Nat.le_of_ble_eq_true rfl⟩) hP hK hD hS hA [14, 15] [0, 1, 2, 3, 4, 5, 6, 7, 8, 9, 10, 11, 12, 13, 16, 17, 18, 19, 20, 21, 22] [0, 1, 2, 3, 4, 5, 6, 7, 8, 9, 10, 11, 12, 13, 21, 22, 14, 15, 16, 17, 18, 19, 20] rfl rfl rfl rfl rfl rfl rfl 14 rfl rfl rfl hl.1 rfl (Nat.le_of_ble_eq_true rfl) dX7_again_35 ⟨Nat.zero_le _, Nat.zero_le _⟩ (fun H locs hP hD hS => ?_)
      refine lv_aload_n hx hb dX7_again_38 rfl (lv_at hl 0 rfl) ?_
      refine va_get (ci := 7) (v := .ref (q 6)) (C := RX7) (T := TX7) (N := 10) hx hb hts hinX7 hown hK hP 0 rfl rfl 3 (by decide) lk4 (fun _ h9 => h9) rfl dX7_again_39 ?_
      obtain ⟨v10, u11, u12, u13, hc14, h⟩ := sh_b4_e h
      refine sh_wVi (wn := (sh_w7 q cI cJ cZ (upd (upd I 6 u8) 4 u13) J (va_up A 1 u12) (va_up (va_up B 0 u5) 2 u11))) (As := []) (rest := []) hfix (k_X6_countNodes l D cI cJ cZ _ (q 3) (q 4) (q 5) (q 6) (q 7) (q 8) (I 1) (I 2) (I 3) (J 0) (J 1) (J 2) u5 (B 2) (A 1) (I 4) v10 u11 u12 u13 hc14) (cwV 0 hts gX7_again_X6_countNodes rfl rfl rfl hdV_X6_countNodes ⟨Nat.le_of_ble_eq_true rfl, Nat.le_of_ble_eq_true rfl⟩) hP hK hD hS hA [6, 7, 8, 4, 5, 3] [0, 1, 2, 9, 10, 11, 12, 13, 14, 15, 16, 17, 18, 19, 20, 21, 22] [0, 1, 2, 22, 20, 21, 17, 18, 19, 3, 4, 5, 6, 7, 8, 9, 10, 11, 12, 13, 14, 15, 16] rfl rfl rfl rfl rfl rfl rfl 6 rfl rfl rfl hl.1 rfl (Nat.le_of_ble_eq_true rfl) dX7_again_42 ⟨Nat.zero_le _, Nat.zero_le _⟩ (fun H locs hP hD hS => ?_)
      cases h
      exact sh_rwi hx hb hr hlocks hQ hK hP hD hS dX7_again_45
    · rw [if_pos g7] at h
      refine lv_bipush (v := -3) hx hb dX7_again_28 (by decide) ?_
      cases h
      exact sh_rwi hx hb hr hlocks hQ hK hP hD hS dX7_again_30
  · rw [if_pos g3] at h
    refine lv_iconst (v := -1) hx hb dX7_again_11 (by decide) ?_
    cases h
    exact sh_rwi hx hb hr hlocks hQ hK hP hD hS dX7_again_12
theorem hdS_X8_in : yX8_in.cls ≠ "java/lang/invoke/MethodHandle" ∧ yX8_in.cls ≠ "java/lang/invoke/VarHandle" ∧ (parseMethodDescriptor yX8_in.desc).map (fun d => d.parameters.length) = some 3 := by decide +kernel
abbrev rmX8_in : Room := { frames := 0, cells := 0, slots := 0, locals := 0 }
set_option maxHeartbeats 4000000 in
set_option maxRecDepth 100000 in
theorem k_X8_in (l : Launch) (D : va_G) (cI cJ cZ : ClassId) (x0 : Int64) (x2 : Int64) (x4 : Int64) (o : Int32) (h : fX8_in x0 x2 x4 = some o) : Met l yX8_in wsX8_in rmX8_in (sh_Pr D (sh_ty cI cJ cZ) [] [.long x0, .long x2, .long x4]) (vp_Si (fun z => z = o)) 0 0 (fun _ => False) := by
  refine Met.ofW (cc := cX8_in) (maxL := 6) (ret := (some .boolean)) (by decide) rfl ?_
  intro p e s m args below meth c s₁ hB hml hv
  obtain ⟨hargs, hP, hK⟩ := hv
  have hx := hB.exec
  have hb := hB.bytes
  have hr := hB.returns
  have hts := atoms_spec (ws := wsX8_in) hB.pre
  have hown : s.vm.findClass RX8 = some m.cls := findClass_of_methodNamed hB.named
  have hlocks := hB.notSynchronized
  have hfix : CallFix p m c cX8_in 6 s args wsX8_in RX8 := ⟨hx, hb, hml, hown, hts⟩
  rw [show entryFrame m args 6 = entryFrame m ([.long x0, .long x2, .long x4] : List Value).toArray 6 by rw [hargs], lg_entry_eq]
  have hl := lv_entry ([.long x0, .long x2, .long x4]) (n := 6) (Nat.le_of_ble_eq_true rfl)
  generalize (lg_sl ([.long x0, .long x2, .long x4]) ++ List.replicate (6 - (lg_sl ([.long x0, .long x2, .long x4])).length) Slot.unset).toArray = ls at hl ⊢
  have hl : lv_has ls 6 [(0, .long x0), (2, .long x2), (4, .long x4)] := hl
  generalize hQ : MQ below (vp_Si (fun z => z = o)) args s 0 0 (fun _ => False) = Q
  unfold fX8_in at h
  refine lv_lload_n hx hb dX8_in_0 rfl (lv_at hl 0 rfl) ?_
  refine lv_lload_n hx hb dX8_in_1 rfl (lv_at hl 1 rfl) ?_
  refine sh_llt (tgt := 17) hx hb dX8_in_2 dX8_in_3 (by decide) (fun g1 => ?_) (fun g1 => ?_)
  · rw [if_pos g1] at h
    refine lv_iconst (v := 0) hx hb dX8_in_17 (by decide) ?_
    exact sh_roz hx hb hr hlocks hQ ⟨rfl, (Option.some.inj h)⟩ dX8_in_18
  · rw [if_neg g1] at h
    refine lv_lload_n hx hb dX8_in_6 rfl (lv_at hl 0 rfl) ?_
    refine lv_lload hx hb dX8_in_7 (lv_at hl 2 rfl) ?_
    refine sh_lgt (tgt := 17) hx hb dX8_in_9 dX8_in_10 (by decide) (fun g2 => ?_) (fun g2 => ?_)
    · rw [if_pos g2] at h
      refine lv_iconst (v := 0) hx hb dX8_in_17 (by decide) ?_
      exact sh_roz hx hb hr hlocks hQ ⟨rfl, (Option.some.inj h)⟩ dX8_in_18
    · rw [if_neg g2] at h
      refine lv_iconst (v := 1) hx hb dX8_in_13 (by decide) ?_
      refine lv_goto (tgt := 18) hx hb dX8_in_14 (by decide) ?_
      exact sh_roz hx hb hr hlocks hQ ⟨rfl, (Option.some.inj h)⟩ dX8_in_18
theorem hdS_X8_has : yX8_has.cls ≠ "java/lang/invoke/MethodHandle" ∧ yX8_has.cls ≠ "java/lang/invoke/VarHandle" ∧ (parseMethodDescriptor yX8_has.desc).map (fun d => d.parameters.length) = some 2 := by decide +kernel
abbrev rmX8_has : Room := { frames := 0, cells := 0, slots := 0, locals := 0 }
set_option maxHeartbeats 4000000 in
set_option maxRecDepth 100000 in
theorem k_X8_has (l : Launch) (D : va_G) (cI cJ cZ : ClassId) (x0 : Int64) (x2 : Int32) (o : Int32) (h : fX8_has x0 x2 = some o) : Met l yX8_has wsX8_has rmX8_has (sh_Pr D (sh_ty cI cJ cZ) [] [.long x0, .int x2]) (vp_Si (fun z => z = o)) 0 0 (fun _ => False) := by
  refine Met.ofW (cc := cX8_has) (maxL := 3) (ret := (some .boolean)) (by decide) rfl ?_
  intro p e s m args below meth c s₁ hB hml hv
  obtain ⟨hargs, hP, hK⟩ := hv
  have hx := hB.exec
  have hb := hB.bytes
  have hr := hB.returns
  have hts := atoms_spec (ws := wsX8_has) hB.pre
  have hown : s.vm.findClass RX8 = some m.cls := findClass_of_methodNamed hB.named
  have hlocks := hB.notSynchronized
  have hfix : CallFix p m c cX8_has 3 s args wsX8_has RX8 := ⟨hx, hb, hml, hown, hts⟩
  rw [show entryFrame m args 3 = entryFrame m ([.long x0, .int x2] : List Value).toArray 3 by rw [hargs], lg_entry_eq]
  have hl := lv_entry ([.long x0, .int x2]) (n := 3) (Nat.le_of_ble_eq_true rfl)
  generalize (lg_sl ([.long x0, .int x2]) ++ List.replicate (3 - (lg_sl ([.long x0, .int x2])).length) Slot.unset).toArray = ls at hl ⊢
  have hl : lv_has ls 3 [(0, .long x0), (2, .int x2)] := hl
  generalize hQ : MQ below (vp_Si (fun z => z = o)) args s 0 0 (fun _ => False) = Q
  unfold fX8_has at h
  refine lv_lload_n hx hb dX8_has_0 rfl (lv_at hl 0 rfl) ?_
  refine lv_iload_n hx hb dX8_has_1 rfl (lv_at hl 1 rfl) ?_
  refine lv_lushr (v := (sh_lsr x0 x2)) hx hb dX8_has_2 rfl ?_
  refine lv_lconst (v := 1) hx hb dX8_has_3 (by decide) ?_
  refine lv_land hx hb dX8_has_4 ?_
  refine lv_lconst (v := 1) hx hb dX8_has_5 (by decide) ?_
  refine sh_lne (tgt := 14) hx hb dX8_has_6 dX8_has_7 (by decide) (fun g1 => ?_) (fun g1 => ?_)
  · rw [if_neg g1] at h
    refine lv_iconst (v := 0) hx hb dX8_has_14 (by decide) ?_
    exact sh_roz hx hb hr hlocks hQ ⟨rfl, (Option.some.inj h)⟩ dX8_has_15
  · rw [if_pos g1] at h
    refine lv_iconst (v := 1) hx hb dX8_has_10 (by decide) ?_
    refine lv_goto (tgt := 15) hx hb dX8_has_11 (by decide) ?_
    exact sh_roz hx hb hr hlocks hQ ⟨rfl, (Option.some.inj h)⟩ dX8_has_15
theorem hdS_X8_many : yX8_many.cls ≠ "java/lang/invoke/MethodHandle" ∧ yX8_many.cls ≠ "java/lang/invoke/VarHandle" ∧ (parseMethodDescriptor yX8_many.desc).map (fun d => d.parameters.length) = some 1 := by decide +kernel
abbrev rmX8_many : Room := { frames := 1, cells := 0, slots := 0, locals := 22 }
set_option maxHeartbeats 4000000 in
set_option maxRecDepth 100000 in
theorem k_X8_many (l : Launch) (D : va_G) (cI cJ cZ : ClassId) (x0 : Int64) (o : Int32) (h : fX8_many x0 = some o) : Met l yX8_many wsX8_many rmX8_many (sh_Pr D (sh_ty cI cJ cZ) [] [.long x0]) (vp_Si (fun z => z = o)) 0 0 (fun _ => False) := by
  refine Met.ofW (cc := cX8_many) (maxL := 4) (ret := (some .int)) (by decide) rfl ?_
  intro p e s m args below meth c s₁ hB hml hv
  obtain ⟨hargs, hP, hK⟩ := hv
  have hx := hB.exec
  have hb := hB.bytes
  have hr := hB.returns
  have hts := atoms_spec (ws := wsX8_many) hB.pre
  have hown : s.vm.findClass RX8 = some m.cls := findClass_of_methodNamed hB.named
  have hlocks := hB.notSynchronized
  have hfix : CallFix p m c cX8_many 4 s args wsX8_many RX8 := ⟨hx, hb, hml, hown, hts⟩
  rw [show entryFrame m args 4 = entryFrame m ([.long x0] : List Value).toArray 4 by rw [hargs], lg_entry_eq]
  have hl := lv_entry ([.long x0]) (n := 4) (Nat.le_of_ble_eq_true rfl)
  generalize (lg_sl ([.long x0]) ++ List.replicate (4 - (lg_sl ([.long x0])).length) Slot.unset).toArray = ls at hl ⊢
  have hl : lv_has ls 4 [(0, .long x0)] := hl
  generalize hQ : MQ below (vp_Si (fun z => z = o)) args s 0 0 (fun _ => False) = Q
  unfold fX8_many at h
  refine lv_iconst (v := 0) hx hb dX8_many_0 (by decide) ?_
  refine lv_istore_n (lv' := [(2, .int 0), (0, .long x0)]) hx hb dX8_many_1 rfl hl (by decide) rfl (fun ls hl => ?_)
  refine lv_iconst (v := 0) hx hb dX8_many_2 (by decide) ?_
  refine lv_istore_n (lv' := [(3, .int 0), (2, .int 0), (0, .long x0)]) hx hb dX8_many_3 rfl hl (by decide) rfl (fun ls hl => ?_)
  have LP5 : ∀ (n : Nat) (x0 : Int64) (x2 : Int32) (x3 : Int32) (ow2 : Int32) (ls : Array Slot), fX8_many_L4 n x0 x2 x3 = some ow2 → lv_has ls 4 [(0, .long x0), (2, .int x2), (3, .int x3)] → (∀ (ls : Array Slot), lv_has ls 4 [(2, .int ow2)] → W p l e (headSpec wsX8_many rmX8_many).room s m args below meth c s.heap [] 0 0 Q (F0 m 32 ls [])) → W p l e (headSpec wsX8_many rmX8_many).room s m args below meth c s.heap [] 0 0 Q (F0 m 4 ls []) := by
    intro n
    induction n with
    | zero =>
      intro x0 x2 x3 ow2 ls h hl hk
      exact nomatch ((fX8_many_L4_z x0 x2 x3).symm.trans h)
    | succ n ih =>
      intro x0 x2 x3 ow2 ls h hl hk
      rw [fX8_many_L4_s] at h
      refine lv_iload_n hx hb dX8_many_4 rfl (lv_at hl 2 rfl) ?_
      refine lv_bipush (v := 36) hx hb dX8_many_5 (by decide) ?_
      refine lv_icmp_ge (tgt := 32) hx hb dX8_many_7 (by decide) (fun g1 => ?_) (fun g1 => ?_)
      · rw [if_pos g1] at h
        cases h
        exact hk ls (lv_sub hl [1] rfl) 
      · rw [if_neg g1] at h
        refine lv_iload_n hx hb dX8_many_10 rfl (lv_at hl 1 rfl) ?_
        refine lv_lload_n hx hb dX8_many_11 rfl (lv_at hl 0 rfl) ?_
        refine lv_iload_n hx hb dX8_many_12 rfl (lv_at hl 2 rfl) ?_
        obtain ⟨v2, hc3, h⟩ := sh_b1_e h
        refine sh_cSi (As := [.long x0, .int x3]) (rest := [.int x2]) hfix (k_X8_has l D cI cJ cZ x0 x3 v2 hc3) (va_cwS 2 hts gX8_many_X8_has rfl rfl rfl hdS_X8_has ⟨Nat.le_of_ble_eq_true rfl, Nat.le_of_ble_eq_true rfl⟩) hP hK [] rfl rfl hl.1 rfl (Nat.le_of_ble_eq_true rfl) dX8_many_13 ⟨Nat.zero_le _, Nat.zero_le _⟩ ?_
        refine lv_if_eq (tgt := 23) hx hb dX8_many_16 (by decide) (fun g4 => ?_) (fun g4 => ?_)
        · rw [if_pos g4] at h
          refine lv_iconst (v := 0) hx hb dX8_many_23 (by decide) ?_
          refine lv_iadd hx hb dX8_many_24 ?_
          refine lv_istore_n (lv' := [(2, .int (x2 + 0)), (0, .long x0), (3, .int x3)]) hx hb dX8_many_25 rfl hl (by decide) rfl (fun ls hl => ?_)
          refine lv_iinc (v := (x3 + 1)) (lv' := [(3, .int (x3 + 1)), (2, .int (x2 + 0)), (0, .long x0)]) hx hb dX8_many_26 hl (k := 2) rfl rfl (by decide) rfl (fun ls hl => ?_)
          refine lv_goto (tgt := 4) hx hb dX8_many_29 (by decide) ?_
          exact ih x0 (x2 + 0) (x3 + 1) ow2 ls h (lv_sub hl [2, 1, 0] rfl)  hk
        · rw [if_neg g4] at h
          refine lv_iconst (v := 1) hx hb dX8_many_19 (by decide) ?_
          refine lv_goto (tgt := 24) hx hb dX8_many_20 (by decide) ?_
          refine lv_iadd hx hb dX8_many_24 ?_
          refine lv_istore_n (lv' := [(2, .int (x2 + 1)), (0, .long x0), (3, .int x3)]) hx hb dX8_many_25 rfl hl (by decide) rfl (fun ls hl => ?_)
          refine lv_iinc (v := (x3 + 1)) (lv' := [(3, .int (x3 + 1)), (2, .int (x2 + 1)), (0, .long x0)]) hx hb dX8_many_26 hl (k := 2) rfl rfl (by decide) rfl (fun ls hl => ?_)
          refine lv_goto (tgt := 4) hx hb dX8_many_29 (by decide) ?_
          exact ih x0 (x2 + 1) (x3 + 1) ow2 ls h (lv_sub hl [2, 1, 0] rfl)  hk
  obtain ⟨w6, hc7, h⟩ := sh_b1_e h
  refine LP5 sh_fu x0 0 0 w6 ls hc7 (lv_sub hl [2, 1, 0] rfl)  (fun ls hl  => ?_)
  refine lv_iload_n hx hb dX8_many_32 rfl (lv_at hl 0 rfl) ?_
  exact sh_roi hx hb hr hlocks hQ (Option.some.inj h) dX8_many_33
theorem hdS_X8_power : yX8_power.cls ≠ "java/lang/invoke/MethodHandle" ∧ yX8_power.cls ≠ "java/lang/invoke/VarHandle" ∧ (parseMethodDescriptor yX8_power.desc).map (fun d => d.parameters.length) = some 2 := by decide +kernel
abbrev rmX8_power : Room := { frames := 0, cells := 0, slots := 0, locals := 0 }
set_option maxHeartbeats 4000000 in
set_option maxRecDepth 100000 in
theorem k_X8_power (l : Launch) (D : va_G) (cI cJ cZ : ClassId) (x0 : Int32) (x1 : Int32) (o : Int32) (h : fX8_power x0 x1 = some o) : Met l yX8_power wsX8_power rmX8_power (sh_Pr D (sh_ty cI cJ cZ) [] [.int x0, .int x1]) (vp_Si (fun z => z = o)) 0 0 (fun _ => False) := by
  refine Met.ofW (cc := cX8_power) (maxL := 4) (ret := (some .int)) (by decide) rfl ?_
  intro p e s m args below meth c s₁ hB hml hv
  obtain ⟨hargs, hP, hK⟩ := hv
  have hx := hB.exec
  have hb := hB.bytes
  have hr := hB.returns
  have hts := atoms_spec (ws := wsX8_power) hB.pre
  have hown : s.vm.findClass RX8 = some m.cls := findClass_of_methodNamed hB.named
  have hlocks := hB.notSynchronized
  have hfix : CallFix p m c cX8_power 4 s args wsX8_power RX8 := ⟨hx, hb, hml, hown, hts⟩
  rw [show entryFrame m args 4 = entryFrame m ([.int x0, .int x1] : List Value).toArray 4 by rw [hargs], lg_entry_eq]
  have hl := lv_entry ([.int x0, .int x1]) (n := 4) (Nat.le_of_ble_eq_true rfl)
  generalize (lg_sl ([.int x0, .int x1]) ++ List.replicate (4 - (lg_sl ([.int x0, .int x1])).length) Slot.unset).toArray = ls at hl ⊢
  have hl : lv_has ls 4 [(0, .int x0), (1, .int x1)] := hl
  generalize hQ : MQ below (vp_Si (fun z => z = o)) args s 0 0 (fun _ => False) = Q
  unfold fX8_power at h
  refine lv_iconst (v := 1) hx hb dX8_power_0 (by decide) ?_
  refine lv_istore_n (lv' := [(2, .int 1), (0, .int x0), (1, .int x1)]) hx hb dX8_power_1 rfl hl (by decide) rfl (fun ls hl => ?_)
  refine lv_iconst (v := 0) hx hb dX8_power_2 (by decide) ?_
  refine lv_istore_n (lv' := [(3, .int 0), (2, .int 1), (0, .int x0), (1, .int x1)]) hx hb dX8_power_3 rfl hl (by decide) rfl (fun ls hl => ?_)
  have LP2 : ∀ (n : Nat) (x0 : Int32) (x1 : Int32) (x2 : Int32) (x3 : Int32) (ow2 : Int32) (ls : Array Slot), fX8_power_L4 n x0 x1 x2 x3 = some ow2 → lv_has ls 4 [(0, .int x0), (1, .int x1), (2, .int x2), (3, .int x3)] → (∀ (ls : Array Slot), lv_has ls 4 [(2, .int ow2)] → W p l e (headSpec wsX8_power rmX8_power).room s m args below meth c s.heap [] 0 0 Q (F0 m 19 ls [])) → W p l e (headSpec wsX8_power rmX8_power).room s m args below meth c s.heap [] 0 0 Q (F0 m 4 ls []) := by
    intro n
    induction n with
    | zero =>
      intro x0 x1 x2 x3 ow2 ls h hl hk
      exact nomatch ((fX8_power_L4_z x0 x1 x2 x3).symm.trans h)
    | succ n ih =>
      intro x0 x1 x2 x3 ow2 ls h hl hk
      rw [fX8_power_L4_s] at h
      refine lv_iload_n hx hb dX8_power_4 rfl (lv_at hl 3 rfl) ?_
      refine lv_iload_n hx hb dX8_power_5 rfl (lv_at hl 1 rfl) ?_
      refine lv_icmp_ge (tgt := 19) hx hb dX8_power_6 (by decide) (fun g1 => ?_) (fun g1 => ?_)
      · rw [if_pos g1] at h
        cases h
        exact hk ls (lv_sub hl [2] rfl) 
      · rw [if_neg g1] at h
        refine lv_iload_n hx hb dX8_power_9 rfl (lv_at hl 2 rfl) ?_
        refine lv_iload_n hx hb dX8_power_10 rfl (lv_at hl 0 rfl) ?_
        refine lv_imul hx hb dX8_power_11 ?_
        refine lv_istore_n (lv' := [(2, .int (x2 * x0)), (0, .int x0), (1, .int x1), (3, .int x3)]) hx hb dX8_power_12 rfl hl (by decide) rfl (fun ls hl => ?_)
        refine lv_iinc (v := (x3 + 1)) (lv' := [(3, .int (x3 + 1)), (2, .int (x2 * x0)), (0, .int x0), (1, .int x1)]) hx hb dX8_power_13 hl (k := 3) rfl rfl (by decide) rfl (fun ls hl => ?_)
        refine lv_goto (tgt := 4) hx hb dX8_power_16 (by decide) ?_
        exact ih x0 x1 (x2 * x0) (x3 + 1) ow2 ls h (lv_sub hl [2, 3, 1, 0] rfl)  hk
  obtain ⟨w3, hc4, h⟩ := sh_b1_e h
  refine LP2 sh_fu x0 x1 1 0 w3 ls hc4 (lv_sub hl [2, 3, 1, 0] rfl)  (fun ls hl  => ?_)
  refine lv_iload_n hx hb dX8_power_19 rfl (lv_at hl 0 rfl) ?_
  exact sh_roi hx hb hr hlocks hQ (Option.some.inj h) dX8_power_20
theorem hdS_X8_dotsOf : yX8_dotsOf.cls ≠ "java/lang/invoke/MethodHandle" ∧ yX8_dotsOf.cls ≠ "java/lang/invoke/VarHandle" ∧ (parseMethodDescriptor yX8_dotsOf.desc).map (fun d => d.parameters.length) = some 1 := by decide +kernel
abbrev rmX8_dotsOf : Room := { frames := 0, cells := 0, slots := 0, locals := 0 }
set_option maxHeartbeats 4000000 in
set_option maxRecDepth 100000 in
theorem k_X8_dotsOf (l : Launch) (D : va_G) (cI cJ cZ : ClassId) (aA : Nat) (pA : Nat → Int32) (o : Int32) (h : fX8_dotsOf pA = some o) : Met l yX8_dotsOf wsX8_dotsOf rmX8_dotsOf (sh_Pr D (sh_ty cI cJ cZ) [(aA, .inl (cI, 39, .inl pA))] [.ref aA]) (vp_Si (fun z => z = o)) 0 0 (fun _ => False) := by
  refine Met.ofW (cc := cX8_dotsOf) (maxL := 1) (ret := (some .int)) (by decide) rfl ?_
  intro p e s m args below meth c s₁ hB hml hv
  obtain ⟨hargs, hP, hK⟩ := hv
  have hx := hB.exec
  have hb := hB.bytes
  have hr := hB.returns
  have hts := atoms_spec (ws := wsX8_dotsOf) hB.pre
  have hown : s.vm.findClass RX8 = some m.cls := findClass_of_methodNamed hB.named
  have hlocks := hB.notSynchronized
  have hfix : CallFix p m c cX8_dotsOf 1 s args wsX8_dotsOf RX8 := ⟨hx, hb, hml, hown, hts⟩
  rw [show entryFrame m args 1 = entryFrame m ([.ref aA] : List Value).toArray 1 by rw [hargs], lg_entry_eq]
  have hl := lv_entry ([.ref aA]) (n := 1) (Nat.le_of_ble_eq_true rfl)
  generalize (lg_sl ([.ref aA]) ++ List.replicate (1 - (lg_sl ([.ref aA])).length) Slot.unset).toArray = ls at hl ⊢
  have hl : lv_has ls 1 [(0, .ref aA)] := hl
  generalize hQ : MQ below (vp_Si (fun z => z = o)) args s 0 0 (fun _ => False) = Q
  unfold fX8_dotsOf at h
  refine lv_aload_n hx hb dX8_dotsOf_0 rfl (lv_at hl 0 rfl) ?_
  refine lv_iconst (v := 1) hx hb dX8_dotsOf_1 (by decide) ?_
  refine sh_iald (v := (pA 1)) hx hb hK hP 0 0 rfl rfl ⟨by unfold vp_in; decide, rfl⟩ dX8_dotsOf_2 ?_
  refine lv_aload_n hx hb dX8_dotsOf_3 rfl (lv_at hl 0 rfl) ?_
  refine lv_iconst (v := 2) hx hb dX8_dotsOf_4 (by decide) ?_
  refine sh_iald (v := (pA 2)) hx hb hK hP 0 0 rfl rfl ⟨by unfold vp_in; decide, rfl⟩ dX8_dotsOf_5 ?_
  refine lv_imul hx hb dX8_dotsOf_6 ?_
  exact sh_roi hx hb hr hlocks hQ (Option.some.inj h) dX8_dotsOf_7
theorem hdV_X8_noDot : yX8_noDot.cls = RX8 ∧ yX8_noDot.cls ≠ "java/lang/invoke/MethodHandle" ∧ yX8_noDot.cls ≠ "java/lang/invoke/VarHandle" ∧ (parseMethodDescriptor yX8_noDot.desc).map (fun d => d.parameters.length) = some 1 := by decide +kernel
abbrev rmX8_noDot : Room := { frames := 1, cells := 0, slots := 0, locals := 25 }
set_option maxHeartbeats 4000000 in
set_option maxRecDepth 100000 in
theorem k_X8_noDot (l : Launch) (D : va_G) (cI cJ cZ : ClassId) (q : Nat → Nat) (I : Nat → Int32) (S : Int64) (A : Nat → Nat → Int32) (x1 : Int32) (o : Int32) (h : fX8_noDot A x1 = some o) : Met l yX8_noDot wsX8_noDot rmX8_noDot (sh_Pr D (sh_ty cI cJ cZ) (sh_w8 q cI cJ cZ I S A) [.ref (q 0), .int x1]) (vp_Si (fun z => z = o)) 0 0 (fun _ => False) := by
  refine Met.ofW (cc := cX8_noDot) (maxL := 2) (ret := (some .boolean)) (by decide) rfl ?_
  intro p e s m args below meth c s₁ hB hml hv
  obtain ⟨hargs, hP, hK⟩ := hv
  have hx := hB.exec
  have hb := hB.bytes
  have hr := hB.returns
  have hts := atoms_spec (ws := wsX8_noDot) hB.pre
  have hown : s.vm.findClass RX8 = some m.cls := findClass_of_methodNamed hB.named
  have hlocks := hB.notSynchronized
  have hfix : CallFix p m c cX8_noDot 2 s args wsX8_noDot RX8 := ⟨hx, hb, hml, hown, hts⟩
  have hinX8 : ∀ w ∈ wsX80, w ∈ wsX8_noDot := by decide +kernel
  have lk1 := hts (.fieldLink RX8 16 "ShadeTreeModel" "page" "[I") (by decide +kernel)
  rw [show entryFrame m args 2 = entryFrame m ([.ref (q 0), .int x1] : List Value).toArray 2 by rw [hargs], lg_entry_eq]
  have hl := lv_entry ([.ref (q 0), .int x1]) (n := 2) (Nat.le_of_ble_eq_true rfl)
  generalize (lg_sl ([.ref (q 0), .int x1]) ++ List.replicate (2 - (lg_sl ([.ref (q 0), .int x1])).length) Slot.unset).toArray = ls at hl ⊢
  have hl : lv_has ls 2 [(0, .ref (q 0)), (1, .int x1)] := hl
  generalize hQ : MQ below (vp_Si (fun z => z = o)) args s 0 0 (fun _ => False) = Q
  unfold fX8_noDot at h
  refine lv_iload_n hx hb dX8_noDot_0 rfl (lv_at hl 1 rfl) ?_
  refine lv_i2l (v := (Int32.toInt64 x1)) hx hb dX8_noDot_1 rfl ?_
  refine lv_lconst (v := 0) hx hb dX8_noDot_2 (by decide) ?_
  refine lv_aload_n hx hb dX8_noDot_3 rfl (lv_at hl 0 rfl) ?_
  refine va_get (ci := 8) (v := .ref (q 3)) (C := RX8) (T := TX8) (N := 21) hx hb hts hinX8 hown hK hP 0 rfl rfl 4 (by decide) lk1 (fun _ h9 => h9) rfl dX8_noDot_4 ?_
  obtain ⟨v1, hc2, h⟩ := sh_b1_e h
  refine sh_cSi (As := [.ref (q 3)]) (rest := [.long 0, .long (Int32.toInt64 x1)]) hfix (k_X8_dotsOf l D cI cJ cZ (q 3) (A 2) v1 hc2) (va_cwS 1 hts gX8_noDot_X8_dotsOf rfl rfl rfl hdS_X8_dotsOf ⟨Nat.le_of_ble_eq_true rfl, Nat.le_of_ble_eq_true rfl⟩) hP hK [3] rfl rfl hl.1 rfl (Nat.le_of_ble_eq_true rfl) dX8_noDot_7 ⟨Nat.zero_le _, Nat.zero_le _⟩ ?_
  refine lv_iconst (v := 1) hx hb dX8_noDot_10 (by decide) ?_
  refine lv_isub hx hb dX8_noDot_11 ?_
  refine lv_i2l (v := (Int32.toInt64 (v1 - 1))) hx hb dX8_noDot_12 rfl ?_
  obtain ⟨v3, hc4, h⟩ := sh_b1_e h
  refine sh_cSi (As := [.long (Int32.toInt64 x1), .long 0, .long (Int32.toInt64 (v1 - 1))]) (rest := []) hfix (k_X8_in l D cI cJ cZ (Int32.toInt64 x1) 0 (Int32.toInt64 (v1 - 1)) v3 hc4) (va_cwS 3 hts gX8_noDot_X8_in rfl rfl rfl hdS_X8_in ⟨Nat.le_of_ble_eq_true rfl, Nat.le_of_ble_eq_true rfl⟩) hP hK [] rfl rfl hl.1 rfl (Nat.le_of_ble_eq_true rfl) dX8_noDot_13 ⟨Nat.zero_le _, Nat.zero_le _⟩ ?_
  refine lv_if_ne (tgt := 23) hx hb dX8_noDot_16 (by decide) (fun g5 => ?_) (fun g5 => ?_)
  · rw [if_neg g5] at h
    refine lv_iconst (v := 0) hx hb dX8_noDot_23 (by decide) ?_
    exact sh_roz hx hb hr hlocks hQ ⟨rfl, (Option.some.inj h)⟩ dX8_noDot_24
  · rw [if_pos g5] at h
    refine lv_iconst (v := 1) hx hb dX8_noDot_19 (by decide) ?_
    refine lv_goto (tgt := 24) hx hb dX8_noDot_20 (by decide) ?_
    exact sh_roz hx hb hr hlocks hQ ⟨rfl, (Option.some.inj h)⟩ dX8_noDot_24
theorem hdS_X8_isBeside : yX8_isBeside.cls ≠ "java/lang/invoke/MethodHandle" ∧ yX8_isBeside.cls ≠ "java/lang/invoke/VarHandle" ∧ (parseMethodDescriptor yX8_isBeside.desc).map (fun d => d.parameters.length) = some 4 := by decide +kernel
abbrev rmX8_isBeside : Room := { frames := 0, cells := 0, slots := 0, locals := 0 }
set_option maxHeartbeats 4000000 in
set_option maxRecDepth 100000 in
theorem k_X8_isBeside (l : Launch) (D : va_G) (cI cJ cZ : ClassId) (aA : Nat) (pA : Nat → Int32) (x1 : Int32) (x2 : Int32) (x3 : Int32) (o : Int32) (h : fX8_isBeside pA x1 x2 x3 = some o) : Met l yX8_isBeside wsX8_isBeside rmX8_isBeside (sh_Pr D (sh_ty cI cJ cZ) [(aA, .inl (cI, 39, .inl pA))] [.ref aA, .int x1, .int x2, .int x3]) (vp_Si (fun z => z = o)) 0 0 (fun _ => False) := by
  refine Met.ofW (cc := cX8_isBeside) (maxL := 7) (ret := (some .boolean)) (by decide) rfl ?_
  intro p e s m args below meth c s₁ hB hml hv
  obtain ⟨hargs, hP, hK⟩ := hv
  have hx := hB.exec
  have hb := hB.bytes
  have hr := hB.returns
  have hts := atoms_spec (ws := wsX8_isBeside) hB.pre
  have hown : s.vm.findClass RX8 = some m.cls := findClass_of_methodNamed hB.named
  have hlocks := hB.notSynchronized
  have hfix : CallFix p m c cX8_isBeside 7 s args wsX8_isBeside RX8 := ⟨hx, hb, hml, hown, hts⟩
  rw [show entryFrame m args 7 = entryFrame m ([.ref aA, .int x1, .int x2, .int x3] : List Value).toArray 7 by rw [hargs], lg_entry_eq]
  have hl := lv_entry ([.ref aA, .int x1, .int x2, .int x3]) (n := 7) (Nat.le_of_ble_eq_true rfl)
  generalize (lg_sl ([.ref aA, .int x1, .int x2, .int x3]) ++ List.replicate (7 - (lg_sl ([.ref aA, .int x1, .int x2, .int x3])).length) Slot.unset).toArray = ls at hl ⊢
  have hl : lv_has ls 7 [(0, .ref aA), (1, .int x1), (2, .int x2), (3, .int x3)] := hl
  generalize hQ : MQ below (vp_Si (fun z => z = o)) args s 0 0 (fun _ => False) = Q
  unfold fX8_isBeside at h
  refine lv_iload_n hx hb dX8_isBeside_0 rfl (lv_at hl 1 rfl) ?_
  refine lv_aload_n hx hb dX8_isBeside_1 rfl (lv_at hl 0 rfl) ?_
  refine lv_iconst (v := 1) hx hb dX8_isBeside_2 (by decide) ?_
  refine sh_iald (v := (pA 1)) hx hb hK hP 0 0 rfl rfl ⟨by unfold vp_in; decide, rfl⟩ dX8_isBeside_3 ?_
  obtain ⟨v1, hcv1, h⟩ := sh_b1_e h
  refine sh_idiv hx hb (sh_div_e hcv1) dX8_isBeside_4 ?_
  refine lv_iload_n hx hb dX8_isBeside_5 rfl (lv_at hl 2 rfl) ?_
  refine lv_aload_n hx hb dX8_isBeside_6 rfl (lv_at hl 0 rfl) ?_
  refine lv_iconst (v := 1) hx hb dX8_isBeside_7 (by decide) ?_
  refine sh_iald (v := (pA 1)) hx hb hK hP 0 0 rfl rfl ⟨by unfold vp_in; decide, rfl⟩ dX8_isBeside_8 ?_
  obtain ⟨v2, hcv2, h⟩ := sh_b1_e h
  refine sh_idiv hx hb (sh_div_e hcv2) dX8_isBeside_9 ?_
  refine lv_isub hx hb dX8_isBeside_10 ?_
  refine lv_istore (lv' := [(4, .int (v1 - v2)), (0, .ref aA), (1, .int x1), (2, .int x2), (3, .int x3)]) hx hb dX8_isBeside_11 hl (by decide) rfl (fun ls hl => ?_)
  refine lv_iload_n hx hb dX8_isBeside_13 rfl (lv_at hl 2 rfl) ?_
  refine lv_aload_n hx hb dX8_isBeside_14 rfl (lv_at hl 1 rfl) ?_
  refine lv_iconst (v := 1) hx hb dX8_isBeside_15 (by decide) ?_
  refine sh_iald (v := (pA 1)) hx hb hK hP 0 0 rfl rfl ⟨by unfold vp_in; decide, rfl⟩ dX8_isBeside_16 ?_
  obtain ⟨v3, hcv3, h⟩ := sh_b1_e h
  refine sh_irem hx hb (sh_rem_e hcv3) dX8_isBeside_17 ?_
  refine lv_iload_n hx hb dX8_isBeside_18 rfl (lv_at hl 3 rfl) ?_
  refine lv_aload_n hx hb dX8_isBeside_19 rfl (lv_at hl 1 rfl) ?_
  refine lv_iconst (v := 1) hx hb dX8_isBeside_20 (by decide) ?_
  refine sh_iald (v := (pA 1)) hx hb hK hP 0 0 rfl rfl ⟨by unfold vp_in; decide, rfl⟩ dX8_isBeside_21 ?_
  obtain ⟨v4, hcv4, h⟩ := sh_b1_e h
  refine sh_irem hx hb (sh_rem_e hcv4) dX8_isBeside_22 ?_
  refine lv_isub hx hb dX8_isBeside_23 ?_
  refine lv_istore (lv' := [(5, .int (v3 - v4)), (4, .int (v1 - v2)), (0, .ref aA), (1, .int x1), (2, .int x2), (3, .int x3)]) hx hb dX8_isBeside_24 hl (by decide) rfl (fun ls hl => ?_)
  refine lv_iload hx hb dX8_isBeside_26 (lv_at hl 1 rfl) ?_
  refine lv_iload hx hb dX8_isBeside_28 (lv_at hl 1 rfl) ?_
  refine lv_imul hx hb dX8_isBeside_30 ?_
  refine lv_iload hx hb dX8_isBeside_31 (lv_at hl 0 rfl) ?_
  refine lv_iload hx hb dX8_isBeside_33 (lv_at hl 0 rfl) ?_
  refine lv_imul hx hb dX8_isBeside_35 ?_
  refine lv_iadd hx hb dX8_isBeside_36 ?_
  refine lv_istore (lv' := [(6, .int (((v1 - v2) * (v1 - v2)) + ((v3 - v4) * (v3 - v4)))), (5, .int (v3 - v4)), (4, .int (v1 - v2)), (0, .ref aA), (1, .int x1), (2, .int x2), (3, .int x3)]) hx hb dX8_isBeside_37 hl (by decide) rfl (fun ls hl => ?_)
  refine lv_iload hx hb dX8_isBeside_39 (lv_at hl 0 rfl) ?_
  refine lv_iconst (v := 1) hx hb dX8_isBeside_41 (by decide) ?_
  refine lv_icmp_eq (tgt := 57) hx hb dX8_isBeside_42 (by decide) (fun g5 => ?_) (fun g5 => ?_)
  · rw [if_pos g5] at h
    refine lv_iconst (v := 1) hx hb dX8_isBeside_57 (by decide) ?_
    refine lv_goto (tgt := 62) hx hb dX8_isBeside_58 (by decide) ?_
    exact sh_roz hx hb hr hlocks hQ ⟨rfl, (Option.some.inj h)⟩ dX8_isBeside_62
  · rw [if_neg g5] at h
    refine lv_iload hx hb dX8_isBeside_45 (lv_at hl 0 rfl) ?_
    refine lv_iconst (v := 2) hx hb dX8_isBeside_47 (by decide) ?_
    refine lv_icmp_ne (tgt := 61) hx hb dX8_isBeside_48 (by decide) (fun g6 => ?_) (fun g6 => ?_)
    · rw [if_neg g6] at h
      refine lv_iconst (v := 0) hx hb dX8_isBeside_61 (by decide) ?_
      exact sh_roz hx hb hr hlocks hQ ⟨rfl, (Option.some.inj h)⟩ dX8_isBeside_62
    · rw [if_pos g6] at h
      refine lv_iload_n hx hb dX8_isBeside_51 rfl (lv_at hl 6 rfl) ?_
      refine lv_bipush (v := 8) hx hb dX8_isBeside_52 (by decide) ?_
      refine lv_icmp_ne (tgt := 61) hx hb dX8_isBeside_54 (by decide) (fun g7 => ?_) (fun g7 => ?_)
      · rw [if_neg g7] at h
        refine lv_iconst (v := 0) hx hb dX8_isBeside_61 (by decide) ?_
        exact sh_roz hx hb hr hlocks hQ ⟨rfl, (Option.some.inj h)⟩ dX8_isBeside_62
      · rw [if_pos g7] at h
        refine lv_iconst (v := 1) hx hb dX8_isBeside_57 (by decide) ?_
        refine lv_goto (tgt := 62) hx hb dX8_isBeside_58 (by decide) ?_
        exact sh_roz hx hb hr hlocks hQ ⟨rfl, (Option.some.inj h)⟩ dX8_isBeside_62
theorem hdS_X8_bright : yX8_bright.cls ≠ "java/lang/invoke/MethodHandle" ∧ yX8_bright.cls ≠ "java/lang/invoke/VarHandle" ∧ (parseMethodDescriptor yX8_bright.desc).map (fun d => d.parameters.length) = some 3 := by decide +kernel
abbrev rmX8_bright : Room := { frames := 1, cells := 0, slots := 0, locals := 22 }
set_option maxHeartbeats 4000000 in
set_option maxRecDepth 100000 in
theorem k_X8_bright (l : Launch) (D : va_G) (cI cJ cZ : ClassId) (aA : Nat) (pA : Nat → Int32) (x1 : Int32) (x2 : Int64) (o : Int64) (h : fX8_bright pA x1 x2 = some o) : Met l yX8_bright wsX8_bright rmX8_bright (sh_Pr D (sh_ty cI cJ cZ) [(aA, .inl (cI, 39, .inl pA))] [.ref aA, .int x1, .long x2]) (vp_Sl (fun z => z = o)) 0 0 (fun _ => False) := by
  refine Met.ofW (cc := cX8_bright) (maxL := 7) (ret := (some .long)) (by decide) rfl ?_
  intro p e s m args below meth c s₁ hB hml hv
  obtain ⟨hargs, hP, hK⟩ := hv
  have hx := hB.exec
  have hb := hB.bytes
  have hr := hB.returns
  have hts := atoms_spec (ws := wsX8_bright) hB.pre
  have hown : s.vm.findClass RX8 = some m.cls := findClass_of_methodNamed hB.named
  have hlocks := hB.notSynchronized
  have hfix : CallFix p m c cX8_bright 7 s args wsX8_bright RX8 := ⟨hx, hb, hml, hown, hts⟩
  rw [show entryFrame m args 7 = entryFrame m ([.ref aA, .int x1, .long x2] : List Value).toArray 7 by rw [hargs], lg_entry_eq]
  have hl := lv_entry ([.ref aA, .int x1, .long x2]) (n := 7) (Nat.le_of_ble_eq_true rfl)
  generalize (lg_sl ([.ref aA, .int x1, .long x2]) ++ List.replicate (7 - (lg_sl ([.ref aA, .int x1, .long x2])).length) Slot.unset).toArray = ls at hl ⊢
  have hl : lv_has ls 7 [(0, .ref aA), (1, .int x1), (2, .long x2)] := hl
  generalize hQ : MQ below (vp_Sl (fun z => z = o)) args s 0 0 (fun _ => False) = Q
  unfold fX8_bright at h
  refine lv_lconst (v := 0) hx hb dX8_bright_0 (by decide) ?_
  refine lv_lstore (lv' := [(4, .long 0), (0, .ref aA), (1, .int x1), (2, .long x2)]) hx hb dX8_bright_1 hl (by decide) rfl (fun ls hl => ?_)
  refine lv_iconst (v := 0) hx hb dX8_bright_3 (by decide) ?_
  refine lv_istore (lv' := [(6, .int 0), (4, .long 0), (0, .ref aA), (1, .int x1), (2, .long x2)]) hx hb dX8_bright_4 hl (by decide) rfl (fun ls hl => ?_)
  have LP9 : ∀ (n : Nat) (x1 : Int32) (x2 : Int64) (x4 : Int64) (x6 : Int32) (ow4 : Int64) (ls : Array Slot), fX8_bright_L6 n x1 x2 x4 x6 pA = some ow4 → lv_has ls 7 [(0, .ref aA), (1, .int x1), (2, .long x2), (4, .long x4), (6, .int x6)] → (∀ (ls : Array Slot), lv_has ls 7 [(4, .long ow4)] → W p l e (headSpec wsX8_bright rmX8_bright).room s m args below meth c s.heap [] 0 0 Q (F0 m 53 ls [])) → W p l e (headSpec wsX8_bright rmX8_bright).room s m args below meth c s.heap [] 0 0 Q (F0 m 6 ls []) := by
    intro n
    induction n with
    | zero =>
      intro x1 x2 x4 x6 ow4 ls h hl hk
      exact nomatch ((fX8_bright_L6_z x1 x2 x4 x6 pA).symm.trans h)
    | succ n ih =>
      intro x1 x2 x4 x6 ow4 ls h hl hk
      rw [fX8_bright_L6_s] at h
      refine lv_iload hx hb dX8_bright_6 (lv_at hl 4 rfl) ?_
      refine lv_aload_n hx hb dX8_bright_8 rfl (lv_at hl 0 rfl) ?_
      obtain ⟨v1, hc2, h⟩ := sh_b1_e h
      refine sh_cSi (As := [.ref aA]) (rest := [.int x6]) hfix (k_X8_dotsOf l D cI cJ cZ aA pA v1 hc2) (va_cwS 1 hts gX8_bright_X8_dotsOf rfl rfl rfl hdS_X8_dotsOf ⟨Nat.le_of_ble_eq_true rfl, Nat.le_of_ble_eq_true rfl⟩) hP hK [0] rfl rfl hl.1 rfl (Nat.le_of_ble_eq_true rfl) dX8_bright_9 ⟨Nat.zero_le _, Nat.zero_le _⟩ ?_
      refine lv_icmp_ge (tgt := 53) hx hb dX8_bright_12 (by decide) (fun g3 => ?_) (fun g3 => ?_)
      · rw [if_pos g3] at h
        cases h
        exact hk ls (lv_sub hl [3] rfl) 
      · rw [if_neg g3] at h
        refine lv_lload hx hb dX8_bright_15 (lv_at hl 3 rfl) ?_
        refine lv_lload_n hx hb dX8_bright_17 rfl (lv_at hl 2 rfl) ?_
        refine lv_iload hx hb dX8_bright_18 (lv_at hl 4 rfl) ?_
        obtain ⟨v4, hc5, h⟩ := sh_b1_e h
        refine sh_cSi (As := [.long x2, .int x6]) (rest := [.long x4]) hfix (k_X8_has l D cI cJ cZ x2 x6 v4 hc5) (va_cwS 2 hts gX8_bright_X8_has rfl rfl rfl hdS_X8_has ⟨Nat.le_of_ble_eq_true rfl, Nat.le_of_ble_eq_true rfl⟩) hP hK [] rfl rfl hl.1 rfl (Nat.le_of_ble_eq_true rfl) dX8_bright_20 ⟨Nat.zero_le _, Nat.zero_le _⟩ ?_
        refine lv_if_eq (tgt := 43) hx hb dX8_bright_23 (by decide) (fun g6 => ?_) (fun g6 => ?_)
        · rw [if_pos g6] at h
          refine lv_lconst (v := 0) hx hb dX8_bright_43 (by decide) ?_
          refine lv_lor hx hb dX8_bright_44 ?_
          refine lv_lstore (lv' := [(4, .long (x4 ||| 0)), (0, .ref aA), (1, .int x1), (2, .long x2), (6, .int x6)]) hx hb dX8_bright_45 hl (by decide) rfl (fun ls hl => ?_)
          refine lv_iinc (v := (x6 + 1)) (lv' := [(6, .int (x6 + 1)), (4, .long (x4 ||| 0)), (0, .ref aA), (1, .int x1), (2, .long x2)]) hx hb dX8_bright_47 hl (k := 4) rfl rfl (by decide) rfl (fun ls hl => ?_)
          refine lv_goto (tgt := 6) hx hb dX8_bright_50 (by decide) ?_
          exact ih x1 x2 (x4 ||| 0) (x6 + 1) ow4 ls h (lv_sub hl [2, 3, 4, 1, 0] rfl)  hk
        · rw [if_neg g6] at h
          refine lv_aload_n hx hb dX8_bright_26 rfl (lv_at hl 0 rfl) ?_
          refine lv_iconst (v := 3) hx hb dX8_bright_27 (by decide) ?_
          refine lv_iload hx hb dX8_bright_28 (lv_at hl 4 rfl) ?_
          refine lv_iadd hx hb dX8_bright_30 ?_
          obtain ⟨v7, hcv7, h⟩ := sh_b1_e h
          refine sh_iald hx hb hK hP 0 0 rfl rfl (sh_ald_e hcv7) dX8_bright_31 ?_
          refine lv_iload_n hx hb dX8_bright_32 rfl (lv_at hl 1 rfl) ?_
          refine lv_icmp_lt (tgt := 43) hx hb dX8_bright_33 (by decide) (fun g8 => ?_) (fun g8 => ?_)
          · rw [if_pos g8] at h
            refine lv_lconst (v := 0) hx hb dX8_bright_43 (by decide) ?_
            refine lv_lor hx hb dX8_bright_44 ?_
            refine lv_lstore (lv' := [(4, .long (x4 ||| 0)), (0, .ref aA), (1, .int x1), (2, .long x2), (6, .int x6)]) hx hb dX8_bright_45 hl (by decide) rfl (fun ls hl => ?_)
            refine lv_iinc (v := (x6 + 1)) (lv' := [(6, .int (x6 + 1)), (4, .long (x4 ||| 0)), (0, .ref aA), (1, .int x1), (2, .long x2)]) hx hb dX8_bright_47 hl (k := 4) rfl rfl (by decide) rfl (fun ls hl => ?_)
            refine lv_goto (tgt := 6) hx hb dX8_bright_50 (by decide) ?_
            exact ih x1 x2 (x4 ||| 0) (x6 + 1) ow4 ls h (lv_sub hl [2, 3, 4, 1, 0] rfl)  hk
          · rw [if_neg g8] at h
            refine lv_lconst (v := 1) hx hb dX8_bright_36 (by decide) ?_
            refine lv_iload hx hb dX8_bright_37 (lv_at hl 4 rfl) ?_
            refine lv_lshl (v := (sh_lsl 1 x6)) hx hb dX8_bright_39 rfl ?_
            refine lv_goto (tgt := 44) hx hb dX8_bright_40 (by decide) ?_
            refine lv_lor hx hb dX8_bright_44 ?_
            refine lv_lstore (lv' := [(4, .long (x4 ||| (sh_lsl 1 x6))), (0, .ref aA), (1, .int x1), (2, .long x2), (6, .int x6)]) hx hb dX8_bright_45 hl (by decide) rfl (fun ls hl => ?_)
            refine lv_iinc (v := (x6 + 1)) (lv' := [(6, .int (x6 + 1)), (4, .long (x4 ||| (sh_lsl 1 x6))), (0, .ref aA), (1, .int x1), (2, .long x2)]) hx hb dX8_bright_47 hl (k := 4) rfl rfl (by decide) rfl (fun ls hl => ?_)
            refine lv_goto (tgt := 6) hx hb dX8_bright_50 (by decide) ?_
            exact ih x1 x2 (x4 ||| (sh_lsl 1 x6)) (x6 + 1) ow4 ls h (lv_sub hl [2, 3, 4, 1, 0] rfl)  hk
  obtain ⟨w10, hc11, h⟩ := sh_b1_e h
  refine LP9 sh_fu x1 x2 0 0 w10 ls hc11 (lv_sub hl [2, 3, 4, 1, 0] rfl)  (fun ls hl  => ?_)
  refine lv_lload hx hb dX8_bright_53 (lv_at hl 0 rfl) ?_
  exact sh_rol hx hb hr hlocks hQ (Option.some.inj h) dX8_bright_55
theorem hdS_X8_around : yX8_around.cls ≠ "java/lang/invoke/MethodHandle" ∧ yX8_around.cls ≠ "java/lang/invoke/VarHandle" ∧ (parseMethodDescriptor yX8_around.desc).map (fun d => d.parameters.length) = some 3 := by decide +kernel
abbrev rmX8_around : Room := { frames := 1, cells := 0, slots := 0, locals := 26 }
set_option maxHeartbeats 4000000 in
set_option maxRecDepth 100000 in
theorem k_X8_around (l : Launch) (D : va_G) (cI cJ cZ : ClassId) (aA : Nat) (pA : Nat → Int32) (x1 : Int32) (x2 : Int32) (o : Int64) (h : fX8_around pA x1 x2 = some o) : Met l yX8_around wsX8_around rmX8_around (sh_Pr D (sh_ty cI cJ cZ) [(aA, .inl (cI, 39, .inl pA))] [.ref aA, .int x1, .int x2]) (vp_Sl (fun z => z = o)) 0 0 (fun _ => False) := by
  refine Met.ofW (cc := cX8_around) (maxL := 6) (ret := (some .long)) (by decide) rfl ?_
  intro p e s m args below meth c s₁ hB hml hv
  obtain ⟨hargs, hP, hK⟩ := hv
  have hx := hB.exec
  have hb := hB.bytes
  have hr := hB.returns
  have hts := atoms_spec (ws := wsX8_around) hB.pre
  have hown : s.vm.findClass RX8 = some m.cls := findClass_of_methodNamed hB.named
  have hlocks := hB.notSynchronized
  have hfix : CallFix p m c cX8_around 6 s args wsX8_around RX8 := ⟨hx, hb, hml, hown, hts⟩
  rw [show entryFrame m args 6 = entryFrame m ([.ref aA, .int x1, .int x2] : List Value).toArray 6 by rw [hargs], lg_entry_eq]
  have hl := lv_entry ([.ref aA, .int x1, .int x2]) (n := 6) (Nat.le_of_ble_eq_true rfl)
  generalize (lg_sl ([.ref aA, .int x1, .int x2]) ++ List.replicate (6 - (lg_sl ([.ref aA, .int x1, .int x2])).length) Slot.unset).toArray = ls at hl ⊢
  have hl : lv_has ls 6 [(0, .ref aA), (1, .int x1), (2, .int x2)] := hl
  generalize hQ : MQ below (vp_Sl (fun z => z = o)) args s 0 0 (fun _ => False) = Q
  unfold fX8_around at h
  refine lv_lconst (v := 0) hx hb dX8_around_0 (by decide) ?_
  refine lv_lstore_n (lv' := [(3, .long 0), (0, .ref aA), (1, .int x1), (2, .int x2)]) hx hb dX8_around_1 rfl hl (by decide) rfl (fun ls hl => ?_)
  refine lv_iconst (v := 0) hx hb dX8_around_2 (by decide) ?_
  refine lv_istore (lv' := [(5, .int 0), (3, .long 0), (0, .ref aA), (1, .int x1), (2, .int x2)]) hx hb dX8_around_3 hl (by decide) rfl (fun ls hl => ?_)
  have LP7 : ∀ (n : Nat) (x1 : Int32) (x2 : Int32) (x3 : Int64) (x5 : Int32) (ow3 : Int64) (ls : Array Slot), fX8_around_L5 n x1 x2 x3 x5 pA = some ow3 → lv_has ls 6 [(0, .ref aA), (1, .int x1), (2, .int x2), (3, .long x3), (5, .int x5)] → (∀ (ls : Array Slot), lv_has ls 6 [(3, .long ow3)] → W p l e (headSpec wsX8_around rmX8_around).room s m args below meth c s.heap [] 0 0 Q (F0 m 42 ls [])) → W p l e (headSpec wsX8_around rmX8_around).room s m args below meth c s.heap [] 0 0 Q (F0 m 5 ls []) := by
    intro n
    induction n with
    | zero =>
      intro x1 x2 x3 x5 ow3 ls h hl hk
      exact nomatch ((fX8_around_L5_z x1 x2 x3 x5 pA).symm.trans h)
    | succ n ih =>
      intro x1 x2 x3 x5 ow3 ls h hl hk
      rw [fX8_around_L5_s] at h
      refine lv_iload hx hb dX8_around_5 (lv_at hl 4 rfl) ?_
      refine lv_aload_n hx hb dX8_around_7 rfl (lv_at hl 0 rfl) ?_
      obtain ⟨v1, hc2, h⟩ := sh_b1_e h
      refine sh_cSi (As := [.ref aA]) (rest := [.int x5]) hfix (k_X8_dotsOf l D cI cJ cZ aA pA v1 hc2) (va_cwS 1 hts gX8_around_X8_dotsOf rfl rfl rfl hdS_X8_dotsOf ⟨Nat.le_of_ble_eq_true rfl, Nat.le_of_ble_eq_true rfl⟩) hP hK [0] rfl rfl hl.1 rfl (Nat.le_of_ble_eq_true rfl) dX8_around_8 ⟨Nat.zero_le _, Nat.zero_le _⟩ ?_
      refine lv_icmp_ge (tgt := 42) hx hb dX8_around_11 (by decide) (fun g3 => ?_) (fun g3 => ?_)
      · rw [if_pos g3] at h
        cases h
        exact hk ls (lv_sub hl [3] rfl) 
      · rw [if_neg g3] at h
        refine lv_lload_n hx hb dX8_around_14 rfl (lv_at hl 3 rfl) ?_
        refine lv_aload_n hx hb dX8_around_15 rfl (lv_at hl 0 rfl) ?_
        refine lv_iload_n hx hb dX8_around_16 rfl (lv_at hl 1 rfl) ?_
        refine lv_iload hx hb dX8_around_17 (lv_at hl 4 rfl) ?_
        refine lv_iload_n hx hb dX8_around_19 rfl (lv_at hl 2 rfl) ?_
        obtain ⟨v4, hc5, h⟩ := sh_b1_e h
        refine sh_cSi (As := [.ref aA, .int x1, .int x5, .int x2]) (rest := [.long x3]) hfix (k_X8_isBeside l D cI cJ cZ aA pA x1 x5 x2 v4 hc5) (va_cwS 4 hts gX8_around_X8_isBeside rfl rfl rfl hdS_X8_isBeside ⟨Nat.le_of_ble_eq_true rfl, Nat.le_of_ble_eq_true rfl⟩) hP hK [0] rfl rfl hl.1 rfl (Nat.le_of_ble_eq_true rfl) dX8_around_20 ⟨Nat.zero_le _, Nat.zero_le _⟩ ?_
        refine lv_if_eq (tgt := 33) hx hb dX8_around_23 (by decide) (fun g6 => ?_) (fun g6 => ?_)
        · rw [if_pos g6] at h
          refine lv_lconst (v := 0) hx hb dX8_around_33 (by decide) ?_
          refine lv_lor hx hb dX8_around_34 ?_
          refine lv_lstore_n (lv' := [(3, .long (x3 ||| 0)), (0, .ref aA), (1, .int x1), (2, .int x2), (5, .int x5)]) hx hb dX8_around_35 rfl hl (by decide) rfl (fun ls hl => ?_)
          refine lv_iinc (v := (x5 + 1)) (lv' := [(5, .int (x5 + 1)), (3, .long (x3 ||| 0)), (0, .ref aA), (1, .int x1), (2, .int x2)]) hx hb dX8_around_36 hl (k := 4) rfl rfl (by decide) rfl (fun ls hl => ?_)
          refine lv_goto (tgt := 5) hx hb dX8_around_39 (by decide) ?_
          exact ih x1 x2 (x3 ||| 0) (x5 + 1) ow3 ls h (lv_sub hl [2, 3, 4, 1, 0] rfl)  hk
        · rw [if_neg g6] at h
          refine lv_lconst (v := 1) hx hb dX8_around_26 (by decide) ?_
          refine lv_iload hx hb dX8_around_27 (lv_at hl 4 rfl) ?_
          refine lv_lshl (v := (sh_lsl 1 x5)) hx hb dX8_around_29 rfl ?_
          refine lv_goto (tgt := 34) hx hb dX8_around_30 (by decide) ?_
          refine lv_lor hx hb dX8_around_34 ?_
          refine lv_lstore_n (lv' := [(3, .long (x3 ||| (sh_lsl 1 x5))), (0, .ref aA), (1, .int x1), (2, .int x2), (5, .int x5)]) hx hb dX8_around_35 rfl hl (by decide) rfl (fun ls hl => ?_)
          refine lv_iinc (v := (x5 + 1)) (lv' := [(5, .int (x5 + 1)), (3, .long (x3 ||| (sh_lsl 1 x5))), (0, .ref aA), (1, .int x1), (2, .int x2)]) hx hb dX8_around_36 hl (k := 4) rfl rfl (by decide) rfl (fun ls hl => ?_)
          refine lv_goto (tgt := 5) hx hb dX8_around_39 (by decide) ?_
          exact ih x1 x2 (x3 ||| (sh_lsl 1 x5)) (x5 + 1) ow3 ls h (lv_sub hl [2, 3, 4, 1, 0] rfl)  hk
  obtain ⟨w8, hc9, h⟩ := sh_b1_e h
  refine LP7 sh_fu x1 x2 0 0 w8 ls hc9 (lv_sub hl [2, 3, 4, 1, 0] rfl)  (fun ls hl  => ?_)
  refine lv_lload_n hx hb dX8_around_42 rfl (lv_at hl 0 rfl) ?_
  exact sh_rol hx hb hr hlocks hQ (Option.some.inj h) dX8_around_43
