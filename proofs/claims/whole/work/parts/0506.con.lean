theorem hdV_X7_pass : yX7_pass.cls = RX7 ∧ yX7_pass.cls ≠ "java/lang/invoke/MethodHandle" ∧ yX7_pass.cls ≠ "java/lang/invoke/VarHandle" ∧ (parseMethodDescriptor yX7_pass.desc).map (fun d => d.parameters.length) = some 2 := by decide +kernel
abbrev rmX7_pass : Room := { frames := 3, cells := 0, slots := 0, locals := 82 }
set_option maxHeartbeats 4000000 in
set_option maxRecDepth 100000 in
theorem k_X7_pass (l : Launch) (D : va_G) (cI cJ cZ : ClassId) (q : Nat → Nat) (I : Nat → Int32) (J : Nat → Int64) (A : Nat → Nat → Int32) (B : Nat → Nat → Int64) (x1 : Int32) (x2 : Int32) (o : Int32) (h : fX7_pass I J A B x1 x2 = some o) : Met l yX7_pass wsX7_pass rmX7_pass (sh_Pr D (sh_ty cI cJ cZ) (sh_w7 q cI cJ cZ I J A B) [.ref (q 0), .int x1, .int x2]) (vp_Si (fun z => z = o)) 0 0 (fun _ => False) := by
  refine Met.ofW (cc := cX7_pass) (maxL := 4) (ret := (some .int)) (by decide) rfl ?_
  intro p e s m args below meth c s₁ hB hml hv
  obtain ⟨hargs, hP, hK⟩ := hv
  have hx := hB.exec
  have hb := hB.bytes
  have hr := hB.returns
  have hts := atoms_spec (ws := wsX7_pass) hB.pre
  have hown : s.vm.findClass RX7 = some m.cls := findClass_of_methodNamed hB.named
  have hlocks := hB.notSynchronized
  have hfix : CallFix p m c cX7_pass 4 s args wsX7_pass RX7 := ⟨hx, hb, hml, hown, hts⟩
  have hinX7 : ∀ w ∈ wsX70, w ∈ wsX7_pass := by decide +kernel
  have lk1 := hts (.fieldLink RX7 19 "ShadeTree" "grid" "LShadeTree$Grid;") (by decide +kernel)
  have lk2 := hts (.fieldLink RX7 28 "ShadeTree" "now" "LShadeTree$Shades;") (by decide +kernel)
  rw [show entryFrame m args 4 = entryFrame m ([.ref (q 0), .int x1, .int x2] : List Value).toArray 4 by rw [hargs], lg_entry_eq]
  have hl := lv_entry ([.ref (q 0), .int x1, .int x2]) (n := 4) (Nat.le_of_ble_eq_true rfl)
  generalize (lg_sl ([.ref (q 0), .int x1, .int x2]) ++ List.replicate (4 - (lg_sl ([.ref (q 0), .int x1, .int x2])).length) Slot.unset).toArray = ls at hl ⊢
  have hl : lv_has ls 4 [(0, .ref (q 0)), (1, .int x1), (2, .int x2)] := hl
  generalize hQ : MQ below (vp_Si (fun z => z = o)) args s 0 0 (fun _ => False) = Q
  unfold fX7_pass at h
  refine lv_aload_n hx hb dX7_pass_0 rfl (lv_at hl 0 rfl) ?_
  refine va_get (ci := 7) (v := .ref (q 3)) (C := RX7) (T := TX7) (N := 10) hx hb hts hinX7 hown hK hP 0 rfl rfl 1 (by decide) lk1 (fun _ h9 => h9) rfl dX7_pass_1 ?_
  refine lv_iload_n hx hb dX7_pass_4 rfl (lv_at hl 1 rfl) ?_
  obtain ⟨v1, hc2, h⟩ := sh_b1_e h
  refine sh_cVi (As := [.int x1]) (rest := []) hfix (k_X1_hasDot l D cI cJ cZ (q 3) (I 1) (I 2) (I 3) (J 0) (J 1) (J 2) x1 v1 hc2) (cwV 1 hts gX7_pass_X1_hasDot rfl rfl rfl hdV_X1_hasDot ⟨Nat.le_of_ble_eq_true rfl, Nat.le_of_ble_eq_true rfl⟩) hP hK [3] rfl 3 rfl rfl rfl hl.1 rfl (Nat.le_of_ble_eq_true rfl) dX7_pass_5 ⟨Nat.zero_le _, Nat.zero_le _⟩ ?_
  refine lv_if_eq (tgt := 22) hx hb dX7_pass_8 (by decide) (fun g3 => ?_) (fun g3 => ?_)
  · rw [if_pos g3] at h
    refine lv_iconst (v := -1) hx hb dX7_pass_22 (by decide) ?_
    exact sh_roi hx hb hr hlocks hQ (Option.some.inj h) dX7_pass_23
  · rw [if_neg g3] at h
    refine lv_aload_n hx hb dX7_pass_11 rfl (lv_at hl 0 rfl) ?_
    refine va_get (ci := 7) (v := .ref (q 3)) (C := RX7) (T := TX7) (N := 10) hx hb hts hinX7 hown hK hP 0 rfl rfl 1 (by decide) lk1 (fun _ h9 => h9) rfl dX7_pass_12 ?_
    refine lv_iload_n hx hb dX7_pass_15 rfl (lv_at hl 2 rfl) ?_
    obtain ⟨v4, hc5, h⟩ := sh_b1_e h
    refine sh_cVi (As := [.int x2]) (rest := []) hfix (k_X1_hasDot l D cI cJ cZ (q 3) (I 1) (I 2) (I 3) (J 0) (J 1) (J 2) x2 v4 hc5) (cwV 1 hts gX7_pass_X1_hasDot rfl rfl rfl hdV_X1_hasDot ⟨Nat.le_of_ble_eq_true rfl, Nat.le_of_ble_eq_true rfl⟩) hP hK [3] rfl 3 rfl rfl rfl hl.1 rfl (Nat.le_of_ble_eq_true rfl) dX7_pass_16 ⟨Nat.zero_le _, Nat.zero_le _⟩ ?_
    refine lv_if_ne (tgt := 24) hx hb dX7_pass_19 (by decide) (fun g6 => ?_) (fun g6 => ?_)
    · rw [if_neg g6] at h
      refine lv_bipush (v := 9) hx hb dX7_pass_24 (by decide) ?_
      refine lv_istore_n (lv' := [(3, .int 9), (0, .ref (q 0)), (1, .int x1), (2, .int x2)]) hx hb dX7_pass_26 rfl hl (by decide) rfl (fun ls hl => ?_)
      have LP15 : ∀ (n : Nat) (x1 : Int32) (x2 : Int32) (x3 : Int32) (z : (Int32) ⊕ (Unit)) (ls : Array Slot), fX7_pass_L27 n x1 x2 x3 I J A B = some z → lv_has ls 4 [(0, .ref (q 0)), (1, .int x1), (2, .int x2), (3, .int x3)] → (∀ x, z = .inl x → x = o) → (∀ (t : Unit), z = .inr t → ∀ (ls : Array Slot), lv_has ls 4 [] → W p l e (headSpec wsX7_pass rmX7_pass).room s m args below meth c s.heap [] 0 0 Q (F0 m 66 ls [])) → W p l e (headSpec wsX7_pass rmX7_pass).room s m args below meth c s.heap [] 0 0 Q (F0 m 27 ls []) := by
        intro n
        induction n with
        | zero =>
          intro x1 x2 x3 z ls h hl hret hk
          exact nomatch ((fX7_pass_L27_z x1 x2 x3 I J A B).symm.trans h)
        | succ n ih =>
          intro x1 x2 x3 z ls h hl hret hk
          rw [fX7_pass_L27_s] at h
          refine lv_iload_n hx hb dX7_pass_27 rfl (lv_at hl 3 rfl) ?_
          refine lv_if_le (tgt := 66) hx hb dX7_pass_28 (by decide) (fun g7 => ?_) (fun g7 => ?_)
          · rw [if_pos g7] at h
            exact hk () (Option.some.inj h).symm ls (lv_sub hl [] rfl) 
          · rw [if_neg g7] at h
            refine lv_aload_n hx hb dX7_pass_31 rfl (lv_at hl 0 rfl) ?_
            refine va_get (ci := 7) (v := .ref (q 3)) (C := RX7) (T := TX7) (N := 10) hx hb hts hinX7 hown hK hP 0 rfl rfl 1 (by decide) lk1 (fun _ h9 => h9) rfl dX7_pass_32 ?_
            refine lv_aload_n hx hb dX7_pass_35 rfl (lv_at hl 0 rfl) ?_
            refine va_get (ci := 7) (v := .ref (q 4)) (C := RX7) (T := TX7) (N := 10) hx hb hts hinX7 hown hK hP 0 rfl rfl 2 (by decide) lk2 (fun _ h9 => h9) rfl dX7_pass_36 ?_
            refine lv_iload_n hx hb dX7_pass_39 rfl (lv_at hl 3 rfl) ?_
            obtain ⟨v8, hc9, h⟩ := sh_b1_e h
            refine sh_cVl (As := [.int x3]) (rest := [.ref (q 3)]) hfix (k_X2_atLeast l D cI cJ cZ (q 3) (q 4) (q 5) (I 1) (I 2) (I 3) (J 0) (J 1) (J 2) (B 0) x3 v8 hc9) (cwV 1 hts gX7_pass_X2_atLeast rfl rfl rfl hdV_X2_atLeast ⟨Nat.le_of_ble_eq_true rfl, Nat.le_of_ble_eq_true rfl⟩) hP hK [4, 5, 3] rfl 4 rfl rfl rfl hl.1 rfl (Nat.le_of_ble_eq_true rfl) dX7_pass_40 ⟨Nat.zero_le _, Nat.zero_le _⟩ ?_
            refine lv_iload_n hx hb dX7_pass_43 rfl (lv_at hl 1 rfl) ?_
            refine lv_iload_n hx hb dX7_pass_44 rfl (lv_at hl 2 rfl) ?_
            refine lv_aload_n hx hb dX7_pass_45 rfl (lv_at hl 0 rfl) ?_
            refine va_get (ci := 7) (v := .ref (q 3)) (C := RX7) (T := TX7) (N := 10) hx hb hts hinX7 hown hK hP 0 rfl rfl 1 (by decide) lk1 (fun _ h9 => h9) rfl dX7_pass_46 ?_
            obtain ⟨v10, hc11, h⟩ := sh_b1_e h
            refine sh_cVi (As := []) (rest := [.int x2, .int x1, .long v8, .ref (q 3)]) hfix (k_X1_way l D cI cJ cZ (q 3) (I 1) (I 2) (I 3) (J 0) (J 1) (J 2) v10 hc11) (cwV 0 hts gX7_pass_X1_way rfl rfl rfl hdV_X1_way ⟨Nat.le_of_ble_eq_true rfl, Nat.le_of_ble_eq_true rfl⟩) hP hK [3] rfl 3 rfl rfl rfl hl.1 rfl (Nat.le_of_ble_eq_true rfl) dX7_pass_49 ⟨Nat.zero_le _, Nat.zero_le _⟩ ?_
            obtain ⟨v12, hc13, h⟩ := sh_b1_e h
            refine sh_cVi (As := [.long v8, .int x1, .int x2, .int v10]) (rest := []) hfix (k_X1_joined l D cI cJ cZ (q 3) (I 1) (I 2) (I 3) (J 0) (J 1) (J 2) v8 x1 x2 v10 v12 hc13) (cwV 4 hts gX7_pass_X1_joined rfl rfl rfl hdV_X1_joined ⟨Nat.le_of_ble_eq_true rfl, Nat.le_of_ble_eq_true rfl⟩) hP hK [3] rfl 3 rfl rfl rfl hl.1 rfl (Nat.le_of_ble_eq_true rfl) dX7_pass_52 ⟨Nat.zero_le _, Nat.zero_le _⟩ ?_
            refine lv_if_eq (tgt := 60) hx hb dX7_pass_55 (by decide) (fun g14 => ?_) (fun g14 => ?_)
            · rw [if_pos g14] at h
              refine lv_iinc (v := (x3 + (-1))) (lv' := [(3, .int (x3 + (-1))), (0, .ref (q 0)), (1, .int x1), (2, .int x2)]) hx hb dX7_pass_60 hl (k := 3) rfl rfl (by decide) rfl (fun ls hl => ?_)
              refine lv_goto (tgt := 27) hx hb dX7_pass_63 (by decide) ?_
              exact ih x1 x2 (x3 + (-1)) z ls h (lv_sub hl [1, 2, 3, 0] rfl)  hret hk
            · rw [if_neg g14] at h
              refine lv_iload_n hx hb dX7_pass_58 rfl (lv_at hl 3 rfl) ?_
              exact sh_roi hx hb hr hlocks hQ (hret _ (Option.some.inj h).symm) dX7_pass_59
      obtain ⟨z16, hcz16, hrz16, hkz16⟩ := sh_bs_e h
      refine LP15 sh_fu x1 x2 9 z16 ls hcz16 (lv_sub hl [1, 2, 3, 0] rfl)  hrz16 (fun t17 et17 ls hl  => ?_)
      have h := hkz16 t17 et17
      refine lv_iconst (v := 0) hx hb dX7_pass_66 (by decide) ?_
      exact sh_roi hx hb hr hlocks hQ (Option.some.inj h) dX7_pass_67
    · rw [if_pos g6] at h
      refine lv_iconst (v := -1) hx hb dX7_pass_22 (by decide) ?_
      exact sh_roi hx hb hr hlocks hQ (Option.some.inj h) dX7_pass_23
theorem hdS_X7_isStep : yX7_isStep.cls ≠ "java/lang/invoke/MethodHandle" ∧ yX7_isStep.cls ≠ "java/lang/invoke/VarHandle" ∧ (parseMethodDescriptor yX7_isStep.desc).map (fun d => d.parameters.length) = some 1 := by decide +kernel
abbrev rmX7_isStep : Room := { frames := 0, cells := 0, slots := 0, locals := 0 }
set_option maxHeartbeats 4000000 in
set_option maxRecDepth 100000 in
theorem k_X7_isStep (l : Launch) (D : va_G) (cI cJ cZ : ClassId) (x0 : Int32) (o : Int32) (h : fX7_isStep x0 = some o) : Met l yX7_isStep wsX7_isStep rmX7_isStep (sh_Pr D (sh_ty cI cJ cZ) [] [.int x0]) (vp_Si (fun z => z = o)) 0 0 (fun _ => False) := by
  refine Met.ofW (cc := cX7_isStep) (maxL := 1) (ret := (some .boolean)) (by decide) rfl ?_
  intro p e s m args below meth c s₁ hB hml hv
  obtain ⟨hargs, hP, hK⟩ := hv
  have hx := hB.exec
  have hb := hB.bytes
  have hr := hB.returns
  have hts := atoms_spec (ws := wsX7_isStep) hB.pre
  have hown : s.vm.findClass RX7 = some m.cls := findClass_of_methodNamed hB.named
  have hlocks := hB.notSynchronized
  have hfix : CallFix p m c cX7_isStep 1 s args wsX7_isStep RX7 := ⟨hx, hb, hml, hown, hts⟩
  rw [show entryFrame m args 1 = entryFrame m ([.int x0] : List Value).toArray 1 by rw [hargs], lg_entry_eq]
  have hl := lv_entry ([.int x0]) (n := 1) (Nat.le_of_ble_eq_true rfl)
  generalize (lg_sl ([.int x0]) ++ List.replicate (1 - (lg_sl ([.int x0])).length) Slot.unset).toArray = ls at hl ⊢
  have hl : lv_has ls 1 [(0, .int x0)] := hl
  generalize hQ : MQ below (vp_Si (fun z => z = o)) args s 0 0 (fun _ => False) = Q
  unfold fX7_isStep at h
  refine lv_iload_n hx hb dX7_isStep_0 rfl (lv_at hl 0 rfl) ?_
  refine lv_iconst (v := 1) hx hb dX7_isStep_1 (by decide) ?_
  refine lv_icmp_lt (tgt := 15) hx hb dX7_isStep_2 (by decide) (fun g1 => ?_) (fun g1 => ?_)
  · rw [if_pos g1] at h
    refine lv_iconst (v := 0) hx hb dX7_isStep_15 (by decide) ?_
    exact sh_roz hx hb hr hlocks hQ ⟨rfl, (Option.some.inj h)⟩ dX7_isStep_16
  · rw [if_neg g1] at h
    refine lv_iload_n hx hb dX7_isStep_5 rfl (lv_at hl 0 rfl) ?_
    refine lv_bipush (v := 9) hx hb dX7_isStep_6 (by decide) ?_
    refine lv_icmp_gt (tgt := 15) hx hb dX7_isStep_8 (by decide) (fun g2 => ?_) (fun g2 => ?_)
    · rw [if_pos g2] at h
      refine lv_iconst (v := 0) hx hb dX7_isStep_15 (by decide) ?_
      exact sh_roz hx hb hr hlocks hQ ⟨rfl, (Option.some.inj h)⟩ dX7_isStep_16
    · rw [if_neg g2] at h
      refine lv_iconst (v := 1) hx hb dX7_isStep_11 (by decide) ?_
      refine lv_goto (tgt := 16) hx hb dX7_isStep_12 (by decide) ?_
      exact sh_roz hx hb hr hlocks hQ ⟨rfl, (Option.some.inj h)⟩ dX7_isStep_16
theorem hdS_X7_commonDivisor : yX7_commonDivisor.cls ≠ "java/lang/invoke/MethodHandle" ∧ yX7_commonDivisor.cls ≠ "java/lang/invoke/VarHandle" ∧ (parseMethodDescriptor yX7_commonDivisor.desc).map (fun d => d.parameters.length) = some 2 := by decide +kernel
abbrev rmX7_commonDivisor : Room := { frames := 0, cells := 0, slots := 0, locals := 0 }
set_option maxHeartbeats 4000000 in
set_option maxRecDepth 100000 in
theorem k_X7_commonDivisor (l : Launch) (D : va_G) (cI cJ cZ : ClassId) (x0 : Int32) (x1 : Int32) (o : Int32) (h : fX7_commonDivisor x0 x1 = some o) : Met l yX7_commonDivisor wsX7_commonDivisor rmX7_commonDivisor (sh_Pr D (sh_ty cI cJ cZ) [] [.int x0, .int x1]) (vp_Si (fun z => z = o)) 0 0 (fun _ => False) := by
  refine Met.ofW (cc := cX7_commonDivisor) (maxL := 6) (ret := (some .int)) (by decide) rfl ?_
  intro p e s m args below meth c s₁ hB hml hv
  obtain ⟨hargs, hP, hK⟩ := hv
  have hx := hB.exec
  have hb := hB.bytes
  have hr := hB.returns
  have hts := atoms_spec (ws := wsX7_commonDivisor) hB.pre
  have hown : s.vm.findClass RX7 = some m.cls := findClass_of_methodNamed hB.named
  have hlocks := hB.notSynchronized
  have hfix : CallFix p m c cX7_commonDivisor 6 s args wsX7_commonDivisor RX7 := ⟨hx, hb, hml, hown, hts⟩
  rw [show entryFrame m args 6 = entryFrame m ([.int x0, .int x1] : List Value).toArray 6 by rw [hargs], lg_entry_eq]
  have hl := lv_entry ([.int x0, .int x1]) (n := 6) (Nat.le_of_ble_eq_true rfl)
  generalize (lg_sl ([.int x0, .int x1]) ++ List.replicate (6 - (lg_sl ([.int x0, .int x1])).length) Slot.unset).toArray = ls at hl ⊢
  have hl : lv_has ls 6 [(0, .int x0), (1, .int x1)] := hl
  generalize hQ : MQ below (vp_Si (fun z => z = o)) args s 0 0 (fun _ => False) = Q
  unfold fX7_commonDivisor at h
  refine lv_iload_n hx hb dX7_commonDivisor_0 rfl (lv_at hl 0 rfl) ?_
  refine lv_istore_n (lv' := [(2, .int x0), (0, .int x0), (1, .int x1)]) hx hb dX7_commonDivisor_1 rfl hl (by decide) rfl (fun ls hl => ?_)
  refine lv_iload_n hx hb dX7_commonDivisor_2 rfl (lv_at hl 2 rfl) ?_
  refine lv_istore_n (lv' := [(3, .int x1), (2, .int x0), (0, .int x0), (1, .int x1)]) hx hb dX7_commonDivisor_3 rfl hl (by decide) rfl (fun ls hl => ?_)
  refine lv_iconst (v := 0) hx hb dX7_commonDivisor_4 (by decide) ?_
  refine lv_istore (lv' := [(4, .int 0), (3, .int x1), (2, .int x0), (0, .int x0), (1, .int x1)]) hx hb dX7_commonDivisor_5 hl (by decide) rfl (fun ls hl => ?_)
  have LP4 : ∀ (n : Nat) (x2 : Int32) (x3 : Int32) (x4 : Int32) (ow2 : Int32) (ls : Array Slot), fX7_commonDivisor_L7 n x2 x3 x4 = some ow2 → lv_has ls 6 [(2, .int x2), (3, .int x3), (4, .int x4)] → (∀ (ls : Array Slot), lv_has ls 6 [(2, .int ow2)] → W p l e (headSpec wsX7_commonDivisor rmX7_commonDivisor).room s m args below meth c s.heap [] 0 0 Q (F0 m 34 ls [])) → W p l e (headSpec wsX7_commonDivisor rmX7_commonDivisor).room s m args below meth c s.heap [] 0 0 Q (F0 m 7 ls []) := by
    intro n
    induction n with
    | zero =>
      intro x2 x3 x4 ow2 ls h hl hk
      exact nomatch ((fX7_commonDivisor_L7_z x2 x3 x4).symm.trans h)
    | succ n ih =>
      intro x2 x3 x4 ow2 ls h hl hk
      rw [fX7_commonDivisor_L7_s] at h
      refine lv_iload hx hb dX7_commonDivisor_7 (lv_at hl 2 rfl) ?_
      refine lv_bipush (v := 64) hx hb dX7_commonDivisor_9 (by decide) ?_
      refine lv_icmp_ge (tgt := 34) hx hb dX7_commonDivisor_11 (by decide) (fun g1 => ?_) (fun g1 => ?_)
      · rw [if_pos g1] at h
        cases h
        exact hk ls (lv_sub hl [0] rfl) 
      · rw [if_neg g1] at h
        refine lv_iload_n hx hb dX7_commonDivisor_14 rfl (lv_at hl 1 rfl) ?_
        refine lv_if_eq (tgt := 34) hx hb dX7_commonDivisor_15 (by decide) (fun g2 => ?_) (fun g2 => ?_)
        · rw [if_pos g2] at h
          cases h
          exact hk ls (lv_sub hl [0] rfl) 
        · rw [if_neg g2] at h
          refine lv_iload_n hx hb dX7_commonDivisor_18 rfl (lv_at hl 0 rfl) ?_
          refine lv_iload_n hx hb dX7_commonDivisor_19 rfl (lv_at hl 1 rfl) ?_
          obtain ⟨v3, hcv3, h⟩ := sh_b1_e h
          refine sh_irem hx hb (sh_rem_e hcv3) dX7_commonDivisor_20 ?_
          refine lv_istore (lv' := [(5, .int v3), (2, .int x2), (3, .int x3), (4, .int x4)]) hx hb dX7_commonDivisor_21 hl (by decide) rfl (fun ls hl => ?_)
          refine lv_iload_n hx hb dX7_commonDivisor_23 rfl (lv_at hl 2 rfl) ?_
          refine lv_istore_n (lv' := [(2, .int x3), (5, .int v3), (3, .int x3), (4, .int x4)]) hx hb dX7_commonDivisor_24 rfl hl (by decide) rfl (fun ls hl => ?_)
          refine lv_iload hx hb dX7_commonDivisor_25 (lv_at hl 1 rfl) ?_
          refine lv_istore_n (lv' := [(3, .int v3), (2, .int x3), (5, .int v3), (4, .int x4)]) hx hb dX7_commonDivisor_27 rfl hl (by decide) rfl (fun ls hl => ?_)
          refine lv_iinc (v := (x4 + 1)) (lv' := [(4, .int (x4 + 1)), (3, .int v3), (2, .int x3), (5, .int v3)]) hx hb dX7_commonDivisor_28 hl (k := 3) rfl rfl (by decide) rfl (fun ls hl => ?_)
          refine lv_goto (tgt := 7) hx hb dX7_commonDivisor_31 (by decide) ?_
          exact ih x3 v3 (x4 + 1) ow2 ls h (lv_sub hl [2, 1, 0] rfl)  hk
  obtain ⟨w5, hc6, h⟩ := sh_b1_e h
  refine LP4 sh_fu x0 x1 0 w5 ls hc6 (lv_sub hl [2, 1, 0] rfl)  (fun ls hl  => ?_)
  refine lv_iload_n hx hb dX7_commonDivisor_34 rfl (lv_at hl 0 rfl) ?_
  exact sh_roi hx hb hr hlocks hQ (Option.some.inj h) dX7_commonDivisor_35
theorem hdS_X7_fraction : yX7_fraction.cls ≠ "java/lang/invoke/MethodHandle" ∧ yX7_fraction.cls ≠ "java/lang/invoke/VarHandle" ∧ (parseMethodDescriptor yX7_fraction.desc).map (fun d => d.parameters.length) = some 3 := by decide +kernel
abbrev rmX7_fraction : Room := { frames := 1, cells := 0, slots := 0, locals := 25 }
set_option maxHeartbeats 4000000 in
set_option maxRecDepth 100000 in
theorem k_X7_fraction (l : Launch) (D : va_G) (cI cJ cZ : ClassId) (x0 : Int32) (x1 : Int32) (x2 : Int32) (o : Int32) (h : fX7_fraction x0 x1 x2 = some o) : Met l yX7_fraction wsX7_fraction rmX7_fraction (sh_Pr D (sh_ty cI cJ cZ) [] [.int x0, .int x1, .int x2]) (vp_Si (fun z => z = o)) 0 0 (fun _ => False) := by
  refine Met.ofW (cc := cX7_fraction) (maxL := 4) (ret := (some .int)) (by decide) rfl ?_
  intro p e s m args below meth c s₁ hB hml hv
  obtain ⟨hargs, hP, hK⟩ := hv
  have hx := hB.exec
  have hb := hB.bytes
  have hr := hB.returns
  have hts := atoms_spec (ws := wsX7_fraction) hB.pre
  have hown : s.vm.findClass RX7 = some m.cls := findClass_of_methodNamed hB.named
  have hlocks := hB.notSynchronized
  have hfix : CallFix p m c cX7_fraction 4 s args wsX7_fraction RX7 := ⟨hx, hb, hml, hown, hts⟩
  have lk1 := hts (.methodLink RX7 302 Lib.Math.abs.name) (by decide +kernel)
  have lk2 := hts (.static Lib.Math.abs.name) (by decide +kernel)
  have lk3 := hts (.initialized "java/lang/Math") (by decide +kernel)
  have lk4 := hts (.code Lib.Math.abs.name Lib.Math.abs.code 1 (some .int)) (by decide +kernel)
  rw [show entryFrame m args 4 = entryFrame m ([.int x0, .int x1, .int x2] : List Value).toArray 4 by rw [hargs], lg_entry_eq]
  have hl := lv_entry ([.int x0, .int x1, .int x2]) (n := 4) (Nat.le_of_ble_eq_true rfl)
  generalize (lg_sl ([.int x0, .int x1, .int x2]) ++ List.replicate (4 - (lg_sl ([.int x0, .int x1, .int x2])).length) Slot.unset).toArray = ls at hl ⊢
  have hl : lv_has ls 4 [(0, .int x0), (1, .int x1), (2, .int x2)] := hl
  generalize hQ : MQ below (vp_Si (fun z => z = o)) args s 0 0 (fun _ => False) = Q
  unfold fX7_fraction at h
  refine lv_iload_n hx hb dX7_fraction_0 rfl (lv_at hl 0 rfl) ?_
  refine va_mabs hx hb (hml.trans hl.1.symm) hown lk1 lk2 lk3 lk4 (Nat.le_of_ble_eq_true rfl) (Nat.le_of_ble_eq_true rfl) (Nat.zero_le _) (Nat.zero_le _) dX7_fraction_1 ?_
  refine W.eq (g2 := F0 m 4 ls [.int (sh_abs x0)]) rfl ?_
  refine lv_iload_n hx hb dX7_fraction_4 rfl (lv_at hl 1 rfl) ?_
  obtain ⟨v1, hc2, h⟩ := sh_b1_e h
  refine sh_cSi (As := [.int (sh_abs x0), .int x1]) (rest := []) hfix (k_X7_commonDivisor l D cI cJ cZ (sh_abs x0) x1 v1 hc2) (va_cwS 2 hts gX7_fraction_X7_commonDivisor rfl rfl rfl hdS_X7_commonDivisor ⟨Nat.le_of_ble_eq_true rfl, Nat.le_of_ble_eq_true rfl⟩) hP hK [] rfl rfl hl.1 rfl (Nat.le_of_ble_eq_true rfl) dX7_fraction_5 ⟨Nat.zero_le _, Nat.zero_le _⟩ ?_
  refine lv_istore_n (lv' := [(3, .int v1), (0, .int x0), (1, .int x1), (2, .int x2)]) hx hb dX7_fraction_8 rfl hl (by decide) rfl (fun ls hl => ?_)
  refine lv_iload_n hx hb dX7_fraction_9 rfl (lv_at hl 0 rfl) ?_
  refine lv_if_ne (tgt := 15) hx hb dX7_fraction_10 (by decide) (fun g3 => ?_) (fun g3 => ?_)
  · rw [if_neg g3] at h
    refine lv_iload_n hx hb dX7_fraction_15 rfl (lv_at hl 3 rfl) ?_
    refine lv_if_eq (tgt := 23) hx hb dX7_fraction_16 (by decide) (fun g4 => ?_) (fun g4 => ?_)
    · rw [if_pos g4] at h
      refine lv_iload_n hx hb dX7_fraction_23 rfl (lv_at hl 2 rfl) ?_
      refine lv_iload_n hx hb dX7_fraction_24 rfl (lv_at hl 0 rfl) ?_
      obtain ⟨v5, hcv5, h⟩ := sh_b1_e h
      refine sh_idiv hx hb (sh_div_e hcv5) dX7_fraction_25 ?_
      exact sh_roi hx hb hr hlocks hQ (Option.some.inj h) dX7_fraction_26
    · rw [if_neg g4] at h
      refine lv_iload_n hx hb dX7_fraction_19 rfl (lv_at hl 1 rfl) ?_
      refine lv_goto (tgt := 24) hx hb dX7_fraction_20 (by decide) ?_
      refine lv_iload_n hx hb dX7_fraction_24 rfl (lv_at hl 0 rfl) ?_
      obtain ⟨v6, hcv6, h⟩ := sh_b1_e h
      refine sh_idiv hx hb (sh_div_e hcv6) dX7_fraction_25 ?_
      exact sh_roi hx hb hr hlocks hQ (Option.some.inj h) dX7_fraction_26
  · rw [if_pos g3] at h
    refine lv_iconst (v := 0) hx hb dX7_fraction_13 (by decide) ?_
    exact sh_roi hx hb hr hlocks hQ (Option.some.inj h) dX7_fraction_14
theorem hdV_X7_grows : yX7_grows.cls = RX7 ∧ yX7_grows.cls ≠ "java/lang/invoke/MethodHandle" ∧ yX7_grows.cls ≠ "java/lang/invoke/VarHandle" ∧ (parseMethodDescriptor yX7_grows.desc).map (fun d => d.parameters.length) = some 3 := by decide +kernel
abbrev rmX7_grows : Room := { frames := 4, cells := 0, slots := 0, locals := 104 }
set_option maxHeartbeats 4000000 in
set_option maxRecDepth 100000 in
theorem k_X7_grows (l : Launch) (D : va_G) (cI cJ cZ : ClassId) (q : Nat → Nat) (I : Nat → Int32) (J : Nat → Int64) (A : Nat → Nat → Int32) (B : Nat → Nat → Int64) (x1 : Int32) (x2 : Int32) (x3 : Int32) (o : Int32) (h : fX7_grows I J B x1 x2 x3 = some o) : Met l yX7_grows wsX7_grows rmX7_grows (sh_Pr D (sh_ty cI cJ cZ) (sh_w7 q cI cJ cZ I J A B) [.ref (q 0), .int x1, .int x2, .int x3]) (vp_Si (fun z => z = o)) 0 0 (fun _ => False) := by
  refine Met.ofW (cc := cX7_grows) (maxL := 6) (ret := (some .int)) (by decide) rfl ?_
  intro p e s m args below meth c s₁ hB hml hv
  obtain ⟨hargs, hP, hK⟩ := hv
  have hx := hB.exec
  have hb := hB.bytes
  have hr := hB.returns
  have hts := atoms_spec (ws := wsX7_grows) hB.pre
  have hown : s.vm.findClass RX7 = some m.cls := findClass_of_methodNamed hB.named
  have hlocks := hB.notSynchronized
  have hfix : CallFix p m c cX7_grows 6 s args wsX7_grows RX7 := ⟨hx, hb, hml, hown, hts⟩
  have hinX7 : ∀ w ∈ wsX70, w ∈ wsX7_grows := by decide +kernel
  have lk1 := hts (.fieldLink RX7 19 "ShadeTree" "grid" "LShadeTree$Grid;") (by decide +kernel)
  have lk2 := hts (.fieldLink RX7 37 "ShadeTree" "tree" "LShadeTree$Tree;") (by decide +kernel)
  have lk3 := hts (.fieldLink RX7 28 "ShadeTree" "now" "LShadeTree$Shades;") (by decide +kernel)
  rw [show entryFrame m args 6 = entryFrame m ([.ref (q 0), .int x1, .int x2, .int x3] : List Value).toArray 6 by rw [hargs], lg_entry_eq]
  have hl := lv_entry ([.ref (q 0), .int x1, .int x2, .int x3]) (n := 6) (Nat.le_of_ble_eq_true rfl)
  generalize (lg_sl ([.ref (q 0), .int x1, .int x2, .int x3]) ++ List.replicate (6 - (lg_sl ([.ref (q 0), .int x1, .int x2, .int x3])).length) Slot.unset).toArray = ls at hl ⊢
  have hl : lv_has ls 6 [(0, .ref (q 0)), (1, .int x1), (2, .int x2), (3, .int x3)] := hl
  generalize hQ : MQ below (vp_Si (fun z => z = o)) args s 0 0 (fun _ => False) = Q
  unfold fX7_grows at h
  refine lv_aload_n hx hb dX7_grows_0 rfl (lv_at hl 0 rfl) ?_
  refine va_get (ci := 7) (v := .ref (q 3)) (C := RX7) (T := TX7) (N := 10) hx hb hts hinX7 hown hK hP 0 rfl rfl 1 (by decide) lk1 (fun _ h9 => h9) rfl dX7_grows_1 ?_
  refine lv_iload_n hx hb dX7_grows_4 rfl (lv_at hl 1 rfl) ?_
  obtain ⟨v1, hc2, h⟩ := sh_b1_e h
  refine sh_cVi (As := [.int x1]) (rest := []) hfix (k_X1_hasDot l D cI cJ cZ (q 3) (I 1) (I 2) (I 3) (J 0) (J 1) (J 2) x1 v1 hc2) (cwV 1 hts gX7_grows_X1_hasDot rfl rfl rfl hdV_X1_hasDot ⟨Nat.le_of_ble_eq_true rfl, Nat.le_of_ble_eq_true rfl⟩) hP hK [3] rfl 3 rfl rfl rfl hl.1 rfl (Nat.le_of_ble_eq_true rfl) dX7_grows_5 ⟨Nat.zero_le _, Nat.zero_le _⟩ ?_
  refine lv_if_ne (tgt := 13) hx hb dX7_grows_8 (by decide) (fun g3 => ?_) (fun g3 => ?_)
  · rw [if_neg g3] at h
    refine lv_iload_n hx hb dX7_grows_13 rfl (lv_at hl 2 rfl) ?_
    obtain ⟨v4, hc5, h⟩ := sh_b1_e h
    refine sh_cSi (As := [.int x2]) (rest := []) hfix (k_X7_isStep l D cI cJ cZ x2 v4 hc5) (va_cwS 1 hts gX7_grows_X7_isStep rfl rfl rfl hdS_X7_isStep ⟨Nat.le_of_ble_eq_true rfl, Nat.le_of_ble_eq_true rfl⟩) hP hK [] rfl rfl hl.1 rfl (Nat.le_of_ble_eq_true rfl) dX7_grows_14 ⟨Nat.zero_le _, Nat.zero_le _⟩ ?_
    refine lv_if_ne (tgt := 23) hx hb dX7_grows_17 (by decide) (fun g6 => ?_) (fun g6 => ?_)
    · rw [if_neg g6] at h
      refine lv_aload_n hx hb dX7_grows_23 rfl (lv_at hl 0 rfl) ?_
      refine va_get (ci := 7) (v := .ref (q 6)) (C := RX7) (T := TX7) (N := 10) hx hb hts hinX7 hown hK hP 0 rfl rfl 3 (by decide) lk2 (fun _ h9 => h9) rfl dX7_grows_24 ?_
      refine lv_iload_n hx hb dX7_grows_27 rfl (lv_at hl 1 rfl) ?_
      obtain ⟨v7, hc8, h⟩ := sh_b1_e h
      refine sh_cVl (As := [.int x1]) (rest := []) hfix (k_X6_nodeOf l D cI cJ cZ (q 3) (q 4) (q 5) (q 6) (q 7) (q 8) (I 1) (I 2) (I 3) (J 0) (J 1) (J 2) (B 0) (B 2) (A 1) (I 4) x1 v7 hc8) (cwV 1 hts gX7_grows_X6_nodeOf rfl rfl rfl hdV_X6_nodeOf ⟨Nat.le_of_ble_eq_true rfl, Nat.le_of_ble_eq_true rfl⟩) hP hK [6, 7, 8, 4, 5, 3] rfl 6 rfl rfl rfl hl.1 rfl (Nat.le_of_ble_eq_true rfl) dX7_grows_28 ⟨Nat.zero_le _, Nat.zero_le _⟩ ?_
      refine lv_lstore (lv' := [(4, .long v7), (0, .ref (q 0)), (1, .int x1), (2, .int x2), (3, .int x3)]) hx hb dX7_grows_31 hl (by decide) rfl (fun ls hl => ?_)
      refine lv_aload_n hx hb dX7_grows_33 rfl (lv_at hl 1 rfl) ?_
      refine va_get (ci := 7) (v := .ref (q 6)) (C := RX7) (T := TX7) (N := 10) hx hb hts hinX7 hown hK hP 0 rfl rfl 3 (by decide) lk2 (fun _ h9 => h9) rfl dX7_grows_34 ?_
      refine lv_lload hx hb dX7_grows_37 (lv_at hl 0 rfl) ?_
      refine lv_aload_n hx hb dX7_grows_39 rfl (lv_at hl 1 rfl) ?_
      refine va_get (ci := 7) (v := .ref (q 4)) (C := RX7) (T := TX7) (N := 10) hx hb hts hinX7 hown hK hP 0 rfl rfl 2 (by decide) lk3 (fun _ h9 => h9) rfl dX7_grows_40 ?_
      refine lv_iload_n hx hb dX7_grows_43 rfl (lv_at hl 2 rfl) ?_
      obtain ⟨v9, hc10, h⟩ := sh_b1_e h
      refine sh_cVi (As := [.int x1]) (rest := [.long v7, .ref (q 6)]) hfix (k_X2_of l D cI cJ cZ (q 3) (q 4) (q 5) (I 1) (I 2) (I 3) (J 0) (J 1) (J 2) (B 0) x1 v9 hc10) (cwV 1 hts gX7_grows_X2_of rfl rfl rfl hdV_X2_of ⟨Nat.le_of_ble_eq_true rfl, Nat.le_of_ble_eq_true rfl⟩) hP hK [4, 5, 3] rfl 4 rfl rfl rfl hl.1 rfl (Nat.le_of_ble_eq_true rfl) dX7_grows_44 ⟨Nat.zero_le _, Nat.zero_le _⟩ ?_
      refine lv_iload_n hx hb dX7_grows_47 rfl (lv_at hl 3 rfl) ?_
      obtain ⟨v11, hc12, h⟩ := sh_b1_e h
      refine sh_cVi (As := [.long v7, .int v9, .int x2]) (rest := []) hfix (k_X6_gain l D cI cJ cZ (q 3) (q 4) (q 5) (q 6) (q 7) (q 8) (I 1) (I 2) (I 3) (J 0) (J 1) (J 2) (B 0) (B 2) (A 1) (I 4) v7 v9 x2 v11 hc12) (cwV 3 hts gX7_grows_X6_gain rfl rfl rfl hdV_X6_gain ⟨Nat.le_of_ble_eq_true rfl, Nat.le_of_ble_eq_true rfl⟩) hP hK [6, 7, 8, 4, 5, 3] rfl 6 rfl rfl rfl hl.1 rfl (Nat.le_of_ble_eq_true rfl) dX7_grows_48 ⟨Nat.zero_le _, Nat.zero_le _⟩ ?_
      refine lv_lload hx hb dX7_grows_51 (lv_at hl 0 rfl) ?_
      obtain ⟨v13, hc14, h⟩ := sh_b1_e h
      refine sh_cSi (As := [.long v7]) (rest := [.int v11]) hfix (k_J13_bitCount_95d88 l D cI cJ cZ v7 v13 hc14) (va_cwS 1 hts gX7_grows_J13_bitCount_95d88 rfl rfl rfl hdS_J13_bitCount_95d88 ⟨Nat.le_of_ble_eq_true rfl, Nat.le_of_ble_eq_true rfl⟩) hP hK [] rfl rfl hl.1 rfl (Nat.le_of_ble_eq_true rfl) dX7_grows_53 ⟨Nat.zero_le _, Nat.zero_le _⟩ ?_
      refine lv_iload_n hx hb dX7_grows_56 rfl (lv_at hl 4 rfl) ?_
      obtain ⟨v15, hc16, h⟩ := sh_b1_e h
      refine sh_cSi (As := [.int v11, .int v13, .int x3]) (rest := []) hfix (k_X7_fraction l D cI cJ cZ v11 v13 x3 v15 hc16) (va_cwS 3 hts gX7_grows_X7_fraction rfl rfl rfl hdS_X7_fraction ⟨Nat.le_of_ble_eq_true rfl, Nat.le_of_ble_eq_true rfl⟩) hP hK [] rfl rfl hl.1 rfl (Nat.le_of_ble_eq_true rfl) dX7_grows_57 ⟨Nat.zero_le _, Nat.zero_le _⟩ ?_
      exact sh_roi hx hb hr hlocks hQ (Option.some.inj h) dX7_grows_60
    · rw [if_pos g6] at h
      refine lv_bipush (v := -2) hx hb dX7_grows_20 (by decide) ?_
      exact sh_roi hx hb hr hlocks hQ (Option.some.inj h) dX7_grows_22
  · rw [if_pos g3] at h
    refine lv_iconst (v := -1) hx hb dX7_grows_11 (by decide) ?_
    exact sh_roi hx hb hr hlocks hQ (Option.some.inj h) dX7_grows_12
theorem hdV_X7_steady : yX7_steady.cls = RX7 ∧ yX7_steady.cls ≠ "java/lang/invoke/MethodHandle" ∧ yX7_steady.cls ≠ "java/lang/invoke/VarHandle" ∧ (parseMethodDescriptor yX7_steady.desc).map (fun d => d.parameters.length) = some 2 := by decide +kernel
abbrev rmX7_steady : Room := { frames := 5, cells := 0, slots := 0, locals := 136 }
set_option maxHeartbeats 4000000 in
set_option maxRecDepth 100000 in
theorem k_X7_steady (l : Launch) (D : va_G) (cI cJ cZ : ClassId) (q : Nat → Nat) (I : Nat → Int32) (J : Nat → Int64) (A : Nat → Nat → Int32) (B : Nat → Nat → Int64) (x1 : Int32) (x2 : Int32) (o : Int32) (h : fX7_steady I J A B x1 x2 = some o) : Met l yX7_steady wsX7_steady rmX7_steady (sh_Pr D (sh_ty cI cJ cZ) (sh_w7 q cI cJ cZ I J A B) [.ref (q 0), .int x1, .int x2]) (vp_Si (fun z => z = o)) 0 0 (fun _ => False) := by
  refine Met.ofW (cc := cX7_steady) (maxL := 3) (ret := (some .int)) (by decide) rfl ?_
  intro p e s m args below meth c s₁ hB hml hv
  obtain ⟨hargs, hP, hK⟩ := hv
  have hx := hB.exec
  have hb := hB.bytes
  have hr := hB.returns
  have hts := atoms_spec (ws := wsX7_steady) hB.pre
  have hown : s.vm.findClass RX7 = some m.cls := findClass_of_methodNamed hB.named
  have hlocks := hB.notSynchronized
  have hfix : CallFix p m c cX7_steady 3 s args wsX7_steady RX7 := ⟨hx, hb, hml, hown, hts⟩
  have hinX7 : ∀ w ∈ wsX70, w ∈ wsX7_steady := by decide +kernel
  have lk1 := hts (.fieldLink RX7 19 "ShadeTree" "grid" "LShadeTree$Grid;") (by decide +kernel)
  have lk2 := hts (.fieldLink RX7 37 "ShadeTree" "tree" "LShadeTree$Tree;") (by decide +kernel)
  have lk3 := hts (.fieldLink RX7 28 "ShadeTree" "now" "LShadeTree$Shades;") (by decide +kernel)
  rw [show entryFrame m args 3 = entryFrame m ([.ref (q 0), .int x1, .int x2] : List Value).toArray 3 by rw [hargs], lg_entry_eq]
  have hl := lv_entry ([.ref (q 0), .int x1, .int x2]) (n := 3) (Nat.le_of_ble_eq_true rfl)
  generalize (lg_sl ([.ref (q 0), .int x1, .int x2]) ++ List.replicate (3 - (lg_sl ([.ref (q 0), .int x1, .int x2])).length) Slot.unset).toArray = ls at hl ⊢
  have hl : lv_has ls 3 [(0, .ref (q 0)), (1, .int x1), (2, .int x2)] := hl
  generalize hQ : MQ below (vp_Si (fun z => z = o)) args s 0 0 (fun _ => False) = Q
  unfold fX7_steady at h
  refine lv_aload_n hx hb dX7_steady_0 rfl (lv_at hl 0 rfl) ?_
  refine va_get (ci := 7) (v := .ref (q 3)) (C := RX7) (T := TX7) (N := 10) hx hb hts hinX7 hown hK hP 0 rfl rfl 1 (by decide) lk1 (fun _ h9 => h9) rfl dX7_steady_1 ?_
  refine lv_iload_n hx hb dX7_steady_4 rfl (lv_at hl 1 rfl) ?_
  obtain ⟨v1, hc2, h⟩ := sh_b1_e h
  refine sh_cVi (As := [.int x1]) (rest := []) hfix (k_X1_hasDot l D cI cJ cZ (q 3) (I 1) (I 2) (I 3) (J 0) (J 1) (J 2) x1 v1 hc2) (cwV 1 hts gX7_steady_X1_hasDot rfl rfl rfl hdV_X1_hasDot ⟨Nat.le_of_ble_eq_true rfl, Nat.le_of_ble_eq_true rfl⟩) hP hK [3] rfl 3 rfl rfl rfl hl.1 rfl (Nat.le_of_ble_eq_true rfl) dX7_steady_5 ⟨Nat.zero_le _, Nat.zero_le _⟩ ?_
  refine lv_if_ne (tgt := 13) hx hb dX7_steady_8 (by decide) (fun g3 => ?_) (fun g3 => ?_)
  · rw [if_neg g3] at h
    refine lv_iload_n hx hb dX7_steady_13 rfl (lv_at hl 2 rfl) ?_
    obtain ⟨v4, hc5, h⟩ := sh_b1_e h
    refine sh_cSi (As := [.int x2]) (rest := []) hfix (k_X7_isStep l D cI cJ cZ x2 v4 hc5) (va_cwS 1 hts gX7_steady_X7_isStep rfl rfl rfl hdS_X7_isStep ⟨Nat.le_of_ble_eq_true rfl, Nat.le_of_ble_eq_true rfl⟩) hP hK [] rfl rfl hl.1 rfl (Nat.le_of_ble_eq_true rfl) dX7_steady_14 ⟨Nat.zero_le _, Nat.zero_le _⟩ ?_
    refine lv_if_ne (tgt := 23) hx hb dX7_steady_17 (by decide) (fun g6 => ?_) (fun g6 => ?_)
    · rw [if_neg g6] at h
      refine lv_aload_n hx hb dX7_steady_23 rfl (lv_at hl 0 rfl) ?_
      refine va_get (ci := 7) (v := .ref (q 6)) (C := RX7) (T := TX7) (N := 10) hx hb hts hinX7 hown hK hP 0 rfl rfl 3 (by decide) lk2 (fun _ h9 => h9) rfl dX7_steady_24 ?_
      refine lv_aload_n hx hb dX7_steady_27 rfl (lv_at hl 0 rfl) ?_
      refine va_get (ci := 7) (v := .ref (q 6)) (C := RX7) (T := TX7) (N := 10) hx hb hts hinX7 hown hK hP 0 rfl rfl 3 (by decide) lk2 (fun _ h9 => h9) rfl dX7_steady_28 ?_
      refine lv_iload_n hx hb dX7_steady_31 rfl (lv_at hl 1 rfl) ?_
      obtain ⟨v7, hc8, h⟩ := sh_b1_e h
      refine sh_cVl (As := [.int x1]) (rest := [.ref (q 6)]) hfix (k_X6_nodeOf l D cI cJ cZ (q 3) (q 4) (q 5) (q 6) (q 7) (q 8) (I 1) (I 2) (I 3) (J 0) (J 1) (J 2) (B 0) (B 2) (A 1) (I 4) x1 v7 hc8) (cwV 1 hts gX7_steady_X6_nodeOf rfl rfl rfl hdV_X6_nodeOf ⟨Nat.le_of_ble_eq_true rfl, Nat.le_of_ble_eq_true rfl⟩) hP hK [6, 7, 8, 4, 5, 3] rfl 6 rfl rfl rfl hl.1 rfl (Nat.le_of_ble_eq_true rfl) dX7_steady_32 ⟨Nat.zero_le _, Nat.zero_le _⟩ ?_
      refine lv_aload_n hx hb dX7_steady_35 rfl (lv_at hl 0 rfl) ?_
      refine va_get (ci := 7) (v := .ref (q 4)) (C := RX7) (T := TX7) (N := 10) hx hb hts hinX7 hown hK hP 0 rfl rfl 2 (by decide) lk3 (fun _ h9 => h9) rfl dX7_steady_36 ?_
      refine lv_iload_n hx hb dX7_steady_39 rfl (lv_at hl 1 rfl) ?_
      obtain ⟨v9, hc10, h⟩ := sh_b1_e h
      refine sh_cVi (As := [.int x1]) (rest := [.long v7, .ref (q 6)]) hfix (k_X2_of l D cI cJ cZ (q 3) (q 4) (q 5) (I 1) (I 2) (I 3) (J 0) (J 1) (J 2) (B 0) x1 v9 hc10) (cwV 1 hts gX7_steady_X2_of rfl rfl rfl hdV_X2_of ⟨Nat.le_of_ble_eq_true rfl, Nat.le_of_ble_eq_true rfl⟩) hP hK [4, 5, 3] rfl 4 rfl rfl rfl hl.1 rfl (Nat.le_of_ble_eq_true rfl) dX7_steady_40 ⟨Nat.zero_le _, Nat.zero_le _⟩ ?_
      refine lv_iload_n hx hb dX7_steady_43 rfl (lv_at hl 2 rfl) ?_
      obtain ⟨v11, hc12, h⟩ := sh_b1_e h
      refine sh_cVi (As := [.long v7, .int v9, .int x2]) (rest := []) hfix (k_X6_isSteady l D cI cJ cZ (q 3) (q 4) (q 5) (q 6) (q 7) (q 8) (I 1) (I 2) (I 3) (J 0) (J 1) (J 2) (B 0) (B 2) (A 1) (I 4) v7 v9 x2 v11 hc12) (cwV 3 hts gX7_steady_X6_isSteady rfl rfl rfl hdV_X6_isSteady ⟨Nat.le_of_ble_eq_true rfl, Nat.le_of_ble_eq_true rfl⟩) hP hK [6, 7, 8, 4, 5, 3] rfl 6 rfl rfl rfl hl.1 rfl (Nat.le_of_ble_eq_true rfl) dX7_steady_44 ⟨Nat.zero_le _, Nat.zero_le _⟩ ?_
      refine lv_if_eq (tgt := 54) hx hb dX7_steady_47 (by decide) (fun g13 => ?_) (fun g13 => ?_)
      · rw [if_pos g13] at h
        refine lv_iconst (v := 0) hx hb dX7_steady_54 (by decide) ?_
        exact sh_roi hx hb hr hlocks hQ (Option.some.inj h) dX7_steady_55
      · rw [if_neg g13] at h
        refine lv_iconst (v := 1) hx hb dX7_steady_50 (by decide) ?_
        refine lv_goto (tgt := 55) hx hb dX7_steady_51 (by decide) ?_
        exact sh_roi hx hb hr hlocks hQ (Option.some.inj h) dX7_steady_55
    · rw [if_pos g6] at h
      refine lv_bipush (v := -2) hx hb dX7_steady_20 (by decide) ?_
      exact sh_roi hx hb hr hlocks hQ (Option.some.inj h) dX7_steady_22
  · rw [if_pos g3] at h
    refine lv_iconst (v := -1) hx hb dX7_steady_11 (by decide) ?_
    exact sh_roi hx hb hr hlocks hQ (Option.some.inj h) dX7_steady_12
theorem hdS_X7_withoutLast : yX7_withoutLast.cls ≠ "java/lang/invoke/MethodHandle" ∧ yX7_withoutLast.cls ≠ "java/lang/invoke/VarHandle" ∧ (parseMethodDescriptor yX7_withoutLast.desc).map (fun d => d.parameters.length) = some 2 := by decide +kernel
abbrev rmX7_withoutLast : Room := { frames := 0, cells := 0, slots := 0, locals := 0 }
set_option maxHeartbeats 4000000 in
set_option maxRecDepth 100000 in
theorem k_X7_withoutLast (l : Launch) (D : va_G) (cI cJ cZ : ClassId) (x0 : Int64) (x2 : Int32) (o : Int64) (h : fX7_withoutLast x0 x2 = some o) : Met l yX7_withoutLast wsX7_withoutLast rmX7_withoutLast (sh_Pr D (sh_ty cI cJ cZ) [] [.long x0, .int x2]) (vp_Sl (fun z => z = o)) 0 0 (fun _ => False) := by
  refine Met.ofW (cc := cX7_withoutLast) (maxL := 6) (ret := (some .long)) (by decide) rfl ?_
  intro p e s m args below meth c s₁ hB hml hv
  obtain ⟨hargs, hP, hK⟩ := hv
  have hx := hB.exec
  have hb := hB.bytes
  have hr := hB.returns
  have hts := atoms_spec (ws := wsX7_withoutLast) hB.pre
  have hown : s.vm.findClass RX7 = some m.cls := findClass_of_methodNamed hB.named
  have hlocks := hB.notSynchronized
  have hfix : CallFix p m c cX7_withoutLast 6 s args wsX7_withoutLast RX7 := ⟨hx, hb, hml, hown, hts⟩
  have lk1 := hts (.constantLong RX7 224 (10000)) (by decide +kernel)
  rw [show entryFrame m args 6 = entryFrame m ([.long x0, .int x2] : List Value).toArray 6 by rw [hargs], lg_entry_eq]
  have hl := lv_entry ([.long x0, .int x2]) (n := 6) (Nat.le_of_ble_eq_true rfl)
  generalize (lg_sl ([.long x0, .int x2]) ++ List.replicate (6 - (lg_sl ([.long x0, .int x2])).length) Slot.unset).toArray = ls at hl ⊢
  have hl : lv_has ls 6 [(0, .long x0), (2, .int x2)] := hl
  generalize hQ : MQ below (vp_Sl (fun z => z = o)) args s 0 0 (fun _ => False) = Q
  unfold fX7_withoutLast at h
  refine lv_lload_n hx hb dX7_withoutLast_0 rfl (lv_at hl 0 rfl) ?_
  refine lv_lstore_n (lv' := [(3, .long x0), (0, .long x0), (2, .int x2)]) hx hb dX7_withoutLast_1 rfl hl (by decide) rfl (fun ls hl => ?_)
  refine lv_iconst (v := 0) hx hb dX7_withoutLast_2 (by decide) ?_
  refine lv_istore (lv' := [(5, .int 0), (3, .long x0), (0, .long x0), (2, .int x2)]) hx hb dX7_withoutLast_3 hl (by decide) rfl (fun ls hl => ?_)
  have LP3 : ∀ (n : Nat) (x2 : Int32) (x3 : Int64) (x5 : Int32) (ow3 : Int64) (ls : Array Slot), fX7_withoutLast_L5 n x2 x3 x5 = some ow3 → lv_has ls 6 [(2, .int x2), (3, .long x3), (5, .int x5)] → (∀ (ls : Array Slot), lv_has ls 6 [(3, .long ow3)] → W p l e (headSpec wsX7_withoutLast rmX7_withoutLast).room s m args below meth c s.heap [] 0 0 Q (F0 m 29 ls [])) → W p l e (headSpec wsX7_withoutLast rmX7_withoutLast).room s m args below meth c s.heap [] 0 0 Q (F0 m 5 ls []) := by
    intro n
    induction n with
    | zero =>
      intro x2 x3 x5 ow3 ls h hl hk
      exact nomatch ((fX7_withoutLast_L5_z x2 x3 x5).symm.trans h)
    | succ n ih =>
      intro x2 x3 x5 ow3 ls h hl hk
      rw [fX7_withoutLast_L5_s] at h
      refine lv_iload hx hb dX7_withoutLast_5 (lv_at hl 2 rfl) ?_
      refine lv_iload_n hx hb dX7_withoutLast_7 rfl (lv_at hl 0 rfl) ?_
      refine lv_icmp_ge (tgt := 29) hx hb dX7_withoutLast_8 (by decide) (fun g1 => ?_) (fun g1 => ?_)
      · rw [if_pos g1] at h
        cases h
        exact hk ls (lv_sub hl [1] rfl) 
      · rw [if_neg g1] at h
        refine lv_iload hx hb dX7_withoutLast_11 (lv_at hl 2 rfl) ?_
        refine lv_iconst (v := 4) hx hb dX7_withoutLast_13 (by decide) ?_
        refine lv_icmp_ge (tgt := 29) hx hb dX7_withoutLast_14 (by decide) (fun g2 => ?_) (fun g2 => ?_)
        · rw [if_pos g2] at h
          cases h
          exact hk ls (lv_sub hl [1] rfl) 
        · rw [if_neg g2] at h
          refine lv_lload_n hx hb dX7_withoutLast_17 rfl (lv_at hl 1 rfl) ?_
          refine lv_ldc2 hx hb hown lk1 dX7_withoutLast_18 ?_
          refine lv_ldiv hx hb dX7_withoutLast_21 (by decide) ?_
          refine lv_lstore_n (lv' := [(3, .long (x3 / 10000)), (2, .int x2), (5, .int x5)]) hx hb dX7_withoutLast_22 rfl hl (by decide) rfl (fun ls hl => ?_)
          refine lv_iinc (v := (x5 + 1)) (lv' := [(5, .int (x5 + 1)), (3, .long (x3 / 10000)), (2, .int x2)]) hx hb dX7_withoutLast_23 hl (k := 2) rfl rfl (by decide) rfl (fun ls hl => ?_)
          refine lv_goto (tgt := 5) hx hb dX7_withoutLast_26 (by decide) ?_
          exact ih x2 (x3 / 10000) (x5 + 1) ow3 ls h (lv_sub hl [2, 1, 0] rfl)  hk
  obtain ⟨w4, hc5, h⟩ := sh_b1_e h
  refine LP3 sh_fu x2 x0 0 w4 ls hc5 (lv_sub hl [3, 1, 0] rfl)  (fun ls hl  => ?_)
  refine lv_lload_n hx hb dX7_withoutLast_29 rfl (lv_at hl 0 rfl) ?_
  exact sh_rol hx hb hr hlocks hQ (Option.some.inj h) dX7_withoutLast_30
theorem hdV_X7_trialPainted : yX7_trialPainted.cls = RX7 ∧ yX7_trialPainted.cls ≠ "java/lang/invoke/MethodHandle" ∧ yX7_trialPainted.cls ≠ "java/lang/invoke/VarHandle" ∧ (parseMethodDescriptor yX7_trialPainted.desc).map (fun d => d.parameters.length) = some 2 := by decide +kernel
abbrev rmX7_trialPainted : Room := { frames := 2, cells := 0, slots := 0, locals := 41 }
set_option maxHeartbeats 4000000 in
set_option maxRecDepth 100000 in
theorem k_X7_trialPainted (l : Launch) (D : va_G) (cI cJ cZ : ClassId) (sz : Nat) (q : Nat → Nat) (I : Nat → Int32) (J : Nat → Int64) (A : Nat → Nat → Int32) (B : Nat → Nat → Int64) (x1 : Int32) (x2 : Int32) (o : Int32) (oB : Nat → Nat → Int64) (h : fX7_trialPainted I B x1 x2 = some (o, oB)) : Met l yX7_trialPainted wsX7_trialPainted rmX7_trialPainted (sh_Pw D (sh_ty cI cJ cZ) sz (sh_w7 q cI cJ cZ I J A B) [.ref (q 0), .int x1, .int x2]) (sh_Qi D (sh_ty cI cJ cZ) (va_A (sh_w7 q cI cJ cZ I J A B) sz) (sh_w7 q cI cJ cZ I J A oB) o) 0 0 (va_A (sh_w7 q cI cJ cZ I J A B) sz) := by
  refine Met.ofW (cc := cX7_trialPainted) (maxL := 3) (ret := (some .boolean)) (by decide) rfl ?_
  intro p e s m args below meth c s₁ hB hml hv
  obtain ⟨hargs, hsz, hP, hK, hD0⟩ := hv
  have hx := hB.exec
  have hb := hB.bytes
  have hr := hB.returns
  have hts := atoms_spec (ws := wsX7_trialPainted) hB.pre
  have hown : s.vm.findClass RX7 = some m.cls := findClass_of_methodNamed hB.named
  have hlocks := hB.notSynchronized
  have hfix : CallFix p m c cX7_trialPainted 3 s args wsX7_trialPainted RX7 := ⟨hx, hb, hml, hown, hts⟩
  have hinX7 : ∀ w ∈ wsX70, w ∈ wsX7_trialPainted := by decide +kernel
  have lk1 := hts (.fieldLink RX7 19 "ShadeTree" "grid" "LShadeTree$Grid;") (by decide +kernel)
  have lk2 := hts (.fieldLink RX7 41 "ShadeTree" "trial" "LShadeTree$Shades;") (by decide +kernel)
  rw [show entryFrame m args 3 = entryFrame m ([.ref (q 0), .int x1, .int x2] : List Value).toArray 3 by rw [hargs], lg_entry_eq]
  have hl := lv_entry ([.ref (q 0), .int x1, .int x2]) (n := 3) (Nat.le_of_ble_eq_true rfl)
  generalize (lg_sl ([.ref (q 0), .int x1, .int x2]) ++ List.replicate (3 - (lg_sl ([.ref (q 0), .int x1, .int x2])).length) Slot.unset).toArray = ls at hl ⊢
  have hl : lv_has ls 3 [(0, .ref (q 0)), (1, .int x1), (2, .int x2)] := hl
  subst hsz
  have hD := hD0.self (sz := s.heap.size)
  generalize hAe : va_A (sh_w7 q cI cJ cZ I J A B) s.heap.size = Az at hD ⊢
  have hA : ∀ q : Nat, s.heap.size ≤ q → Az q := fun q h => by rw [← hAe]; exact Or.inr h
  have hS : va_S Az s.heap s.heap [] := va_S.rf
  generalize hQ : MQ below (sh_Qi D (sh_ty cI cJ cZ) Az (sh_w7 q cI cJ cZ I J A oB) o) args s 0 0 Az = Q
  unfold fX7_trialPainted at h
  refine lv_aload_n hx hb dX7_trialPainted_0 rfl (lv_at hl 0 rfl) ?_
  refine va_get (ci := 7) (v := .ref (q 3)) (C := RX7) (T := TX7) (N := 10) hx hb hts hinX7 hown hK hP 0 rfl rfl 1 (by decide) lk1 (fun _ h9 => h9) rfl dX7_trialPainted_1 ?_
  refine lv_iload_n hx hb dX7_trialPainted_4 rfl (lv_at hl 1 rfl) ?_
  obtain ⟨v1, hc2, h⟩ := sh_b1_e h
  refine sh_cVi (As := [.int x1]) (rest := []) hfix (k_X1_hasDot l D cI cJ cZ (q 3) (I 1) (I 2) (I 3) (J 0) (J 1) (J 2) x1 v1 hc2) (cwV 1 hts gX7_trialPainted_X1_hasDot rfl rfl rfl hdV_X1_hasDot ⟨Nat.le_of_ble_eq_true rfl, Nat.le_of_ble_eq_true rfl⟩) hP hK [3] rfl 3 rfl rfl rfl hl.1 rfl (Nat.le_of_ble_eq_true rfl) dX7_trialPainted_5 ⟨Nat.zero_le _, Nat.zero_le _⟩ ?_
  refine lv_if_ne (tgt := 13) hx hb dX7_trialPainted_8 (by decide) (fun g3 => ?_) (fun g3 => ?_)
  · rw [if_neg g3] at h
    refine lv_aload_n hx hb dX7_trialPainted_13 rfl (lv_at hl 0 rfl) ?_
    refine va_get (ci := 7) (v := .ref (q 9)) (C := RX7) (T := TX7) (N := 10) hx hb hts hinX7 hown hK hP 0 rfl rfl 4 (by decide) lk2 (fun _ h9 => h9) rfl dX7_trialPainted_14 ?_
    refine lv_iload_n hx hb dX7_trialPainted_17 rfl (lv_at hl 1 rfl) ?_
    refine lv_iload_n hx hb dX7_trialPainted_18 rfl (lv_at hl 2 rfl) ?_
    obtain ⟨u4, hc5, h⟩ := sh_b1_e h
    refine sh_wVv (wn := (sh_w7 q cI cJ cZ I J A (va_up B 1 u4))) (As := [.int x1, .int x2]) (rest := []) hfix (k_X2_set l D cI cJ cZ _ (q 3) (q 9) (q 10) (I 1) (I 2) (I 3) (J 0) (J 1) (J 2) (B 1) x1 x2 u4 hc5) (cwV 2 hts gX7_trialPainted_X2_set rfl rfl rfl hdV_X2_set ⟨Nat.le_of_ble_eq_true rfl, Nat.le_of_ble_eq_true rfl⟩) hP hK hD hS hA [9, 10, 3] [0, 1, 2, 4, 5, 6, 7, 8, 11, 12, 13, 14, 15, 16, 17, 18, 19, 20, 21, 22] [0, 1, 2, 22, 3, 4, 5, 6, 7, 20, 21, 8, 9, 10, 11, 12, 13, 14, 15, 16, 17, 18, 19] rfl rfl rfl rfl rfl rfl rfl 9 rfl rfl rfl hl.1 rfl (Nat.le_of_ble_eq_true rfl) dX7_trialPainted_19 ⟨Nat.zero_le _, Nat.zero_le _⟩ (fun H locs hP hD hS => ?_)
    refine lv_iconst (v := 1) hx hb dX7_trialPainted_22 (by decide) ?_
    cases h
    exact sh_rwz hx hb hr hlocks hQ rfl hK hP hD hS dX7_trialPainted_23
  · rw [if_pos g3] at h
    refine lv_iconst (v := 0) hx hb dX7_trialPainted_11 (by decide) ?_
    cases h
    exact sh_rwz hx hb hr hlocks hQ rfl hK hP hD hS dX7_trialPainted_12
theorem hdV_X7_trialTurned : yX7_trialTurned.cls = RX7 ∧ yX7_trialTurned.cls ≠ "java/lang/invoke/MethodHandle" ∧ yX7_trialTurned.cls ≠ "java/lang/invoke/VarHandle" ∧ (parseMethodDescriptor yX7_trialTurned.desc).map (fun d => d.parameters.length) = some 0 := by decide +kernel
abbrev rmX7_trialTurned : Room := { frames := 2, cells := 0, slots := 0, locals := 46 }
set_option maxHeartbeats 4000000 in
set_option maxRecDepth 100000 in
theorem k_X7_trialTurned (l : Launch) (D : va_G) (cI cJ cZ : ClassId) (sz : Nat) (q : Nat → Nat) (I : Nat → Int32) (J : Nat → Int64) (A : Nat → Nat → Int32) (B : Nat → Nat → Int64) (o : Int32) (oB : Nat → Nat → Int64) (h : fX7_trialTurned J B = some (o, oB)) : Met l yX7_trialTurned wsX7_trialTurned rmX7_trialTurned (sh_Pw D (sh_ty cI cJ cZ) sz (sh_w7 q cI cJ cZ I J A B) [.ref (q 0)]) (sh_Qi D (sh_ty cI cJ cZ) (va_A (sh_w7 q cI cJ cZ I J A B) sz) (sh_w7 q cI cJ cZ I J A oB) o) 0 0 (va_A (sh_w7 q cI cJ cZ I J A B) sz) := by
  refine Met.ofW (cc := cX7_trialTurned) (maxL := 1) (ret := (some .boolean)) (by decide) rfl ?_
  intro p e s m args below meth c s₁ hB hml hv
  obtain ⟨hargs, hsz, hP, hK, hD0⟩ := hv
  have hx := hB.exec
  have hb := hB.bytes
  have hr := hB.returns
  have hts := atoms_spec (ws := wsX7_trialTurned) hB.pre
  have hown : s.vm.findClass RX7 = some m.cls := findClass_of_methodNamed hB.named
  have hlocks := hB.notSynchronized
  have hfix : CallFix p m c cX7_trialTurned 1 s args wsX7_trialTurned RX7 := ⟨hx, hb, hml, hown, hts⟩
  have hinX7 : ∀ w ∈ wsX70, w ∈ wsX7_trialTurned := by decide +kernel
  have lk1 := hts (.fieldLink RX7 41 "ShadeTree" "trial" "LShadeTree$Shades;") (by decide +kernel)
  rw [show entryFrame m args 1 = entryFrame m ([.ref (q 0)] : List Value).toArray 1 by rw [hargs], lg_entry_eq]
  have hl := lv_entry ([.ref (q 0)]) (n := 1) (Nat.le_of_ble_eq_true rfl)
  generalize (lg_sl ([.ref (q 0)]) ++ List.replicate (1 - (lg_sl ([.ref (q 0)])).length) Slot.unset).toArray = ls at hl ⊢
  have hl : lv_has ls 1 [(0, .ref (q 0))] := hl
  subst hsz
  have hD := hD0.self (sz := s.heap.size)
  generalize hAe : va_A (sh_w7 q cI cJ cZ I J A B) s.heap.size = Az at hD ⊢
  have hA : ∀ q : Nat, s.heap.size ≤ q → Az q := fun q h => by rw [← hAe]; exact Or.inr h
  have hS : va_S Az s.heap s.heap [] := va_S.rf
  generalize hQ : MQ below (sh_Qi D (sh_ty cI cJ cZ) Az (sh_w7 q cI cJ cZ I J A oB) o) args s 0 0 Az = Q
  unfold fX7_trialTurned at h
  refine lv_aload_n hx hb dX7_trialTurned_0 rfl (lv_at hl 0 rfl) ?_
  refine va_get (ci := 7) (v := .ref (q 9)) (C := RX7) (T := TX7) (N := 10) hx hb hts hinX7 hown hK hP 0 rfl rfl 4 (by decide) lk1 (fun _ h9 => h9) rfl dX7_trialTurned_1 ?_
  obtain ⟨u1, hc2, h⟩ := sh_b1_e h
  refine sh_wVv (wn := (sh_w7 q cI cJ cZ I J A (va_up B 1 u1))) (As := []) (rest := []) hfix (k_X2_turn l D cI cJ cZ _ (q 3) (q 9) (q 10) (I 1) (I 2) (I 3) (J 0) (J 1) (J 2) (B 1) u1 hc2) (cwV 0 hts gX7_trialTurned_X2_turn rfl rfl rfl hdV_X2_turn ⟨Nat.le_of_ble_eq_true rfl, Nat.le_of_ble_eq_true rfl⟩) hP hK hD hS hA [9, 10, 3] [0, 1, 2, 4, 5, 6, 7, 8, 11, 12, 13, 14, 15, 16, 17, 18, 19, 20, 21, 22] [0, 1, 2, 22, 3, 4, 5, 6, 7, 20, 21, 8, 9, 10, 11, 12, 13, 14, 15, 16, 17, 18, 19] rfl rfl rfl rfl rfl rfl rfl 9 rfl rfl rfl hl.1 rfl (Nat.le_of_ble_eq_true rfl) dX7_trialTurned_4 ⟨Nat.zero_le _, Nat.zero_le _⟩ (fun H locs hP hD hS => ?_)
  refine lv_iconst (v := 1) hx hb dX7_trialTurned_7 (by decide) ?_
  cases h
  exact sh_rwz hx hb hr hlocks hQ rfl hK hP hD hS dX7_trialTurned_8
theorem hdV_X7_trialThinned : yX7_trialThinned.cls = RX7 ∧ yX7_trialThinned.cls ≠ "java/lang/invoke/MethodHandle" ∧ yX7_trialThinned.cls ≠ "java/lang/invoke/VarHandle" ∧ (parseMethodDescriptor yX7_trialThinned.desc).map (fun d => d.parameters.length) = some 2 := by decide +kernel
abbrev rmX7_trialThinned : Room := { frames := 5, cells := 0, slots := 0, locals := 127 }
set_option maxHeartbeats 4000000 in
set_option maxRecDepth 100000 in
theorem k_X7_trialThinned (l : Launch) (D : va_G) (cI cJ cZ : ClassId) (sz : Nat) (q : Nat → Nat) (I : Nat → Int32) (J : Nat → Int64) (A : Nat → Nat → Int32) (B : Nat → Nat → Int64) (x1 : Int32) (x2 : Int32) (o : Int32) (oB : Nat → Nat → Int64) (h : fX7_trialThinned I J B x1 x2 = some (o, oB)) : Met l yX7_trialThinned wsX7_trialThinned rmX7_trialThinned (sh_Pw D (sh_ty cI cJ cZ) sz (sh_w7 q cI cJ cZ I J A B) [.ref (q 0), .int x1, .int x2]) (sh_Qi D (sh_ty cI cJ cZ) (va_A (sh_w7 q cI cJ cZ I J A B) sz) (sh_w7 q cI cJ cZ I J A oB) o) 0 0 (va_A (sh_w7 q cI cJ cZ I J A B) sz) := by
  refine Met.ofW (cc := cX7_trialThinned) (maxL := 3) (ret := (some .boolean)) (by decide) rfl ?_
  intro p e s m args below meth c s₁ hB hml hv
  obtain ⟨hargs, hsz, hP, hK, hD0⟩ := hv
  have hx := hB.exec
  have hb := hB.bytes
  have hr := hB.returns
  have hts := atoms_spec (ws := wsX7_trialThinned) hB.pre
  have hown : s.vm.findClass RX7 = some m.cls := findClass_of_methodNamed hB.named
  have hlocks := hB.notSynchronized
  have hfix : CallFix p m c cX7_trialThinned 3 s args wsX7_trialThinned RX7 := ⟨hx, hb, hml, hown, hts⟩
  have hinX7 : ∀ w ∈ wsX70, w ∈ wsX7_trialThinned := by decide +kernel
  have lk1 := hts (.fieldLink RX7 41 "ShadeTree" "trial" "LShadeTree$Shades;") (by decide +kernel)
  rw [show entryFrame m args 3 = entryFrame m ([.ref (q 0), .int x1, .int x2] : List Value).toArray 3 by rw [hargs], lg_entry_eq]
  have hl := lv_entry ([.ref (q 0), .int x1, .int x2]) (n := 3) (Nat.le_of_ble_eq_true rfl)
  generalize (lg_sl ([.ref (q 0), .int x1, .int x2]) ++ List.replicate (3 - (lg_sl ([.ref (q 0), .int x1, .int x2])).length) Slot.unset).toArray = ls at hl ⊢
  have hl : lv_has ls 3 [(0, .ref (q 0)), (1, .int x1), (2, .int x2)] := hl
  subst hsz
  have hD := hD0.self (sz := s.heap.size)
  generalize hAe : va_A (sh_w7 q cI cJ cZ I J A B) s.heap.size = Az at hD ⊢
  have hA : ∀ q : Nat, s.heap.size ≤ q → Az q := fun q h => by rw [← hAe]; exact Or.inr h
  have hS : va_S Az s.heap s.heap [] := va_S.rf
  generalize hQ : MQ below (sh_Qi D (sh_ty cI cJ cZ) Az (sh_w7 q cI cJ cZ I J A oB) o) args s 0 0 Az = Q
  unfold fX7_trialThinned at h
  refine lv_iload_n hx hb dX7_trialThinned_0 rfl (lv_at hl 1 rfl) ?_
  refine lv_iload_n hx hb dX7_trialThinned_1 rfl (lv_at hl 2 rfl) ?_
  obtain ⟨v1, hc2, h⟩ := sh_b1_e h
  refine sh_cSi (As := [.int x1, .int x2]) (rest := []) hfix (k_X7_isSieve l D cI cJ cZ x1 x2 v1 hc2) (va_cwS 2 hts gX7_trialThinned_X7_isSieve rfl rfl rfl hdS_X7_isSieve ⟨Nat.le_of_ble_eq_true rfl, Nat.le_of_ble_eq_true rfl⟩) hP hK [] rfl rfl hl.1 rfl (Nat.le_of_ble_eq_true rfl) dX7_trialThinned_2 ⟨Nat.zero_le _, Nat.zero_le _⟩ ?_
  refine lv_if_ne (tgt := 10) hx hb dX7_trialThinned_5 (by decide) (fun g3 => ?_) (fun g3 => ?_)
  · rw [if_neg g3] at h
    refine lv_aload_n hx hb dX7_trialThinned_10 rfl (lv_at hl 0 rfl) ?_
    refine va_get (ci := 7) (v := .ref (q 9)) (C := RX7) (T := TX7) (N := 10) hx hb hts hinX7 hown hK hP 0 rfl rfl 4 (by decide) lk1 (fun _ h9 => h9) rfl dX7_trialThinned_11 ?_
    refine lv_iload_n hx hb dX7_trialThinned_14 rfl (lv_at hl 1 rfl) ?_
    refine lv_iload_n hx hb dX7_trialThinned_15 rfl (lv_at hl 2 rfl) ?_
    obtain ⟨v4, u5, hc6, h⟩ := sh_b2_e h
    refine sh_wVi (wn := (sh_w7 q cI cJ cZ I J A (va_up B 1 u5))) (As := [.int x1, .int x2]) (rest := []) hfix (k_X2_thin l D cI cJ cZ _ (q 3) (q 9) (q 10) (I 1) (I 2) (I 3) (J 0) (J 1) (J 2) (B 1) x1 x2 v4 u5 hc6) (cwV 2 hts gX7_trialThinned_X2_thin rfl rfl rfl hdV_X2_thin ⟨Nat.le_of_ble_eq_true rfl, Nat.le_of_ble_eq_true rfl⟩) hP hK hD hS hA [9, 10, 3] [0, 1, 2, 4, 5, 6, 7, 8, 11, 12, 13, 14, 15, 16, 17, 18, 19, 20, 21, 22] [0, 1, 2, 22, 3, 4, 5, 6, 7, 20, 21, 8, 9, 10, 11, 12, 13, 14, 15, 16, 17, 18, 19] rfl rfl rfl rfl rfl rfl rfl 9 rfl rfl rfl hl.1 rfl (Nat.le_of_ble_eq_true rfl) dX7_trialThinned_16 ⟨Nat.zero_le _, Nat.zero_le _⟩ (fun H locs hP hD hS => ?_)
    refine lv_pop hx hb dX7_trialThinned_19 rfl ?_
    refine lv_iconst (v := 1) hx hb dX7_trialThinned_20 (by decide) ?_
    cases h
    exact sh_rwz hx hb hr hlocks hQ rfl hK hP hD hS dX7_trialThinned_21
  · rw [if_pos g3] at h
    refine lv_iconst (v := 0) hx hb dX7_trialThinned_8 (by decide) ?_
    cases h
    exact sh_rwz hx hb hr hlocks hQ rfl hK hP hD hS dX7_trialThinned_9
theorem hdV_X7_comesTrue : yX7_comesTrue.cls = RX7 ∧ yX7_comesTrue.cls ≠ "java/lang/invoke/MethodHandle" ∧ yX7_comesTrue.cls ≠ "java/lang/invoke/VarHandle" ∧ (parseMethodDescriptor yX7_comesTrue.desc).map (fun d => d.parameters.length) = some 3 := by decide +kernel
abbrev rmX7_comesTrue : Room := { frames := 6, cells := 0, slots := 0, locals := 149 }
set_option maxHeartbeats 4000000 in
set_option maxRecDepth 100000 in
theorem k_X7_comesTrue (l : Launch) (D : va_G) (cI cJ cZ : ClassId) (sz : Nat) (q : Nat → Nat) (I : Nat → Int32) (J : Nat → Int64) (A : Nat → Nat → Int32) (B : Nat → Nat → Int64) (x1 : Int32) (x2 : Int32) (x3 : Int32) (o : Int32) (oB : Nat → Nat → Int64) (h : fX7_comesTrue I J A B x1 x2 x3 = some (o, oB)) : Met l yX7_comesTrue wsX7_comesTrue rmX7_comesTrue (sh_Pw D (sh_ty cI cJ cZ) sz (sh_w7 q cI cJ cZ I J A B) [.ref (q 0), .int x1, .int x2, .int x3]) (sh_Qi D (sh_ty cI cJ cZ) (va_A (sh_w7 q cI cJ cZ I J A B) sz) (sh_w7 q cI cJ cZ I J A oB) o) 0 0 (va_A (sh_w7 q cI cJ cZ I J A B) sz) := by
  refine Met.ofW (cc := cX7_comesTrue) (maxL := 4) (ret := (some .boolean)) (by decide) rfl ?_
  intro p e s m args below meth c s₁ hB hml hv
  obtain ⟨hargs, hsz, hP, hK, hD0⟩ := hv
  have hx := hB.exec
  have hb := hB.bytes
  have hr := hB.returns
  have hts := atoms_spec (ws := wsX7_comesTrue) hB.pre
  have hown : s.vm.findClass RX7 = some m.cls := findClass_of_methodNamed hB.named
  have hlocks := hB.notSynchronized
  have hfix : CallFix p m c cX7_comesTrue 4 s args wsX7_comesTrue RX7 := ⟨hx, hb, hml, hown, hts⟩
  have hinX7 : ∀ w ∈ wsX70, w ∈ wsX7_comesTrue := by decide +kernel
  have lk1 := hts (.fieldLink RX7 19 "ShadeTree" "grid" "LShadeTree$Grid;") (by decide +kernel)
  have lk2 := hts (.fieldLink RX7 44 "ShadeTree" "trialTree" "LShadeTree$Tree;") (by decide +kernel)
  have lk3 := hts (.fieldLink RX7 41 "ShadeTree" "trial" "LShadeTree$Shades;") (by decide +kernel)
  rw [show entryFrame m args 4 = entryFrame m ([.ref (q 0), .int x1, .int x2, .int x3] : List Value).toArray 4 by rw [hargs], lg_entry_eq]
  have hl := lv_entry ([.ref (q 0), .int x1, .int x2, .int x3]) (n := 4) (Nat.le_of_ble_eq_true rfl)
  generalize (lg_sl ([.ref (q 0), .int x1, .int x2, .int x3]) ++ List.replicate (4 - (lg_sl ([.ref (q 0), .int x1, .int x2, .int x3])).length) Slot.unset).toArray = ls at hl ⊢
  have hl : lv_has ls 4 [(0, .ref (q 0)), (1, .int x1), (2, .int x2), (3, .int x3)] := hl
  subst hsz
  have hD := hD0.self (sz := s.heap.size)
  generalize hAe : va_A (sh_w7 q cI cJ cZ I J A B) s.heap.size = Az at hD ⊢
  have hA : ∀ q : Nat, s.heap.size ≤ q → Az q := fun q h => by rw [← hAe]; exact Or.inr h
  have hS : va_S Az s.heap s.heap [] := va_S.rf
  generalize hQ : MQ below (sh_Qi D (sh_ty cI cJ cZ) Az (sh_w7 q cI cJ cZ I J A oB) o) args s 0 0 Az = Q
  unfold fX7_comesTrue at h
  refine lv_iload_n hx hb dX7_comesTrue_0 rfl (lv_at hl 1 rfl) ?_
  by_cases g1 : x1 = 1
  · rw [if_pos g1] at h
    refine lv_tableIn (off := 43) (tgt := 44) hx hb dX7_comesTrue_1 (by rw [g1]; decide) (by rw [g1]; decide) (by rw [g1]; rfl) (by decide) ?_
    refine lv_aload_n hx hb dX7_comesTrue_44 rfl (lv_at hl 0 rfl) ?_
    refine lv_iload_n hx hb dX7_comesTrue_45 rfl (lv_at hl 2 rfl) ?_
    refine lv_iload_n hx hb dX7_comesTrue_46 rfl (lv_at hl 3 rfl) ?_
    obtain ⟨v51, u52, hc53, h⟩ := sh_b2_e h
    refine sh_wVi (wn := (sh_w7 q cI cJ cZ I J A u52)) (As := [.int x2, .int x3]) (rest := []) hfix (k_X7_trialPainted l D cI cJ cZ _ q I J A B x2 x3 v51 u52 hc53) (cwV 2 hts gX7_comesTrue_X7_trialPainted rfl rfl rfl hdV_X7_trialPainted ⟨Nat.le_of_ble_eq_true rfl, Nat.le_of_ble_eq_true rfl⟩) hP hK hD hS hA [0, 1, 2, 3, 4, 5, 6, 7, 8, 9, 10, 11, 12, 13, 14, 15, 16, 17, 18, 19, 20, 21, 22] [] [0, 1, 2, 3, 4, 5, 6, 7, 8, 9, 10, 11, 12, 13, 14, 15, 16, 17, 18, 19, 20, 21, 22] rfl rfl rfl rfl rfl rfl rfl 0 rfl rfl rfl hl.1 rfl (Nat.le_of_ble_eq_true rfl) dX7_comesTrue_47 ⟨Nat.zero_le _, Nat.zero_le _⟩ (fun H locs hP hD hS => ?_)
    obtain ⟨v54, hcv54, h⟩ := sh_b1_e h
    obtain ⟨hnv54, rfl⟩ := sh_zr_e hcv54
    cases h
    exact sh_rwz hx hb hr hlocks hQ hnv54 hK hP hD hS dX7_comesTrue_50
  · rw [if_neg g1] at h
    by_cases g2 : x1 = 2
    · rw [if_pos g2] at h
      refine lv_tableIn (off := 50) (tgt := 51) hx hb dX7_comesTrue_1 (by rw [g2]; decide) (by rw [g2]; decide) (by rw [g2]; rfl) (by decide) ?_
      refine lv_iload_n hx hb dX7_comesTrue_51 rfl (lv_at hl 2 rfl) ?_
      refine lv_if_ne (tgt := 70) hx hb dX7_comesTrue_52 (by decide) (fun g45 => ?_) (fun g45 => ?_)
      · rw [if_neg g45] at h
        refine lv_iconst (v := 0) hx hb dX7_comesTrue_70 (by decide) ?_
        cases h
        exact sh_rwz hx hb hr hlocks hQ rfl hK hP hD hS dX7_comesTrue_71
      · rw [if_pos g45] at h
        refine lv_iload_n hx hb dX7_comesTrue_55 rfl (lv_at hl 3 rfl) ?_
        refine lv_if_ne (tgt := 70) hx hb dX7_comesTrue_56 (by decide) (fun g46 => ?_) (fun g46 => ?_)
        · rw [if_neg g46] at h
          refine lv_iconst (v := 0) hx hb dX7_comesTrue_70 (by decide) ?_
          cases h
          exact sh_rwz hx hb hr hlocks hQ rfl hK hP hD hS dX7_comesTrue_71
        · rw [if_pos g46] at h
          refine lv_aload_n hx hb dX7_comesTrue_59 rfl (lv_at hl 0 rfl) ?_
          obtain ⟨v47, u48, hc49, h⟩ := sh_b2_e h
          refine sh_wVi (wn := (sh_w7 q cI cJ cZ I J A u48)) (As := []) (rest := []) hfix (k_X7_trialTurned l D cI cJ cZ _ q I J A B v47 u48 hc49) (cwV 0 hts gX7_comesTrue_X7_trialTurned rfl rfl rfl hdV_X7_trialTurned ⟨Nat.le_of_ble_eq_true rfl, Nat.le_of_ble_eq_true rfl⟩) hP hK hD hS hA [0, 1, 2, 3, 4, 5, 6, 7, 8, 9, 10, 11, 12, 13, 14, 15, 16, 17, 18, 19, 20, 21, 22] [] [0, 1, 2, 3, 4, 5, 6, 7, 8, 9, 10, 11, 12, 13, 14, 15, 16, 17, 18, 19, 20, 21, 22] rfl rfl rfl rfl rfl rfl rfl 0 rfl rfl rfl hl.1 rfl (Nat.le_of_ble_eq_true rfl) dX7_comesTrue_60 ⟨Nat.zero_le _, Nat.zero_le _⟩ (fun H locs hP hD hS => ?_)
          refine lv_if_eq (tgt := 70) hx hb dX7_comesTrue_63 (by decide) (fun g50 => ?_) (fun g50 => ?_)
          · rw [if_pos g50] at h
            refine lv_iconst (v := 0) hx hb dX7_comesTrue_70 (by decide) ?_
            cases h
            exact sh_rwz hx hb hr hlocks hQ rfl hK hP hD hS dX7_comesTrue_71
          · rw [if_neg g50] at h
            refine lv_iconst (v := 1) hx hb dX7_comesTrue_66 (by decide) ?_
            refine lv_goto (tgt := 71) hx hb dX7_comesTrue_67 (by decide) ?_
            cases h
            exact sh_rwz hx hb hr hlocks hQ rfl hK hP hD hS dX7_comesTrue_71
    · rw [if_neg g2] at h
      by_cases g3 : x1 = 3
      · rw [if_pos g3] at h
        refine lv_tableIn (off := 71) (tgt := 72) hx hb dX7_comesTrue_1 (by rw [g3]; decide) (by rw [g3]; decide) (by rw [g3]; rfl) (by decide) ?_
        refine lv_iload_n hx hb dX7_comesTrue_72 rfl (lv_at hl 3 rfl) ?_
        refine lv_if_ne (tgt := 89) hx hb dX7_comesTrue_73 (by decide) (fun g40 => ?_) (fun g40 => ?_)
        · rw [if_neg g40] at h
          refine lv_iconst (v := 0) hx hb dX7_comesTrue_89 (by decide) ?_
          cases h
          exact sh_rwz hx hb hr hlocks hQ rfl hK hP hD hS dX7_comesTrue_90
        · rw [if_pos g40] at h
          refine lv_aload_n hx hb dX7_comesTrue_76 rfl (lv_at hl 0 rfl) ?_
          refine lv_iconst (v := 0) hx hb dX7_comesTrue_77 (by decide) ?_
          refine lv_iload_n hx hb dX7_comesTrue_78 rfl (lv_at hl 2 rfl) ?_
          obtain ⟨v41, u42, hc43, h⟩ := sh_b2_e h
          refine sh_wVi (wn := (sh_w7 q cI cJ cZ I J A u42)) (As := [.int 0, .int x2]) (rest := []) hfix (k_X7_trialThinned l D cI cJ cZ _ q I J A B 0 x2 v41 u42 hc43) (cwV 2 hts gX7_comesTrue_X7_trialThinned rfl rfl rfl hdV_X7_trialThinned ⟨Nat.le_of_ble_eq_true rfl, Nat.le_of_ble_eq_true rfl⟩) hP hK hD hS hA [0, 1, 2, 3, 4, 5, 6, 7, 8, 9, 10, 11, 12, 13, 14, 15, 16, 17, 18, 19, 20, 21, 22] [] [0, 1, 2, 3, 4, 5, 6, 7, 8, 9, 10, 11, 12, 13, 14, 15, 16, 17, 18, 19, 20, 21, 22] rfl rfl rfl rfl rfl rfl rfl 0 rfl rfl rfl hl.1 rfl (Nat.le_of_ble_eq_true rfl) dX7_comesTrue_79 ⟨Nat.zero_le _, Nat.zero_le _⟩ (fun H locs hP hD hS => ?_)
          refine lv_if_eq (tgt := 89) hx hb dX7_comesTrue_82 (by decide) (fun g44 => ?_) (fun g44 => ?_)
          · rw [if_pos g44] at h
            refine lv_iconst (v := 0) hx hb dX7_comesTrue_89 (by decide) ?_
            cases h
            exact sh_rwz hx hb hr hlocks hQ rfl hK hP hD hS dX7_comesTrue_90
          · rw [if_neg g44] at h
            refine lv_iconst (v := 1) hx hb dX7_comesTrue_85 (by decide) ?_
            refine lv_goto (tgt := 90) hx hb dX7_comesTrue_86 (by decide) ?_
            cases h
            exact sh_rwz hx hb hr hlocks hQ rfl hK hP hD hS dX7_comesTrue_90
      · rw [if_neg g3] at h
        by_cases g4 : x1 = 4
        · rw [if_pos g4] at h
          refine lv_tableIn (off := 90) (tgt := 91) hx hb dX7_comesTrue_1 (by rw [g4]; decide) (by rw [g4]; decide) (by rw [g4]; rfl) (by decide) ?_
          refine lv_iload_n hx hb dX7_comesTrue_91 rfl (lv_at hl 3 rfl) ?_
          refine lv_if_ne (tgt := 108) hx hb dX7_comesTrue_92 (by decide) (fun g35 => ?_) (fun g35 => ?_)
          · rw [if_neg g35] at h
            refine lv_iconst (v := 0) hx hb dX7_comesTrue_108 (by decide) ?_
            cases h
            exact sh_rwz hx hb hr hlocks hQ rfl hK hP hD hS dX7_comesTrue_109
          · rw [if_pos g35] at h
            refine lv_aload_n hx hb dX7_comesTrue_95 rfl (lv_at hl 0 rfl) ?_
            refine lv_iconst (v := 1) hx hb dX7_comesTrue_96 (by decide) ?_
            refine lv_iload_n hx hb dX7_comesTrue_97 rfl (lv_at hl 2 rfl) ?_
            obtain ⟨v36, u37, hc38, h⟩ := sh_b2_e h
            refine sh_wVi (wn := (sh_w7 q cI cJ cZ I J A u37)) (As := [.int 1, .int x2]) (rest := []) hfix (k_X7_trialThinned l D cI cJ cZ _ q I J A B 1 x2 v36 u37 hc38) (cwV 2 hts gX7_comesTrue_X7_trialThinned rfl rfl rfl hdV_X7_trialThinned ⟨Nat.le_of_ble_eq_true rfl, Nat.le_of_ble_eq_true rfl⟩) hP hK hD hS hA [0, 1, 2, 3, 4, 5, 6, 7, 8, 9, 10, 11, 12, 13, 14, 15, 16, 17, 18, 19, 20, 21, 22] [] [0, 1, 2, 3, 4, 5, 6, 7, 8, 9, 10, 11, 12, 13, 14, 15, 16, 17, 18, 19, 20, 21, 22] rfl rfl rfl rfl rfl rfl rfl 0 rfl rfl rfl hl.1 rfl (Nat.le_of_ble_eq_true rfl) dX7_comesTrue_98 ⟨Nat.zero_le _, Nat.zero_le _⟩ (fun H locs hP hD hS => ?_)
            refine lv_if_eq (tgt := 108) hx hb dX7_comesTrue_101 (by decide) (fun g39 => ?_) (fun g39 => ?_)
            · rw [if_pos g39] at h
              refine lv_iconst (v := 0) hx hb dX7_comesTrue_108 (by decide) ?_
              cases h
              exact sh_rwz hx hb hr hlocks hQ rfl hK hP hD hS dX7_comesTrue_109
            · rw [if_neg g39] at h
              refine lv_iconst (v := 1) hx hb dX7_comesTrue_104 (by decide) ?_
              refine lv_goto (tgt := 109) hx hb dX7_comesTrue_105 (by decide) ?_
              cases h
              exact sh_rwz hx hb hr hlocks hQ rfl hK hP hD hS dX7_comesTrue_109
        · rw [if_neg g4] at h
          by_cases g5 : x1 = 5
          · rw [if_pos g5] at h
            refine lv_tableIn (off := 109) (tgt := 110) hx hb dX7_comesTrue_1 (by rw [g5]; decide) (by rw [g5]; decide) (by rw [g5]; rfl) (by decide) ?_
            refine lv_aload_n hx hb dX7_comesTrue_110 rfl (lv_at hl 0 rfl) ?_
            refine va_get (ci := 7) (v := .ref (q 3)) (C := RX7) (T := TX7) (N := 10) hx hb hts hinX7 hown hK hP 0 rfl rfl 1 (by decide) lk1 (fun _ h9 => h9) rfl dX7_comesTrue_111 ?_
            refine lv_iload_n hx hb dX7_comesTrue_114 rfl (lv_at hl 2 rfl) ?_
            obtain ⟨v25, hc26, h⟩ := sh_b1_e h
            refine sh_cVi (As := [.int x2]) (rest := []) hfix (k_X1_hasDot l D cI cJ cZ (q 3) (I 1) (I 2) (I 3) (J 0) (J 1) (J 2) x2 v25 hc26) (cwV 1 hts gX7_comesTrue_X1_hasDot rfl rfl rfl hdV_X1_hasDot ⟨Nat.le_of_ble_eq_true rfl, Nat.le_of_ble_eq_true rfl⟩) hP hK [3] rfl 3 rfl rfl rfl hl.1 rfl (Nat.le_of_ble_eq_true rfl) dX7_comesTrue_115 ⟨Nat.zero_le _, Nat.zero_le _⟩ ?_
            refine lv_if_eq (tgt := 152) hx hb dX7_comesTrue_118 (by decide) (fun g27 => ?_) (fun g27 => ?_)
            · rw [if_pos g27] at h
              refine lv_iconst (v := 0) hx hb dX7_comesTrue_152 (by decide) ?_
              cases h
              exact sh_rwz hx hb hr hlocks hQ rfl hK hP hD hS dX7_comesTrue_153
            · rw [if_neg g27] at h
              refine lv_aload_n hx hb dX7_comesTrue_121 rfl (lv_at hl 0 rfl) ?_
              refine va_get (ci := 7) (v := .ref (q 11)) (C := RX7) (T := TX7) (N := 10) hx hb hts hinX7 hown hK hP 0 rfl rfl 5 (by decide) lk2 (fun _ h9 => h9) rfl dX7_comesTrue_122 ?_
              refine lv_aload_n hx hb dX7_comesTrue_125 rfl (lv_at hl 0 rfl) ?_
              refine va_get (ci := 7) (v := .ref (q 11)) (C := RX7) (T := TX7) (N := 10) hx hb hts hinX7 hown hK hP 0 rfl rfl 5 (by decide) lk2 (fun _ h9 => h9) rfl dX7_comesTrue_126 ?_
              refine lv_iload_n hx hb dX7_comesTrue_129 rfl (lv_at hl 2 rfl) ?_
              obtain ⟨v28, hc29, h⟩ := sh_b1_e h
              refine sh_cVl (As := [.int x2]) (rest := [.ref (q 11)]) hfix (k_X6_nodeOf l D cI cJ cZ (q 3) (q 9) (q 10) (q 11) (q 12) (q 13) (I 1) (I 2) (I 3) (J 0) (J 1) (J 2) (B 1) (B 3) (A 2) (I 5) x2 v28 hc29) (cwV 1 hts gX7_comesTrue_X6_nodeOf rfl rfl rfl hdV_X6_nodeOf ⟨Nat.le_of_ble_eq_true rfl, Nat.le_of_ble_eq_true rfl⟩) hP hK [11, 12, 13, 9, 10, 3] rfl 11 rfl rfl rfl hl.1 rfl (Nat.le_of_ble_eq_true rfl) dX7_comesTrue_130 ⟨Nat.zero_le _, Nat.zero_le _⟩ ?_
              refine lv_aload_n hx hb dX7_comesTrue_133 rfl (lv_at hl 0 rfl) ?_
              refine va_get (ci := 7) (v := .ref (q 9)) (C := RX7) (T := TX7) (N := 10) hx hb hts hinX7 hown hK hP 0 rfl rfl 4 (by decide) lk3 (fun _ h9 => h9) rfl dX7_comesTrue_134 ?_
              refine lv_iload_n hx hb dX7_comesTrue_137 rfl (lv_at hl 2 rfl) ?_
              obtain ⟨v30, hc31, h⟩ := sh_b1_e h
              refine sh_cVi (As := [.int x2]) (rest := [.long v28, .ref (q 11)]) hfix (k_X2_of l D cI cJ cZ (q 3) (q 9) (q 10) (I 1) (I 2) (I 3) (J 0) (J 1) (J 2) (B 1) x2 v30 hc31) (cwV 1 hts gX7_comesTrue_X2_of rfl rfl rfl hdV_X2_of ⟨Nat.le_of_ble_eq_true rfl, Nat.le_of_ble_eq_true rfl⟩) hP hK [9, 10, 3] rfl 9 rfl rfl rfl hl.1 rfl (Nat.le_of_ble_eq_true rfl) dX7_comesTrue_138 ⟨Nat.zero_le _, Nat.zero_le _⟩ ?_
              obtain ⟨v32, hc33, h⟩ := sh_b1_e h
              refine sh_cVi (As := [.long v28, .int v30]) (rest := []) hfix (k_X6_parentLevel l D cI cJ cZ (q 3) (q 9) (q 10) (q 11) (q 12) (q 13) (I 1) (I 2) (I 3) (J 0) (J 1) (J 2) (B 1) (B 3) (A 2) (I 5) v28 v30 v32 hc33) (cwV 2 hts gX7_comesTrue_X6_parentLevel rfl rfl rfl hdV_X6_parentLevel ⟨Nat.le_of_ble_eq_true rfl, Nat.le_of_ble_eq_true rfl⟩) hP hK [11, 12, 13, 9, 10, 3] rfl 11 rfl rfl rfl hl.1 rfl (Nat.le_of_ble_eq_true rfl) dX7_comesTrue_141 ⟨Nat.zero_le _, Nat.zero_le _⟩ ?_
              refine lv_iload_n hx hb dX7_comesTrue_144 rfl (lv_at hl 3 rfl) ?_
              refine lv_icmp_ne (tgt := 152) hx hb dX7_comesTrue_145 (by decide) (fun g34 => ?_) (fun g34 => ?_)
              · rw [if_neg g34] at h
                refine lv_iconst (v := 0) hx hb dX7_comesTrue_152 (by decide) ?_
                cases h
                exact sh_rwz hx hb hr hlocks hQ rfl hK hP hD hS dX7_comesTrue_153
              · rw [if_pos g34] at h
                refine lv_iconst (v := 1) hx hb dX7_comesTrue_148 (by decide) ?_
                refine lv_goto (tgt := 153) hx hb dX7_comesTrue_149 (by decide) ?_
                cases h
                exact sh_rwz hx hb hr hlocks hQ rfl hK hP hD hS dX7_comesTrue_153
          · rw [if_neg g5] at h
            by_cases g6 : x1 = 6
            · rw [if_pos g6] at h
              refine lv_tableIn (off := 153) (tgt := 154) hx hb dX7_comesTrue_1 (by rw [g6]; decide) (by rw [g6]; decide) (by rw [g6]; rfl) (by decide) ?_
              refine lv_aload_n hx hb dX7_comesTrue_154 rfl (lv_at hl 0 rfl) ?_
              refine va_get (ci := 7) (v := .ref (q 3)) (C := RX7) (T := TX7) (N := 10) hx hb hts hinX7 hown hK hP 0 rfl rfl 1 (by decide) lk1 (fun _ h9 => h9) rfl dX7_comesTrue_155 ?_
              refine lv_aload_n hx hb dX7_comesTrue_158 rfl (lv_at hl 0 rfl) ?_
              refine va_get (ci := 7) (v := .ref (q 9)) (C := RX7) (T := TX7) (N := 10) hx hb hts hinX7 hown hK hP 0 rfl rfl 4 (by decide) lk3 (fun _ h9 => h9) rfl dX7_comesTrue_159 ?_
              refine lv_iload_n hx hb dX7_comesTrue_162 rfl (lv_at hl 3 rfl) ?_
              obtain ⟨v18, hc19, h⟩ := sh_b1_e h
              refine sh_cVl (As := [.int x3]) (rest := [.ref (q 3)]) hfix (k_X2_atLeast l D cI cJ cZ (q 3) (q 9) (q 10) (I 1) (I 2) (I 3) (J 0) (J 1) (J 2) (B 1) x3 v18 hc19) (cwV 1 hts gX7_comesTrue_X2_atLeast rfl rfl rfl hdV_X2_atLeast ⟨Nat.le_of_ble_eq_true rfl, Nat.le_of_ble_eq_true rfl⟩) hP hK [9, 10, 3] rfl 9 rfl rfl rfl hl.1 rfl (Nat.le_of_ble_eq_true rfl) dX7_comesTrue_163 ⟨Nat.zero_le _, Nat.zero_le _⟩ ?_
              refine lv_aload_n hx hb dX7_comesTrue_166 rfl (lv_at hl 0 rfl) ?_
              refine va_get (ci := 7) (v := .ref (q 3)) (C := RX7) (T := TX7) (N := 10) hx hb hts hinX7 hown hK hP 0 rfl rfl 1 (by decide) lk1 (fun _ h9 => h9) rfl dX7_comesTrue_167 ?_
              obtain ⟨v20, hc21, h⟩ := sh_b1_e h
              refine sh_cVi (As := []) (rest := [.long v18, .ref (q 3)]) hfix (k_X1_way l D cI cJ cZ (q 3) (I 1) (I 2) (I 3) (J 0) (J 1) (J 2) v20 hc21) (cwV 0 hts gX7_comesTrue_X1_way rfl rfl rfl hdV_X1_way ⟨Nat.le_of_ble_eq_true rfl, Nat.le_of_ble_eq_true rfl⟩) hP hK [3] rfl 3 rfl rfl rfl hl.1 rfl (Nat.le_of_ble_eq_true rfl) dX7_comesTrue_170 ⟨Nat.zero_le _, Nat.zero_le _⟩ ?_
              obtain ⟨v22, hc23, h⟩ := sh_b1_e h
              refine sh_cVi (As := [.long v18, .int v20]) (rest := []) hfix (k_X1_countParts l D cI cJ cZ (q 3) (I 1) (I 2) (I 3) (J 0) (J 1) (J 2) v18 v20 v22 hc23) (cwV 2 hts gX7_comesTrue_X1_countParts rfl rfl rfl hdV_X1_countParts ⟨Nat.le_of_ble_eq_true rfl, Nat.le_of_ble_eq_true rfl⟩) hP hK [3] rfl 3 rfl rfl rfl hl.1 rfl (Nat.le_of_ble_eq_true rfl) dX7_comesTrue_173 ⟨Nat.zero_le _, Nat.zero_le _⟩ ?_
              refine lv_iload_n hx hb dX7_comesTrue_176 rfl (lv_at hl 2 rfl) ?_
              refine lv_icmp_lt (tgt := 184) hx hb dX7_comesTrue_177 (by decide) (fun g24 => ?_) (fun g24 => ?_)
              · rw [if_pos g24] at h
                refine lv_iconst (v := 0) hx hb dX7_comesTrue_184 (by decide) ?_
                cases h
                exact sh_rwz hx hb hr hlocks hQ rfl hK hP hD hS dX7_comesTrue_185
              · rw [if_neg g24] at h
                refine lv_iconst (v := 1) hx hb dX7_comesTrue_180 (by decide) ?_
                refine lv_goto (tgt := 185) hx hb dX7_comesTrue_181 (by decide) ?_
                cases h
                exact sh_rwz hx hb hr hlocks hQ rfl hK hP hD hS dX7_comesTrue_185
            · rw [if_neg g6] at h
              by_cases g7 : x1 = 7
              · rw [if_pos g7] at h
                refine lv_tableIn (off := 185) (tgt := 186) hx hb dX7_comesTrue_1 (by rw [g7]; decide) (by rw [g7]; decide) (by rw [g7]; rfl) (by decide) ?_
                refine lv_aload_n hx hb dX7_comesTrue_186 rfl (lv_at hl 0 rfl) ?_
                refine va_get (ci := 7) (v := .ref (q 3)) (C := RX7) (T := TX7) (N := 10) hx hb hts hinX7 hown hK hP 0 rfl rfl 1 (by decide) lk1 (fun _ h9 => h9) rfl dX7_comesTrue_187 ?_
                refine lv_iload_n hx hb dX7_comesTrue_190 rfl (lv_at hl 2 rfl) ?_
                obtain ⟨v8, hc9, h⟩ := sh_b1_e h
                refine sh_cVi (As := [.int x2]) (rest := []) hfix (k_X1_hasDot l D cI cJ cZ (q 3) (I 1) (I 2) (I 3) (J 0) (J 1) (J 2) x2 v8 hc9) (cwV 1 hts gX7_comesTrue_X1_hasDot rfl rfl rfl hdV_X1_hasDot ⟨Nat.le_of_ble_eq_true rfl, Nat.le_of_ble_eq_true rfl⟩) hP hK [3] rfl 3 rfl rfl rfl hl.1 rfl (Nat.le_of_ble_eq_true rfl) dX7_comesTrue_191 ⟨Nat.zero_le _, Nat.zero_le _⟩ ?_
                refine lv_if_eq (tgt := 228) hx hb dX7_comesTrue_194 (by decide) (fun g10 => ?_) (fun g10 => ?_)
                · rw [if_pos g10] at h
                  refine lv_iconst (v := 0) hx hb dX7_comesTrue_228 (by decide) ?_
                  cases h
                  exact sh_rwz hx hb hr hlocks hQ rfl hK hP hD hS dX7_comesTrue_229
                · rw [if_neg g10] at h
                  refine lv_aload_n hx hb dX7_comesTrue_197 rfl (lv_at hl 0 rfl) ?_
                  refine va_get (ci := 7) (v := .ref (q 11)) (C := RX7) (T := TX7) (N := 10) hx hb hts hinX7 hown hK hP 0 rfl rfl 5 (by decide) lk2 (fun _ h9 => h9) rfl dX7_comesTrue_198 ?_
                  refine lv_aload_n hx hb dX7_comesTrue_201 rfl (lv_at hl 0 rfl) ?_
                  refine va_get (ci := 7) (v := .ref (q 11)) (C := RX7) (T := TX7) (N := 10) hx hb hts hinX7 hown hK hP 0 rfl rfl 5 (by decide) lk2 (fun _ h9 => h9) rfl dX7_comesTrue_202 ?_
                  refine lv_iload_n hx hb dX7_comesTrue_205 rfl (lv_at hl 2 rfl) ?_
                  obtain ⟨v11, hc12, h⟩ := sh_b1_e h
                  refine sh_cVl (As := [.int x2]) (rest := [.ref (q 11)]) hfix (k_X6_nodeOf l D cI cJ cZ (q 3) (q 9) (q 10) (q 11) (q 12) (q 13) (I 1) (I 2) (I 3) (J 0) (J 1) (J 2) (B 1) (B 3) (A 2) (I 5) x2 v11 hc12) (cwV 1 hts gX7_comesTrue_X6_nodeOf rfl rfl rfl hdV_X6_nodeOf ⟨Nat.le_of_ble_eq_true rfl, Nat.le_of_ble_eq_true rfl⟩) hP hK [11, 12, 13, 9, 10, 3] rfl 11 rfl rfl rfl hl.1 rfl (Nat.le_of_ble_eq_true rfl) dX7_comesTrue_206 ⟨Nat.zero_le _, Nat.zero_le _⟩ ?_
                  refine lv_aload_n hx hb dX7_comesTrue_209 rfl (lv_at hl 0 rfl) ?_
                  refine va_get (ci := 7) (v := .ref (q 9)) (C := RX7) (T := TX7) (N := 10) hx hb hts hinX7 hown hK hP 0 rfl rfl 4 (by decide) lk3 (fun _ h9 => h9) rfl dX7_comesTrue_210 ?_
                  refine lv_iload_n hx hb dX7_comesTrue_213 rfl (lv_at hl 2 rfl) ?_
                  obtain ⟨v13, hc14, h⟩ := sh_b1_e h
                  refine sh_cVi (As := [.int x2]) (rest := [.long v11, .ref (q 11)]) hfix (k_X2_of l D cI cJ cZ (q 3) (q 9) (q 10) (I 1) (I 2) (I 3) (J 0) (J 1) (J 2) (B 1) x2 v13 hc14) (cwV 1 hts gX7_comesTrue_X2_of rfl rfl rfl hdV_X2_of ⟨Nat.le_of_ble_eq_true rfl, Nat.le_of_ble_eq_true rfl⟩) hP hK [9, 10, 3] rfl 9 rfl rfl rfl hl.1 rfl (Nat.le_of_ble_eq_true rfl) dX7_comesTrue_214 ⟨Nat.zero_le _, Nat.zero_le _⟩ ?_
                  obtain ⟨v15, hc16, h⟩ := sh_b1_e h
                  refine sh_cVi (As := [.long v11, .int v13]) (rest := []) hfix (k_X6_rise l D cI cJ cZ (q 3) (q 9) (q 10) (q 11) (q 12) (q 13) (I 1) (I 2) (I 3) (J 0) (J 1) (J 2) (B 1) (B 3) (A 2) (I 5) v11 v13 v15 hc16) (cwV 2 hts gX7_comesTrue_X6_rise rfl rfl rfl hdV_X6_rise ⟨Nat.le_of_ble_eq_true rfl, Nat.le_of_ble_eq_true rfl⟩) hP hK [11, 12, 13, 9, 10, 3] rfl 11 rfl rfl rfl hl.1 rfl (Nat.le_of_ble_eq_true rfl) dX7_comesTrue_217 ⟨Nat.zero_le _, Nat.zero_le _⟩ ?_
                  refine lv_iload_n hx hb dX7_comesTrue_220 rfl (lv_at hl 3 rfl) ?_
                  refine lv_icmp_ne (tgt := 228) hx hb dX7_comesTrue_221 (by decide) (fun g17 => ?_) (fun g17 => ?_)
                  · rw [if_neg g17] at h
                    refine lv_iconst (v := 0) hx hb dX7_comesTrue_228 (by decide) ?_
                    cases h
                    exact sh_rwz hx hb hr hlocks hQ rfl hK hP hD hS dX7_comesTrue_229
                  · rw [if_pos g17] at h
                    refine lv_iconst (v := 1) hx hb dX7_comesTrue_224 (by decide) ?_
                    refine lv_goto (tgt := 229) hx hb dX7_comesTrue_225 (by decide) ?_
                    cases h
                    exact sh_rwz hx hb hr hlocks hQ rfl hK hP hD hS dX7_comesTrue_229
              · rw [if_neg g7] at h
                refine lv_tableOut (tgt := 230) hx hb dX7_comesTrue_1 (by have k0 := lv_neT (a := 1) g1 rfl; have k1 := lv_neT (a := 2) g2 rfl; have k2 := lv_neT (a := 3) g3 rfl; have k3 := lv_neT (a := 4) g4 rfl; have k4 := lv_neT (a := 5) g5 rfl; have k5 := lv_neT (a := 6) g6 rfl; have k6 := lv_neT (a := 7) g7 rfl; omega) (by decide) ?_
                refine lv_iconst (v := 0) hx hb dX7_comesTrue_230 (by decide) ?_
                cases h
                exact sh_rwz hx hb hr hlocks hQ rfl hK hP hD hS dX7_comesTrue_231
theorem hdV_X7_judge : yX7_judge.cls = RX7 ∧ yX7_judge.cls ≠ "java/lang/invoke/MethodHandle" ∧ yX7_judge.cls ≠ "java/lang/invoke/VarHandle" ∧ (parseMethodDescriptor yX7_judge.desc).map (fun d => d.parameters.length) = some 2 := by decide +kernel
abbrev rmX7_judge : Room := { frames := 7, cells := 0, slots := 0, locals := 172 }
set_option maxHeartbeats 4000000 in
set_option maxRecDepth 100000 in
theorem k_X7_judge (l : Launch) (D : va_G) (cI cJ cZ : ClassId) (sz : Nat) (q : Nat → Nat) (I : Nat → Int32) (J : Nat → Int64) (A : Nat → Nat → Int32) (B : Nat → Nat → Int64) (x1 : Int32) (x2 : Int64) (o : Int32) (oB : Nat → Nat → Int64) (h : fX7_judge I J A B x1 x2 = some (o, oB)) : Met l yX7_judge wsX7_judge rmX7_judge (sh_Pw D (sh_ty cI cJ cZ) sz (sh_w7 q cI cJ cZ I J A B) [.ref (q 0), .int x1, .long x2]) (sh_Qi D (sh_ty cI cJ cZ) (va_A (sh_w7 q cI cJ cZ I J A B) sz) (sh_w7 q cI cJ cZ I J A oB) o) 0 0 (va_A (sh_w7 q cI cJ cZ I J A B) sz) := by
  refine Met.ofW (cc := cX7_judge) (maxL := 6) (ret := (some .int)) (by decide) rfl ?_
  intro p e s m args below meth c s₁ hB hml hv
  obtain ⟨hargs, hsz, hP, hK, hD0⟩ := hv
  have hx := hB.exec
  have hb := hB.bytes
  have hr := hB.returns
  have hts := atoms_spec (ws := wsX7_judge) hB.pre
  have hown : s.vm.findClass RX7 = some m.cls := findClass_of_methodNamed hB.named
  have hlocks := hB.notSynchronized
  have hfix : CallFix p m c cX7_judge 6 s args wsX7_judge RX7 := ⟨hx, hb, hml, hown, hts⟩
  have hinX7 : ∀ w ∈ wsX70, w ∈ wsX7_judge := by decide +kernel
  have lk1 := hts (.fieldLink RX7 41 "ShadeTree" "trial" "LShadeTree$Shades;") (by decide +kernel)
  have lk2 := hts (.fieldLink RX7 28 "ShadeTree" "now" "LShadeTree$Shades;") (by decide +kernel)
  have lk3 := hts (.constantLong RX7 224 (10000)) (by decide +kernel)
  rw [show entryFrame m args 6 = entryFrame m ([.ref (q 0), .int x1, .long x2] : List Value).toArray 6 by rw [hargs], lg_entry_eq]
  have hl := lv_entry ([.ref (q 0), .int x1, .long x2]) (n := 6) (Nat.le_of_ble_eq_true rfl)
  generalize (lg_sl ([.ref (q 0), .int x1, .long x2]) ++ List.replicate (6 - (lg_sl ([.ref (q 0), .int x1, .long x2])).length) Slot.unset).toArray = ls at hl ⊢
  have hl : lv_has ls 6 [(0, .ref (q 0)), (1, .int x1), (2, .long x2)] := hl
  subst hsz
  have hD := hD0.self (sz := s.heap.size)
  generalize hAe : va_A (sh_w7 q cI cJ cZ I J A B) s.heap.size = Az at hD ⊢
  have hA : ∀ q : Nat, s.heap.size ≤ q → Az q := fun q h => by rw [← hAe]; exact Or.inr h
  have hS : va_S Az s.heap s.heap [] := va_S.rf
  generalize hQ : MQ below (sh_Qi D (sh_ty cI cJ cZ) Az (sh_w7 q cI cJ cZ I J A oB) o) args s 0 0 Az = Q
  unfold fX7_judge at h
  refine lv_iload_n hx hb dX7_judge_0 rfl (lv_at hl 1 rfl) ?_
  refine lv_iconst (v := 1) hx hb dX7_judge_1 (by decide) ?_
  refine lv_icmp_lt (tgt := 26) hx hb dX7_judge_2 (by decide) (fun g1 => ?_) (fun g1 => ?_)
  · rw [if_pos g1] at h
    refine lv_bipush (v := -2) hx hb dX7_judge_26 (by decide) ?_
    cases h
    exact sh_rwi hx hb hr hlocks hQ hK hP hD hS dX7_judge_28
  · rw [if_neg g1] at h
    refine lv_iload_n hx hb dX7_judge_5 rfl (lv_at hl 1 rfl) ?_
    refine lv_iconst (v := 4) hx hb dX7_judge_6 (by decide) ?_
    refine lv_icmp_gt (tgt := 26) hx hb dX7_judge_7 (by decide) (fun g2 => ?_) (fun g2 => ?_)
    · rw [if_pos g2] at h
      refine lv_bipush (v := -2) hx hb dX7_judge_26 (by decide) ?_
      cases h
      exact sh_rwi hx hb hr hlocks hQ hK hP hD hS dX7_judge_28
    · rw [if_neg g2] at h
      refine lv_lload_n hx hb dX7_judge_10 rfl (lv_at hl 2 rfl) ?_
      refine lv_lconst (v := 0) hx hb dX7_judge_11 (by decide) ?_
      refine sh_llt (tgt := 26) hx hb dX7_judge_12 dX7_judge_13 (by decide) (fun g3 => ?_) (fun g3 => ?_)
      · rw [if_pos g3] at h
        refine lv_bipush (v := -2) hx hb dX7_judge_26 (by decide) ?_
        cases h
        exact sh_rwi hx hb hr hlocks hQ hK hP hD hS dX7_judge_28
      · rw [if_neg g3] at h
        refine lv_lload_n hx hb dX7_judge_16 rfl (lv_at hl 2 rfl) ?_
        refine lv_iload_n hx hb dX7_judge_17 rfl (lv_at hl 1 rfl) ?_
        obtain ⟨v4, hc5, h⟩ := sh_b1_e h
        refine sh_cSl (As := [.long x2, .int x1]) (rest := []) hfix (k_X7_withoutLast l D cI cJ cZ x2 x1 v4 hc5) (va_cwS 2 hts gX7_judge_X7_withoutLast rfl rfl rfl hdS_X7_withoutLast ⟨Nat.le_of_ble_eq_true rfl, Nat.le_of_ble_eq_true rfl⟩) hP hK [] rfl rfl hl.1 rfl (Nat.le_of_ble_eq_true rfl) dX7_judge_18 ⟨Nat.zero_le _, Nat.zero_le _⟩ ?_
        refine lv_lconst (v := 0) hx hb dX7_judge_21 (by decide) ?_
        refine sh_leq (tgt := 29) hx hb dX7_judge_22 dX7_judge_23 (by decide) (fun g6 => ?_) (fun g6 => ?_)
        · rw [if_pos g6] at h
          refine lv_aload_n hx hb dX7_judge_29 rfl (lv_at hl 0 rfl) ?_
          refine va_get (ci := 7) (v := .ref (q 9)) (C := RX7) (T := TX7) (N := 10) hx hb hts hinX7 hown hK hP 0 rfl rfl 4 (by decide) lk1 (fun _ h9 => h9) rfl dX7_judge_30 ?_
          refine lv_aload_n hx hb dX7_judge_33 rfl (lv_at hl 0 rfl) ?_
          refine va_get (ci := 7) (v := .ref (q 4)) (C := RX7) (T := TX7) (N := 10) hx hb hts hinX7 hown hK hP 0 rfl rfl 2 (by decide) lk2 (fun _ h9 => h9) rfl dX7_judge_34 ?_
          obtain ⟨u7, hc8, h⟩ := sh_b1_e h
          refine sh_wVv (wn := (sh_w7 q cI cJ cZ I J A (va_up B 1 u7))) (As := [.ref (q 4)]) (rest := []) hfix (k_X2_copy l D cI cJ cZ _ (q 3) (q 9) (q 10) (q 4) (q 5) (B 1) (B 0) u7 hc8) (cwV 1 hts gX7_judge_X2_copy rfl rfl rfl hdV_X2_copy ⟨Nat.le_of_ble_eq_true rfl, Nat.le_of_ble_eq_true rfl⟩) hP hK hD hS hA [9, 10, 4, 5] [0, 1, 2, 3, 6, 7, 8, 11, 12, 13, 14, 15, 16, 17, 18, 19, 20, 21, 22] [0, 1, 2, 3, 21, 22, 4, 5, 6, 19, 20, 7, 8, 9, 10, 11, 12, 13, 14, 15, 16, 17, 18] rfl rfl rfl rfl rfl rfl rfl 9 rfl rfl rfl hl.1 rfl (Nat.le_of_ble_eq_true rfl) dX7_judge_37 ⟨Nat.zero_le _, Nat.zero_le _⟩ (fun H locs hP hD hS => ?_)
          refine lv_iconst (v := 0) hx hb dX7_judge_40 (by decide) ?_
          refine lv_istore (lv' := [(4, .int 0), (0, .ref (q 0)), (1, .int x1), (2, .long x2)]) hx hb dX7_judge_41 hl (by decide) rfl (fun ls hl => ?_)
          have LP16 : ∀ (n : Nat) (x1 : Int32) (x2 : Int64) (x4 : Int32) (B : Nat → Nat → Int64) (z : (Int32 × (Nat → Nat → Int64)) ⊕ ((Nat → Nat → Int64))) (H : Heap) (locs : List Loc) (ls : Array Slot), fX7_judge_L43 n x1 x2 x4 I J A B = some z → lv_has ls 6 [(0, .ref (q 0)), (1, .int x1), (2, .long x2), (4, .int x4)] → va_P D vwCl (sh_w7 q cI cJ cZ I J A B) H → va_D Az (sh_w7 q cI cJ cZ I J A B) → va_S Az s.heap H locs → (∀ x, z = .inl x → x = (o, oB)) → (∀ (t : (Nat → Nat → Int64)), z = .inr t → ∀ (H : Heap) (locs : List Loc) (ls : Array Slot), lv_has ls 6 [] → va_P D vwCl (sh_w7 q cI cJ cZ I J A t) H → va_D Az (sh_w7 q cI cJ cZ I J A t) → va_S Az s.heap H locs → W p l e (headSpec wsX7_judge rmX7_judge).room s m args below meth c H locs 0 0 Q (F0 m 101 ls [])) → W p l e (headSpec wsX7_judge rmX7_judge).room s m args below meth c H locs 0 0 Q (F0 m 43 ls []) := by
            intro n
            induction n with
            | zero =>
              intro x1 x2 x4 B z H locs ls h hl hP hD hS hret hk
              exact nomatch ((fX7_judge_L43_z x1 x2 x4 I J A B).symm.trans h)
            | succ n ih =>
              intro x1 x2 x4 B z H locs ls h hl hP hD hS hret hk
              rw [fX7_judge_L43_s] at h
              refine lv_iload hx hb dX7_judge_43 (lv_at hl 3 rfl) ?_
              refine lv_iload_n hx hb dX7_judge_45 rfl (lv_at hl 1 rfl) ?_
              refine lv_icmp_ge (tgt := 101) hx hb dX7_judge_46 (by decide) (fun g9 => ?_) (fun g9 => ?_)
              · rw [if_pos g9] at h
                exact hk B (Option.some.inj h).symm _ _ ls (lv_sub hl [] rfl) hP hD hS
              · rw [if_neg g9] at h
                refine lv_lload_n hx hb dX7_judge_49 rfl (lv_at hl 2 rfl) ?_
                refine lv_iload_n hx hb dX7_judge_50 rfl (lv_at hl 1 rfl) ?_
                refine lv_iconst (v := 1) hx hb dX7_judge_51 (by decide) ?_
                refine lv_isub hx hb dX7_judge_52 ?_
                refine lv_iload hx hb dX7_judge_53 (lv_at hl 3 rfl) ?_
                refine lv_isub hx hb dX7_judge_55 ?_
                obtain ⟨v10, hc11, h⟩ := sh_b1_e h
                refine sh_cSl (As := [.long x2, .int ((x1 - 1) - x4)]) (rest := []) hfix (k_X7_withoutLast l D cI cJ cZ x2 ((x1 - 1) - x4) v10 hc11) (va_cwS 2 hts gX7_judge_X7_withoutLast rfl rfl rfl hdS_X7_withoutLast ⟨Nat.le_of_ble_eq_true rfl, Nat.le_of_ble_eq_true rfl⟩) hP hK [] rfl rfl hl.1 rfl (Nat.le_of_ble_eq_true rfl) dX7_judge_56 ⟨Nat.zero_le _, Nat.zero_le _⟩ ?_
                refine lv_ldc2 hx hb hown lk3 dX7_judge_59 ?_
                refine lv_lrem hx hb dX7_judge_62 (by decide) ?_
                refine lv_l2i (v := (Int64.toInt32 (v10 - v10 / 10000 * 10000))) hx hb dX7_judge_63 rfl ?_
                refine lv_istore (lv' := [(5, .int (Int64.toInt32 (v10 - v10 / 10000 * 10000))), (0, .ref (q 0)), (1, .int x1), (2, .long x2), (4, .int x4)]) hx hb dX7_judge_64 hl (by decide) rfl (fun ls hl => ?_)
                refine lv_aload_n hx hb dX7_judge_66 rfl (lv_at hl 1 rfl) ?_
                refine lv_iload hx hb dX7_judge_67 (lv_at hl 0 rfl) ?_
                refine lv_sipush (v := 1000) hx hb dX7_judge_69 (by decide) ?_
                refine lv_idiv hx hb dX7_judge_72 (by decide) ?_
                refine lv_iload hx hb dX7_judge_73 (lv_at hl 0 rfl) ?_
                refine lv_bipush (v := 10) hx hb dX7_judge_75 (by decide) ?_
                refine lv_idiv hx hb dX7_judge_77 (by decide) ?_
                refine lv_bipush (v := 100) hx hb dX7_judge_78 (by decide) ?_
                refine lv_irem hx hb dX7_judge_80 (by decide) ?_
                refine lv_iload hx hb dX7_judge_81 (lv_at hl 0 rfl) ?_
                refine lv_bipush (v := 10) hx hb dX7_judge_83 (by decide) ?_
                refine lv_irem hx hb dX7_judge_85 (by decide) ?_
                obtain ⟨v12, u13, hc14, h⟩ := sh_b2_e h
                refine sh_wVi (wn := (sh_w7 q cI cJ cZ I J A u13)) (As := [.int ((Int64.toInt32 (v10 - v10 / 10000 * 10000)) / 1000), .int (((Int64.toInt32 (v10 - v10 / 10000 * 10000)) / 10) - ((Int64.toInt32 (v10 - v10 / 10000 * 10000)) / 10) / 100 * 100), .int ((Int64.toInt32 (v10 - v10 / 10000 * 10000)) - (Int64.toInt32 (v10 - v10 / 10000 * 10000)) / 10 * 10)]) (rest := []) hfix (k_X7_comesTrue l D cI cJ cZ _ q I J A B ((Int64.toInt32 (v10 - v10 / 10000 * 10000)) / 1000) (((Int64.toInt32 (v10 - v10 / 10000 * 10000)) / 10) - ((Int64.toInt32 (v10 - v10 / 10000 * 10000)) / 10) / 100 * 100) ((Int64.toInt32 (v10 - v10 / 10000 * 10000)) - (Int64.toInt32 (v10 - v10 / 10000 * 10000)) / 10 * 10) v12 u13 hc14) (cwV 3 hts gX7_judge_X7_comesTrue rfl rfl rfl hdV_X7_comesTrue ⟨Nat.le_of_ble_eq_true rfl, Nat.le_of_ble_eq_true rfl⟩) hP hK hD hS hA [0, 1, 2, 3, 4, 5, 6, 7, 8, 9, 10, 11, 12, 13, 14, 15, 16, 17, 18, 19, 20, 21, 22] [] [0, 1, 2, 3, 4, 5, 6, 7, 8, 9, 10, 11, 12, 13, 14, 15, 16, 17, 18, 19, 20, 21, 22] rfl rfl rfl rfl rfl rfl rfl 0 rfl rfl rfl hl.1 rfl (Nat.le_of_ble_eq_true rfl) dX7_judge_86 ⟨Nat.zero_le _, Nat.zero_le _⟩ (fun H locs hP hD hS => ?_)
                refine lv_if_ne (tgt := 95) hx hb dX7_judge_89 (by decide) (fun g15 => ?_) (fun g15 => ?_)
                · rw [if_neg g15] at h
                  refine lv_iinc (v := (x4 + 1)) (lv' := [(4, .int (x4 + 1)), (5, .int (Int64.toInt32 (v10 - v10 / 10000 * 10000))), (0, .ref (q 0)), (1, .int x1), (2, .long x2)]) hx hb dX7_judge_95 hl (k := 4) rfl rfl (by decide) rfl (fun ls hl => ?_)
                  refine lv_goto (tgt := 43) hx hb dX7_judge_98 (by decide) ?_
                  exact ih x1 x2 (x4 + 1) u13 z _ _ ls h (lv_sub hl [2, 3, 4, 0] rfl) hP hD hS hret hk
                · rw [if_pos g15] at h
                  refine lv_iload hx hb dX7_judge_92 (lv_at hl 4 rfl) ?_
                  cases hret _ (Option.some.inj h).symm
                  exact sh_rwi hx hb hr hlocks hQ hK hP hD hS dX7_judge_94
          obtain ⟨z17, hcz17, hrz17, hkz17⟩ := sh_bs_e h
          refine LP16 sh_fu x1 x2 0 (va_up B 1 u7) z17 _ _ ls hcz17 (lv_sub hl [1, 2, 3, 0] rfl) hP hD hS hrz17 (fun t18 et18 H locs ls hl hP hD hS => ?_)
          have h := hkz17 t18 et18
          refine lv_bipush (v := -9) hx hb dX7_judge_101 (by decide) ?_
          cases h
          exact sh_rwi hx hb hr hlocks hQ hK hP hD hS dX7_judge_103
        · rw [if_neg g6] at h
          refine lv_bipush (v := -2) hx hb dX7_judge_26 (by decide) ?_
          cases h
          exact sh_rwi hx hb hr hlocks hQ hK hP hD hS dX7_judge_28
