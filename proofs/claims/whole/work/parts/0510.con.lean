theorem hdS_X8_box : yX8_box.cls ≠ "java/lang/invoke/MethodHandle" ∧ yX8_box.cls ≠ "java/lang/invoke/VarHandle" ∧ (parseMethodDescriptor yX8_box.desc).map (fun d => d.parameters.length) = some 3 := by decide +kernel
abbrev rmX8_box : Room := { frames := 1, cells := 0, slots := 0, locals := 22 }
set_option maxHeartbeats 4000000 in
set_option maxRecDepth 100000 in
theorem k_X8_box (l : Launch) (D : va_G) (cI cJ cZ : ClassId) (aA : Nat) (pA : Nat → Int32) (x1 : Int64) (x3 : Int32) (o : Int32) (h : fX8_box pA x1 x3 = some o) : Met l yX8_box wsX8_box rmX8_box (sh_Pr D (sh_ty cI cJ cZ) [(aA, .inl (cI, 39, .inl pA))] [.ref aA, .long x1, .int x3]) (vp_Si (fun z => z = o)) 0 0 (fun _ => False) := by
  refine Met.ofW (cc := cX8_box) (maxL := 8) (ret := (some .int)) (by decide) rfl ?_
  intro p e s m args below meth c s₁ hB hml hv
  obtain ⟨hargs, hP, hK⟩ := hv
  have hx := hB.exec
  have hb := hB.bytes
  have hr := hB.returns
  have hts := atoms_spec (ws := wsX8_box) hB.pre
  have hown : s.vm.findClass RX8 = some m.cls := findClass_of_methodNamed hB.named
  have hlocks := hB.notSynchronized
  have hfix : CallFix p m c cX8_box 8 s args wsX8_box RX8 := ⟨hx, hb, hml, hown, hts⟩
  rw [show entryFrame m args 8 = entryFrame m ([.ref aA, .long x1, .int x3] : List Value).toArray 8 by rw [hargs], lg_entry_eq]
  have hl := lv_entry ([.ref aA, .long x1, .int x3]) (n := 8) (Nat.le_of_ble_eq_true rfl)
  generalize (lg_sl ([.ref aA, .long x1, .int x3]) ++ List.replicate (8 - (lg_sl ([.ref aA, .long x1, .int x3])).length) Slot.unset).toArray = ls at hl ⊢
  have hl : lv_has ls 8 [(0, .ref aA), (1, .long x1), (3, .int x3)] := hl
  generalize hQ : MQ below (vp_Si (fun z => z = o)) args s 0 0 (fun _ => False) = Q
  unfold fX8_box at h
  refine lv_bipush (v := 6) hx hb dX8_box_0 (by decide) ?_
  refine lv_istore (lv' := [(4, .int 6), (0, .ref aA), (1, .long x1), (3, .int x3)]) hx hb dX8_box_2 hl (by decide) rfl (fun ls hl => ?_)
  refine lv_iconst (v := -1) hx hb dX8_box_4 (by decide) ?_
  refine lv_istore (lv' := [(5, .int (-1)), (4, .int 6), (0, .ref aA), (1, .long x1), (3, .int x3)]) hx hb dX8_box_5 hl (by decide) rfl (fun ls hl => ?_)
  refine lv_iconst (v := 0) hx hb dX8_box_7 (by decide) ?_
  refine lv_istore (lv' := [(6, .int 0), (5, .int (-1)), (4, .int 6), (0, .ref aA), (1, .long x1), (3, .int x3)]) hx hb dX8_box_8 hl (by decide) rfl (fun ls hl => ?_)
  have LP16 : ∀ (n : Nat) (x1 : Int64) (x3 : Int32) (x4 : Int32) (x5 : Int32) (x6 : Int32) (ow4 : Int32) (ow5 : Int32) (ls : Array Slot), fX8_box_L10 n x1 x3 x4 x5 x6 pA = some (ow4, ow5) → lv_has ls 8 [(0, .ref aA), (1, .long x1), (3, .int x3), (4, .int x4), (5, .int x5), (6, .int x6)] → (∀ (ls : Array Slot), lv_has ls 8 [(4, .int ow4), (5, .int ow5)] → W p l e (headSpec wsX8_box rmX8_box).room s m args below meth c s.heap [] 0 0 Q (F0 m 87 ls [])) → W p l e (headSpec wsX8_box rmX8_box).room s m args below meth c s.heap [] 0 0 Q (F0 m 10 ls []) := by
    intro n
    induction n with
    | zero =>
      intro x1 x3 x4 x5 x6 ow4 ow5 ls h hl hk
      exact nomatch ((fX8_box_L10_z x1 x3 x4 x5 x6 pA).symm.trans h)
    | succ n ih =>
      intro x1 x3 x4 x5 x6 ow4 ow5 ls h hl hk
      rw [fX8_box_L10_s] at h
      refine lv_iload hx hb dX8_box_10 (lv_at hl 5 rfl) ?_
      refine lv_aload_n hx hb dX8_box_12 rfl (lv_at hl 0 rfl) ?_
      obtain ⟨v1, hc2, h⟩ := sh_b1_e h
      refine sh_cSi (As := [.ref aA]) (rest := [.int x6]) hfix (k_X8_dotsOf l D cI cJ cZ aA pA v1 hc2) (va_cwS 1 hts gX8_box_X8_dotsOf rfl rfl rfl hdS_X8_dotsOf ⟨Nat.le_of_ble_eq_true rfl, Nat.le_of_ble_eq_true rfl⟩) hP hK [0] rfl rfl hl.1 rfl (Nat.le_of_ble_eq_true rfl) dX8_box_13 ⟨Nat.zero_le _, Nat.zero_le _⟩ ?_
      refine lv_icmp_ge (tgt := 87) hx hb dX8_box_16 (by decide) (fun g3 => ?_) (fun g3 => ?_)
      · rw [if_pos g3] at h
        cases h
        exact hk ls (lv_sub hl [3, 4] rfl) 
      · rw [if_neg g3] at h
        refine lv_lload_n hx hb dX8_box_19 rfl (lv_at hl 1 rfl) ?_
        refine lv_iload hx hb dX8_box_20 (lv_at hl 5 rfl) ?_
        obtain ⟨v4, hc5, h⟩ := sh_b1_e h
        refine sh_cSi (As := [.long x1, .int x6]) (rest := []) hfix (k_X8_has l D cI cJ cZ x1 x6 v4 hc5) (va_cwS 2 hts gX8_box_X8_has rfl rfl rfl hdS_X8_has ⟨Nat.le_of_ble_eq_true rfl, Nat.le_of_ble_eq_true rfl⟩) hP hK [] rfl rfl hl.1 rfl (Nat.le_of_ble_eq_true rfl) dX8_box_22 ⟨Nat.zero_le _, Nat.zero_le _⟩ ?_
        refine lv_if_eq (tgt := 81) hx hb dX8_box_25 (by decide) (fun g6 => ?_) (fun g6 => ?_)
        · rw [if_pos g6] at h
          refine lv_iinc (v := (x6 + 1)) (lv' := [(6, .int (x6 + 1)), (0, .ref aA), (1, .long x1), (3, .int x3), (4, .int x4), (5, .int x5)]) hx hb dX8_box_81 hl (k := 5) rfl rfl (by decide) rfl (fun ls hl => ?_)
          refine lv_goto (tgt := 10) hx hb dX8_box_84 (by decide) ?_
          exact ih x1 x3 x4 x5 (x6 + 1) ow4 ow5 ls h (lv_sub hl [1, 2, 3, 4, 5, 0] rfl)  hk
        · rw [if_neg g6] at h
          refine lv_iload_n hx hb dX8_box_28 rfl (lv_at hl 2 rfl) ?_
          refine lv_if_eq (tgt := 41) hx hb dX8_box_29 (by decide) (fun g7 => ?_) (fun g7 => ?_)
          · rw [if_pos g7] at h
            refine lv_iload hx hb dX8_box_41 (lv_at hl 5 rfl) ?_
            refine lv_aload_n hx hb dX8_box_43 rfl (lv_at hl 0 rfl) ?_
            refine lv_iconst (v := 1) hx hb dX8_box_44 (by decide) ?_
            refine sh_iald (v := (pA 1)) hx hb hK hP 0 0 rfl rfl ⟨by unfold vp_in; decide, rfl⟩ dX8_box_45 ?_
            obtain ⟨v8, hcv8, h⟩ := sh_b1_e h
            refine sh_idiv hx hb (sh_div_e hcv8) dX8_box_46 ?_
            refine lv_istore (lv' := [(7, .int v8), (0, .ref aA), (1, .long x1), (3, .int x3), (4, .int x4), (5, .int x5), (6, .int x6)]) hx hb dX8_box_47 hl (by decide) rfl (fun ls hl => ?_)
            refine lv_iload hx hb dX8_box_49 (lv_at hl 0 rfl) ?_
            refine lv_iload hx hb dX8_box_51 (lv_at hl 4 rfl) ?_
            refine lv_icmp_ge (tgt := 61) hx hb dX8_box_53 (by decide) (fun g9 => ?_) (fun g9 => ?_)
            · rw [if_pos g9] at h
              refine lv_iload hx hb dX8_box_61 (lv_at hl 4 rfl) ?_
              refine lv_istore (lv' := [(4, .int x4), (7, .int v8), (0, .ref aA), (1, .long x1), (3, .int x3), (5, .int x5), (6, .int x6)]) hx hb dX8_box_63 hl (by decide) rfl (fun ls hl => ?_)
              refine lv_iload hx hb dX8_box_65 (lv_at hl 1 rfl) ?_
              refine lv_iload hx hb dX8_box_67 (lv_at hl 5 rfl) ?_
              refine lv_icmp_le (tgt := 77) hx hb dX8_box_69 (by decide) (fun g10 => ?_) (fun g10 => ?_)
              · rw [if_pos g10] at h
                refine lv_iload hx hb dX8_box_77 (lv_at hl 5 rfl) ?_
                refine lv_istore (lv' := [(5, .int x5), (4, .int x4), (7, .int v8), (0, .ref aA), (1, .long x1), (3, .int x3), (6, .int x6)]) hx hb dX8_box_79 hl (by decide) rfl (fun ls hl => ?_)
                refine lv_iinc (v := (x6 + 1)) (lv' := [(6, .int (x6 + 1)), (5, .int x5), (4, .int x4), (7, .int v8), (0, .ref aA), (1, .long x1), (3, .int x3)]) hx hb dX8_box_81 hl (k := 6) rfl rfl (by decide) rfl (fun ls hl => ?_)
                refine lv_goto (tgt := 10) hx hb dX8_box_84 (by decide) ?_
                exact ih x1 x3 x4 x5 (x6 + 1) ow4 ow5 ls h (lv_sub hl [4, 5, 6, 2, 1, 0] rfl)  hk
              · rw [if_neg g10] at h
                refine lv_iload hx hb dX8_box_72 (lv_at hl 1 rfl) ?_
                refine lv_goto (tgt := 79) hx hb dX8_box_74 (by decide) ?_
                refine lv_istore (lv' := [(5, .int v8), (4, .int x4), (7, .int v8), (0, .ref aA), (1, .long x1), (3, .int x3), (6, .int x6)]) hx hb dX8_box_79 hl (by decide) rfl (fun ls hl => ?_)
                refine lv_iinc (v := (x6 + 1)) (lv' := [(6, .int (x6 + 1)), (5, .int v8), (4, .int x4), (7, .int v8), (0, .ref aA), (1, .long x1), (3, .int x3)]) hx hb dX8_box_81 hl (k := 6) rfl rfl (by decide) rfl (fun ls hl => ?_)
                refine lv_goto (tgt := 10) hx hb dX8_box_84 (by decide) ?_
                exact ih x1 x3 x4 v8 (x6 + 1) ow4 ow5 ls h (lv_sub hl [4, 5, 6, 2, 1, 0] rfl)  hk
            · rw [if_neg g9] at h
              refine lv_iload hx hb dX8_box_56 (lv_at hl 0 rfl) ?_
              refine lv_goto (tgt := 63) hx hb dX8_box_58 (by decide) ?_
              refine lv_istore (lv' := [(4, .int v8), (7, .int v8), (0, .ref aA), (1, .long x1), (3, .int x3), (5, .int x5), (6, .int x6)]) hx hb dX8_box_63 hl (by decide) rfl (fun ls hl => ?_)
              refine lv_iload hx hb dX8_box_65 (lv_at hl 1 rfl) ?_
              refine lv_iload hx hb dX8_box_67 (lv_at hl 5 rfl) ?_
              refine lv_icmp_le (tgt := 77) hx hb dX8_box_69 (by decide) (fun g11 => ?_) (fun g11 => ?_)
              · rw [if_pos g11] at h
                refine lv_iload hx hb dX8_box_77 (lv_at hl 5 rfl) ?_
                refine lv_istore (lv' := [(5, .int x5), (4, .int v8), (7, .int v8), (0, .ref aA), (1, .long x1), (3, .int x3), (6, .int x6)]) hx hb dX8_box_79 hl (by decide) rfl (fun ls hl => ?_)
                refine lv_iinc (v := (x6 + 1)) (lv' := [(6, .int (x6 + 1)), (5, .int x5), (4, .int v8), (7, .int v8), (0, .ref aA), (1, .long x1), (3, .int x3)]) hx hb dX8_box_81 hl (k := 6) rfl rfl (by decide) rfl (fun ls hl => ?_)
                refine lv_goto (tgt := 10) hx hb dX8_box_84 (by decide) ?_
                exact ih x1 x3 v8 x5 (x6 + 1) ow4 ow5 ls h (lv_sub hl [4, 5, 6, 2, 1, 0] rfl)  hk
              · rw [if_neg g11] at h
                refine lv_iload hx hb dX8_box_72 (lv_at hl 1 rfl) ?_
                refine lv_goto (tgt := 79) hx hb dX8_box_74 (by decide) ?_
                refine lv_istore (lv' := [(5, .int v8), (4, .int v8), (7, .int v8), (0, .ref aA), (1, .long x1), (3, .int x3), (6, .int x6)]) hx hb dX8_box_79 hl (by decide) rfl (fun ls hl => ?_)
                refine lv_iinc (v := (x6 + 1)) (lv' := [(6, .int (x6 + 1)), (5, .int v8), (4, .int v8), (7, .int v8), (0, .ref aA), (1, .long x1), (3, .int x3)]) hx hb dX8_box_81 hl (k := 6) rfl rfl (by decide) rfl (fun ls hl => ?_)
                refine lv_goto (tgt := 10) hx hb dX8_box_84 (by decide) ?_
                exact ih x1 x3 v8 v8 (x6 + 1) ow4 ow5 ls h (lv_sub hl [4, 5, 6, 2, 1, 0] rfl)  hk
          · rw [if_neg g7] at h
            refine lv_iload hx hb dX8_box_32 (lv_at hl 5 rfl) ?_
            refine lv_aload_n hx hb dX8_box_34 rfl (lv_at hl 0 rfl) ?_
            refine lv_iconst (v := 1) hx hb dX8_box_35 (by decide) ?_
            refine sh_iald (v := (pA 1)) hx hb hK hP 0 0 rfl rfl ⟨by unfold vp_in; decide, rfl⟩ dX8_box_36 ?_
            obtain ⟨v12, hcv12, h⟩ := sh_b1_e h
            refine sh_irem hx hb (sh_rem_e hcv12) dX8_box_37 ?_
            refine lv_goto (tgt := 47) hx hb dX8_box_38 (by decide) ?_
            refine lv_istore (lv' := [(7, .int v12), (0, .ref aA), (1, .long x1), (3, .int x3), (4, .int x4), (5, .int x5), (6, .int x6)]) hx hb dX8_box_47 hl (by decide) rfl (fun ls hl => ?_)
            refine lv_iload hx hb dX8_box_49 (lv_at hl 0 rfl) ?_
            refine lv_iload hx hb dX8_box_51 (lv_at hl 4 rfl) ?_
            refine lv_icmp_ge (tgt := 61) hx hb dX8_box_53 (by decide) (fun g13 => ?_) (fun g13 => ?_)
            · rw [if_pos g13] at h
              refine lv_iload hx hb dX8_box_61 (lv_at hl 4 rfl) ?_
              refine lv_istore (lv' := [(4, .int x4), (7, .int v12), (0, .ref aA), (1, .long x1), (3, .int x3), (5, .int x5), (6, .int x6)]) hx hb dX8_box_63 hl (by decide) rfl (fun ls hl => ?_)
              refine lv_iload hx hb dX8_box_65 (lv_at hl 1 rfl) ?_
              refine lv_iload hx hb dX8_box_67 (lv_at hl 5 rfl) ?_
              refine lv_icmp_le (tgt := 77) hx hb dX8_box_69 (by decide) (fun g14 => ?_) (fun g14 => ?_)
              · rw [if_pos g14] at h
                refine lv_iload hx hb dX8_box_77 (lv_at hl 5 rfl) ?_
                refine lv_istore (lv' := [(5, .int x5), (4, .int x4), (7, .int v12), (0, .ref aA), (1, .long x1), (3, .int x3), (6, .int x6)]) hx hb dX8_box_79 hl (by decide) rfl (fun ls hl => ?_)
                refine lv_iinc (v := (x6 + 1)) (lv' := [(6, .int (x6 + 1)), (5, .int x5), (4, .int x4), (7, .int v12), (0, .ref aA), (1, .long x1), (3, .int x3)]) hx hb dX8_box_81 hl (k := 6) rfl rfl (by decide) rfl (fun ls hl => ?_)
                refine lv_goto (tgt := 10) hx hb dX8_box_84 (by decide) ?_
                exact ih x1 x3 x4 x5 (x6 + 1) ow4 ow5 ls h (lv_sub hl [4, 5, 6, 2, 1, 0] rfl)  hk
              · rw [if_neg g14] at h
                refine lv_iload hx hb dX8_box_72 (lv_at hl 1 rfl) ?_
                refine lv_goto (tgt := 79) hx hb dX8_box_74 (by decide) ?_
                refine lv_istore (lv' := [(5, .int v12), (4, .int x4), (7, .int v12), (0, .ref aA), (1, .long x1), (3, .int x3), (6, .int x6)]) hx hb dX8_box_79 hl (by decide) rfl (fun ls hl => ?_)
                refine lv_iinc (v := (x6 + 1)) (lv' := [(6, .int (x6 + 1)), (5, .int v12), (4, .int x4), (7, .int v12), (0, .ref aA), (1, .long x1), (3, .int x3)]) hx hb dX8_box_81 hl (k := 6) rfl rfl (by decide) rfl (fun ls hl => ?_)
                refine lv_goto (tgt := 10) hx hb dX8_box_84 (by decide) ?_
                exact ih x1 x3 x4 v12 (x6 + 1) ow4 ow5 ls h (lv_sub hl [4, 5, 6, 2, 1, 0] rfl)  hk
            · rw [if_neg g13] at h
              refine lv_iload hx hb dX8_box_56 (lv_at hl 0 rfl) ?_
              refine lv_goto (tgt := 63) hx hb dX8_box_58 (by decide) ?_
              refine lv_istore (lv' := [(4, .int v12), (7, .int v12), (0, .ref aA), (1, .long x1), (3, .int x3), (5, .int x5), (6, .int x6)]) hx hb dX8_box_63 hl (by decide) rfl (fun ls hl => ?_)
              refine lv_iload hx hb dX8_box_65 (lv_at hl 1 rfl) ?_
              refine lv_iload hx hb dX8_box_67 (lv_at hl 5 rfl) ?_
              refine lv_icmp_le (tgt := 77) hx hb dX8_box_69 (by decide) (fun g15 => ?_) (fun g15 => ?_)
              · rw [if_pos g15] at h
                refine lv_iload hx hb dX8_box_77 (lv_at hl 5 rfl) ?_
                refine lv_istore (lv' := [(5, .int x5), (4, .int v12), (7, .int v12), (0, .ref aA), (1, .long x1), (3, .int x3), (6, .int x6)]) hx hb dX8_box_79 hl (by decide) rfl (fun ls hl => ?_)
                refine lv_iinc (v := (x6 + 1)) (lv' := [(6, .int (x6 + 1)), (5, .int x5), (4, .int v12), (7, .int v12), (0, .ref aA), (1, .long x1), (3, .int x3)]) hx hb dX8_box_81 hl (k := 6) rfl rfl (by decide) rfl (fun ls hl => ?_)
                refine lv_goto (tgt := 10) hx hb dX8_box_84 (by decide) ?_
                exact ih x1 x3 v12 x5 (x6 + 1) ow4 ow5 ls h (lv_sub hl [4, 5, 6, 2, 1, 0] rfl)  hk
              · rw [if_neg g15] at h
                refine lv_iload hx hb dX8_box_72 (lv_at hl 1 rfl) ?_
                refine lv_goto (tgt := 79) hx hb dX8_box_74 (by decide) ?_
                refine lv_istore (lv' := [(5, .int v12), (4, .int v12), (7, .int v12), (0, .ref aA), (1, .long x1), (3, .int x3), (6, .int x6)]) hx hb dX8_box_79 hl (by decide) rfl (fun ls hl => ?_)
                refine lv_iinc (v := (x6 + 1)) (lv' := [(6, .int (x6 + 1)), (5, .int v12), (4, .int v12), (7, .int v12), (0, .ref aA), (1, .long x1), (3, .int x3)]) hx hb dX8_box_81 hl (k := 6) rfl rfl (by decide) rfl (fun ls hl => ?_)
                refine lv_goto (tgt := 10) hx hb dX8_box_84 (by decide) ?_
                exact ih x1 x3 v12 v12 (x6 + 1) ow4 ow5 ls h (lv_sub hl [4, 5, 6, 2, 1, 0] rfl)  hk
  obtain ⟨w17, w18, hc19, h⟩ := sh_b2_e h
  refine LP16 sh_fu x1 x3 6 (-1) 0 w17 w18 ls hc19 (lv_sub hl [3, 4, 5, 2, 1, 0] rfl)  (fun ls hl  => ?_)
  refine lv_iload hx hb dX8_box_87 (lv_at hl 1 rfl) ?_
  refine lv_iload hx hb dX8_box_89 (lv_at hl 0 rfl) ?_
  refine lv_isub hx hb dX8_box_91 ?_
  refine lv_iconst (v := 1) hx hb dX8_box_92 (by decide) ?_
  refine lv_iadd hx hb dX8_box_93 ?_
  exact sh_roi hx hb hr hlocks hQ (Option.some.inj h) dX8_box_94
theorem hdS_X8_rise : yX8_rise.cls ≠ "java/lang/invoke/MethodHandle" ∧ yX8_rise.cls ≠ "java/lang/invoke/VarHandle" ∧ (parseMethodDescriptor yX8_rise.desc).map (fun d => d.parameters.length) = some 2 := by decide +kernel
abbrev rmX8_rise : Room := { frames := 4, cells := 0, slots := 0, locals := 102 }
set_option maxHeartbeats 4000000 in
set_option maxRecDepth 100000 in
theorem k_X8_rise (l : Launch) (D : va_G) (cI cJ cZ : ClassId) (aA : Nat) (pA : Nat → Int32) (x1 : Int64) (o : Int32) (h : fX8_rise pA x1 = some o) : Met l yX8_rise wsX8_rise rmX8_rise (sh_Pr D (sh_ty cI cJ cZ) [(aA, .inl (cI, 39, .inl pA))] [.ref aA, .long x1]) (vp_Si (fun z => z = o)) 0 0 (fun _ => False) := by
  refine Met.ofW (cc := cX8_rise) (maxL := 7) (ret := (some .int)) (by decide) rfl ?_
  intro p e s m args below meth c s₁ hB hml hv
  obtain ⟨hargs, hP, hK⟩ := hv
  have hx := hB.exec
  have hb := hB.bytes
  have hr := hB.returns
  have hts := atoms_spec (ws := wsX8_rise) hB.pre
  have hown : s.vm.findClass RX8 = some m.cls := findClass_of_methodNamed hB.named
  have hlocks := hB.notSynchronized
  have hfix : CallFix p m c cX8_rise 7 s args wsX8_rise RX8 := ⟨hx, hb, hml, hown, hts⟩
  rw [show entryFrame m args 7 = entryFrame m ([.ref aA, .long x1] : List Value).toArray 7 by rw [hargs], lg_entry_eq]
  have hl := lv_entry ([.ref aA, .long x1]) (n := 7) (Nat.le_of_ble_eq_true rfl)
  generalize (lg_sl ([.ref aA, .long x1]) ++ List.replicate (7 - (lg_sl ([.ref aA, .long x1])).length) Slot.unset).toArray = ls at hl ⊢
  have hl : lv_has ls 7 [(0, .ref aA), (1, .long x1)] := hl
  generalize hQ : MQ below (vp_Si (fun z => z = o)) args s 0 0 (fun _ => False) = Q
  unfold fX8_rise at h
  refine lv_aload_n hx hb dX8_rise_0 rfl (lv_at hl 0 rfl) ?_
  refine lv_lload_n hx hb dX8_rise_1 rfl (lv_at hl 1 rfl) ?_
  obtain ⟨v1, hc2, h⟩ := sh_b1_e h
  refine sh_cSi (As := [.ref aA, .long x1]) (rest := []) hfix (k_X8_level l D cI cJ cZ aA pA x1 v1 hc2) (va_cwS 2 hts gX8_rise_X8_level rfl rfl rfl hdS_X8_level ⟨Nat.le_of_ble_eq_true rfl, Nat.le_of_ble_eq_true rfl⟩) hP hK [0] rfl rfl hl.1 rfl (Nat.le_of_ble_eq_true rfl) dX8_rise_2 ⟨Nat.zero_le _, Nat.zero_le _⟩ ?_
  refine lv_istore_n (lv' := [(3, .int v1), (0, .ref aA), (1, .long x1)]) hx hb dX8_rise_5 rfl hl (by decide) rfl (fun ls hl => ?_)
  refine lv_aload_n hx hb dX8_rise_6 rfl (lv_at hl 1 rfl) ?_
  refine lv_lload_n hx hb dX8_rise_7 rfl (lv_at hl 2 rfl) ?_
  obtain ⟨v3, hc4, h⟩ := sh_b1_e h
  refine sh_cSi (As := [.ref aA, .long x1]) (rest := []) hfix (k_X8_brightest l D cI cJ cZ aA pA x1 v3 hc4) (va_cwS 2 hts gX8_rise_X8_brightest rfl rfl rfl hdS_X8_brightest ⟨Nat.le_of_ble_eq_true rfl, Nat.le_of_ble_eq_true rfl⟩) hP hK [0] rfl rfl hl.1 rfl (Nat.le_of_ble_eq_true rfl) dX8_rise_8 ⟨Nat.zero_le _, Nat.zero_le _⟩ ?_
  refine lv_istore (lv' := [(4, .int v3), (3, .int v1), (0, .ref aA), (1, .long x1)]) hx hb dX8_rise_11 hl (by decide) rfl (fun ls hl => ?_)
  refine lv_aload_n hx hb dX8_rise_13 rfl (lv_at hl 2 rfl) ?_
  refine lv_lload_n hx hb dX8_rise_14 rfl (lv_at hl 3 rfl) ?_
  obtain ⟨v5, hc6, h⟩ := sh_b1_e h
  refine sh_cSi (As := [.ref aA, .long x1]) (rest := []) hfix (k_X8_head l D cI cJ cZ aA pA x1 v5 hc6) (va_cwS 2 hts gX8_rise_X8_head rfl rfl rfl hdS_X8_head ⟨Nat.le_of_ble_eq_true rfl, Nat.le_of_ble_eq_true rfl⟩) hP hK [0] rfl rfl hl.1 rfl (Nat.le_of_ble_eq_true rfl) dX8_rise_15 ⟨Nat.zero_le _, Nat.zero_le _⟩ ?_
  refine lv_istore (lv' := [(5, .int v5), (4, .int v3), (3, .int v1), (0, .ref aA), (1, .long x1)]) hx hb dX8_rise_18 hl (by decide) rfl (fun ls hl => ?_)
  refine lv_iload_n hx hb dX8_rise_20 rfl (lv_at hl 2 rfl) ?_
  refine lv_iconst (v := 1) hx hb dX8_rise_21 (by decide) ?_
  refine lv_isub hx hb dX8_rise_22 ?_
  refine lv_istore (lv' := [(6, .int (v1 - 1)), (5, .int v5), (4, .int v3), (3, .int v1), (0, .ref aA), (1, .long x1)]) hx hb dX8_rise_23 hl (by decide) rfl (fun ls hl => ?_)
  have LP13 : ∀ (n : Nat) (x3 : Int32) (x4 : Int32) (x5 : Int32) (x6 : Int32) (z : (Int32) ⊕ (Unit)) (ls : Array Slot), fX8_rise_L25 n x3 x4 x5 x6 pA = some z → lv_has ls 7 [(0, .ref aA), (3, .int x3), (4, .int x4), (5, .int x5), (6, .int x6)] → (∀ x, z = .inl x → x = o) → (∀ (t : Unit), z = .inr t → ∀ (ls : Array Slot), lv_has ls 7 [] → W p l e (headSpec wsX8_rise rmX8_rise).room s m args below meth c s.heap [] 0 0 Q (F0 m 58 ls [])) → W p l e (headSpec wsX8_rise rmX8_rise).room s m args below meth c s.heap [] 0 0 Q (F0 m 25 ls []) := by
    intro n
    induction n with
    | zero =>
      intro x3 x4 x5 x6 z ls h hl hret hk
      exact nomatch ((fX8_rise_L25_z x3 x4 x5 x6 pA).symm.trans h)
    | succ n ih =>
      intro x3 x4 x5 x6 z ls h hl hret hk
      rw [fX8_rise_L25_s] at h
      refine lv_iload hx hb dX8_rise_25 (lv_at hl 4 rfl) ?_
      refine lv_if_lt (tgt := 58) hx hb dX8_rise_27 (by decide) (fun g7 => ?_) (fun g7 => ?_)
      · rw [if_pos g7] at h
        exact hk () (Option.some.inj h).symm ls (lv_sub hl [] rfl) 
      · rw [if_neg g7] at h
        refine lv_aload_n hx hb dX8_rise_30 rfl (lv_at hl 0 rfl) ?_
        refine lv_aload_n hx hb dX8_rise_31 rfl (lv_at hl 0 rfl) ?_
        refine lv_iload hx hb dX8_rise_32 (lv_at hl 3 rfl) ?_
        refine lv_iload hx hb dX8_rise_34 (lv_at hl 4 rfl) ?_
        obtain ⟨v8, hc9, h⟩ := sh_b1_e h
        refine sh_cSl (As := [.ref aA, .int x5, .int x6]) (rest := [.ref aA]) hfix (k_X8_part l D cI cJ cZ aA pA x5 x6 v8 hc9) (va_cwS 3 hts gX8_rise_X8_part rfl rfl rfl hdS_X8_part ⟨Nat.le_of_ble_eq_true rfl, Nat.le_of_ble_eq_true rfl⟩) hP hK [0] rfl rfl hl.1 rfl (Nat.le_of_ble_eq_true rfl) dX8_rise_36 ⟨Nat.zero_le _, Nat.zero_le _⟩ ?_
        obtain ⟨v10, hc11, h⟩ := sh_b1_e h
        refine sh_cSi (As := [.ref aA, .long v8]) (rest := []) hfix (k_X8_brightest l D cI cJ cZ aA pA v8 v10 hc11) (va_cwS 2 hts gX8_rise_X8_brightest rfl rfl rfl hdS_X8_brightest ⟨Nat.le_of_ble_eq_true rfl, Nat.le_of_ble_eq_true rfl⟩) hP hK [0] rfl rfl hl.1 rfl (Nat.le_of_ble_eq_true rfl) dX8_rise_39 ⟨Nat.zero_le _, Nat.zero_le _⟩ ?_
        refine lv_iload hx hb dX8_rise_42 (lv_at hl 2 rfl) ?_
        refine lv_icmp_le (tgt := 52) hx hb dX8_rise_44 (by decide) (fun g12 => ?_) (fun g12 => ?_)
        · rw [if_pos g12] at h
          refine lv_iinc (v := (x6 + (-1))) (lv' := [(6, .int (x6 + (-1))), (0, .ref aA), (3, .int x3), (4, .int x4), (5, .int x5)]) hx hb dX8_rise_52 hl (k := 4) rfl rfl (by decide) rfl (fun ls hl => ?_)
          refine lv_goto (tgt := 25) hx hb dX8_rise_55 (by decide) ?_
          exact ih x3 x4 x5 (x6 + (-1)) z ls h (lv_sub hl [1, 2, 3, 4, 0] rfl)  hret hk
        · rw [if_neg g12] at h
          refine lv_iload_n hx hb dX8_rise_47 rfl (lv_at hl 1 rfl) ?_
          refine lv_iload hx hb dX8_rise_48 (lv_at hl 4 rfl) ?_
          refine lv_isub hx hb dX8_rise_50 ?_
          exact sh_roi hx hb hr hlocks hQ (hret _ (Option.some.inj h).symm) dX8_rise_51
  obtain ⟨z14, hcz14, hrz14, hkz14⟩ := sh_bs_e h
  refine LP13 sh_fu v1 v3 v5 (v1 - 1) z14 ls hcz14 (lv_sub hl [4, 3, 2, 1, 0] rfl)  hrz14 (fun t15 et15 ls hl  => ?_)
  have h := hkz14 t15 et15
  refine lv_bipush (v := -9) hx hb dX8_rise_58 (by decide) ?_
  exact sh_roi hx hb hr hlocks hQ (Option.some.inj h) dX8_rise_60
theorem hdV_X8_write : yX8_write.cls = RX8 ∧ yX8_write.cls ≠ "java/lang/invoke/MethodHandle" ∧ yX8_write.cls ≠ "java/lang/invoke/VarHandle" ∧ (parseMethodDescriptor yX8_write.desc).map (fun d => d.parameters.length) = some 1 := by decide +kernel
abbrev rmX8_write : Room := { frames := 1, cells := 0, slots := 0, locals := 25 }
set_option maxHeartbeats 4000000 in
set_option maxRecDepth 100000 in
theorem k_X8_write (l : Launch) (D : va_G) (cI cJ cZ : ClassId) (sz : Nat) (q : Nat → Nat) (I : Nat → Int32) (S : Int64) (A : Nat → Nat → Int32) (x1 : Int32) (o : Int32) (oI : Nat → Int32) (oA : Nat → Nat → Int32) (h : fX8_write I A x1 = some (o, oI, oA)) : Met l yX8_write wsX8_write rmX8_write (sh_Pw D (sh_ty cI cJ cZ) sz (sh_w8 q cI cJ cZ I S A) [.ref (q 0), .int x1]) (sh_Qi D (sh_ty cI cJ cZ) (va_A (sh_w8 q cI cJ cZ I S A) sz) (sh_w8 q cI cJ cZ oI S oA) o) 0 0 (va_A (sh_w8 q cI cJ cZ I S A) sz) := by
  refine Met.ofW (cc := cX8_write) (maxL := 2) (ret := (some .int)) (by decide) rfl ?_
  intro p e s m args below meth c s₁ hB hml hv
  obtain ⟨hargs, hsz, hP, hK, hD0⟩ := hv
  have hx := hB.exec
  have hb := hB.bytes
  have hr := hB.returns
  have hts := atoms_spec (ws := wsX8_write) hB.pre
  have hown : s.vm.findClass RX8 = some m.cls := findClass_of_methodNamed hB.named
  have hlocks := hB.notSynchronized
  have hfix : CallFix p m c cX8_write 2 s args wsX8_write RX8 := ⟨hx, hb, hml, hown, hts⟩
  have hinX8 : ∀ w ∈ wsX80, w ∈ wsX8_write := by decide +kernel
  have lk1 := hts (.fieldLink RX8 47 "ShadeTreeModel" "thrown" "I") (by decide +kernel)
  have lk2 := hts (.constantLong RX8 106 (255)) (by decide +kernel)
  have lk3 := hts (.fieldLink RX8 108 "ShadeTreeModel" "textSize" "I") (by decide +kernel)
  have lk4 := hts (.fieldLink RX8 7 "ShadeTreeModel" "text" "[I") (by decide +kernel)
  rw [show entryFrame m args 2 = entryFrame m ([.ref (q 0), .int x1] : List Value).toArray 2 by rw [hargs], lg_entry_eq]
  have hl := lv_entry ([.ref (q 0), .int x1]) (n := 2) (Nat.le_of_ble_eq_true rfl)
  generalize (lg_sl ([.ref (q 0), .int x1]) ++ List.replicate (2 - (lg_sl ([.ref (q 0), .int x1])).length) Slot.unset).toArray = ls at hl ⊢
  have hl : lv_has ls 2 [(0, .ref (q 0)), (1, .int x1)] := hl
  subst hsz
  have hD := hD0.self (sz := s.heap.size)
  generalize hAe : va_A (sh_w8 q cI cJ cZ I S A) s.heap.size = Az at hD ⊢
  have hA : ∀ q : Nat, s.heap.size ≤ q → Az q := fun q h => by rw [← hAe]; exact Or.inr h
  have hS : va_S Az s.heap s.heap [] := va_S.rf
  generalize hQ : MQ below (sh_Qi D (sh_ty cI cJ cZ) Az (sh_w8 q cI cJ cZ oI S oA) o) args s 0 0 Az = Q
  unfold fX8_write at h
  refine lv_aload_n hx hb dX8_write_0 rfl (lv_at hl 0 rfl) ?_
  refine lv_iconst (v := 0) hx hb dX8_write_1 (by decide) ?_
  refine sh_put (wn := (sh_w8 q cI cJ cZ (upd I 0 0) S A)) (ci := 8) (v := .int 0) (ty := .int) (C := RX8) (T := TX8) (N := 21) hx hb hts hinX8 tyX8 tyX8_ok nmX8 hown hK hP hD hS 0 rfl rfl 0 (by decide) lk1 (fun _ h9 => h9) rfl (by decide +kernel) rfl rfl (Nat.le_of_ble_eq_true rfl) rfl dX8_write_2 (fun H locs hP hD hS => ?_)
  refine lv_iload_n hx hb dX8_write_5 rfl (lv_at hl 1 rfl) ?_
  refine lv_i2l (v := (Int32.toInt64 x1)) hx hb dX8_write_6 rfl ?_
  refine lv_lconst (v := 0) hx hb dX8_write_7 (by decide) ?_
  refine lv_ldc2 hx hb hown lk2 dX8_write_8 ?_
  obtain ⟨v1, hc2, h⟩ := sh_b1_e h
  refine sh_cSi (As := [.long (Int32.toInt64 x1), .long 0, .long 255]) (rest := []) hfix (k_X8_in l D cI cJ cZ (Int32.toInt64 x1) 0 255 v1 hc2) (va_cwS 3 hts gX8_write_X8_in rfl rfl rfl hdS_X8_in ⟨Nat.le_of_ble_eq_true rfl, Nat.le_of_ble_eq_true rfl⟩) hP hK [] rfl rfl hl.1 rfl (Nat.le_of_ble_eq_true rfl) dX8_write_11 ⟨Nat.zero_le _, Nat.zero_le _⟩ ?_
  refine lv_if_ne (tgt := 20) hx hb dX8_write_14 (by decide) (fun g3 => ?_) (fun g3 => ?_)
  · rw [if_neg g3] at h
    refine lv_aload_n hx hb dX8_write_20 rfl (lv_at hl 0 rfl) ?_
    refine va_get (ci := 8) (v := .int (I 1)) (C := RX8) (T := TX8) (N := 21) hx hb hts hinX8 hown hK hP 0 rfl rfl 2 (by decide) lk3 (fun _ h9 => h9) rfl dX8_write_21 ?_
    refine lv_bipush (v := 40) hx hb dX8_write_24 (by decide) ?_
    refine lv_icmp_ne (tgt := 32) hx hb dX8_write_26 (by decide) (fun g4 => ?_) (fun g4 => ?_)
    · rw [if_neg g4] at h
      refine lv_aload_n hx hb dX8_write_32 rfl (lv_at hl 0 rfl) ?_
      refine va_get (ci := 8) (v := .ref (q 1)) (C := RX8) (T := TX8) (N := 21) hx hb hts hinX8 hown hK hP 0 rfl rfl 1 (by decide) lk4 (fun _ h9 => h9) rfl dX8_write_33 ?_
      refine lv_aload_n hx hb dX8_write_36 rfl (lv_at hl 0 rfl) ?_
      refine va_get (ci := 8) (v := .int (I 1)) (C := RX8) (T := TX8) (N := 21) hx hb hts hinX8 hown hK hP 0 rfl rfl 2 (by decide) lk3 (fun _ h9 => h9) rfl dX8_write_37 ?_
      refine lv_iload_n hx hb dX8_write_40 rfl (lv_at hl 1 rfl) ?_
      obtain ⟨f5, hcf5, h⟩ := sh_b1_e h
      refine sh_iast (wn := (sh_w8 q cI cJ cZ (upd I 0 0) S (va_up A 0 f5))) hx hb hK hP hD hS 1 0 rfl rfl (sh_ast_e hcf5) rfl dX8_write_41 (fun H locs hP hD hS => ?_)
      refine lv_aload_n hx hb dX8_write_42 rfl (lv_at hl 0 rfl) ?_
      refine lv_dup hx hb dX8_write_43 rfl ?_
      refine va_get (ci := 8) (v := .int (I 1)) (C := RX8) (T := TX8) (N := 21) hx hb hts hinX8 hown hK hP 0 rfl rfl 2 (by decide) lk3 (fun _ h9 => h9) rfl dX8_write_44 ?_
      refine lv_iconst (v := 1) hx hb dX8_write_47 (by decide) ?_
      refine lv_iadd hx hb dX8_write_48 ?_
      refine sh_put (wn := (sh_w8 q cI cJ cZ (upd (upd I 0 0) 1 ((I 1) + 1)) S (va_up A 0 f5))) (ci := 8) (v := .int ((I 1) + 1)) (ty := .int) (C := RX8) (T := TX8) (N := 21) hx hb hts hinX8 tyX8 tyX8_ok nmX8 hown hK hP hD hS 0 rfl rfl 2 (by decide) lk3 (fun _ h9 => h9) rfl (by decide +kernel) rfl rfl (Nat.le_of_ble_eq_true rfl) rfl dX8_write_49 (fun H locs hP hD hS => ?_)
      refine lv_aload_n hx hb dX8_write_52 rfl (lv_at hl 0 rfl) ?_
      refine va_get (ci := 8) (v := .int ((I 1) + 1)) (C := RX8) (T := TX8) (N := 21) hx hb hts hinX8 hown hK hP 0 rfl rfl 2 (by decide) lk3 (fun _ h9 => h9) rfl dX8_write_53 ?_
      cases h
      exact sh_rwi hx hb hr hlocks hQ hK hP hD hS dX8_write_56
    · rw [if_pos g4] at h
      refine lv_bipush (v := -4) hx hb dX8_write_29 (by decide) ?_
      cases h
      exact sh_rwi hx hb hr hlocks hQ hK hP hD hS dX8_write_31
  · rw [if_pos g3] at h
    refine lv_bipush (v := -2) hx hb dX8_write_17 (by decide) ?_
    cases h
    exact sh_rwi hx hb hr hlocks hQ hK hP hD hS dX8_write_19
theorem hdV_X8_wipe : yX8_wipe.cls = RX8 ∧ yX8_wipe.cls ≠ "java/lang/invoke/MethodHandle" ∧ yX8_wipe.cls ≠ "java/lang/invoke/VarHandle" ∧ (parseMethodDescriptor yX8_wipe.desc).map (fun d => d.parameters.length) = some 0 := by decide +kernel
abbrev rmX8_wipe : Room := { frames := 0, cells := 0, slots := 0, locals := 0 }
set_option maxHeartbeats 4000000 in
set_option maxRecDepth 100000 in
theorem k_X8_wipe (l : Launch) (D : va_G) (cI cJ cZ : ClassId) (sz : Nat) (q : Nat → Nat) (I : Nat → Int32) (S : Int64) (A : Nat → Nat → Int32) (o : Int32) (oI : Nat → Int32) (h : fX8_wipe I = some (o, oI)) : Met l yX8_wipe wsX8_wipe rmX8_wipe (sh_Pw D (sh_ty cI cJ cZ) sz (sh_w8 q cI cJ cZ I S A) [.ref (q 0)]) (sh_Qi D (sh_ty cI cJ cZ) (va_A (sh_w8 q cI cJ cZ I S A) sz) (sh_w8 q cI cJ cZ oI S A) o) 0 0 (va_A (sh_w8 q cI cJ cZ I S A) sz) := by
  refine Met.ofW (cc := cX8_wipe) (maxL := 2) (ret := (some .int)) (by decide) rfl ?_
  intro p e s m args below meth c s₁ hB hml hv
  obtain ⟨hargs, hsz, hP, hK, hD0⟩ := hv
  have hx := hB.exec
  have hb := hB.bytes
  have hr := hB.returns
  have hts := atoms_spec (ws := wsX8_wipe) hB.pre
  have hown : s.vm.findClass RX8 = some m.cls := findClass_of_methodNamed hB.named
  have hlocks := hB.notSynchronized
  have hfix : CallFix p m c cX8_wipe 2 s args wsX8_wipe RX8 := ⟨hx, hb, hml, hown, hts⟩
  have hinX8 : ∀ w ∈ wsX80, w ∈ wsX8_wipe := by decide +kernel
  have lk1 := hts (.fieldLink RX8 47 "ShadeTreeModel" "thrown" "I") (by decide +kernel)
  have lk2 := hts (.fieldLink RX8 108 "ShadeTreeModel" "textSize" "I") (by decide +kernel)
  rw [show entryFrame m args 2 = entryFrame m ([.ref (q 0)] : List Value).toArray 2 by rw [hargs], lg_entry_eq]
  have hl := lv_entry ([.ref (q 0)]) (n := 2) (Nat.le_of_ble_eq_true rfl)
  generalize (lg_sl ([.ref (q 0)]) ++ List.replicate (2 - (lg_sl ([.ref (q 0)])).length) Slot.unset).toArray = ls at hl ⊢
  have hl : lv_has ls 2 [(0, .ref (q 0))] := hl
  subst hsz
  have hD := hD0.self (sz := s.heap.size)
  generalize hAe : va_A (sh_w8 q cI cJ cZ I S A) s.heap.size = Az at hD ⊢
  have hA : ∀ q : Nat, s.heap.size ≤ q → Az q := fun q h => by rw [← hAe]; exact Or.inr h
  have hS : va_S Az s.heap s.heap [] := va_S.rf
  generalize hQ : MQ below (sh_Qi D (sh_ty cI cJ cZ) Az (sh_w8 q cI cJ cZ oI S A) o) args s 0 0 Az = Q
  unfold fX8_wipe at h
  refine lv_aload_n hx hb dX8_wipe_0 rfl (lv_at hl 0 rfl) ?_
  refine lv_iconst (v := 0) hx hb dX8_wipe_1 (by decide) ?_
  refine sh_put (wn := (sh_w8 q cI cJ cZ (upd I 0 0) S A)) (ci := 8) (v := .int 0) (ty := .int) (C := RX8) (T := TX8) (N := 21) hx hb hts hinX8 tyX8 tyX8_ok nmX8 hown hK hP hD hS 0 rfl rfl 0 (by decide) lk1 (fun _ h9 => h9) rfl (by decide +kernel) rfl rfl (Nat.le_of_ble_eq_true rfl) rfl dX8_wipe_2 (fun H locs hP hD hS => ?_)
  refine lv_aload_n hx hb dX8_wipe_5 rfl (lv_at hl 0 rfl) ?_
  refine va_get (ci := 8) (v := .int (I 1)) (C := RX8) (T := TX8) (N := 21) hx hb hts hinX8 hown hK hP 0 rfl rfl 2 (by decide) lk2 (fun _ h9 => h9) rfl dX8_wipe_6 ?_
  refine lv_istore_n (lv' := [(1, .int (I 1)), (0, .ref (q 0))]) hx hb dX8_wipe_9 rfl hl (by decide) rfl (fun ls hl => ?_)
  refine lv_aload_n hx hb dX8_wipe_10 rfl (lv_at hl 1 rfl) ?_
  refine lv_iconst (v := 0) hx hb dX8_wipe_11 (by decide) ?_
  refine sh_put (wn := (sh_w8 q cI cJ cZ (upd (upd I 0 0) 1 0) S A)) (ci := 8) (v := .int 0) (ty := .int) (C := RX8) (T := TX8) (N := 21) hx hb hts hinX8 tyX8 tyX8_ok nmX8 hown hK hP hD hS 0 rfl rfl 2 (by decide) lk2 (fun _ h9 => h9) rfl (by decide +kernel) rfl rfl (Nat.le_of_ble_eq_true rfl) rfl dX8_wipe_12 (fun H locs hP hD hS => ?_)
  refine lv_iload_n hx hb dX8_wipe_15 rfl (lv_at hl 0 rfl) ?_
  cases h
  exact sh_rwi hx hb hr hlocks hQ hK hP hD hS dX8_wipe_16
theorem hdV_X8_letterAt : yX8_letterAt.cls = RX8 ∧ yX8_letterAt.cls ≠ "java/lang/invoke/MethodHandle" ∧ yX8_letterAt.cls ≠ "java/lang/invoke/VarHandle" ∧ (parseMethodDescriptor yX8_letterAt.desc).map (fun d => d.parameters.length) = some 1 := by decide +kernel
abbrev rmX8_letterAt : Room := { frames := 0, cells := 0, slots := 0, locals := 0 }
set_option maxHeartbeats 4000000 in
set_option maxRecDepth 100000 in
theorem k_X8_letterAt (l : Launch) (D : va_G) (cI cJ cZ : ClassId) (q : Nat → Nat) (I : Nat → Int32) (S : Int64) (A : Nat → Nat → Int32) (x1 : Int32) (o : Int32) (h : fX8_letterAt I A x1 = some o) : Met l yX8_letterAt wsX8_letterAt rmX8_letterAt (sh_Pr D (sh_ty cI cJ cZ) (sh_w8 q cI cJ cZ I S A) [.ref (q 0), .int x1]) (vp_Si (fun z => z = o)) 0 0 (fun _ => False) := by
  refine Met.ofW (cc := cX8_letterAt) (maxL := 2) (ret := (some .int)) (by decide) rfl ?_
  intro p e s m args below meth c s₁ hB hml hv
  obtain ⟨hargs, hP, hK⟩ := hv
  have hx := hB.exec
  have hb := hB.bytes
  have hr := hB.returns
  have hts := atoms_spec (ws := wsX8_letterAt) hB.pre
  have hown : s.vm.findClass RX8 = some m.cls := findClass_of_methodNamed hB.named
  have hlocks := hB.notSynchronized
  have hfix : CallFix p m c cX8_letterAt 2 s args wsX8_letterAt RX8 := ⟨hx, hb, hml, hown, hts⟩
  have hinX8 : ∀ w ∈ wsX80, w ∈ wsX8_letterAt := by decide +kernel
  have lk1 := hts (.fieldLink RX8 108 "ShadeTreeModel" "textSize" "I") (by decide +kernel)
  have lk2 := hts (.fieldLink RX8 7 "ShadeTreeModel" "text" "[I") (by decide +kernel)
  rw [show entryFrame m args 2 = entryFrame m ([.ref (q 0), .int x1] : List Value).toArray 2 by rw [hargs], lg_entry_eq]
  have hl := lv_entry ([.ref (q 0), .int x1]) (n := 2) (Nat.le_of_ble_eq_true rfl)
  generalize (lg_sl ([.ref (q 0), .int x1]) ++ List.replicate (2 - (lg_sl ([.ref (q 0), .int x1])).length) Slot.unset).toArray = ls at hl ⊢
  have hl : lv_has ls 2 [(0, .ref (q 0)), (1, .int x1)] := hl
  generalize hQ : MQ below (vp_Si (fun z => z = o)) args s 0 0 (fun _ => False) = Q
  unfold fX8_letterAt at h
  refine lv_iload_n hx hb dX8_letterAt_0 rfl (lv_at hl 1 rfl) ?_
  refine lv_aload_n hx hb dX8_letterAt_1 rfl (lv_at hl 0 rfl) ?_
  refine va_get (ci := 8) (v := .int (I 1)) (C := RX8) (T := TX8) (N := 21) hx hb hts hinX8 hown hK hP 0 rfl rfl 2 (by decide) lk1 (fun _ h9 => h9) rfl dX8_letterAt_2 ?_
  refine lv_icmp_ge (tgt := 17) hx hb dX8_letterAt_5 (by decide) (fun g1 => ?_) (fun g1 => ?_)
  · rw [if_pos g1] at h
    refine lv_bipush (v := -9) hx hb dX8_letterAt_17 (by decide) ?_
    exact sh_roi hx hb hr hlocks hQ (Option.some.inj h) dX8_letterAt_19
  · rw [if_neg g1] at h
    refine lv_aload_n hx hb dX8_letterAt_8 rfl (lv_at hl 0 rfl) ?_
    refine va_get (ci := 8) (v := .ref (q 1)) (C := RX8) (T := TX8) (N := 21) hx hb hts hinX8 hown hK hP 0 rfl rfl 1 (by decide) lk2 (fun _ h9 => h9) rfl dX8_letterAt_9 ?_
    refine lv_iload_n hx hb dX8_letterAt_12 rfl (lv_at hl 1 rfl) ?_
    obtain ⟨v2, hcv2, h⟩ := sh_b1_e h
    refine sh_iald hx hb hK hP 1 0 rfl rfl (sh_ald_e hcv2) dX8_letterAt_13 ?_
    refine lv_goto (tgt := 19) hx hb dX8_letterAt_14 (by decide) ?_
    exact sh_roi hx hb hr hlocks hQ (Option.some.inj h) dX8_letterAt_19
theorem hdV_X8_readPicture : yX8_readPicture.cls = RX8 ∧ yX8_readPicture.cls ≠ "java/lang/invoke/MethodHandle" ∧ yX8_readPicture.cls ≠ "java/lang/invoke/VarHandle" ∧ (parseMethodDescriptor yX8_readPicture.desc).map (fun d => d.parameters.length) = some 0 := by decide +kernel
abbrev rmX8_readPicture : Room := { frames := 1, cells := 0, slots := 0, locals := 25 }
set_option maxHeartbeats 4000000 in
set_option maxRecDepth 100000 in
theorem k_X8_readPicture (l : Launch) (D : va_G) (cI cJ cZ : ClassId) (sz : Nat) (q : Nat → Nat) (I : Nat → Int32) (S : Int64) (A : Nat → Nat → Int32) (o : Int32) (oA : Nat → Nat → Int32) (h : fX8_readPicture I S A = some (o, oA)) : Met l yX8_readPicture wsX8_readPicture rmX8_readPicture (sh_Pw D (sh_ty cI cJ cZ) sz (sh_w8 q cI cJ cZ I S A) [.ref (q 0)]) (sh_Qi D (sh_ty cI cJ cZ) (va_A (sh_w8 q cI cJ cZ I S A) sz) (sh_w8 q cI cJ cZ I S oA) o) 0 0 (va_A (sh_w8 q cI cJ cZ I S A) sz) := by
  refine Met.ofW (cc := cX8_readPicture) (maxL := 3) (ret := (some .int)) (by decide) rfl ?_
  intro p e s m args below meth c s₁ hB hml hv
  obtain ⟨hargs, hsz, hP, hK, hD0⟩ := hv
  have hx := hB.exec
  have hb := hB.bytes
  have hr := hB.returns
  have hts := atoms_spec (ws := wsX8_readPicture) hB.pre
  have hown : s.vm.findClass RX8 = some m.cls := findClass_of_methodNamed hB.named
  have hlocks := hB.notSynchronized
  have hfix : CallFix p m c cX8_readPicture 3 s args wsX8_readPicture RX8 := ⟨hx, hb, hml, hown, hts⟩
  have hinX8 : ∀ w ∈ wsX80, w ∈ wsX8_readPicture := by decide +kernel
  have lk1 := hts (.fieldLink RX8 13 "ShadeTreeModel" "readPage" "[I") (by decide +kernel)
  have lk2 := hts (.fieldLink RX8 7 "ShadeTreeModel" "text" "[I") (by decide +kernel)
  have lk3 := hts (.constantLong RX8 115 (6)) (by decide +kernel)
  have lk4 := hts (.constantLong RX8 117 (9)) (by decide +kernel)
  have lk5 := hts (.fieldLink RX8 108 "ShadeTreeModel" "textSize" "I") (by decide +kernel)
  rw [show entryFrame m args 3 = entryFrame m ([.ref (q 0)] : List Value).toArray 3 by rw [hargs], lg_entry_eq]
  have hl := lv_entry ([.ref (q 0)]) (n := 3) (Nat.le_of_ble_eq_true rfl)
  generalize (lg_sl ([.ref (q 0)]) ++ List.replicate (3 - (lg_sl ([.ref (q 0)])).length) Slot.unset).toArray = ls at hl ⊢
  have hl : lv_has ls 3 [(0, .ref (q 0))] := hl
  subst hsz
  have hD := hD0.self (sz := s.heap.size)
  generalize hAe : va_A (sh_w8 q cI cJ cZ I S A) s.heap.size = Az at hD ⊢
  have hA : ∀ q : Nat, s.heap.size ≤ q → Az q := fun q h => by rw [← hAe]; exact Or.inr h
  have hS : va_S Az s.heap s.heap [] := va_S.rf
  generalize hQ : MQ below (sh_Qi D (sh_ty cI cJ cZ) Az (sh_w8 q cI cJ cZ I S oA) o) args s 0 0 Az = Q
  unfold fX8_readPicture at h
  refine lv_iconst (v := 0) hx hb dX8_readPicture_0 (by decide) ?_
  refine lv_istore_n (lv' := [(1, .int 0), (0, .ref (q 0))]) hx hb dX8_readPicture_1 rfl hl (by decide) rfl (fun ls hl => ?_)
  have LP3 : ∀ (n : Nat) (x1 : Int32) (A : Nat → Nat → Int32) (oA : (Nat → Nat → Int32)) (H : Heap) (locs : List Loc) (ls : Array Slot), fX8_readPicture_L2 n x1 A = some oA → lv_has ls 3 [(0, .ref (q 0)), (1, .int x1)] → va_P D vwCl (sh_w8 q cI cJ cZ I S A) H → va_D Az (sh_w8 q cI cJ cZ I S A) → va_S Az s.heap H locs → (∀ (H : Heap) (locs : List Loc) (ls : Array Slot), lv_has ls 3 [(0, .ref (q 0))] → va_P D vwCl (sh_w8 q cI cJ cZ I S oA) H → va_D Az (sh_w8 q cI cJ cZ I S oA) → va_S Az s.heap H locs → W p l e (headSpec wsX8_readPicture rmX8_readPicture).room s m args below meth c H locs 0 0 Q (F0 m 21 ls [])) → W p l e (headSpec wsX8_readPicture rmX8_readPicture).room s m args below meth c H locs 0 0 Q (F0 m 2 ls []) := by
    intro n
    induction n with
    | zero =>
      intro x1 A oA H locs ls h hl hP hD hS hk
      exact nomatch ((fX8_readPicture_L2_z x1 A).symm.trans h)
    | succ n ih =>
      intro x1 A oA H locs ls h hl hP hD hS hk
      rw [fX8_readPicture_L2_s] at h
      refine lv_iload_n hx hb dX8_readPicture_2 rfl (lv_at hl 1 rfl) ?_
      refine lv_bipush (v := 39) hx hb dX8_readPicture_3 (by decide) ?_
      refine lv_icmp_ge (tgt := 21) hx hb dX8_readPicture_5 (by decide) (fun g1 => ?_) (fun g1 => ?_)
      · rw [if_pos g1] at h
        cases h
        exact hk _ _ ls (lv_sub hl [0] rfl) hP hD hS
      · rw [if_neg g1] at h
        refine lv_aload_n hx hb dX8_readPicture_8 rfl (lv_at hl 0 rfl) ?_
        refine va_get (ci := 8) (v := .ref (q 2)) (C := RX8) (T := TX8) (N := 21) hx hb hts hinX8 hown hK hP 0 rfl rfl 3 (by decide) lk1 (fun _ h9 => h9) rfl dX8_readPicture_9 ?_
        refine lv_iload_n hx hb dX8_readPicture_12 rfl (lv_at hl 1 rfl) ?_
        refine lv_iconst (v := 0) hx hb dX8_readPicture_13 (by decide) ?_
        obtain ⟨f2, hcf2, h⟩ := sh_b1_e h
        refine sh_iast (wn := (sh_w8 q cI cJ cZ I S (va_up A 1 f2))) hx hb hK hP hD hS 2 0 rfl rfl (sh_ast_e hcf2) rfl dX8_readPicture_14 (fun H locs hP hD hS => ?_)
        refine lv_iinc (v := (x1 + 1)) (lv' := [(1, .int (x1 + 1)), (0, .ref (q 0))]) hx hb dX8_readPicture_15 hl (k := 1) rfl rfl (by decide) rfl (fun ls hl => ?_)
        refine lv_goto (tgt := 2) hx hb dX8_readPicture_18 (by decide) ?_
        exact ih (x1 + 1) (va_up A 1 f2) oA _ _ ls h (lv_sub hl [1, 0] rfl) hP hD hS hk
  obtain ⟨w4, hc66, h⟩ := sh_b1_e h
  refine LP3 sh_fu 0 A w4 _ _ ls hc66 (lv_sub hl [1, 0] rfl) hP hD hS (fun H locs ls hl hP hD hS => ?_)
  refine lv_aload_n hx hb dX8_readPicture_21 rfl (lv_at hl 0 rfl) ?_
  refine lv_iconst (v := 0) hx hb dX8_readPicture_22 (by decide) ?_
  obtain ⟨v5, hc6, h⟩ := sh_b1_e h
  refine sh_cVi (As := [.int 0]) (rest := []) hfix (k_X8_letterAt l D cI cJ cZ q I S w4 0 v5 hc6) (cwV 1 hts gX8_readPicture_X8_letterAt rfl rfl rfl hdV_X8_letterAt ⟨Nat.le_of_ble_eq_true rfl, Nat.le_of_ble_eq_true rfl⟩) hP hK [0, 1, 2, 3, 4, 5, 6, 7, 8, 9, 10, 11, 12] rfl 0 rfl rfl rfl hl.1 rfl (Nat.le_of_ble_eq_true rfl) dX8_readPicture_23 ⟨Nat.zero_le _, Nat.zero_le _⟩ ?_
  refine lv_bipush (v := 80) hx hb dX8_readPicture_26 (by decide) ?_
  refine lv_icmp_eq (tgt := 33) hx hb dX8_readPicture_28 (by decide) (fun g7 => ?_) (fun g7 => ?_)
  · rw [if_pos g7] at h
    refine lv_aload_n hx hb dX8_readPicture_33 rfl (lv_at hl 0 rfl) ?_
    refine lv_iconst (v := 1) hx hb dX8_readPicture_34 (by decide) ?_
    obtain ⟨v8, hc9, h⟩ := sh_b1_e h
    refine sh_cVi (As := [.int 1]) (rest := []) hfix (k_X8_letterAt l D cI cJ cZ q I S w4 1 v8 hc9) (cwV 1 hts gX8_readPicture_X8_letterAt rfl rfl rfl hdV_X8_letterAt ⟨Nat.le_of_ble_eq_true rfl, Nat.le_of_ble_eq_true rfl⟩) hP hK [0, 1, 2, 3, 4, 5, 6, 7, 8, 9, 10, 11, 12] rfl 0 rfl rfl rfl hl.1 rfl (Nat.le_of_ble_eq_true rfl) dX8_readPicture_35 ⟨Nat.zero_le _, Nat.zero_le _⟩ ?_
    refine lv_bipush (v := 52) hx hb dX8_readPicture_38 (by decide) ?_
    refine lv_icmp_eq (tgt := 55) hx hb dX8_readPicture_40 (by decide) (fun g10 => ?_) (fun g10 => ?_)
    · rw [if_pos g10] at h
      refine lv_aload_n hx hb dX8_readPicture_55 rfl (lv_at hl 0 rfl) ?_
      refine va_get (ci := 8) (v := .ref (q 2)) (C := RX8) (T := TX8) (N := 21) hx hb hts hinX8 hown hK hP 0 rfl rfl 3 (by decide) lk1 (fun _ h9 => h9) rfl dX8_readPicture_56 ?_
      refine lv_iconst (v := 0) hx hb dX8_readPicture_59 (by decide) ?_
      refine lv_aload_n hx hb dX8_readPicture_60 rfl (lv_at hl 0 rfl) ?_
      refine va_get (ci := 8) (v := .ref (q 1)) (C := RX8) (T := TX8) (N := 21) hx hb hts hinX8 hown hK hP 0 rfl rfl 1 (by decide) lk2 (fun _ h9 => h9) rfl dX8_readPicture_61 ?_
      refine lv_iconst (v := 1) hx hb dX8_readPicture_64 (by decide) ?_
      refine sh_iald (v := ((w4 0) 1)) hx hb hK hP 1 0 rfl rfl ⟨by unfold vp_in; decide, rfl⟩ dX8_readPicture_65 ?_
      refine lv_bipush (v := 48) hx hb dX8_readPicture_66 (by decide) ?_
      refine lv_isub hx hb dX8_readPicture_68 ?_
      obtain ⟨f11, hcf11, h⟩ := sh_b1_e h
      refine sh_iast (wn := (sh_w8 q cI cJ cZ I S (va_up w4 1 f11))) hx hb hK hP hD hS 2 0 rfl rfl (sh_ast_e hcf11) rfl dX8_readPicture_69 (fun H locs hP hD hS => ?_)
      refine lv_iconst (v := 1) hx hb dX8_readPicture_70 (by decide) ?_
      refine lv_istore_n (lv' := [(1, .int 1), (0, .ref (q 0))]) hx hb dX8_readPicture_71 rfl hl (by decide) rfl (fun ls hl => ?_)
      have LP20 : ∀ (n : Nat) (x1 : Int32) (A : Nat → Nat → Int32) (z : (Int32 × (Nat → Nat → Int32)) ⊕ ((Nat → Nat → Int32))) (H : Heap) (locs : List Loc) (ls : Array Slot), fX8_readPicture_L72 n x1 I S A = some z → lv_has ls 3 [(0, .ref (q 0)), (1, .int x1)] → va_P D vwCl (sh_w8 q cI cJ cZ I S A) H → va_D Az (sh_w8 q cI cJ cZ I S A) → va_S Az s.heap H locs → (∀ x, z = .inl x → x = (o, oA)) → (∀ (t : (Nat → Nat → Int32)), z = .inr t → ∀ (H : Heap) (locs : List Loc) (ls : Array Slot), lv_has ls 3 [(0, .ref (q 0))] → va_P D vwCl (sh_w8 q cI cJ cZ I S t) H → va_D Az (sh_w8 q cI cJ cZ I S t) → va_S Az s.heap H locs → W p l e (headSpec wsX8_readPicture rmX8_readPicture).room s m args below meth c H locs 0 0 Q (F0 m 120 ls [])) → W p l e (headSpec wsX8_readPicture rmX8_readPicture).room s m args below meth c H locs 0 0 Q (F0 m 72 ls []) := by
        intro n
        induction n with
        | zero =>
          intro x1 A z H locs ls h hl hP hD hS hret hk
          exact nomatch ((fX8_readPicture_L72_z x1 I S A).symm.trans h)
        | succ n ih =>
          intro x1 A z H locs ls h hl hP hD hS hret hk
          rw [fX8_readPicture_L72_s] at h
          refine lv_iload_n hx hb dX8_readPicture_72 rfl (lv_at hl 1 rfl) ?_
          refine lv_iconst (v := 3) hx hb dX8_readPicture_73 (by decide) ?_
          refine lv_icmp_ge (tgt := 120) hx hb dX8_readPicture_74 (by decide) (fun g12 => ?_) (fun g12 => ?_)
          · rw [if_pos g12] at h
            exact hk A (Option.some.inj h).symm _ _ ls (lv_sub hl [0] rfl) hP hD hS
          · rw [if_neg g12] at h
            refine lv_aload_n hx hb dX8_readPicture_77 rfl (lv_at hl 0 rfl) ?_
            refine va_get (ci := 8) (v := .ref (q 2)) (C := RX8) (T := TX8) (N := 21) hx hb hts hinX8 hown hK hP 0 rfl rfl 3 (by decide) lk1 (fun _ h9 => h9) rfl dX8_readPicture_78 ?_
            refine lv_iload_n hx hb dX8_readPicture_81 rfl (lv_at hl 1 rfl) ?_
            refine lv_aload_n hx hb dX8_readPicture_82 rfl (lv_at hl 0 rfl) ?_
            refine lv_iload_n hx hb dX8_readPicture_83 rfl (lv_at hl 1 rfl) ?_
            refine lv_iconst (v := 1) hx hb dX8_readPicture_84 (by decide) ?_
            refine lv_iadd hx hb dX8_readPicture_85 ?_
            obtain ⟨v13, hc14, h⟩ := sh_b1_e h
            refine sh_cVi (As := [.int (x1 + 1)]) (rest := [.int x1, .ref (q 2)]) hfix (k_X8_letterAt l D cI cJ cZ q I S A (x1 + 1) v13 hc14) (cwV 1 hts gX8_readPicture_X8_letterAt rfl rfl rfl hdV_X8_letterAt ⟨Nat.le_of_ble_eq_true rfl, Nat.le_of_ble_eq_true rfl⟩) hP hK [0, 1, 2, 3, 4, 5, 6, 7, 8, 9, 10, 11, 12] rfl 0 rfl rfl rfl hl.1 rfl (Nat.le_of_ble_eq_true rfl) dX8_readPicture_86 ⟨Nat.zero_le _, Nat.zero_le _⟩ ?_
            refine lv_bipush (v := 48) hx hb dX8_readPicture_89 (by decide) ?_
            refine lv_isub hx hb dX8_readPicture_91 ?_
            obtain ⟨f15, hcf15, h⟩ := sh_b1_e h
            refine sh_iast (wn := (sh_w8 q cI cJ cZ I S (va_up A 1 f15))) hx hb hK hP hD hS 2 0 rfl rfl (sh_ast_e hcf15) rfl dX8_readPicture_92 (fun H locs hP hD hS => ?_)
            refine lv_aload_n hx hb dX8_readPicture_93 rfl (lv_at hl 0 rfl) ?_
            refine va_get (ci := 8) (v := .ref (q 2)) (C := RX8) (T := TX8) (N := 21) hx hb hts hinX8 hown hK hP 0 rfl rfl 3 (by decide) lk1 (fun _ h9 => h9) rfl dX8_readPicture_94 ?_
            refine lv_iload_n hx hb dX8_readPicture_97 rfl (lv_at hl 1 rfl) ?_
            obtain ⟨v16, hcv16, h⟩ := sh_b1_e h
            refine sh_iald hx hb hK hP 2 0 rfl rfl (sh_ald_e hcv16) dX8_readPicture_98 ?_
            refine lv_i2l (v := (Int32.toInt64 v16)) hx hb dX8_readPicture_99 rfl ?_
            refine lv_lconst (v := 1) hx hb dX8_readPicture_100 (by decide) ?_
            refine lv_ldc2 hx hb hown lk3 dX8_readPicture_101 ?_
            obtain ⟨v17, hc18, h⟩ := sh_b1_e h
            refine sh_cSi (As := [.long (Int32.toInt64 v16), .long 1, .long 6]) (rest := []) hfix (k_X8_in l D cI cJ cZ (Int32.toInt64 v16) 1 6 v17 hc18) (va_cwS 3 hts gX8_readPicture_X8_in rfl rfl rfl hdS_X8_in ⟨Nat.le_of_ble_eq_true rfl, Nat.le_of_ble_eq_true rfl⟩) hP hK [] rfl rfl hl.1 rfl (Nat.le_of_ble_eq_true rfl) dX8_readPicture_104 ⟨Nat.zero_le _, Nat.zero_le _⟩ ?_
            refine lv_if_ne (tgt := 114) hx hb dX8_readPicture_107 (by decide) (fun g19 => ?_) (fun g19 => ?_)
            · rw [if_neg g19] at h
              refine lv_iinc (v := (x1 + 1)) (lv' := [(1, .int (x1 + 1)), (0, .ref (q 0))]) hx hb dX8_readPicture_114 hl (k := 1) rfl rfl (by decide) rfl (fun ls hl => ?_)
              refine lv_goto (tgt := 72) hx hb dX8_readPicture_117 (by decide) ?_
              exact ih (x1 + 1) (va_up A 1 f15) z _ _ ls h (lv_sub hl [1, 0] rfl) hP hD hS hret hk
            · rw [if_pos g19] at h
              refine lv_iload_n hx hb dX8_readPicture_110 rfl (lv_at hl 1 rfl) ?_
              refine lv_iconst (v := 1) hx hb dX8_readPicture_111 (by decide) ?_
              refine lv_iadd hx hb dX8_readPicture_112 ?_
              cases hret _ (Option.some.inj h).symm
              exact sh_rwi hx hb hr hlocks hQ hK hP hD hS dX8_readPicture_113
      obtain ⟨z21, hcz21, hrz21, hkz21⟩ := sh_bs_e h
      refine LP20 sh_fu 1 (va_up w4 1 f11) z21 _ _ ls hcz21 (lv_sub hl [1, 0] rfl) hP hD hS hrz21 (fun t22 et22 H locs ls hl hP hD hS => ?_)
      have h := hkz21 t22 et22
      refine lv_aload_n hx hb dX8_readPicture_120 rfl (lv_at hl 0 rfl) ?_
      refine va_get (ci := 8) (v := .ref (q 2)) (C := RX8) (T := TX8) (N := 21) hx hb hts hinX8 hown hK hP 0 rfl rfl 3 (by decide) lk1 (fun _ h9 => h9) rfl dX8_readPicture_121 ?_
      obtain ⟨v23, hc24, h⟩ := sh_b1_e h
      refine sh_cSi (As := [.ref (q 2)]) (rest := []) hfix (k_X8_dotsOf l D cI cJ cZ (q 2) (t22 1) v23 hc24) (va_cwS 1 hts gX8_readPicture_X8_dotsOf rfl rfl rfl hdS_X8_dotsOf ⟨Nat.le_of_ble_eq_true rfl, Nat.le_of_ble_eq_true rfl⟩) hP hK [2] rfl rfl hl.1 rfl (Nat.le_of_ble_eq_true rfl) dX8_readPicture_124 ⟨Nat.zero_le _, Nat.zero_le _⟩ ?_
      refine lv_istore_n (lv' := [(1, .int v23), (0, .ref (q 0))]) hx hb dX8_readPicture_127 rfl hl (by decide) rfl (fun ls hl => ?_)
      refine lv_iconst (v := 0) hx hb dX8_readPicture_128 (by decide) ?_
      refine lv_istore_n (lv' := [(2, .int 0), (1, .int v23), (0, .ref (q 0))]) hx hb dX8_readPicture_129 rfl hl (by decide) rfl (fun ls hl => ?_)
      have LP33 : ∀ (n : Nat) (x1 : Int32) (x2 : Int32) (A : Nat → Nat → Int32) (z : (Int32 × (Nat → Nat → Int32)) ⊕ ((Nat → Nat → Int32))) (H : Heap) (locs : List Loc) (ls : Array Slot), fX8_readPicture_L130 n x1 x2 I S A = some z → lv_has ls 3 [(0, .ref (q 0)), (1, .int x1), (2, .int x2)] → va_P D vwCl (sh_w8 q cI cJ cZ I S A) H → va_D Az (sh_w8 q cI cJ cZ I S A) → va_S Az s.heap H locs → (∀ x, z = .inl x → x = (o, oA)) → (∀ (t : (Nat → Nat → Int32)), z = .inr t → ∀ (H : Heap) (locs : List Loc) (ls : Array Slot), lv_has ls 3 [(0, .ref (q 0)), (1, .int x1)] → va_P D vwCl (sh_w8 q cI cJ cZ I S t) H → va_D Az (sh_w8 q cI cJ cZ I S t) → va_S Az s.heap H locs → W p l e (headSpec wsX8_readPicture rmX8_readPicture).room s m args below meth c H locs 0 0 Q (F0 m 182 ls [])) → W p l e (headSpec wsX8_readPicture rmX8_readPicture).room s m args below meth c H locs 0 0 Q (F0 m 130 ls []) := by
        intro n
        induction n with
        | zero =>
          intro x1 x2 A z H locs ls h hl hP hD hS hret hk
          exact nomatch ((fX8_readPicture_L130_z x1 x2 I S A).symm.trans h)
        | succ n ih =>
          intro x1 x2 A z H locs ls h hl hP hD hS hret hk
          rw [fX8_readPicture_L130_s] at h
          refine lv_iload_n hx hb dX8_readPicture_130 rfl (lv_at hl 2 rfl) ?_
          refine lv_iload_n hx hb dX8_readPicture_131 rfl (lv_at hl 1 rfl) ?_
          refine lv_icmp_ge (tgt := 182) hx hb dX8_readPicture_132 (by decide) (fun g25 => ?_) (fun g25 => ?_)
          · rw [if_pos g25] at h
            exact hk A (Option.some.inj h).symm _ _ ls (lv_sub hl [0, 1] rfl) hP hD hS
          · rw [if_neg g25] at h
            refine lv_aload_n hx hb dX8_readPicture_135 rfl (lv_at hl 0 rfl) ?_
            refine va_get (ci := 8) (v := .ref (q 2)) (C := RX8) (T := TX8) (N := 21) hx hb hts hinX8 hown hK hP 0 rfl rfl 3 (by decide) lk1 (fun _ h9 => h9) rfl dX8_readPicture_136 ?_
            refine lv_iconst (v := 3) hx hb dX8_readPicture_139 (by decide) ?_
            refine lv_iload_n hx hb dX8_readPicture_140 rfl (lv_at hl 2 rfl) ?_
            refine lv_iadd hx hb dX8_readPicture_141 ?_
            refine lv_aload_n hx hb dX8_readPicture_142 rfl (lv_at hl 0 rfl) ?_
            refine lv_iconst (v := 4) hx hb dX8_readPicture_143 (by decide) ?_
            refine lv_iload_n hx hb dX8_readPicture_144 rfl (lv_at hl 2 rfl) ?_
            refine lv_iadd hx hb dX8_readPicture_145 ?_
            obtain ⟨v26, hc27, h⟩ := sh_b1_e h
            refine sh_cVi (As := [.int (4 + x2)]) (rest := [.int (3 + x2), .ref (q 2)]) hfix (k_X8_letterAt l D cI cJ cZ q I S A (4 + x2) v26 hc27) (cwV 1 hts gX8_readPicture_X8_letterAt rfl rfl rfl hdV_X8_letterAt ⟨Nat.le_of_ble_eq_true rfl, Nat.le_of_ble_eq_true rfl⟩) hP hK [0, 1, 2, 3, 4, 5, 6, 7, 8, 9, 10, 11, 12] rfl 0 rfl rfl rfl hl.1 rfl (Nat.le_of_ble_eq_true rfl) dX8_readPicture_146 ⟨Nat.zero_le _, Nat.zero_le _⟩ ?_
            refine lv_bipush (v := 48) hx hb dX8_readPicture_149 (by decide) ?_
            refine lv_isub hx hb dX8_readPicture_151 ?_
            obtain ⟨f28, hcf28, h⟩ := sh_b1_e h
            refine sh_iast (wn := (sh_w8 q cI cJ cZ I S (va_up A 1 f28))) hx hb hK hP hD hS 2 0 rfl rfl (sh_ast_e hcf28) rfl dX8_readPicture_152 (fun H locs hP hD hS => ?_)
            refine lv_aload_n hx hb dX8_readPicture_153 rfl (lv_at hl 0 rfl) ?_
            refine va_get (ci := 8) (v := .ref (q 2)) (C := RX8) (T := TX8) (N := 21) hx hb hts hinX8 hown hK hP 0 rfl rfl 3 (by decide) lk1 (fun _ h9 => h9) rfl dX8_readPicture_154 ?_
            refine lv_iconst (v := 3) hx hb dX8_readPicture_157 (by decide) ?_
            refine lv_iload_n hx hb dX8_readPicture_158 rfl (lv_at hl 2 rfl) ?_
            refine lv_iadd hx hb dX8_readPicture_159 ?_
            obtain ⟨v29, hcv29, h⟩ := sh_b1_e h
            refine sh_iald hx hb hK hP 2 0 rfl rfl (sh_ald_e hcv29) dX8_readPicture_160 ?_
            refine lv_i2l (v := (Int32.toInt64 v29)) hx hb dX8_readPicture_161 rfl ?_
            refine lv_lconst (v := 0) hx hb dX8_readPicture_162 (by decide) ?_
            refine lv_ldc2 hx hb hown lk4 dX8_readPicture_163 ?_
            obtain ⟨v30, hc31, h⟩ := sh_b1_e h
            refine sh_cSi (As := [.long (Int32.toInt64 v29), .long 0, .long 9]) (rest := []) hfix (k_X8_in l D cI cJ cZ (Int32.toInt64 v29) 0 9 v30 hc31) (va_cwS 3 hts gX8_readPicture_X8_in rfl rfl rfl hdS_X8_in ⟨Nat.le_of_ble_eq_true rfl, Nat.le_of_ble_eq_true rfl⟩) hP hK [] rfl rfl hl.1 rfl (Nat.le_of_ble_eq_true rfl) dX8_readPicture_166 ⟨Nat.zero_le _, Nat.zero_le _⟩ ?_
            refine lv_if_ne (tgt := 176) hx hb dX8_readPicture_169 (by decide) (fun g32 => ?_) (fun g32 => ?_)
            · rw [if_neg g32] at h
              refine lv_iinc (v := (x2 + 1)) (lv' := [(2, .int (x2 + 1)), (0, .ref (q 0)), (1, .int x1)]) hx hb dX8_readPicture_176 hl (k := 2) rfl rfl (by decide) rfl (fun ls hl => ?_)
              refine lv_goto (tgt := 130) hx hb dX8_readPicture_179 (by decide) ?_
              exact ih x1 (x2 + 1) (va_up A 1 f28) z _ _ ls h (lv_sub hl [1, 2, 0] rfl) hP hD hS hret hk
            · rw [if_pos g32] at h
              refine lv_iconst (v := 4) hx hb dX8_readPicture_172 (by decide) ?_
              refine lv_iload_n hx hb dX8_readPicture_173 rfl (lv_at hl 2 rfl) ?_
              refine lv_iadd hx hb dX8_readPicture_174 ?_
              cases hret _ (Option.some.inj h).symm
              exact sh_rwi hx hb hr hlocks hQ hK hP hD hS dX8_readPicture_175
      obtain ⟨z34, hcz34, hrz34, hkz34⟩ := sh_bs_e h
      refine LP33 sh_fu v23 0 t22 z34 _ _ ls hcz34 (lv_sub hl [2, 1, 0] rfl) hP hD hS hrz34 (fun t35 et35 H locs ls hl hP hD hS => ?_)
      have h := hkz34 t35 et35
      refine lv_aload_n hx hb dX8_readPicture_182 rfl (lv_at hl 0 rfl) ?_
      refine va_get (ci := 8) (v := .int (I 1)) (C := RX8) (T := TX8) (N := 21) hx hb hts hinX8 hown hK hP 0 rfl rfl 2 (by decide) lk5 (fun _ h9 => h9) rfl dX8_readPicture_183 ?_
      refine lv_iconst (v := 4) hx hb dX8_readPicture_186 (by decide) ?_
      refine lv_iload_n hx hb dX8_readPicture_187 rfl (lv_at hl 1 rfl) ?_
      refine lv_iadd hx hb dX8_readPicture_188 ?_
      refine lv_icmp_ne (tgt := 197) hx hb dX8_readPicture_189 (by decide) (fun g36 => ?_) (fun g36 => ?_)
      · rw [if_neg g36] at h
        refine lv_iconst (v := 4) hx hb dX8_readPicture_197 (by decide) ?_
        refine lv_iload_n hx hb dX8_readPicture_198 rfl (lv_at hl 1 rfl) ?_
        refine lv_iadd hx hb dX8_readPicture_199 ?_
        cases h
        exact sh_rwi hx hb hr hlocks hQ hK hP hD hS dX8_readPicture_200
      · rw [if_pos g36] at h
        refine lv_bipush (v := -9) hx hb dX8_readPicture_192 (by decide) ?_
        refine lv_goto (tgt := 200) hx hb dX8_readPicture_194 (by decide) ?_
        cases h
        exact sh_rwi hx hb hr hlocks hQ hK hP hD hS dX8_readPicture_200
    · rw [if_neg g10] at h
      refine lv_aload_n hx hb dX8_readPicture_43 rfl (lv_at hl 0 rfl) ?_
      refine lv_iconst (v := 1) hx hb dX8_readPicture_44 (by decide) ?_
      obtain ⟨v37, hc38, h⟩ := sh_b1_e h
      refine sh_cVi (As := [.int 1]) (rest := []) hfix (k_X8_letterAt l D cI cJ cZ q I S w4 1 v37 hc38) (cwV 1 hts gX8_readPicture_X8_letterAt rfl rfl rfl hdV_X8_letterAt ⟨Nat.le_of_ble_eq_true rfl, Nat.le_of_ble_eq_true rfl⟩) hP hK [0, 1, 2, 3, 4, 5, 6, 7, 8, 9, 10, 11, 12] rfl 0 rfl rfl rfl hl.1 rfl (Nat.le_of_ble_eq_true rfl) dX8_readPicture_45 ⟨Nat.zero_le _, Nat.zero_le _⟩ ?_
      refine lv_bipush (v := 56) hx hb dX8_readPicture_48 (by decide) ?_
      refine lv_icmp_eq (tgt := 55) hx hb dX8_readPicture_50 (by decide) (fun g39 => ?_) (fun g39 => ?_)
      · rw [if_pos g39] at h
        refine lv_aload_n hx hb dX8_readPicture_55 rfl (lv_at hl 0 rfl) ?_
        refine va_get (ci := 8) (v := .ref (q 2)) (C := RX8) (T := TX8) (N := 21) hx hb hts hinX8 hown hK hP 0 rfl rfl 3 (by decide) lk1 (fun _ h9 => h9) rfl dX8_readPicture_56 ?_
        refine lv_iconst (v := 0) hx hb dX8_readPicture_59 (by decide) ?_
        refine lv_aload_n hx hb dX8_readPicture_60 rfl (lv_at hl 0 rfl) ?_
        refine va_get (ci := 8) (v := .ref (q 1)) (C := RX8) (T := TX8) (N := 21) hx hb hts hinX8 hown hK hP 0 rfl rfl 1 (by decide) lk2 (fun _ h9 => h9) rfl dX8_readPicture_61 ?_
        refine lv_iconst (v := 1) hx hb dX8_readPicture_64 (by decide) ?_
        refine sh_iald (v := ((w4 0) 1)) hx hb hK hP 1 0 rfl rfl ⟨by unfold vp_in; decide, rfl⟩ dX8_readPicture_65 ?_
        refine lv_bipush (v := 48) hx hb dX8_readPicture_66 (by decide) ?_
        refine lv_isub hx hb dX8_readPicture_68 ?_
        obtain ⟨f40, hcf40, h⟩ := sh_b1_e h
        refine sh_iast (wn := (sh_w8 q cI cJ cZ I S (va_up w4 1 f40))) hx hb hK hP hD hS 2 0 rfl rfl (sh_ast_e hcf40) rfl dX8_readPicture_69 (fun H locs hP hD hS => ?_)
        refine lv_iconst (v := 1) hx hb dX8_readPicture_70 (by decide) ?_
        refine lv_istore_n (lv' := [(1, .int 1), (0, .ref (q 0))]) hx hb dX8_readPicture_71 rfl hl (by decide) rfl (fun ls hl => ?_)
        have LP49 : ∀ (n : Nat) (x1 : Int32) (A : Nat → Nat → Int32) (z : (Int32 × (Nat → Nat → Int32)) ⊕ ((Nat → Nat → Int32))) (H : Heap) (locs : List Loc) (ls : Array Slot), fX8_readPicture_L72 n x1 I S A = some z → lv_has ls 3 [(0, .ref (q 0)), (1, .int x1)] → va_P D vwCl (sh_w8 q cI cJ cZ I S A) H → va_D Az (sh_w8 q cI cJ cZ I S A) → va_S Az s.heap H locs → (∀ x, z = .inl x → x = (o, oA)) → (∀ (t : (Nat → Nat → Int32)), z = .inr t → ∀ (H : Heap) (locs : List Loc) (ls : Array Slot), lv_has ls 3 [(0, .ref (q 0))] → va_P D vwCl (sh_w8 q cI cJ cZ I S t) H → va_D Az (sh_w8 q cI cJ cZ I S t) → va_S Az s.heap H locs → W p l e (headSpec wsX8_readPicture rmX8_readPicture).room s m args below meth c H locs 0 0 Q (F0 m 120 ls [])) → W p l e (headSpec wsX8_readPicture rmX8_readPicture).room s m args below meth c H locs 0 0 Q (F0 m 72 ls []) := by
          intro n
          induction n with
          | zero =>
            intro x1 A z H locs ls h hl hP hD hS hret hk
            exact nomatch ((fX8_readPicture_L72_z x1 I S A).symm.trans h)
          | succ n ih =>
            intro x1 A z H locs ls h hl hP hD hS hret hk
            rw [fX8_readPicture_L72_s] at h
            refine lv_iload_n hx hb dX8_readPicture_72 rfl (lv_at hl 1 rfl) ?_
            refine lv_iconst (v := 3) hx hb dX8_readPicture_73 (by decide) ?_
            refine lv_icmp_ge (tgt := 120) hx hb dX8_readPicture_74 (by decide) (fun g41 => ?_) (fun g41 => ?_)
            · rw [if_pos g41] at h
              exact hk A (Option.some.inj h).symm _ _ ls (lv_sub hl [0] rfl) hP hD hS
            · rw [if_neg g41] at h
              refine lv_aload_n hx hb dX8_readPicture_77 rfl (lv_at hl 0 rfl) ?_
              refine va_get (ci := 8) (v := .ref (q 2)) (C := RX8) (T := TX8) (N := 21) hx hb hts hinX8 hown hK hP 0 rfl rfl 3 (by decide) lk1 (fun _ h9 => h9) rfl dX8_readPicture_78 ?_
              refine lv_iload_n hx hb dX8_readPicture_81 rfl (lv_at hl 1 rfl) ?_
              refine lv_aload_n hx hb dX8_readPicture_82 rfl (lv_at hl 0 rfl) ?_
              refine lv_iload_n hx hb dX8_readPicture_83 rfl (lv_at hl 1 rfl) ?_
              refine lv_iconst (v := 1) hx hb dX8_readPicture_84 (by decide) ?_
              refine lv_iadd hx hb dX8_readPicture_85 ?_
              obtain ⟨v42, hc43, h⟩ := sh_b1_e h
              refine sh_cVi (As := [.int (x1 + 1)]) (rest := [.int x1, .ref (q 2)]) hfix (k_X8_letterAt l D cI cJ cZ q I S A (x1 + 1) v42 hc43) (cwV 1 hts gX8_readPicture_X8_letterAt rfl rfl rfl hdV_X8_letterAt ⟨Nat.le_of_ble_eq_true rfl, Nat.le_of_ble_eq_true rfl⟩) hP hK [0, 1, 2, 3, 4, 5, 6, 7, 8, 9, 10, 11, 12] rfl 0 rfl rfl rfl hl.1 rfl (Nat.le_of_ble_eq_true rfl) dX8_readPicture_86 ⟨Nat.zero_le _, Nat.zero_le _⟩ ?_
              refine lv_bipush (v := 48) hx hb dX8_readPicture_89 (by decide) ?_
              refine lv_isub hx hb dX8_readPicture_91 ?_
              obtain ⟨f44, hcf44, h⟩ := sh_b1_e h
              refine sh_iast (wn := (sh_w8 q cI cJ cZ I S (va_up A 1 f44))) hx hb hK hP hD hS 2 0 rfl rfl (sh_ast_e hcf44) rfl dX8_readPicture_92 (fun H locs hP hD hS => ?_)
              refine lv_aload_n hx hb dX8_readPicture_93 rfl (lv_at hl 0 rfl) ?_
              refine va_get (ci := 8) (v := .ref (q 2)) (C := RX8) (T := TX8) (N := 21) hx hb hts hinX8 hown hK hP 0 rfl rfl 3 (by decide) lk1 (fun _ h9 => h9) rfl dX8_readPicture_94 ?_
              refine lv_iload_n hx hb dX8_readPicture_97 rfl (lv_at hl 1 rfl) ?_
              obtain ⟨v45, hcv45, h⟩ := sh_b1_e h
              refine sh_iald hx hb hK hP 2 0 rfl rfl (sh_ald_e hcv45) dX8_readPicture_98 ?_
              refine lv_i2l (v := (Int32.toInt64 v45)) hx hb dX8_readPicture_99 rfl ?_
              refine lv_lconst (v := 1) hx hb dX8_readPicture_100 (by decide) ?_
              refine lv_ldc2 hx hb hown lk3 dX8_readPicture_101 ?_
              obtain ⟨v46, hc47, h⟩ := sh_b1_e h
              refine sh_cSi (As := [.long (Int32.toInt64 v45), .long 1, .long 6]) (rest := []) hfix (k_X8_in l D cI cJ cZ (Int32.toInt64 v45) 1 6 v46 hc47) (va_cwS 3 hts gX8_readPicture_X8_in rfl rfl rfl hdS_X8_in ⟨Nat.le_of_ble_eq_true rfl, Nat.le_of_ble_eq_true rfl⟩) hP hK [] rfl rfl hl.1 rfl (Nat.le_of_ble_eq_true rfl) dX8_readPicture_104 ⟨Nat.zero_le _, Nat.zero_le _⟩ ?_
              refine lv_if_ne (tgt := 114) hx hb dX8_readPicture_107 (by decide) (fun g48 => ?_) (fun g48 => ?_)
              · rw [if_neg g48] at h
                refine lv_iinc (v := (x1 + 1)) (lv' := [(1, .int (x1 + 1)), (0, .ref (q 0))]) hx hb dX8_readPicture_114 hl (k := 1) rfl rfl (by decide) rfl (fun ls hl => ?_)
                refine lv_goto (tgt := 72) hx hb dX8_readPicture_117 (by decide) ?_
                exact ih (x1 + 1) (va_up A 1 f44) z _ _ ls h (lv_sub hl [1, 0] rfl) hP hD hS hret hk
              · rw [if_pos g48] at h
                refine lv_iload_n hx hb dX8_readPicture_110 rfl (lv_at hl 1 rfl) ?_
                refine lv_iconst (v := 1) hx hb dX8_readPicture_111 (by decide) ?_
                refine lv_iadd hx hb dX8_readPicture_112 ?_
                cases hret _ (Option.some.inj h).symm
                exact sh_rwi hx hb hr hlocks hQ hK hP hD hS dX8_readPicture_113
        obtain ⟨z50, hcz50, hrz50, hkz50⟩ := sh_bs_e h
        refine LP49 sh_fu 1 (va_up w4 1 f40) z50 _ _ ls hcz50 (lv_sub hl [1, 0] rfl) hP hD hS hrz50 (fun t51 et51 H locs ls hl hP hD hS => ?_)
        have h := hkz50 t51 et51
        refine lv_aload_n hx hb dX8_readPicture_120 rfl (lv_at hl 0 rfl) ?_
        refine va_get (ci := 8) (v := .ref (q 2)) (C := RX8) (T := TX8) (N := 21) hx hb hts hinX8 hown hK hP 0 rfl rfl 3 (by decide) lk1 (fun _ h9 => h9) rfl dX8_readPicture_121 ?_
        obtain ⟨v52, hc53, h⟩ := sh_b1_e h
        refine sh_cSi (As := [.ref (q 2)]) (rest := []) hfix (k_X8_dotsOf l D cI cJ cZ (q 2) (t51 1) v52 hc53) (va_cwS 1 hts gX8_readPicture_X8_dotsOf rfl rfl rfl hdS_X8_dotsOf ⟨Nat.le_of_ble_eq_true rfl, Nat.le_of_ble_eq_true rfl⟩) hP hK [2] rfl rfl hl.1 rfl (Nat.le_of_ble_eq_true rfl) dX8_readPicture_124 ⟨Nat.zero_le _, Nat.zero_le _⟩ ?_
        refine lv_istore_n (lv' := [(1, .int v52), (0, .ref (q 0))]) hx hb dX8_readPicture_127 rfl hl (by decide) rfl (fun ls hl => ?_)
        refine lv_iconst (v := 0) hx hb dX8_readPicture_128 (by decide) ?_
        refine lv_istore_n (lv' := [(2, .int 0), (1, .int v52), (0, .ref (q 0))]) hx hb dX8_readPicture_129 rfl hl (by decide) rfl (fun ls hl => ?_)
        have LP62 : ∀ (n : Nat) (x1 : Int32) (x2 : Int32) (A : Nat → Nat → Int32) (z : (Int32 × (Nat → Nat → Int32)) ⊕ ((Nat → Nat → Int32))) (H : Heap) (locs : List Loc) (ls : Array Slot), fX8_readPicture_L130 n x1 x2 I S A = some z → lv_has ls 3 [(0, .ref (q 0)), (1, .int x1), (2, .int x2)] → va_P D vwCl (sh_w8 q cI cJ cZ I S A) H → va_D Az (sh_w8 q cI cJ cZ I S A) → va_S Az s.heap H locs → (∀ x, z = .inl x → x = (o, oA)) → (∀ (t : (Nat → Nat → Int32)), z = .inr t → ∀ (H : Heap) (locs : List Loc) (ls : Array Slot), lv_has ls 3 [(0, .ref (q 0)), (1, .int x1)] → va_P D vwCl (sh_w8 q cI cJ cZ I S t) H → va_D Az (sh_w8 q cI cJ cZ I S t) → va_S Az s.heap H locs → W p l e (headSpec wsX8_readPicture rmX8_readPicture).room s m args below meth c H locs 0 0 Q (F0 m 182 ls [])) → W p l e (headSpec wsX8_readPicture rmX8_readPicture).room s m args below meth c H locs 0 0 Q (F0 m 130 ls []) := by
          intro n
          induction n with
          | zero =>
            intro x1 x2 A z H locs ls h hl hP hD hS hret hk
            exact nomatch ((fX8_readPicture_L130_z x1 x2 I S A).symm.trans h)
          | succ n ih =>
            intro x1 x2 A z H locs ls h hl hP hD hS hret hk
            rw [fX8_readPicture_L130_s] at h
            refine lv_iload_n hx hb dX8_readPicture_130 rfl (lv_at hl 2 rfl) ?_
            refine lv_iload_n hx hb dX8_readPicture_131 rfl (lv_at hl 1 rfl) ?_
            refine lv_icmp_ge (tgt := 182) hx hb dX8_readPicture_132 (by decide) (fun g54 => ?_) (fun g54 => ?_)
            · rw [if_pos g54] at h
              exact hk A (Option.some.inj h).symm _ _ ls (lv_sub hl [0, 1] rfl) hP hD hS
            · rw [if_neg g54] at h
              refine lv_aload_n hx hb dX8_readPicture_135 rfl (lv_at hl 0 rfl) ?_
              refine va_get (ci := 8) (v := .ref (q 2)) (C := RX8) (T := TX8) (N := 21) hx hb hts hinX8 hown hK hP 0 rfl rfl 3 (by decide) lk1 (fun _ h9 => h9) rfl dX8_readPicture_136 ?_
              refine lv_iconst (v := 3) hx hb dX8_readPicture_139 (by decide) ?_
              refine lv_iload_n hx hb dX8_readPicture_140 rfl (lv_at hl 2 rfl) ?_
              refine lv_iadd hx hb dX8_readPicture_141 ?_
              refine lv_aload_n hx hb dX8_readPicture_142 rfl (lv_at hl 0 rfl) ?_
              refine lv_iconst (v := 4) hx hb dX8_readPicture_143 (by decide) ?_
              refine lv_iload_n hx hb dX8_readPicture_144 rfl (lv_at hl 2 rfl) ?_
              refine lv_iadd hx hb dX8_readPicture_145 ?_
              obtain ⟨v55, hc56, h⟩ := sh_b1_e h
              refine sh_cVi (As := [.int (4 + x2)]) (rest := [.int (3 + x2), .ref (q 2)]) hfix (k_X8_letterAt l D cI cJ cZ q I S A (4 + x2) v55 hc56) (cwV 1 hts gX8_readPicture_X8_letterAt rfl rfl rfl hdV_X8_letterAt ⟨Nat.le_of_ble_eq_true rfl, Nat.le_of_ble_eq_true rfl⟩) hP hK [0, 1, 2, 3, 4, 5, 6, 7, 8, 9, 10, 11, 12] rfl 0 rfl rfl rfl hl.1 rfl (Nat.le_of_ble_eq_true rfl) dX8_readPicture_146 ⟨Nat.zero_le _, Nat.zero_le _⟩ ?_
              refine lv_bipush (v := 48) hx hb dX8_readPicture_149 (by decide) ?_
              refine lv_isub hx hb dX8_readPicture_151 ?_
              obtain ⟨f57, hcf57, h⟩ := sh_b1_e h
              refine sh_iast (wn := (sh_w8 q cI cJ cZ I S (va_up A 1 f57))) hx hb hK hP hD hS 2 0 rfl rfl (sh_ast_e hcf57) rfl dX8_readPicture_152 (fun H locs hP hD hS => ?_)
              refine lv_aload_n hx hb dX8_readPicture_153 rfl (lv_at hl 0 rfl) ?_
              refine va_get (ci := 8) (v := .ref (q 2)) (C := RX8) (T := TX8) (N := 21) hx hb hts hinX8 hown hK hP 0 rfl rfl 3 (by decide) lk1 (fun _ h9 => h9) rfl dX8_readPicture_154 ?_
              refine lv_iconst (v := 3) hx hb dX8_readPicture_157 (by decide) ?_
              refine lv_iload_n hx hb dX8_readPicture_158 rfl (lv_at hl 2 rfl) ?_
              refine lv_iadd hx hb dX8_readPicture_159 ?_
              obtain ⟨v58, hcv58, h⟩ := sh_b1_e h
              refine sh_iald hx hb hK hP 2 0 rfl rfl (sh_ald_e hcv58) dX8_readPicture_160 ?_
              refine lv_i2l (v := (Int32.toInt64 v58)) hx hb dX8_readPicture_161 rfl ?_
              refine lv_lconst (v := 0) hx hb dX8_readPicture_162 (by decide) ?_
              refine lv_ldc2 hx hb hown lk4 dX8_readPicture_163 ?_
              obtain ⟨v59, hc60, h⟩ := sh_b1_e h
              refine sh_cSi (As := [.long (Int32.toInt64 v58), .long 0, .long 9]) (rest := []) hfix (k_X8_in l D cI cJ cZ (Int32.toInt64 v58) 0 9 v59 hc60) (va_cwS 3 hts gX8_readPicture_X8_in rfl rfl rfl hdS_X8_in ⟨Nat.le_of_ble_eq_true rfl, Nat.le_of_ble_eq_true rfl⟩) hP hK [] rfl rfl hl.1 rfl (Nat.le_of_ble_eq_true rfl) dX8_readPicture_166 ⟨Nat.zero_le _, Nat.zero_le _⟩ ?_
              refine lv_if_ne (tgt := 176) hx hb dX8_readPicture_169 (by decide) (fun g61 => ?_) (fun g61 => ?_)
              · rw [if_neg g61] at h
                refine lv_iinc (v := (x2 + 1)) (lv' := [(2, .int (x2 + 1)), (0, .ref (q 0)), (1, .int x1)]) hx hb dX8_readPicture_176 hl (k := 2) rfl rfl (by decide) rfl (fun ls hl => ?_)
                refine lv_goto (tgt := 130) hx hb dX8_readPicture_179 (by decide) ?_
                exact ih x1 (x2 + 1) (va_up A 1 f57) z _ _ ls h (lv_sub hl [1, 2, 0] rfl) hP hD hS hret hk
              · rw [if_pos g61] at h
                refine lv_iconst (v := 4) hx hb dX8_readPicture_172 (by decide) ?_
                refine lv_iload_n hx hb dX8_readPicture_173 rfl (lv_at hl 2 rfl) ?_
                refine lv_iadd hx hb dX8_readPicture_174 ?_
                cases hret _ (Option.some.inj h).symm
                exact sh_rwi hx hb hr hlocks hQ hK hP hD hS dX8_readPicture_175
        obtain ⟨z63, hcz63, hrz63, hkz63⟩ := sh_bs_e h
        refine LP62 sh_fu v52 0 t51 z63 _ _ ls hcz63 (lv_sub hl [2, 1, 0] rfl) hP hD hS hrz63 (fun t64 et64 H locs ls hl hP hD hS => ?_)
        have h := hkz63 t64 et64
        refine lv_aload_n hx hb dX8_readPicture_182 rfl (lv_at hl 0 rfl) ?_
        refine va_get (ci := 8) (v := .int (I 1)) (C := RX8) (T := TX8) (N := 21) hx hb hts hinX8 hown hK hP 0 rfl rfl 2 (by decide) lk5 (fun _ h9 => h9) rfl dX8_readPicture_183 ?_
        refine lv_iconst (v := 4) hx hb dX8_readPicture_186 (by decide) ?_
        refine lv_iload_n hx hb dX8_readPicture_187 rfl (lv_at hl 1 rfl) ?_
        refine lv_iadd hx hb dX8_readPicture_188 ?_
        refine lv_icmp_ne (tgt := 197) hx hb dX8_readPicture_189 (by decide) (fun g65 => ?_) (fun g65 => ?_)
        · rw [if_neg g65] at h
          refine lv_iconst (v := 4) hx hb dX8_readPicture_197 (by decide) ?_
          refine lv_iload_n hx hb dX8_readPicture_198 rfl (lv_at hl 1 rfl) ?_
          refine lv_iadd hx hb dX8_readPicture_199 ?_
          cases h
          exact sh_rwi hx hb hr hlocks hQ hK hP hD hS dX8_readPicture_200
        · rw [if_pos g65] at h
          refine lv_bipush (v := -9) hx hb dX8_readPicture_192 (by decide) ?_
          refine lv_goto (tgt := 200) hx hb dX8_readPicture_194 (by decide) ?_
          cases h
          exact sh_rwi hx hb hr hlocks hQ hK hP hD hS dX8_readPicture_200
      · rw [if_neg g39] at h
        refine lv_iconst (v := 1) hx hb dX8_readPicture_53 (by decide) ?_
        cases h
        exact sh_rwi hx hb hr hlocks hQ hK hP hD hS dX8_readPicture_54
  · rw [if_neg g7] at h
    refine lv_iconst (v := 0) hx hb dX8_readPicture_31 (by decide) ?_
    cases h
    exact sh_rwi hx hb hr hlocks hQ hK hP hD hS dX8_readPicture_32
theorem hdV_X8_fault : yX8_fault.cls = RX8 ∧ yX8_fault.cls ≠ "java/lang/invoke/MethodHandle" ∧ yX8_fault.cls ≠ "java/lang/invoke/VarHandle" ∧ (parseMethodDescriptor yX8_fault.desc).map (fun d => d.parameters.length) = some 0 := by decide +kernel
abbrev rmX8_fault : Room := { frames := 2, cells := 0, slots := 0, locals := 47 }
set_option maxHeartbeats 4000000 in
set_option maxRecDepth 100000 in
theorem k_X8_fault (l : Launch) (D : va_G) (cI cJ cZ : ClassId) (sz : Nat) (q : Nat → Nat) (I : Nat → Int32) (S : Int64) (A : Nat → Nat → Int32) (o : Int32) (oI : Nat → Int32) (oA : Nat → Nat → Int32) (h : fX8_fault I S A = some (o, oI, oA)) : Met l yX8_fault wsX8_fault rmX8_fault (sh_Pw D (sh_ty cI cJ cZ) sz (sh_w8 q cI cJ cZ I S A) [.ref (q 0)]) (sh_Qi D (sh_ty cI cJ cZ) (va_A (sh_w8 q cI cJ cZ I S A) sz) (sh_w8 q cI cJ cZ oI S oA) o) 0 0 (va_A (sh_w8 q cI cJ cZ I S A) sz) := by
  refine Met.ofW (cc := cX8_fault) (maxL := 1) (ret := (some .int)) (by decide) rfl ?_
  intro p e s m args below meth c s₁ hB hml hv
  obtain ⟨hargs, hsz, hP, hK, hD0⟩ := hv
  have hx := hB.exec
  have hb := hB.bytes
  have hr := hB.returns
  have hts := atoms_spec (ws := wsX8_fault) hB.pre
  have hown : s.vm.findClass RX8 = some m.cls := findClass_of_methodNamed hB.named
  have hlocks := hB.notSynchronized
  have hfix : CallFix p m c cX8_fault 1 s args wsX8_fault RX8 := ⟨hx, hb, hml, hown, hts⟩
  have hinX8 : ∀ w ∈ wsX80, w ∈ wsX8_fault := by decide +kernel
  have lk1 := hts (.fieldLink RX8 47 "ShadeTreeModel" "thrown" "I") (by decide +kernel)
  rw [show entryFrame m args 1 = entryFrame m ([.ref (q 0)] : List Value).toArray 1 by rw [hargs], lg_entry_eq]
  have hl := lv_entry ([.ref (q 0)]) (n := 1) (Nat.le_of_ble_eq_true rfl)
  generalize (lg_sl ([.ref (q 0)]) ++ List.replicate (1 - (lg_sl ([.ref (q 0)])).length) Slot.unset).toArray = ls at hl ⊢
  have hl : lv_has ls 1 [(0, .ref (q 0))] := hl
  subst hsz
  have hD := hD0.self (sz := s.heap.size)
  generalize hAe : va_A (sh_w8 q cI cJ cZ I S A) s.heap.size = Az at hD ⊢
  have hA : ∀ q : Nat, s.heap.size ≤ q → Az q := fun q h => by rw [← hAe]; exact Or.inr h
  have hS : va_S Az s.heap s.heap [] := va_S.rf
  generalize hQ : MQ below (sh_Qi D (sh_ty cI cJ cZ) Az (sh_w8 q cI cJ cZ oI S oA) o) args s 0 0 Az = Q
  unfold fX8_fault at h
  refine lv_aload_n hx hb dX8_fault_0 rfl (lv_at hl 0 rfl) ?_
  refine lv_iconst (v := 0) hx hb dX8_fault_1 (by decide) ?_
  refine sh_put (wn := (sh_w8 q cI cJ cZ (upd I 0 0) S A)) (ci := 8) (v := .int 0) (ty := .int) (C := RX8) (T := TX8) (N := 21) hx hb hts hinX8 tyX8 tyX8_ok nmX8 hown hK hP hD hS 0 rfl rfl 0 (by decide) lk1 (fun _ h9 => h9) rfl (by decide +kernel) rfl rfl (Nat.le_of_ble_eq_true rfl) rfl dX8_fault_2 (fun H locs hP hD hS => ?_)
  refine lv_aload_n hx hb dX8_fault_5 rfl (lv_at hl 0 rfl) ?_
  obtain ⟨v1, u2, hc3, h⟩ := sh_b2_e h
  refine sh_wVi (wn := (sh_w8 q cI cJ cZ (upd I 0 0) S u2)) (As := []) (rest := []) hfix (k_X8_readPicture l D cI cJ cZ _ q (upd I 0 0) S A v1 u2 hc3) (cwV 0 hts gX8_fault_X8_readPicture rfl rfl rfl hdV_X8_readPicture ⟨Nat.le_of_ble_eq_true rfl, Nat.le_of_ble_eq_true rfl⟩) hP hK hD hS hA [0, 1, 2, 3, 4, 5, 6, 7, 8, 9, 10, 11, 12] [] [0, 1, 2, 3, 4, 5, 6, 7, 8, 9, 10, 11, 12] rfl rfl rfl rfl rfl rfl rfl 0 rfl rfl rfl hl.1 rfl (Nat.le_of_ble_eq_true rfl) dX8_fault_6 ⟨Nat.zero_le _, Nat.zero_le _⟩ (fun H locs hP hD hS => ?_)
  cases h
  exact sh_rwi hx hb hr hlocks hQ hK hP hD hS dX8_fault_9
theorem hdV_X8_picture : yX8_picture.cls = RX8 ∧ yX8_picture.cls ≠ "java/lang/invoke/MethodHandle" ∧ yX8_picture.cls ≠ "java/lang/invoke/VarHandle" ∧ (parseMethodDescriptor yX8_picture.desc).map (fun d => d.parameters.length) = some 0 := by decide +kernel
abbrev rmX8_picture : Room := { frames := 7, cells := 0, slots := 0, locals := 166 }
set_option maxHeartbeats 4000000 in
set_option maxRecDepth 100000 in
theorem k_X8_picture (l : Launch) (D : va_G) (cI cJ cZ : ClassId) (sz : Nat) (q : Nat → Nat) (I : Nat → Int32) (S : Int64) (A : Nat → Nat → Int32) (o : Int32) (oI : Nat → Int32) (oA : Nat → Nat → Int32) (h : fX8_picture I S A = some (o, oI, oA)) : Met l yX8_picture wsX8_picture rmX8_picture (sh_Pw D (sh_ty cI cJ cZ) sz (sh_w8 q cI cJ cZ I S A) [.ref (q 0)]) (sh_Qi D (sh_ty cI cJ cZ) (va_A (sh_w8 q cI cJ cZ I S A) sz) (sh_w8 q cI cJ cZ oI S oA) o) 0 0 (va_A (sh_w8 q cI cJ cZ I S A) sz) := by
  refine Met.ofW (cc := cX8_picture) (maxL := 2) (ret := (some .int)) (by decide) rfl ?_
  intro p e s m args below meth c s₁ hB hml hv
  obtain ⟨hargs, hsz, hP, hK, hD0⟩ := hv
  have hx := hB.exec
  have hb := hB.bytes
  have hr := hB.returns
  have hts := atoms_spec (ws := wsX8_picture) hB.pre
  have hown : s.vm.findClass RX8 = some m.cls := findClass_of_methodNamed hB.named
  have hlocks := hB.notSynchronized
  have hfix : CallFix p m c cX8_picture 2 s args wsX8_picture RX8 := ⟨hx, hb, hml, hown, hts⟩
  have hinX8 : ∀ w ∈ wsX80, w ∈ wsX8_picture := by decide +kernel
  have lk1 := hts (.fieldLink RX8 47 "ShadeTreeModel" "thrown" "I") (by decide +kernel)
  have lk2 := hts (.fieldLink RX8 16 "ShadeTreeModel" "page" "[I") (by decide +kernel)
  have lk3 := hts (.fieldLink RX8 13 "ShadeTreeModel" "readPage" "[I") (by decide +kernel)
  have lk4 := hts (.fieldLink RX8 123 "ShadeTreeModel" "doings" "I") (by decide +kernel)
  have lk5 := hts (.fieldLink RX8 31 "ShadeTreeModel" "isKept" "[Z") (by decide +kernel)
  rw [show entryFrame m args 2 = entryFrame m ([.ref (q 0)] : List Value).toArray 2 by rw [hargs], lg_entry_eq]
  have hl := lv_entry ([.ref (q 0)]) (n := 2) (Nat.le_of_ble_eq_true rfl)
  generalize (lg_sl ([.ref (q 0)]) ++ List.replicate (2 - (lg_sl ([.ref (q 0)])).length) Slot.unset).toArray = ls at hl ⊢
  have hl : lv_has ls 2 [(0, .ref (q 0))] := hl
  subst hsz
  have hD := hD0.self (sz := s.heap.size)
  generalize hAe : va_A (sh_w8 q cI cJ cZ I S A) s.heap.size = Az at hD ⊢
  have hA : ∀ q : Nat, s.heap.size ≤ q → Az q := fun q h => by rw [← hAe]; exact Or.inr h
  have hS : va_S Az s.heap s.heap [] := va_S.rf
  generalize hQ : MQ below (sh_Qi D (sh_ty cI cJ cZ) Az (sh_w8 q cI cJ cZ oI S oA) o) args s 0 0 Az = Q
  unfold fX8_picture at h
  refine lv_aload_n hx hb dX8_picture_0 rfl (lv_at hl 0 rfl) ?_
  refine lv_iconst (v := 0) hx hb dX8_picture_1 (by decide) ?_
  refine sh_put (wn := (sh_w8 q cI cJ cZ (upd I 0 0) S A)) (ci := 8) (v := .int 0) (ty := .int) (C := RX8) (T := TX8) (N := 21) hx hb hts hinX8 tyX8 tyX8_ok nmX8 hown hK hP hD hS 0 rfl rfl 0 (by decide) lk1 (fun _ h9 => h9) rfl (by decide +kernel) rfl rfl (Nat.le_of_ble_eq_true rfl) rfl dX8_picture_2 (fun H locs hP hD hS => ?_)
  refine lv_aload_n hx hb dX8_picture_5 rfl (lv_at hl 0 rfl) ?_
  obtain ⟨v1, u2, hc3, h⟩ := sh_b2_e h
  refine sh_wVi (wn := (sh_w8 q cI cJ cZ (upd I 0 0) S u2)) (As := []) (rest := []) hfix (k_X8_readPicture l D cI cJ cZ _ q (upd I 0 0) S A v1 u2 hc3) (cwV 0 hts gX8_picture_X8_readPicture rfl rfl rfl hdV_X8_readPicture ⟨Nat.le_of_ble_eq_true rfl, Nat.le_of_ble_eq_true rfl⟩) hP hK hD hS hA [0, 1, 2, 3, 4, 5, 6, 7, 8, 9, 10, 11, 12] [] [0, 1, 2, 3, 4, 5, 6, 7, 8, 9, 10, 11, 12] rfl rfl rfl rfl rfl rfl rfl 0 rfl rfl rfl hl.1 rfl (Nat.le_of_ble_eq_true rfl) dX8_picture_6 ⟨Nat.zero_le _, Nat.zero_le _⟩ (fun H locs hP hD hS => ?_)
  refine lv_bipush (v := -9) hx hb dX8_picture_9 (by decide) ?_
  refine lv_icmp_eq (tgt := 17) hx hb dX8_picture_11 (by decide) (fun g4 => ?_) (fun g4 => ?_)
  · rw [if_pos g4] at h
    refine lv_iconst (v := 0) hx hb dX8_picture_17 (by decide) ?_
    refine lv_istore_n (lv' := [(1, .int 0), (0, .ref (q 0))]) hx hb dX8_picture_18 rfl hl (by decide) rfl (fun ls hl => ?_)
    have LP8 : ∀ (n : Nat) (x1 : Int32) (A : Nat → Nat → Int32) (oA : (Nat → Nat → Int32)) (H : Heap) (locs : List Loc) (ls : Array Slot), fX8_picture_L19 n x1 A = some oA → lv_has ls 2 [(0, .ref (q 0)), (1, .int x1)] → va_P D vwCl (sh_w8 q cI cJ cZ (upd I 0 0) S A) H → va_D Az (sh_w8 q cI cJ cZ (upd I 0 0) S A) → va_S Az s.heap H locs → (∀ (H : Heap) (locs : List Loc) (ls : Array Slot), lv_has ls 2 [(0, .ref (q 0))] → va_P D vwCl (sh_w8 q cI cJ cZ (upd I 0 0) S oA) H → va_D Az (sh_w8 q cI cJ cZ (upd I 0 0) S oA) → va_S Az s.heap H locs → W p l e (headSpec wsX8_picture rmX8_picture).room s m args below meth c H locs 0 0 Q (F0 m 43 ls [])) → W p l e (headSpec wsX8_picture rmX8_picture).room s m args below meth c H locs 0 0 Q (F0 m 19 ls []) := by
      intro n
      induction n with
      | zero =>
        intro x1 A oA H locs ls h hl hP hD hS hk
        exact nomatch ((fX8_picture_L19_z x1 A).symm.trans h)
      | succ n ih =>
        intro x1 A oA H locs ls h hl hP hD hS hk
        rw [fX8_picture_L19_s] at h
        refine lv_iload_n hx hb dX8_picture_19 rfl (lv_at hl 1 rfl) ?_
        refine lv_bipush (v := 39) hx hb dX8_picture_20 (by decide) ?_
        refine lv_icmp_ge (tgt := 43) hx hb dX8_picture_22 (by decide) (fun g5 => ?_) (fun g5 => ?_)
        · rw [if_pos g5] at h
          cases h
          exact hk _ _ ls (lv_sub hl [0] rfl) hP hD hS
        · rw [if_neg g5] at h
          refine lv_aload_n hx hb dX8_picture_25 rfl (lv_at hl 0 rfl) ?_
          refine va_get (ci := 8) (v := .ref (q 3)) (C := RX8) (T := TX8) (N := 21) hx hb hts hinX8 hown hK hP 0 rfl rfl 4 (by decide) lk2 (fun _ h9 => h9) rfl dX8_picture_26 ?_
          refine lv_iload_n hx hb dX8_picture_29 rfl (lv_at hl 1 rfl) ?_
          refine lv_aload_n hx hb dX8_picture_30 rfl (lv_at hl 0 rfl) ?_
          refine va_get (ci := 8) (v := .ref (q 2)) (C := RX8) (T := TX8) (N := 21) hx hb hts hinX8 hown hK hP 0 rfl rfl 3 (by decide) lk3 (fun _ h9 => h9) rfl dX8_picture_31 ?_
          refine lv_iload_n hx hb dX8_picture_34 rfl (lv_at hl 1 rfl) ?_
          obtain ⟨v6, hcv6, h⟩ := sh_b1_e h
          refine sh_iald hx hb hK hP 2 0 rfl rfl (sh_ald_e hcv6) dX8_picture_35 ?_
          obtain ⟨f7, hcf7, h⟩ := sh_b1_e h
          refine sh_iast (wn := (sh_w8 q cI cJ cZ (upd I 0 0) S (va_up A 2 f7))) hx hb hK hP hD hS 3 0 rfl rfl (sh_ast_e hcf7) rfl dX8_picture_36 (fun H locs hP hD hS => ?_)
          refine lv_iinc (v := (x1 + 1)) (lv' := [(1, .int (x1 + 1)), (0, .ref (q 0))]) hx hb dX8_picture_37 hl (k := 1) rfl rfl (by decide) rfl (fun ls hl => ?_)
          refine lv_goto (tgt := 19) hx hb dX8_picture_40 (by decide) ?_
          exact ih (x1 + 1) (va_up A 2 f7) oA _ _ ls h (lv_sub hl [1, 0] rfl) hP hD hS hk
    obtain ⟨w9, hc14, h⟩ := sh_b1_e h
    refine LP8 sh_fu 0 u2 w9 _ _ ls hc14 (lv_sub hl [1, 0] rfl) hP hD hS (fun H locs ls hl hP hD hS => ?_)
    refine lv_aload_n hx hb dX8_picture_43 rfl (lv_at hl 0 rfl) ?_
    refine lv_iconst (v := 0) hx hb dX8_picture_44 (by decide) ?_
    refine sh_put (wn := (sh_w8 q cI cJ cZ (upd (upd I 0 0) 2 0) S w9)) (ci := 8) (v := .int 0) (ty := .int) (C := RX8) (T := TX8) (N := 21) hx hb hts hinX8 tyX8 tyX8_ok nmX8 hown hK hP hD hS 0 rfl rfl 8 (by decide) lk4 (fun _ h9 => h9) rfl (by decide +kernel) rfl rfl (Nat.le_of_ble_eq_true rfl) rfl dX8_picture_45 (fun H locs hP hD hS => ?_)
    refine lv_aload_n hx hb dX8_picture_48 rfl (lv_at hl 0 rfl) ?_
    refine va_get (ci := 8) (v := .ref (q 8)) (C := RX8) (T := TX8) (N := 21) hx hb hts hinX8 hown hK hP 0 rfl rfl 10 (by decide) lk5 (fun _ h9 => h9) rfl dX8_picture_49 ?_
    refine lv_iconst (v := 0) hx hb dX8_picture_52 (by decide) ?_
    refine lv_iconst (v := 0) hx hb dX8_picture_53 (by decide) ?_
    obtain ⟨f10, hcf10, h⟩ := sh_b1_e h
    refine sh_zast (wn := (sh_w8 q cI cJ cZ (upd (upd I 0 0) 2 0) S (va_up w9 7 f10))) hx hb hK hP hD hS 8 2 rfl rfl (sh_astZ_e hcf10) rfl dX8_picture_54 (fun H locs hP hD hS => ?_)
    refine lv_aload_n hx hb dX8_picture_55 rfl (lv_at hl 0 rfl) ?_
    refine va_get (ci := 8) (v := .ref (q 8)) (C := RX8) (T := TX8) (N := 21) hx hb hts hinX8 hown hK hP 0 rfl rfl 10 (by decide) lk5 (fun _ h9 => h9) rfl dX8_picture_56 ?_
    refine lv_iconst (v := 1) hx hb dX8_picture_59 (by decide) ?_
    refine lv_iconst (v := 0) hx hb dX8_picture_60 (by decide) ?_
    obtain ⟨f11, hcf11, h⟩ := sh_b1_e h
    refine sh_zast (wn := (sh_w8 q cI cJ cZ (upd (upd I 0 0) 2 0) S (va_up (va_up w9 7 f10) 7 f11))) hx hb hK hP hD hS 8 2 rfl rfl (sh_astZ_e hcf11) rfl dX8_picture_61 (fun H locs hP hD hS => ?_)
    refine lv_aload_n hx hb dX8_picture_62 rfl (lv_at hl 0 rfl) ?_
    refine va_get (ci := 8) (v := .ref (q 3)) (C := RX8) (T := TX8) (N := 21) hx hb hts hinX8 hown hK hP 0 rfl rfl 4 (by decide) lk2 (fun _ h9 => h9) rfl dX8_picture_63 ?_
    obtain ⟨v12, hc13, h⟩ := sh_b1_e h
    refine sh_cSi (As := [.ref (q 3)]) (rest := []) hfix (k_X8_nodes l D cI cJ cZ (q 3) (w9 2) v12 hc13) (va_cwS 1 hts gX8_picture_X8_nodes rfl rfl rfl hdS_X8_nodes ⟨Nat.le_of_ble_eq_true rfl, Nat.le_of_ble_eq_true rfl⟩) hP hK [3] rfl rfl hl.1 rfl (Nat.le_of_ble_eq_true rfl) dX8_picture_66 ⟨Nat.zero_le _, Nat.zero_le _⟩ ?_
    cases h
    exact sh_rwi hx hb hr hlocks hQ hK hP hD hS dX8_picture_69
  · rw [if_neg g4] at h
    refine lv_bipush (v := -3) hx hb dX8_picture_14 (by decide) ?_
    cases h
    exact sh_rwi hx hb hr hlocks hQ hK hP hD hS dX8_picture_16
