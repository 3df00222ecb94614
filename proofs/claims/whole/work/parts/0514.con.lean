theorem hdV_X8_does : yX8_does.cls = RX8 ∧ yX8_does.cls ≠ "java/lang/invoke/MethodHandle" ∧ yX8_does.cls ≠ "java/lang/invoke/VarHandle" ∧ (parseMethodDescriptor yX8_does.desc).map (fun d => d.parameters.length) = some 1 := by decide +kernel
abbrev rmX8_does : Room := { frames := 6, cells := 0, slots := 0, locals := 155 }
set_option maxHeartbeats 4000000 in
set_option maxRecDepth 100000 in
theorem k_X8_does (l : Launch) (D : va_G) (cI cJ cZ : ClassId) (sz : Nat) (q : Nat → Nat) (I : Nat → Int32) (S : Int64) (A : Nat → Nat → Int32) (x1 : Int32) (o : Int32) (oA : Nat → Nat → Int32) (h : fX8_does A x1 = some (o, oA)) : Met l yX8_does wsX8_does rmX8_does (sh_Pw D (sh_ty cI cJ cZ) sz (sh_w8 q cI cJ cZ I S A) [.ref (q 0), .int x1]) (sh_Qi D (sh_ty cI cJ cZ) (va_A (sh_w8 q cI cJ cZ I S A) sz) (sh_w8 q cI cJ cZ I S oA) o) 0 0 (va_A (sh_w8 q cI cJ cZ I S A) sz) := by
  refine Met.ofW (cc := cX8_does) (maxL := 6) (ret := (some .boolean)) (by decide) rfl ?_
  intro p e s m args below meth c s₁ hB hml hv
  obtain ⟨hargs, hsz, hP, hK, hD0⟩ := hv
  have hx := hB.exec
  have hb := hB.bytes
  have hr := hB.returns
  have hts := atoms_spec (ws := wsX8_does) hB.pre
  have hown : s.vm.findClass RX8 = some m.cls := findClass_of_methodNamed hB.named
  have hlocks := hB.notSynchronized
  have hfix : CallFix p m c cX8_does 6 s args wsX8_does RX8 := ⟨hx, hb, hml, hown, hts⟩
  have hinX8 : ∀ w ∈ wsX80, w ∈ wsX8_does := by decide +kernel
  have lk1 := hts (.constantLong RX8 115 (6)) (by decide +kernel)
  have lk2 := hts (.fieldLink RX8 19 "ShadeTreeModel" "trial" "[I") (by decide +kernel)
  have lk3 := hts (.constantLong RX8 181 (36)) (by decide +kernel)
  rw [show entryFrame m args 6 = entryFrame m ([.ref (q 0), .int x1] : List Value).toArray 6 by rw [hargs], lg_entry_eq]
  have hl := lv_entry ([.ref (q 0), .int x1]) (n := 6) (Nat.le_of_ble_eq_true rfl)
  generalize (lg_sl ([.ref (q 0), .int x1]) ++ List.replicate (6 - (lg_sl ([.ref (q 0), .int x1])).length) Slot.unset).toArray = ls at hl ⊢
  have hl : lv_has ls 6 [(0, .ref (q 0)), (1, .int x1)] := hl
  subst hsz
  have hD := hD0.self (sz := s.heap.size)
  generalize hAe : va_A (sh_w8 q cI cJ cZ I S A) s.heap.size = Az at hD ⊢
  have hA : ∀ q : Nat, s.heap.size ≤ q → Az q := fun q h => by rw [← hAe]; exact Or.inr h
  have hS : va_S Az s.heap s.heap [] := va_S.rf
  generalize hQ : MQ below (sh_Qi D (sh_ty cI cJ cZ) Az (sh_w8 q cI cJ cZ I S oA) o) args s 0 0 Az = Q
  unfold fX8_does at h
  refine lv_iload_n hx hb dX8_does_0 rfl (lv_at hl 1 rfl) ?_
  refine lv_sipush (v := 1000) hx hb dX8_does_1 (by decide) ?_
  refine lv_idiv hx hb dX8_does_4 (by decide) ?_
  refine lv_istore_n (lv' := [(2, .int (x1 / 1000)), (0, .ref (q 0)), (1, .int x1)]) hx hb dX8_does_5 rfl hl (by decide) rfl (fun ls hl => ?_)
  refine lv_iload_n hx hb dX8_does_6 rfl (lv_at hl 2 rfl) ?_
  refine lv_bipush (v := 10) hx hb dX8_does_7 (by decide) ?_
  refine lv_idiv hx hb dX8_does_9 (by decide) ?_
  refine lv_bipush (v := 100) hx hb dX8_does_10 (by decide) ?_
  refine lv_irem hx hb dX8_does_12 (by decide) ?_
  refine lv_istore_n (lv' := [(3, .int ((x1 / 10) - (x1 / 10) / 100 * 100)), (2, .int (x1 / 1000)), (0, .ref (q 0)), (1, .int x1)]) hx hb dX8_does_13 rfl hl (by decide) rfl (fun ls hl => ?_)
  refine lv_iload_n hx hb dX8_does_14 rfl (lv_at hl 3 rfl) ?_
  refine lv_bipush (v := 10) hx hb dX8_does_15 (by decide) ?_
  refine lv_irem hx hb dX8_does_17 (by decide) ?_
  refine lv_istore (lv' := [(4, .int (x1 - x1 / 10 * 10)), (3, .int ((x1 / 10) - (x1 / 10) / 100 * 100)), (2, .int (x1 / 1000)), (0, .ref (q 0)), (1, .int x1)]) hx hb dX8_does_18 hl (by decide) rfl (fun ls hl => ?_)
  refine lv_iload_n hx hb dX8_does_20 rfl (lv_at hl 2 rfl) ?_
  by_cases g1 : (x1 / 1000) = 1
  · rw [if_pos g1] at h
    refine lv_tableIn (off := 31) (tgt := 52) hx hb dX8_does_21 (by rw [g1]; decide) (by rw [g1]; decide) (by rw [g1]; rfl) (by decide) ?_
    refine lv_iload_n hx hb dX8_does_52 rfl (lv_at hl 1 rfl) ?_
    refine lv_aload_n hx hb dX8_does_53 rfl (lv_at hl 3 rfl) ?_
    refine va_get (ci := 8) (v := .ref (q 4)) (C := RX8) (T := TX8) (N := 21) hx hb hts hinX8 hown hK hP 0 rfl rfl 5 (by decide) lk2 (fun _ h9 => h9) rfl dX8_does_54 ?_
    obtain ⟨v51, hc52, h⟩ := sh_b1_e h
    refine sh_cSi (As := [.ref (q 4)]) (rest := [.int ((x1 / 10) - (x1 / 10) / 100 * 100)]) hfix (k_X8_dotsOf l D cI cJ cZ (q 4) (A 3) v51 hc52) (va_cwS 1 hts gX8_does_X8_dotsOf rfl rfl rfl hdS_X8_dotsOf ⟨Nat.le_of_ble_eq_true rfl, Nat.le_of_ble_eq_true rfl⟩) hP hK [4] rfl rfl hl.1 rfl (Nat.le_of_ble_eq_true rfl) dX8_does_57 ⟨Nat.zero_le _, Nat.zero_le _⟩ ?_
    refine lv_icmp_ge (tgt := 73) hx hb dX8_does_60 (by decide) (fun g53 => ?_) (fun g53 => ?_)
    · rw [if_pos g53] at h
      refine lv_iload_n hx hb dX8_does_73 rfl (lv_at hl 1 rfl) ?_
      refine lv_aload_n hx hb dX8_does_74 rfl (lv_at hl 3 rfl) ?_
      refine va_get (ci := 8) (v := .ref (q 4)) (C := RX8) (T := TX8) (N := 21) hx hb hts hinX8 hown hK hP 0 rfl rfl 5 (by decide) lk2 (fun _ h9 => h9) rfl dX8_does_75 ?_
      obtain ⟨v54, hc55, h⟩ := sh_b1_e h
      refine sh_cSi (As := [.ref (q 4)]) (rest := [.int ((x1 / 10) - (x1 / 10) / 100 * 100)]) hfix (k_X8_dotsOf l D cI cJ cZ (q 4) (A 3) v54 hc55) (va_cwS 1 hts gX8_does_X8_dotsOf rfl rfl rfl hdS_X8_dotsOf ⟨Nat.le_of_ble_eq_true rfl, Nat.le_of_ble_eq_true rfl⟩) hP hK [4] rfl rfl hl.1 rfl (Nat.le_of_ble_eq_true rfl) dX8_does_78 ⟨Nat.zero_le _, Nat.zero_le _⟩ ?_
      refine lv_icmp_ge (tgt := 88) hx hb dX8_does_81 (by decide) (fun g56 => ?_) (fun g56 => ?_)
      · rw [if_pos g56] at h
        refine lv_iconst (v := 0) hx hb dX8_does_88 (by decide) ?_
        cases h
        exact sh_rwz hx hb hr hlocks hQ rfl hK hP hD hS dX8_does_89
      · rw [if_neg g56] at h
        refine lv_iconst (v := 1) hx hb dX8_does_84 (by decide) ?_
        refine lv_goto (tgt := 89) hx hb dX8_does_85 (by decide) ?_
        cases h
        exact sh_rwz hx hb hr hlocks hQ rfl hK hP hD hS dX8_does_89
    · rw [if_neg g53] at h
      refine lv_aload_n hx hb dX8_does_63 rfl (lv_at hl 3 rfl) ?_
      refine va_get (ci := 8) (v := .ref (q 4)) (C := RX8) (T := TX8) (N := 21) hx hb hts hinX8 hown hK hP 0 rfl rfl 5 (by decide) lk2 (fun _ h9 => h9) rfl dX8_does_64 ?_
      refine lv_iconst (v := 3) hx hb dX8_does_67 (by decide) ?_
      refine lv_iload_n hx hb dX8_does_68 rfl (lv_at hl 1 rfl) ?_
      refine lv_iadd hx hb dX8_does_69 ?_
      refine lv_iload hx hb dX8_does_70 (lv_at hl 0 rfl) ?_
      obtain ⟨f57, hcf57, h⟩ := sh_b1_e h
      refine sh_iast (wn := (sh_w8 q cI cJ cZ I S (va_up A 3 f57))) hx hb hK hP hD hS 4 0 rfl rfl (sh_ast_e hcf57) rfl dX8_does_72 (fun H locs hP hD hS => ?_)
      refine lv_iload_n hx hb dX8_does_73 rfl (lv_at hl 1 rfl) ?_
      refine lv_aload_n hx hb dX8_does_74 rfl (lv_at hl 3 rfl) ?_
      refine va_get (ci := 8) (v := .ref (q 4)) (C := RX8) (T := TX8) (N := 21) hx hb hts hinX8 hown hK hP 0 rfl rfl 5 (by decide) lk2 (fun _ h9 => h9) rfl dX8_does_75 ?_
      obtain ⟨v58, hc59, h⟩ := sh_b1_e h
      refine sh_cSi (As := [.ref (q 4)]) (rest := [.int ((x1 / 10) - (x1 / 10) / 100 * 100)]) hfix (k_X8_dotsOf l D cI cJ cZ (q 4) f57 v58 hc59) (va_cwS 1 hts gX8_does_X8_dotsOf rfl rfl rfl hdS_X8_dotsOf ⟨Nat.le_of_ble_eq_true rfl, Nat.le_of_ble_eq_true rfl⟩) hP hK [4] rfl rfl hl.1 rfl (Nat.le_of_ble_eq_true rfl) dX8_does_78 ⟨Nat.zero_le _, Nat.zero_le _⟩ ?_
      refine lv_icmp_ge (tgt := 88) hx hb dX8_does_81 (by decide) (fun g60 => ?_) (fun g60 => ?_)
      · rw [if_pos g60] at h
        refine lv_iconst (v := 0) hx hb dX8_does_88 (by decide) ?_
        cases h
        exact sh_rwz hx hb hr hlocks hQ rfl hK hP hD hS dX8_does_89
      · rw [if_neg g60] at h
        refine lv_iconst (v := 1) hx hb dX8_does_84 (by decide) ?_
        refine lv_goto (tgt := 89) hx hb dX8_does_85 (by decide) ?_
        cases h
        exact sh_rwz hx hb hr hlocks hQ rfl hK hP hD hS dX8_does_89
  · rw [if_neg g1] at h
    by_cases g2 : (x1 / 1000) = 2
    · rw [if_pos g2] at h
      refine lv_tableIn (off := 69) (tgt := 90) hx hb dX8_does_21 (by rw [g2]; decide) (by rw [g2]; decide) (by rw [g2]; rfl) (by decide) ?_
      refine lv_iload_n hx hb dX8_does_90 rfl (lv_at hl 4 rfl) ?_
      refine lv_sipush (v := 2000) hx hb dX8_does_91 (by decide) ?_
      refine lv_icmp_ne (tgt := 104) hx hb dX8_does_94 (by decide) (fun g46 => ?_) (fun g46 => ?_)
      · rw [if_neg g46] at h
        refine lv_iload_n hx hb dX8_does_104 rfl (lv_at hl 4 rfl) ?_
        refine lv_sipush (v := 2000) hx hb dX8_does_105 (by decide) ?_
        refine lv_icmp_ne (tgt := 115) hx hb dX8_does_108 (by decide) (fun g47 => ?_) (fun g47 => ?_)
        · rw [if_neg g47] at h
          refine lv_iconst (v := 0) hx hb dX8_does_115 (by decide) ?_
          cases h
          exact sh_rwz hx hb hr hlocks hQ rfl hK hP hD hS dX8_does_116
        · rw [if_pos g47] at h
          refine lv_iconst (v := 1) hx hb dX8_does_111 (by decide) ?_
          refine lv_goto (tgt := 116) hx hb dX8_does_112 (by decide) ?_
          cases h
          exact sh_rwz hx hb hr hlocks hQ rfl hK hP hD hS dX8_does_116
      · rw [if_pos g46] at h
        refine lv_aload_n hx hb dX8_does_97 rfl (lv_at hl 3 rfl) ?_
        refine va_get (ci := 8) (v := .ref (q 4)) (C := RX8) (T := TX8) (N := 21) hx hb hts hinX8 hown hK hP 0 rfl rfl 5 (by decide) lk2 (fun _ h9 => h9) rfl dX8_does_98 ?_
        obtain ⟨u48, hc49, h⟩ := sh_b1_e h
        refine sh_wSv (wn := (sh_w8 q cI cJ cZ I S (va_up A 3 u48))) (As := [.ref (q 4)]) (rest := []) hfix (k_X8_goNegative l D cI cJ cZ _ (q 4) (A 3) u48 hc49) (va_cwS 1 hts gX8_does_X8_goNegative rfl rfl rfl hdS_X8_goNegative ⟨Nat.le_of_ble_eq_true rfl, Nat.le_of_ble_eq_true rfl⟩) hP hK hD hS hA [4] [0, 1, 2, 3, 5, 6, 7, 8, 9, 10, 11, 12] [0, 1, 2, 3, 12, 4, 5, 6, 7, 8, 9, 10, 11] rfl rfl rfl rfl rfl rfl rfl rfl hl.1 rfl (Nat.le_of_ble_eq_true rfl) dX8_does_101 ⟨Nat.zero_le _, Nat.zero_le _⟩ (fun H locs hP hD hS => ?_)
        refine lv_iload_n hx hb dX8_does_104 rfl (lv_at hl 4 rfl) ?_
        refine lv_sipush (v := 2000) hx hb dX8_does_105 (by decide) ?_
        refine lv_icmp_ne (tgt := 115) hx hb dX8_does_108 (by decide) (fun g50 => ?_) (fun g50 => ?_)
        · rw [if_neg g50] at h
          refine lv_iconst (v := 0) hx hb dX8_does_115 (by decide) ?_
          cases h
          exact sh_rwz hx hb hr hlocks hQ rfl hK hP hD hS dX8_does_116
        · rw [if_pos g50] at h
          refine lv_iconst (v := 1) hx hb dX8_does_111 (by decide) ?_
          refine lv_goto (tgt := 116) hx hb dX8_does_112 (by decide) ?_
          cases h
          exact sh_rwz hx hb hr hlocks hQ rfl hK hP hD hS dX8_does_116
    · rw [if_neg g2] at h
      by_cases g3 : (x1 / 1000) = 3
      · rw [if_pos g3] at h
        refine lv_tableIn (off := 96) (tgt := 117) hx hb dX8_does_21 (by rw [g3]; decide) (by rw [g3]; decide) (by rw [g3]; rfl) (by decide) ?_
        refine lv_iload hx hb dX8_does_117 (lv_at hl 0 rfl) ?_
        refine lv_if_ne (tgt := 149) hx hb dX8_does_119 (by decide) (fun g27 => ?_) (fun g27 => ?_)
        · rw [if_neg g27] at h
          refine lv_iconst (v := 0) hx hb dX8_does_149 (by decide) ?_
          refine lv_istore (lv' := [(5, .int 0), (4, .int (x1 - x1 / 10 * 10)), (3, .int ((x1 / 10) - (x1 / 10) / 100 * 100)), (2, .int (x1 / 1000)), (0, .ref (q 0)), (1, .int x1)]) hx hb dX8_does_150 hl (by decide) rfl (fun ls hl => ?_)
          refine lv_iload hx hb dX8_does_152 (lv_at hl 0 rfl) ?_
          refine lv_if_eq (tgt := 170) hx hb dX8_does_154 (by decide) (fun g28 => ?_) (fun g28 => ?_)
          · refine lv_iload hx hb dX8_does_170 (lv_at hl 0 rfl) ?_
            cases h
            exact sh_rwz hx hb hr hlocks hQ rfl hK hP hD hS dX8_does_172
          · exact absurd g28 (by decide)
        · rw [if_pos g27] at h
          refine lv_iload_n hx hb dX8_does_122 rfl (lv_at hl 1 rfl) ?_
          refine lv_i2l (v := (Int32.toInt64 ((x1 / 10) - (x1 / 10) / 100 * 100))) hx hb dX8_does_123 rfl ?_
          refine lv_lconst (v := 1) hx hb dX8_does_124 (by decide) ?_
          refine lv_iload_n hx hb dX8_does_125 rfl (lv_at hl 2 rfl) ?_
          refine lv_iconst (v := 3) hx hb dX8_does_126 (by decide) ?_
          refine lv_icmp_ne (tgt := 136) hx hb dX8_does_127 (by decide) (fun g29 => ?_) (fun g29 => ?_)
          · rw [if_neg g29] at h
            refine lv_ldc2 hx hb hown lk1 dX8_does_136 ?_
            obtain ⟨v30, hc31, h⟩ := sh_b1_e h
            refine sh_cSi (As := [.long (Int32.toInt64 ((x1 / 10) - (x1 / 10) / 100 * 100)), .long 1, .long 6]) (rest := []) hfix (k_X8_in l D cI cJ cZ (Int32.toInt64 ((x1 / 10) - (x1 / 10) / 100 * 100)) 1 6 v30 hc31) (va_cwS 3 hts gX8_does_X8_in rfl rfl rfl hdS_X8_in ⟨Nat.le_of_ble_eq_true rfl, Nat.le_of_ble_eq_true rfl⟩) hP hK [] rfl rfl hl.1 rfl (Nat.le_of_ble_eq_true rfl) dX8_does_139 ⟨Nat.zero_le _, Nat.zero_le _⟩ ?_
            refine lv_if_eq (tgt := 149) hx hb dX8_does_142 (by decide) (fun g32 => ?_) (fun g32 => ?_)
            · rw [if_pos g32] at h
              refine lv_iconst (v := 0) hx hb dX8_does_149 (by decide) ?_
              refine lv_istore (lv' := [(5, .int 0), (4, .int (x1 - x1 / 10 * 10)), (3, .int ((x1 / 10) - (x1 / 10) / 100 * 100)), (2, .int (x1 / 1000)), (0, .ref (q 0)), (1, .int x1)]) hx hb dX8_does_150 hl (by decide) rfl (fun ls hl => ?_)
              refine lv_iload hx hb dX8_does_152 (lv_at hl 0 rfl) ?_
              refine lv_if_eq (tgt := 170) hx hb dX8_does_154 (by decide) (fun g33 => ?_) (fun g33 => ?_)
              · refine lv_iload hx hb dX8_does_170 (lv_at hl 0 rfl) ?_
                cases h
                exact sh_rwz hx hb hr hlocks hQ rfl hK hP hD hS dX8_does_172
              · exact absurd g33 (by decide)
            · rw [if_neg g32] at h
              refine lv_iconst (v := 1) hx hb dX8_does_145 (by decide) ?_
              refine lv_goto (tgt := 150) hx hb dX8_does_146 (by decide) ?_
              refine lv_istore (lv' := [(5, .int 1), (4, .int (x1 - x1 / 10 * 10)), (3, .int ((x1 / 10) - (x1 / 10) / 100 * 100)), (2, .int (x1 / 1000)), (0, .ref (q 0)), (1, .int x1)]) hx hb dX8_does_150 hl (by decide) rfl (fun ls hl => ?_)
              refine lv_iload hx hb dX8_does_152 (lv_at hl 0 rfl) ?_
              refine lv_if_eq (tgt := 170) hx hb dX8_does_154 (by decide) (fun g34 => ?_) (fun g34 => ?_)
              · exact absurd g34 (by decide)
              · refine lv_aload_n hx hb dX8_does_157 rfl (lv_at hl 4 rfl) ?_
                refine lv_aload_n hx hb dX8_does_158 rfl (lv_at hl 4 rfl) ?_
                refine va_get (ci := 8) (v := .ref (q 4)) (C := RX8) (T := TX8) (N := 21) hx hb hts hinX8 hown hK hP 0 rfl rfl 5 (by decide) lk2 (fun _ h9 => h9) rfl dX8_does_159 ?_
                refine lv_iload_n hx hb dX8_does_162 rfl (lv_at hl 3 rfl) ?_
                refine lv_iconst (v := 3) hx hb dX8_does_163 (by decide) ?_
                refine lv_isub hx hb dX8_does_164 ?_
                refine lv_iload_n hx hb dX8_does_165 rfl (lv_at hl 2 rfl) ?_
                obtain ⟨v35, u36, hc37, h⟩ := sh_b2_e h
                refine sh_wVi (wn := (sh_w8 q cI cJ cZ I S u36)) (As := [.ref (q 4), .int ((x1 / 1000) - 3), .int ((x1 / 10) - (x1 / 10) / 100 * 100)]) (rest := []) hfix (k_X8_goSift_t l D cI cJ cZ _ q I S A ((x1 / 1000) - 3) ((x1 / 10) - (x1 / 10) / 100 * 100) v35 u36 hc37) (cwV 3 hts gX8_does_X8_goSift rfl rfl rfl hdV_X8_goSift_t ⟨Nat.le_of_ble_eq_true rfl, Nat.le_of_ble_eq_true rfl⟩) hP hK hD hS hA [0, 1, 2, 3, 4, 5, 6, 7, 8, 9, 10, 11, 12] [] [0, 1, 2, 3, 4, 5, 6, 7, 8, 9, 10, 11, 12] rfl rfl rfl rfl rfl rfl rfl 0 rfl rfl rfl hl.1 rfl (Nat.le_of_ble_eq_true rfl) dX8_does_166 ⟨Nat.zero_le _, Nat.zero_le _⟩ (fun H locs hP hD hS => ?_)
                refine lv_pop hx hb dX8_does_169 rfl ?_
                refine lv_iload hx hb dX8_does_170 (lv_at hl 0 rfl) ?_
                cases h
                exact sh_rwz hx hb hr hlocks hQ rfl hK hP hD hS dX8_does_172
          · rw [if_pos g29] at h
            refine lv_ldc2 hx hb hown lk3 dX8_does_130 ?_
            refine lv_goto (tgt := 139) hx hb dX8_does_133 (by decide) ?_
            obtain ⟨v38, hc39, h⟩ := sh_b1_e h
            refine sh_cSi (As := [.long (Int32.toInt64 ((x1 / 10) - (x1 / 10) / 100 * 100)), .long 1, .long 36]) (rest := []) hfix (k_X8_in l D cI cJ cZ (Int32.toInt64 ((x1 / 10) - (x1 / 10) / 100 * 100)) 1 36 v38 hc39) (va_cwS 3 hts gX8_does_X8_in rfl rfl rfl hdS_X8_in ⟨Nat.le_of_ble_eq_true rfl, Nat.le_of_ble_eq_true rfl⟩) hP hK [] rfl rfl hl.1 rfl (Nat.le_of_ble_eq_true rfl) dX8_does_139 ⟨Nat.zero_le _, Nat.zero_le _⟩ ?_
            refine lv_if_eq (tgt := 149) hx hb dX8_does_142 (by decide) (fun g40 => ?_) (fun g40 => ?_)
            · rw [if_pos g40] at h
              refine lv_iconst (v := 0) hx hb dX8_does_149 (by decide) ?_
              refine lv_istore (lv' := [(5, .int 0), (4, .int (x1 - x1 / 10 * 10)), (3, .int ((x1 / 10) - (x1 / 10) / 100 * 100)), (2, .int (x1 / 1000)), (0, .ref (q 0)), (1, .int x1)]) hx hb dX8_does_150 hl (by decide) rfl (fun ls hl => ?_)
              refine lv_iload hx hb dX8_does_152 (lv_at hl 0 rfl) ?_
              refine lv_if_eq (tgt := 170) hx hb dX8_does_154 (by decide) (fun g41 => ?_) (fun g41 => ?_)
              · refine lv_iload hx hb dX8_does_170 (lv_at hl 0 rfl) ?_
                cases h
                exact sh_rwz hx hb hr hlocks hQ rfl hK hP hD hS dX8_does_172
              · exact absurd g41 (by decide)
            · rw [if_neg g40] at h
              refine lv_iconst (v := 1) hx hb dX8_does_145 (by decide) ?_
              refine lv_goto (tgt := 150) hx hb dX8_does_146 (by decide) ?_
              refine lv_istore (lv' := [(5, .int 1), (4, .int (x1 - x1 / 10 * 10)), (3, .int ((x1 / 10) - (x1 / 10) / 100 * 100)), (2, .int (x1 / 1000)), (0, .ref (q 0)), (1, .int x1)]) hx hb dX8_does_150 hl (by decide) rfl (fun ls hl => ?_)
              refine lv_iload hx hb dX8_does_152 (lv_at hl 0 rfl) ?_
              refine lv_if_eq (tgt := 170) hx hb dX8_does_154 (by decide) (fun g42 => ?_) (fun g42 => ?_)
              · exact absurd g42 (by decide)
              · refine lv_aload_n hx hb dX8_does_157 rfl (lv_at hl 4 rfl) ?_
                refine lv_aload_n hx hb dX8_does_158 rfl (lv_at hl 4 rfl) ?_
                refine va_get (ci := 8) (v := .ref (q 4)) (C := RX8) (T := TX8) (N := 21) hx hb hts hinX8 hown hK hP 0 rfl rfl 5 (by decide) lk2 (fun _ h9 => h9) rfl dX8_does_159 ?_
                refine lv_iload_n hx hb dX8_does_162 rfl (lv_at hl 3 rfl) ?_
                refine lv_iconst (v := 3) hx hb dX8_does_163 (by decide) ?_
                refine lv_isub hx hb dX8_does_164 ?_
                refine lv_iload_n hx hb dX8_does_165 rfl (lv_at hl 2 rfl) ?_
                obtain ⟨v43, u44, hc45, h⟩ := sh_b2_e h
                refine sh_wVi (wn := (sh_w8 q cI cJ cZ I S u44)) (As := [.ref (q 4), .int ((x1 / 1000) - 3), .int ((x1 / 10) - (x1 / 10) / 100 * 100)]) (rest := []) hfix (k_X8_goSift_t l D cI cJ cZ _ q I S A ((x1 / 1000) - 3) ((x1 / 10) - (x1 / 10) / 100 * 100) v43 u44 hc45) (cwV 3 hts gX8_does_X8_goSift rfl rfl rfl hdV_X8_goSift_t ⟨Nat.le_of_ble_eq_true rfl, Nat.le_of_ble_eq_true rfl⟩) hP hK hD hS hA [0, 1, 2, 3, 4, 5, 6, 7, 8, 9, 10, 11, 12] [] [0, 1, 2, 3, 4, 5, 6, 7, 8, 9, 10, 11, 12] rfl rfl rfl rfl rfl rfl rfl 0 rfl rfl rfl hl.1 rfl (Nat.le_of_ble_eq_true rfl) dX8_does_166 ⟨Nat.zero_le _, Nat.zero_le _⟩ (fun H locs hP hD hS => ?_)
                refine lv_pop hx hb dX8_does_169 rfl ?_
                refine lv_iload hx hb dX8_does_170 (lv_at hl 0 rfl) ?_
                cases h
                exact sh_rwz hx hb hr hlocks hQ rfl hK hP hD hS dX8_does_172
      · rw [if_neg g3] at h
        by_cases g4 : (x1 / 1000) = 4
        · rw [if_pos g4] at h
          refine lv_tableIn (off := 96) (tgt := 117) hx hb dX8_does_21 (by rw [g4]; decide) (by rw [g4]; decide) (by rw [g4]; rfl) (by decide) ?_
          refine lv_iload hx hb dX8_does_117 (lv_at hl 0 rfl) ?_
          refine lv_if_ne (tgt := 149) hx hb dX8_does_119 (by decide) (fun g8 => ?_) (fun g8 => ?_)
          · rw [if_neg g8] at h
            refine lv_iconst (v := 0) hx hb dX8_does_149 (by decide) ?_
            refine lv_istore (lv' := [(5, .int 0), (4, .int (x1 - x1 / 10 * 10)), (3, .int ((x1 / 10) - (x1 / 10) / 100 * 100)), (2, .int (x1 / 1000)), (0, .ref (q 0)), (1, .int x1)]) hx hb dX8_does_150 hl (by decide) rfl (fun ls hl => ?_)
            refine lv_iload hx hb dX8_does_152 (lv_at hl 0 rfl) ?_
            refine lv_if_eq (tgt := 170) hx hb dX8_does_154 (by decide) (fun g9 => ?_) (fun g9 => ?_)
            · refine lv_iload hx hb dX8_does_170 (lv_at hl 0 rfl) ?_
              cases h
              exact sh_rwz hx hb hr hlocks hQ rfl hK hP hD hS dX8_does_172
            · exact absurd g9 (by decide)
          · rw [if_pos g8] at h
            refine lv_iload_n hx hb dX8_does_122 rfl (lv_at hl 1 rfl) ?_
            refine lv_i2l (v := (Int32.toInt64 ((x1 / 10) - (x1 / 10) / 100 * 100))) hx hb dX8_does_123 rfl ?_
            refine lv_lconst (v := 1) hx hb dX8_does_124 (by decide) ?_
            refine lv_iload_n hx hb dX8_does_125 rfl (lv_at hl 2 rfl) ?_
            refine lv_iconst (v := 3) hx hb dX8_does_126 (by decide) ?_
            refine lv_icmp_ne (tgt := 136) hx hb dX8_does_127 (by decide) (fun g10 => ?_) (fun g10 => ?_)
            · rw [if_neg g10] at h
              refine lv_ldc2 hx hb hown lk1 dX8_does_136 ?_
              obtain ⟨v11, hc12, h⟩ := sh_b1_e h
              refine sh_cSi (As := [.long (Int32.toInt64 ((x1 / 10) - (x1 / 10) / 100 * 100)), .long 1, .long 6]) (rest := []) hfix (k_X8_in l D cI cJ cZ (Int32.toInt64 ((x1 / 10) - (x1 / 10) / 100 * 100)) 1 6 v11 hc12) (va_cwS 3 hts gX8_does_X8_in rfl rfl rfl hdS_X8_in ⟨Nat.le_of_ble_eq_true rfl, Nat.le_of_ble_eq_true rfl⟩) hP hK [] rfl rfl hl.1 rfl (Nat.le_of_ble_eq_true rfl) dX8_does_139 ⟨Nat.zero_le _, Nat.zero_le _⟩ ?_
              refine lv_if_eq (tgt := 149) hx hb dX8_does_142 (by decide) (fun g13 => ?_) (fun g13 => ?_)
              · rw [if_pos g13] at h
                refine lv_iconst (v := 0) hx hb dX8_does_149 (by decide) ?_
                refine lv_istore (lv' := [(5, .int 0), (4, .int (x1 - x1 / 10 * 10)), (3, .int ((x1 / 10) - (x1 / 10) / 100 * 100)), (2, .int (x1 / 1000)), (0, .ref (q 0)), (1, .int x1)]) hx hb dX8_does_150 hl (by decide) rfl (fun ls hl => ?_)
                refine lv_iload hx hb dX8_does_152 (lv_at hl 0 rfl) ?_
                refine lv_if_eq (tgt := 170) hx hb dX8_does_154 (by decide) (fun g14 => ?_) (fun g14 => ?_)
                · refine lv_iload hx hb dX8_does_170 (lv_at hl 0 rfl) ?_
                  cases h
                  exact sh_rwz hx hb hr hlocks hQ rfl hK hP hD hS dX8_does_172
                · exact absurd g14 (by decide)
              · rw [if_neg g13] at h
                refine lv_iconst (v := 1) hx hb dX8_does_145 (by decide) ?_
                refine lv_goto (tgt := 150) hx hb dX8_does_146 (by decide) ?_
                refine lv_istore (lv' := [(5, .int 1), (4, .int (x1 - x1 / 10 * 10)), (3, .int ((x1 / 10) - (x1 / 10) / 100 * 100)), (2, .int (x1 / 1000)), (0, .ref (q 0)), (1, .int x1)]) hx hb dX8_does_150 hl (by decide) rfl (fun ls hl => ?_)
                refine lv_iload hx hb dX8_does_152 (lv_at hl 0 rfl) ?_
                refine lv_if_eq (tgt := 170) hx hb dX8_does_154 (by decide) (fun g15 => ?_) (fun g15 => ?_)
                · exact absurd g15 (by decide)
                · refine lv_aload_n hx hb dX8_does_157 rfl (lv_at hl 4 rfl) ?_
                  refine lv_aload_n hx hb dX8_does_158 rfl (lv_at hl 4 rfl) ?_
                  refine va_get (ci := 8) (v := .ref (q 4)) (C := RX8) (T := TX8) (N := 21) hx hb hts hinX8 hown hK hP 0 rfl rfl 5 (by decide) lk2 (fun _ h9 => h9) rfl dX8_does_159 ?_
                  refine lv_iload_n hx hb dX8_does_162 rfl (lv_at hl 3 rfl) ?_
                  refine lv_iconst (v := 3) hx hb dX8_does_163 (by decide) ?_
                  refine lv_isub hx hb dX8_does_164 ?_
                  refine lv_iload_n hx hb dX8_does_165 rfl (lv_at hl 2 rfl) ?_
                  obtain ⟨v16, u17, hc18, h⟩ := sh_b2_e h
                  refine sh_wVi (wn := (sh_w8 q cI cJ cZ I S u17)) (As := [.ref (q 4), .int ((x1 / 1000) - 3), .int ((x1 / 10) - (x1 / 10) / 100 * 100)]) (rest := []) hfix (k_X8_goSift_t l D cI cJ cZ _ q I S A ((x1 / 1000) - 3) ((x1 / 10) - (x1 / 10) / 100 * 100) v16 u17 hc18) (cwV 3 hts gX8_does_X8_goSift rfl rfl rfl hdV_X8_goSift_t ⟨Nat.le_of_ble_eq_true rfl, Nat.le_of_ble_eq_true rfl⟩) hP hK hD hS hA [0, 1, 2, 3, 4, 5, 6, 7, 8, 9, 10, 11, 12] [] [0, 1, 2, 3, 4, 5, 6, 7, 8, 9, 10, 11, 12] rfl rfl rfl rfl rfl rfl rfl 0 rfl rfl rfl hl.1 rfl (Nat.le_of_ble_eq_true rfl) dX8_does_166 ⟨Nat.zero_le _, Nat.zero_le _⟩ (fun H locs hP hD hS => ?_)
                  refine lv_pop hx hb dX8_does_169 rfl ?_
                  refine lv_iload hx hb dX8_does_170 (lv_at hl 0 rfl) ?_
                  cases h
                  exact sh_rwz hx hb hr hlocks hQ rfl hK hP hD hS dX8_does_172
            · rw [if_pos g10] at h
              refine lv_ldc2 hx hb hown lk3 dX8_does_130 ?_
              refine lv_goto (tgt := 139) hx hb dX8_does_133 (by decide) ?_
              obtain ⟨v19, hc20, h⟩ := sh_b1_e h
              refine sh_cSi (As := [.long (Int32.toInt64 ((x1 / 10) - (x1 / 10) / 100 * 100)), .long 1, .long 36]) (rest := []) hfix (k_X8_in l D cI cJ cZ (Int32.toInt64 ((x1 / 10) - (x1 / 10) / 100 * 100)) 1 36 v19 hc20) (va_cwS 3 hts gX8_does_X8_in rfl rfl rfl hdS_X8_in ⟨Nat.le_of_ble_eq_true rfl, Nat.le_of_ble_eq_true rfl⟩) hP hK [] rfl rfl hl.1 rfl (Nat.le_of_ble_eq_true rfl) dX8_does_139 ⟨Nat.zero_le _, Nat.zero_le _⟩ ?_
              refine lv_if_eq (tgt := 149) hx hb dX8_does_142 (by decide) (fun g21 => ?_) (fun g21 => ?_)
              · rw [if_pos g21] at h
                refine lv_iconst (v := 0) hx hb dX8_does_149 (by decide) ?_
                refine lv_istore (lv' := [(5, .int 0), (4, .int (x1 - x1 / 10 * 10)), (3, .int ((x1 / 10) - (x1 / 10) / 100 * 100)), (2, .int (x1 / 1000)), (0, .ref (q 0)), (1, .int x1)]) hx hb dX8_does_150 hl (by decide) rfl (fun ls hl => ?_)
                refine lv_iload hx hb dX8_does_152 (lv_at hl 0 rfl) ?_
                refine lv_if_eq (tgt := 170) hx hb dX8_does_154 (by decide) (fun g22 => ?_) (fun g22 => ?_)
                · refine lv_iload hx hb dX8_does_170 (lv_at hl 0 rfl) ?_
                  cases h
                  exact sh_rwz hx hb hr hlocks hQ rfl hK hP hD hS dX8_does_172
                · exact absurd g22 (by decide)
              · rw [if_neg g21] at h
                refine lv_iconst (v := 1) hx hb dX8_does_145 (by decide) ?_
                refine lv_goto (tgt := 150) hx hb dX8_does_146 (by decide) ?_
                refine lv_istore (lv' := [(5, .int 1), (4, .int (x1 - x1 / 10 * 10)), (3, .int ((x1 / 10) - (x1 / 10) / 100 * 100)), (2, .int (x1 / 1000)), (0, .ref (q 0)), (1, .int x1)]) hx hb dX8_does_150 hl (by decide) rfl (fun ls hl => ?_)
                refine lv_iload hx hb dX8_does_152 (lv_at hl 0 rfl) ?_
                refine lv_if_eq (tgt := 170) hx hb dX8_does_154 (by decide) (fun g23 => ?_) (fun g23 => ?_)
                · exact absurd g23 (by decide)
                · refine lv_aload_n hx hb dX8_does_157 rfl (lv_at hl 4 rfl) ?_
                  refine lv_aload_n hx hb dX8_does_158 rfl (lv_at hl 4 rfl) ?_
                  refine va_get (ci := 8) (v := .ref (q 4)) (C := RX8) (T := TX8) (N := 21) hx hb hts hinX8 hown hK hP 0 rfl rfl 5 (by decide) lk2 (fun _ h9 => h9) rfl dX8_does_159 ?_
                  refine lv_iload_n hx hb dX8_does_162 rfl (lv_at hl 3 rfl) ?_
                  refine lv_iconst (v := 3) hx hb dX8_does_163 (by decide) ?_
                  refine lv_isub hx hb dX8_does_164 ?_
                  refine lv_iload_n hx hb dX8_does_165 rfl (lv_at hl 2 rfl) ?_
                  obtain ⟨v24, u25, hc26, h⟩ := sh_b2_e h
                  refine sh_wVi (wn := (sh_w8 q cI cJ cZ I S u25)) (As := [.ref (q 4), .int ((x1 / 1000) - 3), .int ((x1 / 10) - (x1 / 10) / 100 * 100)]) (rest := []) hfix (k_X8_goSift_t l D cI cJ cZ _ q I S A ((x1 / 1000) - 3) ((x1 / 10) - (x1 / 10) / 100 * 100) v24 u25 hc26) (cwV 3 hts gX8_does_X8_goSift rfl rfl rfl hdV_X8_goSift_t ⟨Nat.le_of_ble_eq_true rfl, Nat.le_of_ble_eq_true rfl⟩) hP hK hD hS hA [0, 1, 2, 3, 4, 5, 6, 7, 8, 9, 10, 11, 12] [] [0, 1, 2, 3, 4, 5, 6, 7, 8, 9, 10, 11, 12] rfl rfl rfl rfl rfl rfl rfl 0 rfl rfl rfl hl.1 rfl (Nat.le_of_ble_eq_true rfl) dX8_does_166 ⟨Nat.zero_le _, Nat.zero_le _⟩ (fun H locs hP hD hS => ?_)
                  refine lv_pop hx hb dX8_does_169 rfl ?_
                  refine lv_iload hx hb dX8_does_170 (lv_at hl 0 rfl) ?_
                  cases h
                  exact sh_rwz hx hb hr hlocks hQ rfl hK hP hD hS dX8_does_172
        · rw [if_neg g4] at h
          refine lv_tableOut (tgt := 173) hx hb dX8_does_21 (by have k0 := lv_neT (a := 1) g1 rfl; have k1 := lv_neT (a := 2) g2 rfl; have k2 := lv_neT (a := 3) g3 rfl; have k3 := lv_neT (a := 4) g4 rfl; omega) (by decide) ?_
          refine lv_aload_n hx hb dX8_does_173 rfl (lv_at hl 3 rfl) ?_
          refine lv_iload_n hx hb dX8_does_174 rfl (lv_at hl 2 rfl) ?_
          refine lv_iload_n hx hb dX8_does_175 rfl (lv_at hl 1 rfl) ?_
          refine lv_iload hx hb dX8_does_176 (lv_at hl 0 rfl) ?_
          obtain ⟨v5, hc6, h⟩ := sh_b1_e h
          refine sh_cVi (As := [.int (x1 / 1000), .int ((x1 / 10) - (x1 / 10) / 100 * 100), .int (x1 - x1 / 10 * 10)]) (rest := []) hfix (k_X8_isSo l D cI cJ cZ q I S A (x1 / 1000) ((x1 / 10) - (x1 / 10) / 100 * 100) (x1 - x1 / 10 * 10) v5 hc6) (cwV 3 hts gX8_does_X8_isSo rfl rfl rfl hdV_X8_isSo ⟨Nat.le_of_ble_eq_true rfl, Nat.le_of_ble_eq_true rfl⟩) hP hK [0, 1, 2, 3, 4, 5, 6, 7, 8, 9, 10, 11, 12] rfl 0 rfl rfl rfl hl.1 rfl (Nat.le_of_ble_eq_true rfl) dX8_does_178 ⟨Nat.zero_le _, Nat.zero_le _⟩ ?_
          obtain ⟨v7, hcv7, h⟩ := sh_b1_e h
          obtain ⟨hnv7, rfl⟩ := sh_zr_e hcv7
          cases h
          exact sh_rwz hx hb hr hlocks hQ hnv7 hK hP hD hS dX8_does_181
theorem hdV_X8_judge : yX8_judge.cls = RX8 ∧ yX8_judge.cls ≠ "java/lang/invoke/MethodHandle" ∧ yX8_judge.cls ≠ "java/lang/invoke/VarHandle" ∧ (parseMethodDescriptor yX8_judge.desc).map (fun d => d.parameters.length) = some 2 := by decide +kernel
abbrev rmX8_judge : Room := { frames := 7, cells := 0, slots := 0, locals := 180 }
set_option maxHeartbeats 4000000 in
set_option maxRecDepth 100000 in
theorem k_X8_judge (l : Launch) (D : va_G) (cI cJ cZ : ClassId) (sz : Nat) (q : Nat → Nat) (I : Nat → Int32) (S : Int64) (A : Nat → Nat → Int32) (x1 : Int32) (x2 : Int64) (o : Int32) (oI : Nat → Int32) (oA : Nat → Nat → Int32) (h : fX8_judge I S A x1 x2 = some (o, oI, oA)) : Met l yX8_judge wsX8_judge rmX8_judge (sh_Pw D (sh_ty cI cJ cZ) sz (sh_w8 q cI cJ cZ I S A) [.ref (q 0), .int x1, .long x2]) (sh_Qi D (sh_ty cI cJ cZ) (va_A (sh_w8 q cI cJ cZ I S A) sz) (sh_w8 q cI cJ cZ oI S oA) o) 0 0 (va_A (sh_w8 q cI cJ cZ I S A) sz) := by
  refine Met.ofW (cc := cX8_judge) (maxL := 5) (ret := (some .int)) (by decide) rfl ?_
  intro p e s m args below meth c s₁ hB hml hv
  obtain ⟨hargs, hsz, hP, hK, hD0⟩ := hv
  have hx := hB.exec
  have hb := hB.bytes
  have hr := hB.returns
  have hts := atoms_spec (ws := wsX8_judge) hB.pre
  have hown : s.vm.findClass RX8 = some m.cls := findClass_of_methodNamed hB.named
  have hlocks := hB.notSynchronized
  have hfix : CallFix p m c cX8_judge 5 s args wsX8_judge RX8 := ⟨hx, hb, hml, hown, hts⟩
  have hinX8 : ∀ w ∈ wsX80, w ∈ wsX8_judge := by decide +kernel
  have lk1 := hts (.fieldLink RX8 47 "ShadeTreeModel" "thrown" "I") (by decide +kernel)
  have lk2 := hts (.constantLong RX8 216 (4)) (by decide +kernel)
  have lk3 := hts (.constantLong RX8 218 (10000)) (by decide +kernel)
  rw [show entryFrame m args 5 = entryFrame m ([.ref (q 0), .int x1, .long x2] : List Value).toArray 5 by rw [hargs], lg_entry_eq]
  have hl := lv_entry ([.ref (q 0), .int x1, .long x2]) (n := 5) (Nat.le_of_ble_eq_true rfl)
  generalize (lg_sl ([.ref (q 0), .int x1, .long x2]) ++ List.replicate (5 - (lg_sl ([.ref (q 0), .int x1, .long x2])).length) Slot.unset).toArray = ls at hl ⊢
  have hl : lv_has ls 5 [(0, .ref (q 0)), (1, .int x1), (2, .long x2)] := hl
  subst hsz
  have hD := hD0.self (sz := s.heap.size)
  generalize hAe : va_A (sh_w8 q cI cJ cZ I S A) s.heap.size = Az at hD ⊢
  have hA : ∀ q : Nat, s.heap.size ≤ q → Az q := fun q h => by rw [← hAe]; exact Or.inr h
  have hS : va_S Az s.heap s.heap [] := va_S.rf
  generalize hQ : MQ below (sh_Qi D (sh_ty cI cJ cZ) Az (sh_w8 q cI cJ cZ oI S oA) o) args s 0 0 Az = Q
  unfold fX8_judge at h
  refine lv_aload_n hx hb dX8_judge_0 rfl (lv_at hl 0 rfl) ?_
  refine lv_iconst (v := 0) hx hb dX8_judge_1 (by decide) ?_
  refine sh_put (wn := (sh_w8 q cI cJ cZ (upd I 0 0) S A)) (ci := 8) (v := .int 0) (ty := .int) (C := RX8) (T := TX8) (N := 21) hx hb hts hinX8 tyX8 tyX8_ok nmX8 hown hK hP hD hS 0 rfl rfl 0 (by decide) lk1 (fun _ h9 => h9) rfl (by decide +kernel) rfl rfl (Nat.le_of_ble_eq_true rfl) rfl dX8_judge_2 (fun H locs hP hD hS => ?_)
  refine lv_iload_n hx hb dX8_judge_5 rfl (lv_at hl 1 rfl) ?_
  refine lv_i2l (v := (Int32.toInt64 x1)) hx hb dX8_judge_6 rfl ?_
  refine lv_lconst (v := 1) hx hb dX8_judge_7 (by decide) ?_
  refine lv_ldc2 hx hb hown lk2 dX8_judge_8 ?_
  obtain ⟨v1, hc2, h⟩ := sh_b1_e h
  refine sh_cSi (As := [.long (Int32.toInt64 x1), .long 1, .long 4]) (rest := []) hfix (k_X8_in l D cI cJ cZ (Int32.toInt64 x1) 1 4 v1 hc2) (va_cwS 3 hts gX8_judge_X8_in rfl rfl rfl hdS_X8_in ⟨Nat.le_of_ble_eq_true rfl, Nat.le_of_ble_eq_true rfl⟩) hP hK [] rfl rfl hl.1 rfl (Nat.le_of_ble_eq_true rfl) dX8_judge_11 ⟨Nat.zero_le _, Nat.zero_le _⟩ ?_
  refine lv_if_eq (tgt := 34) hx hb dX8_judge_14 (by decide) (fun g3 => ?_) (fun g3 => ?_)
  · rw [if_pos g3] at h
    refine lv_bipush (v := -2) hx hb dX8_judge_34 (by decide) ?_
    cases h
    exact sh_rwi hx hb hr hlocks hQ hK hP hD hS dX8_judge_36
  · rw [if_neg g3] at h
    refine lv_lload_n hx hb dX8_judge_17 rfl (lv_at hl 2 rfl) ?_
    refine lv_lconst (v := 0) hx hb dX8_judge_18 (by decide) ?_
    refine lv_ldc2 hx hb hown lk3 dX8_judge_19 ?_
    refine lv_iload_n hx hb dX8_judge_22 rfl (lv_at hl 1 rfl) ?_
    obtain ⟨v4, hc5, h⟩ := sh_b1_e h
    refine sh_cSl (As := [.long 10000, .int x1]) (rest := [.long 0, .long x2]) hfix (k_X8_longPower l D cI cJ cZ 10000 x1 v4 hc5) (va_cwS 2 hts gX8_judge_X8_longPower rfl rfl rfl hdS_X8_longPower ⟨Nat.le_of_ble_eq_true rfl, Nat.le_of_ble_eq_true rfl⟩) hP hK [] rfl rfl hl.1 rfl (Nat.le_of_ble_eq_true rfl) dX8_judge_23 ⟨Nat.zero_le _, Nat.zero_le _⟩ ?_
    refine lv_lconst (v := 1) hx hb dX8_judge_26 (by decide) ?_
    refine lv_lsub hx hb dX8_judge_27 ?_
    obtain ⟨v6, hc7, h⟩ := sh_b1_e h
    refine sh_cSi (As := [.long x2, .long 0, .long (v4 - 1)]) (rest := []) hfix (k_X8_in l D cI cJ cZ x2 0 (v4 - 1) v6 hc7) (va_cwS 3 hts gX8_judge_X8_in rfl rfl rfl hdS_X8_in ⟨Nat.le_of_ble_eq_true rfl, Nat.le_of_ble_eq_true rfl⟩) hP hK [] rfl rfl hl.1 rfl (Nat.le_of_ble_eq_true rfl) dX8_judge_28 ⟨Nat.zero_le _, Nat.zero_le _⟩ ?_
    refine lv_if_ne (tgt := 37) hx hb dX8_judge_31 (by decide) (fun g8 => ?_) (fun g8 => ?_)
    · rw [if_neg g8] at h
      refine lv_aload_n hx hb dX8_judge_37 rfl (lv_at hl 0 rfl) ?_
      obtain ⟨u9, hc10, h⟩ := sh_b1_e h
      refine sh_wVv (wn := (sh_w8 q cI cJ cZ (upd I 0 0) S u9)) (As := []) (rest := []) hfix (k_X8_begin l D cI cJ cZ _ q (upd I 0 0) S A u9 hc10) (cwV 0 hts gX8_judge_X8_begin rfl rfl rfl hdV_X8_begin ⟨Nat.le_of_ble_eq_true rfl, Nat.le_of_ble_eq_true rfl⟩) hP hK hD hS hA [0, 1, 2, 3, 4, 5, 6, 7, 8, 9, 10, 11, 12] [] [0, 1, 2, 3, 4, 5, 6, 7, 8, 9, 10, 11, 12] rfl rfl rfl rfl rfl rfl rfl 0 rfl rfl rfl hl.1 rfl (Nat.le_of_ble_eq_true rfl) dX8_judge_38 ⟨Nat.zero_le _, Nat.zero_le _⟩ (fun H locs hP hD hS => ?_)
      refine lv_iconst (v := 0) hx hb dX8_judge_41 (by decide) ?_
      refine lv_istore (lv' := [(4, .int 0), (0, .ref (q 0)), (1, .int x1), (2, .long x2)]) hx hb dX8_judge_42 hl (by decide) rfl (fun ls hl => ?_)
      have LP19 : ∀ (n : Nat) (x1 : Int32) (x2 : Int64) (x4 : Int32) (A : Nat → Nat → Int32) (z : (Int32 × (Nat → Int32) × (Nat → Nat → Int32)) ⊕ ((Nat → Nat → Int32))) (H : Heap) (locs : List Loc) (ls : Array Slot), fX8_judge_L44 n x1 x2 x4 (upd I 0 0) S A = some z → lv_has ls 5 [(0, .ref (q 0)), (1, .int x1), (2, .long x2), (4, .int x4)] → va_P D vwCl (sh_w8 q cI cJ cZ (upd I 0 0) S A) H → va_D Az (sh_w8 q cI cJ cZ (upd I 0 0) S A) → va_S Az s.heap H locs → (∀ x, z = .inl x → x = (o, oI, oA)) → (∀ (t : (Nat → Nat → Int32)), z = .inr t → ∀ (H : Heap) (locs : List Loc) (ls : Array Slot), lv_has ls 5 [] → va_P D vwCl (sh_w8 q cI cJ cZ (upd I 0 0) S t) H → va_D Az (sh_w8 q cI cJ cZ (upd I 0 0) S t) → va_S Az s.heap H locs → W p l e (headSpec wsX8_judge rmX8_judge).room s m args below meth c H locs 0 0 Q (F0 m 85 ls [])) → W p l e (headSpec wsX8_judge rmX8_judge).room s m args below meth c H locs 0 0 Q (F0 m 44 ls []) := by
        intro n
        induction n with
        | zero =>
          intro x1 x2 x4 A z H locs ls h hl hP hD hS hret hk
          exact nomatch ((fX8_judge_L44_z x1 x2 x4 (upd I 0 0) S A).symm.trans h)
        | succ n ih =>
          intro x1 x2 x4 A z H locs ls h hl hP hD hS hret hk
          rw [fX8_judge_L44_s] at h
          refine lv_iload hx hb dX8_judge_44 (lv_at hl 3 rfl) ?_
          refine lv_iload_n hx hb dX8_judge_46 rfl (lv_at hl 1 rfl) ?_
          refine lv_icmp_ge (tgt := 85) hx hb dX8_judge_47 (by decide) (fun g11 => ?_) (fun g11 => ?_)
          · rw [if_pos g11] at h
            exact hk A (Option.some.inj h).symm _ _ ls (lv_sub hl [] rfl) hP hD hS
          · rw [if_neg g11] at h
            refine lv_aload_n hx hb dX8_judge_50 rfl (lv_at hl 0 rfl) ?_
            refine lv_lload_n hx hb dX8_judge_51 rfl (lv_at hl 2 rfl) ?_
            refine lv_ldc2 hx hb hown lk3 dX8_judge_52 ?_
            refine lv_iload_n hx hb dX8_judge_55 rfl (lv_at hl 1 rfl) ?_
            refine lv_iconst (v := 1) hx hb dX8_judge_56 (by decide) ?_
            refine lv_isub hx hb dX8_judge_57 ?_
            refine lv_iload hx hb dX8_judge_58 (lv_at hl 3 rfl) ?_
            refine lv_isub hx hb dX8_judge_60 ?_
            obtain ⟨v12, hc13, h⟩ := sh_b1_e h
            refine sh_cSl (As := [.long 10000, .int ((x1 - 1) - x4)]) (rest := [.long x2, .ref (q 0)]) hfix (k_X8_longPower l D cI cJ cZ 10000 ((x1 - 1) - x4) v12 hc13) (va_cwS 2 hts gX8_judge_X8_longPower rfl rfl rfl hdS_X8_longPower ⟨Nat.le_of_ble_eq_true rfl, Nat.le_of_ble_eq_true rfl⟩) hP hK [] rfl rfl hl.1 rfl (Nat.le_of_ble_eq_true rfl) dX8_judge_61 ⟨Nat.zero_le _, Nat.zero_le _⟩ ?_
            obtain ⟨v14, hcv14, h⟩ := sh_b1_e h
            refine sh_ldiv hx hb (sh_divL_e hcv14) dX8_judge_64 ?_
            refine lv_ldc2 hx hb hown lk3 dX8_judge_65 ?_
            refine lv_lrem hx hb dX8_judge_68 (by decide) ?_
            refine lv_l2i (v := (Int64.toInt32 (v14 - v14 / 10000 * 10000))) hx hb dX8_judge_69 rfl ?_
            obtain ⟨v15, u16, hc17, h⟩ := sh_b2_e h
            refine sh_wVi (wn := (sh_w8 q cI cJ cZ (upd I 0 0) S u16)) (As := [.int (Int64.toInt32 (v14 - v14 / 10000 * 10000))]) (rest := []) hfix (k_X8_does l D cI cJ cZ _ q (upd I 0 0) S A (Int64.toInt32 (v14 - v14 / 10000 * 10000)) v15 u16 hc17) (cwV 1 hts gX8_judge_X8_does rfl rfl rfl hdV_X8_does ⟨Nat.le_of_ble_eq_true rfl, Nat.le_of_ble_eq_true rfl⟩) hP hK hD hS hA [0, 1, 2, 3, 4, 5, 6, 7, 8, 9, 10, 11, 12] [] [0, 1, 2, 3, 4, 5, 6, 7, 8, 9, 10, 11, 12] rfl rfl rfl rfl rfl rfl rfl 0 rfl rfl rfl hl.1 rfl (Nat.le_of_ble_eq_true rfl) dX8_judge_70 ⟨Nat.zero_le _, Nat.zero_le _⟩ (fun H locs hP hD hS => ?_)
            refine lv_if_ne (tgt := 79) hx hb dX8_judge_73 (by decide) (fun g18 => ?_) (fun g18 => ?_)
            · rw [if_neg g18] at h
              refine lv_iinc (v := (x4 + 1)) (lv' := [(4, .int (x4 + 1)), (0, .ref (q 0)), (1, .int x1), (2, .long x2)]) hx hb dX8_judge_79 hl (k := 3) rfl rfl (by decide) rfl (fun ls hl => ?_)
              refine lv_goto (tgt := 44) hx hb dX8_judge_82 (by decide) ?_
              exact ih x1 x2 (x4 + 1) u16 z _ _ ls h (lv_sub hl [1, 2, 3, 0] rfl) hP hD hS hret hk
            · rw [if_pos g18] at h
              refine lv_iload hx hb dX8_judge_76 (lv_at hl 3 rfl) ?_
              cases hret _ (Option.some.inj h).symm
              exact sh_rwi hx hb hr hlocks hQ hK hP hD hS dX8_judge_78
      obtain ⟨z20, hcz20, hrz20, hkz20⟩ := sh_bs_e h
      refine LP19 sh_fu x1 x2 0 u9 z20 _ _ ls hcz20 (lv_sub hl [1, 2, 3, 0] rfl) hP hD hS hrz20 (fun t21 et21 H locs ls hl hP hD hS => ?_)
      have h := hkz20 t21 et21
      refine lv_bipush (v := -9) hx hb dX8_judge_85 (by decide) ?_
      cases h
      exact sh_rwi hx hb hr hlocks hQ hK hP hD hS dX8_judge_87
    · rw [if_pos g8] at h
      refine lv_bipush (v := -2) hx hb dX8_judge_34 (by decide) ?_
      cases h
      exact sh_rwi hx hb hr hlocks hQ hK hP hD hS dX8_judge_36
theorem hdS_X8_orders : yX8_orders.cls ≠ "java/lang/invoke/MethodHandle" ∧ yX8_orders.cls ≠ "java/lang/invoke/VarHandle" ∧ (parseMethodDescriptor yX8_orders.desc).map (fun d => d.parameters.length) = some 2 := by decide +kernel
abbrev rmX8_orders : Room := { frames := 0, cells := 0, slots := 0, locals := 0 }
set_option maxHeartbeats 4000000 in
set_option maxRecDepth 100000 in
theorem k_X8_orders (l : Launch) (D : va_G) (cI cJ cZ : ClassId) (x0 : Int32) (x1 : Int32) (o : Int32) (h : fX8_orders x0 x1 = some o) : Met l yX8_orders wsX8_orders rmX8_orders (sh_Pr D (sh_ty cI cJ cZ) [] [.int x0, .int x1]) (vp_Si (fun z => z = o)) 0 0 (fun _ => False) := by
  refine Met.ofW (cc := cX8_orders) (maxL := 4) (ret := (some .int)) (by decide) rfl ?_
  intro p e s m args below meth c s₁ hB hml hv
  obtain ⟨hargs, hP, hK⟩ := hv
  have hx := hB.exec
  have hb := hB.bytes
  have hr := hB.returns
  have hts := atoms_spec (ws := wsX8_orders) hB.pre
  have hown : s.vm.findClass RX8 = some m.cls := findClass_of_methodNamed hB.named
  have hlocks := hB.notSynchronized
  have hfix : CallFix p m c cX8_orders 4 s args wsX8_orders RX8 := ⟨hx, hb, hml, hown, hts⟩
  rw [show entryFrame m args 4 = entryFrame m ([.int x0, .int x1] : List Value).toArray 4 by rw [hargs], lg_entry_eq]
  have hl := lv_entry ([.int x0, .int x1]) (n := 4) (Nat.le_of_ble_eq_true rfl)
  generalize (lg_sl ([.int x0, .int x1]) ++ List.replicate (4 - (lg_sl ([.int x0, .int x1])).length) Slot.unset).toArray = ls at hl ⊢
  have hl : lv_has ls 4 [(0, .int x0), (1, .int x1)] := hl
  generalize hQ : MQ below (vp_Si (fun z => z = o)) args s 0 0 (fun _ => False) = Q
  unfold fX8_orders at h
  refine lv_iconst (v := 1) hx hb dX8_orders_0 (by decide) ?_
  refine lv_istore_n (lv' := [(2, .int 1), (0, .int x0), (1, .int x1)]) hx hb dX8_orders_1 rfl hl (by decide) rfl (fun ls hl => ?_)
  refine lv_iconst (v := 2) hx hb dX8_orders_2 (by decide) ?_
  refine lv_istore_n (lv' := [(3, .int 2), (2, .int 1), (0, .int x0), (1, .int x1)]) hx hb dX8_orders_3 rfl hl (by decide) rfl (fun ls hl => ?_)
  have LP2 : ∀ (n : Nat) (x0 : Int32) (x1 : Int32) (x2 : Int32) (x3 : Int32) (ow2 : Int32) (ls : Array Slot), fX8_orders_L4 n x0 x1 x2 x3 = some ow2 → lv_has ls 4 [(0, .int x0), (1, .int x1), (2, .int x2), (3, .int x3)] → (∀ (ls : Array Slot), lv_has ls 4 [(0, .int x0), (1, .int x1), (2, .int ow2)] → W p l e (headSpec wsX8_orders rmX8_orders).room s m args below meth c s.heap [] 0 0 Q (F0 m 19 ls [])) → W p l e (headSpec wsX8_orders rmX8_orders).room s m args below meth c s.heap [] 0 0 Q (F0 m 4 ls []) := by
    intro n
    induction n with
    | zero =>
      intro x0 x1 x2 x3 ow2 ls h hl hk
      exact nomatch ((fX8_orders_L4_z x0 x1 x2 x3).symm.trans h)
    | succ n ih =>
      intro x0 x1 x2 x3 ow2 ls h hl hk
      rw [fX8_orders_L4_s] at h
      refine lv_iload_n hx hb dX8_orders_4 rfl (lv_at hl 3 rfl) ?_
      refine lv_iload_n hx hb dX8_orders_5 rfl (lv_at hl 1 rfl) ?_
      refine lv_icmp_gt (tgt := 19) hx hb dX8_orders_6 (by decide) (fun g1 => ?_) (fun g1 => ?_)
      · rw [if_pos g1] at h
        cases h
        exact hk ls (lv_sub hl [0, 1, 2] rfl) 
      · rw [if_neg g1] at h
        refine lv_iload_n hx hb dX8_orders_9 rfl (lv_at hl 2 rfl) ?_
        refine lv_iload_n hx hb dX8_orders_10 rfl (lv_at hl 3 rfl) ?_
        refine lv_imul hx hb dX8_orders_11 ?_
        refine lv_istore_n (lv' := [(2, .int (x2 * x3)), (0, .int x0), (1, .int x1), (3, .int x3)]) hx hb dX8_orders_12 rfl hl (by decide) rfl (fun ls hl => ?_)
        refine lv_iinc (v := (x3 + 1)) (lv' := [(3, .int (x3 + 1)), (2, .int (x2 * x3)), (0, .int x0), (1, .int x1)]) hx hb dX8_orders_13 hl (k := 3) rfl rfl (by decide) rfl (fun ls hl => ?_)
        refine lv_goto (tgt := 4) hx hb dX8_orders_16 (by decide) ?_
        exact ih x0 x1 (x2 * x3) (x3 + 1) ow2 ls h (lv_sub hl [2, 3, 1, 0] rfl)  hk
  obtain ⟨w3, hc8, h⟩ := sh_b1_e h
  refine LP2 sh_fu x0 x1 1 2 w3 ls hc8 (lv_sub hl [2, 3, 1, 0] rfl)  (fun ls hl  => ?_)
  refine lv_iconst (v := 2) hx hb dX8_orders_19 (by decide) ?_
  refine lv_istore_n (lv' := [(3, .int 2), (0, .int x0), (1, .int x1), (2, .int w3)]) hx hb dX8_orders_20 rfl hl (by decide) rfl (fun ls hl => ?_)
  have LP5 : ∀ (n : Nat) (x0 : Int32) (x1 : Int32) (x2 : Int32) (x3 : Int32) (ow2 : Int32) (ls : Array Slot), fX8_orders_L21 n x0 x1 x2 x3 = some ow2 → lv_has ls 4 [(0, .int x0), (1, .int x1), (2, .int x2), (3, .int x3)] → (∀ (ls : Array Slot), lv_has ls 4 [(2, .int ow2)] → W p l e (headSpec wsX8_orders rmX8_orders).room s m args below meth c s.heap [] 0 0 Q (F0 m 40 ls [])) → W p l e (headSpec wsX8_orders rmX8_orders).room s m args below meth c s.heap [] 0 0 Q (F0 m 21 ls []) := by
    intro n
    induction n with
    | zero =>
      intro x0 x1 x2 x3 ow2 ls h hl hk
      exact nomatch ((fX8_orders_L21_z x0 x1 x2 x3).symm.trans h)
    | succ n ih =>
      intro x0 x1 x2 x3 ow2 ls h hl hk
      rw [fX8_orders_L21_s] at h
      refine lv_iload_n hx hb dX8_orders_21 rfl (lv_at hl 3 rfl) ?_
      refine lv_iload_n hx hb dX8_orders_22 rfl (lv_at hl 0 rfl) ?_
      refine lv_iconst (v := 1) hx hb dX8_orders_23 (by decide) ?_
      refine lv_isub hx hb dX8_orders_24 ?_
      refine lv_iload_n hx hb dX8_orders_25 rfl (lv_at hl 1 rfl) ?_
      refine lv_isub hx hb dX8_orders_26 ?_
      refine lv_icmp_gt (tgt := 40) hx hb dX8_orders_27 (by decide) (fun g4 => ?_) (fun g4 => ?_)
      · rw [if_pos g4] at h
        cases h
        exact hk ls (lv_sub hl [2] rfl) 
      · rw [if_neg g4] at h
        refine lv_iload_n hx hb dX8_orders_30 rfl (lv_at hl 2 rfl) ?_
        refine lv_iload_n hx hb dX8_orders_31 rfl (lv_at hl 3 rfl) ?_
        refine lv_imul hx hb dX8_orders_32 ?_
        refine lv_istore_n (lv' := [(2, .int (x2 * x3)), (0, .int x0), (1, .int x1), (3, .int x3)]) hx hb dX8_orders_33 rfl hl (by decide) rfl (fun ls hl => ?_)
        refine lv_iinc (v := (x3 + 1)) (lv' := [(3, .int (x3 + 1)), (2, .int (x2 * x3)), (0, .int x0), (1, .int x1)]) hx hb dX8_orders_34 hl (k := 3) rfl rfl (by decide) rfl (fun ls hl => ?_)
        refine lv_goto (tgt := 21) hx hb dX8_orders_37 (by decide) ?_
        exact ih x0 x1 (x2 * x3) (x3 + 1) ow2 ls h (lv_sub hl [2, 3, 1, 0] rfl)  hk
  obtain ⟨w6, hc7, h⟩ := sh_b1_e h
  refine LP5 sh_fu x0 x1 w3 2 w6 ls hc7 (lv_sub hl [1, 2, 3, 0] rfl)  (fun ls hl  => ?_)
  refine lv_iload_n hx hb dX8_orders_40 rfl (lv_at hl 0 rfl) ?_
  exact sh_roi hx hb hr hlocks hQ (Option.some.inj h) dX8_orders_41
theorem hdV_X8_rows : yX8_rows.cls = RX8 ∧ yX8_rows.cls ≠ "java/lang/invoke/MethodHandle" ∧ yX8_rows.cls ≠ "java/lang/invoke/VarHandle" ∧ (parseMethodDescriptor yX8_rows.desc).map (fun d => d.parameters.length) = some 1 := by decide +kernel
abbrev rmX8_rows : Room := { frames := 1, cells := 0, slots := 0, locals := 22 }
set_option maxHeartbeats 4000000 in
set_option maxRecDepth 100000 in
theorem k_X8_rows (l : Launch) (D : va_G) (cI cJ cZ : ClassId) (q : Nat → Nat) (I : Nat → Int32) (S : Int64) (A : Nat → Nat → Int32) (x1 : Int32) (o : Int64) (h : fX8_rows A x1 = some o) : Met l yX8_rows wsX8_rows rmX8_rows (sh_Pr D (sh_ty cI cJ cZ) (sh_w8 q cI cJ cZ I S A) [.ref (q 0), .int x1]) (vp_Sl (fun z => z = o)) 0 0 (fun _ => False) := by
  refine Met.ofW (cc := cX8_rows) (maxL := 5) (ret := (some .long)) (by decide) rfl ?_
  intro p e s m args below meth c s₁ hB hml hv
  obtain ⟨hargs, hP, hK⟩ := hv
  have hx := hB.exec
  have hb := hB.bytes
  have hr := hB.returns
  have hts := atoms_spec (ws := wsX8_rows) hB.pre
  have hown : s.vm.findClass RX8 = some m.cls := findClass_of_methodNamed hB.named
  have hlocks := hB.notSynchronized
  have hfix : CallFix p m c cX8_rows 5 s args wsX8_rows RX8 := ⟨hx, hb, hml, hown, hts⟩
  have hinX8 : ∀ w ∈ wsX80, w ∈ wsX8_rows := by decide +kernel
  have lk1 := hts (.fieldLink RX8 16 "ShadeTreeModel" "page" "[I") (by decide +kernel)
  rw [show entryFrame m args 5 = entryFrame m ([.ref (q 0), .int x1] : List Value).toArray 5 by rw [hargs], lg_entry_eq]
  have hl := lv_entry ([.ref (q 0), .int x1]) (n := 5) (Nat.le_of_ble_eq_true rfl)
  generalize (lg_sl ([.ref (q 0), .int x1]) ++ List.replicate (5 - (lg_sl ([.ref (q 0), .int x1])).length) Slot.unset).toArray = ls at hl ⊢
  have hl : lv_has ls 5 [(0, .ref (q 0)), (1, .int x1)] := hl
  generalize hQ : MQ below (vp_Sl (fun z => z = o)) args s 0 0 (fun _ => False) = Q
  unfold fX8_rows at h
  refine lv_lconst (v := 0) hx hb dX8_rows_0 (by decide) ?_
  refine lv_lstore_n (lv' := [(2, .long 0), (0, .ref (q 0)), (1, .int x1)]) hx hb dX8_rows_1 rfl hl (by decide) rfl (fun ls hl => ?_)
  refine lv_iconst (v := 0) hx hb dX8_rows_2 (by decide) ?_
  refine lv_istore (lv' := [(4, .int 0), (2, .long 0), (0, .ref (q 0)), (1, .int x1)]) hx hb dX8_rows_3 hl (by decide) rfl (fun ls hl => ?_)
  have LP8 : ∀ (n : Nat) (x1 : Int32) (x2 : Int64) (x4 : Int32) (ow2 : Int64) (ls : Array Slot), fX8_rows_L5 n x1 x2 x4 A = some ow2 → lv_has ls 5 [(0, .ref (q 0)), (1, .int x1), (2, .long x2), (4, .int x4)] → (∀ (ls : Array Slot), lv_has ls 5 [(2, .long ow2)] → W p l e (headSpec wsX8_rows rmX8_rows).room s m args below meth c s.heap [] 0 0 Q (F0 m 51 ls [])) → W p l e (headSpec wsX8_rows rmX8_rows).room s m args below meth c s.heap [] 0 0 Q (F0 m 5 ls []) := by
    intro n
    induction n with
    | zero =>
      intro x1 x2 x4 ow2 ls h hl hk
      exact nomatch ((fX8_rows_L5_z x1 x2 x4 A).symm.trans h)
    | succ n ih =>
      intro x1 x2 x4 ow2 ls h hl hk
      rw [fX8_rows_L5_s] at h
      refine lv_iload hx hb dX8_rows_5 (lv_at hl 3 rfl) ?_
      refine lv_aload_n hx hb dX8_rows_7 rfl (lv_at hl 0 rfl) ?_
      refine va_get (ci := 8) (v := .ref (q 3)) (C := RX8) (T := TX8) (N := 21) hx hb hts hinX8 hown hK hP 0 rfl rfl 4 (by decide) lk1 (fun _ h9 => h9) rfl dX8_rows_8 ?_
      obtain ⟨v1, hc2, h⟩ := sh_b1_e h
      refine sh_cSi (As := [.ref (q 3)]) (rest := [.int x4]) hfix (k_X8_dotsOf l D cI cJ cZ (q 3) (A 2) v1 hc2) (va_cwS 1 hts gX8_rows_X8_dotsOf rfl rfl rfl hdS_X8_dotsOf ⟨Nat.le_of_ble_eq_true rfl, Nat.le_of_ble_eq_true rfl⟩) hP hK [3] rfl rfl hl.1 rfl (Nat.le_of_ble_eq_true rfl) dX8_rows_11 ⟨Nat.zero_le _, Nat.zero_le _⟩ ?_
      refine lv_icmp_ge (tgt := 51) hx hb dX8_rows_14 (by decide) (fun g3 => ?_) (fun g3 => ?_)
      · rw [if_pos g3] at h
        cases h
        exact hk ls (lv_sub hl [2] rfl) 
      · rw [if_neg g3] at h
        refine lv_lload_n hx hb dX8_rows_17 rfl (lv_at hl 2 rfl) ?_
        refine lv_iload_n hx hb dX8_rows_18 rfl (lv_at hl 1 rfl) ?_
        refine lv_i2l (v := (Int32.toInt64 x1)) hx hb dX8_rows_19 rfl ?_
        refine lv_iload hx hb dX8_rows_20 (lv_at hl 3 rfl) ?_
        refine lv_aload_n hx hb dX8_rows_22 rfl (lv_at hl 0 rfl) ?_
        refine va_get (ci := 8) (v := .ref (q 3)) (C := RX8) (T := TX8) (N := 21) hx hb hts hinX8 hown hK hP 0 rfl rfl 4 (by decide) lk1 (fun _ h9 => h9) rfl dX8_rows_23 ?_
        refine lv_iconst (v := 1) hx hb dX8_rows_26 (by decide) ?_
        refine sh_iald (v := ((A 2) 1)) hx hb hK hP 3 0 rfl rfl ⟨by unfold vp_in; decide, rfl⟩ dX8_rows_27 ?_
        obtain ⟨v4, hcv4, h⟩ := sh_b1_e h
        refine sh_idiv hx hb (sh_div_e hcv4) dX8_rows_28 ?_
        obtain ⟨v5, hc6, h⟩ := sh_b1_e h
        refine sh_cSi (As := [.long (Int32.toInt64 x1), .int v4]) (rest := [.long x2]) hfix (k_X8_has l D cI cJ cZ (Int32.toInt64 x1) v4 v5 hc6) (va_cwS 2 hts gX8_rows_X8_has rfl rfl rfl hdS_X8_has ⟨Nat.le_of_ble_eq_true rfl, Nat.le_of_ble_eq_true rfl⟩) hP hK [] rfl rfl hl.1 rfl (Nat.le_of_ble_eq_true rfl) dX8_rows_29 ⟨Nat.zero_le _, Nat.zero_le _⟩ ?_
        refine lv_if_eq (tgt := 42) hx hb dX8_rows_32 (by decide) (fun g7 => ?_) (fun g7 => ?_)
        · rw [if_pos g7] at h
          refine lv_lconst (v := 0) hx hb dX8_rows_42 (by decide) ?_
          refine lv_lor hx hb dX8_rows_43 ?_
          refine lv_lstore_n (lv' := [(2, .long (x2 ||| 0)), (0, .ref (q 0)), (1, .int x1), (4, .int x4)]) hx hb dX8_rows_44 rfl hl (by decide) rfl (fun ls hl => ?_)
          refine lv_iinc (v := (x4 + 1)) (lv' := [(4, .int (x4 + 1)), (2, .long (x2 ||| 0)), (0, .ref (q 0)), (1, .int x1)]) hx hb dX8_rows_45 hl (k := 3) rfl rfl (by decide) rfl (fun ls hl => ?_)
          refine lv_goto (tgt := 5) hx hb dX8_rows_48 (by decide) ?_
          exact ih x1 (x2 ||| 0) (x4 + 1) ow2 ls h (lv_sub hl [2, 3, 1, 0] rfl)  hk
        · rw [if_neg g7] at h
          refine lv_lconst (v := 1) hx hb dX8_rows_35 (by decide) ?_
          refine lv_iload hx hb dX8_rows_36 (lv_at hl 3 rfl) ?_
          refine lv_lshl (v := (sh_lsl 1 x4)) hx hb dX8_rows_38 rfl ?_
          refine lv_goto (tgt := 43) hx hb dX8_rows_39 (by decide) ?_
          refine lv_lor hx hb dX8_rows_43 ?_
          refine lv_lstore_n (lv' := [(2, .long (x2 ||| (sh_lsl 1 x4))), (0, .ref (q 0)), (1, .int x1), (4, .int x4)]) hx hb dX8_rows_44 rfl hl (by decide) rfl (fun ls hl => ?_)
          refine lv_iinc (v := (x4 + 1)) (lv' := [(4, .int (x4 + 1)), (2, .long (x2 ||| (sh_lsl 1 x4))), (0, .ref (q 0)), (1, .int x1)]) hx hb dX8_rows_45 hl (k := 3) rfl rfl (by decide) rfl (fun ls hl => ?_)
          refine lv_goto (tgt := 5) hx hb dX8_rows_48 (by decide) ?_
          exact ih x1 (x2 ||| (sh_lsl 1 x4)) (x4 + 1) ow2 ls h (lv_sub hl [2, 3, 1, 0] rfl)  hk
  obtain ⟨w9, hc10, h⟩ := sh_b1_e h
  refine LP8 sh_fu x1 0 0 w9 ls hc10 (lv_sub hl [2, 3, 1, 0] rfl)  (fun ls hl  => ?_)
  refine lv_lload_n hx hb dX8_rows_51 rfl (lv_at hl 0 rfl) ?_
  exact sh_rol hx hb hr hlocks hQ (Option.some.inj h) dX8_rows_52
theorem hdV_X8_share : yX8_share.cls = RX8 ∧ yX8_share.cls ≠ "java/lang/invoke/MethodHandle" ∧ yX8_share.cls ≠ "java/lang/invoke/VarHandle" ∧ (parseMethodDescriptor yX8_share.desc).map (fun d => d.parameters.length) = some 3 := by decide +kernel
abbrev rmX8_share : Room := { frames := 4, cells := 0, slots := 0, locals := 107 }
set_option maxHeartbeats 4000000 in
set_option maxRecDepth 100000 in
theorem k_X8_share (l : Launch) (D : va_G) (cI cJ cZ : ClassId) (sz : Nat) (q : Nat → Nat) (I : Nat → Int32) (S : Int64) (A : Nat → Nat → Int32) (x1 : Int32) (x2 : Int32) (x3 : Int32) (o : Int32) (oI : Nat → Int32) (oA : Nat → Nat → Int32) (h : fX8_share I A x1 x2 x3 = some (o, oI, oA)) : Met l yX8_share wsX8_share rmX8_share (sh_Pw D (sh_ty cI cJ cZ) sz (sh_w8 q cI cJ cZ I S A) [.ref (q 0), .int x1, .int x2, .int x3]) (sh_Qi D (sh_ty cI cJ cZ) (va_A (sh_w8 q cI cJ cZ I S A) sz) (sh_w8 q cI cJ cZ oI S oA) o) 0 0 (va_A (sh_w8 q cI cJ cZ I S A) sz) := by
  refine Met.ofW (cc := cX8_share) (maxL := 9) (ret := (some .int)) (by decide) rfl ?_
  intro p e s m args below meth c s₁ hB hml hv
  obtain ⟨hargs, hsz, hP, hK, hD0⟩ := hv
  have hx := hB.exec
  have hb := hB.bytes
  have hr := hB.returns
  have hts := atoms_spec (ws := wsX8_share) hB.pre
  have hown : s.vm.findClass RX8 = some m.cls := findClass_of_methodNamed hB.named
  have hlocks := hB.notSynchronized
  have hfix : CallFix p m c cX8_share 9 s args wsX8_share RX8 := ⟨hx, hb, hml, hown, hts⟩
  have hinX8 : ∀ w ∈ wsX80, w ∈ wsX8_share := by decide +kernel
  have lk1 := hts (.fieldLink RX8 47 "ShadeTreeModel" "thrown" "I") (by decide +kernel)
  have lk2 := hts (.fieldLink RX8 16 "ShadeTreeModel" "page" "[I") (by decide +kernel)
  have lk3 := hts (.constantLong RX8 117 (9)) (by decide +kernel)
  have lk4 := hts (.fieldLink RX8 44 "ShadeTreeModel" "value" "[I") (by decide +kernel)
  rw [show entryFrame m args 9 = entryFrame m ([.ref (q 0), .int x1, .int x2, .int x3] : List Value).toArray 9 by rw [hargs], lg_entry_eq]
  have hl := lv_entry ([.ref (q 0), .int x1, .int x2, .int x3]) (n := 9) (Nat.le_of_ble_eq_true rfl)
  generalize (lg_sl ([.ref (q 0), .int x1, .int x2, .int x3]) ++ List.replicate (9 - (lg_sl ([.ref (q 0), .int x1, .int x2, .int x3])).length) Slot.unset).toArray = ls at hl ⊢
  have hl : lv_has ls 9 [(0, .ref (q 0)), (1, .int x1), (2, .int x2), (3, .int x3)] := hl
  subst hsz
  have hD := hD0.self (sz := s.heap.size)
  generalize hAe : va_A (sh_w8 q cI cJ cZ I S A) s.heap.size = Az at hD ⊢
  have hA : ∀ q : Nat, s.heap.size ≤ q → Az q := fun q h => by rw [← hAe]; exact Or.inr h
  have hS : va_S Az s.heap s.heap [] := va_S.rf
  generalize hQ : MQ below (sh_Qi D (sh_ty cI cJ cZ) Az (sh_w8 q cI cJ cZ oI S oA) o) args s 0 0 Az = Q
  unfold fX8_share at h
  refine lv_aload_n hx hb dX8_share_0 rfl (lv_at hl 0 rfl) ?_
  refine lv_iconst (v := 0) hx hb dX8_share_1 (by decide) ?_
  refine sh_put (wn := (sh_w8 q cI cJ cZ (upd I 0 0) S A)) (ci := 8) (v := .int 0) (ty := .int) (C := RX8) (T := TX8) (N := 21) hx hb hts hinX8 tyX8 tyX8_ok nmX8 hown hK hP hD hS 0 rfl rfl 0 (by decide) lk1 (fun _ h9 => h9) rfl (by decide +kernel) rfl rfl (Nat.le_of_ble_eq_true rfl) rfl dX8_share_2 (fun H locs hP hD hS => ?_)
  refine lv_aload_n hx hb dX8_share_5 rfl (lv_at hl 0 rfl) ?_
  refine va_get (ci := 8) (v := .ref (q 3)) (C := RX8) (T := TX8) (N := 21) hx hb hts hinX8 hown hK hP 0 rfl rfl 4 (by decide) lk2 (fun _ h9 => h9) rfl dX8_share_6 ?_
  refine lv_iconst (v := 2) hx hb dX8_share_9 (by decide) ?_
  refine sh_iald (v := ((A 2) 2)) hx hb hK hP 3 0 rfl rfl ⟨by unfold vp_in; decide, rfl⟩ dX8_share_10 ?_
  refine lv_istore (lv' := [(4, .int ((A 2) 2)), (0, .ref (q 0)), (1, .int x1), (2, .int x2), (3, .int x3)]) hx hb dX8_share_11 hl (by decide) rfl (fun ls hl => ?_)
  refine lv_iload_n hx hb dX8_share_13 rfl (lv_at hl 2 rfl) ?_
  refine lv_i2l (v := (Int32.toInt64 x1)) hx hb dX8_share_14 rfl ?_
  refine lv_lconst (v := 0) hx hb dX8_share_15 (by decide) ?_
  refine lv_iload hx hb dX8_share_16 (lv_at hl 0 rfl) ?_
  refine lv_iconst (v := 1) hx hb dX8_share_18 (by decide) ?_
  refine lv_isub hx hb dX8_share_19 ?_
  refine lv_i2l (v := (Int32.toInt64 (((A 2) 2) - 1))) hx hb dX8_share_20 rfl ?_
  obtain ⟨v1, hc2, h⟩ := sh_b1_e h
  refine sh_cSi (As := [.long (Int32.toInt64 x1), .long 0, .long (Int32.toInt64 (((A 2) 2) - 1))]) (rest := []) hfix (k_X8_in l D cI cJ cZ (Int32.toInt64 x1) 0 (Int32.toInt64 (((A 2) 2) - 1)) v1 hc2) (va_cwS 3 hts gX8_share_X8_in rfl rfl rfl hdS_X8_in ⟨Nat.le_of_ble_eq_true rfl, Nat.le_of_ble_eq_true rfl⟩) hP hK [] rfl rfl hl.1 rfl (Nat.le_of_ble_eq_true rfl) dX8_share_21 ⟨Nat.zero_le _, Nat.zero_le _⟩ ?_
  refine lv_if_ne (tgt := 29) hx hb dX8_share_24 (by decide) (fun g3 => ?_) (fun g3 => ?_)
  · rw [if_neg g3] at h
    refine lv_iload_n hx hb dX8_share_29 rfl (lv_at hl 3 rfl) ?_
    refine lv_i2l (v := (Int32.toInt64 x2)) hx hb dX8_share_30 rfl ?_
    refine lv_lconst (v := 0) hx hb dX8_share_31 (by decide) ?_
    refine lv_ldc2 hx hb hown lk3 dX8_share_32 ?_
    obtain ⟨v4, hc5, h⟩ := sh_b1_e h
    refine sh_cSi (As := [.long (Int32.toInt64 x2), .long 0, .long 9]) (rest := []) hfix (k_X8_in l D cI cJ cZ (Int32.toInt64 x2) 0 9 v4 hc5) (va_cwS 3 hts gX8_share_X8_in rfl rfl rfl hdS_X8_in ⟨Nat.le_of_ble_eq_true rfl, Nat.le_of_ble_eq_true rfl⟩) hP hK [] rfl rfl hl.1 rfl (Nat.le_of_ble_eq_true rfl) dX8_share_35 ⟨Nat.zero_le _, Nat.zero_le _⟩ ?_
    refine lv_if_ne (tgt := 44) hx hb dX8_share_38 (by decide) (fun g6 => ?_) (fun g6 => ?_)
    · rw [if_neg g6] at h
      refine lv_iconst (v := 0) hx hb dX8_share_44 (by decide) ?_
      refine lv_istore (lv' := [(5, .int 0), (4, .int ((A 2) 2)), (0, .ref (q 0)), (1, .int x1), (2, .int x2), (3, .int x3)]) hx hb dX8_share_45 hl (by decide) rfl (fun ls hl => ?_)
      have LP13 : ∀ (n : Nat) (x1 : Int32) (x2 : Int32) (x3 : Int32) (x4 : Int32) (x5 : Int32) (A : Nat → Nat → Int32) (oA : (Nat → Nat → Int32)) (H : Heap) (locs : List Loc) (ls : Array Slot), fX8_share_L47 n x1 x2 x3 x4 x5 A = some oA → lv_has ls 9 [(0, .ref (q 0)), (1, .int x1), (2, .int x2), (3, .int x3), (4, .int x4), (5, .int x5)] → va_P D vwCl (sh_w8 q cI cJ cZ (upd I 0 0) S A) H → va_D Az (sh_w8 q cI cJ cZ (upd I 0 0) S A) → va_S Az s.heap H locs → (∀ (H : Heap) (locs : List Loc) (ls : Array Slot), lv_has ls 9 [(0, .ref (q 0)), (1, .int x1), (3, .int x3), (4, .int x4)] → va_P D vwCl (sh_w8 q cI cJ cZ (upd I 0 0) S oA) H → va_D Az (sh_w8 q cI cJ cZ (upd I 0 0) S oA) → va_S Az s.heap H locs → W p l e (headSpec wsX8_share rmX8_share).room s m args below meth c H locs 0 0 Q (F0 m 83 ls [])) → W p l e (headSpec wsX8_share rmX8_share).room s m args below meth c H locs 0 0 Q (F0 m 47 ls []) := by
        intro n
        induction n with
        | zero =>
          intro x1 x2 x3 x4 x5 A oA H locs ls h hl hP hD hS hk
          exact nomatch ((fX8_share_L47_z x1 x2 x3 x4 x5 A).symm.trans h)
        | succ n ih =>
          intro x1 x2 x3 x4 x5 A oA H locs ls h hl hP hD hS hk
          rw [fX8_share_L47_s] at h
          refine lv_iload hx hb dX8_share_47 (lv_at hl 5 rfl) ?_
          refine lv_iconst (v := 1) hx hb dX8_share_49 (by decide) ?_
          refine lv_iload hx hb dX8_share_50 (lv_at hl 4 rfl) ?_
          refine lv_ishl hx hb dX8_share_52 ?_
          refine lv_icmp_ge (tgt := 83) hx hb dX8_share_53 (by decide) (fun g7 => ?_) (fun g7 => ?_)
          · rw [if_pos g7] at h
            cases h
            exact hk _ _ ls (lv_sub hl [0, 1, 3, 4] rfl) hP hD hS
          · rw [if_neg g7] at h
            refine lv_aload_n hx hb dX8_share_56 rfl (lv_at hl 0 rfl) ?_
            refine va_get (ci := 8) (v := .ref (q 12)) (C := RX8) (T := TX8) (N := 21) hx hb hts hinX8 hown hK hP 0 rfl rfl 20 (by decide) lk4 (fun _ h9 => h9) rfl dX8_share_57 ?_
            refine lv_iload hx hb dX8_share_60 (lv_at hl 5 rfl) ?_
            refine lv_aload_n hx hb dX8_share_62 rfl (lv_at hl 0 rfl) ?_
            refine va_get (ci := 8) (v := .ref (q 3)) (C := RX8) (T := TX8) (N := 21) hx hb hts hinX8 hown hK hP 0 rfl rfl 4 (by decide) lk2 (fun _ h9 => h9) rfl dX8_share_63 ?_
            refine lv_iload_n hx hb dX8_share_66 rfl (lv_at hl 2 rfl) ?_
            refine lv_aload_n hx hb dX8_share_67 rfl (lv_at hl 0 rfl) ?_
            refine lv_iload hx hb dX8_share_68 (lv_at hl 5 rfl) ?_
            obtain ⟨v8, hc9, h⟩ := sh_b1_e h
            refine sh_cVl (As := [.int x5]) (rest := [.int x2, .ref (q 3), .int x5, .ref (q 12)]) hfix (k_X8_rows l D cI cJ cZ q (upd I 0 0) S A x5 v8 hc9) (cwV 1 hts gX8_share_X8_rows rfl rfl rfl hdV_X8_rows ⟨Nat.le_of_ble_eq_true rfl, Nat.le_of_ble_eq_true rfl⟩) hP hK [0, 1, 2, 3, 4, 5, 6, 7, 8, 9, 10, 11, 12] rfl 0 rfl rfl rfl hl.1 rfl (Nat.le_of_ble_eq_true rfl) dX8_share_70 ⟨Nat.zero_le _, Nat.zero_le _⟩ ?_
            obtain ⟨v10, hc11, h⟩ := sh_b1_e h
            refine sh_cSi (As := [.ref (q 3), .int x2, .long v8]) (rest := [.int x5, .ref (q 12)]) hfix (k_X8_partsOf l D cI cJ cZ (q 3) (A 2) x2 v8 v10 hc11) (va_cwS 3 hts gX8_share_X8_partsOf rfl rfl rfl hdS_X8_partsOf ⟨Nat.le_of_ble_eq_true rfl, Nat.le_of_ble_eq_true rfl⟩) hP hK [3] rfl rfl hl.1 rfl (Nat.le_of_ble_eq_true rfl) dX8_share_73 ⟨Nat.zero_le _, Nat.zero_le _⟩ ?_
            obtain ⟨f12, hcf12, h⟩ := sh_b1_e h
            refine sh_iast (wn := (sh_w8 q cI cJ cZ (upd I 0 0) S (va_up A 11 f12))) hx hb hK hP hD hS 12 0 rfl rfl (sh_ast_e hcf12) rfl dX8_share_76 (fun H locs hP hD hS => ?_)
            refine lv_iinc (v := (x5 + 1)) (lv' := [(5, .int (x5 + 1)), (0, .ref (q 0)), (1, .int x1), (2, .int x2), (3, .int x3), (4, .int x4)]) hx hb dX8_share_77 hl (k := 5) rfl rfl (by decide) rfl (fun ls hl => ?_)
            refine lv_goto (tgt := 47) hx hb dX8_share_80 (by decide) ?_
            exact ih x1 x2 x3 x4 (x5 + 1) (va_up A 11 f12) oA _ _ ls h (lv_sub hl [1, 2, 3, 4, 5, 0] rfl) hP hD hS hk
      obtain ⟨w14, hc31, h⟩ := sh_b1_e h
      refine LP13 sh_fu x1 x2 x3 ((A 2) 2) 0 A w14 _ _ ls hc31 (lv_sub hl [2, 3, 4, 5, 1, 0] rfl) hP hD hS (fun H locs ls hl hP hD hS => ?_)
      refine lv_iconst (v := 0) hx hb dX8_share_83 (by decide) ?_
      refine lv_istore (lv' := [(5, .int 0), (0, .ref (q 0)), (1, .int x1), (3, .int x3), (4, .int ((A 2) 2))]) hx hb dX8_share_84 hl (by decide) rfl (fun ls hl => ?_)
      refine lv_iconst (v := 0) hx hb dX8_share_86 (by decide) ?_
      refine lv_istore (lv' := [(6, .int 0), (5, .int 0), (0, .ref (q 0)), (1, .int x1), (3, .int x3), (4, .int ((A 2) 2))]) hx hb dX8_share_87 hl (by decide) rfl (fun ls hl => ?_)
      refine lv_iconst (v := 0) hx hb dX8_share_89 (by decide) ?_
      refine lv_istore (lv' := [(7, .int 0), (6, .int 0), (5, .int 0), (0, .ref (q 0)), (1, .int x1), (3, .int x3), (4, .int ((A 2) 2))]) hx hb dX8_share_90 hl (by decide) rfl (fun ls hl => ?_)
      have LP25 : ∀ (n : Nat) (x1 : Int32) (x3 : Int32) (x4 : Int32) (x5 : Int32) (x6 : Int32) (x7 : Int32) (ow5 : Int32) (ow6 : Int32) (H : Heap) (locs : List Loc) (ls : Array Slot), fX8_share_L92 n x1 x3 x4 x5 x6 x7 w14 = some (ow5, ow6) → lv_has ls 9 [(0, .ref (q 0)), (1, .int x1), (3, .int x3), (4, .int x4), (5, .int x5), (6, .int x6), (7, .int x7)] → va_P D vwCl (sh_w8 q cI cJ cZ (upd I 0 0) S w14) H → va_D Az (sh_w8 q cI cJ cZ (upd I 0 0) S w14) → va_S Az s.heap H locs → (∀ (H : Heap) (locs : List Loc) (ls : Array Slot), lv_has ls 9 [(3, .int x3), (5, .int ow5), (6, .int ow6)] → va_P D vwCl (sh_w8 q cI cJ cZ (upd I 0 0) S w14) H → va_D Az (sh_w8 q cI cJ cZ (upd I 0 0) S w14) → va_S Az s.heap H locs → W p l e (headSpec wsX8_share rmX8_share).room s m args below meth c H locs 0 0 Q (F0 m 164 ls [])) → W p l e (headSpec wsX8_share rmX8_share).room s m args below meth c H locs 0 0 Q (F0 m 92 ls []) := by
        intro n
        induction n with
        | zero =>
          intro x1 x3 x4 x5 x6 x7 ow5 ow6 H locs ls h hl hP hD hS hk
          exact nomatch ((fX8_share_L92_z x1 x3 x4 x5 x6 x7 w14).symm.trans h)
        | succ n ih =>
          intro x1 x3 x4 x5 x6 x7 ow5 ow6 H locs ls h hl hP hD hS hk
          rw [fX8_share_L92_s] at h
          refine lv_iload hx hb dX8_share_92 (lv_at hl 6 rfl) ?_
          refine lv_iconst (v := 1) hx hb dX8_share_94 (by decide) ?_
          refine lv_iload hx hb dX8_share_95 (lv_at hl 3 rfl) ?_
          refine lv_ishl hx hb dX8_share_97 ?_
          refine lv_icmp_ge (tgt := 164) hx hb dX8_share_98 (by decide) (fun g15 => ?_) (fun g15 => ?_)
          · rw [if_pos g15] at h
            cases h
            exact hk _ _ ls (lv_sub hl [2, 4, 5] rfl) hP hD hS
          · rw [if_neg g15] at h
            refine lv_iload hx hb dX8_share_101 (lv_at hl 6 rfl) ?_
            refine lv_i2l (v := (Int32.toInt64 x7)) hx hb dX8_share_103 rfl ?_
            refine lv_iload_n hx hb dX8_share_104 rfl (lv_at hl 1 rfl) ?_
            obtain ⟨v16, hc17, h⟩ := sh_b1_e h
            refine sh_cSi (As := [.long (Int32.toInt64 x7), .int x1]) (rest := []) hfix (k_X8_has l D cI cJ cZ (Int32.toInt64 x7) x1 v16 hc17) (va_cwS 2 hts gX8_share_X8_has rfl rfl rfl hdS_X8_has ⟨Nat.le_of_ble_eq_true rfl, Nat.le_of_ble_eq_true rfl⟩) hP hK [] rfl rfl hl.1 rfl (Nat.le_of_ble_eq_true rfl) dX8_share_105 ⟨Nat.zero_le _, Nat.zero_le _⟩ ?_
            refine lv_if_ne (tgt := 158) hx hb dX8_share_108 (by decide) (fun g18 => ?_) (fun g18 => ?_)
            · rw [if_neg g18] at h
              refine lv_iinc (v := (x7 + 1)) (lv' := [(7, .int (x7 + 1)), (0, .ref (q 0)), (1, .int x1), (3, .int x3), (4, .int x4), (5, .int x5), (6, .int x6)]) hx hb dX8_share_158 hl (k := 6) rfl rfl (by decide) rfl (fun ls hl => ?_)
              refine lv_goto (tgt := 92) hx hb dX8_share_161 (by decide) ?_
              exact ih x1 x3 x4 x5 x6 (x7 + 1) ow5 ow6 _ _ ls h (lv_sub hl [1, 2, 3, 4, 5, 6, 0] rfl) hP hD hS hk
            · rw [if_pos g18] at h
              refine lv_iload hx hb dX8_share_111 (lv_at hl 3 rfl) ?_
              refine lv_iload hx hb dX8_share_113 (lv_at hl 6 rfl) ?_
              refine lv_i2l (v := (Int32.toInt64 x7)) hx hb dX8_share_115 rfl ?_
              obtain ⟨v19, hc20, h⟩ := sh_b1_e h
              refine sh_cSi (As := [.long (Int32.toInt64 x7)]) (rest := [.int x4]) hfix (k_X8_many l D cI cJ cZ (Int32.toInt64 x7) v19 hc20) (va_cwS 1 hts gX8_share_X8_many rfl rfl rfl hdS_X8_many ⟨Nat.le_of_ble_eq_true rfl, Nat.le_of_ble_eq_true rfl⟩) hP hK [] rfl rfl hl.1 rfl (Nat.le_of_ble_eq_true rfl) dX8_share_116 ⟨Nat.zero_le _, Nat.zero_le _⟩ ?_
              obtain ⟨v21, hc22, h⟩ := sh_b1_e h
              refine sh_cSi (As := [.int x4, .int v19]) (rest := []) hfix (k_X8_orders l D cI cJ cZ x4 v19 v21 hc22) (va_cwS 2 hts gX8_share_X8_orders rfl rfl rfl hdS_X8_orders ⟨Nat.le_of_ble_eq_true rfl, Nat.le_of_ble_eq_true rfl⟩) hP hK [] rfl rfl hl.1 rfl (Nat.le_of_ble_eq_true rfl) dX8_share_119 ⟨Nat.zero_le _, Nat.zero_le _⟩ ?_
              refine lv_istore (lv' := [(8, .int v21), (0, .ref (q 0)), (1, .int x1), (3, .int x3), (4, .int x4), (5, .int x5), (6, .int x6), (7, .int x7)]) hx hb dX8_share_122 hl (by decide) rfl (fun ls hl => ?_)
              refine lv_iload hx hb dX8_share_124 (lv_at hl 6 rfl) ?_
              refine lv_iload hx hb dX8_share_126 (lv_at hl 0 rfl) ?_
              refine lv_iadd hx hb dX8_share_128 ?_
              refine lv_istore (lv' := [(6, .int (x6 + v21)), (8, .int v21), (0, .ref (q 0)), (1, .int x1), (3, .int x3), (4, .int x4), (5, .int x5), (7, .int x7)]) hx hb dX8_share_129 hl (by decide) rfl (fun ls hl => ?_)
              refine lv_iload hx hb dX8_share_131 (lv_at hl 6 rfl) ?_
              refine lv_iload hx hb dX8_share_133 (lv_at hl 1 rfl) ?_
              refine lv_aload_n hx hb dX8_share_135 rfl (lv_at hl 2 rfl) ?_
              refine va_get (ci := 8) (v := .ref (q 12)) (C := RX8) (T := TX8) (N := 21) hx hb hts hinX8 hown hK hP 0 rfl rfl 20 (by decide) lk4 (fun _ h9 => h9) rfl dX8_share_136 ?_
              refine lv_iload hx hb dX8_share_139 (lv_at hl 7 rfl) ?_
              refine lv_iconst (v := 1) hx hb dX8_share_141 (by decide) ?_
              refine lv_iload_n hx hb dX8_share_142 rfl (lv_at hl 3 rfl) ?_
              refine lv_ishl hx hb dX8_share_143 ?_
              refine lv_ior hx hb dX8_share_144 ?_
              obtain ⟨v23, hcv23, h⟩ := sh_b1_e h
              refine sh_iald hx hb hK hP 12 0 rfl rfl (sh_ald_e hcv23) dX8_share_145 ?_
              refine lv_aload_n hx hb dX8_share_146 rfl (lv_at hl 2 rfl) ?_
              refine va_get (ci := 8) (v := .ref (q 12)) (C := RX8) (T := TX8) (N := 21) hx hb hts hinX8 hown hK hP 0 rfl rfl 20 (by decide) lk4 (fun _ h9 => h9) rfl dX8_share_147 ?_
              refine lv_iload hx hb dX8_share_150 (lv_at hl 7 rfl) ?_
              obtain ⟨v24, hcv24, h⟩ := sh_b1_e h
              refine sh_iald hx hb hK hP 12 0 rfl rfl (sh_ald_e hcv24) dX8_share_152 ?_
              refine lv_isub hx hb dX8_share_153 ?_
              refine lv_imul hx hb dX8_share_154 ?_
              refine lv_iadd hx hb dX8_share_155 ?_
              refine lv_istore (lv' := [(5, .int (x5 + (v21 * (v23 - v24)))), (6, .int (x6 + v21)), (8, .int v21), (0, .ref (q 0)), (1, .int x1), (3, .int x3), (4, .int x4), (7, .int x7)]) hx hb dX8_share_156 hl (by decide) rfl (fun ls hl => ?_)
              refine lv_iinc (v := (x7 + 1)) (lv' := [(7, .int (x7 + 1)), (5, .int (x5 + (v21 * (v23 - v24)))), (6, .int (x6 + v21)), (8, .int v21), (0, .ref (q 0)), (1, .int x1), (3, .int x3), (4, .int x4)]) hx hb dX8_share_158 hl (k := 7) rfl rfl (by decide) rfl (fun ls hl => ?_)
              refine lv_goto (tgt := 92) hx hb dX8_share_161 (by decide) ?_
              exact ih x1 x3 x4 (x5 + (v21 * (v23 - v24))) (x6 + v21) (x7 + 1) ow5 ow6 _ _ ls h (lv_sub hl [4, 5, 6, 7, 1, 2, 0] rfl) hP hD hS hk
      obtain ⟨w26, w27, hc30, h⟩ := sh_b2_e h
      refine LP25 sh_fu x1 x3 ((A 2) 2) 0 0 0 w26 w27 _ _ ls hc30 (lv_sub hl [3, 4, 5, 6, 2, 1, 0] rfl) hP hD hS (fun H locs ls hl hP hD hS => ?_)
      refine lv_iload hx hb dX8_share_164 (lv_at hl 1 rfl) ?_
      refine lv_iload hx hb dX8_share_166 (lv_at hl 2 rfl) ?_
      refine lv_iload_n hx hb dX8_share_168 rfl (lv_at hl 0 rfl) ?_
      obtain ⟨v28, hc29, h⟩ := sh_b1_e h
      refine sh_cSi (As := [.int w26, .int w27, .int x3]) (rest := []) hfix (k_X8_fraction l D cI cJ cZ w26 w27 x3 v28 hc29) (va_cwS 3 hts gX8_share_X8_fraction rfl rfl rfl hdS_X8_fraction ⟨Nat.le_of_ble_eq_true rfl, Nat.le_of_ble_eq_true rfl⟩) hP hK [] rfl rfl hl.1 rfl (Nat.le_of_ble_eq_true rfl) dX8_share_169 ⟨Nat.zero_le _, Nat.zero_le _⟩ ?_
      cases h
      exact sh_rwi hx hb hr hlocks hQ hK hP hD hS dX8_share_172
    · rw [if_pos g6] at h
      refine lv_bipush (v := -2) hx hb dX8_share_41 (by decide) ?_
      cases h
      exact sh_rwi hx hb hr hlocks hQ hK hP hD hS dX8_share_43
  · rw [if_pos g3] at h
    refine lv_iconst (v := -1) hx hb dX8_share_27 (by decide) ?_
    cases h
    exact sh_rwi hx hb hr hlocks hQ hK hP hD hS dX8_share_28
theorem hdV_X8_see : yX8_see.cls = RX8 ∧ yX8_see.cls ≠ "java/lang/invoke/MethodHandle" ∧ yX8_see.cls ≠ "java/lang/invoke/VarHandle" ∧ (parseMethodDescriptor yX8_see.desc).map (fun d => d.parameters.length) = some 3 := by decide +kernel
abbrev rmX8_see : Room := { frames := 2, cells := 0, slots := 0, locals := 46 }
set_option maxHeartbeats 4000000 in
set_option maxRecDepth 100000 in
theorem k_X8_see (l : Launch) (D : va_G) (cI cJ cZ : ClassId) (sz : Nat) (q : Nat → Nat) (I : Nat → Int32) (S : Int64) (A : Nat → Nat → Int32) (x1 : Int32) (x2 : Int32) (x3 : Int32) (o : Int32) (oI : Nat → Int32) (oA : Nat → Nat → Int32) (h : fX8_see I A x1 x2 x3 = some (o, oI, oA)) : Met l yX8_see wsX8_see rmX8_see (sh_Pw D (sh_ty cI cJ cZ) sz (sh_w8 q cI cJ cZ I S A) [.ref (q 0), .int x1, .int x2, .int x3]) (sh_Qi D (sh_ty cI cJ cZ) (va_A (sh_w8 q cI cJ cZ I S A) sz) (sh_w8 q cI cJ cZ oI S oA) o) 0 0 (va_A (sh_w8 q cI cJ cZ I S A) sz) := by
  refine Met.ofW (cc := cX8_see) (maxL := 4) (ret := (some .int)) (by decide) rfl ?_
  intro p e s m args below meth c s₁ hB hml hv
  obtain ⟨hargs, hsz, hP, hK, hD0⟩ := hv
  have hx := hB.exec
  have hb := hB.bytes
  have hr := hB.returns
  have hts := atoms_spec (ws := wsX8_see) hB.pre
  have hown : s.vm.findClass RX8 = some m.cls := findClass_of_methodNamed hB.named
  have hlocks := hB.notSynchronized
  have hfix : CallFix p m c cX8_see 4 s args wsX8_see RX8 := ⟨hx, hb, hml, hown, hts⟩
  have hinX8 : ∀ w ∈ wsX80, w ∈ wsX8_see := by decide +kernel
  have lk1 := hts (.fieldLink RX8 47 "ShadeTreeModel" "thrown" "I") (by decide +kernel)
  have lk2 := hts (.fieldLink RX8 145 "ShadeTreeModel" "seen" "I") (by decide +kernel)
  have lk3 := hts (.fieldLink RX8 35 "ShadeTreeModel" "seenOne" "[I") (by decide +kernel)
  have lk4 := hts (.fieldLink RX8 38 "ShadeTreeModel" "seenOther" "[I") (by decide +kernel)
  have lk5 := hts (.fieldLink RX8 41 "ShadeTreeModel" "seenIs" "[I") (by decide +kernel)
  rw [show entryFrame m args 4 = entryFrame m ([.ref (q 0), .int x1, .int x2, .int x3] : List Value).toArray 4 by rw [hargs], lg_entry_eq]
  have hl := lv_entry ([.ref (q 0), .int x1, .int x2, .int x3]) (n := 4) (Nat.le_of_ble_eq_true rfl)
  generalize (lg_sl ([.ref (q 0), .int x1, .int x2, .int x3]) ++ List.replicate (4 - (lg_sl ([.ref (q 0), .int x1, .int x2, .int x3])).length) Slot.unset).toArray = ls at hl ⊢
  have hl : lv_has ls 4 [(0, .ref (q 0)), (1, .int x1), (2, .int x2), (3, .int x3)] := hl
  subst hsz
  have hD := hD0.self (sz := s.heap.size)
  generalize hAe : va_A (sh_w8 q cI cJ cZ I S A) s.heap.size = Az at hD ⊢
  have hA : ∀ q : Nat, s.heap.size ≤ q → Az q := fun q h => by rw [← hAe]; exact Or.inr h
  have hS : va_S Az s.heap s.heap [] := va_S.rf
  generalize hQ : MQ below (sh_Qi D (sh_ty cI cJ cZ) Az (sh_w8 q cI cJ cZ oI S oA) o) args s 0 0 Az = Q
  unfold fX8_see at h
  refine lv_aload_n hx hb dX8_see_0 rfl (lv_at hl 0 rfl) ?_
  refine lv_iconst (v := 0) hx hb dX8_see_1 (by decide) ?_
  refine sh_put (wn := (sh_w8 q cI cJ cZ (upd I 0 0) S A)) (ci := 8) (v := .int 0) (ty := .int) (C := RX8) (T := TX8) (N := 21) hx hb hts hinX8 tyX8 tyX8_ok nmX8 hown hK hP hD hS 0 rfl rfl 0 (by decide) lk1 (fun _ h9 => h9) rfl (by decide +kernel) rfl rfl (Nat.le_of_ble_eq_true rfl) rfl dX8_see_2 (fun H locs hP hD hS => ?_)
  refine lv_aload_n hx hb dX8_see_5 rfl (lv_at hl 0 rfl) ?_
  refine lv_iload_n hx hb dX8_see_6 rfl (lv_at hl 1 rfl) ?_
  obtain ⟨v1, hc2, h⟩ := sh_b1_e h
  refine sh_cVi (As := [.int x1]) (rest := []) hfix (k_X8_noDot l D cI cJ cZ q (upd I 0 0) S A x1 v1 hc2) (cwV 1 hts gX8_see_X8_noDot rfl rfl rfl hdV_X8_noDot ⟨Nat.le_of_ble_eq_true rfl, Nat.le_of_ble_eq_true rfl⟩) hP hK [0, 1, 2, 3, 4, 5, 6, 7, 8, 9, 10, 11, 12] rfl 0 rfl rfl rfl hl.1 rfl (Nat.le_of_ble_eq_true rfl) dX8_see_7 ⟨Nat.zero_le _, Nat.zero_le _⟩ ?_
  refine lv_if_ne (tgt := 21) hx hb dX8_see_10 (by decide) (fun g3 => ?_) (fun g3 => ?_)
  · rw [if_neg g3] at h
    refine lv_iconst (v := -1) hx hb dX8_see_21 (by decide) ?_
    cases h
    exact sh_rwi hx hb hr hlocks hQ hK hP hD hS dX8_see_22
  · rw [if_pos g3] at h
    refine lv_aload_n hx hb dX8_see_13 rfl (lv_at hl 0 rfl) ?_
    refine lv_iload_n hx hb dX8_see_14 rfl (lv_at hl 2 rfl) ?_
    obtain ⟨v4, hc5, h⟩ := sh_b1_e h
    refine sh_cVi (As := [.int x2]) (rest := []) hfix (k_X8_noDot l D cI cJ cZ q (upd I 0 0) S A x2 v4 hc5) (cwV 1 hts gX8_see_X8_noDot rfl rfl rfl hdV_X8_noDot ⟨Nat.le_of_ble_eq_true rfl, Nat.le_of_ble_eq_true rfl⟩) hP hK [0, 1, 2, 3, 4, 5, 6, 7, 8, 9, 10, 11, 12] rfl 0 rfl rfl rfl hl.1 rfl (Nat.le_of_ble_eq_true rfl) dX8_see_15 ⟨Nat.zero_le _, Nat.zero_le _⟩ ?_
    refine lv_if_eq (tgt := 23) hx hb dX8_see_18 (by decide) (fun g6 => ?_) (fun g6 => ?_)
    · rw [if_pos g6] at h
      refine lv_iload_n hx hb dX8_see_23 rfl (lv_at hl 3 rfl) ?_
      refine lv_i2l (v := (Int32.toInt64 x3)) hx hb dX8_see_24 rfl ?_
      refine lv_lconst (v := 0) hx hb dX8_see_25 (by decide) ?_
      refine lv_lconst (v := 1) hx hb dX8_see_26 (by decide) ?_
      obtain ⟨v7, hc8, h⟩ := sh_b1_e h
      refine sh_cSi (As := [.long (Int32.toInt64 x3), .long 0, .long 1]) (rest := []) hfix (k_X8_in l D cI cJ cZ (Int32.toInt64 x3) 0 1 v7 hc8) (va_cwS 3 hts gX8_see_X8_in rfl rfl rfl hdS_X8_in ⟨Nat.le_of_ble_eq_true rfl, Nat.le_of_ble_eq_true rfl⟩) hP hK [] rfl rfl hl.1 rfl (Nat.le_of_ble_eq_true rfl) dX8_see_27 ⟨Nat.zero_le _, Nat.zero_le _⟩ ?_
      refine lv_if_ne (tgt := 36) hx hb dX8_see_30 (by decide) (fun g9 => ?_) (fun g9 => ?_)
      · rw [if_neg g9] at h
        refine lv_aload_n hx hb dX8_see_36 rfl (lv_at hl 0 rfl) ?_
        refine va_get (ci := 8) (v := .int (I 3)) (C := RX8) (T := TX8) (N := 21) hx hb hts hinX8 hown hK hP 0 rfl rfl 11 (by decide) lk2 (fun _ h9 => h9) rfl dX8_see_37 ?_
        refine lv_bipush (v := 6) hx hb dX8_see_40 (by decide) ?_
        refine lv_icmp_ne (tgt := 48) hx hb dX8_see_42 (by decide) (fun g10 => ?_) (fun g10 => ?_)
        · rw [if_neg g10] at h
          refine lv_aload_n hx hb dX8_see_48 rfl (lv_at hl 0 rfl) ?_
          refine va_get (ci := 8) (v := .ref (q 9)) (C := RX8) (T := TX8) (N := 21) hx hb hts hinX8 hown hK hP 0 rfl rfl 12 (by decide) lk3 (fun _ h9 => h9) rfl dX8_see_49 ?_
          refine lv_aload_n hx hb dX8_see_52 rfl (lv_at hl 0 rfl) ?_
          refine va_get (ci := 8) (v := .int (I 3)) (C := RX8) (T := TX8) (N := 21) hx hb hts hinX8 hown hK hP 0 rfl rfl 11 (by decide) lk2 (fun _ h9 => h9) rfl dX8_see_53 ?_
          refine lv_iload_n hx hb dX8_see_56 rfl (lv_at hl 1 rfl) ?_
          obtain ⟨f11, hcf11, h⟩ := sh_b1_e h
          refine sh_iast (wn := (sh_w8 q cI cJ cZ (upd I 0 0) S (va_up A 8 f11))) hx hb hK hP hD hS 9 0 rfl rfl (sh_ast_e hcf11) rfl dX8_see_57 (fun H locs hP hD hS => ?_)
          refine lv_aload_n hx hb dX8_see_58 rfl (lv_at hl 0 rfl) ?_
          refine va_get (ci := 8) (v := .ref (q 10)) (C := RX8) (T := TX8) (N := 21) hx hb hts hinX8 hown hK hP 0 rfl rfl 13 (by decide) lk4 (fun _ h9 => h9) rfl dX8_see_59 ?_
          refine lv_aload_n hx hb dX8_see_62 rfl (lv_at hl 0 rfl) ?_
          refine va_get (ci := 8) (v := .int (I 3)) (C := RX8) (T := TX8) (N := 21) hx hb hts hinX8 hown hK hP 0 rfl rfl 11 (by decide) lk2 (fun _ h9 => h9) rfl dX8_see_63 ?_
          refine lv_iload_n hx hb dX8_see_66 rfl (lv_at hl 2 rfl) ?_
          obtain ⟨f12, hcf12, h⟩ := sh_b1_e h
          refine sh_iast (wn := (sh_w8 q cI cJ cZ (upd I 0 0) S (va_up (va_up A 8 f11) 9 f12))) hx hb hK hP hD hS 10 0 rfl rfl (sh_ast_e hcf12) rfl dX8_see_67 (fun H locs hP hD hS => ?_)
          refine lv_aload_n hx hb dX8_see_68 rfl (lv_at hl 0 rfl) ?_
          refine va_get (ci := 8) (v := .ref (q 11)) (C := RX8) (T := TX8) (N := 21) hx hb hts hinX8 hown hK hP 0 rfl rfl 14 (by decide) lk5 (fun _ h9 => h9) rfl dX8_see_69 ?_
          refine lv_aload_n hx hb dX8_see_72 rfl (lv_at hl 0 rfl) ?_
          refine va_get (ci := 8) (v := .int (I 3)) (C := RX8) (T := TX8) (N := 21) hx hb hts hinX8 hown hK hP 0 rfl rfl 11 (by decide) lk2 (fun _ h9 => h9) rfl dX8_see_73 ?_
          refine lv_iload_n hx hb dX8_see_76 rfl (lv_at hl 3 rfl) ?_
          obtain ⟨f13, hcf13, h⟩ := sh_b1_e h
          refine sh_iast (wn := (sh_w8 q cI cJ cZ (upd I 0 0) S (va_up (va_up (va_up A 8 f11) 9 f12) 10 f13))) hx hb hK hP hD hS 11 0 rfl rfl (sh_ast_e hcf13) rfl dX8_see_77 (fun H locs hP hD hS => ?_)
          refine lv_aload_n hx hb dX8_see_78 rfl (lv_at hl 0 rfl) ?_
          refine lv_dup hx hb dX8_see_79 rfl ?_
          refine va_get (ci := 8) (v := .int (I 3)) (C := RX8) (T := TX8) (N := 21) hx hb hts hinX8 hown hK hP 0 rfl rfl 11 (by decide) lk2 (fun _ h9 => h9) rfl dX8_see_80 ?_
          refine lv_iconst (v := 1) hx hb dX8_see_83 (by decide) ?_
          refine lv_iadd hx hb dX8_see_84 ?_
          refine sh_put (wn := (sh_w8 q cI cJ cZ (upd (upd I 0 0) 3 ((I 3) + 1)) S (va_up (va_up (va_up A 8 f11) 9 f12) 10 f13))) (ci := 8) (v := .int ((I 3) + 1)) (ty := .int) (C := RX8) (T := TX8) (N := 21) hx hb hts hinX8 tyX8 tyX8_ok nmX8 hown hK hP hD hS 0 rfl rfl 11 (by decide) lk2 (fun _ h9 => h9) rfl (by decide +kernel) rfl rfl (Nat.le_of_ble_eq_true rfl) rfl dX8_see_85 (fun H locs hP hD hS => ?_)
          refine lv_aload_n hx hb dX8_see_88 rfl (lv_at hl 0 rfl) ?_
          refine va_get (ci := 8) (v := .int ((I 3) + 1)) (C := RX8) (T := TX8) (N := 21) hx hb hts hinX8 hown hK hP 0 rfl rfl 11 (by decide) lk2 (fun _ h9 => h9) rfl dX8_see_89 ?_
          cases h
          exact sh_rwi hx hb hr hlocks hQ hK hP hD hS dX8_see_92
        · rw [if_pos g10] at h
          refine lv_bipush (v := -4) hx hb dX8_see_45 (by decide) ?_
          cases h
          exact sh_rwi hx hb hr hlocks hQ hK hP hD hS dX8_see_47
      · rw [if_pos g9] at h
        refine lv_bipush (v := -2) hx hb dX8_see_33 (by decide) ?_
        cases h
        exact sh_rwi hx hb hr hlocks hQ hK hP hD hS dX8_see_35
    · rw [if_neg g6] at h
      refine lv_iconst (v := -1) hx hb dX8_see_21 (by decide) ?_
      cases h
      exact sh_rwi hx hb hr hlocks hQ hK hP hD hS dX8_see_22
theorem hdV_X8_unsee : yX8_unsee.cls = RX8 ∧ yX8_unsee.cls ≠ "java/lang/invoke/MethodHandle" ∧ yX8_unsee.cls ≠ "java/lang/invoke/VarHandle" ∧ (parseMethodDescriptor yX8_unsee.desc).map (fun d => d.parameters.length) = some 0 := by decide +kernel
abbrev rmX8_unsee : Room := { frames := 0, cells := 0, slots := 0, locals := 0 }
set_option maxHeartbeats 4000000 in
set_option maxRecDepth 100000 in
theorem k_X8_unsee (l : Launch) (D : va_G) (cI cJ cZ : ClassId) (sz : Nat) (q : Nat → Nat) (I : Nat → Int32) (S : Int64) (A : Nat → Nat → Int32) (o : Int32) (oI : Nat → Int32) (h : fX8_unsee I = some (o, oI)) : Met l yX8_unsee wsX8_unsee rmX8_unsee (sh_Pw D (sh_ty cI cJ cZ) sz (sh_w8 q cI cJ cZ I S A) [.ref (q 0)]) (sh_Qi D (sh_ty cI cJ cZ) (va_A (sh_w8 q cI cJ cZ I S A) sz) (sh_w8 q cI cJ cZ oI S A) o) 0 0 (va_A (sh_w8 q cI cJ cZ I S A) sz) := by
  refine Met.ofW (cc := cX8_unsee) (maxL := 2) (ret := (some .int)) (by decide) rfl ?_
  intro p e s m args below meth c s₁ hB hml hv
  obtain ⟨hargs, hsz, hP, hK, hD0⟩ := hv
  have hx := hB.exec
  have hb := hB.bytes
  have hr := hB.returns
  have hts := atoms_spec (ws := wsX8_unsee) hB.pre
  have hown : s.vm.findClass RX8 = some m.cls := findClass_of_methodNamed hB.named
  have hlocks := hB.notSynchronized
  have hfix : CallFix p m c cX8_unsee 2 s args wsX8_unsee RX8 := ⟨hx, hb, hml, hown, hts⟩
  have hinX8 : ∀ w ∈ wsX80, w ∈ wsX8_unsee := by decide +kernel
  have lk1 := hts (.fieldLink RX8 47 "ShadeTreeModel" "thrown" "I") (by decide +kernel)
  have lk2 := hts (.fieldLink RX8 145 "ShadeTreeModel" "seen" "I") (by decide +kernel)
  rw [show entryFrame m args 2 = entryFrame m ([.ref (q 0)] : List Value).toArray 2 by rw [hargs], lg_entry_eq]
  have hl := lv_entry ([.ref (q 0)]) (n := 2) (Nat.le_of_ble_eq_true rfl)
  generalize (lg_sl ([.ref (q 0)]) ++ List.replicate (2 - (lg_sl ([.ref (q 0)])).length) Slot.unset).toArray = ls at hl ⊢
  have hl : lv_has ls 2 [(0, .ref (q 0))] := hl
  subst hsz
  have hD := hD0.self (sz := s.heap.size)
  generalize hAe : va_A (sh_w8 q cI cJ cZ I S A) s.heap.size = Az at hD ⊢
  have hA : ∀ q : Nat, s.heap.size ≤ q → Az q := fun q h => by rw [← hAe]; exact Or.inr h
  have hS : va_S Az s.heap s.heap [] := va_S.rf
  generalize hQ : MQ below (sh_Qi D (sh_ty cI cJ cZ) Az (sh_w8 q cI cJ cZ oI S A) o) args s 0 0 Az = Q
  unfold fX8_unsee at h
  refine lv_aload_n hx hb dX8_unsee_0 rfl (lv_at hl 0 rfl) ?_
  refine lv_iconst (v := 0) hx hb dX8_unsee_1 (by decide) ?_
  refine sh_put (wn := (sh_w8 q cI cJ cZ (upd I 0 0) S A)) (ci := 8) (v := .int 0) (ty := .int) (C := RX8) (T := TX8) (N := 21) hx hb hts hinX8 tyX8 tyX8_ok nmX8 hown hK hP hD hS 0 rfl rfl 0 (by decide) lk1 (fun _ h9 => h9) rfl (by decide +kernel) rfl rfl (Nat.le_of_ble_eq_true rfl) rfl dX8_unsee_2 (fun H locs hP hD hS => ?_)
  refine lv_aload_n hx hb dX8_unsee_5 rfl (lv_at hl 0 rfl) ?_
  refine va_get (ci := 8) (v := .int (I 3)) (C := RX8) (T := TX8) (N := 21) hx hb hts hinX8 hown hK hP 0 rfl rfl 11 (by decide) lk2 (fun _ h9 => h9) rfl dX8_unsee_6 ?_
  refine lv_istore_n (lv' := [(1, .int (I 3)), (0, .ref (q 0))]) hx hb dX8_unsee_9 rfl hl (by decide) rfl (fun ls hl => ?_)
  refine lv_aload_n hx hb dX8_unsee_10 rfl (lv_at hl 1 rfl) ?_
  refine lv_iconst (v := 0) hx hb dX8_unsee_11 (by decide) ?_
  refine sh_put (wn := (sh_w8 q cI cJ cZ (upd (upd I 0 0) 3 0) S A)) (ci := 8) (v := .int 0) (ty := .int) (C := RX8) (T := TX8) (N := 21) hx hb hts hinX8 tyX8 tyX8_ok nmX8 hown hK hP hD hS 0 rfl rfl 11 (by decide) lk2 (fun _ h9 => h9) rfl (by decide +kernel) rfl rfl (Nat.le_of_ble_eq_true rfl) rfl dX8_unsee_12 (fun H locs hP hD hS => ?_)
  refine lv_iload_n hx hb dX8_unsee_15 rfl (lv_at hl 0 rfl) ?_
  cases h
  exact sh_rwi hx hb hr hlocks hQ hK hP hD hS dX8_unsee_16
