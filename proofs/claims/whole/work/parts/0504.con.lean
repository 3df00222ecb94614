theorem hdV_X6_isSteady : yX6_isSteady.cls = RX6 ∧ yX6_isSteady.cls ≠ "java/lang/invoke/MethodHandle" ∧ yX6_isSteady.cls ≠ "java/lang/invoke/VarHandle" ∧ (parseMethodDescriptor yX6_isSteady.desc).map (fun d => d.parameters.length) = some 3 := by decide +kernel
abbrev rmX6_isSteady : Room := { frames := 4, cells := 0, slots := 0, locals := 104 }
set_option maxHeartbeats 4000000 in
set_option maxRecDepth 100000 in
theorem k_X6_isSteady (l : Launch) (D : va_G) (cI cJ cZ : ClassId) (aG : Nat) (aS : Nat) (aY : Nat) (aT : Nat) (aP : Nat) (aN : Nat) (gw : Int32) (gd : Int32) (gh : Int32) (ga : Int64) (gl : Int64) (gr : Int64) (sL : Nat → Int64) (tP : Nat → Int64) (tN : Nat → Int32) (tz : Int32) (x1 : Int64) (x3 : Int32) (x4 : Int32) (o : Int32) (h : fX6_isSteady gw gd gh ga gl gr sL tP tN tz x1 x3 x4 = some o) : Met l yX6_isSteady wsX6_isSteady rmX6_isSteady (sh_Pr D (sh_ty cI cJ cZ) [(aT, .inr (6, [.ref aG, .ref aS, .ref aP, .ref aN, .int tz])), (aP, .inl (cJ, 36, .inr (.inl tP))), (aN, .inl (cI, 36, .inl tN)), (aS, .inr (2, [.ref aG, .ref aY])), (aY, .inl (cJ, 10, .inr (.inl sL))), (aG, .inr (1, [.int gw, .int gd, .int gh, .long ga, .long gl, .long gr]))] [.ref aT, .long x1, .int x3, .int x4]) (vp_Si (fun z => z = o)) 0 0 (fun _ => False) := by
  refine Met.ofW (cc := cX6_isSteady) (maxL := 13) (ret := (some .boolean)) (by decide) rfl ?_
  intro p e s m args below meth c s₁ hB hml hv
  obtain ⟨hargs, hP, hK⟩ := hv
  have hx := hB.exec
  have hb := hB.bytes
  have hr := hB.returns
  have hts := atoms_spec (ws := wsX6_isSteady) hB.pre
  have hown : s.vm.findClass RX6 = some m.cls := findClass_of_methodNamed hB.named
  have hlocks := hB.notSynchronized
  have hfix : CallFix p m c cX6_isSteady 13 s args wsX6_isSteady RX6 := ⟨hx, hb, hml, hown, hts⟩
  have hinX6 : ∀ w ∈ wsX60, w ∈ wsX6_isSteady := by decide +kernel
  have lk1 := hts (.fieldLink RX6 23 "ShadeTree$Tree" "shades" "LShadeTree$Shades;") (by decide +kernel)
  have lk2 := hts (.constantLong RX6 43 (-1)) (by decide +kernel)
  rw [show entryFrame m args 13 = entryFrame m ([.ref aT, .long x1, .int x3, .int x4] : List Value).toArray 13 by rw [hargs], lg_entry_eq]
  have hl := lv_entry ([.ref aT, .long x1, .int x3, .int x4]) (n := 13) (Nat.le_of_ble_eq_true rfl)
  generalize (lg_sl ([.ref aT, .long x1, .int x3, .int x4]) ++ List.replicate (13 - (lg_sl ([.ref aT, .long x1, .int x3, .int x4])).length) Slot.unset).toArray = ls at hl ⊢
  have hl : lv_has ls 13 [(0, .ref aT), (1, .long x1), (3, .int x3), (4, .int x4)] := hl
  generalize hQ : MQ below (vp_Si (fun z => z = o)) args s 0 0 (fun _ => False) = Q
  unfold fX6_isSteady at h
  refine lv_aload_n hx hb dX6_isSteady_0 rfl (lv_at hl 0 rfl) ?_
  refine lv_lload_n hx hb dX6_isSteady_1 rfl (lv_at hl 1 rfl) ?_
  refine lv_iload_n hx hb dX6_isSteady_2 rfl (lv_at hl 2 rfl) ?_
  refine lv_iload hx hb dX6_isSteady_3 (lv_at hl 3 rfl) ?_
  obtain ⟨v1, hc2, h⟩ := sh_b1_e h
  refine sh_cVi (As := [.long x1, .int x3, .int x4]) (rest := []) hfix (k_X6_gain l D cI cJ cZ aG aS aY aT aP aN gw gd gh ga gl gr sL tP tN tz x1 x3 x4 v1 hc2) (cwV 3 hts gX6_isSteady_X6_gain rfl rfl rfl hdV_X6_gain ⟨Nat.le_of_ble_eq_true rfl, Nat.le_of_ble_eq_true rfl⟩) hP hK [0, 1, 2, 3, 4, 5] rfl 0 rfl rfl rfl hl.1 rfl (Nat.le_of_ble_eq_true rfl) dX6_isSteady_5 ⟨Nat.zero_le _, Nat.zero_le _⟩ ?_
  refine lv_istore (lv' := [(5, .int v1), (0, .ref aT), (1, .long x1), (3, .int x3), (4, .int x4)]) hx hb dX6_isSteady_8 hl (by decide) rfl (fun ls hl => ?_)
  refine lv_lload_n hx hb dX6_isSteady_10 rfl (lv_at hl 2 rfl) ?_
  obtain ⟨v3, hc4, h⟩ := sh_b1_e h
  refine sh_cSi (As := [.long x1]) (rest := []) hfix (k_J13_bitCount_95d88 l D cI cJ cZ x1 v3 hc4) (va_cwS 1 hts gX6_isSteady_J13_bitCount_95d88 rfl rfl rfl hdS_J13_bitCount_95d88 ⟨Nat.le_of_ble_eq_true rfl, Nat.le_of_ble_eq_true rfl⟩) hP hK [] rfl rfl hl.1 rfl (Nat.le_of_ble_eq_true rfl) dX6_isSteady_11 ⟨Nat.zero_le _, Nat.zero_le _⟩ ?_
  refine lv_istore (lv' := [(6, .int v3), (5, .int v1), (0, .ref aT), (1, .long x1), (3, .int x3), (4, .int x4)]) hx hb dX6_isSteady_14 hl (by decide) rfl (fun ls hl => ?_)
  refine lv_aload_n hx hb dX6_isSteady_16 rfl (lv_at hl 2 rfl) ?_
  refine lv_lload_n hx hb dX6_isSteady_17 rfl (lv_at hl 3 rfl) ?_
  refine lv_iload_n hx hb dX6_isSteady_18 rfl (lv_at hl 4 rfl) ?_
  obtain ⟨v5, hc6, h⟩ := sh_b1_e h
  refine sh_cVi (As := [.long x1, .int x3]) (rest := []) hfix (k_X6_parentLevel l D cI cJ cZ aG aS aY aT aP aN gw gd gh ga gl gr sL tP tN tz x1 x3 v5 hc6) (cwV 2 hts gX6_isSteady_X6_parentLevel rfl rfl rfl hdV_X6_parentLevel ⟨Nat.le_of_ble_eq_true rfl, Nat.le_of_ble_eq_true rfl⟩) hP hK [0, 1, 2, 3, 4, 5] rfl 0 rfl rfl rfl hl.1 rfl (Nat.le_of_ble_eq_true rfl) dX6_isSteady_19 ⟨Nat.zero_le _, Nat.zero_le _⟩ ?_
  refine lv_istore (lv' := [(7, .int v5), (6, .int v3), (5, .int v1), (0, .ref aT), (1, .long x1), (3, .int x3), (4, .int x4)]) hx hb dX6_isSteady_22 hl (by decide) rfl (fun ls hl => ?_)
  refine lv_iload hx hb dX6_isSteady_24 (lv_at hl 0 rfl) ?_
  refine lv_bipush (v := -9) hx hb dX6_isSteady_26 (by decide) ?_
  refine lv_icmp_eq (tgt := 66) hx hb dX6_isSteady_28 (by decide) (fun g7 => ?_) (fun g7 => ?_)
  · rw [if_pos g7] at h
    refine lv_lload_n hx hb dX6_isSteady_66 rfl (lv_at hl 4 rfl) ?_
    refine lv_aload_n hx hb dX6_isSteady_67 rfl (lv_at hl 3 rfl) ?_
    refine va_get (ci := 6) (v := .ref aS) (C := RX6) (T := TX6) (N := 5) hx hb hts hinX6 hown hK hP 0 rfl rfl 1 (by decide) lk1 (fun _ h9 => h9) rfl dX6_isSteady_68 ?_
    refine lv_iload_n hx hb dX6_isSteady_71 rfl (lv_at hl 5 rfl) ?_
    refine lv_iconst (v := 1) hx hb dX6_isSteady_72 (by decide) ?_
    refine lv_iadd hx hb dX6_isSteady_73 ?_
    obtain ⟨v8, hc9, h⟩ := sh_b1_e h
    refine sh_cVl (As := [.int (x3 + 1)]) (rest := [.long x1]) hfix (k_X2_atLeast l D cI cJ cZ aG aS aY gw gd gh ga gl gr sL (x3 + 1) v8 hc9) (cwV 1 hts gX6_isSteady_X2_atLeast rfl rfl rfl hdV_X2_atLeast ⟨Nat.le_of_ble_eq_true rfl, Nat.le_of_ble_eq_true rfl⟩) hP hK [3, 4, 5] rfl 3 rfl rfl rfl hl.1 rfl (Nat.le_of_ble_eq_true rfl) dX6_isSteady_74 ⟨Nat.zero_le _, Nat.zero_le _⟩ ?_
    refine lv_land hx hb dX6_isSteady_77 ?_
    refine lv_lstore (lv' := [(8, .long (x1 &&& v8)), (7, .int v5), (6, .int v3), (5, .int v1), (0, .ref aT), (1, .long x1), (3, .int x3), (4, .int x4)]) hx hb dX6_isSteady_78 hl (by decide) rfl (fun ls hl => ?_)
    refine lv_iconst (v := 0) hx hb dX6_isSteady_80 (by decide) ?_
    refine lv_istore (lv' := [(10, .int 0), (8, .long (x1 &&& v8)), (7, .int v5), (6, .int v3), (5, .int v1), (0, .ref aT), (1, .long x1), (3, .int x3), (4, .int x4)]) hx hb dX6_isSteady_81 hl (by decide) rfl (fun ls hl => ?_)
    have LP21 : ∀ (n : Nat) (x3 : Int32) (x4 : Int32) (x5 : Int32) (x6 : Int32) (x8 : Int64) (x10 : Int32) (z : (Int32) ⊕ (Unit)) (ls : Array Slot), fX6_isSteady_L83 n x3 x4 x5 x6 x8 x10 gw gd gh ga gl gr sL tP tN tz = some z → lv_has ls 13 [(0, .ref aT), (3, .int x3), (4, .int x4), (5, .int x5), (6, .int x6), (8, .long x8), (10, .int x10)] → (∀ x, z = .inl x → x = o) → (∀ (t : Unit), z = .inr t → ∀ (ls : Array Slot), lv_has ls 13 [] → W p l e (headSpec wsX6_isSteady rmX6_isSteady).room s m args below meth c s.heap [] 0 0 Q (F0 m 159 ls [])) → W p l e (headSpec wsX6_isSteady rmX6_isSteady).room s m args below meth c s.heap [] 0 0 Q (F0 m 83 ls []) := by
      intro n
      induction n with
      | zero =>
        intro x3 x4 x5 x6 x8 x10 z ls h hl hret hk
        exact nomatch ((fX6_isSteady_L83_z x3 x4 x5 x6 x8 x10 gw gd gh ga gl gr sL tP tN tz).symm.trans h)
      | succ n ih =>
        intro x3 x4 x5 x6 x8 x10 z ls h hl hret hk
        rw [fX6_isSteady_L83_s] at h
        refine lv_iload hx hb dX6_isSteady_83 (lv_at hl 6 rfl) ?_
        refine lv_bipush (v := 36) hx hb dX6_isSteady_85 (by decide) ?_
        refine lv_icmp_ge (tgt := 159) hx hb dX6_isSteady_87 (by decide) (fun g10 => ?_) (fun g10 => ?_)
        · rw [if_pos g10] at h
          exact hk () (Option.some.inj h).symm ls (lv_sub hl [] rfl) 
        · rw [if_neg g10] at h
          refine lv_lload hx hb dX6_isSteady_90 (lv_at hl 5 rfl) ?_
          refine lv_lconst (v := 0) hx hb dX6_isSteady_92 (by decide) ?_
          refine sh_leq (tgt := 159) hx hb dX6_isSteady_93 dX6_isSteady_94 (by decide) (fun g11 => ?_) (fun g11 => ?_)
          · rw [if_pos g11] at h
            exact hk () (Option.some.inj h).symm ls (lv_sub hl [] rfl) 
          · rw [if_neg g11] at h
            refine lv_aload_n hx hb dX6_isSteady_97 rfl (lv_at hl 0 rfl) ?_
            refine lv_iload_n hx hb dX6_isSteady_98 rfl (lv_at hl 1 rfl) ?_
            refine lv_iconst (v := 1) hx hb dX6_isSteady_99 (by decide) ?_
            refine lv_iadd hx hb dX6_isSteady_100 ?_
            refine lv_lload hx hb dX6_isSteady_101 (lv_at hl 5 rfl) ?_
            refine lv_lload hx hb dX6_isSteady_103 (lv_at hl 5 rfl) ?_
            refine lv_lneg hx hb dX6_isSteady_105 ?_
            refine lv_land hx hb dX6_isSteady_106 ?_
            obtain ⟨v12, hc13, h⟩ := sh_b1_e h
            refine sh_cVl (As := [.int (x3 + 1), .long (x8 &&& (-x8))]) (rest := []) hfix (k_X6_partAt l D cI cJ cZ aG aS aY aT aP aN gw gd gh ga gl gr sL tP tN tz (x3 + 1) (x8 &&& (-x8)) v12 hc13) (cwV 2 hts gX6_isSteady_X6_partAt rfl rfl rfl hdV_X6_partAt ⟨Nat.le_of_ble_eq_true rfl, Nat.le_of_ble_eq_true rfl⟩) hP hK [0, 1, 2, 3, 4, 5] rfl 0 rfl rfl rfl hl.1 rfl (Nat.le_of_ble_eq_true rfl) dX6_isSteady_107 ⟨Nat.zero_le _, Nat.zero_le _⟩ ?_
            refine lv_lstore (lv' := [(11, .long v12), (0, .ref aT), (3, .int x3), (4, .int x4), (5, .int x5), (6, .int x6), (8, .long x8), (10, .int x10)]) hx hb dX6_isSteady_110 hl (by decide) rfl (fun ls hl => ?_)
            refine lv_iload hx hb dX6_isSteady_112 (lv_at hl 4 rfl) ?_
            refine lv_lload hx hb dX6_isSteady_114 (lv_at hl 0 rfl) ?_
            obtain ⟨v14, hc15, h⟩ := sh_b1_e h
            refine sh_cSi (As := [.long v12]) (rest := [.int x5]) hfix (k_J13_bitCount_95d88 l D cI cJ cZ v12 v14 hc15) (va_cwS 1 hts gX6_isSteady_J13_bitCount_95d88 rfl rfl rfl hdS_J13_bitCount_95d88 ⟨Nat.le_of_ble_eq_true rfl, Nat.le_of_ble_eq_true rfl⟩) hP hK [] rfl rfl hl.1 rfl (Nat.le_of_ble_eq_true rfl) dX6_isSteady_116 ⟨Nat.zero_le _, Nat.zero_le _⟩ ?_
            refine lv_imul hx hb dX6_isSteady_119 ?_
            refine lv_aload_n hx hb dX6_isSteady_120 rfl (lv_at hl 1 rfl) ?_
            refine lv_lload hx hb dX6_isSteady_121 (lv_at hl 0 rfl) ?_
            refine lv_aload_n hx hb dX6_isSteady_123 rfl (lv_at hl 1 rfl) ?_
            refine lv_lload hx hb dX6_isSteady_124 (lv_at hl 0 rfl) ?_
            obtain ⟨v16, hc17, h⟩ := sh_b1_e h
            refine sh_cVi (As := [.long v12]) (rest := [.long v12, .ref aT, .int (x5 * v14)]) hfix (k_X6_darkest l D cI cJ cZ aG aS aY aT aP aN gw gd gh ga gl gr sL tP tN tz v12 v16 hc17) (cwV 1 hts gX6_isSteady_X6_darkest rfl rfl rfl hdV_X6_darkest ⟨Nat.le_of_ble_eq_true rfl, Nat.le_of_ble_eq_true rfl⟩) hP hK [0, 1, 2, 3, 4, 5] rfl 0 rfl rfl rfl hl.1 rfl (Nat.le_of_ble_eq_true rfl) dX6_isSteady_126 ⟨Nat.zero_le _, Nat.zero_le _⟩ ?_
            refine lv_iload hx hb dX6_isSteady_129 (lv_at hl 3 rfl) ?_
            obtain ⟨v18, hc19, h⟩ := sh_b1_e h
            refine sh_cVi (As := [.long v12, .int v16, .int x4]) (rest := [.int (x5 * v14)]) hfix (k_X6_gain l D cI cJ cZ aG aS aY aT aP aN gw gd gh ga gl gr sL tP tN tz v12 v16 x4 v18 hc19) (cwV 3 hts gX6_isSteady_X6_gain rfl rfl rfl hdV_X6_gain ⟨Nat.le_of_ble_eq_true rfl, Nat.le_of_ble_eq_true rfl⟩) hP hK [0, 1, 2, 3, 4, 5] rfl 0 rfl rfl rfl hl.1 rfl (Nat.le_of_ble_eq_true rfl) dX6_isSteady_131 ⟨Nat.zero_le _, Nat.zero_le _⟩ ?_
            refine lv_iload hx hb dX6_isSteady_134 (lv_at hl 5 rfl) ?_
            refine lv_imul hx hb dX6_isSteady_136 ?_
            refine lv_icmp_le (tgt := 142) hx hb dX6_isSteady_137 (by decide) (fun g20 => ?_) (fun g20 => ?_)
            · rw [if_pos g20] at h
              refine lv_lload hx hb dX6_isSteady_142 (lv_at hl 6 rfl) ?_
              refine lv_lload hx hb dX6_isSteady_144 (lv_at hl 0 rfl) ?_
              refine lv_ldc2 hx hb hown lk2 dX6_isSteady_146 ?_
              refine lv_lxor hx hb dX6_isSteady_149 ?_
              refine lv_land hx hb dX6_isSteady_150 ?_
              refine lv_lstore (lv' := [(8, .long (x8 &&& (v12 ^^^ (-1)))), (11, .long v12), (0, .ref aT), (3, .int x3), (4, .int x4), (5, .int x5), (6, .int x6), (10, .int x10)]) hx hb dX6_isSteady_151 hl (by decide) rfl (fun ls hl => ?_)
              refine lv_iinc (v := (x10 + 1)) (lv' := [(10, .int (x10 + 1)), (8, .long (x8 &&& (v12 ^^^ (-1)))), (11, .long v12), (0, .ref aT), (3, .int x3), (4, .int x4), (5, .int x5), (6, .int x6)]) hx hb dX6_isSteady_153 hl (k := 7) rfl rfl (by decide) rfl (fun ls hl => ?_)
              refine lv_goto (tgt := 83) hx hb dX6_isSteady_156 (by decide) ?_
              exact ih x3 x4 x5 x6 (x8 &&& (v12 ^^^ (-1))) (x10 + 1) z ls h (lv_sub hl [3, 4, 5, 6, 7, 1, 0] rfl)  hret hk
            · rw [if_neg g20] at h
              refine lv_iconst (v := 0) hx hb dX6_isSteady_140 (by decide) ?_
              exact sh_roz hx hb hr hlocks hQ ⟨rfl, (hret _ (Option.some.inj h).symm)⟩ dX6_isSteady_141
    obtain ⟨z22, hcz22, hrz22, hkz22⟩ := sh_bs_e h
    refine LP21 sh_fu x3 x4 v1 v3 (x1 &&& v8) 0 z22 ls hcz22 (lv_sub hl [5, 7, 8, 4, 3, 1, 0] rfl)  hrz22 (fun t23 et23 ls hl  => ?_)
    have h := hkz22 t23 et23
    refine lv_iconst (v := 1) hx hb dX6_isSteady_159 (by decide) ?_
    exact sh_roz hx hb hr hlocks hQ ⟨rfl, (Option.some.inj h)⟩ dX6_isSteady_160
  · rw [if_neg g7] at h
    refine lv_aload_n hx hb dX6_isSteady_31 rfl (lv_at hl 3 rfl) ?_
    refine lv_iload hx hb dX6_isSteady_32 (lv_at hl 0 rfl) ?_
    refine lv_lload_n hx hb dX6_isSteady_34 rfl (lv_at hl 4 rfl) ?_
    obtain ⟨v24, hc25, h⟩ := sh_b1_e h
    refine sh_cVl (As := [.int v5, .long x1]) (rest := []) hfix (k_X6_partAt l D cI cJ cZ aG aS aY aT aP aN gw gd gh ga gl gr sL tP tN tz v5 x1 v24 hc25) (cwV 2 hts gX6_isSteady_X6_partAt rfl rfl rfl hdV_X6_partAt ⟨Nat.le_of_ble_eq_true rfl, Nat.le_of_ble_eq_true rfl⟩) hP hK [0, 1, 2, 3, 4, 5] rfl 0 rfl rfl rfl hl.1 rfl (Nat.le_of_ble_eq_true rfl) dX6_isSteady_35 ⟨Nat.zero_le _, Nat.zero_le _⟩ ?_
    refine lv_lstore (lv' := [(8, .long v24), (7, .int v5), (6, .int v3), (5, .int v1), (0, .ref aT), (1, .long x1), (3, .int x3), (4, .int x4)]) hx hb dX6_isSteady_38 hl (by decide) rfl (fun ls hl => ?_)
    refine lv_iload hx hb dX6_isSteady_40 (lv_at hl 3 rfl) ?_
    refine lv_lload hx hb dX6_isSteady_42 (lv_at hl 0 rfl) ?_
    obtain ⟨v26, hc27, h⟩ := sh_b1_e h
    refine sh_cSi (As := [.long v24]) (rest := [.int v1]) hfix (k_J13_bitCount_95d88 l D cI cJ cZ v24 v26 hc27) (va_cwS 1 hts gX6_isSteady_J13_bitCount_95d88 rfl rfl rfl hdS_J13_bitCount_95d88 ⟨Nat.le_of_ble_eq_true rfl, Nat.le_of_ble_eq_true rfl⟩) hP hK [] rfl rfl hl.1 rfl (Nat.le_of_ble_eq_true rfl) dX6_isSteady_44 ⟨Nat.zero_le _, Nat.zero_le _⟩ ?_
    refine lv_imul hx hb dX6_isSteady_47 ?_
    refine lv_aload_n hx hb dX6_isSteady_48 rfl (lv_at hl 4 rfl) ?_
    refine lv_lload hx hb dX6_isSteady_49 (lv_at hl 0 rfl) ?_
    refine lv_iload hx hb dX6_isSteady_51 (lv_at hl 1 rfl) ?_
    refine lv_iload hx hb dX6_isSteady_53 (lv_at hl 7 rfl) ?_
    obtain ⟨v28, hc29, h⟩ := sh_b1_e h
    refine sh_cVi (As := [.long v24, .int v5, .int x4]) (rest := [.int (v1 * v26)]) hfix (k_X6_gain l D cI cJ cZ aG aS aY aT aP aN gw gd gh ga gl gr sL tP tN tz v24 v5 x4 v28 hc29) (cwV 3 hts gX6_isSteady_X6_gain rfl rfl rfl hdV_X6_gain ⟨Nat.le_of_ble_eq_true rfl, Nat.le_of_ble_eq_true rfl⟩) hP hK [0, 1, 2, 3, 4, 5] rfl 0 rfl rfl rfl hl.1 rfl (Nat.le_of_ble_eq_true rfl) dX6_isSteady_55 ⟨Nat.zero_le _, Nat.zero_le _⟩ ?_
    refine lv_iload hx hb dX6_isSteady_58 (lv_at hl 2 rfl) ?_
    refine lv_imul hx hb dX6_isSteady_60 ?_
    refine lv_icmp_le (tgt := 66) hx hb dX6_isSteady_61 (by decide) (fun g30 => ?_) (fun g30 => ?_)
    · rw [if_pos g30] at h
      refine lv_lload_n hx hb dX6_isSteady_66 rfl (lv_at hl 5 rfl) ?_
      refine lv_aload_n hx hb dX6_isSteady_67 rfl (lv_at hl 4 rfl) ?_
      refine va_get (ci := 6) (v := .ref aS) (C := RX6) (T := TX6) (N := 5) hx hb hts hinX6 hown hK hP 0 rfl rfl 1 (by decide) lk1 (fun _ h9 => h9) rfl dX6_isSteady_68 ?_
      refine lv_iload_n hx hb dX6_isSteady_71 rfl (lv_at hl 6 rfl) ?_
      refine lv_iconst (v := 1) hx hb dX6_isSteady_72 (by decide) ?_
      refine lv_iadd hx hb dX6_isSteady_73 ?_
      obtain ⟨v31, hc32, h⟩ := sh_b1_e h
      refine sh_cVl (As := [.int (x3 + 1)]) (rest := [.long x1]) hfix (k_X2_atLeast l D cI cJ cZ aG aS aY gw gd gh ga gl gr sL (x3 + 1) v31 hc32) (cwV 1 hts gX6_isSteady_X2_atLeast rfl rfl rfl hdV_X2_atLeast ⟨Nat.le_of_ble_eq_true rfl, Nat.le_of_ble_eq_true rfl⟩) hP hK [3, 4, 5] rfl 3 rfl rfl rfl hl.1 rfl (Nat.le_of_ble_eq_true rfl) dX6_isSteady_74 ⟨Nat.zero_le _, Nat.zero_le _⟩ ?_
      refine lv_land hx hb dX6_isSteady_77 ?_
      refine lv_lstore (lv' := [(8, .long (x1 &&& v31)), (7, .int v5), (6, .int v3), (5, .int v1), (0, .ref aT), (1, .long x1), (3, .int x3), (4, .int x4)]) hx hb dX6_isSteady_78 hl (by decide) rfl (fun ls hl => ?_)
      refine lv_iconst (v := 0) hx hb dX6_isSteady_80 (by decide) ?_
      refine lv_istore (lv' := [(10, .int 0), (8, .long (x1 &&& v31)), (7, .int v5), (6, .int v3), (5, .int v1), (0, .ref aT), (1, .long x1), (3, .int x3), (4, .int x4)]) hx hb dX6_isSteady_81 hl (by decide) rfl (fun ls hl => ?_)
      have LP44 : ∀ (n : Nat) (x3 : Int32) (x4 : Int32) (x5 : Int32) (x6 : Int32) (x8 : Int64) (x10 : Int32) (z : (Int32) ⊕ (Unit)) (ls : Array Slot), fX6_isSteady_L83 n x3 x4 x5 x6 x8 x10 gw gd gh ga gl gr sL tP tN tz = some z → lv_has ls 13 [(0, .ref aT), (3, .int x3), (4, .int x4), (5, .int x5), (6, .int x6), (8, .long x8), (10, .int x10)] → (∀ x, z = .inl x → x = o) → (∀ (t : Unit), z = .inr t → ∀ (ls : Array Slot), lv_has ls 13 [] → W p l e (headSpec wsX6_isSteady rmX6_isSteady).room s m args below meth c s.heap [] 0 0 Q (F0 m 159 ls [])) → W p l e (headSpec wsX6_isSteady rmX6_isSteady).room s m args below meth c s.heap [] 0 0 Q (F0 m 83 ls []) := by
        intro n
        induction n with
        | zero =>
          intro x3 x4 x5 x6 x8 x10 z ls h hl hret hk
          exact nomatch ((fX6_isSteady_L83_z x3 x4 x5 x6 x8 x10 gw gd gh ga gl gr sL tP tN tz).symm.trans h)
        | succ n ih =>
          intro x3 x4 x5 x6 x8 x10 z ls h hl hret hk
          rw [fX6_isSteady_L83_s] at h
          refine lv_iload hx hb dX6_isSteady_83 (lv_at hl 6 rfl) ?_
          refine lv_bipush (v := 36) hx hb dX6_isSteady_85 (by decide) ?_
          refine lv_icmp_ge (tgt := 159) hx hb dX6_isSteady_87 (by decide) (fun g33 => ?_) (fun g33 => ?_)
          · rw [if_pos g33] at h
            exact hk () (Option.some.inj h).symm ls (lv_sub hl [] rfl) 
          · rw [if_neg g33] at h
            refine lv_lload hx hb dX6_isSteady_90 (lv_at hl 5 rfl) ?_
            refine lv_lconst (v := 0) hx hb dX6_isSteady_92 (by decide) ?_
            refine sh_leq (tgt := 159) hx hb dX6_isSteady_93 dX6_isSteady_94 (by decide) (fun g34 => ?_) (fun g34 => ?_)
            · rw [if_pos g34] at h
              exact hk () (Option.some.inj h).symm ls (lv_sub hl [] rfl) 
            · rw [if_neg g34] at h
              refine lv_aload_n hx hb dX6_isSteady_97 rfl (lv_at hl 0 rfl) ?_
              refine lv_iload_n hx hb dX6_isSteady_98 rfl (lv_at hl 1 rfl) ?_
              refine lv_iconst (v := 1) hx hb dX6_isSteady_99 (by decide) ?_
              refine lv_iadd hx hb dX6_isSteady_100 ?_
              refine lv_lload hx hb dX6_isSteady_101 (lv_at hl 5 rfl) ?_
              refine lv_lload hx hb dX6_isSteady_103 (lv_at hl 5 rfl) ?_
              refine lv_lneg hx hb dX6_isSteady_105 ?_
              refine lv_land hx hb dX6_isSteady_106 ?_
              obtain ⟨v35, hc36, h⟩ := sh_b1_e h
              refine sh_cVl (As := [.int (x3 + 1), .long (x8 &&& (-x8))]) (rest := []) hfix (k_X6_partAt l D cI cJ cZ aG aS aY aT aP aN gw gd gh ga gl gr sL tP tN tz (x3 + 1) (x8 &&& (-x8)) v35 hc36) (cwV 2 hts gX6_isSteady_X6_partAt rfl rfl rfl hdV_X6_partAt ⟨Nat.le_of_ble_eq_true rfl, Nat.le_of_ble_eq_true rfl⟩) hP hK [0, 1, 2, 3, 4, 5] rfl 0 rfl rfl rfl hl.1 rfl (Nat.le_of_ble_eq_true rfl) dX6_isSteady_107 ⟨Nat.zero_le _, Nat.zero_le _⟩ ?_
              refine lv_lstore (lv' := [(11, .long v35), (0, .ref aT), (3, .int x3), (4, .int x4), (5, .int x5), (6, .int x6), (8, .long x8), (10, .int x10)]) hx hb dX6_isSteady_110 hl (by decide) rfl (fun ls hl => ?_)
              refine lv_iload hx hb dX6_isSteady_112 (lv_at hl 4 rfl) ?_
              refine lv_lload hx hb dX6_isSteady_114 (lv_at hl 0 rfl) ?_
              obtain ⟨v37, hc38, h⟩ := sh_b1_e h
              refine sh_cSi (As := [.long v35]) (rest := [.int x5]) hfix (k_J13_bitCount_95d88 l D cI cJ cZ v35 v37 hc38) (va_cwS 1 hts gX6_isSteady_J13_bitCount_95d88 rfl rfl rfl hdS_J13_bitCount_95d88 ⟨Nat.le_of_ble_eq_true rfl, Nat.le_of_ble_eq_true rfl⟩) hP hK [] rfl rfl hl.1 rfl (Nat.le_of_ble_eq_true rfl) dX6_isSteady_116 ⟨Nat.zero_le _, Nat.zero_le _⟩ ?_
              refine lv_imul hx hb dX6_isSteady_119 ?_
              refine lv_aload_n hx hb dX6_isSteady_120 rfl (lv_at hl 1 rfl) ?_
              refine lv_lload hx hb dX6_isSteady_121 (lv_at hl 0 rfl) ?_
              refine lv_aload_n hx hb dX6_isSteady_123 rfl (lv_at hl 1 rfl) ?_
              refine lv_lload hx hb dX6_isSteady_124 (lv_at hl 0 rfl) ?_
              obtain ⟨v39, hc40, h⟩ := sh_b1_e h
              refine sh_cVi (As := [.long v35]) (rest := [.long v35, .ref aT, .int (x5 * v37)]) hfix (k_X6_darkest l D cI cJ cZ aG aS aY aT aP aN gw gd gh ga gl gr sL tP tN tz v35 v39 hc40) (cwV 1 hts gX6_isSteady_X6_darkest rfl rfl rfl hdV_X6_darkest ⟨Nat.le_of_ble_eq_true rfl, Nat.le_of_ble_eq_true rfl⟩) hP hK [0, 1, 2, 3, 4, 5] rfl 0 rfl rfl rfl hl.1 rfl (Nat.le_of_ble_eq_true rfl) dX6_isSteady_126 ⟨Nat.zero_le _, Nat.zero_le _⟩ ?_
              refine lv_iload hx hb dX6_isSteady_129 (lv_at hl 3 rfl) ?_
              obtain ⟨v41, hc42, h⟩ := sh_b1_e h
              refine sh_cVi (As := [.long v35, .int v39, .int x4]) (rest := [.int (x5 * v37)]) hfix (k_X6_gain l D cI cJ cZ aG aS aY aT aP aN gw gd gh ga gl gr sL tP tN tz v35 v39 x4 v41 hc42) (cwV 3 hts gX6_isSteady_X6_gain rfl rfl rfl hdV_X6_gain ⟨Nat.le_of_ble_eq_true rfl, Nat.le_of_ble_eq_true rfl⟩) hP hK [0, 1, 2, 3, 4, 5] rfl 0 rfl rfl rfl hl.1 rfl (Nat.le_of_ble_eq_true rfl) dX6_isSteady_131 ⟨Nat.zero_le _, Nat.zero_le _⟩ ?_
              refine lv_iload hx hb dX6_isSteady_134 (lv_at hl 5 rfl) ?_
              refine lv_imul hx hb dX6_isSteady_136 ?_
              refine lv_icmp_le (tgt := 142) hx hb dX6_isSteady_137 (by decide) (fun g43 => ?_) (fun g43 => ?_)
              · rw [if_pos g43] at h
                refine lv_lload hx hb dX6_isSteady_142 (lv_at hl 6 rfl) ?_
                refine lv_lload hx hb dX6_isSteady_144 (lv_at hl 0 rfl) ?_
                refine lv_ldc2 hx hb hown lk2 dX6_isSteady_146 ?_
                refine lv_lxor hx hb dX6_isSteady_149 ?_
                refine lv_land hx hb dX6_isSteady_150 ?_
                refine lv_lstore (lv' := [(8, .long (x8 &&& (v35 ^^^ (-1)))), (11, .long v35), (0, .ref aT), (3, .int x3), (4, .int x4), (5, .int x5), (6, .int x6), (10, .int x10)]) hx hb dX6_isSteady_151 hl (by decide) rfl (fun ls hl => ?_)
                refine lv_iinc (v := (x10 + 1)) (lv' := [(10, .int (x10 + 1)), (8, .long (x8 &&& (v35 ^^^ (-1)))), (11, .long v35), (0, .ref aT), (3, .int x3), (4, .int x4), (5, .int x5), (6, .int x6)]) hx hb dX6_isSteady_153 hl (k := 7) rfl rfl (by decide) rfl (fun ls hl => ?_)
                refine lv_goto (tgt := 83) hx hb dX6_isSteady_156 (by decide) ?_
                exact ih x3 x4 x5 x6 (x8 &&& (v35 ^^^ (-1))) (x10 + 1) z ls h (lv_sub hl [3, 4, 5, 6, 7, 1, 0] rfl)  hret hk
              · rw [if_neg g43] at h
                refine lv_iconst (v := 0) hx hb dX6_isSteady_140 (by decide) ?_
                exact sh_roz hx hb hr hlocks hQ ⟨rfl, (hret _ (Option.some.inj h).symm)⟩ dX6_isSteady_141
      obtain ⟨z45, hcz45, hrz45, hkz45⟩ := sh_bs_e h
      refine LP44 sh_fu x3 x4 v1 v3 (x1 &&& v31) 0 z45 ls hcz45 (lv_sub hl [5, 7, 8, 4, 3, 1, 0] rfl)  hrz45 (fun t46 et46 ls hl  => ?_)
      have h := hkz45 t46 et46
      refine lv_iconst (v := 1) hx hb dX6_isSteady_159 (by decide) ?_
      exact sh_roz hx hb hr hlocks hQ ⟨rfl, (Option.some.inj h)⟩ dX6_isSteady_160
    · rw [if_neg g30] at h
      refine lv_iconst (v := 0) hx hb dX6_isSteady_64 (by decide) ?_
      exact sh_roz hx hb hr hlocks hQ ⟨rfl, (Option.some.inj h)⟩ dX6_isSteady_65
theorem hdV_X6_gather : yX6_gather.cls = RX6 ∧ yX6_gather.cls ≠ "java/lang/invoke/MethodHandle" ∧ yX6_gather.cls ≠ "java/lang/invoke/VarHandle" ∧ (parseMethodDescriptor yX6_gather.desc).map (fun d => d.parameters.length) = some 0 := by decide +kernel
abbrev rmX6_gather : Room := { frames := 3, cells := 0, slots := 0, locals := 80 }
set_option maxHeartbeats 4000000 in
set_option maxRecDepth 100000 in
theorem k_X6_gather (l : Launch) (D : va_G) (cI cJ cZ : ClassId) (sz : Nat) (aG : Nat) (aS : Nat) (aY : Nat) (aT : Nat) (aP : Nat) (aN : Nat) (gw : Int32) (gd : Int32) (gh : Int32) (ga : Int64) (gl : Int64) (gr : Int64) (sL : Nat → Int64) (tP : Nat → Int64) (tN : Nat → Int32) (tz : Int32) (otP : Nat → Int64) (otN : Nat → Int32) (otz : Int32) (h : fX6_gather gw gd gl gr sL tP tN = some (otP, otN, otz)) : Met l yX6_gather wsX6_gather rmX6_gather (sh_Pw D (sh_ty cI cJ cZ) sz [(aT, .inr (6, [.ref aG, .ref aS, .ref aP, .ref aN, .int tz])), (aP, .inl (cJ, 36, .inr (.inl tP))), (aN, .inl (cI, 36, .inl tN)), (aS, .inr (2, [.ref aG, .ref aY])), (aY, .inl (cJ, 10, .inr (.inl sL))), (aG, .inr (1, [.int gw, .int gd, .int gh, .long ga, .long gl, .long gr]))] [.ref aT]) (sh_Qv D (sh_ty cI cJ cZ) (va_A [(aT, .inr (6, [.ref aG, .ref aS, .ref aP, .ref aN, .int tz])), (aP, .inl (cJ, 36, .inr (.inl tP))), (aN, .inl (cI, 36, .inl tN)), (aS, .inr (2, [.ref aG, .ref aY])), (aY, .inl (cJ, 10, .inr (.inl sL))), (aG, .inr (1, [.int gw, .int gd, .int gh, .long ga, .long gl, .long gr]))] sz) [(aT, .inr (6, [.ref aG, .ref aS, .ref aP, .ref aN, .int otz])), (aP, .inl (cJ, 36, .inr (.inl otP))), (aN, .inl (cI, 36, .inl otN)), (aS, .inr (2, [.ref aG, .ref aY])), (aY, .inl (cJ, 10, .inr (.inl sL))), (aG, .inr (1, [.int gw, .int gd, .int gh, .long ga, .long gl, .long gr]))]) 0 0 (va_A [(aT, .inr (6, [.ref aG, .ref aS, .ref aP, .ref aN, .int tz])), (aP, .inl (cJ, 36, .inr (.inl tP))), (aN, .inl (cI, 36, .inl tN)), (aS, .inr (2, [.ref aG, .ref aY])), (aY, .inl (cJ, 10, .inr (.inl sL))), (aG, .inr (1, [.int gw, .int gd, .int gh, .long ga, .long gl, .long gr]))] sz) := by
  refine Met.ofW (cc := cX6_gather) (maxL := 6) (ret := none) (by decide) rfl ?_
  intro p e s m args below meth c s₁ hB hml hv
  obtain ⟨hargs, hsz, hP, hK, hD0⟩ := hv
  have hx := hB.exec
  have hb := hB.bytes
  have hr := hB.returns
  have hts := atoms_spec (ws := wsX6_gather) hB.pre
  have hown : s.vm.findClass RX6 = some m.cls := findClass_of_methodNamed hB.named
  have hlocks := hB.notSynchronized
  have hfix : CallFix p m c cX6_gather 6 s args wsX6_gather RX6 := ⟨hx, hb, hml, hown, hts⟩
  have hinX6 : ∀ w ∈ wsX60, w ∈ wsX6_gather := by decide +kernel
  have lk1 := hts (.fieldLink RX6 95 "ShadeTree$Tree" "size" "I") (by decide +kernel)
  have lk2 := hts (.fieldLink RX6 9 "ShadeTree$Tree" "nodeParts" "[J") (by decide +kernel)
  have lk3 := hts (.fieldLink RX6 15 "ShadeTree$Tree" "nodeLevels" "[I") (by decide +kernel)
  have lk4 := hts (.constantLong RX6 43 (-1)) (by decide +kernel)
  rw [show entryFrame m args 6 = entryFrame m ([.ref aT] : List Value).toArray 6 by rw [hargs], lg_entry_eq]
  have hl := lv_entry ([.ref aT]) (n := 6) (Nat.le_of_ble_eq_true rfl)
  generalize (lg_sl ([.ref aT]) ++ List.replicate (6 - (lg_sl ([.ref aT])).length) Slot.unset).toArray = ls at hl ⊢
  have hl : lv_has ls 6 [(0, .ref aT)] := hl
  subst hsz
  have hD := hD0.self (sz := s.heap.size)
  generalize hAe : va_A [(aT, .inr (6, [.ref aG, .ref aS, .ref aP, .ref aN, .int tz])), (aP, .inl (cJ, 36, .inr (.inl tP))), (aN, .inl (cI, 36, .inl tN)), (aS, .inr (2, [.ref aG, .ref aY])), (aY, .inl (cJ, 10, .inr (.inl sL))), (aG, .inr (1, [.int gw, .int gd, .int gh, .long ga, .long gl, .long gr]))] s.heap.size = Az at hD ⊢
  have hA : ∀ q : Nat, s.heap.size ≤ q → Az q := fun q h => by rw [← hAe]; exact Or.inr h
  have hS : va_S Az s.heap s.heap [] := va_S.rf
  generalize hQ : MQ below (sh_Qv D (sh_ty cI cJ cZ) Az [(aT, .inr (6, [.ref aG, .ref aS, .ref aP, .ref aN, .int otz])), (aP, .inl (cJ, 36, .inr (.inl otP))), (aN, .inl (cI, 36, .inl otN)), (aS, .inr (2, [.ref aG, .ref aY])), (aY, .inl (cJ, 10, .inr (.inl sL))), (aG, .inr (1, [.int gw, .int gd, .int gh, .long ga, .long gl, .long gr]))]) args s 0 0 Az = Q
  unfold fX6_gather at h
  refine lv_aload_n hx hb dX6_gather_0 rfl (lv_at hl 0 rfl) ?_
  refine lv_iconst (v := 0) hx hb dX6_gather_1 (by decide) ?_
  refine sh_put (wn := [(aT, .inr (6, [.ref aG, .ref aS, .ref aP, .ref aN, .int 0])), (aP, .inl (cJ, 36, .inr (.inl tP))), (aN, .inl (cI, 36, .inl tN)), (aS, .inr (2, [.ref aG, .ref aY])), (aY, .inl (cJ, 10, .inr (.inl sL))), (aG, .inr (1, [.int gw, .int gd, .int gh, .long ga, .long gl, .long gr]))]) (ci := 6) (v := .int 0) (ty := .int) (C := RX6) (T := TX6) (N := 5) hx hb hts hinX6 tyX6 tyX6_ok nmX6 hown hK hP hD hS 0 rfl rfl 4 (by decide) lk1 (fun _ h9 => h9) rfl (by decide +kernel) rfl rfl (Nat.le_of_ble_eq_true rfl) rfl dX6_gather_2 (fun H locs hP hD hS => ?_)
  refine lv_bipush (v := 9) hx hb dX6_gather_5 (by decide) ?_
  refine lv_istore_n (lv' := [(1, .int 9), (0, .ref aT)]) hx hb dX6_gather_7 rfl hl (by decide) rfl (fun ls hl => ?_)
  have LP16 : ∀ (n : Nat) (x1 : Int32) (tP : Nat → Int64) (tN : Nat → Int32) (tz : Int32) (otP : (Nat → Int64)) (otN : (Nat → Int32)) (otz : (Int32)) (H : Heap) (locs : List Loc) (ls : Array Slot), fX6_gather_L8 n x1 gw gd gl gr sL tP tN tz = some (otP, otN, otz) → lv_has ls 6 [(0, .ref aT), (1, .int x1)] → va_P D vwCl [(aT, .inr (6, [.ref aG, .ref aS, .ref aP, .ref aN, .int tz])), (aP, .inl (cJ, 36, .inr (.inl tP))), (aN, .inl (cI, 36, .inl tN)), (aS, .inr (2, [.ref aG, .ref aY])), (aY, .inl (cJ, 10, .inr (.inl sL))), (aG, .inr (1, [.int gw, .int gd, .int gh, .long ga, .long gl, .long gr]))] H → va_D Az [(aT, .inr (6, [.ref aG, .ref aS, .ref aP, .ref aN, .int tz])), (aP, .inl (cJ, 36, .inr (.inl tP))), (aN, .inl (cI, 36, .inl tN)), (aS, .inr (2, [.ref aG, .ref aY])), (aY, .inl (cJ, 10, .inr (.inl sL))), (aG, .inr (1, [.int gw, .int gd, .int gh, .long ga, .long gl, .long gr]))] → va_S Az s.heap H locs → (∀ (H : Heap) (locs : List Loc) (ls : Array Slot), lv_has ls 6 [] → va_P D vwCl [(aT, .inr (6, [.ref aG, .ref aS, .ref aP, .ref aN, .int otz])), (aP, .inl (cJ, 36, .inr (.inl otP))), (aN, .inl (cI, 36, .inl otN)), (aS, .inr (2, [.ref aG, .ref aY])), (aY, .inl (cJ, 10, .inr (.inl sL))), (aG, .inr (1, [.int gw, .int gd, .int gh, .long ga, .long gl, .long gr]))] H → va_D Az [(aT, .inr (6, [.ref aG, .ref aS, .ref aP, .ref aN, .int otz])), (aP, .inl (cJ, 36, .inr (.inl otP))), (aN, .inl (cI, 36, .inl otN)), (aS, .inr (2, [.ref aG, .ref aY])), (aY, .inl (cJ, 10, .inr (.inl sL))), (aG, .inr (1, [.int gw, .int gd, .int gh, .long ga, .long gl, .long gr]))] → va_S Az s.heap H locs → W p l e (headSpec wsX6_gather rmX6_gather).room s m args below meth c H locs 0 0 Q (F0 m 100 ls [])) → W p l e (headSpec wsX6_gather rmX6_gather).room s m args below meth c H locs 0 0 Q (F0 m 8 ls []) := by
    intro n
    induction n with
    | zero =>
      intro x1 tP tN tz otP otN otz H locs ls h hl hP hD hS hk
      exact nomatch ((fX6_gather_L8_z x1 gw gd gl gr sL tP tN tz).symm.trans h)
    | succ n ih =>
      intro x1 tP tN tz otP otN otz H locs ls h hl hP hD hS hk
      rw [fX6_gather_L8_s] at h
      refine lv_iload_n hx hb dX6_gather_8 rfl (lv_at hl 1 rfl) ?_
      refine lv_if_lt (tgt := 100) hx hb dX6_gather_9 (by decide) (fun g1 => ?_) (fun g1 => ?_)
      · rw [if_pos g1] at h
        cases h
        exact hk _ _ ls (lv_sub hl [] rfl) hP hD hS
      · rw [if_neg g1] at h
        refine lv_aload_n hx hb dX6_gather_12 rfl (lv_at hl 0 rfl) ?_
        refine lv_iload_n hx hb dX6_gather_13 rfl (lv_at hl 1 rfl) ?_
        obtain ⟨v2, hc3, h⟩ := sh_b1_e h
        refine sh_cVl (As := [.int x1]) (rest := []) hfix (k_X6_ofLevel l D cI cJ cZ aG aS aY aT aP aN gw gd gh ga gl gr sL tP tN tz x1 v2 hc3) (cwV 1 hts gX6_gather_X6_ofLevel rfl rfl rfl hdV_X6_ofLevel ⟨Nat.le_of_ble_eq_true rfl, Nat.le_of_ble_eq_true rfl⟩) hP hK [0, 1, 2, 3, 4, 5] rfl 0 rfl rfl rfl hl.1 rfl (Nat.le_of_ble_eq_true rfl) dX6_gather_14 ⟨Nat.zero_le _, Nat.zero_le _⟩ ?_
        refine lv_lstore_n (lv' := [(2, .long v2), (0, .ref aT), (1, .int x1)]) hx hb dX6_gather_17 rfl hl (by decide) rfl (fun ls hl => ?_)
        have LP11 : ∀ (n : Nat) (x1 : Int32) (x2 : Int64) (tP : Nat → Int64) (tN : Nat → Int32) (tz : Int32) (otP : (Nat → Int64)) (otN : (Nat → Int32)) (otz : (Int32)) (H : Heap) (locs : List Loc) (ls : Array Slot), fX6_gather_L18 n x1 x2 gw gd gl gr sL tP tN tz = some (otP, otN, otz) → lv_has ls 6 [(0, .ref aT), (1, .int x1), (2, .long x2)] → va_P D vwCl [(aT, .inr (6, [.ref aG, .ref aS, .ref aP, .ref aN, .int tz])), (aP, .inl (cJ, 36, .inr (.inl tP))), (aN, .inl (cI, 36, .inl tN)), (aS, .inr (2, [.ref aG, .ref aY])), (aY, .inl (cJ, 10, .inr (.inl sL))), (aG, .inr (1, [.int gw, .int gd, .int gh, .long ga, .long gl, .long gr]))] H → va_D Az [(aT, .inr (6, [.ref aG, .ref aS, .ref aP, .ref aN, .int tz])), (aP, .inl (cJ, 36, .inr (.inl tP))), (aN, .inl (cI, 36, .inl tN)), (aS, .inr (2, [.ref aG, .ref aY])), (aY, .inl (cJ, 10, .inr (.inl sL))), (aG, .inr (1, [.int gw, .int gd, .int gh, .long ga, .long gl, .long gr]))] → va_S Az s.heap H locs → (∀ (H : Heap) (locs : List Loc) (ls : Array Slot), lv_has ls 6 [(0, .ref aT), (1, .int x1)] → va_P D vwCl [(aT, .inr (6, [.ref aG, .ref aS, .ref aP, .ref aN, .int otz])), (aP, .inl (cJ, 36, .inr (.inl otP))), (aN, .inl (cI, 36, .inl otN)), (aS, .inr (2, [.ref aG, .ref aY])), (aY, .inl (cJ, 10, .inr (.inl sL))), (aG, .inr (1, [.int gw, .int gd, .int gh, .long ga, .long gl, .long gr]))] H → va_D Az [(aT, .inr (6, [.ref aG, .ref aS, .ref aP, .ref aN, .int otz])), (aP, .inl (cJ, 36, .inr (.inl otP))), (aN, .inl (cI, 36, .inl otN)), (aS, .inr (2, [.ref aG, .ref aY])), (aY, .inl (cJ, 10, .inr (.inl sL))), (aG, .inr (1, [.int gw, .int gd, .int gh, .long ga, .long gl, .long gr]))] → va_S Az s.heap H locs → W p l e (headSpec wsX6_gather rmX6_gather).room s m args below meth c H locs 0 0 Q (F0 m 94 ls [])) → W p l e (headSpec wsX6_gather rmX6_gather).room s m args below meth c H locs 0 0 Q (F0 m 18 ls []) := by
          intro n
          induction n with
          | zero =>
            intro x1 x2 tP tN tz otP otN otz H locs ls h hl hP hD hS hk
            exact nomatch ((fX6_gather_L18_z x1 x2 gw gd gl gr sL tP tN tz).symm.trans h)
          | succ n ih =>
            intro x1 x2 tP tN tz otP otN otz H locs ls h hl hP hD hS hk
            rw [fX6_gather_L18_s] at h
            refine lv_lload_n hx hb dX6_gather_18 rfl (lv_at hl 2 rfl) ?_
            refine lv_lconst (v := 0) hx hb dX6_gather_19 (by decide) ?_
            refine sh_leq (tgt := 94) hx hb dX6_gather_20 dX6_gather_21 (by decide) (fun g4 => ?_) (fun g4 => ?_)
            · rw [if_pos g4] at h
              cases h
              exact hk _ _ ls (lv_sub hl [0, 1] rfl) hP hD hS
            · rw [if_neg g4] at h
              refine lv_aload_n hx hb dX6_gather_24 rfl (lv_at hl 0 rfl) ?_
              refine va_get (ci := 6) (v := .int tz) (C := RX6) (T := TX6) (N := 5) hx hb hts hinX6 hown hK hP 0 rfl rfl 4 (by decide) lk1 (fun _ h9 => h9) rfl dX6_gather_25 ?_
              refine lv_if_lt (tgt := 94) hx hb dX6_gather_28 (by decide) (fun g5 => ?_) (fun g5 => ?_)
              · rw [if_pos g5] at h
                cases h
                exact hk _ _ ls (lv_sub hl [0, 1] rfl) hP hD hS
              · rw [if_neg g5] at h
                refine lv_aload_n hx hb dX6_gather_31 rfl (lv_at hl 0 rfl) ?_
                refine va_get (ci := 6) (v := .int tz) (C := RX6) (T := TX6) (N := 5) hx hb hts hinX6 hown hK hP 0 rfl rfl 4 (by decide) lk1 (fun _ h9 => h9) rfl dX6_gather_32 ?_
                refine lv_bipush (v := 36) hx hb dX6_gather_35 (by decide) ?_
                refine lv_icmp_ge (tgt := 94) hx hb dX6_gather_37 (by decide) (fun g6 => ?_) (fun g6 => ?_)
                · rw [if_pos g6] at h
                  cases h
                  exact hk _ _ ls (lv_sub hl [0, 1] rfl) hP hD hS
                · rw [if_neg g6] at h
                  refine lv_aload_n hx hb dX6_gather_40 rfl (lv_at hl 0 rfl) ?_
                  refine lv_iload_n hx hb dX6_gather_41 rfl (lv_at hl 1 rfl) ?_
                  refine lv_lload_n hx hb dX6_gather_42 rfl (lv_at hl 2 rfl) ?_
                  refine lv_lload_n hx hb dX6_gather_43 rfl (lv_at hl 2 rfl) ?_
                  refine lv_lneg hx hb dX6_gather_44 ?_
                  refine lv_land hx hb dX6_gather_45 ?_
                  obtain ⟨v7, hc8, h⟩ := sh_b1_e h
                  refine sh_cVl (As := [.int x1, .long (x2 &&& (-x2))]) (rest := []) hfix (k_X6_partAt l D cI cJ cZ aG aS aY aT aP aN gw gd gh ga gl gr sL tP tN tz x1 (x2 &&& (-x2)) v7 hc8) (cwV 2 hts gX6_gather_X6_partAt rfl rfl rfl hdV_X6_partAt ⟨Nat.le_of_ble_eq_true rfl, Nat.le_of_ble_eq_true rfl⟩) hP hK [0, 1, 2, 3, 4, 5] rfl 0 rfl rfl rfl hl.1 rfl (Nat.le_of_ble_eq_true rfl) dX6_gather_46 ⟨Nat.zero_le _, Nat.zero_le _⟩ ?_
                  refine lv_lstore (lv' := [(4, .long v7), (0, .ref aT), (1, .int x1), (2, .long x2)]) hx hb dX6_gather_49 hl (by decide) rfl (fun ls hl => ?_)
                  refine lv_aload_n hx hb dX6_gather_51 rfl (lv_at hl 1 rfl) ?_
                  refine va_get (ci := 6) (v := .ref aP) (C := RX6) (T := TX6) (N := 5) hx hb hts hinX6 hown hK hP 0 rfl rfl 2 (by decide) lk2 (fun _ h9 => h9) rfl dX6_gather_52 ?_
                  refine lv_aload_n hx hb dX6_gather_55 rfl (lv_at hl 1 rfl) ?_
                  refine va_get (ci := 6) (v := .int tz) (C := RX6) (T := TX6) (N := 5) hx hb hts hinX6 hown hK hP 0 rfl rfl 4 (by decide) lk1 (fun _ h9 => h9) rfl dX6_gather_56 ?_
                  refine lv_lload hx hb dX6_gather_59 (lv_at hl 0 rfl) ?_
                  obtain ⟨f9, hcf9, h⟩ := sh_b1_e h
                  refine sh_last (wn := [(aT, .inr (6, [.ref aG, .ref aS, .ref aP, .ref aN, .int tz])), (aP, .inl (cJ, 36, .inr (.inl f9))), (aN, .inl (cI, 36, .inl tN)), (aS, .inr (2, [.ref aG, .ref aY])), (aY, .inl (cJ, 10, .inr (.inl sL))), (aG, .inr (1, [.int gw, .int gd, .int gh, .long ga, .long gl, .long gr]))]) hx hb hK hP hD hS 1 1 rfl rfl (sh_astL_e hcf9) rfl dX6_gather_61 (fun H locs hP hD hS => ?_)
                  refine lv_aload_n hx hb dX6_gather_62 rfl (lv_at hl 1 rfl) ?_
                  refine va_get (ci := 6) (v := .ref aN) (C := RX6) (T := TX6) (N := 5) hx hb hts hinX6 hown hK hP 0 rfl rfl 3 (by decide) lk3 (fun _ h9 => h9) rfl dX6_gather_63 ?_
                  refine lv_aload_n hx hb dX6_gather_66 rfl (lv_at hl 1 rfl) ?_
                  refine va_get (ci := 6) (v := .int tz) (C := RX6) (T := TX6) (N := 5) hx hb hts hinX6 hown hK hP 0 rfl rfl 4 (by decide) lk1 (fun _ h9 => h9) rfl dX6_gather_67 ?_
                  refine lv_iload_n hx hb dX6_gather_70 rfl (lv_at hl 2 rfl) ?_
                  obtain ⟨f10, hcf10, h⟩ := sh_b1_e h
                  refine sh_iast (wn := [(aT, .inr (6, [.ref aG, .ref aS, .ref aP, .ref aN, .int tz])), (aP, .inl (cJ, 36, .inr (.inl f9))), (aN, .inl (cI, 36, .inl f10)), (aS, .inr (2, [.ref aG, .ref aY])), (aY, .inl (cJ, 10, .inr (.inl sL))), (aG, .inr (1, [.int gw, .int gd, .int gh, .long ga, .long gl, .long gr]))]) hx hb hK hP hD hS 2 0 rfl rfl (sh_ast_e hcf10) rfl dX6_gather_71 (fun H locs hP hD hS => ?_)
                  refine lv_aload_n hx hb dX6_gather_72 rfl (lv_at hl 1 rfl) ?_
                  refine lv_dup hx hb dX6_gather_73 rfl ?_
                  refine va_get (ci := 6) (v := .int tz) (C := RX6) (T := TX6) (N := 5) hx hb hts hinX6 hown hK hP 0 rfl rfl 4 (by decide) lk1 (fun _ h9 => h9) rfl dX6_gather_74 ?_
                  refine lv_iconst (v := 1) hx hb dX6_gather_77 (by decide) ?_
                  refine lv_iadd hx hb dX6_gather_78 ?_
                  refine sh_put (wn := [(aT, .inr (6, [.ref aG, .ref aS, .ref aP, .ref aN, .int (tz + 1)])), (aP, .inl (cJ, 36, .inr (.inl f9))), (aN, .inl (cI, 36, .inl f10)), (aS, .inr (2, [.ref aG, .ref aY])), (aY, .inl (cJ, 10, .inr (.inl sL))), (aG, .inr (1, [.int gw, .int gd, .int gh, .long ga, .long gl, .long gr]))]) (ci := 6) (v := .int (tz + 1)) (ty := .int) (C := RX6) (T := TX6) (N := 5) hx hb hts hinX6 tyX6 tyX6_ok nmX6 hown hK hP hD hS 0 rfl rfl 4 (by decide) lk1 (fun _ h9 => h9) rfl (by decide +kernel) rfl rfl (Nat.le_of_ble_eq_true rfl) rfl dX6_gather_79 (fun H locs hP hD hS => ?_)
                  refine lv_lload_n hx hb dX6_gather_82 rfl (lv_at hl 3 rfl) ?_
                  refine lv_lload hx hb dX6_gather_83 (lv_at hl 0 rfl) ?_
                  refine lv_ldc2 hx hb hown lk4 dX6_gather_85 ?_
                  refine lv_lxor hx hb dX6_gather_88 ?_
                  refine lv_land hx hb dX6_gather_89 ?_
                  refine lv_lstore_n (lv' := [(2, .long (x2 &&& (v7 ^^^ (-1)))), (4, .long v7), (0, .ref aT), (1, .int x1)]) hx hb dX6_gather_90 rfl hl (by decide) rfl (fun ls hl => ?_)
                  refine lv_goto (tgt := 18) hx hb dX6_gather_91 (by decide) ?_
                  exact ih x1 (x2 &&& (v7 ^^^ (-1))) f9 f10 (tz + 1) otP otN otz _ _ ls h (lv_sub hl [2, 3, 0] rfl) hP hD hS hk
        obtain ⟨w12, w13, w14, hc15, h⟩ := sh_b3_e h
        refine LP11 sh_fu x1 v2 tP tN tz w12 w13 w14 _ _ ls hc15 (lv_sub hl [1, 2, 0] rfl) hP hD hS (fun H locs ls hl hP hD hS => ?_)
        refine lv_iinc (v := (x1 + (-1))) (lv' := [(1, .int (x1 + (-1))), (0, .ref aT)]) hx hb dX6_gather_94 hl (k := 1) rfl rfl (by decide) rfl (fun ls hl => ?_)
        refine lv_goto (tgt := 8) hx hb dX6_gather_97 (by decide) ?_
        exact ih (x1 + (-1)) w12 w13 w14 otP otN otz _ _ ls h (lv_sub hl [1, 0] rfl) hP hD hS hk
  obtain ⟨w17, w18, w19, hc20, h⟩ := sh_b3_e h
  refine LP16 sh_fu 9 tP tN 0 w17 w18 w19 _ _ ls hc20 (lv_sub hl [1, 0] rfl) hP hD hS (fun H locs ls hl hP hD hS => ?_)
  cases h
  exact sh_rwv hx hb hr hlocks hQ hK hP hD hS dX6_gather_100
theorem hdV_X6_countNodes : yX6_countNodes.cls = RX6 ∧ yX6_countNodes.cls ≠ "java/lang/invoke/MethodHandle" ∧ yX6_countNodes.cls ≠ "java/lang/invoke/VarHandle" ∧ (parseMethodDescriptor yX6_countNodes.desc).map (fun d => d.parameters.length) = some 0 := by decide +kernel
abbrev rmX6_countNodes : Room := { frames := 4, cells := 0, slots := 0, locals := 105 }
set_option maxHeartbeats 4000000 in
set_option maxRecDepth 100000 in
theorem k_X6_countNodes (l : Launch) (D : va_G) (cI cJ cZ : ClassId) (sz : Nat) (aG : Nat) (aS : Nat) (aY : Nat) (aT : Nat) (aP : Nat) (aN : Nat) (gw : Int32) (gd : Int32) (gh : Int32) (ga : Int64) (gl : Int64) (gr : Int64) (sL : Nat → Int64) (tP : Nat → Int64) (tN : Nat → Int32) (tz : Int32) (o : Int32) (otP : Nat → Int64) (otN : Nat → Int32) (otz : Int32) (h : fX6_countNodes gw gd gl gr sL tP tN = some (o, otP, otN, otz)) : Met l yX6_countNodes wsX6_countNodes rmX6_countNodes (sh_Pw D (sh_ty cI cJ cZ) sz [(aT, .inr (6, [.ref aG, .ref aS, .ref aP, .ref aN, .int tz])), (aP, .inl (cJ, 36, .inr (.inl tP))), (aN, .inl (cI, 36, .inl tN)), (aS, .inr (2, [.ref aG, .ref aY])), (aY, .inl (cJ, 10, .inr (.inl sL))), (aG, .inr (1, [.int gw, .int gd, .int gh, .long ga, .long gl, .long gr]))] [.ref aT]) (sh_Qi D (sh_ty cI cJ cZ) (va_A [(aT, .inr (6, [.ref aG, .ref aS, .ref aP, .ref aN, .int tz])), (aP, .inl (cJ, 36, .inr (.inl tP))), (aN, .inl (cI, 36, .inl tN)), (aS, .inr (2, [.ref aG, .ref aY])), (aY, .inl (cJ, 10, .inr (.inl sL))), (aG, .inr (1, [.int gw, .int gd, .int gh, .long ga, .long gl, .long gr]))] sz) [(aT, .inr (6, [.ref aG, .ref aS, .ref aP, .ref aN, .int otz])), (aP, .inl (cJ, 36, .inr (.inl otP))), (aN, .inl (cI, 36, .inl otN)), (aS, .inr (2, [.ref aG, .ref aY])), (aY, .inl (cJ, 10, .inr (.inl sL))), (aG, .inr (1, [.int gw, .int gd, .int gh, .long ga, .long gl, .long gr]))] o) 0 0 (va_A [(aT, .inr (6, [.ref aG, .ref aS, .ref aP, .ref aN, .int tz])), (aP, .inl (cJ, 36, .inr (.inl tP))), (aN, .inl (cI, 36, .inl tN)), (aS, .inr (2, [.ref aG, .ref aY])), (aY, .inl (cJ, 10, .inr (.inl sL))), (aG, .inr (1, [.int gw, .int gd, .int gh, .long ga, .long gl, .long gr]))] sz) := by
  refine Met.ofW (cc := cX6_countNodes) (maxL := 1) (ret := (some .int)) (by decide) rfl ?_
  intro p e s m args below meth c s₁ hB hml hv
  obtain ⟨hargs, hsz, hP, hK, hD0⟩ := hv
  have hx := hB.exec
  have hb := hB.bytes
  have hr := hB.returns
  have hts := atoms_spec (ws := wsX6_countNodes) hB.pre
  have hown : s.vm.findClass RX6 = some m.cls := findClass_of_methodNamed hB.named
  have hlocks := hB.notSynchronized
  have hfix : CallFix p m c cX6_countNodes 1 s args wsX6_countNodes RX6 := ⟨hx, hb, hml, hown, hts⟩
  have hinX6 : ∀ w ∈ wsX60, w ∈ wsX6_countNodes := by decide +kernel
  have lk1 := hts (.fieldLink RX6 95 "ShadeTree$Tree" "size" "I") (by decide +kernel)
  rw [show entryFrame m args 1 = entryFrame m ([.ref aT] : List Value).toArray 1 by rw [hargs], lg_entry_eq]
  have hl := lv_entry ([.ref aT]) (n := 1) (Nat.le_of_ble_eq_true rfl)
  generalize (lg_sl ([.ref aT]) ++ List.replicate (1 - (lg_sl ([.ref aT])).length) Slot.unset).toArray = ls at hl ⊢
  have hl : lv_has ls 1 [(0, .ref aT)] := hl
  subst hsz
  have hD := hD0.self (sz := s.heap.size)
  generalize hAe : va_A [(aT, .inr (6, [.ref aG, .ref aS, .ref aP, .ref aN, .int tz])), (aP, .inl (cJ, 36, .inr (.inl tP))), (aN, .inl (cI, 36, .inl tN)), (aS, .inr (2, [.ref aG, .ref aY])), (aY, .inl (cJ, 10, .inr (.inl sL))), (aG, .inr (1, [.int gw, .int gd, .int gh, .long ga, .long gl, .long gr]))] s.heap.size = Az at hD ⊢
  have hA : ∀ q : Nat, s.heap.size ≤ q → Az q := fun q h => by rw [← hAe]; exact Or.inr h
  have hS : va_S Az s.heap s.heap [] := va_S.rf
  generalize hQ : MQ below (sh_Qi D (sh_ty cI cJ cZ) Az [(aT, .inr (6, [.ref aG, .ref aS, .ref aP, .ref aN, .int otz])), (aP, .inl (cJ, 36, .inr (.inl otP))), (aN, .inl (cI, 36, .inl otN)), (aS, .inr (2, [.ref aG, .ref aY])), (aY, .inl (cJ, 10, .inr (.inl sL))), (aG, .inr (1, [.int gw, .int gd, .int gh, .long ga, .long gl, .long gr]))] o) args s 0 0 Az = Q
  unfold fX6_countNodes at h
  refine lv_aload_n hx hb dX6_countNodes_0 rfl (lv_at hl 0 rfl) ?_
  obtain ⟨u1, u2, u3, hc4, h⟩ := sh_b3_e h
  refine sh_wVv (wn := [(aT, .inr (6, [.ref aG, .ref aS, .ref aP, .ref aN, .int u3])), (aP, .inl (cJ, 36, .inr (.inl u1))), (aN, .inl (cI, 36, .inl u2)), (aS, .inr (2, [.ref aG, .ref aY])), (aY, .inl (cJ, 10, .inr (.inl sL))), (aG, .inr (1, [.int gw, .int gd, .int gh, .long ga, .long gl, .long gr]))]) (As := []) (rest := []) hfix (k_X6_gather l D cI cJ cZ _ aG aS aY aT aP aN gw gd gh ga gl gr sL tP tN tz u1 u2 u3 hc4) (cwV 0 hts gX6_countNodes_X6_gather rfl rfl rfl hdV_X6_gather ⟨Nat.le_of_ble_eq_true rfl, Nat.le_of_ble_eq_true rfl⟩) hP hK hD hS hA [0, 1, 2, 3, 4, 5] [] [0, 1, 2, 3, 4, 5] rfl rfl rfl rfl rfl rfl rfl 0 rfl rfl rfl hl.1 rfl (Nat.le_of_ble_eq_true rfl) dX6_countNodes_1 ⟨Nat.zero_le _, Nat.zero_le _⟩ (fun H locs hP hD hS => ?_)
  refine lv_aload_n hx hb dX6_countNodes_4 rfl (lv_at hl 0 rfl) ?_
  refine va_get (ci := 6) (v := .int u3) (C := RX6) (T := TX6) (N := 5) hx hb hts hinX6 hown hK hP 0 rfl rfl 4 (by decide) lk1 (fun _ h9 => h9) rfl dX6_countNodes_5 ?_
  cases h
  exact sh_rwi hx hb hr hlocks hQ hK hP hD hS dX6_countNodes_8
theorem hdV_X6_countLeaves : yX6_countLeaves.cls = RX6 ∧ yX6_countLeaves.cls ≠ "java/lang/invoke/MethodHandle" ∧ yX6_countLeaves.cls ≠ "java/lang/invoke/VarHandle" ∧ (parseMethodDescriptor yX6_countLeaves.desc).map (fun d => d.parameters.length) = some 0 := by decide +kernel
abbrev rmX6_countLeaves : Room := { frames := 4, cells := 0, slots := 0, locals := 105 }
set_option maxHeartbeats 4000000 in
set_option maxRecDepth 100000 in
theorem k_X6_countLeaves (l : Launch) (D : va_G) (cI cJ cZ : ClassId) (sz : Nat) (aG : Nat) (aS : Nat) (aY : Nat) (aT : Nat) (aP : Nat) (aN : Nat) (gw : Int32) (gd : Int32) (gh : Int32) (ga : Int64) (gl : Int64) (gr : Int64) (sL : Nat → Int64) (tP : Nat → Int64) (tN : Nat → Int32) (tz : Int32) (o : Int32) (otP : Nat → Int64) (otN : Nat → Int32) (otz : Int32) (h : fX6_countLeaves gw gd gl gr sL tP tN = some (o, otP, otN, otz)) : Met l yX6_countLeaves wsX6_countLeaves rmX6_countLeaves (sh_Pw D (sh_ty cI cJ cZ) sz [(aT, .inr (6, [.ref aG, .ref aS, .ref aP, .ref aN, .int tz])), (aP, .inl (cJ, 36, .inr (.inl tP))), (aN, .inl (cI, 36, .inl tN)), (aS, .inr (2, [.ref aG, .ref aY])), (aY, .inl (cJ, 10, .inr (.inl sL))), (aG, .inr (1, [.int gw, .int gd, .int gh, .long ga, .long gl, .long gr]))] [.ref aT]) (sh_Qi D (sh_ty cI cJ cZ) (va_A [(aT, .inr (6, [.ref aG, .ref aS, .ref aP, .ref aN, .int tz])), (aP, .inl (cJ, 36, .inr (.inl tP))), (aN, .inl (cI, 36, .inl tN)), (aS, .inr (2, [.ref aG, .ref aY])), (aY, .inl (cJ, 10, .inr (.inl sL))), (aG, .inr (1, [.int gw, .int gd, .int gh, .long ga, .long gl, .long gr]))] sz) [(aT, .inr (6, [.ref aG, .ref aS, .ref aP, .ref aN, .int otz])), (aP, .inl (cJ, 36, .inr (.inl otP))), (aN, .inl (cI, 36, .inl otN)), (aS, .inr (2, [.ref aG, .ref aY])), (aY, .inl (cJ, 10, .inr (.inl sL))), (aG, .inr (1, [.int gw, .int gd, .int gh, .long ga, .long gl, .long gr]))] o) 0 0 (va_A [(aT, .inr (6, [.ref aG, .ref aS, .ref aP, .ref aN, .int tz])), (aP, .inl (cJ, 36, .inr (.inl tP))), (aN, .inl (cI, 36, .inl tN)), (aS, .inr (2, [.ref aG, .ref aY])), (aY, .inl (cJ, 10, .inr (.inl sL))), (aG, .inr (1, [.int gw, .int gd, .int gh, .long ga, .long gl, .long gr]))] sz) := by
  refine Met.ofW (cc := cX6_countLeaves) (maxL := 3) (ret := (some .int)) (by decide) rfl ?_
  intro p e s m args below meth c s₁ hB hml hv
  obtain ⟨hargs, hsz, hP, hK, hD0⟩ := hv
  have hx := hB.exec
  have hb := hB.bytes
  have hr := hB.returns
  have hts := atoms_spec (ws := wsX6_countLeaves) hB.pre
  have hown : s.vm.findClass RX6 = some m.cls := findClass_of_methodNamed hB.named
  have hlocks := hB.notSynchronized
  have hfix : CallFix p m c cX6_countLeaves 3 s args wsX6_countLeaves RX6 := ⟨hx, hb, hml, hown, hts⟩
  have hinX6 : ∀ w ∈ wsX60, w ∈ wsX6_countLeaves := by decide +kernel
  have lk1 := hts (.fieldLink RX6 95 "ShadeTree$Tree" "size" "I") (by decide +kernel)
  have lk2 := hts (.fieldLink RX6 9 "ShadeTree$Tree" "nodeParts" "[J") (by decide +kernel)
  have lk3 := hts (.fieldLink RX6 23 "ShadeTree$Tree" "shades" "LShadeTree$Shades;") (by decide +kernel)
  have lk4 := hts (.fieldLink RX6 15 "ShadeTree$Tree" "nodeLevels" "[I") (by decide +kernel)
  rw [show entryFrame m args 3 = entryFrame m ([.ref aT] : List Value).toArray 3 by rw [hargs], lg_entry_eq]
  have hl := lv_entry ([.ref aT]) (n := 3) (Nat.le_of_ble_eq_true rfl)
  generalize (lg_sl ([.ref aT]) ++ List.replicate (3 - (lg_sl ([.ref aT])).length) Slot.unset).toArray = ls at hl ⊢
  have hl : lv_has ls 3 [(0, .ref aT)] := hl
  subst hsz
  have hD := hD0.self (sz := s.heap.size)
  generalize hAe : va_A [(aT, .inr (6, [.ref aG, .ref aS, .ref aP, .ref aN, .int tz])), (aP, .inl (cJ, 36, .inr (.inl tP))), (aN, .inl (cI, 36, .inl tN)), (aS, .inr (2, [.ref aG, .ref aY])), (aY, .inl (cJ, 10, .inr (.inl sL))), (aG, .inr (1, [.int gw, .int gd, .int gh, .long ga, .long gl, .long gr]))] s.heap.size = Az at hD ⊢
  have hA : ∀ q : Nat, s.heap.size ≤ q → Az q := fun q h => by rw [← hAe]; exact Or.inr h
  have hS : va_S Az s.heap s.heap [] := va_S.rf
  generalize hQ : MQ below (sh_Qi D (sh_ty cI cJ cZ) Az [(aT, .inr (6, [.ref aG, .ref aS, .ref aP, .ref aN, .int otz])), (aP, .inl (cJ, 36, .inr (.inl otP))), (aN, .inl (cI, 36, .inl otN)), (aS, .inr (2, [.ref aG, .ref aY])), (aY, .inl (cJ, 10, .inr (.inl sL))), (aG, .inr (1, [.int gw, .int gd, .int gh, .long ga, .long gl, .long gr]))] o) args s 0 0 Az = Q
  unfold fX6_countLeaves at h
  refine lv_aload_n hx hb dX6_countLeaves_0 rfl (lv_at hl 0 rfl) ?_
  obtain ⟨u1, u2, u3, hc4, h⟩ := sh_b3_e h
  refine sh_wVv (wn := [(aT, .inr (6, [.ref aG, .ref aS, .ref aP, .ref aN, .int u3])), (aP, .inl (cJ, 36, .inr (.inl u1))), (aN, .inl (cI, 36, .inl u2)), (aS, .inr (2, [.ref aG, .ref aY])), (aY, .inl (cJ, 10, .inr (.inl sL))), (aG, .inr (1, [.int gw, .int gd, .int gh, .long ga, .long gl, .long gr]))]) (As := []) (rest := []) hfix (k_X6_gather l D cI cJ cZ _ aG aS aY aT aP aN gw gd gh ga gl gr sL tP tN tz u1 u2 u3 hc4) (cwV 0 hts gX6_countLeaves_X6_gather rfl rfl rfl hdV_X6_gather ⟨Nat.le_of_ble_eq_true rfl, Nat.le_of_ble_eq_true rfl⟩) hP hK hD hS hA [0, 1, 2, 3, 4, 5] [] [0, 1, 2, 3, 4, 5] rfl rfl rfl rfl rfl rfl rfl 0 rfl rfl rfl hl.1 rfl (Nat.le_of_ble_eq_true rfl) dX6_countLeaves_1 ⟨Nat.zero_le _, Nat.zero_le _⟩ (fun H locs hP hD hS => ?_)
  refine lv_iconst (v := 0) hx hb dX6_countLeaves_4 (by decide) ?_
  refine lv_istore_n (lv' := [(1, .int 0), (0, .ref aT)]) hx hb dX6_countLeaves_5 rfl hl (by decide) rfl (fun ls hl => ?_)
  refine lv_iconst (v := 0) hx hb dX6_countLeaves_6 (by decide) ?_
  refine lv_istore_n (lv' := [(2, .int 0), (1, .int 0), (0, .ref aT)]) hx hb dX6_countLeaves_7 rfl hl (by decide) rfl (fun ls hl => ?_)
  have LP12 : ∀ (n : Nat) (x1 : Int32) (x2 : Int32) (ow1 : Int32) (H : Heap) (locs : List Loc) (ls : Array Slot), fX6_countLeaves_L8 n x1 x2 sL u1 u2 u3 = some ow1 → lv_has ls 3 [(0, .ref aT), (1, .int x1), (2, .int x2)] → va_P D vwCl [(aT, .inr (6, [.ref aG, .ref aS, .ref aP, .ref aN, .int u3])), (aP, .inl (cJ, 36, .inr (.inl u1))), (aN, .inl (cI, 36, .inl u2)), (aS, .inr (2, [.ref aG, .ref aY])), (aY, .inl (cJ, 10, .inr (.inl sL))), (aG, .inr (1, [.int gw, .int gd, .int gh, .long ga, .long gl, .long gr]))] H → va_D Az [(aT, .inr (6, [.ref aG, .ref aS, .ref aP, .ref aN, .int u3])), (aP, .inl (cJ, 36, .inr (.inl u1))), (aN, .inl (cI, 36, .inl u2)), (aS, .inr (2, [.ref aG, .ref aY])), (aY, .inl (cJ, 10, .inr (.inl sL))), (aG, .inr (1, [.int gw, .int gd, .int gh, .long ga, .long gl, .long gr]))] → va_S Az s.heap H locs → (∀ (H : Heap) (locs : List Loc) (ls : Array Slot), lv_has ls 3 [(1, .int ow1)] → va_P D vwCl [(aT, .inr (6, [.ref aG, .ref aS, .ref aP, .ref aN, .int u3])), (aP, .inl (cJ, 36, .inr (.inl u1))), (aN, .inl (cI, 36, .inl u2)), (aS, .inr (2, [.ref aG, .ref aY])), (aY, .inl (cJ, 10, .inr (.inl sL))), (aG, .inr (1, [.int gw, .int gd, .int gh, .long ga, .long gl, .long gr]))] H → va_D Az [(aT, .inr (6, [.ref aG, .ref aS, .ref aP, .ref aN, .int u3])), (aP, .inl (cJ, 36, .inr (.inl u1))), (aN, .inl (cI, 36, .inl u2)), (aS, .inr (2, [.ref aG, .ref aY])), (aY, .inl (cJ, 10, .inr (.inl sL))), (aG, .inr (1, [.int gw, .int gd, .int gh, .long ga, .long gl, .long gr]))] → va_S Az s.heap H locs → W p l e (headSpec wsX6_countLeaves rmX6_countLeaves).room s m args below meth c H locs 0 0 Q (F0 m 58 ls [])) → W p l e (headSpec wsX6_countLeaves rmX6_countLeaves).room s m args below meth c H locs 0 0 Q (F0 m 8 ls []) := by
    intro n
    induction n with
    | zero =>
      intro x1 x2 ow1 H locs ls h hl hP hD hS hk
      exact nomatch ((fX6_countLeaves_L8_z x1 x2 sL u1 u2 u3).symm.trans h)
    | succ n ih =>
      intro x1 x2 ow1 H locs ls h hl hP hD hS hk
      rw [fX6_countLeaves_L8_s] at h
      refine lv_iload_n hx hb dX6_countLeaves_8 rfl (lv_at hl 2 rfl) ?_
      refine lv_aload_n hx hb dX6_countLeaves_9 rfl (lv_at hl 0 rfl) ?_
      refine va_get (ci := 6) (v := .int u3) (C := RX6) (T := TX6) (N := 5) hx hb hts hinX6 hown hK hP 0 rfl rfl 4 (by decide) lk1 (fun _ h9 => h9) rfl dX6_countLeaves_10 ?_
      refine lv_icmp_ge (tgt := 58) hx hb dX6_countLeaves_13 (by decide) (fun g5 => ?_) (fun g5 => ?_)
      · rw [if_pos g5] at h
        cases h
        exact hk _ _ ls (lv_sub hl [1] rfl) hP hD hS
      · rw [if_neg g5] at h
        refine lv_iload_n hx hb dX6_countLeaves_16 rfl (lv_at hl 2 rfl) ?_
        refine lv_bipush (v := 36) hx hb dX6_countLeaves_17 (by decide) ?_
        refine lv_icmp_ge (tgt := 58) hx hb dX6_countLeaves_19 (by decide) (fun g6 => ?_) (fun g6 => ?_)
        · rw [if_pos g6] at h
          cases h
          exact hk _ _ ls (lv_sub hl [1] rfl) hP hD hS
        · rw [if_neg g6] at h
          refine lv_aload_n hx hb dX6_countLeaves_22 rfl (lv_at hl 0 rfl) ?_
          refine va_get (ci := 6) (v := .ref aP) (C := RX6) (T := TX6) (N := 5) hx hb hts hinX6 hown hK hP 0 rfl rfl 2 (by decide) lk2 (fun _ h9 => h9) rfl dX6_countLeaves_23 ?_
          refine lv_iload_n hx hb dX6_countLeaves_26 rfl (lv_at hl 2 rfl) ?_
          obtain ⟨v7, hcv7, h⟩ := sh_b1_e h
          refine sh_lald hx hb hK hP 1 1 rfl rfl (sh_ald_e hcv7) dX6_countLeaves_27 ?_
          refine lv_aload_n hx hb dX6_countLeaves_28 rfl (lv_at hl 0 rfl) ?_
          refine va_get (ci := 6) (v := .ref aS) (C := RX6) (T := TX6) (N := 5) hx hb hts hinX6 hown hK hP 0 rfl rfl 1 (by decide) lk3 (fun _ h9 => h9) rfl dX6_countLeaves_29 ?_
          refine lv_aload_n hx hb dX6_countLeaves_32 rfl (lv_at hl 0 rfl) ?_
          refine va_get (ci := 6) (v := .ref aN) (C := RX6) (T := TX6) (N := 5) hx hb hts hinX6 hown hK hP 0 rfl rfl 3 (by decide) lk4 (fun _ h9 => h9) rfl dX6_countLeaves_33 ?_
          refine lv_iload_n hx hb dX6_countLeaves_36 rfl (lv_at hl 2 rfl) ?_
          obtain ⟨v8, hcv8, h⟩ := sh_b1_e h
          refine sh_iald hx hb hK hP 2 0 rfl rfl (sh_ald_e hcv8) dX6_countLeaves_37 ?_
          refine lv_iconst (v := 1) hx hb dX6_countLeaves_38 (by decide) ?_
          refine lv_iadd hx hb dX6_countLeaves_39 ?_
          obtain ⟨v9, hc10, h⟩ := sh_b1_e h
          refine sh_cVl (As := [.int (v8 + 1)]) (rest := [.long v7]) hfix (k_X2_atLeast l D cI cJ cZ aG aS aY gw gd gh ga gl gr sL (v8 + 1) v9 hc10) (cwV 1 hts gX6_countLeaves_X2_atLeast rfl rfl rfl hdV_X2_atLeast ⟨Nat.le_of_ble_eq_true rfl, Nat.le_of_ble_eq_true rfl⟩) hP hK [3, 4, 5] rfl 3 rfl rfl rfl hl.1 rfl (Nat.le_of_ble_eq_true rfl) dX6_countLeaves_40 ⟨Nat.zero_le _, Nat.zero_le _⟩ ?_
          refine lv_land hx hb dX6_countLeaves_43 ?_
          refine lv_lconst (v := 0) hx hb dX6_countLeaves_44 (by decide) ?_
          refine sh_lne (tgt := 52) hx hb dX6_countLeaves_45 dX6_countLeaves_46 (by decide) (fun g11 => ?_) (fun g11 => ?_)
          · rw [if_neg g11] at h
            refine lv_iinc (v := (x2 + 1)) (lv' := [(2, .int (x2 + 1)), (0, .ref aT), (1, .int x1)]) hx hb dX6_countLeaves_52 hl (k := 2) rfl rfl (by decide) rfl (fun ls hl => ?_)
            refine lv_goto (tgt := 8) hx hb dX6_countLeaves_55 (by decide) ?_
            exact ih x1 (x2 + 1) ow1 _ _ ls h (lv_sub hl [1, 2, 0] rfl) hP hD hS hk
          · rw [if_pos g11] at h
            refine lv_iinc (v := (x1 + 1)) (lv' := [(1, .int (x1 + 1)), (0, .ref aT), (2, .int x2)]) hx hb dX6_countLeaves_49 hl (k := 1) rfl rfl (by decide) rfl (fun ls hl => ?_)
            refine lv_iinc (v := (x2 + 1)) (lv' := [(2, .int (x2 + 1)), (1, .int (x1 + 1)), (0, .ref aT)]) hx hb dX6_countLeaves_52 hl (k := 2) rfl rfl (by decide) rfl (fun ls hl => ?_)
            refine lv_goto (tgt := 8) hx hb dX6_countLeaves_55 (by decide) ?_
            exact ih (x1 + 1) (x2 + 1) ow1 _ _ ls h (lv_sub hl [2, 1, 0] rfl) hP hD hS hk
  obtain ⟨w13, hc14, h⟩ := sh_b1_e h
  refine LP12 sh_fu 0 0 w13 _ _ ls hc14 (lv_sub hl [2, 1, 0] rfl) hP hD hS (fun H locs ls hl hP hD hS => ?_)
  refine lv_iload_n hx hb dX6_countLeaves_58 rfl (lv_at hl 0 rfl) ?_
  cases h
  exact sh_rwi hx hb hr hlocks hQ hK hP hD hS dX6_countLeaves_59
theorem hdV_X6_greatestDepth : yX6_greatestDepth.cls = RX6 ∧ yX6_greatestDepth.cls ≠ "java/lang/invoke/MethodHandle" ∧ yX6_greatestDepth.cls ≠ "java/lang/invoke/VarHandle" ∧ (parseMethodDescriptor yX6_greatestDepth.desc).map (fun d => d.parameters.length) = some 0 := by decide +kernel
abbrev rmX6_greatestDepth : Room := { frames := 4, cells := 0, slots := 0, locals := 109 }
set_option maxHeartbeats 4000000 in
set_option maxRecDepth 100000 in
theorem k_X6_greatestDepth (l : Launch) (D : va_G) (cI cJ cZ : ClassId) (sz : Nat) (aG : Nat) (aS : Nat) (aY : Nat) (aT : Nat) (aP : Nat) (aN : Nat) (gw : Int32) (gd : Int32) (gh : Int32) (ga : Int64) (gl : Int64) (gr : Int64) (sL : Nat → Int64) (tP : Nat → Int64) (tN : Nat → Int32) (tz : Int32) (o : Int32) (otP : Nat → Int64) (otN : Nat → Int32) (otz : Int32) (h : fX6_greatestDepth gw gd gl gr sL tP tN = some (o, otP, otN, otz)) : Met l yX6_greatestDepth wsX6_greatestDepth rmX6_greatestDepth (sh_Pw D (sh_ty cI cJ cZ) sz [(aT, .inr (6, [.ref aG, .ref aS, .ref aP, .ref aN, .int tz])), (aP, .inl (cJ, 36, .inr (.inl tP))), (aN, .inl (cI, 36, .inl tN)), (aS, .inr (2, [.ref aG, .ref aY])), (aY, .inl (cJ, 10, .inr (.inl sL))), (aG, .inr (1, [.int gw, .int gd, .int gh, .long ga, .long gl, .long gr]))] [.ref aT]) (sh_Qi D (sh_ty cI cJ cZ) (va_A [(aT, .inr (6, [.ref aG, .ref aS, .ref aP, .ref aN, .int tz])), (aP, .inl (cJ, 36, .inr (.inl tP))), (aN, .inl (cI, 36, .inl tN)), (aS, .inr (2, [.ref aG, .ref aY])), (aY, .inl (cJ, 10, .inr (.inl sL))), (aG, .inr (1, [.int gw, .int gd, .int gh, .long ga, .long gl, .long gr]))] sz) [(aT, .inr (6, [.ref aG, .ref aS, .ref aP, .ref aN, .int otz])), (aP, .inl (cJ, 36, .inr (.inl otP))), (aN, .inl (cI, 36, .inl otN)), (aS, .inr (2, [.ref aG, .ref aY])), (aY, .inl (cJ, 10, .inr (.inl sL))), (aG, .inr (1, [.int gw, .int gd, .int gh, .long ga, .long gl, .long gr]))] o) 0 0 (va_A [(aT, .inr (6, [.ref aG, .ref aS, .ref aP, .ref aN, .int tz])), (aP, .inl (cJ, 36, .inr (.inl tP))), (aN, .inl (cI, 36, .inl tN)), (aS, .inr (2, [.ref aG, .ref aY])), (aY, .inl (cJ, 10, .inr (.inl sL))), (aG, .inr (1, [.int gw, .int gd, .int gh, .long ga, .long gl, .long gr]))] sz) := by
  refine Met.ofW (cc := cX6_greatestDepth) (maxL := 3) (ret := (some .int)) (by decide) rfl ?_
  intro p e s m args below meth c s₁ hB hml hv
  obtain ⟨hargs, hsz, hP, hK, hD0⟩ := hv
  have hx := hB.exec
  have hb := hB.bytes
  have hr := hB.returns
  have hts := atoms_spec (ws := wsX6_greatestDepth) hB.pre
  have hown : s.vm.findClass RX6 = some m.cls := findClass_of_methodNamed hB.named
  have hlocks := hB.notSynchronized
  have hfix : CallFix p m c cX6_greatestDepth 3 s args wsX6_greatestDepth RX6 := ⟨hx, hb, hml, hown, hts⟩
  have hinX6 : ∀ w ∈ wsX60, w ∈ wsX6_greatestDepth := by decide +kernel
  have lk1 := hts (.fieldLink RX6 95 "ShadeTree$Tree" "size" "I") (by decide +kernel)
  have lk2 := hts (.fieldLink RX6 9 "ShadeTree$Tree" "nodeParts" "[J") (by decide +kernel)
  have lk3 := hts (.fieldLink RX6 15 "ShadeTree$Tree" "nodeLevels" "[I") (by decide +kernel)
  have lk4 := hts (.methodLink RX6 79 Lib.Math.max.name) (by decide +kernel)
  have lk5 := hts (.static Lib.Math.max.name) (by decide +kernel)
  have lk6 := hts (.initialized "java/lang/Math") (by decide +kernel)
  have lk7 := hts (.code Lib.Math.max.name Lib.Math.max.code 2 (some .int)) (by decide +kernel)
  rw [show entryFrame m args 3 = entryFrame m ([.ref aT] : List Value).toArray 3 by rw [hargs], lg_entry_eq]
  have hl := lv_entry ([.ref aT]) (n := 3) (Nat.le_of_ble_eq_true rfl)
  generalize (lg_sl ([.ref aT]) ++ List.replicate (3 - (lg_sl ([.ref aT])).length) Slot.unset).toArray = ls at hl ⊢
  have hl : lv_has ls 3 [(0, .ref aT)] := hl
  subst hsz
  have hD := hD0.self (sz := s.heap.size)
  generalize hAe : va_A [(aT, .inr (6, [.ref aG, .ref aS, .ref aP, .ref aN, .int tz])), (aP, .inl (cJ, 36, .inr (.inl tP))), (aN, .inl (cI, 36, .inl tN)), (aS, .inr (2, [.ref aG, .ref aY])), (aY, .inl (cJ, 10, .inr (.inl sL))), (aG, .inr (1, [.int gw, .int gd, .int gh, .long ga, .long gl, .long gr]))] s.heap.size = Az at hD ⊢
  have hA : ∀ q : Nat, s.heap.size ≤ q → Az q := fun q h => by rw [← hAe]; exact Or.inr h
  have hS : va_S Az s.heap s.heap [] := va_S.rf
  generalize hQ : MQ below (sh_Qi D (sh_ty cI cJ cZ) Az [(aT, .inr (6, [.ref aG, .ref aS, .ref aP, .ref aN, .int otz])), (aP, .inl (cJ, 36, .inr (.inl otP))), (aN, .inl (cI, 36, .inl otN)), (aS, .inr (2, [.ref aG, .ref aY])), (aY, .inl (cJ, 10, .inr (.inl sL))), (aG, .inr (1, [.int gw, .int gd, .int gh, .long ga, .long gl, .long gr]))] o) args s 0 0 Az = Q
  unfold fX6_greatestDepth at h
  refine lv_aload_n hx hb dX6_greatestDepth_0 rfl (lv_at hl 0 rfl) ?_
  obtain ⟨u1, u2, u3, hc4, h⟩ := sh_b3_e h
  refine sh_wVv (wn := [(aT, .inr (6, [.ref aG, .ref aS, .ref aP, .ref aN, .int u3])), (aP, .inl (cJ, 36, .inr (.inl u1))), (aN, .inl (cI, 36, .inl u2)), (aS, .inr (2, [.ref aG, .ref aY])), (aY, .inl (cJ, 10, .inr (.inl sL))), (aG, .inr (1, [.int gw, .int gd, .int gh, .long ga, .long gl, .long gr]))]) (As := []) (rest := []) hfix (k_X6_gather l D cI cJ cZ _ aG aS aY aT aP aN gw gd gh ga gl gr sL tP tN tz u1 u2 u3 hc4) (cwV 0 hts gX6_greatestDepth_X6_gather rfl rfl rfl hdV_X6_gather ⟨Nat.le_of_ble_eq_true rfl, Nat.le_of_ble_eq_true rfl⟩) hP hK hD hS hA [0, 1, 2, 3, 4, 5] [] [0, 1, 2, 3, 4, 5] rfl rfl rfl rfl rfl rfl rfl 0 rfl rfl rfl hl.1 rfl (Nat.le_of_ble_eq_true rfl) dX6_greatestDepth_1 ⟨Nat.zero_le _, Nat.zero_le _⟩ (fun H locs hP hD hS => ?_)
  refine lv_iconst (v := 0) hx hb dX6_greatestDepth_4 (by decide) ?_
  refine lv_istore_n (lv' := [(1, .int 0), (0, .ref aT)]) hx hb dX6_greatestDepth_5 rfl hl (by decide) rfl (fun ls hl => ?_)
  refine lv_iconst (v := 0) hx hb dX6_greatestDepth_6 (by decide) ?_
  refine lv_istore_n (lv' := [(2, .int 0), (1, .int 0), (0, .ref aT)]) hx hb dX6_greatestDepth_7 rfl hl (by decide) rfl (fun ls hl => ?_)
  have LP11 : ∀ (n : Nat) (x1 : Int32) (x2 : Int32) (ow1 : Int32) (H : Heap) (locs : List Loc) (ls : Array Slot), fX6_greatestDepth_L8 n x1 x2 gw gd gl gr sL u1 u2 u3 = some ow1 → lv_has ls 3 [(0, .ref aT), (1, .int x1), (2, .int x2)] → va_P D vwCl [(aT, .inr (6, [.ref aG, .ref aS, .ref aP, .ref aN, .int u3])), (aP, .inl (cJ, 36, .inr (.inl u1))), (aN, .inl (cI, 36, .inl u2)), (aS, .inr (2, [.ref aG, .ref aY])), (aY, .inl (cJ, 10, .inr (.inl sL))), (aG, .inr (1, [.int gw, .int gd, .int gh, .long ga, .long gl, .long gr]))] H → va_D Az [(aT, .inr (6, [.ref aG, .ref aS, .ref aP, .ref aN, .int u3])), (aP, .inl (cJ, 36, .inr (.inl u1))), (aN, .inl (cI, 36, .inl u2)), (aS, .inr (2, [.ref aG, .ref aY])), (aY, .inl (cJ, 10, .inr (.inl sL))), (aG, .inr (1, [.int gw, .int gd, .int gh, .long ga, .long gl, .long gr]))] → va_S Az s.heap H locs → (∀ (H : Heap) (locs : List Loc) (ls : Array Slot), lv_has ls 3 [(1, .int ow1)] → va_P D vwCl [(aT, .inr (6, [.ref aG, .ref aS, .ref aP, .ref aN, .int u3])), (aP, .inl (cJ, 36, .inr (.inl u1))), (aN, .inl (cI, 36, .inl u2)), (aS, .inr (2, [.ref aG, .ref aY])), (aY, .inl (cJ, 10, .inr (.inl sL))), (aG, .inr (1, [.int gw, .int gd, .int gh, .long ga, .long gl, .long gr]))] H → va_D Az [(aT, .inr (6, [.ref aG, .ref aS, .ref aP, .ref aN, .int u3])), (aP, .inl (cJ, 36, .inr (.inl u1))), (aN, .inl (cI, 36, .inl u2)), (aS, .inr (2, [.ref aG, .ref aY])), (aY, .inl (cJ, 10, .inr (.inl sL))), (aG, .inr (1, [.int gw, .int gd, .int gh, .long ga, .long gl, .long gr]))] → va_S Az s.heap H locs → W p l e (headSpec wsX6_greatestDepth rmX6_greatestDepth).room s m args below meth c H locs 0 0 Q (F0 m 49 ls [])) → W p l e (headSpec wsX6_greatestDepth rmX6_greatestDepth).room s m args below meth c H locs 0 0 Q (F0 m 8 ls []) := by
    intro n
    induction n with
    | zero =>
      intro x1 x2 ow1 H locs ls h hl hP hD hS hk
      exact nomatch ((fX6_greatestDepth_L8_z x1 x2 gw gd gl gr sL u1 u2 u3).symm.trans h)
    | succ n ih =>
      intro x1 x2 ow1 H locs ls h hl hP hD hS hk
      rw [fX6_greatestDepth_L8_s] at h
      refine lv_iload_n hx hb dX6_greatestDepth_8 rfl (lv_at hl 2 rfl) ?_
      refine lv_aload_n hx hb dX6_greatestDepth_9 rfl (lv_at hl 0 rfl) ?_
      refine va_get (ci := 6) (v := .int u3) (C := RX6) (T := TX6) (N := 5) hx hb hts hinX6 hown hK hP 0 rfl rfl 4 (by decide) lk1 (fun _ h9 => h9) rfl dX6_greatestDepth_10 ?_
      refine lv_icmp_ge (tgt := 49) hx hb dX6_greatestDepth_13 (by decide) (fun g5 => ?_) (fun g5 => ?_)
      · rw [if_pos g5] at h
        cases h
        exact hk _ _ ls (lv_sub hl [1] rfl) hP hD hS
      · rw [if_neg g5] at h
        refine lv_iload_n hx hb dX6_greatestDepth_16 rfl (lv_at hl 2 rfl) ?_
        refine lv_bipush (v := 36) hx hb dX6_greatestDepth_17 (by decide) ?_
        refine lv_icmp_ge (tgt := 49) hx hb dX6_greatestDepth_19 (by decide) (fun g6 => ?_) (fun g6 => ?_)
        · rw [if_pos g6] at h
          cases h
          exact hk _ _ ls (lv_sub hl [1] rfl) hP hD hS
        · rw [if_neg g6] at h
          refine lv_iload_n hx hb dX6_greatestDepth_22 rfl (lv_at hl 1 rfl) ?_
          refine lv_aload_n hx hb dX6_greatestDepth_23 rfl (lv_at hl 0 rfl) ?_
          refine lv_aload_n hx hb dX6_greatestDepth_24 rfl (lv_at hl 0 rfl) ?_
          refine va_get (ci := 6) (v := .ref aP) (C := RX6) (T := TX6) (N := 5) hx hb hts hinX6 hown hK hP 0 rfl rfl 2 (by decide) lk2 (fun _ h9 => h9) rfl dX6_greatestDepth_25 ?_
          refine lv_iload_n hx hb dX6_greatestDepth_28 rfl (lv_at hl 2 rfl) ?_
          obtain ⟨v7, hcv7, h⟩ := sh_b1_e h
          refine sh_lald hx hb hK hP 1 1 rfl rfl (sh_ald_e hcv7) dX6_greatestDepth_29 ?_
          refine lv_aload_n hx hb dX6_greatestDepth_30 rfl (lv_at hl 0 rfl) ?_
          refine va_get (ci := 6) (v := .ref aN) (C := RX6) (T := TX6) (N := 5) hx hb hts hinX6 hown hK hP 0 rfl rfl 3 (by decide) lk3 (fun _ h9 => h9) rfl dX6_greatestDepth_31 ?_
          refine lv_iload_n hx hb dX6_greatestDepth_34 rfl (lv_at hl 2 rfl) ?_
          obtain ⟨v8, hcv8, h⟩ := sh_b1_e h
          refine sh_iald hx hb hK hP 2 0 rfl rfl (sh_ald_e hcv8) dX6_greatestDepth_35 ?_
          obtain ⟨v9, hc10, h⟩ := sh_b1_e h
          refine sh_cVi (As := [.long v7, .int v8]) (rest := [.int x1]) hfix (k_X6_depth l D cI cJ cZ aG aS aY aT aP aN gw gd gh ga gl gr sL u1 u2 u3 v7 v8 v9 hc10) (cwV 2 hts gX6_greatestDepth_X6_depth rfl rfl rfl hdV_X6_depth ⟨Nat.le_of_ble_eq_true rfl, Nat.le_of_ble_eq_true rfl⟩) hP hK [0, 1, 2, 3, 4, 5] rfl 0 rfl rfl rfl hl.1 rfl (Nat.le_of_ble_eq_true rfl) dX6_greatestDepth_36 ⟨Nat.zero_le _, Nat.zero_le _⟩ ?_
          refine va_mmax hx hb (hml.trans hl.1.symm) hown lk4 lk5 lk6 lk7 (Nat.le_of_ble_eq_true rfl) (Nat.le_of_ble_eq_true rfl) (Nat.zero_le _) (Nat.zero_le _) dX6_greatestDepth_39 ?_
          refine W.eq (g2 := F0 m 42 ls [.int (sh_max x1 v9)]) rfl ?_
          refine lv_istore_n (lv' := [(1, .int (sh_max x1 v9)), (0, .ref aT), (2, .int x2)]) hx hb dX6_greatestDepth_42 rfl hl (by decide) rfl (fun ls hl => ?_)
          refine lv_iinc (v := (x2 + 1)) (lv' := [(2, .int (x2 + 1)), (1, .int (sh_max x1 v9)), (0, .ref aT)]) hx hb dX6_greatestDepth_43 hl (k := 2) rfl rfl (by decide) rfl (fun ls hl => ?_)
          refine lv_goto (tgt := 8) hx hb dX6_greatestDepth_46 (by decide) ?_
          exact ih (sh_max x1 v9) (x2 + 1) ow1 _ _ ls h (lv_sub hl [2, 1, 0] rfl) hP hD hS hk
  obtain ⟨w12, hc13, h⟩ := sh_b1_e h
  refine LP11 sh_fu 0 0 w12 _ _ ls hc13 (lv_sub hl [2, 1, 0] rfl) hP hD hS (fun H locs ls hl hP hD hS => ?_)
  refine lv_iload_n hx hb dX6_greatestDepth_49 rfl (lv_at hl 0 rfl) ?_
  cases h
  exact sh_rwi hx hb hr hlocks hQ hK hP hD hS dX6_greatestDepth_50
theorem hdV_X7_write : yX7_write.cls = RX7 ∧ yX7_write.cls ≠ "java/lang/invoke/MethodHandle" ∧ yX7_write.cls ≠ "java/lang/invoke/VarHandle" ∧ (parseMethodDescriptor yX7_write.desc).map (fun d => d.parameters.length) = some 1 := by decide +kernel
abbrev rmX7_write : Room := { frames := 1, cells := 0, slots := 0, locals := 21 }
set_option maxHeartbeats 4000000 in
set_option maxRecDepth 100000 in
theorem k_X7_write (l : Launch) (D : va_G) (cI cJ cZ : ClassId) (sz : Nat) (q : Nat → Nat) (I : Nat → Int32) (J : Nat → Int64) (A : Nat → Nat → Int32) (B : Nat → Nat → Int64) (x1 : Int32) (o : Int32) (oI : Nat → Int32) (oA : Nat → Nat → Int32) (h : fX7_write I A x1 = some (o, oI, oA)) : Met l yX7_write wsX7_write rmX7_write (sh_Pw D (sh_ty cI cJ cZ) sz (sh_w7 q cI cJ cZ I J A B) [.ref (q 0), .int x1]) (sh_Qi D (sh_ty cI cJ cZ) (va_A (sh_w7 q cI cJ cZ I J A B) sz) (sh_w7 q cI cJ cZ oI J oA B) o) 0 0 (va_A (sh_w7 q cI cJ cZ I J A B) sz) := by
  refine Met.ofW (cc := cX7_write) (maxL := 2) (ret := (some .int)) (by decide) rfl ?_
  intro p e s m args below meth c s₁ hB hml hv
  obtain ⟨hargs, hsz, hP, hK, hD0⟩ := hv
  have hx := hB.exec
  have hb := hB.bytes
  have hr := hB.returns
  have hts := atoms_spec (ws := wsX7_write) hB.pre
  have hown : s.vm.findClass RX7 = some m.cls := findClass_of_methodNamed hB.named
  have hlocks := hB.notSynchronized
  have hfix : CallFix p m c cX7_write 2 s args wsX7_write RX7 := ⟨hx, hb, hml, hown, hts⟩
  have hinX7 : ∀ w ∈ wsX70, w ∈ wsX7_write := by decide +kernel
  have lk1 := hts (.fieldLink RX7 10 "ShadeTree" "text" "LShadeTree$Text;") (by decide +kernel)
  rw [show entryFrame m args 2 = entryFrame m ([.ref (q 0), .int x1] : List Value).toArray 2 by rw [hargs], lg_entry_eq]
  have hl := lv_entry ([.ref (q 0), .int x1]) (n := 2) (Nat.le_of_ble_eq_true rfl)
  generalize (lg_sl ([.ref (q 0), .int x1]) ++ List.replicate (2 - (lg_sl ([.ref (q 0), .int x1])).length) Slot.unset).toArray = ls at hl ⊢
  have hl : lv_has ls 2 [(0, .ref (q 0)), (1, .int x1)] := hl
  subst hsz
  have hD := hD0.self (sz := s.heap.size)
  generalize hAe : va_A (sh_w7 q cI cJ cZ I J A B) s.heap.size = Az at hD ⊢
  have hA : ∀ q : Nat, s.heap.size ≤ q → Az q := fun q h => by rw [← hAe]; exact Or.inr h
  have hS : va_S Az s.heap s.heap [] := va_S.rf
  generalize hQ : MQ below (sh_Qi D (sh_ty cI cJ cZ) Az (sh_w7 q cI cJ cZ oI J oA B) o) args s 0 0 Az = Q
  unfold fX7_write at h
  refine lv_iload_n hx hb dX7_write_0 rfl (lv_at hl 1 rfl) ?_
  refine lv_if_lt (tgt := 11) hx hb dX7_write_1 (by decide) (fun g1 => ?_) (fun g1 => ?_)
  · rw [if_pos g1] at h
    refine lv_bipush (v := -2) hx hb dX7_write_11 (by decide) ?_
    cases h
    exact sh_rwi hx hb hr hlocks hQ hK hP hD hS dX7_write_13
  · rw [if_neg g1] at h
    refine lv_iload_n hx hb dX7_write_4 rfl (lv_at hl 1 rfl) ?_
    refine lv_sipush (v := 255) hx hb dX7_write_5 (by decide) ?_
    refine lv_icmp_le (tgt := 14) hx hb dX7_write_8 (by decide) (fun g2 => ?_) (fun g2 => ?_)
    · rw [if_pos g2] at h
      refine lv_aload_n hx hb dX7_write_14 rfl (lv_at hl 0 rfl) ?_
      refine va_get (ci := 7) (v := .ref (q 1)) (C := RX7) (T := TX7) (N := 10) hx hb hts hinX7 hown hK hP 0 rfl rfl 0 (by decide) lk1 (fun _ h9 => h9) rfl dX7_write_15 ?_
      refine lv_iload_n hx hb dX7_write_18 rfl (lv_at hl 1 rfl) ?_
      obtain ⟨v3, u4, u5, hc6, h⟩ := sh_b3_e h
      refine sh_wVi (wn := (sh_w7 q cI cJ cZ (upd I 0 u5) J (va_up A 0 u4) B)) (As := [.int x1]) (rest := []) hfix (k_X5_add l D cI cJ cZ _ (q 1) (q 2) (A 0) (I 0) x1 v3 u4 u5 hc6) (cwV 1 hts gX7_write_X5_add rfl rfl rfl hdV_X5_add ⟨Nat.le_of_ble_eq_true rfl, Nat.le_of_ble_eq_true rfl⟩) hP hK hD hS hA [1, 2] [0, 3, 4, 5, 6, 7, 8, 9, 10, 11, 12, 13, 14, 15, 16, 17, 18, 19, 20, 21, 22] [0, 21, 22, 1, 2, 3, 4, 5, 6, 7, 8, 9, 10, 11, 12, 13, 14, 15, 16, 17, 18, 19, 20] rfl rfl rfl rfl rfl rfl rfl 1 rfl rfl rfl hl.1 rfl (Nat.le_of_ble_eq_true rfl) dX7_write_19 ⟨Nat.zero_le _, Nat.zero_le _⟩ (fun H locs hP hD hS => ?_)
      refine lv_if_eq (tgt := 35) hx hb dX7_write_22 (by decide) (fun g7 => ?_) (fun g7 => ?_)
      · rw [if_pos g7] at h
        refine lv_bipush (v := -4) hx hb dX7_write_35 (by decide) ?_
        cases h
        exact sh_rwi hx hb hr hlocks hQ hK hP hD hS dX7_write_37
      · rw [if_neg g7] at h
        refine lv_aload_n hx hb dX7_write_25 rfl (lv_at hl 0 rfl) ?_
        refine va_get (ci := 7) (v := .ref (q 1)) (C := RX7) (T := TX7) (N := 10) hx hb hts hinX7 hown hK hP 0 rfl rfl 0 (by decide) lk1 (fun _ h9 => h9) rfl dX7_write_26 ?_
        obtain ⟨v8, hc9, h⟩ := sh_b1_e h
        refine sh_cVi (As := []) (rest := []) hfix (k_X5_size l D cI cJ cZ (q 1) (q 2) u4 u5 v8 hc9) (cwV 0 hts gX7_write_X5_size rfl rfl rfl hdV_X5_size ⟨Nat.le_of_ble_eq_true rfl, Nat.le_of_ble_eq_true rfl⟩) hP hK [1, 2] rfl 1 rfl rfl rfl hl.1 rfl (Nat.le_of_ble_eq_true rfl) dX7_write_29 ⟨Nat.zero_le _, Nat.zero_le _⟩ ?_
        refine lv_goto (tgt := 37) hx hb dX7_write_32 (by decide) ?_
        cases h
        exact sh_rwi hx hb hr hlocks hQ hK hP hD hS dX7_write_37
    · rw [if_neg g2] at h
      refine lv_bipush (v := -2) hx hb dX7_write_11 (by decide) ?_
      cases h
      exact sh_rwi hx hb hr hlocks hQ hK hP hD hS dX7_write_13
theorem hdV_X7_wipe : yX7_wipe.cls = RX7 ∧ yX7_wipe.cls ≠ "java/lang/invoke/MethodHandle" ∧ yX7_wipe.cls ≠ "java/lang/invoke/VarHandle" ∧ (parseMethodDescriptor yX7_wipe.desc).map (fun d => d.parameters.length) = some 0 := by decide +kernel
abbrev rmX7_wipe : Room := { frames := 1, cells := 0, slots := 0, locals := 20 }
set_option maxHeartbeats 4000000 in
set_option maxRecDepth 100000 in
theorem k_X7_wipe (l : Launch) (D : va_G) (cI cJ cZ : ClassId) (sz : Nat) (q : Nat → Nat) (I : Nat → Int32) (J : Nat → Int64) (A : Nat → Nat → Int32) (B : Nat → Nat → Int64) (o : Int32) (oI : Nat → Int32) (h : fX7_wipe I = some (o, oI)) : Met l yX7_wipe wsX7_wipe rmX7_wipe (sh_Pw D (sh_ty cI cJ cZ) sz (sh_w7 q cI cJ cZ I J A B) [.ref (q 0)]) (sh_Qi D (sh_ty cI cJ cZ) (va_A (sh_w7 q cI cJ cZ I J A B) sz) (sh_w7 q cI cJ cZ oI J A B) o) 0 0 (va_A (sh_w7 q cI cJ cZ I J A B) sz) := by
  refine Met.ofW (cc := cX7_wipe) (maxL := 2) (ret := (some .int)) (by decide) rfl ?_
  intro p e s m args below meth c s₁ hB hml hv
  obtain ⟨hargs, hsz, hP, hK, hD0⟩ := hv
  have hx := hB.exec
  have hb := hB.bytes
  have hr := hB.returns
  have hts := atoms_spec (ws := wsX7_wipe) hB.pre
  have hown : s.vm.findClass RX7 = some m.cls := findClass_of_methodNamed hB.named
  have hlocks := hB.notSynchronized
  have hfix : CallFix p m c cX7_wipe 2 s args wsX7_wipe RX7 := ⟨hx, hb, hml, hown, hts⟩
  have hinX7 : ∀ w ∈ wsX70, w ∈ wsX7_wipe := by decide +kernel
  have lk1 := hts (.fieldLink RX7 10 "ShadeTree" "text" "LShadeTree$Text;") (by decide +kernel)
  rw [show entryFrame m args 2 = entryFrame m ([.ref (q 0)] : List Value).toArray 2 by rw [hargs], lg_entry_eq]
  have hl := lv_entry ([.ref (q 0)]) (n := 2) (Nat.le_of_ble_eq_true rfl)
  generalize (lg_sl ([.ref (q 0)]) ++ List.replicate (2 - (lg_sl ([.ref (q 0)])).length) Slot.unset).toArray = ls at hl ⊢
  have hl : lv_has ls 2 [(0, .ref (q 0))] := hl
  subst hsz
  have hD := hD0.self (sz := s.heap.size)
  generalize hAe : va_A (sh_w7 q cI cJ cZ I J A B) s.heap.size = Az at hD ⊢
  have hA : ∀ q : Nat, s.heap.size ≤ q → Az q := fun q h => by rw [← hAe]; exact Or.inr h
  have hS : va_S Az s.heap s.heap [] := va_S.rf
  generalize hQ : MQ below (sh_Qi D (sh_ty cI cJ cZ) Az (sh_w7 q cI cJ cZ oI J A B) o) args s 0 0 Az = Q
  unfold fX7_wipe at h
  refine lv_aload_n hx hb dX7_wipe_0 rfl (lv_at hl 0 rfl) ?_
  refine va_get (ci := 7) (v := .ref (q 1)) (C := RX7) (T := TX7) (N := 10) hx hb hts hinX7 hown hK hP 0 rfl rfl 0 (by decide) lk1 (fun _ h9 => h9) rfl dX7_wipe_1 ?_
  obtain ⟨v1, hc2, h⟩ := sh_b1_e h
  refine sh_cVi (As := []) (rest := []) hfix (k_X5_size l D cI cJ cZ (q 1) (q 2) (A 0) (I 0) v1 hc2) (cwV 0 hts gX7_wipe_X5_size rfl rfl rfl hdV_X5_size ⟨Nat.le_of_ble_eq_true rfl, Nat.le_of_ble_eq_true rfl⟩) hP hK [1, 2] rfl 1 rfl rfl rfl hl.1 rfl (Nat.le_of_ble_eq_true rfl) dX7_wipe_4 ⟨Nat.zero_le _, Nat.zero_le _⟩ ?_
  refine lv_istore_n (lv' := [(1, .int v1), (0, .ref (q 0))]) hx hb dX7_wipe_7 rfl hl (by decide) rfl (fun ls hl => ?_)
  refine lv_aload_n hx hb dX7_wipe_8 rfl (lv_at hl 1 rfl) ?_
  refine va_get (ci := 7) (v := .ref (q 1)) (C := RX7) (T := TX7) (N := 10) hx hb hts hinX7 hown hK hP 0 rfl rfl 0 (by decide) lk1 (fun _ h9 => h9) rfl dX7_wipe_9 ?_
  obtain ⟨u3, hc4, h⟩ := sh_b1_e h
  refine sh_wVv (wn := (sh_w7 q cI cJ cZ (upd I 0 u3) J A B)) (As := []) (rest := []) hfix (k_X5_clear l D cI cJ cZ _ (q 1) (q 2) (A 0) (I 0) u3 hc4) (cwV 0 hts gX7_wipe_X5_clear rfl rfl rfl hdV_X5_clear ⟨Nat.le_of_ble_eq_true rfl, Nat.le_of_ble_eq_true rfl⟩) hP hK hD hS hA [1, 2] [0, 3, 4, 5, 6, 7, 8, 9, 10, 11, 12, 13, 14, 15, 16, 17, 18, 19, 20, 21, 22] [0, 21, 22, 1, 2, 3, 4, 5, 6, 7, 8, 9, 10, 11, 12, 13, 14, 15, 16, 17, 18, 19, 20] rfl rfl rfl rfl rfl rfl rfl 1 rfl rfl rfl hl.1 rfl (Nat.le_of_ble_eq_true rfl) dX7_wipe_12 ⟨Nat.zero_le _, Nat.zero_le _⟩ (fun H locs hP hD hS => ?_)
  refine lv_iload_n hx hb dX7_wipe_15 rfl (lv_at hl 0 rfl) ?_
  cases h
  exact sh_rwi hx hb hr hlocks hQ hK hP hD hS dX7_wipe_16
theorem hdV_X7_fault : yX7_fault.cls = RX7 ∧ yX7_fault.cls ≠ "java/lang/invoke/MethodHandle" ∧ yX7_fault.cls ≠ "java/lang/invoke/VarHandle" ∧ (parseMethodDescriptor yX7_fault.desc).map (fun d => d.parameters.length) = some 0 := by decide +kernel
abbrev rmX7_fault : Room := { frames := 4, cells := 0, slots := 0, locals := 84 }
set_option maxHeartbeats 4000000 in
set_option maxRecDepth 100000 in
theorem k_X7_fault (l : Launch) (D : va_G) (cI cJ cZ : ClassId) (q : Nat → Nat) (I : Nat → Int32) (J : Nat → Int64) (A : Nat → Nat → Int32) (B : Nat → Nat → Int64) (o : Int32) (h : fX7_fault I A = some o) : Met l yX7_fault wsX7_fault rmX7_fault (sh_Pn (.methodLinkNest RX5 31 yX7_isShade RX7) (sh_Pr D (sh_ty cI cJ cZ) (sh_w7 q cI cJ cZ I J A B) [.ref (q 0)])) (vp_Si (fun z => z = o)) 0 0 (fun _ => False) := by
  refine Met.ofW (cc := cX7_fault) (maxL := 1) (ret := (some .int)) (by decide) rfl ?_
  intro p e s m args below meth c s₁ hB hml hv
  obtain ⟨hv, hnw⟩ := hv
  obtain ⟨hargs, hP, hK⟩ := hv
  have hx := hB.exec
  have hb := hB.bytes
  have hr := hB.returns
  have hts := atoms_spec (ws := wsX7_fault) hB.pre
  have hown : s.vm.findClass RX7 = some m.cls := findClass_of_methodNamed hB.named
  have hlocks := hB.notSynchronized
  have hfix : CallFix p m c cX7_fault 1 s args wsX7_fault RX7 := ⟨hx, hb, hml, hown, hts⟩
  have hinX7 : ∀ w ∈ wsX70, w ∈ wsX7_fault := by decide +kernel
  have lk1 := hts (.fieldLink RX7 10 "ShadeTree" "text" "LShadeTree$Text;") (by decide +kernel)
  rw [show entryFrame m args 1 = entryFrame m ([.ref (q 0)] : List Value).toArray 1 by rw [hargs], lg_entry_eq]
  have hl := lv_entry ([.ref (q 0)]) (n := 1) (Nat.le_of_ble_eq_true rfl)
  generalize (lg_sl ([.ref (q 0)]) ++ List.replicate (1 - (lg_sl ([.ref (q 0)])).length) Slot.unset).toArray = ls at hl ⊢
  have hl : lv_has ls 1 [(0, .ref (q 0))] := hl
  generalize hQ : MQ below (vp_Si (fun z => z = o)) args s 0 0 (fun _ => False) = Q
  unfold fX7_fault at h
  refine lv_aload_n hx hb dX7_fault_0 rfl (lv_at hl 0 rfl) ?_
  refine va_get (ci := 7) (v := .ref (q 1)) (C := RX7) (T := TX7) (N := 10) hx hb hts hinX7 hown hK hP 0 rfl rfl 0 (by decide) lk1 (fun _ h9 => h9) rfl dX7_fault_1 ?_
  obtain ⟨v1, hc2, h⟩ := sh_b1_e h
  refine sh_cVin (As := []) (rest := []) hfix (k_X5_firstFault l D cI cJ cZ (q 1) (q 2) (A 0) (I 0) v1 hc2) (cwV 0 hts gX7_fault_X5_firstFault rfl rfl rfl hdV_X5_firstFault ⟨Nat.le_of_ble_eq_true rfl, Nat.le_of_ble_eq_true rfl⟩) hnw hP hK [1, 2] rfl 1 rfl rfl rfl hl.1 rfl (Nat.le_of_ble_eq_true rfl) dX7_fault_4 ⟨Nat.zero_le _, Nat.zero_le _⟩ ?_
  exact sh_roi hx hb hr hlocks hQ (Option.some.inj h) dX7_fault_7
