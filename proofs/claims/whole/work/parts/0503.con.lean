theorem hdV_X5_fits : yX5_fits.cls = RX5 ∧ yX5_fits.cls ≠ "java/lang/invoke/MethodHandle" ∧ yX5_fits.cls ≠ "java/lang/invoke/VarHandle" ∧ (parseMethodDescriptor yX5_fits.desc).map (fun d => d.parameters.length) = some 1 := by decide +kernel
abbrev rmX5_fits : Room := { frames := 2, cells := 0, slots := 0, locals := 41 }
set_option maxHeartbeats 4000000 in
set_option maxRecDepth 100000 in
theorem k_X5_fits (l : Launch) (D : va_G) (cI cJ cZ : ClassId) (aX : Nat) (aE : Nat) (xL : Nat → Int32) (xz : Int32) (x1 : Int32) (o : Int32) (h : fX5_fits xL x1 = some o) : Met l yX5_fits wsX5_fits rmX5_fits (sh_Pn (.methodLinkNest RX5 31 yX7_isShade RX7) (sh_Pr D (sh_ty cI cJ cZ) [(aX, .inr (5, [.ref aE, .int xz])), (aE, .inl (cI, 40, .inl xL))] [.ref aX, .int x1])) (vp_Si (fun z => z = o)) 0 0 (fun _ => False) := by
  refine Met.ofW (cc := cX5_fits) (maxL := 3) (ret := (some .boolean)) (by decide) rfl ?_
  intro p e s m args below meth c s₁ hB hml hv
  obtain ⟨hv, hnw⟩ := hv
  obtain ⟨hargs, hP, hK⟩ := hv
  have hx := hB.exec
  have hb := hB.bytes
  have hr := hB.returns
  have hts := atoms_spec (ws := wsX5_fits) hB.pre
  have hown : s.vm.findClass RX5 = some m.cls := findClass_of_methodNamed hB.named
  have hlocks := hB.notSynchronized
  have hfix : CallFix p m c cX5_fits 3 s args wsX5_fits RX5 := ⟨hx, hb, hml, hown, hts⟩
  have lk1 := hts (.initialized RX7) (by decide +kernel)
  have lk2 := hts (.static yX7_isShade) (by decide +kernel)
  rw [show entryFrame m args 3 = entryFrame m ([.ref aX, .int x1] : List Value).toArray 3 by rw [hargs], lg_entry_eq]
  have hl := lv_entry ([.ref aX, .int x1]) (n := 3) (Nat.le_of_ble_eq_true rfl)
  generalize (lg_sl ([.ref aX, .int x1]) ++ List.replicate (3 - (lg_sl ([.ref aX, .int x1])).length) Slot.unset).toArray = ls at hl ⊢
  have hl : lv_has ls 3 [(0, .ref aX), (1, .int x1)] := hl
  generalize hQ : MQ below (vp_Si (fun z => z = o)) args s 0 0 (fun _ => False) = Q
  unfold fX5_fits at h
  refine lv_aload_n hx hb dX5_fits_0 rfl (lv_at hl 0 rfl) ?_
  refine lv_iload_n hx hb dX5_fits_1 rfl (lv_at hl 1 rfl) ?_
  obtain ⟨v1, hc2, h⟩ := sh_b1_e h
  refine sh_cVi (As := [.int x1]) (rest := []) hfix (k_X5_figure l D cI cJ cZ aX aE xL xz x1 v1 hc2) (cwV 1 hts gX5_fits_X5_figure rfl rfl rfl hdV_X5_figure ⟨Nat.le_of_ble_eq_true rfl, Nat.le_of_ble_eq_true rfl⟩) hP hK [0, 1] rfl 0 rfl rfl rfl hl.1 rfl (Nat.le_of_ble_eq_true rfl) dX5_fits_2 ⟨Nat.zero_le _, Nat.zero_le _⟩ ?_
  refine lv_istore_n (lv' := [(2, .int v1), (0, .ref aX), (1, .int x1)]) hx hb dX5_fits_5 rfl hl (by decide) rfl (fun ls hl => ?_)
  refine lv_iload_n hx hb dX5_fits_6 rfl (lv_at hl 2 rfl) ?_
  by_cases g3 : x1 = 0
  · rw [if_pos g3] at h
    refine lv_tableIn (off := 29) (tgt := 36) hx hb dX5_fits_7 (by rw [g3]; decide) (by rw [g3]; decide) (by rw [g3]; rfl) (by decide) ?_
    refine lv_iload_n hx hb dX5_fits_36 rfl (lv_at hl 0 rfl) ?_
    refine lv_bipush (v := 32) hx hb dX5_fits_37 (by decide) ?_
    refine lv_icmp_ne (tgt := 46) hx hb dX5_fits_39 (by decide) (fun g19 => ?_) (fun g19 => ?_)
    · rw [if_neg g19] at h
      refine lv_iconst (v := 0) hx hb dX5_fits_46 (by decide) ?_
      exact sh_roz hx hb hr hlocks hQ ⟨rfl, (Option.some.inj h)⟩ dX5_fits_47
    · rw [if_pos g19] at h
      refine lv_iconst (v := 1) hx hb dX5_fits_42 (by decide) ?_
      refine lv_goto (tgt := 47) hx hb dX5_fits_43 (by decide) ?_
      exact sh_roz hx hb hr hlocks hQ ⟨rfl, (Option.some.inj h)⟩ dX5_fits_47
  · rw [if_neg g3] at h
    by_cases g4 : x1 = 1
    · rw [if_pos g4] at h
      refine lv_tableIn (off := 41) (tgt := 48) hx hb dX5_fits_7 (by rw [g4]; decide) (by rw [g4]; decide) (by rw [g4]; rfl) (by decide) ?_
      refine lv_iload_n hx hb dX5_fits_48 rfl (lv_at hl 0 rfl) ?_
      refine lv_iconst (v := 4) hx hb dX5_fits_49 (by decide) ?_
      refine lv_icmp_eq (tgt := 59) hx hb dX5_fits_50 (by decide) (fun g17 => ?_) (fun g17 => ?_)
      · rw [if_pos g17] at h
        refine lv_iconst (v := 1) hx hb dX5_fits_59 (by decide) ?_
        refine lv_goto (tgt := 64) hx hb dX5_fits_60 (by decide) ?_
        exact sh_roz hx hb hr hlocks hQ ⟨rfl, (Option.some.inj h)⟩ dX5_fits_64
      · rw [if_neg g17] at h
        refine lv_iload_n hx hb dX5_fits_53 rfl (lv_at hl 0 rfl) ?_
        refine lv_bipush (v := 8) hx hb dX5_fits_54 (by decide) ?_
        refine lv_icmp_ne (tgt := 63) hx hb dX5_fits_56 (by decide) (fun g18 => ?_) (fun g18 => ?_)
        · rw [if_neg g18] at h
          refine lv_iconst (v := 0) hx hb dX5_fits_63 (by decide) ?_
          exact sh_roz hx hb hr hlocks hQ ⟨rfl, (Option.some.inj h)⟩ dX5_fits_64
        · rw [if_pos g18] at h
          refine lv_iconst (v := 1) hx hb dX5_fits_59 (by decide) ?_
          refine lv_goto (tgt := 64) hx hb dX5_fits_60 (by decide) ?_
          exact sh_roz hx hb hr hlocks hQ ⟨rfl, (Option.some.inj h)⟩ dX5_fits_64
    · rw [if_neg g4] at h
      by_cases g5 : x1 = 2
      · rw [if_pos g5] at h
        refine lv_tableIn (off := 58) (tgt := 65) hx hb dX5_fits_7 (by rw [g5]; decide) (by rw [g5]; decide) (by rw [g5]; rfl) (by decide) ?_
        refine lv_iload_n hx hb dX5_fits_65 rfl (lv_at hl 0 rfl) ?_
        refine lv_iconst (v := 1) hx hb dX5_fits_66 (by decide) ?_
        refine lv_icmp_lt (tgt := 80) hx hb dX5_fits_67 (by decide) (fun g15 => ?_) (fun g15 => ?_)
        · rw [if_pos g15] at h
          refine lv_iconst (v := 0) hx hb dX5_fits_80 (by decide) ?_
          exact sh_roz hx hb hr hlocks hQ ⟨rfl, (Option.some.inj h)⟩ dX5_fits_81
        · rw [if_neg g15] at h
          refine lv_iload_n hx hb dX5_fits_70 rfl (lv_at hl 0 rfl) ?_
          refine lv_bipush (v := 6) hx hb dX5_fits_71 (by decide) ?_
          refine lv_icmp_gt (tgt := 80) hx hb dX5_fits_73 (by decide) (fun g16 => ?_) (fun g16 => ?_)
          · rw [if_pos g16] at h
            refine lv_iconst (v := 0) hx hb dX5_fits_80 (by decide) ?_
            exact sh_roz hx hb hr hlocks hQ ⟨rfl, (Option.some.inj h)⟩ dX5_fits_81
          · rw [if_neg g16] at h
            refine lv_iconst (v := 1) hx hb dX5_fits_76 (by decide) ?_
            refine lv_goto (tgt := 81) hx hb dX5_fits_77 (by decide) ?_
            exact sh_roz hx hb hr hlocks hQ ⟨rfl, (Option.some.inj h)⟩ dX5_fits_81
      · rw [if_neg g5] at h
        by_cases g6 : x1 = 3
        · rw [if_pos g6] at h
          refine lv_tableIn (off := 58) (tgt := 65) hx hb dX5_fits_7 (by rw [g6]; decide) (by rw [g6]; decide) (by rw [g6]; rfl) (by decide) ?_
          refine lv_iload_n hx hb dX5_fits_65 rfl (lv_at hl 0 rfl) ?_
          refine lv_iconst (v := 1) hx hb dX5_fits_66 (by decide) ?_
          refine lv_icmp_lt (tgt := 80) hx hb dX5_fits_67 (by decide) (fun g13 => ?_) (fun g13 => ?_)
          · rw [if_pos g13] at h
            refine lv_iconst (v := 0) hx hb dX5_fits_80 (by decide) ?_
            exact sh_roz hx hb hr hlocks hQ ⟨rfl, (Option.some.inj h)⟩ dX5_fits_81
          · rw [if_neg g13] at h
            refine lv_iload_n hx hb dX5_fits_70 rfl (lv_at hl 0 rfl) ?_
            refine lv_bipush (v := 6) hx hb dX5_fits_71 (by decide) ?_
            refine lv_icmp_gt (tgt := 80) hx hb dX5_fits_73 (by decide) (fun g14 => ?_) (fun g14 => ?_)
            · rw [if_pos g14] at h
              refine lv_iconst (v := 0) hx hb dX5_fits_80 (by decide) ?_
              exact sh_roz hx hb hr hlocks hQ ⟨rfl, (Option.some.inj h)⟩ dX5_fits_81
            · rw [if_neg g14] at h
              refine lv_iconst (v := 1) hx hb dX5_fits_76 (by decide) ?_
              refine lv_goto (tgt := 81) hx hb dX5_fits_77 (by decide) ?_
              exact sh_roz hx hb hr hlocks hQ ⟨rfl, (Option.some.inj h)⟩ dX5_fits_81
        · rw [if_neg g6] at h
          refine lv_tableOut (tgt := 82) hx hb dX5_fits_7 (by have k0 := lv_neT (a := 0) g3 rfl; have k1 := lv_neT (a := 1) g4 rfl; have k2 := lv_neT (a := 2) g5 rfl; have k3 := lv_neT (a := 3) g6 rfl; omega) (by decide) ?_
          refine lv_iload_n hx hb dX5_fits_82 rfl (lv_at hl 2 rfl) ?_
          refine lv_aload_n hx hb dX5_fits_83 rfl (lv_at hl 1 rfl) ?_
          obtain ⟨v7, hc8, h⟩ := sh_b1_e h
          refine sh_cVi (As := []) (rest := [.int x1]) hfix (k_X5_wholeSize l D cI cJ cZ aX aE xL xz v7 hc8) (cwV 0 hts gX5_fits_X5_wholeSize rfl rfl rfl hdV_X5_wholeSize ⟨Nat.le_of_ble_eq_true rfl, Nat.le_of_ble_eq_true rfl⟩) hP hK [0, 1] rfl 0 rfl rfl rfl hl.1 rfl (Nat.le_of_ble_eq_true rfl) dX5_fits_84 ⟨Nat.zero_le _, Nat.zero_le _⟩ ?_
          refine lv_icmp_ge (tgt := 101) hx hb dX5_fits_87 (by decide) (fun g9 => ?_) (fun g9 => ?_)
          · rw [if_pos g9] at h
            refine lv_iconst (v := 0) hx hb dX5_fits_101 (by decide) ?_
            exact sh_roz hx hb hr hlocks hQ ⟨rfl, (Option.some.inj h)⟩ dX5_fits_102
          · rw [if_neg g9] at h
            refine lv_iload_n hx hb dX5_fits_90 rfl (lv_at hl 0 rfl) ?_
            obtain ⟨v10, hc11, h⟩ := sh_b1_e h
            refine sh_cSNi (As := [.int v1]) (rest := []) hfix (k_X7_isShade l D cI cJ cZ v1 v10 hc11) ⟨va_cnB 1 hts gX5_fits_X7_isShade_n31 rfl rfl rfl hnw lk1 hdS_X7_isShade ⟨Nat.le_of_ble_eq_true rfl, Nat.le_of_ble_eq_true rfl⟩, lk2, trivial⟩ hP hK [] rfl rfl hl.1 rfl (Nat.le_of_ble_eq_true rfl) dX5_fits_91 ⟨Nat.zero_le _, Nat.zero_le _⟩ ?_
            refine lv_if_eq (tgt := 101) hx hb dX5_fits_94 (by decide) (fun g12 => ?_) (fun g12 => ?_)
            · rw [if_pos g12] at h
              refine lv_iconst (v := 0) hx hb dX5_fits_101 (by decide) ?_
              exact sh_roz hx hb hr hlocks hQ ⟨rfl, (Option.some.inj h)⟩ dX5_fits_102
            · rw [if_neg g12] at h
              refine lv_iconst (v := 1) hx hb dX5_fits_97 (by decide) ?_
              refine lv_goto (tgt := 102) hx hb dX5_fits_98 (by decide) ?_
              exact sh_roz hx hb hr hlocks hQ ⟨rfl, (Option.some.inj h)⟩ dX5_fits_102
theorem hdV_X5_firstFault : yX5_firstFault.cls = RX5 ∧ yX5_firstFault.cls ≠ "java/lang/invoke/MethodHandle" ∧ yX5_firstFault.cls ≠ "java/lang/invoke/VarHandle" ∧ (parseMethodDescriptor yX5_firstFault.desc).map (fun d => d.parameters.length) = some 0 := by decide +kernel
abbrev rmX5_firstFault : Room := { frames := 3, cells := 0, slots := 0, locals := 63 }
set_option maxHeartbeats 4000000 in
set_option maxRecDepth 100000 in
theorem k_X5_firstFault (l : Launch) (D : va_G) (cI cJ cZ : ClassId) (aX : Nat) (aE : Nat) (xL : Nat → Int32) (xz : Int32) (o : Int32) (h : fX5_firstFault xL xz = some o) : Met l yX5_firstFault wsX5_firstFault rmX5_firstFault (sh_Pn (.methodLinkNest RX5 31 yX7_isShade RX7) (sh_Pr D (sh_ty cI cJ cZ) [(aX, .inr (5, [.ref aE, .int xz])), (aE, .inl (cI, 40, .inl xL))] [.ref aX])) (vp_Si (fun z => z = o)) 0 0 (fun _ => False) := by
  refine Met.ofW (cc := cX5_firstFault) (maxL := 2) (ret := (some .int)) (by decide) rfl ?_
  intro p e s m args below meth c s₁ hB hml hv
  obtain ⟨hv, hnw⟩ := hv
  obtain ⟨hargs, hP, hK⟩ := hv
  have hx := hB.exec
  have hb := hB.bytes
  have hr := hB.returns
  have hts := atoms_spec (ws := wsX5_firstFault) hB.pre
  have hown : s.vm.findClass RX5 = some m.cls := findClass_of_methodNamed hB.named
  have hlocks := hB.notSynchronized
  have hfix : CallFix p m c cX5_firstFault 2 s args wsX5_firstFault RX5 := ⟨hx, hb, hml, hown, hts⟩
  have hinX5 : ∀ w ∈ wsX50, w ∈ wsX5_firstFault := by decide +kernel
  have lk1 := hts (.fieldLink RX5 15 "ShadeTree$Text" "size" "I") (by decide +kernel)
  rw [show entryFrame m args 2 = entryFrame m ([.ref aX] : List Value).toArray 2 by rw [hargs], lg_entry_eq]
  have hl := lv_entry ([.ref aX]) (n := 2) (Nat.le_of_ble_eq_true rfl)
  generalize (lg_sl ([.ref aX]) ++ List.replicate (2 - (lg_sl ([.ref aX])).length) Slot.unset).toArray = ls at hl ⊢
  have hl : lv_has ls 2 [(0, .ref aX)] := hl
  generalize hQ : MQ below (vp_Si (fun z => z = o)) args s 0 0 (fun _ => False) = Q
  unfold fX5_firstFault at h
  refine lv_iconst (v := 0) hx hb dX5_firstFault_0 (by decide) ?_
  refine lv_istore_n (lv' := [(1, .int 0), (0, .ref aX)]) hx hb dX5_firstFault_1 rfl hl (by decide) rfl (fun ls hl => ?_)
  have LP5 : ∀ (n : Nat) (x1 : Int32) (z : (Int32) ⊕ (Unit)) (ls : Array Slot), fX5_firstFault_L2 n x1 xL xz = some z → lv_has ls 2 [(0, .ref aX), (1, .int x1)] → (∀ x, z = .inl x → x = o) → (∀ (t : Unit), z = .inr t → ∀ (ls : Array Slot), lv_has ls 2 [(0, .ref aX)] → W p l e (headSpec wsX5_firstFault rmX5_firstFault).room s m args below meth c s.heap [] 0 0 Q (F0 m 26 ls [])) → W p l e (headSpec wsX5_firstFault rmX5_firstFault).room s m args below meth c s.heap [] 0 0 Q (F0 m 2 ls []) := by
    intro n
    induction n with
    | zero =>
      intro x1 z ls h hl hret hk
      exact nomatch ((fX5_firstFault_L2_z x1 xL xz).symm.trans h)
    | succ n ih =>
      intro x1 z ls h hl hret hk
      rw [fX5_firstFault_L2_s] at h
      refine lv_iload_n hx hb dX5_firstFault_2 rfl (lv_at hl 1 rfl) ?_
      refine lv_aload_n hx hb dX5_firstFault_3 rfl (lv_at hl 0 rfl) ?_
      refine va_get (ci := 5) (v := .int xz) (C := RX5) (T := TX5) (N := 2) hx hb hts hinX5 hown hK hP 0 rfl rfl 1 (by decide) lk1 (fun _ h9 => h9) rfl dX5_firstFault_4 ?_
      refine lv_icmp_ge (tgt := 26) hx hb dX5_firstFault_7 (by decide) (fun g1 => ?_) (fun g1 => ?_)
      · rw [if_pos g1] at h
        exact hk () (Option.some.inj h).symm ls (lv_sub hl [0] rfl) 
      · rw [if_neg g1] at h
        refine lv_aload_n hx hb dX5_firstFault_10 rfl (lv_at hl 0 rfl) ?_
        refine lv_iload_n hx hb dX5_firstFault_11 rfl (lv_at hl 1 rfl) ?_
        obtain ⟨v2, hc3, h⟩ := sh_b1_e h
        refine sh_cVin (As := [.int x1]) (rest := []) hfix (k_X5_fits l D cI cJ cZ aX aE xL xz x1 v2 hc3) (cwV 1 hts gX5_firstFault_X5_fits rfl rfl rfl hdV_X5_fits ⟨Nat.le_of_ble_eq_true rfl, Nat.le_of_ble_eq_true rfl⟩) hnw hP hK [0, 1] rfl 0 rfl rfl rfl hl.1 rfl (Nat.le_of_ble_eq_true rfl) dX5_firstFault_12 ⟨Nat.zero_le _, Nat.zero_le _⟩ ?_
        refine lv_if_ne (tgt := 20) hx hb dX5_firstFault_15 (by decide) (fun g4 => ?_) (fun g4 => ?_)
        · rw [if_neg g4] at h
          refine lv_iinc (v := (x1 + 1)) (lv' := [(1, .int (x1 + 1)), (0, .ref aX)]) hx hb dX5_firstFault_20 hl (k := 1) rfl rfl (by decide) rfl (fun ls hl => ?_)
          refine lv_goto (tgt := 2) hx hb dX5_firstFault_23 (by decide) ?_
          exact ih (x1 + 1) z ls h (lv_sub hl [1, 0] rfl)  hret hk
        · rw [if_pos g4] at h
          refine lv_iload_n hx hb dX5_firstFault_18 rfl (lv_at hl 1 rfl) ?_
          exact sh_roi hx hb hr hlocks hQ (hret _ (Option.some.inj h).symm) dX5_firstFault_19
  obtain ⟨z6, hcz6, hrz6, hkz6⟩ := sh_bs_e h
  refine LP5 sh_fu 0 z6 ls hcz6 (lv_sub hl [1, 0] rfl)  hrz6 (fun t7 et7 ls hl  => ?_)
  have h := hkz6 t7 et7
  refine lv_aload_n hx hb dX5_firstFault_26 rfl (lv_at hl 0 rfl) ?_
  refine va_get (ci := 5) (v := .int xz) (C := RX5) (T := TX5) (N := 2) hx hb hts hinX5 hown hK hP 0 rfl rfl 1 (by decide) lk1 (fun _ h9 => h9) rfl dX5_firstFault_27 ?_
  refine lv_iconst (v := 4) hx hb dX5_firstFault_30 (by decide) ?_
  refine lv_icmp_lt (tgt := 50) hx hb dX5_firstFault_31 (by decide) (fun g8 => ?_) (fun g8 => ?_)
  · rw [if_pos g8] at h
    refine lv_aload_n hx hb dX5_firstFault_50 rfl (lv_at hl 0 rfl) ?_
    refine va_get (ci := 5) (v := .int xz) (C := RX5) (T := TX5) (N := 2) hx hb hts hinX5 hown hK hP 0 rfl rfl 1 (by decide) lk1 (fun _ h9 => h9) rfl dX5_firstFault_51 ?_
    exact sh_roi hx hb hr hlocks hQ (Option.some.inj h) dX5_firstFault_54
  · rw [if_neg g8] at h
    refine lv_aload_n hx hb dX5_firstFault_34 rfl (lv_at hl 0 rfl) ?_
    refine va_get (ci := 5) (v := .int xz) (C := RX5) (T := TX5) (N := 2) hx hb hts hinX5 hown hK hP 0 rfl rfl 1 (by decide) lk1 (fun _ h9 => h9) rfl dX5_firstFault_35 ?_
    refine lv_aload_n hx hb dX5_firstFault_38 rfl (lv_at hl 0 rfl) ?_
    obtain ⟨v9, hc10, h⟩ := sh_b1_e h
    refine sh_cVi (As := []) (rest := [.int xz]) hfix (k_X5_wholeSize l D cI cJ cZ aX aE xL xz v9 hc10) (cwV 0 hts gX5_firstFault_X5_wholeSize rfl rfl rfl hdV_X5_wholeSize ⟨Nat.le_of_ble_eq_true rfl, Nat.le_of_ble_eq_true rfl⟩) hP hK [0, 1] rfl 0 rfl rfl rfl hl.1 rfl (Nat.le_of_ble_eq_true rfl) dX5_firstFault_39 ⟨Nat.zero_le _, Nat.zero_le _⟩ ?_
    refine lv_icmp_ne (tgt := 50) hx hb dX5_firstFault_42 (by decide) (fun g11 => ?_) (fun g11 => ?_)
    · rw [if_neg g11] at h
      refine lv_aload_n hx hb dX5_firstFault_50 rfl (lv_at hl 0 rfl) ?_
      refine va_get (ci := 5) (v := .int xz) (C := RX5) (T := TX5) (N := 2) hx hb hts hinX5 hown hK hP 0 rfl rfl 1 (by decide) lk1 (fun _ h9 => h9) rfl dX5_firstFault_51 ?_
      exact sh_roi hx hb hr hlocks hQ (Option.some.inj h) dX5_firstFault_54
    · rw [if_pos g11] at h
      refine lv_bipush (v := -9) hx hb dX5_firstFault_45 (by decide) ?_
      refine lv_goto (tgt := 54) hx hb dX5_firstFault_47 (by decide) ?_
      exact sh_roi hx hb hr hlocks hQ (Option.some.inj h) dX5_firstFault_54
theorem hdV_X6_partAt : yX6_partAt.cls = RX6 ∧ yX6_partAt.cls ≠ "java/lang/invoke/MethodHandle" ∧ yX6_partAt.cls ≠ "java/lang/invoke/VarHandle" ∧ (parseMethodDescriptor yX6_partAt.desc).map (fun d => d.parameters.length) = some 2 := by decide +kernel
abbrev rmX6_partAt : Room := { frames := 2, cells := 0, slots := 0, locals := 57 }
set_option maxHeartbeats 4000000 in
set_option maxRecDepth 100000 in
theorem k_X6_partAt (l : Launch) (D : va_G) (cI cJ cZ : ClassId) (aG : Nat) (aS : Nat) (aY : Nat) (aT : Nat) (aP : Nat) (aN : Nat) (gw : Int32) (gd : Int32) (gh : Int32) (ga : Int64) (gl : Int64) (gr : Int64) (sL : Nat → Int64) (tP : Nat → Int64) (tN : Nat → Int32) (tz : Int32) (x1 : Int32) (x2 : Int64) (o : Int64) (h : fX6_partAt gw gd gl gr sL x1 x2 = some o) : Met l yX6_partAt wsX6_partAt rmX6_partAt (sh_Pr D (sh_ty cI cJ cZ) [(aT, .inr (6, [.ref aG, .ref aS, .ref aP, .ref aN, .int tz])), (aP, .inl (cJ, 36, .inr (.inl tP))), (aN, .inl (cI, 36, .inl tN)), (aS, .inr (2, [.ref aG, .ref aY])), (aY, .inl (cJ, 10, .inr (.inl sL))), (aG, .inr (1, [.int gw, .int gd, .int gh, .long ga, .long gl, .long gr]))] [.ref aT, .int x1, .long x2]) (vp_Sl (fun z => z = o)) 0 0 (fun _ => False) := by
  refine Met.ofW (cc := cX6_partAt) (maxL := 4) (ret := (some .long)) (by decide) rfl ?_
  intro p e s m args below meth c s₁ hB hml hv
  obtain ⟨hargs, hP, hK⟩ := hv
  have hx := hB.exec
  have hb := hB.bytes
  have hr := hB.returns
  have hts := atoms_spec (ws := wsX6_partAt) hB.pre
  have hown : s.vm.findClass RX6 = some m.cls := findClass_of_methodNamed hB.named
  have hlocks := hB.notSynchronized
  have hfix : CallFix p m c cX6_partAt 4 s args wsX6_partAt RX6 := ⟨hx, hb, hml, hown, hts⟩
  have hinX6 : ∀ w ∈ wsX60, w ∈ wsX6_partAt := by decide +kernel
  have lk1 := hts (.fieldLink RX6 19 "ShadeTree$Tree" "grid" "LShadeTree$Grid;") (by decide +kernel)
  have lk2 := hts (.fieldLink RX6 23 "ShadeTree$Tree" "shades" "LShadeTree$Shades;") (by decide +kernel)
  rw [show entryFrame m args 4 = entryFrame m ([.ref aT, .int x1, .long x2] : List Value).toArray 4 by rw [hargs], lg_entry_eq]
  have hl := lv_entry ([.ref aT, .int x1, .long x2]) (n := 4) (Nat.le_of_ble_eq_true rfl)
  generalize (lg_sl ([.ref aT, .int x1, .long x2]) ++ List.replicate (4 - (lg_sl ([.ref aT, .int x1, .long x2])).length) Slot.unset).toArray = ls at hl ⊢
  have hl : lv_has ls 4 [(0, .ref aT), (1, .int x1), (2, .long x2)] := hl
  generalize hQ : MQ below (vp_Sl (fun z => z = o)) args s 0 0 (fun _ => False) = Q
  unfold fX6_partAt at h
  refine lv_aload_n hx hb dX6_partAt_0 rfl (lv_at hl 0 rfl) ?_
  refine va_get (ci := 6) (v := .ref aG) (C := RX6) (T := TX6) (N := 5) hx hb hts hinX6 hown hK hP 0 rfl rfl 0 (by decide) lk1 (fun _ h9 => h9) rfl dX6_partAt_1 ?_
  refine lv_aload_n hx hb dX6_partAt_4 rfl (lv_at hl 0 rfl) ?_
  refine va_get (ci := 6) (v := .ref aS) (C := RX6) (T := TX6) (N := 5) hx hb hts hinX6 hown hK hP 0 rfl rfl 1 (by decide) lk2 (fun _ h9 => h9) rfl dX6_partAt_5 ?_
  refine lv_iload_n hx hb dX6_partAt_8 rfl (lv_at hl 1 rfl) ?_
  obtain ⟨v1, hc2, h⟩ := sh_b1_e h
  refine sh_cVl (As := [.int x1]) (rest := [.ref aG]) hfix (k_X2_atLeast l D cI cJ cZ aG aS aY gw gd gh ga gl gr sL x1 v1 hc2) (cwV 1 hts gX6_partAt_X2_atLeast rfl rfl rfl hdV_X2_atLeast ⟨Nat.le_of_ble_eq_true rfl, Nat.le_of_ble_eq_true rfl⟩) hP hK [3, 4, 5] rfl 3 rfl rfl rfl hl.1 rfl (Nat.le_of_ble_eq_true rfl) dX6_partAt_9 ⟨Nat.zero_le _, Nat.zero_le _⟩ ?_
  refine lv_lload_n hx hb dX6_partAt_12 rfl (lv_at hl 2 rfl) ?_
  refine lv_aload_n hx hb dX6_partAt_13 rfl (lv_at hl 0 rfl) ?_
  refine va_get (ci := 6) (v := .ref aG) (C := RX6) (T := TX6) (N := 5) hx hb hts hinX6 hown hK hP 0 rfl rfl 0 (by decide) lk1 (fun _ h9 => h9) rfl dX6_partAt_14 ?_
  obtain ⟨v3, hc4, h⟩ := sh_b1_e h
  refine sh_cVi (As := []) (rest := [.long x2, .long v1, .ref aG]) hfix (k_X1_way l D cI cJ cZ aG gw gd gh ga gl gr v3 hc4) (cwV 0 hts gX6_partAt_X1_way rfl rfl rfl hdV_X1_way ⟨Nat.le_of_ble_eq_true rfl, Nat.le_of_ble_eq_true rfl⟩) hP hK [5] rfl 5 rfl rfl rfl hl.1 rfl (Nat.le_of_ble_eq_true rfl) dX6_partAt_17 ⟨Nat.zero_le _, Nat.zero_le _⟩ ?_
  obtain ⟨v5, hc6, h⟩ := sh_b1_e h
  refine sh_cVl (As := [.long v1, .long x2, .int v3]) (rest := []) hfix (k_X1_partAround l D cI cJ cZ aG gw gd gh ga gl gr v1 x2 v3 v5 hc6) (cwV 3 hts gX6_partAt_X1_partAround rfl rfl rfl hdV_X1_partAround ⟨Nat.le_of_ble_eq_true rfl, Nat.le_of_ble_eq_true rfl⟩) hP hK [5] rfl 5 rfl rfl rfl hl.1 rfl (Nat.le_of_ble_eq_true rfl) dX6_partAt_20 ⟨Nat.zero_le _, Nat.zero_le _⟩ ?_
  exact sh_rol hx hb hr hlocks hQ (Option.some.inj h) dX6_partAt_23
theorem hdV_X6_ofLevel : yX6_ofLevel.cls = RX6 ∧ yX6_ofLevel.cls ≠ "java/lang/invoke/MethodHandle" ∧ yX6_ofLevel.cls ≠ "java/lang/invoke/VarHandle" ∧ (parseMethodDescriptor yX6_ofLevel.desc).map (fun d => d.parameters.length) = some 1 := by decide +kernel
abbrev rmX6_ofLevel : Room := { frames := 1, cells := 0, slots := 0, locals := 21 }
set_option maxHeartbeats 4000000 in
set_option maxRecDepth 100000 in
theorem k_X6_ofLevel (l : Launch) (D : va_G) (cI cJ cZ : ClassId) (aG : Nat) (aS : Nat) (aY : Nat) (aT : Nat) (aP : Nat) (aN : Nat) (gw : Int32) (gd : Int32) (gh : Int32) (ga : Int64) (gl : Int64) (gr : Int64) (sL : Nat → Int64) (tP : Nat → Int64) (tN : Nat → Int32) (tz : Int32) (x1 : Int32) (o : Int64) (h : fX6_ofLevel sL x1 = some o) : Met l yX6_ofLevel wsX6_ofLevel rmX6_ofLevel (sh_Pr D (sh_ty cI cJ cZ) [(aT, .inr (6, [.ref aG, .ref aS, .ref aP, .ref aN, .int tz])), (aP, .inl (cJ, 36, .inr (.inl tP))), (aN, .inl (cI, 36, .inl tN)), (aS, .inr (2, [.ref aG, .ref aY])), (aY, .inl (cJ, 10, .inr (.inl sL))), (aG, .inr (1, [.int gw, .int gd, .int gh, .long ga, .long gl, .long gr]))] [.ref aT, .int x1]) (vp_Sl (fun z => z = o)) 0 0 (fun _ => False) := by
  refine Met.ofW (cc := cX6_ofLevel) (maxL := 2) (ret := (some .long)) (by decide) rfl ?_
  intro p e s m args below meth c s₁ hB hml hv
  obtain ⟨hargs, hP, hK⟩ := hv
  have hx := hB.exec
  have hb := hB.bytes
  have hr := hB.returns
  have hts := atoms_spec (ws := wsX6_ofLevel) hB.pre
  have hown : s.vm.findClass RX6 = some m.cls := findClass_of_methodNamed hB.named
  have hlocks := hB.notSynchronized
  have hfix : CallFix p m c cX6_ofLevel 2 s args wsX6_ofLevel RX6 := ⟨hx, hb, hml, hown, hts⟩
  have hinX6 : ∀ w ∈ wsX60, w ∈ wsX6_ofLevel := by decide +kernel
  have lk1 := hts (.fieldLink RX6 23 "ShadeTree$Tree" "shades" "LShadeTree$Shades;") (by decide +kernel)
  have lk2 := hts (.constantLong RX6 43 (-1)) (by decide +kernel)
  rw [show entryFrame m args 2 = entryFrame m ([.ref aT, .int x1] : List Value).toArray 2 by rw [hargs], lg_entry_eq]
  have hl := lv_entry ([.ref aT, .int x1]) (n := 2) (Nat.le_of_ble_eq_true rfl)
  generalize (lg_sl ([.ref aT, .int x1]) ++ List.replicate (2 - (lg_sl ([.ref aT, .int x1])).length) Slot.unset).toArray = ls at hl ⊢
  have hl : lv_has ls 2 [(0, .ref aT), (1, .int x1)] := hl
  generalize hQ : MQ below (vp_Sl (fun z => z = o)) args s 0 0 (fun _ => False) = Q
  unfold fX6_ofLevel at h
  refine lv_aload_n hx hb dX6_ofLevel_0 rfl (lv_at hl 0 rfl) ?_
  refine va_get (ci := 6) (v := .ref aS) (C := RX6) (T := TX6) (N := 5) hx hb hts hinX6 hown hK hP 0 rfl rfl 1 (by decide) lk1 (fun _ h9 => h9) rfl dX6_ofLevel_1 ?_
  refine lv_iload_n hx hb dX6_ofLevel_4 rfl (lv_at hl 1 rfl) ?_
  obtain ⟨v1, hc2, h⟩ := sh_b1_e h
  refine sh_cVl (As := [.int x1]) (rest := []) hfix (k_X2_atLeast l D cI cJ cZ aG aS aY gw gd gh ga gl gr sL x1 v1 hc2) (cwV 1 hts gX6_ofLevel_X2_atLeast rfl rfl rfl hdV_X2_atLeast ⟨Nat.le_of_ble_eq_true rfl, Nat.le_of_ble_eq_true rfl⟩) hP hK [3, 4, 5] rfl 3 rfl rfl rfl hl.1 rfl (Nat.le_of_ble_eq_true rfl) dX6_ofLevel_5 ⟨Nat.zero_le _, Nat.zero_le _⟩ ?_
  refine lv_aload_n hx hb dX6_ofLevel_8 rfl (lv_at hl 0 rfl) ?_
  refine va_get (ci := 6) (v := .ref aS) (C := RX6) (T := TX6) (N := 5) hx hb hts hinX6 hown hK hP 0 rfl rfl 1 (by decide) lk1 (fun _ h9 => h9) rfl dX6_ofLevel_9 ?_
  refine lv_iload_n hx hb dX6_ofLevel_12 rfl (lv_at hl 1 rfl) ?_
  refine lv_iconst (v := 1) hx hb dX6_ofLevel_13 (by decide) ?_
  refine lv_iadd hx hb dX6_ofLevel_14 ?_
  obtain ⟨v3, hc4, h⟩ := sh_b1_e h
  refine sh_cVl (As := [.int (x1 + 1)]) (rest := [.long v1]) hfix (k_X2_atLeast l D cI cJ cZ aG aS aY gw gd gh ga gl gr sL (x1 + 1) v3 hc4) (cwV 1 hts gX6_ofLevel_X2_atLeast rfl rfl rfl hdV_X2_atLeast ⟨Nat.le_of_ble_eq_true rfl, Nat.le_of_ble_eq_true rfl⟩) hP hK [3, 4, 5] rfl 3 rfl rfl rfl hl.1 rfl (Nat.le_of_ble_eq_true rfl) dX6_ofLevel_15 ⟨Nat.zero_le _, Nat.zero_le _⟩ ?_
  refine lv_ldc2 hx hb hown lk2 dX6_ofLevel_18 ?_
  refine lv_lxor hx hb dX6_ofLevel_21 ?_
  refine lv_land hx hb dX6_ofLevel_22 ?_
  exact sh_rol hx hb hr hlocks hQ (Option.some.inj h) dX6_ofLevel_23
theorem hdV_X6_nodeOf : yX6_nodeOf.cls = RX6 ∧ yX6_nodeOf.cls ≠ "java/lang/invoke/MethodHandle" ∧ yX6_nodeOf.cls ≠ "java/lang/invoke/VarHandle" ∧ (parseMethodDescriptor yX6_nodeOf.desc).map (fun d => d.parameters.length) = some 1 := by decide +kernel
abbrev rmX6_nodeOf : Room := { frames := 3, cells := 0, slots := 0, locals := 80 }
set_option maxHeartbeats 4000000 in
set_option maxRecDepth 100000 in
theorem k_X6_nodeOf (l : Launch) (D : va_G) (cI cJ cZ : ClassId) (aG : Nat) (aS : Nat) (aY : Nat) (aT : Nat) (aP : Nat) (aN : Nat) (gw : Int32) (gd : Int32) (gh : Int32) (ga : Int64) (gl : Int64) (gr : Int64) (sL : Nat → Int64) (tP : Nat → Int64) (tN : Nat → Int32) (tz : Int32) (x1 : Int32) (o : Int64) (h : fX6_nodeOf gw gd gh gl gr sL x1 = some o) : Met l yX6_nodeOf wsX6_nodeOf rmX6_nodeOf (sh_Pr D (sh_ty cI cJ cZ) [(aT, .inr (6, [.ref aG, .ref aS, .ref aP, .ref aN, .int tz])), (aP, .inl (cJ, 36, .inr (.inl tP))), (aN, .inl (cI, 36, .inl tN)), (aS, .inr (2, [.ref aG, .ref aY])), (aY, .inl (cJ, 10, .inr (.inl sL))), (aG, .inr (1, [.int gw, .int gd, .int gh, .long ga, .long gl, .long gr]))] [.ref aT, .int x1]) (vp_Sl (fun z => z = o)) 0 0 (fun _ => False) := by
  refine Met.ofW (cc := cX6_nodeOf) (maxL := 2) (ret := (some .long)) (by decide) rfl ?_
  intro p e s m args below meth c s₁ hB hml hv
  obtain ⟨hargs, hP, hK⟩ := hv
  have hx := hB.exec
  have hb := hB.bytes
  have hr := hB.returns
  have hts := atoms_spec (ws := wsX6_nodeOf) hB.pre
  have hown : s.vm.findClass RX6 = some m.cls := findClass_of_methodNamed hB.named
  have hlocks := hB.notSynchronized
  have hfix : CallFix p m c cX6_nodeOf 2 s args wsX6_nodeOf RX6 := ⟨hx, hb, hml, hown, hts⟩
  have hinX6 : ∀ w ∈ wsX60, w ∈ wsX6_nodeOf := by decide +kernel
  have lk1 := hts (.fieldLink RX6 19 "ShadeTree$Tree" "grid" "LShadeTree$Grid;") (by decide +kernel)
  have lk2 := hts (.fieldLink RX6 23 "ShadeTree$Tree" "shades" "LShadeTree$Shades;") (by decide +kernel)
  rw [show entryFrame m args 2 = entryFrame m ([.ref aT, .int x1] : List Value).toArray 2 by rw [hargs], lg_entry_eq]
  have hl := lv_entry ([.ref aT, .int x1]) (n := 2) (Nat.le_of_ble_eq_true rfl)
  generalize (lg_sl ([.ref aT, .int x1]) ++ List.replicate (2 - (lg_sl ([.ref aT, .int x1])).length) Slot.unset).toArray = ls at hl ⊢
  have hl : lv_has ls 2 [(0, .ref aT), (1, .int x1)] := hl
  generalize hQ : MQ below (vp_Sl (fun z => z = o)) args s 0 0 (fun _ => False) = Q
  unfold fX6_nodeOf at h
  refine lv_aload_n hx hb dX6_nodeOf_0 rfl (lv_at hl 0 rfl) ?_
  refine va_get (ci := 6) (v := .ref aG) (C := RX6) (T := TX6) (N := 5) hx hb hts hinX6 hown hK hP 0 rfl rfl 0 (by decide) lk1 (fun _ h9 => h9) rfl dX6_nodeOf_1 ?_
  refine lv_iload_n hx hb dX6_nodeOf_4 rfl (lv_at hl 1 rfl) ?_
  obtain ⟨v1, hc2, h⟩ := sh_b1_e h
  refine sh_cVi (As := [.int x1]) (rest := []) hfix (k_X1_hasDot l D cI cJ cZ aG gw gd gh ga gl gr x1 v1 hc2) (cwV 1 hts gX6_nodeOf_X1_hasDot rfl rfl rfl hdV_X1_hasDot ⟨Nat.le_of_ble_eq_true rfl, Nat.le_of_ble_eq_true rfl⟩) hP hK [5] rfl 5 rfl rfl rfl hl.1 rfl (Nat.le_of_ble_eq_true rfl) dX6_nodeOf_5 ⟨Nat.zero_le _, Nat.zero_le _⟩ ?_
  refine lv_if_eq (tgt := 29) hx hb dX6_nodeOf_8 (by decide) (fun g3 => ?_) (fun g3 => ?_)
  · rw [if_pos g3] at h
    refine lv_lconst (v := 0) hx hb dX6_nodeOf_29 (by decide) ?_
    exact sh_rol hx hb hr hlocks hQ (Option.some.inj h) dX6_nodeOf_30
  · rw [if_neg g3] at h
    refine lv_aload_n hx hb dX6_nodeOf_11 rfl (lv_at hl 0 rfl) ?_
    refine lv_aload_n hx hb dX6_nodeOf_12 rfl (lv_at hl 0 rfl) ?_
    refine va_get (ci := 6) (v := .ref aS) (C := RX6) (T := TX6) (N := 5) hx hb hts hinX6 hown hK hP 0 rfl rfl 1 (by decide) lk2 (fun _ h9 => h9) rfl dX6_nodeOf_13 ?_
    refine lv_iload_n hx hb dX6_nodeOf_16 rfl (lv_at hl 1 rfl) ?_
    obtain ⟨v4, hc5, h⟩ := sh_b1_e h
    refine sh_cVi (As := [.int x1]) (rest := [.ref aT]) hfix (k_X2_of l D cI cJ cZ aG aS aY gw gd gh ga gl gr sL x1 v4 hc5) (cwV 1 hts gX6_nodeOf_X2_of rfl rfl rfl hdV_X2_of ⟨Nat.le_of_ble_eq_true rfl, Nat.le_of_ble_eq_true rfl⟩) hP hK [3, 4, 5] rfl 3 rfl rfl rfl hl.1 rfl (Nat.le_of_ble_eq_true rfl) dX6_nodeOf_17 ⟨Nat.zero_le _, Nat.zero_le _⟩ ?_
    refine lv_lconst (v := 1) hx hb dX6_nodeOf_20 (by decide) ?_
    refine lv_iload_n hx hb dX6_nodeOf_21 rfl (lv_at hl 1 rfl) ?_
    refine lv_lshl (v := (sh_lsl 1 x1)) hx hb dX6_nodeOf_22 rfl ?_
    obtain ⟨v6, hc7, h⟩ := sh_b1_e h
    refine sh_cVl (As := [.int v4, .long (sh_lsl 1 x1)]) (rest := []) hfix (k_X6_partAt l D cI cJ cZ aG aS aY aT aP aN gw gd gh ga gl gr sL tP tN tz v4 (sh_lsl 1 x1) v6 hc7) (cwV 2 hts gX6_nodeOf_X6_partAt rfl rfl rfl hdV_X6_partAt ⟨Nat.le_of_ble_eq_true rfl, Nat.le_of_ble_eq_true rfl⟩) hP hK [0, 1, 2, 3, 4, 5] rfl 0 rfl rfl rfl hl.1 rfl (Nat.le_of_ble_eq_true rfl) dX6_nodeOf_23 ⟨Nat.zero_le _, Nat.zero_le _⟩ ?_
    refine lv_goto (tgt := 30) hx hb dX6_nodeOf_26 (by decide) ?_
    exact sh_rol hx hb hr hlocks hQ (Option.some.inj h) dX6_nodeOf_30
theorem hdV_X6_head : yX6_head.cls = RX6 ∧ yX6_head.cls ≠ "java/lang/invoke/MethodHandle" ∧ yX6_head.cls ≠ "java/lang/invoke/VarHandle" ∧ (parseMethodDescriptor yX6_head.desc).map (fun d => d.parameters.length) = some 2 := by decide +kernel
abbrev rmX6_head : Room := { frames := 2, cells := 0, slots := 0, locals := 42 }
set_option maxHeartbeats 4000000 in
set_option maxRecDepth 100000 in
theorem k_X6_head (l : Launch) (D : va_G) (cI cJ cZ : ClassId) (aG : Nat) (aS : Nat) (aY : Nat) (aT : Nat) (aP : Nat) (aN : Nat) (gw : Int32) (gd : Int32) (gh : Int32) (ga : Int64) (gl : Int64) (gr : Int64) (sL : Nat → Int64) (tP : Nat → Int64) (tN : Nat → Int32) (tz : Int32) (x1 : Int64) (x3 : Int32) (o : Int32) (h : fX6_head sL x1 x3 = some o) : Met l yX6_head wsX6_head rmX6_head (sh_Pr D (sh_ty cI cJ cZ) [(aT, .inr (6, [.ref aG, .ref aS, .ref aP, .ref aN, .int tz])), (aP, .inl (cJ, 36, .inr (.inl tP))), (aN, .inl (cI, 36, .inl tN)), (aS, .inr (2, [.ref aG, .ref aY])), (aY, .inl (cJ, 10, .inr (.inl sL))), (aG, .inr (1, [.int gw, .int gd, .int gh, .long ga, .long gl, .long gr]))] [.ref aT, .long x1, .int x3]) (vp_Si (fun z => z = o)) 0 0 (fun _ => False) := by
  refine Met.ofW (cc := cX6_head) (maxL := 6) (ret := (some .int)) (by decide) rfl ?_
  intro p e s m args below meth c s₁ hB hml hv
  obtain ⟨hargs, hP, hK⟩ := hv
  have hx := hB.exec
  have hb := hB.bytes
  have hr := hB.returns
  have hts := atoms_spec (ws := wsX6_head) hB.pre
  have hown : s.vm.findClass RX6 = some m.cls := findClass_of_methodNamed hB.named
  have hlocks := hB.notSynchronized
  have hfix : CallFix p m c cX6_head 6 s args wsX6_head RX6 := ⟨hx, hb, hml, hown, hts⟩
  rw [show entryFrame m args 6 = entryFrame m ([.ref aT, .long x1, .int x3] : List Value).toArray 6 by rw [hargs], lg_entry_eq]
  have hl := lv_entry ([.ref aT, .long x1, .int x3]) (n := 6) (Nat.le_of_ble_eq_true rfl)
  generalize (lg_sl ([.ref aT, .long x1, .int x3]) ++ List.replicate (6 - (lg_sl ([.ref aT, .long x1, .int x3])).length) Slot.unset).toArray = ls at hl ⊢
  have hl : lv_has ls 6 [(0, .ref aT), (1, .long x1), (3, .int x3)] := hl
  generalize hQ : MQ below (vp_Si (fun z => z = o)) args s 0 0 (fun _ => False) = Q
  unfold fX6_head at h
  refine lv_lload_n hx hb dX6_head_0 rfl (lv_at hl 1 rfl) ?_
  refine lv_aload_n hx hb dX6_head_1 rfl (lv_at hl 0 rfl) ?_
  refine lv_iload_n hx hb dX6_head_2 rfl (lv_at hl 2 rfl) ?_
  obtain ⟨v1, hc2, h⟩ := sh_b1_e h
  refine sh_cVl (As := [.int x3]) (rest := [.long x1]) hfix (k_X6_ofLevel l D cI cJ cZ aG aS aY aT aP aN gw gd gh ga gl gr sL tP tN tz x3 v1 hc2) (cwV 1 hts gX6_head_X6_ofLevel rfl rfl rfl hdV_X6_ofLevel ⟨Nat.le_of_ble_eq_true rfl, Nat.le_of_ble_eq_true rfl⟩) hP hK [0, 1, 2, 3, 4, 5] rfl 0 rfl rfl rfl hl.1 rfl (Nat.le_of_ble_eq_true rfl) dX6_head_3 ⟨Nat.zero_le _, Nat.zero_le _⟩ ?_
  refine lv_land hx hb dX6_head_6 ?_
  refine lv_lstore (lv' := [(4, .long (x1 &&& v1)), (0, .ref aT), (1, .long x1), (3, .int x3)]) hx hb dX6_head_7 hl (by decide) rfl (fun ls hl => ?_)
  refine lv_lload hx hb dX6_head_9 (lv_at hl 0 rfl) ?_
  refine lv_lload hx hb dX6_head_11 (lv_at hl 0 rfl) ?_
  refine lv_lneg hx hb dX6_head_13 ?_
  refine lv_land hx hb dX6_head_14 ?_
  refine lv_lconst (v := 1) hx hb dX6_head_15 (by decide) ?_
  refine lv_lsub hx hb dX6_head_16 ?_
  obtain ⟨v3, hc4, h⟩ := sh_b1_e h
  refine sh_cSi (As := [.long (((x1 &&& v1) &&& (-(x1 &&& v1))) - 1)]) (rest := []) hfix (k_J13_bitCount_95d88 l D cI cJ cZ (((x1 &&& v1) &&& (-(x1 &&& v1))) - 1) v3 hc4) (va_cwS 1 hts gX6_head_J13_bitCount_95d88 rfl rfl rfl hdS_J13_bitCount_95d88 ⟨Nat.le_of_ble_eq_true rfl, Nat.le_of_ble_eq_true rfl⟩) hP hK [] rfl rfl hl.1 rfl (Nat.le_of_ble_eq_true rfl) dX6_head_17 ⟨Nat.zero_le _, Nat.zero_le _⟩ ?_
  exact sh_roi hx hb hr hlocks hQ (Option.some.inj h) dX6_head_20
theorem hdV_X6_parentLevel : yX6_parentLevel.cls = RX6 ∧ yX6_parentLevel.cls ≠ "java/lang/invoke/MethodHandle" ∧ yX6_parentLevel.cls ≠ "java/lang/invoke/VarHandle" ∧ (parseMethodDescriptor yX6_parentLevel.desc).map (fun d => d.parameters.length) = some 2 := by decide +kernel
abbrev rmX6_parentLevel : Room := { frames := 3, cells := 0, slots := 0, locals := 80 }
set_option maxHeartbeats 4000000 in
set_option maxRecDepth 100000 in
theorem k_X6_parentLevel (l : Launch) (D : va_G) (cI cJ cZ : ClassId) (aG : Nat) (aS : Nat) (aY : Nat) (aT : Nat) (aP : Nat) (aN : Nat) (gw : Int32) (gd : Int32) (gh : Int32) (ga : Int64) (gl : Int64) (gr : Int64) (sL : Nat → Int64) (tP : Nat → Int64) (tN : Nat → Int32) (tz : Int32) (x1 : Int64) (x3 : Int32) (o : Int32) (h : fX6_parentLevel gw gd gh ga gl gr sL tP tN tz x1 x3 = some o) : Met l yX6_parentLevel wsX6_parentLevel rmX6_parentLevel (sh_Pr D (sh_ty cI cJ cZ) [(aT, .inr (6, [.ref aG, .ref aS, .ref aP, .ref aN, .int tz])), (aP, .inl (cJ, 36, .inr (.inl tP))), (aN, .inl (cI, 36, .inl tN)), (aS, .inr (2, [.ref aG, .ref aY])), (aY, .inl (cJ, 10, .inr (.inl sL))), (aG, .inr (1, [.int gw, .int gd, .int gh, .long ga, .long gl, .long gr]))] [.ref aT, .long x1, .int x3]) (vp_Si (fun z => z = o)) 0 0 (fun _ => False) := by
  refine Met.ofW (cc := cX6_parentLevel) (maxL := 5) (ret := (some .int)) (by decide) rfl ?_
  intro p e s m args below meth c s₁ hB hml hv
  obtain ⟨hargs, hP, hK⟩ := hv
  have hx := hB.exec
  have hb := hB.bytes
  have hr := hB.returns
  have hts := atoms_spec (ws := wsX6_parentLevel) hB.pre
  have hown : s.vm.findClass RX6 = some m.cls := findClass_of_methodNamed hB.named
  have hlocks := hB.notSynchronized
  have hfix : CallFix p m c cX6_parentLevel 5 s args wsX6_parentLevel RX6 := ⟨hx, hb, hml, hown, hts⟩
  rw [show entryFrame m args 5 = entryFrame m ([.ref aT, .long x1, .int x3] : List Value).toArray 5 by rw [hargs], lg_entry_eq]
  have hl := lv_entry ([.ref aT, .long x1, .int x3]) (n := 5) (Nat.le_of_ble_eq_true rfl)
  generalize (lg_sl ([.ref aT, .long x1, .int x3]) ++ List.replicate (5 - (lg_sl ([.ref aT, .long x1, .int x3])).length) Slot.unset).toArray = ls at hl ⊢
  have hl : lv_has ls 5 [(0, .ref aT), (1, .long x1), (3, .int x3)] := hl
  generalize hQ : MQ below (vp_Si (fun z => z = o)) args s 0 0 (fun _ => False) = Q
  unfold fX6_parentLevel at h
  refine lv_iload_n hx hb dX6_parentLevel_0 rfl (lv_at hl 2 rfl) ?_
  refine lv_iconst (v := 1) hx hb dX6_parentLevel_1 (by decide) ?_
  refine lv_isub hx hb dX6_parentLevel_2 ?_
  refine lv_istore (lv' := [(4, .int (x3 - 1)), (0, .ref aT), (1, .long x1), (3, .int x3)]) hx hb dX6_parentLevel_3 hl (by decide) rfl (fun ls hl => ?_)
  have LP5 : ∀ (n : Nat) (x1 : Int64) (x4 : Int32) (z : (Int32) ⊕ (Unit)) (ls : Array Slot), fX6_parentLevel_L5 n x1 x4 gw gd gh ga gl gr sL tP tN tz = some z → lv_has ls 5 [(0, .ref aT), (1, .long x1), (4, .int x4)] → (∀ x, z = .inl x → x = o) → (∀ (t : Unit), z = .inr t → ∀ (ls : Array Slot), lv_has ls 5 [] → W p l e (headSpec wsX6_parentLevel rmX6_parentLevel).room s m args below meth c s.heap [] 0 0 Q (F0 m 31 ls [])) → W p l e (headSpec wsX6_parentLevel rmX6_parentLevel).room s m args below meth c s.heap [] 0 0 Q (F0 m 5 ls []) := by
    intro n
    induction n with
    | zero =>
      intro x1 x4 z ls h hl hret hk
      exact nomatch ((fX6_parentLevel_L5_z x1 x4 gw gd gh ga gl gr sL tP tN tz).symm.trans h)
    | succ n ih =>
      intro x1 x4 z ls h hl hret hk
      rw [fX6_parentLevel_L5_s] at h
      refine lv_iload hx hb dX6_parentLevel_5 (lv_at hl 2 rfl) ?_
      refine lv_if_lt (tgt := 31) hx hb dX6_parentLevel_7 (by decide) (fun g1 => ?_) (fun g1 => ?_)
      · rw [if_pos g1] at h
        exact hk () (Option.some.inj h).symm ls (lv_sub hl [] rfl) 
      · rw [if_neg g1] at h
        refine lv_aload_n hx hb dX6_parentLevel_10 rfl (lv_at hl 0 rfl) ?_
        refine lv_iload hx hb dX6_parentLevel_11 (lv_at hl 2 rfl) ?_
        refine lv_lload_n hx hb dX6_parentLevel_13 rfl (lv_at hl 1 rfl) ?_
        obtain ⟨v2, hc3, h⟩ := sh_b1_e h
        refine sh_cVl (As := [.int x4, .long x1]) (rest := []) hfix (k_X6_partAt l D cI cJ cZ aG aS aY aT aP aN gw gd gh ga gl gr sL tP tN tz x4 x1 v2 hc3) (cwV 2 hts gX6_parentLevel_X6_partAt rfl rfl rfl hdV_X6_partAt ⟨Nat.le_of_ble_eq_true rfl, Nat.le_of_ble_eq_true rfl⟩) hP hK [0, 1, 2, 3, 4, 5] rfl 0 rfl rfl rfl hl.1 rfl (Nat.le_of_ble_eq_true rfl) dX6_parentLevel_14 ⟨Nat.zero_le _, Nat.zero_le _⟩ ?_
        refine lv_lload_n hx hb dX6_parentLevel_17 rfl (lv_at hl 1 rfl) ?_
        refine sh_leq (tgt := 25) hx hb dX6_parentLevel_18 dX6_parentLevel_19 (by decide) (fun g4 => ?_) (fun g4 => ?_)
        · rw [if_pos g4] at h
          refine lv_iinc (v := (x4 + (-1))) (lv' := [(4, .int (x4 + (-1))), (0, .ref aT), (1, .long x1)]) hx hb dX6_parentLevel_25 hl (k := 2) rfl rfl (by decide) rfl (fun ls hl => ?_)
          refine lv_goto (tgt := 5) hx hb dX6_parentLevel_28 (by decide) ?_
          exact ih x1 (x4 + (-1)) z ls h (lv_sub hl [1, 2, 0] rfl)  hret hk
        · rw [if_neg g4] at h
          refine lv_iload hx hb dX6_parentLevel_22 (lv_at hl 2 rfl) ?_
          exact sh_roi hx hb hr hlocks hQ (hret _ (Option.some.inj h).symm) dX6_parentLevel_24
  obtain ⟨z6, hcz6, hrz6, hkz6⟩ := sh_bs_e h
  refine LP5 sh_fu x1 (x3 - 1) z6 ls hcz6 (lv_sub hl [1, 2, 0] rfl)  hrz6 (fun t7 et7 ls hl  => ?_)
  have h := hkz6 t7 et7
  refine lv_bipush (v := -9) hx hb dX6_parentLevel_31 (by decide) ?_
  exact sh_roi hx hb hr hlocks hQ (Option.some.inj h) dX6_parentLevel_33
theorem hdV_X6_parentHead : yX6_parentHead.cls = RX6 ∧ yX6_parentHead.cls ≠ "java/lang/invoke/MethodHandle" ∧ yX6_parentHead.cls ≠ "java/lang/invoke/VarHandle" ∧ (parseMethodDescriptor yX6_parentHead.desc).map (fun d => d.parameters.length) = some 2 := by decide +kernel
abbrev rmX6_parentHead : Room := { frames := 4, cells := 0, slots := 0, locals := 104 }
set_option maxHeartbeats 4000000 in
set_option maxRecDepth 100000 in
theorem k_X6_parentHead (l : Launch) (D : va_G) (cI cJ cZ : ClassId) (aG : Nat) (aS : Nat) (aY : Nat) (aT : Nat) (aP : Nat) (aN : Nat) (gw : Int32) (gd : Int32) (gh : Int32) (ga : Int64) (gl : Int64) (gr : Int64) (sL : Nat → Int64) (tP : Nat → Int64) (tN : Nat → Int32) (tz : Int32) (x1 : Int64) (x3 : Int32) (o : Int32) (h : fX6_parentHead gw gd gh ga gl gr sL tP tN tz x1 x3 = some o) : Met l yX6_parentHead wsX6_parentHead rmX6_parentHead (sh_Pr D (sh_ty cI cJ cZ) [(aT, .inr (6, [.ref aG, .ref aS, .ref aP, .ref aN, .int tz])), (aP, .inl (cJ, 36, .inr (.inl tP))), (aN, .inl (cI, 36, .inl tN)), (aS, .inr (2, [.ref aG, .ref aY])), (aY, .inl (cJ, 10, .inr (.inl sL))), (aG, .inr (1, [.int gw, .int gd, .int gh, .long ga, .long gl, .long gr]))] [.ref aT, .long x1, .int x3]) (vp_Si (fun z => z = o)) 0 0 (fun _ => False) := by
  refine Met.ofW (cc := cX6_parentHead) (maxL := 5) (ret := (some .int)) (by decide) rfl ?_
  intro p e s m args below meth c s₁ hB hml hv
  obtain ⟨hargs, hP, hK⟩ := hv
  have hx := hB.exec
  have hb := hB.bytes
  have hr := hB.returns
  have hts := atoms_spec (ws := wsX6_parentHead) hB.pre
  have hown : s.vm.findClass RX6 = some m.cls := findClass_of_methodNamed hB.named
  have hlocks := hB.notSynchronized
  have hfix : CallFix p m c cX6_parentHead 5 s args wsX6_parentHead RX6 := ⟨hx, hb, hml, hown, hts⟩
  rw [show entryFrame m args 5 = entryFrame m ([.ref aT, .long x1, .int x3] : List Value).toArray 5 by rw [hargs], lg_entry_eq]
  have hl := lv_entry ([.ref aT, .long x1, .int x3]) (n := 5) (Nat.le_of_ble_eq_true rfl)
  generalize (lg_sl ([.ref aT, .long x1, .int x3]) ++ List.replicate (5 - (lg_sl ([.ref aT, .long x1, .int x3])).length) Slot.unset).toArray = ls at hl ⊢
  have hl : lv_has ls 5 [(0, .ref aT), (1, .long x1), (3, .int x3)] := hl
  generalize hQ : MQ below (vp_Si (fun z => z = o)) args s 0 0 (fun _ => False) = Q
  unfold fX6_parentHead at h
  refine lv_aload_n hx hb dX6_parentHead_0 rfl (lv_at hl 0 rfl) ?_
  refine lv_lload_n hx hb dX6_parentHead_1 rfl (lv_at hl 1 rfl) ?_
  refine lv_iload_n hx hb dX6_parentHead_2 rfl (lv_at hl 2 rfl) ?_
  obtain ⟨v1, hc2, h⟩ := sh_b1_e h
  refine sh_cVi (As := [.long x1, .int x3]) (rest := []) hfix (k_X6_parentLevel l D cI cJ cZ aG aS aY aT aP aN gw gd gh ga gl gr sL tP tN tz x1 x3 v1 hc2) (cwV 2 hts gX6_parentHead_X6_parentLevel rfl rfl rfl hdV_X6_parentLevel ⟨Nat.le_of_ble_eq_true rfl, Nat.le_of_ble_eq_true rfl⟩) hP hK [0, 1, 2, 3, 4, 5] rfl 0 rfl rfl rfl hl.1 rfl (Nat.le_of_ble_eq_true rfl) dX6_parentHead_3 ⟨Nat.zero_le _, Nat.zero_le _⟩ ?_
  refine lv_istore (lv' := [(4, .int v1), (0, .ref aT), (1, .long x1), (3, .int x3)]) hx hb dX6_parentHead_6 hl (by decide) rfl (fun ls hl => ?_)
  refine lv_iload hx hb dX6_parentHead_8 (lv_at hl 0 rfl) ?_
  refine lv_bipush (v := -9) hx hb dX6_parentHead_10 (by decide) ?_
  refine lv_icmp_ne (tgt := 20) hx hb dX6_parentHead_12 (by decide) (fun g3 => ?_) (fun g3 => ?_)
  · rw [if_neg g3] at h
    refine lv_aload_n hx hb dX6_parentHead_20 rfl (lv_at hl 1 rfl) ?_
    refine lv_aload_n hx hb dX6_parentHead_21 rfl (lv_at hl 1 rfl) ?_
    refine lv_iload hx hb dX6_parentHead_22 (lv_at hl 0 rfl) ?_
    refine lv_lload_n hx hb dX6_parentHead_24 rfl (lv_at hl 2 rfl) ?_
    obtain ⟨v4, hc5, h⟩ := sh_b1_e h
    refine sh_cVl (As := [.int v1, .long x1]) (rest := [.ref aT]) hfix (k_X6_partAt l D cI cJ cZ aG aS aY aT aP aN gw gd gh ga gl gr sL tP tN tz v1 x1 v4 hc5) (cwV 2 hts gX6_parentHead_X6_partAt rfl rfl rfl hdV_X6_partAt ⟨Nat.le_of_ble_eq_true rfl, Nat.le_of_ble_eq_true rfl⟩) hP hK [0, 1, 2, 3, 4, 5] rfl 0 rfl rfl rfl hl.1 rfl (Nat.le_of_ble_eq_true rfl) dX6_parentHead_25 ⟨Nat.zero_le _, Nat.zero_le _⟩ ?_
    refine lv_iload hx hb dX6_parentHead_28 (lv_at hl 0 rfl) ?_
    obtain ⟨v6, hc7, h⟩ := sh_b1_e h
    refine sh_cVi (As := [.long v4, .int v1]) (rest := []) hfix (k_X6_head l D cI cJ cZ aG aS aY aT aP aN gw gd gh ga gl gr sL tP tN tz v4 v1 v6 hc7) (cwV 2 hts gX6_parentHead_X6_head rfl rfl rfl hdV_X6_head ⟨Nat.le_of_ble_eq_true rfl, Nat.le_of_ble_eq_true rfl⟩) hP hK [0, 1, 2, 3, 4, 5] rfl 0 rfl rfl rfl hl.1 rfl (Nat.le_of_ble_eq_true rfl) dX6_parentHead_30 ⟨Nat.zero_le _, Nat.zero_le _⟩ ?_
    exact sh_roi hx hb hr hlocks hQ (Option.some.inj h) dX6_parentHead_33
  · rw [if_pos g3] at h
    refine lv_bipush (v := -9) hx hb dX6_parentHead_15 (by decide) ?_
    refine lv_goto (tgt := 33) hx hb dX6_parentHead_17 (by decide) ?_
    exact sh_roi hx hb hr hlocks hQ (Option.some.inj h) dX6_parentHead_33
theorem hdV_X6_countChildren : yX6_countChildren.cls = RX6 ∧ yX6_countChildren.cls ≠ "java/lang/invoke/MethodHandle" ∧ yX6_countChildren.cls ≠ "java/lang/invoke/VarHandle" ∧ (parseMethodDescriptor yX6_countChildren.desc).map (fun d => d.parameters.length) = some 2 := by decide +kernel
abbrev rmX6_countChildren : Room := { frames := 3, cells := 0, slots := 0, locals := 83 }
set_option maxHeartbeats 4000000 in
set_option maxRecDepth 100000 in
theorem k_X6_countChildren (l : Launch) (D : va_G) (cI cJ cZ : ClassId) (aG : Nat) (aS : Nat) (aY : Nat) (aT : Nat) (aP : Nat) (aN : Nat) (gw : Int32) (gd : Int32) (gh : Int32) (ga : Int64) (gl : Int64) (gr : Int64) (sL : Nat → Int64) (tP : Nat → Int64) (tN : Nat → Int32) (tz : Int32) (x1 : Int64) (x3 : Int32) (o : Int32) (h : fX6_countChildren gw gd gl gr sL x1 x3 = some o) : Met l yX6_countChildren wsX6_countChildren rmX6_countChildren (sh_Pr D (sh_ty cI cJ cZ) [(aT, .inr (6, [.ref aG, .ref aS, .ref aP, .ref aN, .int tz])), (aP, .inl (cJ, 36, .inr (.inl tP))), (aN, .inl (cI, 36, .inl tN)), (aS, .inr (2, [.ref aG, .ref aY])), (aY, .inl (cJ, 10, .inr (.inl sL))), (aG, .inr (1, [.int gw, .int gd, .int gh, .long ga, .long gl, .long gr]))] [.ref aT, .long x1, .int x3]) (vp_Si (fun z => z = o)) 0 0 (fun _ => False) := by
  refine Met.ofW (cc := cX6_countChildren) (maxL := 4) (ret := (some .int)) (by decide) rfl ?_
  intro p e s m args below meth c s₁ hB hml hv
  obtain ⟨hargs, hP, hK⟩ := hv
  have hx := hB.exec
  have hb := hB.bytes
  have hr := hB.returns
  have hts := atoms_spec (ws := wsX6_countChildren) hB.pre
  have hown : s.vm.findClass RX6 = some m.cls := findClass_of_methodNamed hB.named
  have hlocks := hB.notSynchronized
  have hfix : CallFix p m c cX6_countChildren 4 s args wsX6_countChildren RX6 := ⟨hx, hb, hml, hown, hts⟩
  have hinX6 : ∀ w ∈ wsX60, w ∈ wsX6_countChildren := by decide +kernel
  have lk1 := hts (.fieldLink RX6 19 "ShadeTree$Tree" "grid" "LShadeTree$Grid;") (by decide +kernel)
  have lk2 := hts (.fieldLink RX6 23 "ShadeTree$Tree" "shades" "LShadeTree$Shades;") (by decide +kernel)
  rw [show entryFrame m args 4 = entryFrame m ([.ref aT, .long x1, .int x3] : List Value).toArray 4 by rw [hargs], lg_entry_eq]
  have hl := lv_entry ([.ref aT, .long x1, .int x3]) (n := 4) (Nat.le_of_ble_eq_true rfl)
  generalize (lg_sl ([.ref aT, .long x1, .int x3]) ++ List.replicate (4 - (lg_sl ([.ref aT, .long x1, .int x3])).length) Slot.unset).toArray = ls at hl ⊢
  have hl : lv_has ls 4 [(0, .ref aT), (1, .long x1), (3, .int x3)] := hl
  generalize hQ : MQ below (vp_Si (fun z => z = o)) args s 0 0 (fun _ => False) = Q
  unfold fX6_countChildren at h
  refine lv_aload_n hx hb dX6_countChildren_0 rfl (lv_at hl 0 rfl) ?_
  refine va_get (ci := 6) (v := .ref aG) (C := RX6) (T := TX6) (N := 5) hx hb hts hinX6 hown hK hP 0 rfl rfl 0 (by decide) lk1 (fun _ h9 => h9) rfl dX6_countChildren_1 ?_
  refine lv_lload_n hx hb dX6_countChildren_4 rfl (lv_at hl 1 rfl) ?_
  refine lv_aload_n hx hb dX6_countChildren_5 rfl (lv_at hl 0 rfl) ?_
  refine va_get (ci := 6) (v := .ref aS) (C := RX6) (T := TX6) (N := 5) hx hb hts hinX6 hown hK hP 0 rfl rfl 1 (by decide) lk2 (fun _ h9 => h9) rfl dX6_countChildren_6 ?_
  refine lv_iload_n hx hb dX6_countChildren_9 rfl (lv_at hl 2 rfl) ?_
  refine lv_iconst (v := 1) hx hb dX6_countChildren_10 (by decide) ?_
  refine lv_iadd hx hb dX6_countChildren_11 ?_
  obtain ⟨v1, hc2, h⟩ := sh_b1_e h
  refine sh_cVl (As := [.int (x3 + 1)]) (rest := [.long x1, .ref aG]) hfix (k_X2_atLeast l D cI cJ cZ aG aS aY gw gd gh ga gl gr sL (x3 + 1) v1 hc2) (cwV 1 hts gX6_countChildren_X2_atLeast rfl rfl rfl hdV_X2_atLeast ⟨Nat.le_of_ble_eq_true rfl, Nat.le_of_ble_eq_true rfl⟩) hP hK [3, 4, 5] rfl 3 rfl rfl rfl hl.1 rfl (Nat.le_of_ble_eq_true rfl) dX6_countChildren_12 ⟨Nat.zero_le _, Nat.zero_le _⟩ ?_
  refine lv_land hx hb dX6_countChildren_15 ?_
  refine lv_aload_n hx hb dX6_countChildren_16 rfl (lv_at hl 0 rfl) ?_
  refine va_get (ci := 6) (v := .ref aG) (C := RX6) (T := TX6) (N := 5) hx hb hts hinX6 hown hK hP 0 rfl rfl 0 (by decide) lk1 (fun _ h9 => h9) rfl dX6_countChildren_17 ?_
  obtain ⟨v3, hc4, h⟩ := sh_b1_e h
  refine sh_cVi (As := []) (rest := [.long (x1 &&& v1), .ref aG]) hfix (k_X1_way l D cI cJ cZ aG gw gd gh ga gl gr v3 hc4) (cwV 0 hts gX6_countChildren_X1_way rfl rfl rfl hdV_X1_way ⟨Nat.le_of_ble_eq_true rfl, Nat.le_of_ble_eq_true rfl⟩) hP hK [5] rfl 5 rfl rfl rfl hl.1 rfl (Nat.le_of_ble_eq_true rfl) dX6_countChildren_20 ⟨Nat.zero_le _, Nat.zero_le _⟩ ?_
  obtain ⟨v5, hc6, h⟩ := sh_b1_e h
  refine sh_cVi (As := [.long (x1 &&& v1), .int v3]) (rest := []) hfix (k_X1_countParts l D cI cJ cZ aG gw gd gh ga gl gr (x1 &&& v1) v3 v5 hc6) (cwV 2 hts gX6_countChildren_X1_countParts rfl rfl rfl hdV_X1_countParts ⟨Nat.le_of_ble_eq_true rfl, Nat.le_of_ble_eq_true rfl⟩) hP hK [5] rfl 5 rfl rfl rfl hl.1 rfl (Nat.le_of_ble_eq_true rfl) dX6_countChildren_23 ⟨Nat.zero_le _, Nat.zero_le _⟩ ?_
  exact sh_roi hx hb hr hlocks hQ (Option.some.inj h) dX6_countChildren_26
theorem hdV_X6_depth : yX6_depth.cls = RX6 ∧ yX6_depth.cls ≠ "java/lang/invoke/MethodHandle" ∧ yX6_depth.cls ≠ "java/lang/invoke/VarHandle" ∧ (parseMethodDescriptor yX6_depth.desc).map (fun d => d.parameters.length) = some 2 := by decide +kernel
abbrev rmX6_depth : Room := { frames := 3, cells := 0, slots := 0, locals := 80 }
set_option maxHeartbeats 4000000 in
set_option maxRecDepth 100000 in
theorem k_X6_depth (l : Launch) (D : va_G) (cI cJ cZ : ClassId) (aG : Nat) (aS : Nat) (aY : Nat) (aT : Nat) (aP : Nat) (aN : Nat) (gw : Int32) (gd : Int32) (gh : Int32) (ga : Int64) (gl : Int64) (gr : Int64) (sL : Nat → Int64) (tP : Nat → Int64) (tN : Nat → Int32) (tz : Int32) (x1 : Int64) (x3 : Int32) (o : Int32) (h : fX6_depth gw gd gl gr sL x1 x3 = some o) : Met l yX6_depth wsX6_depth rmX6_depth (sh_Pr D (sh_ty cI cJ cZ) [(aT, .inr (6, [.ref aG, .ref aS, .ref aP, .ref aN, .int tz])), (aP, .inl (cJ, 36, .inr (.inl tP))), (aN, .inl (cI, 36, .inl tN)), (aS, .inr (2, [.ref aG, .ref aY])), (aY, .inl (cJ, 10, .inr (.inl sL))), (aG, .inr (1, [.int gw, .int gd, .int gh, .long ga, .long gl, .long gr]))] [.ref aT, .long x1, .int x3]) (vp_Si (fun z => z = o)) 0 0 (fun _ => False) := by
  refine Met.ofW (cc := cX6_depth) (maxL := 10) (ret := (some .int)) (by decide) rfl ?_
  intro p e s m args below meth c s₁ hB hml hv
  obtain ⟨hargs, hP, hK⟩ := hv
  have hx := hB.exec
  have hb := hB.bytes
  have hr := hB.returns
  have hts := atoms_spec (ws := wsX6_depth) hB.pre
  have hown : s.vm.findClass RX6 = some m.cls := findClass_of_methodNamed hB.named
  have hlocks := hB.notSynchronized
  have hfix : CallFix p m c cX6_depth 10 s args wsX6_depth RX6 := ⟨hx, hb, hml, hown, hts⟩
  rw [show entryFrame m args 10 = entryFrame m ([.ref aT, .long x1, .int x3] : List Value).toArray 10 by rw [hargs], lg_entry_eq]
  have hl := lv_entry ([.ref aT, .long x1, .int x3]) (n := 10) (Nat.le_of_ble_eq_true rfl)
  generalize (lg_sl ([.ref aT, .long x1, .int x3]) ++ List.replicate (10 - (lg_sl ([.ref aT, .long x1, .int x3])).length) Slot.unset).toArray = ls at hl ⊢
  have hl : lv_has ls 10 [(0, .ref aT), (1, .long x1), (3, .int x3)] := hl
  generalize hQ : MQ below (vp_Si (fun z => z = o)) args s 0 0 (fun _ => False) = Q
  unfold fX6_depth at h
  refine lv_iconst (v := 0) hx hb dX6_depth_0 (by decide) ?_
  refine lv_istore (lv' := [(4, .int 0), (0, .ref aT), (1, .long x1), (3, .int x3)]) hx hb dX6_depth_1 hl (by decide) rfl (fun ls hl => ?_)
  refine lv_lload_n hx hb dX6_depth_3 rfl (lv_at hl 2 rfl) ?_
  refine lv_lstore (lv' := [(5, .long x1), (4, .int 0), (0, .ref aT), (1, .long x1), (3, .int x3)]) hx hb dX6_depth_4 hl (by decide) rfl (fun ls hl => ?_)
  refine lv_iload_n hx hb dX6_depth_6 rfl (lv_at hl 4 rfl) ?_
  refine lv_iconst (v := 1) hx hb dX6_depth_7 (by decide) ?_
  refine lv_isub hx hb dX6_depth_8 ?_
  refine lv_istore (lv' := [(7, .int (x3 - 1)), (5, .long x1), (4, .int 0), (0, .ref aT), (1, .long x1), (3, .int x3)]) hx hb dX6_depth_9 hl (by decide) rfl (fun ls hl => ?_)
  have LP5 : ∀ (n : Nat) (x4 : Int32) (x5 : Int64) (x7 : Int32) (ow4 : Int32) (ls : Array Slot), fX6_depth_L11 n x4 x5 x7 gw gd gl gr sL = some ow4 → lv_has ls 10 [(0, .ref aT), (4, .int x4), (5, .long x5), (7, .int x7)] → (∀ (ls : Array Slot), lv_has ls 10 [(4, .int ow4)] → W p l e (headSpec wsX6_depth rmX6_depth).room s m args below meth c s.heap [] 0 0 Q (F0 m 47 ls [])) → W p l e (headSpec wsX6_depth rmX6_depth).room s m args below meth c s.heap [] 0 0 Q (F0 m 11 ls []) := by
    intro n
    induction n with
    | zero =>
      intro x4 x5 x7 ow4 ls h hl hk
      exact nomatch ((fX6_depth_L11_z x4 x5 x7 gw gd gl gr sL).symm.trans h)
    | succ n ih =>
      intro x4 x5 x7 ow4 ls h hl hk
      rw [fX6_depth_L11_s] at h
      refine lv_iload hx hb dX6_depth_11 (lv_at hl 3 rfl) ?_
      refine lv_if_lt (tgt := 47) hx hb dX6_depth_13 (by decide) (fun g1 => ?_) (fun g1 => ?_)
      · rw [if_pos g1] at h
        cases h
        exact hk ls (lv_sub hl [1] rfl) 
      · rw [if_neg g1] at h
        refine lv_aload_n hx hb dX6_depth_16 rfl (lv_at hl 0 rfl) ?_
        refine lv_iload hx hb dX6_depth_17 (lv_at hl 3 rfl) ?_
        refine lv_lload hx hb dX6_depth_19 (lv_at hl 2 rfl) ?_
        obtain ⟨v2, hc3, h⟩ := sh_b1_e h
        refine sh_cVl (As := [.int x7, .long x5]) (rest := []) hfix (k_X6_partAt l D cI cJ cZ aG aS aY aT aP aN gw gd gh ga gl gr sL tP tN tz x7 x5 v2 hc3) (cwV 2 hts gX6_depth_X6_partAt rfl rfl rfl hdV_X6_partAt ⟨Nat.le_of_ble_eq_true rfl, Nat.le_of_ble_eq_true rfl⟩) hP hK [0, 1, 2, 3, 4, 5] rfl 0 rfl rfl rfl hl.1 rfl (Nat.le_of_ble_eq_true rfl) dX6_depth_21 ⟨Nat.zero_le _, Nat.zero_le _⟩ ?_
        refine lv_lstore (lv' := [(8, .long v2), (0, .ref aT), (4, .int x4), (5, .long x5), (7, .int x7)]) hx hb dX6_depth_24 hl (by decide) rfl (fun ls hl => ?_)
        refine lv_lload hx hb dX6_depth_26 (lv_at hl 0 rfl) ?_
        refine lv_lload hx hb dX6_depth_28 (lv_at hl 3 rfl) ?_
        refine sh_leq (tgt := 41) hx hb dX6_depth_30 dX6_depth_31 (by decide) (fun g4 => ?_) (fun g4 => ?_)
        · rw [if_pos g4] at h
          refine lv_iinc (v := (x7 + (-1))) (lv' := [(7, .int (x7 + (-1))), (8, .long v2), (0, .ref aT), (4, .int x4), (5, .long x5)]) hx hb dX6_depth_41 hl (k := 4) rfl rfl (by decide) rfl (fun ls hl => ?_)
          refine lv_goto (tgt := 11) hx hb dX6_depth_44 (by decide) ?_
          exact ih x4 x5 (x7 + (-1)) ow4 ls h (lv_sub hl [2, 3, 4, 0] rfl)  hk
        · rw [if_neg g4] at h
          refine lv_iinc (v := (x4 + 1)) (lv' := [(4, .int (x4 + 1)), (8, .long v2), (0, .ref aT), (5, .long x5), (7, .int x7)]) hx hb dX6_depth_34 hl (k := 2) rfl rfl (by decide) rfl (fun ls hl => ?_)
          refine lv_lload hx hb dX6_depth_37 (lv_at hl 1 rfl) ?_
          refine lv_lstore (lv' := [(5, .long v2), (4, .int (x4 + 1)), (8, .long v2), (0, .ref aT), (7, .int x7)]) hx hb dX6_depth_39 hl (by decide) rfl (fun ls hl => ?_)
          refine lv_iinc (v := (x7 + (-1))) (lv' := [(7, .int (x7 + (-1))), (5, .long v2), (4, .int (x4 + 1)), (8, .long v2), (0, .ref aT)]) hx hb dX6_depth_41 hl (k := 4) rfl rfl (by decide) rfl (fun ls hl => ?_)
          refine lv_goto (tgt := 11) hx hb dX6_depth_44 (by decide) ?_
          exact ih (x4 + 1) v2 (x7 + (-1)) ow4 ls h (lv_sub hl [4, 2, 1, 0] rfl)  hk
  obtain ⟨w6, hc7, h⟩ := sh_b1_e h
  refine LP5 sh_fu 0 x1 (x3 - 1) w6 ls hc7 (lv_sub hl [3, 2, 1, 0] rfl)  (fun ls hl  => ?_)
  refine lv_iload hx hb dX6_depth_47 (lv_at hl 0 rfl) ?_
  exact sh_roi hx hb hr hlocks hQ (Option.some.inj h) dX6_depth_49
theorem hdV_X6_rise : yX6_rise.cls = RX6 ∧ yX6_rise.cls ≠ "java/lang/invoke/MethodHandle" ∧ yX6_rise.cls ≠ "java/lang/invoke/VarHandle" ∧ (parseMethodDescriptor yX6_rise.desc).map (fun d => d.parameters.length) = some 2 := by decide +kernel
abbrev rmX6_rise : Room := { frames := 3, cells := 0, slots := 0, locals := 80 }
set_option maxHeartbeats 4000000 in
set_option maxRecDepth 100000 in
theorem k_X6_rise (l : Launch) (D : va_G) (cI cJ cZ : ClassId) (aG : Nat) (aS : Nat) (aY : Nat) (aT : Nat) (aP : Nat) (aN : Nat) (gw : Int32) (gd : Int32) (gh : Int32) (ga : Int64) (gl : Int64) (gr : Int64) (sL : Nat → Int64) (tP : Nat → Int64) (tN : Nat → Int32) (tz : Int32) (x1 : Int64) (x3 : Int32) (o : Int32) (h : fX6_rise gw gd gh ga gl gr sL tP tN tz x1 x3 = some o) : Met l yX6_rise wsX6_rise rmX6_rise (sh_Pr D (sh_ty cI cJ cZ) [(aT, .inr (6, [.ref aG, .ref aS, .ref aP, .ref aN, .int tz])), (aP, .inl (cJ, 36, .inr (.inl tP))), (aN, .inl (cI, 36, .inl tN)), (aS, .inr (2, [.ref aG, .ref aY])), (aY, .inl (cJ, 10, .inr (.inl sL))), (aG, .inr (1, [.int gw, .int gd, .int gh, .long ga, .long gl, .long gr]))] [.ref aT, .long x1, .int x3]) (vp_Si (fun z => z = o)) 0 0 (fun _ => False) := by
  refine Met.ofW (cc := cX6_rise) (maxL := 7) (ret := (some .int)) (by decide) rfl ?_
  intro p e s m args below meth c s₁ hB hml hv
  obtain ⟨hargs, hP, hK⟩ := hv
  have hx := hB.exec
  have hb := hB.bytes
  have hr := hB.returns
  have hts := atoms_spec (ws := wsX6_rise) hB.pre
  have hown : s.vm.findClass RX6 = some m.cls := findClass_of_methodNamed hB.named
  have hlocks := hB.notSynchronized
  have hfix : CallFix p m c cX6_rise 7 s args wsX6_rise RX6 := ⟨hx, hb, hml, hown, hts⟩
  have hinX6 : ∀ w ∈ wsX60, w ∈ wsX6_rise := by decide +kernel
  have lk1 := hts (.fieldLink RX6 23 "ShadeTree$Tree" "shades" "LShadeTree$Shades;") (by decide +kernel)
  rw [show entryFrame m args 7 = entryFrame m ([.ref aT, .long x1, .int x3] : List Value).toArray 7 by rw [hargs], lg_entry_eq]
  have hl := lv_entry ([.ref aT, .long x1, .int x3]) (n := 7) (Nat.le_of_ble_eq_true rfl)
  generalize (lg_sl ([.ref aT, .long x1, .int x3]) ++ List.replicate (7 - (lg_sl ([.ref aT, .long x1, .int x3])).length) Slot.unset).toArray = ls at hl ⊢
  have hl : lv_has ls 7 [(0, .ref aT), (1, .long x1), (3, .int x3)] := hl
  generalize hQ : MQ below (vp_Si (fun z => z = o)) args s 0 0 (fun _ => False) = Q
  unfold fX6_rise at h
  refine lv_aload_n hx hb dX6_rise_0 rfl (lv_at hl 0 rfl) ?_
  refine va_get (ci := 6) (v := .ref aS) (C := RX6) (T := TX6) (N := 5) hx hb hts hinX6 hown hK hP 0 rfl rfl 1 (by decide) lk1 (fun _ h9 => h9) rfl dX6_rise_1 ?_
  refine lv_aload_n hx hb dX6_rise_4 rfl (lv_at hl 0 rfl) ?_
  refine va_get (ci := 6) (v := .ref aS) (C := RX6) (T := TX6) (N := 5) hx hb hts hinX6 hown hK hP 0 rfl rfl 1 (by decide) lk1 (fun _ h9 => h9) rfl dX6_rise_5 ?_
  refine lv_lload_n hx hb dX6_rise_8 rfl (lv_at hl 1 rfl) ?_
  obtain ⟨v1, hc2, h⟩ := sh_b1_e h
  refine sh_cVi (As := [.long x1]) (rest := [.ref aS]) hfix (k_X2_brightest l D cI cJ cZ aG aS aY gw gd gh ga gl gr sL x1 v1 hc2) (cwV 1 hts gX6_rise_X2_brightest rfl rfl rfl hdV_X2_brightest ⟨Nat.le_of_ble_eq_true rfl, Nat.le_of_ble_eq_true rfl⟩) hP hK [3, 4, 5] rfl 3 rfl rfl rfl hl.1 rfl (Nat.le_of_ble_eq_true rfl) dX6_rise_9 ⟨Nat.zero_le _, Nat.zero_le _⟩ ?_
  refine lv_iconst (v := 1) hx hb dX6_rise_12 (by decide) ?_
  refine lv_iadd hx hb dX6_rise_13 ?_
  obtain ⟨v3, hc4, h⟩ := sh_b1_e h
  refine sh_cVl (As := [.int (v1 + 1)]) (rest := []) hfix (k_X2_atLeast l D cI cJ cZ aG aS aY gw gd gh ga gl gr sL (v1 + 1) v3 hc4) (cwV 1 hts gX6_rise_X2_atLeast rfl rfl rfl hdV_X2_atLeast ⟨Nat.le_of_ble_eq_true rfl, Nat.le_of_ble_eq_true rfl⟩) hP hK [3, 4, 5] rfl 3 rfl rfl rfl hl.1 rfl (Nat.le_of_ble_eq_true rfl) dX6_rise_14 ⟨Nat.zero_le _, Nat.zero_le _⟩ ?_
  refine lv_lstore (lv' := [(4, .long v3), (0, .ref aT), (1, .long x1), (3, .int x3)]) hx hb dX6_rise_17 hl (by decide) rfl (fun ls hl => ?_)
  refine lv_lload hx hb dX6_rise_19 (lv_at hl 0 rfl) ?_
  refine lv_lconst (v := 0) hx hb dX6_rise_21 (by decide) ?_
  refine sh_lne (tgt := 29) hx hb dX6_rise_22 dX6_rise_23 (by decide) (fun g5 => ?_) (fun g5 => ?_)
  · rw [if_neg g5] at h
    refine lv_iload_n hx hb dX6_rise_29 rfl (lv_at hl 3 rfl) ?_
    refine lv_iconst (v := 1) hx hb dX6_rise_30 (by decide) ?_
    refine lv_isub hx hb dX6_rise_31 ?_
    refine lv_istore (lv' := [(6, .int (x3 - 1)), (4, .long v3), (0, .ref aT), (1, .long x1), (3, .int x3)]) hx hb dX6_rise_32 hl (by decide) rfl (fun ls hl => ?_)
    have LP10 : ∀ (n : Nat) (x1 : Int64) (x3 : Int32) (x4 : Int64) (x6 : Int32) (z : (Int32) ⊕ (Unit)) (ls : Array Slot), fX6_rise_L34 n x1 x3 x4 x6 gw gd gh ga gl gr sL tP tN tz = some z → lv_has ls 7 [(0, .ref aT), (1, .long x1), (3, .int x3), (4, .long x4), (6, .int x6)] → (∀ x, z = .inl x → x = o) → (∀ (t : Unit), z = .inr t → ∀ (ls : Array Slot), lv_has ls 7 [] → W p l e (headSpec wsX6_rise rmX6_rise).room s m args below meth c s.heap [] 0 0 Q (F0 m 65 ls [])) → W p l e (headSpec wsX6_rise rmX6_rise).room s m args below meth c s.heap [] 0 0 Q (F0 m 34 ls []) := by
      intro n
      induction n with
      | zero =>
        intro x1 x3 x4 x6 z ls h hl hret hk
        exact nomatch ((fX6_rise_L34_z x1 x3 x4 x6 gw gd gh ga gl gr sL tP tN tz).symm.trans h)
      | succ n ih =>
        intro x1 x3 x4 x6 z ls h hl hret hk
        rw [fX6_rise_L34_s] at h
        refine lv_iload hx hb dX6_rise_34 (lv_at hl 4 rfl) ?_
        refine lv_if_lt (tgt := 65) hx hb dX6_rise_36 (by decide) (fun g6 => ?_) (fun g6 => ?_)
        · rw [if_pos g6] at h
          exact hk () (Option.some.inj h).symm ls (lv_sub hl [] rfl) 
        · rw [if_neg g6] at h
          refine lv_aload_n hx hb dX6_rise_39 rfl (lv_at hl 0 rfl) ?_
          refine lv_iload hx hb dX6_rise_40 (lv_at hl 4 rfl) ?_
          refine lv_lload_n hx hb dX6_rise_42 rfl (lv_at hl 1 rfl) ?_
          obtain ⟨v7, hc8, h⟩ := sh_b1_e h
          refine sh_cVl (As := [.int x6, .long x1]) (rest := []) hfix (k_X6_partAt l D cI cJ cZ aG aS aY aT aP aN gw gd gh ga gl gr sL tP tN tz x6 x1 v7 hc8) (cwV 2 hts gX6_rise_X6_partAt rfl rfl rfl hdV_X6_partAt ⟨Nat.le_of_ble_eq_true rfl, Nat.le_of_ble_eq_true rfl⟩) hP hK [0, 1, 2, 3, 4, 5] rfl 0 rfl rfl rfl hl.1 rfl (Nat.le_of_ble_eq_true rfl) dX6_rise_43 ⟨Nat.zero_le _, Nat.zero_le _⟩ ?_
          refine lv_lload hx hb dX6_rise_46 (lv_at hl 3 rfl) ?_
          refine lv_land hx hb dX6_rise_48 ?_
          refine lv_lconst (v := 0) hx hb dX6_rise_49 (by decide) ?_
          refine sh_leq (tgt := 59) hx hb dX6_rise_50 dX6_rise_51 (by decide) (fun g9 => ?_) (fun g9 => ?_)
          · rw [if_pos g9] at h
            refine lv_iinc (v := (x6 + (-1))) (lv' := [(6, .int (x6 + (-1))), (0, .ref aT), (1, .long x1), (3, .int x3), (4, .long x4)]) hx hb dX6_rise_59 hl (k := 4) rfl rfl (by decide) rfl (fun ls hl => ?_)
            refine lv_goto (tgt := 34) hx hb dX6_rise_62 (by decide) ?_
            exact ih x1 x3 x4 (x6 + (-1)) z ls h (lv_sub hl [1, 2, 3, 4, 0] rfl)  hret hk
          · rw [if_neg g9] at h
            refine lv_iload_n hx hb dX6_rise_54 rfl (lv_at hl 2 rfl) ?_
            refine lv_iload hx hb dX6_rise_55 (lv_at hl 4 rfl) ?_
            refine lv_isub hx hb dX6_rise_57 ?_
            exact sh_roi hx hb hr hlocks hQ (hret _ (Option.some.inj h).symm) dX6_rise_58
    obtain ⟨z11, hcz11, hrz11, hkz11⟩ := sh_bs_e h
    refine LP10 sh_fu x1 x3 v3 (x3 - 1) z11 ls hcz11 (lv_sub hl [2, 3, 4, 1, 0] rfl)  hrz11 (fun t12 et12 ls hl  => ?_)
    have h := hkz11 t12 et12
    refine lv_bipush (v := -9) hx hb dX6_rise_65 (by decide) ?_
    exact sh_roi hx hb hr hlocks hQ (Option.some.inj h) dX6_rise_67
  · rw [if_pos g5] at h
    refine lv_bipush (v := -9) hx hb dX6_rise_26 (by decide) ?_
    exact sh_roi hx hb hr hlocks hQ (Option.some.inj h) dX6_rise_28
theorem hdV_X6_gain : yX6_gain.cls = RX6 ∧ yX6_gain.cls ≠ "java/lang/invoke/MethodHandle" ∧ yX6_gain.cls ≠ "java/lang/invoke/VarHandle" ∧ (parseMethodDescriptor yX6_gain.desc).map (fun d => d.parameters.length) = some 3 := by decide +kernel
abbrev rmX6_gain : Room := { frames := 3, cells := 0, slots := 0, locals := 80 }
set_option maxHeartbeats 4000000 in
set_option maxRecDepth 100000 in
theorem k_X6_gain (l : Launch) (D : va_G) (cI cJ cZ : ClassId) (aG : Nat) (aS : Nat) (aY : Nat) (aT : Nat) (aP : Nat) (aN : Nat) (gw : Int32) (gd : Int32) (gh : Int32) (ga : Int64) (gl : Int64) (gr : Int64) (sL : Nat → Int64) (tP : Nat → Int64) (tN : Nat → Int32) (tz : Int32) (x1 : Int64) (x3 : Int32) (x4 : Int32) (o : Int32) (h : fX6_gain gw gd gl gr sL x1 x3 x4 = some o) : Met l yX6_gain wsX6_gain rmX6_gain (sh_Pr D (sh_ty cI cJ cZ) [(aT, .inr (6, [.ref aG, .ref aS, .ref aP, .ref aN, .int tz])), (aP, .inl (cJ, 36, .inr (.inl tP))), (aN, .inl (cI, 36, .inl tN)), (aS, .inr (2, [.ref aG, .ref aY])), (aY, .inl (cJ, 10, .inr (.inl sL))), (aG, .inr (1, [.int gw, .int gd, .int gh, .long ga, .long gl, .long gr]))] [.ref aT, .long x1, .int x3, .int x4]) (vp_Si (fun z => z = o)) 0 0 (fun _ => False) := by
  refine Met.ofW (cc := cX6_gain) (maxL := 5) (ret := (some .int)) (by decide) rfl ?_
  intro p e s m args below meth c s₁ hB hml hv
  obtain ⟨hargs, hP, hK⟩ := hv
  have hx := hB.exec
  have hb := hB.bytes
  have hr := hB.returns
  have hts := atoms_spec (ws := wsX6_gain) hB.pre
  have hown : s.vm.findClass RX6 = some m.cls := findClass_of_methodNamed hB.named
  have hlocks := hB.notSynchronized
  have hfix : CallFix p m c cX6_gain 5 s args wsX6_gain RX6 := ⟨hx, hb, hml, hown, hts⟩
  have lk1 := hts (.methodLink RX6 79 Lib.Math.max.name) (by decide +kernel)
  have lk2 := hts (.static Lib.Math.max.name) (by decide +kernel)
  have lk3 := hts (.initialized "java/lang/Math") (by decide +kernel)
  have lk4 := hts (.code Lib.Math.max.name Lib.Math.max.code 2 (some .int)) (by decide +kernel)
  have lk5 := hts (.constantLong RX6 43 (-1)) (by decide +kernel)
  rw [show entryFrame m args 5 = entryFrame m ([.ref aT, .long x1, .int x3, .int x4] : List Value).toArray 5 by rw [hargs], lg_entry_eq]
  have hl := lv_entry ([.ref aT, .long x1, .int x3, .int x4]) (n := 5) (Nat.le_of_ble_eq_true rfl)
  generalize (lg_sl ([.ref aT, .long x1, .int x3, .int x4]) ++ List.replicate (5 - (lg_sl ([.ref aT, .long x1, .int x3, .int x4])).length) Slot.unset).toArray = ls at hl ⊢
  have hl : lv_has ls 5 [(0, .ref aT), (1, .long x1), (3, .int x3), (4, .int x4)] := hl
  generalize hQ : MQ below (vp_Si (fun z => z = o)) args s 0 0 (fun _ => False) = Q
  unfold fX6_gain at h
  refine lv_aload_n hx hb dX6_gain_0 rfl (lv_at hl 0 rfl) ?_
  refine lv_iload_n hx hb dX6_gain_1 rfl (lv_at hl 2 rfl) ?_
  refine lv_iload hx hb dX6_gain_2 (lv_at hl 3 rfl) ?_
  refine lv_isub hx hb dX6_gain_4 ?_
  refine lv_iconst (v := 0) hx hb dX6_gain_5 (by decide) ?_
  refine va_mmax hx hb (hml.trans hl.1.symm) hown lk1 lk2 lk3 lk4 (Nat.le_of_ble_eq_true rfl) (Nat.le_of_ble_eq_true rfl) (Nat.zero_le _) (Nat.zero_le _) dX6_gain_6 ?_
  refine W.eq (g2 := F0 m 9 ls [.int (sh_max (x3 - x4) 0), .ref aT]) rfl ?_
  refine lv_lload_n hx hb dX6_gain_9 rfl (lv_at hl 1 rfl) ?_
  obtain ⟨v1, hc2, h⟩ := sh_b1_e h
  refine sh_cVl (As := [.int (sh_max (x3 - x4) 0), .long x1]) (rest := []) hfix (k_X6_partAt l D cI cJ cZ aG aS aY aT aP aN gw gd gh ga gl gr sL tP tN tz (sh_max (x3 - x4) 0) x1 v1 hc2) (cwV 2 hts gX6_gain_X6_partAt rfl rfl rfl hdV_X6_partAt ⟨Nat.le_of_ble_eq_true rfl, Nat.le_of_ble_eq_true rfl⟩) hP hK [0, 1, 2, 3, 4, 5] rfl 0 rfl rfl rfl hl.1 rfl (Nat.le_of_ble_eq_true rfl) dX6_gain_10 ⟨Nat.zero_le _, Nat.zero_le _⟩ ?_
  refine lv_lload_n hx hb dX6_gain_13 rfl (lv_at hl 1 rfl) ?_
  refine lv_ldc2 hx hb hown lk5 dX6_gain_14 ?_
  refine lv_lxor hx hb dX6_gain_17 ?_
  refine lv_land hx hb dX6_gain_18 ?_
  obtain ⟨v3, hc4, h⟩ := sh_b1_e h
  refine sh_cSi (As := [.long (v1 &&& (x1 ^^^ (-1)))]) (rest := []) hfix (k_J13_bitCount_95d88 l D cI cJ cZ (v1 &&& (x1 ^^^ (-1))) v3 hc4) (va_cwS 1 hts gX6_gain_J13_bitCount_95d88 rfl rfl rfl hdS_J13_bitCount_95d88 ⟨Nat.le_of_ble_eq_true rfl, Nat.le_of_ble_eq_true rfl⟩) hP hK [] rfl rfl hl.1 rfl (Nat.le_of_ble_eq_true rfl) dX6_gain_19 ⟨Nat.zero_le _, Nat.zero_le _⟩ ?_
  exact sh_roi hx hb hr hlocks hQ (Option.some.inj h) dX6_gain_22
theorem hdV_X6_darkest : yX6_darkest.cls = RX6 ∧ yX6_darkest.cls ≠ "java/lang/invoke/MethodHandle" ∧ yX6_darkest.cls ≠ "java/lang/invoke/VarHandle" ∧ (parseMethodDescriptor yX6_darkest.desc).map (fun d => d.parameters.length) = some 1 := by decide +kernel
abbrev rmX6_darkest : Room := { frames := 1, cells := 0, slots := 0, locals := 21 }
set_option maxHeartbeats 4000000 in
set_option maxRecDepth 100000 in
theorem k_X6_darkest (l : Launch) (D : va_G) (cI cJ cZ : ClassId) (aG : Nat) (aS : Nat) (aY : Nat) (aT : Nat) (aP : Nat) (aN : Nat) (gw : Int32) (gd : Int32) (gh : Int32) (ga : Int64) (gl : Int64) (gr : Int64) (sL : Nat → Int64) (tP : Nat → Int64) (tN : Nat → Int32) (tz : Int32) (x1 : Int64) (o : Int32) (h : fX6_darkest gw gd gh ga gl gr sL tP tN tz x1 = some o) : Met l yX6_darkest wsX6_darkest rmX6_darkest (sh_Pr D (sh_ty cI cJ cZ) [(aT, .inr (6, [.ref aG, .ref aS, .ref aP, .ref aN, .int tz])), (aP, .inl (cJ, 36, .inr (.inl tP))), (aN, .inl (cI, 36, .inl tN)), (aS, .inr (2, [.ref aG, .ref aY])), (aY, .inl (cJ, 10, .inr (.inl sL))), (aG, .inr (1, [.int gw, .int gd, .int gh, .long ga, .long gl, .long gr]))] [.ref aT, .long x1]) (vp_Si (fun z => z = o)) 0 0 (fun _ => False) := by
  refine Met.ofW (cc := cX6_darkest) (maxL := 4) (ret := (some .int)) (by decide) rfl ?_
  intro p e s m args below meth c s₁ hB hml hv
  obtain ⟨hargs, hP, hK⟩ := hv
  have hx := hB.exec
  have hb := hB.bytes
  have hr := hB.returns
  have hts := atoms_spec (ws := wsX6_darkest) hB.pre
  have hown : s.vm.findClass RX6 = some m.cls := findClass_of_methodNamed hB.named
  have hlocks := hB.notSynchronized
  have hfix : CallFix p m c cX6_darkest 4 s args wsX6_darkest RX6 := ⟨hx, hb, hml, hown, hts⟩
  have hinX6 : ∀ w ∈ wsX60, w ∈ wsX6_darkest := by decide +kernel
  have lk1 := hts (.fieldLink RX6 23 "ShadeTree$Tree" "shades" "LShadeTree$Shades;") (by decide +kernel)
  have lk2 := hts (.constantLong RX6 43 (-1)) (by decide +kernel)
  rw [show entryFrame m args 4 = entryFrame m ([.ref aT, .long x1] : List Value).toArray 4 by rw [hargs], lg_entry_eq]
  have hl := lv_entry ([.ref aT, .long x1]) (n := 4) (Nat.le_of_ble_eq_true rfl)
  generalize (lg_sl ([.ref aT, .long x1]) ++ List.replicate (4 - (lg_sl ([.ref aT, .long x1])).length) Slot.unset).toArray = ls at hl ⊢
  have hl : lv_has ls 4 [(0, .ref aT), (1, .long x1)] := hl
  generalize hQ : MQ below (vp_Si (fun z => z = o)) args s 0 0 (fun _ => False) = Q
  unfold fX6_darkest at h
  refine lv_bipush (v := 9) hx hb dX6_darkest_0 (by decide) ?_
  refine lv_istore_n (lv' := [(3, .int 9), (0, .ref aT), (1, .long x1)]) hx hb dX6_darkest_2 rfl hl (by decide) rfl (fun ls hl => ?_)
  have LP5 : ∀ (n : Nat) (x1 : Int64) (x3 : Int32) (z : (Int32) ⊕ (Unit)) (ls : Array Slot), fX6_darkest_L3 n x1 x3 gw gd gh ga gl gr sL tP tN tz = some z → lv_has ls 4 [(0, .ref aT), (1, .long x1), (3, .int x3)] → (∀ x, z = .inl x → x = o) → (∀ (t : Unit), z = .inr t → ∀ (ls : Array Slot), lv_has ls 4 [] → W p l e (headSpec wsX6_darkest rmX6_darkest).room s m args below meth c s.heap [] 0 0 Q (F0 m 34 ls [])) → W p l e (headSpec wsX6_darkest rmX6_darkest).room s m args below meth c s.heap [] 0 0 Q (F0 m 3 ls []) := by
    intro n
    induction n with
    | zero =>
      intro x1 x3 z ls h hl hret hk
      exact nomatch ((fX6_darkest_L3_z x1 x3 gw gd gh ga gl gr sL tP tN tz).symm.trans h)
    | succ n ih =>
      intro x1 x3 z ls h hl hret hk
      rw [fX6_darkest_L3_s] at h
      refine lv_iload_n hx hb dX6_darkest_3 rfl (lv_at hl 2 rfl) ?_
      refine lv_if_le (tgt := 34) hx hb dX6_darkest_4 (by decide) (fun g1 => ?_) (fun g1 => ?_)
      · rw [if_pos g1] at h
        exact hk () (Option.some.inj h).symm ls (lv_sub hl [] rfl) 
      · rw [if_neg g1] at h
        refine lv_lload_n hx hb dX6_darkest_7 rfl (lv_at hl 1 rfl) ?_
        refine lv_aload_n hx hb dX6_darkest_8 rfl (lv_at hl 0 rfl) ?_
        refine va_get (ci := 6) (v := .ref aS) (C := RX6) (T := TX6) (N := 5) hx hb hts hinX6 hown hK hP 0 rfl rfl 1 (by decide) lk1 (fun _ h9 => h9) rfl dX6_darkest_9 ?_
        refine lv_iload_n hx hb dX6_darkest_12 rfl (lv_at hl 2 rfl) ?_
        obtain ⟨v2, hc3, h⟩ := sh_b1_e h
        refine sh_cVl (As := [.int x3]) (rest := [.long x1]) hfix (k_X2_atLeast l D cI cJ cZ aG aS aY gw gd gh ga gl gr sL x3 v2 hc3) (cwV 1 hts gX6_darkest_X2_atLeast rfl rfl rfl hdV_X2_atLeast ⟨Nat.le_of_ble_eq_true rfl, Nat.le_of_ble_eq_true rfl⟩) hP hK [3, 4, 5] rfl 3 rfl rfl rfl hl.1 rfl (Nat.le_of_ble_eq_true rfl) dX6_darkest_13 ⟨Nat.zero_le _, Nat.zero_le _⟩ ?_
        refine lv_ldc2 hx hb hown lk2 dX6_darkest_16 ?_
        refine lv_lxor hx hb dX6_darkest_19 ?_
        refine lv_land hx hb dX6_darkest_20 ?_
        refine lv_lconst (v := 0) hx hb dX6_darkest_21 (by decide) ?_
        refine sh_lne (tgt := 28) hx hb dX6_darkest_22 dX6_darkest_23 (by decide) (fun g4 => ?_) (fun g4 => ?_)
        · rw [if_neg g4] at h
          refine lv_iinc (v := (x3 + (-1))) (lv' := [(3, .int (x3 + (-1))), (0, .ref aT), (1, .long x1)]) hx hb dX6_darkest_28 hl (k := 2) rfl rfl (by decide) rfl (fun ls hl => ?_)
          refine lv_goto (tgt := 3) hx hb dX6_darkest_31 (by decide) ?_
          exact ih x1 (x3 + (-1)) z ls h (lv_sub hl [1, 2, 0] rfl)  hret hk
        · rw [if_pos g4] at h
          refine lv_iload_n hx hb dX6_darkest_26 rfl (lv_at hl 2 rfl) ?_
          exact sh_roi hx hb hr hlocks hQ (hret _ (Option.some.inj h).symm) dX6_darkest_27
  obtain ⟨z6, hcz6, hrz6, hkz6⟩ := sh_bs_e h
  refine LP5 sh_fu x1 9 z6 ls hcz6 (lv_sub hl [1, 2, 0] rfl)  hrz6 (fun t7 et7 ls hl  => ?_)
  have h := hkz6 t7 et7
  refine lv_iconst (v := 0) hx hb dX6_darkest_34 (by decide) ?_
  exact sh_roi hx hb hr hlocks hQ (Option.some.inj h) dX6_darkest_35
