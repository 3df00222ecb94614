theorem hdV_X8_leaves : yX8_leaves.cls = RX8 ∧ yX8_leaves.cls ≠ "java/lang/invoke/MethodHandle" ∧ yX8_leaves.cls ≠ "java/lang/invoke/VarHandle" ∧ (parseMethodDescriptor yX8_leaves.desc).map (fun d => d.parameters.length) = some 0 := by decide +kernel
abbrev rmX8_leaves : Room := { frames := 6, cells := 0, slots := 0, locals := 144 }
set_option maxHeartbeats 4000000 in
set_option maxRecDepth 100000 in
theorem k_X8_leaves (l : Launch) (D : va_G) (cI cJ cZ : ClassId) (q : Nat → Nat) (I : Nat → Int32) (S : Int64) (A : Nat → Nat → Int32) (o : Int32) (h : fX8_leaves A = some o) : Met l yX8_leaves wsX8_leaves rmX8_leaves (sh_Pr D (sh_ty cI cJ cZ) (sh_w8 q cI cJ cZ I S A) [.ref (q 0)]) (vp_Si (fun z => z = o)) 0 0 (fun _ => False) := by
  refine Met.ofW (cc := cX8_leaves) (maxL := 8) (ret := (some .int)) (by decide) rfl ?_
  intro p e s m args below meth c s₁ hB hml hv
  obtain ⟨hargs, hP, hK⟩ := hv
  have hx := hB.exec
  have hb := hB.bytes
  have hr := hB.returns
  have hts := atoms_spec (ws := wsX8_leaves) hB.pre
  have hown : s.vm.findClass RX8 = some m.cls := findClass_of_methodNamed hB.named
  have hlocks := hB.notSynchronized
  have hfix : CallFix p m c cX8_leaves 8 s args wsX8_leaves RX8 := ⟨hx, hb, hml, hown, hts⟩
  have hinX8 : ∀ w ∈ wsX80, w ∈ wsX8_leaves := by decide +kernel
  have lk1 := hts (.fieldLink RX8 16 "ShadeTreeModel" "page" "[I") (by decide +kernel)
  have lk2 := hts (.constantLong RX8 67 (-1)) (by decide +kernel)
  rw [show entryFrame m args 8 = entryFrame m ([.ref (q 0)] : List Value).toArray 8 by rw [hargs], lg_entry_eq]
  have hl := lv_entry ([.ref (q 0)]) (n := 8) (Nat.le_of_ble_eq_true rfl)
  generalize (lg_sl ([.ref (q 0)]) ++ List.replicate (8 - (lg_sl ([.ref (q 0)])).length) Slot.unset).toArray = ls at hl ⊢
  have hl : lv_has ls 8 [(0, .ref (q 0))] := hl
  generalize hQ : MQ below (vp_Si (fun z => z = o)) args s 0 0 (fun _ => False) = Q
  unfold fX8_leaves at h
  refine lv_lconst (v := 0) hx hb dX8_leaves_0 (by decide) ?_
  refine lv_lstore_n (lv' := [(1, .long 0), (0, .ref (q 0))]) hx hb dX8_leaves_1 rfl hl (by decide) rfl (fun ls hl => ?_)
  refine lv_iconst (v := 0) hx hb dX8_leaves_2 (by decide) ?_
  refine lv_istore_n (lv' := [(3, .int 0), (1, .long 0), (0, .ref (q 0))]) hx hb dX8_leaves_3 rfl hl (by decide) rfl (fun ls hl => ?_)
  have LP7 : ∀ (n : Nat) (x1 : Int64) (x3 : Int32) (ow1 : Int64) (ls : Array Slot), fX8_leaves_L4 n x1 x3 A = some ow1 → lv_has ls 8 [(0, .ref (q 0)), (1, .long x1), (3, .int x3)] → (∀ (ls : Array Slot), lv_has ls 8 [(0, .ref (q 0)), (1, .long ow1)] → W p l e (headSpec wsX8_leaves rmX8_leaves).room s m args below meth c s.heap [] 0 0 Q (F0 m 42 ls [])) → W p l e (headSpec wsX8_leaves rmX8_leaves).room s m args below meth c s.heap [] 0 0 Q (F0 m 4 ls []) := by
    intro n
    induction n with
    | zero =>
      intro x1 x3 ow1 ls h hl hk
      exact nomatch ((fX8_leaves_L4_z x1 x3 A).symm.trans h)
    | succ n ih =>
      intro x1 x3 ow1 ls h hl hk
      rw [fX8_leaves_L4_s] at h
      refine lv_iload_n hx hb dX8_leaves_4 rfl (lv_at hl 2 rfl) ?_
      refine lv_aload_n hx hb dX8_leaves_5 rfl (lv_at hl 0 rfl) ?_
      refine va_get (ci := 8) (v := .ref (q 3)) (C := RX8) (T := TX8) (N := 21) hx hb hts hinX8 hown hK hP 0 rfl rfl 4 (by decide) lk1 (fun _ h9 => h9) rfl dX8_leaves_6 ?_
      obtain ⟨v1, hc2, h⟩ := sh_b1_e h
      refine sh_cSi (As := [.ref (q 3)]) (rest := [.int x3]) hfix (k_X8_dotsOf l D cI cJ cZ (q 3) (A 2) v1 hc2) (va_cwS 1 hts gX8_leaves_X8_dotsOf rfl rfl rfl hdS_X8_dotsOf ⟨Nat.le_of_ble_eq_true rfl, Nat.le_of_ble_eq_true rfl⟩) hP hK [3] rfl rfl hl.1 rfl (Nat.le_of_ble_eq_true rfl) dX8_leaves_9 ⟨Nat.zero_le _, Nat.zero_le _⟩ ?_
      refine lv_icmp_ge (tgt := 42) hx hb dX8_leaves_12 (by decide) (fun g3 => ?_) (fun g3 => ?_)
      · rw [if_pos g3] at h
        cases h
        exact hk ls (lv_sub hl [0, 1] rfl) 
      · rw [if_neg g3] at h
        refine lv_lload_n hx hb dX8_leaves_15 rfl (lv_at hl 1 rfl) ?_
        refine lv_aload_n hx hb dX8_leaves_16 rfl (lv_at hl 0 rfl) ?_
        refine va_get (ci := 8) (v := .ref (q 3)) (C := RX8) (T := TX8) (N := 21) hx hb hts hinX8 hown hK hP 0 rfl rfl 4 (by decide) lk1 (fun _ h9 => h9) rfl dX8_leaves_17 ?_
        refine lv_iload_n hx hb dX8_leaves_20 rfl (lv_at hl 2 rfl) ?_
        obtain ⟨v4, hc5, h⟩ := sh_b1_e h
        refine sh_cSi (As := [.ref (q 3), .int x3]) (rest := [.long x1]) hfix (k_X8_isHead l D cI cJ cZ (q 3) (A 2) x3 v4 hc5) (va_cwS 2 hts gX8_leaves_X8_isHead rfl rfl rfl hdS_X8_isHead ⟨Nat.le_of_ble_eq_true rfl, Nat.le_of_ble_eq_true rfl⟩) hP hK [3] rfl rfl hl.1 rfl (Nat.le_of_ble_eq_true rfl) dX8_leaves_21 ⟨Nat.zero_le _, Nat.zero_le _⟩ ?_
        refine lv_if_eq (tgt := 33) hx hb dX8_leaves_24 (by decide) (fun g6 => ?_) (fun g6 => ?_)
        · rw [if_pos g6] at h
          refine lv_lconst (v := 0) hx hb dX8_leaves_33 (by decide) ?_
          refine lv_lor hx hb dX8_leaves_34 ?_
          refine lv_lstore_n (lv' := [(1, .long (x1 ||| 0)), (0, .ref (q 0)), (3, .int x3)]) hx hb dX8_leaves_35 rfl hl (by decide) rfl (fun ls hl => ?_)
          refine lv_iinc (v := (x3 + 1)) (lv' := [(3, .int (x3 + 1)), (1, .long (x1 ||| 0)), (0, .ref (q 0))]) hx hb dX8_leaves_36 hl (k := 2) rfl rfl (by decide) rfl (fun ls hl => ?_)
          refine lv_goto (tgt := 4) hx hb dX8_leaves_39 (by decide) ?_
          exact ih (x1 ||| 0) (x3 + 1) ow1 ls h (lv_sub hl [2, 1, 0] rfl)  hk
        · rw [if_neg g6] at h
          refine lv_lconst (v := 1) hx hb dX8_leaves_27 (by decide) ?_
          refine lv_iload_n hx hb dX8_leaves_28 rfl (lv_at hl 2 rfl) ?_
          refine lv_lshl (v := (sh_lsl 1 x3)) hx hb dX8_leaves_29 rfl ?_
          refine lv_goto (tgt := 34) hx hb dX8_leaves_30 (by decide) ?_
          refine lv_lor hx hb dX8_leaves_34 ?_
          refine lv_lstore_n (lv' := [(1, .long (x1 ||| (sh_lsl 1 x3))), (0, .ref (q 0)), (3, .int x3)]) hx hb dX8_leaves_35 rfl hl (by decide) rfl (fun ls hl => ?_)
          refine lv_iinc (v := (x3 + 1)) (lv' := [(3, .int (x3 + 1)), (1, .long (x1 ||| (sh_lsl 1 x3))), (0, .ref (q 0))]) hx hb dX8_leaves_36 hl (k := 2) rfl rfl (by decide) rfl (fun ls hl => ?_)
          refine lv_goto (tgt := 4) hx hb dX8_leaves_39 (by decide) ?_
          exact ih (x1 ||| (sh_lsl 1 x3)) (x3 + 1) ow1 ls h (lv_sub hl [2, 1, 0] rfl)  hk
  obtain ⟨w8, hc24, h⟩ := sh_b1_e h
  refine LP7 sh_fu 0 0 w8 ls hc24 (lv_sub hl [2, 1, 0] rfl)  (fun ls hl  => ?_)
  refine lv_iconst (v := 0) hx hb dX8_leaves_42 (by decide) ?_
  refine lv_istore_n (lv' := [(3, .int 0), (0, .ref (q 0)), (1, .long w8)]) hx hb dX8_leaves_43 rfl hl (by decide) rfl (fun ls hl => ?_)
  have LP19 : ∀ (n : Nat) (x1 : Int64) (x3 : Int32) (ow1 : Int64) (ls : Array Slot), fX8_leaves_L44 n x1 x3 A = some ow1 → lv_has ls 8 [(0, .ref (q 0)), (1, .long x1), (3, .int x3)] → (∀ (ls : Array Slot), lv_has ls 8 [(1, .long ow1)] → W p l e (headSpec wsX8_leaves rmX8_leaves).room s m args below meth c s.heap [] 0 0 Q (F0 m 114 ls [])) → W p l e (headSpec wsX8_leaves rmX8_leaves).room s m args below meth c s.heap [] 0 0 Q (F0 m 44 ls []) := by
    intro n
    induction n with
    | zero =>
      intro x1 x3 ow1 ls h hl hk
      exact nomatch ((fX8_leaves_L44_z x1 x3 A).symm.trans h)
    | succ n ih =>
      intro x1 x3 ow1 ls h hl hk
      rw [fX8_leaves_L44_s] at h
      refine lv_iload_n hx hb dX8_leaves_44 rfl (lv_at hl 2 rfl) ?_
      refine lv_aload_n hx hb dX8_leaves_45 rfl (lv_at hl 0 rfl) ?_
      refine va_get (ci := 8) (v := .ref (q 3)) (C := RX8) (T := TX8) (N := 21) hx hb hts hinX8 hown hK hP 0 rfl rfl 4 (by decide) lk1 (fun _ h9 => h9) rfl dX8_leaves_46 ?_
      obtain ⟨v9, hc10, h⟩ := sh_b1_e h
      refine sh_cSi (As := [.ref (q 3)]) (rest := [.int x3]) hfix (k_X8_dotsOf l D cI cJ cZ (q 3) (A 2) v9 hc10) (va_cwS 1 hts gX8_leaves_X8_dotsOf rfl rfl rfl hdS_X8_dotsOf ⟨Nat.le_of_ble_eq_true rfl, Nat.le_of_ble_eq_true rfl⟩) hP hK [3] rfl rfl hl.1 rfl (Nat.le_of_ble_eq_true rfl) dX8_leaves_49 ⟨Nat.zero_le _, Nat.zero_le _⟩ ?_
      refine lv_icmp_ge (tgt := 114) hx hb dX8_leaves_52 (by decide) (fun g11 => ?_) (fun g11 => ?_)
      · rw [if_pos g11] at h
        cases h
        exact hk ls (lv_sub hl [1] rfl) 
      · rw [if_neg g11] at h
        refine lv_aload_n hx hb dX8_leaves_55 rfl (lv_at hl 0 rfl) ?_
        refine va_get (ci := 8) (v := .ref (q 3)) (C := RX8) (T := TX8) (N := 21) hx hb hts hinX8 hown hK hP 0 rfl rfl 4 (by decide) lk1 (fun _ h9 => h9) rfl dX8_leaves_56 ?_
        refine lv_iload_n hx hb dX8_leaves_59 rfl (lv_at hl 2 rfl) ?_
        obtain ⟨v12, hc13, h⟩ := sh_b1_e h
        refine sh_cSl (As := [.ref (q 3), .int x3]) (rest := []) hfix (k_X8_nodeOf l D cI cJ cZ (q 3) (A 2) x3 v12 hc13) (va_cwS 2 hts gX8_leaves_X8_nodeOf rfl rfl rfl hdS_X8_nodeOf ⟨Nat.le_of_ble_eq_true rfl, Nat.le_of_ble_eq_true rfl⟩) hP hK [3] rfl rfl hl.1 rfl (Nat.le_of_ble_eq_true rfl) dX8_leaves_60 ⟨Nat.zero_le _, Nat.zero_le _⟩ ?_
        refine lv_lstore (lv' := [(4, .long v12), (0, .ref (q 0)), (1, .long x1), (3, .int x3)]) hx hb dX8_leaves_63 hl (by decide) rfl (fun ls hl => ?_)
        refine lv_aload_n hx hb dX8_leaves_65 rfl (lv_at hl 1 rfl) ?_
        refine va_get (ci := 8) (v := .ref (q 3)) (C := RX8) (T := TX8) (N := 21) hx hb hts hinX8 hown hK hP 0 rfl rfl 4 (by decide) lk1 (fun _ h9 => h9) rfl dX8_leaves_66 ?_
        refine lv_lload hx hb dX8_leaves_69 (lv_at hl 0 rfl) ?_
        obtain ⟨v14, hc15, h⟩ := sh_b1_e h
        refine sh_cSl (As := [.ref (q 3), .long v12]) (rest := []) hfix (k_X8_parent l D cI cJ cZ (q 3) (A 2) v12 v14 hc15) (va_cwS 2 hts gX8_leaves_X8_parent rfl rfl rfl hdS_X8_parent ⟨Nat.le_of_ble_eq_true rfl, Nat.le_of_ble_eq_true rfl⟩) hP hK [3] rfl rfl hl.1 rfl (Nat.le_of_ble_eq_true rfl) dX8_leaves_71 ⟨Nat.zero_le _, Nat.zero_le _⟩ ?_
        refine lv_lstore (lv' := [(6, .long v14), (4, .long v12), (0, .ref (q 0)), (1, .long x1), (3, .int x3)]) hx hb dX8_leaves_74 hl (by decide) rfl (fun ls hl => ?_)
        refine lv_lload_n hx hb dX8_leaves_76 rfl (lv_at hl 3 rfl) ?_
        refine lv_lload hx hb dX8_leaves_77 (lv_at hl 0 rfl) ?_
        refine lv_lload hx hb dX8_leaves_79 (lv_at hl 1 rfl) ?_
        refine sh_lne (tgt := 91) hx hb dX8_leaves_81 dX8_leaves_82 (by decide) (fun g16 => ?_) (fun g16 => ?_)
        · rw [if_neg g16] at h
          refine lv_lconst (v := 1) hx hb dX8_leaves_91 (by decide) ?_
          refine lv_aload_n hx hb dX8_leaves_92 rfl (lv_at hl 2 rfl) ?_
          refine va_get (ci := 8) (v := .ref (q 3)) (C := RX8) (T := TX8) (N := 21) hx hb hts hinX8 hown hK hP 0 rfl rfl 4 (by decide) lk1 (fun _ h9 => h9) rfl dX8_leaves_93 ?_
          refine lv_lload hx hb dX8_leaves_96 (lv_at hl 0 rfl) ?_
          obtain ⟨v17, hc18, h⟩ := sh_b1_e h
          refine sh_cSi (As := [.ref (q 3), .long v14]) (rest := [.long 1, .long x1]) hfix (k_X8_head l D cI cJ cZ (q 3) (A 2) v14 v17 hc18) (va_cwS 2 hts gX8_leaves_X8_head rfl rfl rfl hdS_X8_head ⟨Nat.le_of_ble_eq_true rfl, Nat.le_of_ble_eq_true rfl⟩) hP hK [3] rfl rfl hl.1 rfl (Nat.le_of_ble_eq_true rfl) dX8_leaves_98 ⟨Nat.zero_le _, Nat.zero_le _⟩ ?_
          refine lv_lshl (v := (sh_lsl 1 v17)) hx hb dX8_leaves_101 rfl ?_
          refine lv_ldc2 hx hb hown lk2 dX8_leaves_102 ?_
          refine lv_lxor hx hb dX8_leaves_105 ?_
          refine lv_land hx hb dX8_leaves_106 ?_
          refine lv_lstore_n (lv' := [(1, .long (x1 &&& ((sh_lsl 1 v17) ^^^ (-1)))), (6, .long v14), (4, .long v12), (0, .ref (q 0)), (3, .int x3)]) hx hb dX8_leaves_107 rfl hl (by decide) rfl (fun ls hl => ?_)
          refine lv_iinc (v := (x3 + 1)) (lv' := [(3, .int (x3 + 1)), (1, .long (x1 &&& ((sh_lsl 1 v17) ^^^ (-1)))), (6, .long v14), (4, .long v12), (0, .ref (q 0))]) hx hb dX8_leaves_108 hl (k := 4) rfl rfl (by decide) rfl (fun ls hl => ?_)
          refine lv_goto (tgt := 44) hx hb dX8_leaves_111 (by decide) ?_
          exact ih (x1 &&& ((sh_lsl 1 v17) ^^^ (-1))) (x3 + 1) ow1 ls h (lv_sub hl [4, 1, 0] rfl)  hk
        · rw [if_pos g16] at h
          refine lv_ldc2 hx hb hown lk2 dX8_leaves_85 ?_
          refine lv_goto (tgt := 106) hx hb dX8_leaves_88 (by decide) ?_
          refine lv_land hx hb dX8_leaves_106 ?_
          refine lv_lstore_n (lv' := [(1, .long (x1 &&& (-1))), (6, .long v14), (4, .long v12), (0, .ref (q 0)), (3, .int x3)]) hx hb dX8_leaves_107 rfl hl (by decide) rfl (fun ls hl => ?_)
          refine lv_iinc (v := (x3 + 1)) (lv' := [(3, .int (x3 + 1)), (1, .long (x1 &&& (-1))), (6, .long v14), (4, .long v12), (0, .ref (q 0))]) hx hb dX8_leaves_108 hl (k := 4) rfl rfl (by decide) rfl (fun ls hl => ?_)
          refine lv_goto (tgt := 44) hx hb dX8_leaves_111 (by decide) ?_
          exact ih (x1 &&& (-1)) (x3 + 1) ow1 ls h (lv_sub hl [4, 1, 0] rfl)  hk
  obtain ⟨w20, hc23, h⟩ := sh_b1_e h
  refine LP19 sh_fu w8 0 w20 ls hc23 (lv_sub hl [1, 2, 0] rfl)  (fun ls hl  => ?_)
  refine lv_lload_n hx hb dX8_leaves_114 rfl (lv_at hl 0 rfl) ?_
  obtain ⟨v21, hc22, h⟩ := sh_b1_e h
  refine sh_cSi (As := [.long w20]) (rest := []) hfix (k_X8_many l D cI cJ cZ w20 v21 hc22) (va_cwS 1 hts gX8_leaves_X8_many rfl rfl rfl hdS_X8_many ⟨Nat.le_of_ble_eq_true rfl, Nat.le_of_ble_eq_true rfl⟩) hP hK [] rfl rfl hl.1 rfl (Nat.le_of_ble_eq_true rfl) dX8_leaves_115 ⟨Nat.zero_le _, Nat.zero_le _⟩ ?_
  exact sh_roi hx hb hr hlocks hQ (Option.some.inj h) dX8_leaves_118
theorem hdV_X8_deepest : yX8_deepest.cls = RX8 ∧ yX8_deepest.cls ≠ "java/lang/invoke/MethodHandle" ∧ yX8_deepest.cls ≠ "java/lang/invoke/VarHandle" ∧ (parseMethodDescriptor yX8_deepest.desc).map (fun d => d.parameters.length) = some 0 := by decide +kernel
abbrev rmX8_deepest : Room := { frames := 6, cells := 0, slots := 0, locals := 155 }
set_option maxHeartbeats 4000000 in
set_option maxRecDepth 100000 in
theorem k_X8_deepest (l : Launch) (D : va_G) (cI cJ cZ : ClassId) (q : Nat → Nat) (I : Nat → Int32) (S : Int64) (A : Nat → Nat → Int32) (o : Int32) (h : fX8_deepest A = some o) : Met l yX8_deepest wsX8_deepest rmX8_deepest (sh_Pr D (sh_ty cI cJ cZ) (sh_w8 q cI cJ cZ I S A) [.ref (q 0)]) (vp_Si (fun z => z = o)) 0 0 (fun _ => False) := by
  refine Met.ofW (cc := cX8_deepest) (maxL := 4) (ret := (some .int)) (by decide) rfl ?_
  intro p e s m args below meth c s₁ hB hml hv
  obtain ⟨hargs, hP, hK⟩ := hv
  have hx := hB.exec
  have hb := hB.bytes
  have hr := hB.returns
  have hts := atoms_spec (ws := wsX8_deepest) hB.pre
  have hown : s.vm.findClass RX8 = some m.cls := findClass_of_methodNamed hB.named
  have hlocks := hB.notSynchronized
  have hfix : CallFix p m c cX8_deepest 4 s args wsX8_deepest RX8 := ⟨hx, hb, hml, hown, hts⟩
  have hinX8 : ∀ w ∈ wsX80, w ∈ wsX8_deepest := by decide +kernel
  have lk1 := hts (.fieldLink RX8 16 "ShadeTreeModel" "page" "[I") (by decide +kernel)
  rw [show entryFrame m args 4 = entryFrame m ([.ref (q 0)] : List Value).toArray 4 by rw [hargs], lg_entry_eq]
  have hl := lv_entry ([.ref (q 0)]) (n := 4) (Nat.le_of_ble_eq_true rfl)
  generalize (lg_sl ([.ref (q 0)]) ++ List.replicate (4 - (lg_sl ([.ref (q 0)])).length) Slot.unset).toArray = ls at hl ⊢
  have hl : lv_has ls 4 [(0, .ref (q 0))] := hl
  generalize hQ : MQ below (vp_Si (fun z => z = o)) args s 0 0 (fun _ => False) = Q
  unfold fX8_deepest at h
  refine lv_iconst (v := 0) hx hb dX8_deepest_0 (by decide) ?_
  refine lv_istore_n (lv' := [(1, .int 0), (0, .ref (q 0))]) hx hb dX8_deepest_1 rfl hl (by decide) rfl (fun ls hl => ?_)
  refine lv_iconst (v := 0) hx hb dX8_deepest_2 (by decide) ?_
  refine lv_istore_n (lv' := [(2, .int 0), (1, .int 0), (0, .ref (q 0))]) hx hb dX8_deepest_3 rfl hl (by decide) rfl (fun ls hl => ?_)
  have LP9 : ∀ (n : Nat) (x1 : Int32) (x2 : Int32) (ow1 : Int32) (ls : Array Slot), fX8_deepest_L4 n x1 x2 A = some ow1 → lv_has ls 4 [(0, .ref (q 0)), (1, .int x1), (2, .int x2)] → (∀ (ls : Array Slot), lv_has ls 4 [(1, .int ow1)] → W p l e (headSpec wsX8_deepest rmX8_deepest).room s m args below meth c s.heap [] 0 0 Q (F0 m 48 ls [])) → W p l e (headSpec wsX8_deepest rmX8_deepest).room s m args below meth c s.heap [] 0 0 Q (F0 m 4 ls []) := by
    intro n
    induction n with
    | zero =>
      intro x1 x2 ow1 ls h hl hk
      exact nomatch ((fX8_deepest_L4_z x1 x2 A).symm.trans h)
    | succ n ih =>
      intro x1 x2 ow1 ls h hl hk
      rw [fX8_deepest_L4_s] at h
      refine lv_iload_n hx hb dX8_deepest_4 rfl (lv_at hl 2 rfl) ?_
      refine lv_aload_n hx hb dX8_deepest_5 rfl (lv_at hl 0 rfl) ?_
      refine va_get (ci := 8) (v := .ref (q 3)) (C := RX8) (T := TX8) (N := 21) hx hb hts hinX8 hown hK hP 0 rfl rfl 4 (by decide) lk1 (fun _ h9 => h9) rfl dX8_deepest_6 ?_
      obtain ⟨v1, hc2, h⟩ := sh_b1_e h
      refine sh_cSi (As := [.ref (q 3)]) (rest := [.int x2]) hfix (k_X8_dotsOf l D cI cJ cZ (q 3) (A 2) v1 hc2) (va_cwS 1 hts gX8_deepest_X8_dotsOf rfl rfl rfl hdS_X8_dotsOf ⟨Nat.le_of_ble_eq_true rfl, Nat.le_of_ble_eq_true rfl⟩) hP hK [3] rfl rfl hl.1 rfl (Nat.le_of_ble_eq_true rfl) dX8_deepest_9 ⟨Nat.zero_le _, Nat.zero_le _⟩ ?_
      refine lv_icmp_ge (tgt := 48) hx hb dX8_deepest_12 (by decide) (fun g3 => ?_) (fun g3 => ?_)
      · rw [if_pos g3] at h
        cases h
        exact hk ls (lv_sub hl [1] rfl) 
      · rw [if_neg g3] at h
        refine lv_aload_n hx hb dX8_deepest_15 rfl (lv_at hl 0 rfl) ?_
        refine va_get (ci := 8) (v := .ref (q 3)) (C := RX8) (T := TX8) (N := 21) hx hb hts hinX8 hown hK hP 0 rfl rfl 4 (by decide) lk1 (fun _ h9 => h9) rfl dX8_deepest_16 ?_
        refine lv_aload_n hx hb dX8_deepest_19 rfl (lv_at hl 0 rfl) ?_
        refine va_get (ci := 8) (v := .ref (q 3)) (C := RX8) (T := TX8) (N := 21) hx hb hts hinX8 hown hK hP 0 rfl rfl 4 (by decide) lk1 (fun _ h9 => h9) rfl dX8_deepest_20 ?_
        refine lv_iload_n hx hb dX8_deepest_23 rfl (lv_at hl 2 rfl) ?_
        obtain ⟨v4, hc5, h⟩ := sh_b1_e h
        refine sh_cSl (As := [.ref (q 3), .int x2]) (rest := [.ref (q 3)]) hfix (k_X8_nodeOf l D cI cJ cZ (q 3) (A 2) x2 v4 hc5) (va_cwS 2 hts gX8_deepest_X8_nodeOf rfl rfl rfl hdS_X8_nodeOf ⟨Nat.le_of_ble_eq_true rfl, Nat.le_of_ble_eq_true rfl⟩) hP hK [3] rfl rfl hl.1 rfl (Nat.le_of_ble_eq_true rfl) dX8_deepest_24 ⟨Nat.zero_le _, Nat.zero_le _⟩ ?_
        obtain ⟨v6, hc7, h⟩ := sh_b1_e h
        refine sh_cSi (As := [.ref (q 3), .long v4]) (rest := []) hfix (k_X8_depth l D cI cJ cZ (q 3) (A 2) v4 v6 hc7) (va_cwS 2 hts gX8_deepest_X8_depth rfl rfl rfl hdS_X8_depth ⟨Nat.le_of_ble_eq_true rfl, Nat.le_of_ble_eq_true rfl⟩) hP hK [3] rfl rfl hl.1 rfl (Nat.le_of_ble_eq_true rfl) dX8_deepest_27 ⟨Nat.zero_le _, Nat.zero_le _⟩ ?_
        refine lv_istore_n (lv' := [(3, .int v6), (0, .ref (q 0)), (1, .int x1), (2, .int x2)]) hx hb dX8_deepest_30 rfl hl (by decide) rfl (fun ls hl => ?_)
        refine lv_iload_n hx hb dX8_deepest_31 rfl (lv_at hl 0 rfl) ?_
        refine lv_iload_n hx hb dX8_deepest_32 rfl (lv_at hl 2 rfl) ?_
        refine lv_icmp_le (tgt := 40) hx hb dX8_deepest_33 (by decide) (fun g8 => ?_) (fun g8 => ?_)
        · rw [if_pos g8] at h
          refine lv_iload_n hx hb dX8_deepest_40 rfl (lv_at hl 2 rfl) ?_
          refine lv_istore_n (lv' := [(1, .int x1), (3, .int v6), (0, .ref (q 0)), (2, .int x2)]) hx hb dX8_deepest_41 rfl hl (by decide) rfl (fun ls hl => ?_)
          refine lv_iinc (v := (x2 + 1)) (lv' := [(2, .int (x2 + 1)), (1, .int x1), (3, .int v6), (0, .ref (q 0))]) hx hb dX8_deepest_42 hl (k := 3) rfl rfl (by decide) rfl (fun ls hl => ?_)
          refine lv_goto (tgt := 4) hx hb dX8_deepest_45 (by decide) ?_
          exact ih x1 (x2 + 1) ow1 ls h (lv_sub hl [3, 1, 0] rfl)  hk
        · rw [if_neg g8] at h
          refine lv_iload_n hx hb dX8_deepest_36 rfl (lv_at hl 0 rfl) ?_
          refine lv_goto (tgt := 41) hx hb dX8_deepest_37 (by decide) ?_
          refine lv_istore_n (lv' := [(1, .int v6), (3, .int v6), (0, .ref (q 0)), (2, .int x2)]) hx hb dX8_deepest_41 rfl hl (by decide) rfl (fun ls hl => ?_)
          refine lv_iinc (v := (x2 + 1)) (lv' := [(2, .int (x2 + 1)), (1, .int v6), (3, .int v6), (0, .ref (q 0))]) hx hb dX8_deepest_42 hl (k := 3) rfl rfl (by decide) rfl (fun ls hl => ?_)
          refine lv_goto (tgt := 4) hx hb dX8_deepest_45 (by decide) ?_
          exact ih v6 (x2 + 1) ow1 ls h (lv_sub hl [3, 1, 0] rfl)  hk
  obtain ⟨w10, hc11, h⟩ := sh_b1_e h
  refine LP9 sh_fu 0 0 w10 ls hc11 (lv_sub hl [2, 1, 0] rfl)  (fun ls hl  => ?_)
  refine lv_iload_n hx hb dX8_deepest_48 rfl (lv_at hl 0 rfl) ?_
  exact sh_roi hx hb hr hlocks hQ (Option.some.inj h) dX8_deepest_49
theorem hdV_X8_about : yX8_about.cls = RX8 ∧ yX8_about.cls ≠ "java/lang/invoke/MethodHandle" ∧ yX8_about.cls ≠ "java/lang/invoke/VarHandle" ∧ (parseMethodDescriptor yX8_about.desc).map (fun d => d.parameters.length) = some 1 := by decide +kernel
abbrev rmX8_about : Room := { frames := 7, cells := 0, slots := 0, locals := 178 }
set_option maxHeartbeats 4000000 in
set_option maxRecDepth 100000 in
theorem k_X8_about (l : Launch) (D : va_G) (cI cJ cZ : ClassId) (sz : Nat) (q : Nat → Nat) (I : Nat → Int32) (S : Int64) (A : Nat → Nat → Int32) (x1 : Int32) (o : Int32) (oI : Nat → Int32) (h : fX8_about I A x1 = some (o, oI)) : Met l yX8_about wsX8_about rmX8_about (sh_Pw D (sh_ty cI cJ cZ) sz (sh_w8 q cI cJ cZ I S A) [.ref (q 0), .int x1]) (sh_Qi D (sh_ty cI cJ cZ) (va_A (sh_w8 q cI cJ cZ I S A) sz) (sh_w8 q cI cJ cZ oI S A) o) 0 0 (va_A (sh_w8 q cI cJ cZ I S A) sz) := by
  refine Met.ofW (cc := cX8_about) (maxL := 2) (ret := (some .int)) (by decide) rfl ?_
  intro p e s m args below meth c s₁ hB hml hv
  obtain ⟨hargs, hsz, hP, hK, hD0⟩ := hv
  have hx := hB.exec
  have hb := hB.bytes
  have hr := hB.returns
  have hts := atoms_spec (ws := wsX8_about) hB.pre
  have hown : s.vm.findClass RX8 = some m.cls := findClass_of_methodNamed hB.named
  have hlocks := hB.notSynchronized
  have hfix : CallFix p m c cX8_about 2 s args wsX8_about RX8 := ⟨hx, hb, hml, hown, hts⟩
  have hinX8 : ∀ w ∈ wsX80, w ∈ wsX8_about := by decide +kernel
  have lk1 := hts (.fieldLink RX8 47 "ShadeTreeModel" "thrown" "I") (by decide +kernel)
  have lk2 := hts (.fieldLink RX8 108 "ShadeTreeModel" "textSize" "I") (by decide +kernel)
  have lk3 := hts (.fieldLink RX8 145 "ShadeTreeModel" "seen" "I") (by decide +kernel)
  have lk4 := hts (.fieldLink RX8 123 "ShadeTreeModel" "doings" "I") (by decide +kernel)
  have lk5 := hts (.fieldLink RX8 16 "ShadeTreeModel" "page" "[I") (by decide +kernel)
  have lk6 := hts (.constantLong RX8 67 (-1)) (by decide +kernel)
  rw [show entryFrame m args 2 = entryFrame m ([.ref (q 0), .int x1] : List Value).toArray 2 by rw [hargs], lg_entry_eq]
  have hl := lv_entry ([.ref (q 0), .int x1]) (n := 2) (Nat.le_of_ble_eq_true rfl)
  generalize (lg_sl ([.ref (q 0), .int x1]) ++ List.replicate (2 - (lg_sl ([.ref (q 0), .int x1])).length) Slot.unset).toArray = ls at hl ⊢
  have hl : lv_has ls 2 [(0, .ref (q 0)), (1, .int x1)] := hl
  subst hsz
  have hD := hD0.self (sz := s.heap.size)
  generalize hAe : va_A (sh_w8 q cI cJ cZ I S A) s.heap.size = Az at hD ⊢
  have hA : ∀ q : Nat, s.heap.size ≤ q → Az q := fun q h => by rw [← hAe]; exact Or.inr h
  have hS : va_S Az s.heap s.heap [] := va_S.rf
  generalize hQ : MQ below (sh_Qi D (sh_ty cI cJ cZ) Az (sh_w8 q cI cJ cZ oI S A) o) args s 0 0 Az = Q
  unfold fX8_about at h
  refine lv_aload_n hx hb dX8_about_0 rfl (lv_at hl 0 rfl) ?_
  refine lv_iconst (v := 0) hx hb dX8_about_1 (by decide) ?_
  refine sh_put (wn := (sh_w8 q cI cJ cZ (upd I 0 0) S A)) (ci := 8) (v := .int 0) (ty := .int) (C := RX8) (T := TX8) (N := 21) hx hb hts hinX8 tyX8 tyX8_ok nmX8 hown hK hP hD hS 0 rfl rfl 0 (by decide) lk1 (fun _ h9 => h9) rfl (by decide +kernel) rfl rfl (Nat.le_of_ble_eq_true rfl) rfl dX8_about_2 (fun H locs hP hD hS => ?_)
  refine lv_iload_n hx hb dX8_about_5 rfl (lv_at hl 1 rfl) ?_
  by_cases g1 : x1 = 0
  · rw [if_pos g1] at h
    refine lv_tableIn (off := 54) (tgt := 60) hx hb dX8_about_6 (by rw [g1]; decide) (by rw [g1]; decide) (by rw [g1]; rfl) (by decide) ?_
    refine lv_aload_n hx hb dX8_about_60 rfl (lv_at hl 0 rfl) ?_
    refine va_get (ci := 8) (v := .ref (q 3)) (C := RX8) (T := TX8) (N := 21) hx hb hts hinX8 hown hK hP 0 rfl rfl 4 (by decide) lk5 (fun _ h9 => h9) rfl dX8_about_61 ?_
    refine lv_iload_n hx hb dX8_about_64 rfl (lv_at hl 1 rfl) ?_
    obtain ⟨v21, hcv21, h⟩ := sh_b1_e h
    refine sh_iald hx hb hK hP 3 0 rfl rfl (sh_ald_e hcv21) dX8_about_65 ?_
    cases h
    exact sh_rwi hx hb hr hlocks hQ hK hP hD hS dX8_about_66
  · rw [if_neg g1] at h
    by_cases g2 : x1 = 1
    · rw [if_pos g2] at h
      refine lv_tableIn (off := 54) (tgt := 60) hx hb dX8_about_6 (by rw [g2]; decide) (by rw [g2]; decide) (by rw [g2]; rfl) (by decide) ?_
      refine lv_aload_n hx hb dX8_about_60 rfl (lv_at hl 0 rfl) ?_
      refine va_get (ci := 8) (v := .ref (q 3)) (C := RX8) (T := TX8) (N := 21) hx hb hts hinX8 hown hK hP 0 rfl rfl 4 (by decide) lk5 (fun _ h9 => h9) rfl dX8_about_61 ?_
      refine lv_iload_n hx hb dX8_about_64 rfl (lv_at hl 1 rfl) ?_
      obtain ⟨v20, hcv20, h⟩ := sh_b1_e h
      refine sh_iald hx hb hK hP 3 0 rfl rfl (sh_ald_e hcv20) dX8_about_65 ?_
      cases h
      exact sh_rwi hx hb hr hlocks hQ hK hP hD hS dX8_about_66
    · rw [if_neg g2] at h
      by_cases g3 : x1 = 2
      · rw [if_pos g3] at h
        refine lv_tableIn (off := 54) (tgt := 60) hx hb dX8_about_6 (by rw [g3]; decide) (by rw [g3]; decide) (by rw [g3]; rfl) (by decide) ?_
        refine lv_aload_n hx hb dX8_about_60 rfl (lv_at hl 0 rfl) ?_
        refine va_get (ci := 8) (v := .ref (q 3)) (C := RX8) (T := TX8) (N := 21) hx hb hts hinX8 hown hK hP 0 rfl rfl 4 (by decide) lk5 (fun _ h9 => h9) rfl dX8_about_61 ?_
        refine lv_iload_n hx hb dX8_about_64 rfl (lv_at hl 1 rfl) ?_
        obtain ⟨v19, hcv19, h⟩ := sh_b1_e h
        refine sh_iald hx hb hK hP 3 0 rfl rfl (sh_ald_e hcv19) dX8_about_65 ?_
        cases h
        exact sh_rwi hx hb hr hlocks hQ hK hP hD hS dX8_about_66
      · rw [if_neg g3] at h
        by_cases g4 : x1 = 3
        · rw [if_pos g4] at h
          refine lv_tableIn (off := 61) (tgt := 67) hx hb dX8_about_6 (by rw [g4]; decide) (by rw [g4]; decide) (by rw [g4]; rfl) (by decide) ?_
          refine lv_aload_n hx hb dX8_about_67 rfl (lv_at hl 0 rfl) ?_
          refine va_get (ci := 8) (v := .ref (q 3)) (C := RX8) (T := TX8) (N := 21) hx hb hts hinX8 hown hK hP 0 rfl rfl 4 (by decide) lk5 (fun _ h9 => h9) rfl dX8_about_68 ?_
          obtain ⟨v17, hc18, h⟩ := sh_b1_e h
          refine sh_cSi (As := [.ref (q 3)]) (rest := []) hfix (k_X8_nodes l D cI cJ cZ (q 3) (A 2) v17 hc18) (va_cwS 1 hts gX8_about_X8_nodes rfl rfl rfl hdS_X8_nodes ⟨Nat.le_of_ble_eq_true rfl, Nat.le_of_ble_eq_true rfl⟩) hP hK [3] rfl rfl hl.1 rfl (Nat.le_of_ble_eq_true rfl) dX8_about_71 ⟨Nat.zero_le _, Nat.zero_le _⟩ ?_
          cases h
          exact sh_rwi hx hb hr hlocks hQ hK hP hD hS dX8_about_74
        · rw [if_neg g4] at h
          by_cases g5 : x1 = 4
          · rw [if_pos g5] at h
            refine lv_tableIn (off := 69) (tgt := 75) hx hb dX8_about_6 (by rw [g5]; decide) (by rw [g5]; decide) (by rw [g5]; rfl) (by decide) ?_
            refine lv_aload_n hx hb dX8_about_75 rfl (lv_at hl 0 rfl) ?_
            obtain ⟨v15, hc16, h⟩ := sh_b1_e h
            refine sh_cVi (As := []) (rest := []) hfix (k_X8_leaves l D cI cJ cZ q (upd I 0 0) S A v15 hc16) (cwV 0 hts gX8_about_X8_leaves rfl rfl rfl hdV_X8_leaves ⟨Nat.le_of_ble_eq_true rfl, Nat.le_of_ble_eq_true rfl⟩) hP hK [0, 1, 2, 3, 4, 5, 6, 7, 8, 9, 10, 11, 12] rfl 0 rfl rfl rfl hl.1 rfl (Nat.le_of_ble_eq_true rfl) dX8_about_76 ⟨Nat.zero_le _, Nat.zero_le _⟩ ?_
            cases h
            exact sh_rwi hx hb hr hlocks hQ hK hP hD hS dX8_about_79
          · rw [if_neg g5] at h
            by_cases g6 : x1 = 5
            · rw [if_pos g6] at h
              refine lv_tableIn (off := 74) (tgt := 80) hx hb dX8_about_6 (by rw [g6]; decide) (by rw [g6]; decide) (by rw [g6]; rfl) (by decide) ?_
              refine lv_aload_n hx hb dX8_about_80 rfl (lv_at hl 0 rfl) ?_
              obtain ⟨v13, hc14, h⟩ := sh_b1_e h
              refine sh_cVi (As := []) (rest := []) hfix (k_X8_deepest l D cI cJ cZ q (upd I 0 0) S A v13 hc14) (cwV 0 hts gX8_about_X8_deepest rfl rfl rfl hdV_X8_deepest ⟨Nat.le_of_ble_eq_true rfl, Nat.le_of_ble_eq_true rfl⟩) hP hK [0, 1, 2, 3, 4, 5, 6, 7, 8, 9, 10, 11, 12] rfl 0 rfl rfl rfl hl.1 rfl (Nat.le_of_ble_eq_true rfl) dX8_about_81 ⟨Nat.zero_le _, Nat.zero_le _⟩ ?_
              cases h
              exact sh_rwi hx hb hr hlocks hQ hK hP hD hS dX8_about_84
            · rw [if_neg g6] at h
              by_cases g7 : x1 = 6
              · rw [if_pos g7] at h
                refine lv_tableIn (off := 79) (tgt := 85) hx hb dX8_about_6 (by rw [g7]; decide) (by rw [g7]; decide) (by rw [g7]; rfl) (by decide) ?_
                refine lv_aload_n hx hb dX8_about_85 rfl (lv_at hl 0 rfl) ?_
                refine va_get (ci := 8) (v := .ref (q 3)) (C := RX8) (T := TX8) (N := 21) hx hb hts hinX8 hown hK hP 0 rfl rfl 4 (by decide) lk5 (fun _ h9 => h9) rfl dX8_about_86 ?_
                refine lv_ldc2 hx hb hown lk6 dX8_about_89 ?_
                obtain ⟨v11, hc12, h⟩ := sh_b1_e h
                refine sh_cSi (As := [.ref (q 3), .long (-1)]) (rest := []) hfix (k_X8_light l D cI cJ cZ (q 3) (A 2) (-1) v11 hc12) (va_cwS 2 hts gX8_about_X8_light rfl rfl rfl hdS_X8_light ⟨Nat.le_of_ble_eq_true rfl, Nat.le_of_ble_eq_true rfl⟩) hP hK [3] rfl rfl hl.1 rfl (Nat.le_of_ble_eq_true rfl) dX8_about_92 ⟨Nat.zero_le _, Nat.zero_le _⟩ ?_
                cases h
                exact sh_rwi hx hb hr hlocks hQ hK hP hD hS dX8_about_95
              · rw [if_neg g7] at h
                by_cases g8 : x1 = 7
                · rw [if_pos g8] at h
                  refine lv_tableIn (off := 90) (tgt := 96) hx hb dX8_about_6 (by rw [g8]; decide) (by rw [g8]; decide) (by rw [g8]; rfl) (by decide) ?_
                  refine lv_aload_n hx hb dX8_about_96 rfl (lv_at hl 0 rfl) ?_
                  refine va_get (ci := 8) (v := .int (I 2)) (C := RX8) (T := TX8) (N := 21) hx hb hts hinX8 hown hK hP 0 rfl rfl 8 (by decide) lk4 (fun _ h9 => h9) rfl dX8_about_97 ?_
                  cases h
                  exact sh_rwi hx hb hr hlocks hQ hK hP hD hS dX8_about_100
                · rw [if_neg g8] at h
                  by_cases g9 : x1 = 8
                  · rw [if_pos g9] at h
                    refine lv_tableIn (off := 95) (tgt := 101) hx hb dX8_about_6 (by rw [g9]; decide) (by rw [g9]; decide) (by rw [g9]; rfl) (by decide) ?_
                    refine lv_aload_n hx hb dX8_about_101 rfl (lv_at hl 0 rfl) ?_
                    refine va_get (ci := 8) (v := .int (I 3)) (C := RX8) (T := TX8) (N := 21) hx hb hts hinX8 hown hK hP 0 rfl rfl 11 (by decide) lk3 (fun _ h9 => h9) rfl dX8_about_102 ?_
                    cases h
                    exact sh_rwi hx hb hr hlocks hQ hK hP hD hS dX8_about_105
                  · rw [if_neg g9] at h
                    by_cases g10 : x1 = 9
                    · rw [if_pos g10] at h
                      refine lv_tableIn (off := 100) (tgt := 106) hx hb dX8_about_6 (by rw [g10]; decide) (by rw [g10]; decide) (by rw [g10]; rfl) (by decide) ?_
                      refine lv_aload_n hx hb dX8_about_106 rfl (lv_at hl 0 rfl) ?_
                      refine va_get (ci := 8) (v := .int (I 1)) (C := RX8) (T := TX8) (N := 21) hx hb hts hinX8 hown hK hP 0 rfl rfl 2 (by decide) lk2 (fun _ h9 => h9) rfl dX8_about_107 ?_
                      cases h
                      exact sh_rwi hx hb hr hlocks hQ hK hP hD hS dX8_about_110
                    · rw [if_neg g10] at h
                      refine lv_tableOut (tgt := 111) hx hb dX8_about_6 (by have k0 := lv_neT (a := 0) g1 rfl; have k1 := lv_neT (a := 1) g2 rfl; have k2 := lv_neT (a := 2) g3 rfl; have k3 := lv_neT (a := 3) g4 rfl; have k4 := lv_neT (a := 4) g5 rfl; have k5 := lv_neT (a := 5) g6 rfl; have k6 := lv_neT (a := 6) g7 rfl; have k7 := lv_neT (a := 7) g8 rfl; have k8 := lv_neT (a := 8) g9 rfl; have k9 := lv_neT (a := 9) g10 rfl; omega) (by decide) ?_
                      refine lv_bipush (v := -2) hx hb dX8_about_111 (by decide) ?_
                      cases h
                      exact sh_rwi hx hb hr hlocks hQ hK hP hD hS dX8_about_113
theorem hdV_X8_shade : yX8_shade.cls = RX8 ∧ yX8_shade.cls ≠ "java/lang/invoke/MethodHandle" ∧ yX8_shade.cls ≠ "java/lang/invoke/VarHandle" ∧ (parseMethodDescriptor yX8_shade.desc).map (fun d => d.parameters.length) = some 1 := by decide +kernel
abbrev rmX8_shade : Room := { frames := 2, cells := 0, slots := 0, locals := 46 }
set_option maxHeartbeats 4000000 in
set_option maxRecDepth 100000 in
theorem k_X8_shade (l : Launch) (D : va_G) (cI cJ cZ : ClassId) (sz : Nat) (q : Nat → Nat) (I : Nat → Int32) (S : Int64) (A : Nat → Nat → Int32) (x1 : Int32) (o : Int32) (oI : Nat → Int32) (h : fX8_shade I A x1 = some (o, oI)) : Met l yX8_shade wsX8_shade rmX8_shade (sh_Pw D (sh_ty cI cJ cZ) sz (sh_w8 q cI cJ cZ I S A) [.ref (q 0), .int x1]) (sh_Qi D (sh_ty cI cJ cZ) (va_A (sh_w8 q cI cJ cZ I S A) sz) (sh_w8 q cI cJ cZ oI S A) o) 0 0 (va_A (sh_w8 q cI cJ cZ I S A) sz) := by
  refine Met.ofW (cc := cX8_shade) (maxL := 2) (ret := (some .int)) (by decide) rfl ?_
  intro p e s m args below meth c s₁ hB hml hv
  obtain ⟨hargs, hsz, hP, hK, hD0⟩ := hv
  have hx := hB.exec
  have hb := hB.bytes
  have hr := hB.returns
  have hts := atoms_spec (ws := wsX8_shade) hB.pre
  have hown : s.vm.findClass RX8 = some m.cls := findClass_of_methodNamed hB.named
  have hlocks := hB.notSynchronized
  have hfix : CallFix p m c cX8_shade 2 s args wsX8_shade RX8 := ⟨hx, hb, hml, hown, hts⟩
  have hinX8 : ∀ w ∈ wsX80, w ∈ wsX8_shade := by decide +kernel
  have lk1 := hts (.fieldLink RX8 47 "ShadeTreeModel" "thrown" "I") (by decide +kernel)
  have lk2 := hts (.fieldLink RX8 16 "ShadeTreeModel" "page" "[I") (by decide +kernel)
  rw [show entryFrame m args 2 = entryFrame m ([.ref (q 0), .int x1] : List Value).toArray 2 by rw [hargs], lg_entry_eq]
  have hl := lv_entry ([.ref (q 0), .int x1]) (n := 2) (Nat.le_of_ble_eq_true rfl)
  generalize (lg_sl ([.ref (q 0), .int x1]) ++ List.replicate (2 - (lg_sl ([.ref (q 0), .int x1])).length) Slot.unset).toArray = ls at hl ⊢
  have hl : lv_has ls 2 [(0, .ref (q 0)), (1, .int x1)] := hl
  subst hsz
  have hD := hD0.self (sz := s.heap.size)
  generalize hAe : va_A (sh_w8 q cI cJ cZ I S A) s.heap.size = Az at hD ⊢
  have hA : ∀ q : Nat, s.heap.size ≤ q → Az q := fun q h => by rw [← hAe]; exact Or.inr h
  have hS : va_S Az s.heap s.heap [] := va_S.rf
  generalize hQ : MQ below (sh_Qi D (sh_ty cI cJ cZ) Az (sh_w8 q cI cJ cZ oI S A) o) args s 0 0 Az = Q
  unfold fX8_shade at h
  refine lv_aload_n hx hb dX8_shade_0 rfl (lv_at hl 0 rfl) ?_
  refine lv_iconst (v := 0) hx hb dX8_shade_1 (by decide) ?_
  refine sh_put (wn := (sh_w8 q cI cJ cZ (upd I 0 0) S A)) (ci := 8) (v := .int 0) (ty := .int) (C := RX8) (T := TX8) (N := 21) hx hb hts hinX8 tyX8 tyX8_ok nmX8 hown hK hP hD hS 0 rfl rfl 0 (by decide) lk1 (fun _ h9 => h9) rfl (by decide +kernel) rfl rfl (Nat.le_of_ble_eq_true rfl) rfl dX8_shade_2 (fun H locs hP hD hS => ?_)
  refine lv_aload_n hx hb dX8_shade_5 rfl (lv_at hl 0 rfl) ?_
  refine lv_iload_n hx hb dX8_shade_6 rfl (lv_at hl 1 rfl) ?_
  obtain ⟨v1, hc2, h⟩ := sh_b1_e h
  refine sh_cVi (As := [.int x1]) (rest := []) hfix (k_X8_noDot l D cI cJ cZ q (upd I 0 0) S A x1 v1 hc2) (cwV 1 hts gX8_shade_X8_noDot rfl rfl rfl hdV_X8_noDot ⟨Nat.le_of_ble_eq_true rfl, Nat.le_of_ble_eq_true rfl⟩) hP hK [0, 1, 2, 3, 4, 5, 6, 7, 8, 9, 10, 11, 12] rfl 0 rfl rfl rfl hl.1 rfl (Nat.le_of_ble_eq_true rfl) dX8_shade_7 ⟨Nat.zero_le _, Nat.zero_le _⟩ ?_
  refine lv_if_eq (tgt := 17) hx hb dX8_shade_10 (by decide) (fun g3 => ?_) (fun g3 => ?_)
  · rw [if_pos g3] at h
    refine lv_aload_n hx hb dX8_shade_17 rfl (lv_at hl 0 rfl) ?_
    refine va_get (ci := 8) (v := .ref (q 3)) (C := RX8) (T := TX8) (N := 21) hx hb hts hinX8 hown hK hP 0 rfl rfl 4 (by decide) lk2 (fun _ h9 => h9) rfl dX8_shade_18 ?_
    refine lv_iconst (v := 3) hx hb dX8_shade_21 (by decide) ?_
    refine lv_iload_n hx hb dX8_shade_22 rfl (lv_at hl 1 rfl) ?_
    refine lv_iadd hx hb dX8_shade_23 ?_
    obtain ⟨v4, hcv4, h⟩ := sh_b1_e h
    refine sh_iald hx hb hK hP 3 0 rfl rfl (sh_ald_e hcv4) dX8_shade_24 ?_
    cases h
    exact sh_rwi hx hb hr hlocks hQ hK hP hD hS dX8_shade_25
  · rw [if_neg g3] at h
    refine lv_iconst (v := -1) hx hb dX8_shade_13 (by decide) ?_
    refine lv_goto (tgt := 25) hx hb dX8_shade_14 (by decide) ?_
    cases h
    exact sh_rwi hx hb hr hlocks hQ hK hP hD hS dX8_shade_25
theorem hdV_X8_node : yX8_node.cls = RX8 ∧ yX8_node.cls ≠ "java/lang/invoke/MethodHandle" ∧ yX8_node.cls ≠ "java/lang/invoke/VarHandle" ∧ (parseMethodDescriptor yX8_node.desc).map (fun d => d.parameters.length) = some 2 := by decide +kernel
abbrev rmX8_node : Room := { frames := 7, cells := 0, slots := 0, locals := 170 }
set_option maxHeartbeats 4000000 in
set_option maxRecDepth 100000 in
theorem k_X8_node (l : Launch) (D : va_G) (cI cJ cZ : ClassId) (sz : Nat) (q : Nat → Nat) (I : Nat → Int32) (S : Int64) (A : Nat → Nat → Int32) (x1 : Int32) (x2 : Int32) (o : Int32) (oI : Nat → Int32) (h : fX8_node I A x1 x2 = some (o, oI)) : Met l yX8_node wsX8_node rmX8_node (sh_Pw D (sh_ty cI cJ cZ) sz (sh_w8 q cI cJ cZ I S A) [.ref (q 0), .int x1, .int x2]) (sh_Qi D (sh_ty cI cJ cZ) (va_A (sh_w8 q cI cJ cZ I S A) sz) (sh_w8 q cI cJ cZ oI S A) o) 0 0 (va_A (sh_w8 q cI cJ cZ I S A) sz) := by
  refine Met.ofW (cc := cX8_node) (maxL := 5) (ret := (some .int)) (by decide) rfl ?_
  intro p e s m args below meth c s₁ hB hml hv
  obtain ⟨hargs, hsz, hP, hK, hD0⟩ := hv
  have hx := hB.exec
  have hb := hB.bytes
  have hr := hB.returns
  have hts := atoms_spec (ws := wsX8_node) hB.pre
  have hown : s.vm.findClass RX8 = some m.cls := findClass_of_methodNamed hB.named
  have hlocks := hB.notSynchronized
  have hfix : CallFix p m c cX8_node 5 s args wsX8_node RX8 := ⟨hx, hb, hml, hown, hts⟩
  have hinX8 : ∀ w ∈ wsX80, w ∈ wsX8_node := by decide +kernel
  have lk1 := hts (.fieldLink RX8 47 "ShadeTreeModel" "thrown" "I") (by decide +kernel)
  have lk2 := hts (.fieldLink RX8 16 "ShadeTreeModel" "page" "[I") (by decide +kernel)
  rw [show entryFrame m args 5 = entryFrame m ([.ref (q 0), .int x1, .int x2] : List Value).toArray 5 by rw [hargs], lg_entry_eq]
  have hl := lv_entry ([.ref (q 0), .int x1, .int x2]) (n := 5) (Nat.le_of_ble_eq_true rfl)
  generalize (lg_sl ([.ref (q 0), .int x1, .int x2]) ++ List.replicate (5 - (lg_sl ([.ref (q 0), .int x1, .int x2])).length) Slot.unset).toArray = ls at hl ⊢
  have hl : lv_has ls 5 [(0, .ref (q 0)), (1, .int x1), (2, .int x2)] := hl
  subst hsz
  have hD := hD0.self (sz := s.heap.size)
  generalize hAe : va_A (sh_w8 q cI cJ cZ I S A) s.heap.size = Az at hD ⊢
  have hA : ∀ q : Nat, s.heap.size ≤ q → Az q := fun q h => by rw [← hAe]; exact Or.inr h
  have hS : va_S Az s.heap s.heap [] := va_S.rf
  generalize hQ : MQ below (sh_Qi D (sh_ty cI cJ cZ) Az (sh_w8 q cI cJ cZ oI S A) o) args s 0 0 Az = Q
  unfold fX8_node at h
  refine lv_aload_n hx hb dX8_node_0 rfl (lv_at hl 0 rfl) ?_
  refine lv_iconst (v := 0) hx hb dX8_node_1 (by decide) ?_
  refine sh_put (wn := (sh_w8 q cI cJ cZ (upd I 0 0) S A)) (ci := 8) (v := .int 0) (ty := .int) (C := RX8) (T := TX8) (N := 21) hx hb hts hinX8 tyX8 tyX8_ok nmX8 hown hK hP hD hS 0 rfl rfl 0 (by decide) lk1 (fun _ h9 => h9) rfl (by decide +kernel) rfl rfl (Nat.le_of_ble_eq_true rfl) rfl dX8_node_2 (fun H locs hP hD hS => ?_)
  refine lv_aload_n hx hb dX8_node_5 rfl (lv_at hl 0 rfl) ?_
  refine lv_iload_n hx hb dX8_node_6 rfl (lv_at hl 1 rfl) ?_
  obtain ⟨v1, hc2, h⟩ := sh_b1_e h
  refine sh_cVi (As := [.int x1]) (rest := []) hfix (k_X8_noDot l D cI cJ cZ q (upd I 0 0) S A x1 v1 hc2) (cwV 1 hts gX8_node_X8_noDot rfl rfl rfl hdV_X8_noDot ⟨Nat.le_of_ble_eq_true rfl, Nat.le_of_ble_eq_true rfl⟩) hP hK [0, 1, 2, 3, 4, 5, 6, 7, 8, 9, 10, 11, 12] rfl 0 rfl rfl rfl hl.1 rfl (Nat.le_of_ble_eq_true rfl) dX8_node_7 ⟨Nat.zero_le _, Nat.zero_le _⟩ ?_
  refine lv_if_eq (tgt := 15) hx hb dX8_node_10 (by decide) (fun g3 => ?_) (fun g3 => ?_)
  · rw [if_pos g3] at h
    refine lv_aload_n hx hb dX8_node_15 rfl (lv_at hl 0 rfl) ?_
    refine va_get (ci := 8) (v := .ref (q 3)) (C := RX8) (T := TX8) (N := 21) hx hb hts hinX8 hown hK hP 0 rfl rfl 4 (by decide) lk2 (fun _ h9 => h9) rfl dX8_node_16 ?_
    refine lv_iload_n hx hb dX8_node_19 rfl (lv_at hl 1 rfl) ?_
    obtain ⟨v4, hc5, h⟩ := sh_b1_e h
    refine sh_cSl (As := [.ref (q 3), .int x1]) (rest := []) hfix (k_X8_nodeOf l D cI cJ cZ (q 3) (A 2) x1 v4 hc5) (va_cwS 2 hts gX8_node_X8_nodeOf rfl rfl rfl hdS_X8_nodeOf ⟨Nat.le_of_ble_eq_true rfl, Nat.le_of_ble_eq_true rfl⟩) hP hK [3] rfl rfl hl.1 rfl (Nat.le_of_ble_eq_true rfl) dX8_node_20 ⟨Nat.zero_le _, Nat.zero_le _⟩ ?_
    refine lv_lstore_n (lv' := [(3, .long v4), (0, .ref (q 0)), (1, .int x1), (2, .int x2)]) hx hb dX8_node_23 rfl hl (by decide) rfl (fun ls hl => ?_)
    refine lv_iload_n hx hb dX8_node_24 rfl (lv_at hl 3 rfl) ?_
    by_cases g6 : x2 = 0
    · rw [if_pos g6] at h
      refine lv_tableIn (off := 55) (tgt := 80) hx hb dX8_node_25 (by rw [g6]; decide) (by rw [g6]; decide) (by rw [g6]; rfl) (by decide) ?_
      refine lv_aload_n hx hb dX8_node_80 rfl (lv_at hl 1 rfl) ?_
      refine va_get (ci := 8) (v := .ref (q 3)) (C := RX8) (T := TX8) (N := 21) hx hb hts hinX8 hown hK hP 0 rfl rfl 4 (by decide) lk2 (fun _ h9 => h9) rfl dX8_node_81 ?_
      refine lv_lload_n hx hb dX8_node_84 rfl (lv_at hl 0 rfl) ?_
      obtain ⟨v39, hc40, h⟩ := sh_b1_e h
      refine sh_cSi (As := [.ref (q 3), .long v4]) (rest := []) hfix (k_X8_head l D cI cJ cZ (q 3) (A 2) v4 v39 hc40) (va_cwS 2 hts gX8_node_X8_head rfl rfl rfl hdS_X8_head ⟨Nat.le_of_ble_eq_true rfl, Nat.le_of_ble_eq_true rfl⟩) hP hK [3] rfl rfl hl.1 rfl (Nat.le_of_ble_eq_true rfl) dX8_node_85 ⟨Nat.zero_le _, Nat.zero_le _⟩ ?_
      cases h
      exact sh_rwi hx hb hr hlocks hQ hK hP hD hS dX8_node_88
    · rw [if_neg g6] at h
      by_cases g7 : x2 = 1
      · rw [if_pos g7] at h
        refine lv_tableIn (off := 64) (tgt := 89) hx hb dX8_node_25 (by rw [g7]; decide) (by rw [g7]; decide) (by rw [g7]; rfl) (by decide) ?_
        refine lv_aload_n hx hb dX8_node_89 rfl (lv_at hl 1 rfl) ?_
        refine va_get (ci := 8) (v := .ref (q 3)) (C := RX8) (T := TX8) (N := 21) hx hb hts hinX8 hown hK hP 0 rfl rfl 4 (by decide) lk2 (fun _ h9 => h9) rfl dX8_node_90 ?_
        refine lv_lload_n hx hb dX8_node_93 rfl (lv_at hl 0 rfl) ?_
        obtain ⟨v37, hc38, h⟩ := sh_b1_e h
        refine sh_cSi (As := [.ref (q 3), .long v4]) (rest := []) hfix (k_X8_level l D cI cJ cZ (q 3) (A 2) v4 v37 hc38) (va_cwS 2 hts gX8_node_X8_level rfl rfl rfl hdS_X8_level ⟨Nat.le_of_ble_eq_true rfl, Nat.le_of_ble_eq_true rfl⟩) hP hK [3] rfl rfl hl.1 rfl (Nat.le_of_ble_eq_true rfl) dX8_node_94 ⟨Nat.zero_le _, Nat.zero_le _⟩ ?_
        cases h
        exact sh_rwi hx hb hr hlocks hQ hK hP hD hS dX8_node_97
      · rw [if_neg g7] at h
        by_cases g8 : x2 = 2
        · rw [if_pos g8] at h
          refine lv_tableIn (off := 73) (tgt := 98) hx hb dX8_node_25 (by rw [g8]; decide) (by rw [g8]; decide) (by rw [g8]; rfl) (by decide) ?_
          refine lv_lload_n hx hb dX8_node_98 rfl (lv_at hl 0 rfl) ?_
          obtain ⟨v35, hc36, h⟩ := sh_b1_e h
          refine sh_cSi (As := [.long v4]) (rest := []) hfix (k_X8_many l D cI cJ cZ v4 v35 hc36) (va_cwS 1 hts gX8_node_X8_many rfl rfl rfl hdS_X8_many ⟨Nat.le_of_ble_eq_true rfl, Nat.le_of_ble_eq_true rfl⟩) hP hK [] rfl rfl hl.1 rfl (Nat.le_of_ble_eq_true rfl) dX8_node_99 ⟨Nat.zero_le _, Nat.zero_le _⟩ ?_
          cases h
          exact sh_rwi hx hb hr hlocks hQ hK hP hD hS dX8_node_102
        · rw [if_neg g8] at h
          by_cases g9 : x2 = 3
          · rw [if_pos g9] at h
            refine lv_tableIn (off := 78) (tgt := 103) hx hb dX8_node_25 (by rw [g9]; decide) (by rw [g9]; decide) (by rw [g9]; rfl) (by decide) ?_
            refine lv_aload_n hx hb dX8_node_103 rfl (lv_at hl 1 rfl) ?_
            refine va_get (ci := 8) (v := .ref (q 3)) (C := RX8) (T := TX8) (N := 21) hx hb hts hinX8 hown hK hP 0 rfl rfl 4 (by decide) lk2 (fun _ h9 => h9) rfl dX8_node_104 ?_
            refine lv_lload_n hx hb dX8_node_107 rfl (lv_at hl 0 rfl) ?_
            obtain ⟨v33, hc34, h⟩ := sh_b1_e h
            refine sh_cSi (As := [.ref (q 3), .long v4]) (rest := []) hfix (k_X8_light l D cI cJ cZ (q 3) (A 2) v4 v33 hc34) (va_cwS 2 hts gX8_node_X8_light rfl rfl rfl hdS_X8_light ⟨Nat.le_of_ble_eq_true rfl, Nat.le_of_ble_eq_true rfl⟩) hP hK [3] rfl rfl hl.1 rfl (Nat.le_of_ble_eq_true rfl) dX8_node_108 ⟨Nat.zero_le _, Nat.zero_le _⟩ ?_
            cases h
            exact sh_rwi hx hb hr hlocks hQ hK hP hD hS dX8_node_111
          · rw [if_neg g9] at h
            by_cases g10 : x2 = 4
            · rw [if_pos g10] at h
              refine lv_tableIn (off := 87) (tgt := 112) hx hb dX8_node_25 (by rw [g10]; decide) (by rw [g10]; decide) (by rw [g10]; rfl) (by decide) ?_
              refine lv_aload_n hx hb dX8_node_112 rfl (lv_at hl 1 rfl) ?_
              refine va_get (ci := 8) (v := .ref (q 3)) (C := RX8) (T := TX8) (N := 21) hx hb hts hinX8 hown hK hP 0 rfl rfl 4 (by decide) lk2 (fun _ h9 => h9) rfl dX8_node_113 ?_
              refine lv_lload_n hx hb dX8_node_116 rfl (lv_at hl 0 rfl) ?_
              obtain ⟨v26, hc27, h⟩ := sh_b1_e h
              refine sh_cSl (As := [.ref (q 3), .long v4]) (rest := []) hfix (k_X8_parent l D cI cJ cZ (q 3) (A 2) v4 v26 hc27) (va_cwS 2 hts gX8_node_X8_parent rfl rfl rfl hdS_X8_parent ⟨Nat.le_of_ble_eq_true rfl, Nat.le_of_ble_eq_true rfl⟩) hP hK [3] rfl rfl hl.1 rfl (Nat.le_of_ble_eq_true rfl) dX8_node_117 ⟨Nat.zero_le _, Nat.zero_le _⟩ ?_
              refine lv_lload_n hx hb dX8_node_120 rfl (lv_at hl 0 rfl) ?_
              refine sh_lne (tgt := 130) hx hb dX8_node_121 dX8_node_122 (by decide) (fun g28 => ?_) (fun g28 => ?_)
              · rw [if_neg g28] at h
                refine lv_aload_n hx hb dX8_node_130 rfl (lv_at hl 1 rfl) ?_
                refine va_get (ci := 8) (v := .ref (q 3)) (C := RX8) (T := TX8) (N := 21) hx hb hts hinX8 hown hK hP 0 rfl rfl 4 (by decide) lk2 (fun _ h9 => h9) rfl dX8_node_131 ?_
                refine lv_aload_n hx hb dX8_node_134 rfl (lv_at hl 1 rfl) ?_
                refine va_get (ci := 8) (v := .ref (q 3)) (C := RX8) (T := TX8) (N := 21) hx hb hts hinX8 hown hK hP 0 rfl rfl 4 (by decide) lk2 (fun _ h9 => h9) rfl dX8_node_135 ?_
                refine lv_lload_n hx hb dX8_node_138 rfl (lv_at hl 0 rfl) ?_
                obtain ⟨v29, hc30, h⟩ := sh_b1_e h
                refine sh_cSl (As := [.ref (q 3), .long v4]) (rest := [.ref (q 3)]) hfix (k_X8_parent l D cI cJ cZ (q 3) (A 2) v4 v29 hc30) (va_cwS 2 hts gX8_node_X8_parent rfl rfl rfl hdS_X8_parent ⟨Nat.le_of_ble_eq_true rfl, Nat.le_of_ble_eq_true rfl⟩) hP hK [3] rfl rfl hl.1 rfl (Nat.le_of_ble_eq_true rfl) dX8_node_139 ⟨Nat.zero_le _, Nat.zero_le _⟩ ?_
                obtain ⟨v31, hc32, h⟩ := sh_b1_e h
                refine sh_cSi (As := [.ref (q 3), .long v29]) (rest := []) hfix (k_X8_head l D cI cJ cZ (q 3) (A 2) v29 v31 hc32) (va_cwS 2 hts gX8_node_X8_head rfl rfl rfl hdS_X8_head ⟨Nat.le_of_ble_eq_true rfl, Nat.le_of_ble_eq_true rfl⟩) hP hK [3] rfl rfl hl.1 rfl (Nat.le_of_ble_eq_true rfl) dX8_node_142 ⟨Nat.zero_le _, Nat.zero_le _⟩ ?_
                cases h
                exact sh_rwi hx hb hr hlocks hQ hK hP hD hS dX8_node_145
              · rw [if_pos g28] at h
                refine lv_bipush (v := -9) hx hb dX8_node_125 (by decide) ?_
                refine lv_goto (tgt := 145) hx hb dX8_node_127 (by decide) ?_
                cases h
                exact sh_rwi hx hb hr hlocks hQ hK hP hD hS dX8_node_145
            · rw [if_neg g10] at h
              by_cases g11 : x2 = 5
              · rw [if_pos g11] at h
                refine lv_tableIn (off := 121) (tgt := 146) hx hb dX8_node_25 (by rw [g11]; decide) (by rw [g11]; decide) (by rw [g11]; rfl) (by decide) ?_
                refine lv_aload_n hx hb dX8_node_146 rfl (lv_at hl 1 rfl) ?_
                refine va_get (ci := 8) (v := .ref (q 3)) (C := RX8) (T := TX8) (N := 21) hx hb hts hinX8 hown hK hP 0 rfl rfl 4 (by decide) lk2 (fun _ h9 => h9) rfl dX8_node_147 ?_
                refine lv_lload_n hx hb dX8_node_150 rfl (lv_at hl 0 rfl) ?_
                obtain ⟨v24, hc25, h⟩ := sh_b1_e h
                refine sh_cSi (As := [.ref (q 3), .long v4]) (rest := []) hfix (k_X8_children l D cI cJ cZ (q 3) (A 2) v4 v24 hc25) (va_cwS 2 hts gX8_node_X8_children rfl rfl rfl hdS_X8_children ⟨Nat.le_of_ble_eq_true rfl, Nat.le_of_ble_eq_true rfl⟩) hP hK [3] rfl rfl hl.1 rfl (Nat.le_of_ble_eq_true rfl) dX8_node_151 ⟨Nat.zero_le _, Nat.zero_le _⟩ ?_
                cases h
                exact sh_rwi hx hb hr hlocks hQ hK hP hD hS dX8_node_154
              · rw [if_neg g11] at h
                by_cases g12 : x2 = 6
                · rw [if_pos g12] at h
                  refine lv_tableIn (off := 130) (tgt := 155) hx hb dX8_node_25 (by rw [g12]; decide) (by rw [g12]; decide) (by rw [g12]; rfl) (by decide) ?_
                  refine lv_aload_n hx hb dX8_node_155 rfl (lv_at hl 1 rfl) ?_
                  refine va_get (ci := 8) (v := .ref (q 3)) (C := RX8) (T := TX8) (N := 21) hx hb hts hinX8 hown hK hP 0 rfl rfl 4 (by decide) lk2 (fun _ h9 => h9) rfl dX8_node_156 ?_
                  refine lv_lload_n hx hb dX8_node_159 rfl (lv_at hl 0 rfl) ?_
                  obtain ⟨v22, hc23, h⟩ := sh_b1_e h
                  refine sh_cSi (As := [.ref (q 3), .long v4]) (rest := []) hfix (k_X8_depth l D cI cJ cZ (q 3) (A 2) v4 v22 hc23) (va_cwS 2 hts gX8_node_X8_depth rfl rfl rfl hdS_X8_depth ⟨Nat.le_of_ble_eq_true rfl, Nat.le_of_ble_eq_true rfl⟩) hP hK [3] rfl rfl hl.1 rfl (Nat.le_of_ble_eq_true rfl) dX8_node_160 ⟨Nat.zero_le _, Nat.zero_le _⟩ ?_
                  cases h
                  exact sh_rwi hx hb hr hlocks hQ hK hP hD hS dX8_node_163
                · rw [if_neg g12] at h
                  by_cases g13 : x2 = 7
                  · rw [if_pos g13] at h
                    refine lv_tableIn (off := 139) (tgt := 164) hx hb dX8_node_25 (by rw [g13]; decide) (by rw [g13]; decide) (by rw [g13]; rfl) (by decide) ?_
                    refine lv_aload_n hx hb dX8_node_164 rfl (lv_at hl 1 rfl) ?_
                    refine va_get (ci := 8) (v := .ref (q 3)) (C := RX8) (T := TX8) (N := 21) hx hb hts hinX8 hown hK hP 0 rfl rfl 4 (by decide) lk2 (fun _ h9 => h9) rfl dX8_node_165 ?_
                    refine lv_lload_n hx hb dX8_node_168 rfl (lv_at hl 0 rfl) ?_
                    refine lv_iconst (v := 1) hx hb dX8_node_169 (by decide) ?_
                    obtain ⟨v20, hc21, h⟩ := sh_b1_e h
                    refine sh_cSi (As := [.ref (q 3), .long v4, .int 1]) (rest := []) hfix (k_X8_box l D cI cJ cZ (q 3) (A 2) v4 1 v20 hc21) (va_cwS 3 hts gX8_node_X8_box rfl rfl rfl hdS_X8_box ⟨Nat.le_of_ble_eq_true rfl, Nat.le_of_ble_eq_true rfl⟩) hP hK [3] rfl rfl hl.1 rfl (Nat.le_of_ble_eq_true rfl) dX8_node_170 ⟨Nat.zero_le _, Nat.zero_le _⟩ ?_
                    cases h
                    exact sh_rwi hx hb hr hlocks hQ hK hP hD hS dX8_node_173
                  · rw [if_neg g13] at h
                    by_cases g14 : x2 = 8
                    · rw [if_pos g14] at h
                      refine lv_tableIn (off := 149) (tgt := 174) hx hb dX8_node_25 (by rw [g14]; decide) (by rw [g14]; decide) (by rw [g14]; rfl) (by decide) ?_
                      refine lv_aload_n hx hb dX8_node_174 rfl (lv_at hl 1 rfl) ?_
                      refine va_get (ci := 8) (v := .ref (q 3)) (C := RX8) (T := TX8) (N := 21) hx hb hts hinX8 hown hK hP 0 rfl rfl 4 (by decide) lk2 (fun _ h9 => h9) rfl dX8_node_175 ?_
                      refine lv_lload_n hx hb dX8_node_178 rfl (lv_at hl 0 rfl) ?_
                      refine lv_iconst (v := 0) hx hb dX8_node_179 (by decide) ?_
                      obtain ⟨v18, hc19, h⟩ := sh_b1_e h
                      refine sh_cSi (As := [.ref (q 3), .long v4, .int 0]) (rest := []) hfix (k_X8_box l D cI cJ cZ (q 3) (A 2) v4 0 v18 hc19) (va_cwS 3 hts gX8_node_X8_box rfl rfl rfl hdS_X8_box ⟨Nat.le_of_ble_eq_true rfl, Nat.le_of_ble_eq_true rfl⟩) hP hK [3] rfl rfl hl.1 rfl (Nat.le_of_ble_eq_true rfl) dX8_node_180 ⟨Nat.zero_le _, Nat.zero_le _⟩ ?_
                      cases h
                      exact sh_rwi hx hb hr hlocks hQ hK hP hD hS dX8_node_183
                    · rw [if_neg g14] at h
                      by_cases g15 : x2 = 9
                      · rw [if_pos g15] at h
                        refine lv_tableIn (off := 159) (tgt := 184) hx hb dX8_node_25 (by rw [g15]; decide) (by rw [g15]; decide) (by rw [g15]; rfl) (by decide) ?_
                        refine lv_aload_n hx hb dX8_node_184 rfl (lv_at hl 1 rfl) ?_
                        refine va_get (ci := 8) (v := .ref (q 3)) (C := RX8) (T := TX8) (N := 21) hx hb hts hinX8 hown hK hP 0 rfl rfl 4 (by decide) lk2 (fun _ h9 => h9) rfl dX8_node_185 ?_
                        refine lv_lload_n hx hb dX8_node_188 rfl (lv_at hl 0 rfl) ?_
                        obtain ⟨v16, hc17, h⟩ := sh_b1_e h
                        refine sh_cSi (As := [.ref (q 3), .long v4]) (rest := []) hfix (k_X8_rise l D cI cJ cZ (q 3) (A 2) v4 v16 hc17) (va_cwS 2 hts gX8_node_X8_rise rfl rfl rfl hdS_X8_rise ⟨Nat.le_of_ble_eq_true rfl, Nat.le_of_ble_eq_true rfl⟩) hP hK [3] rfl rfl hl.1 rfl (Nat.le_of_ble_eq_true rfl) dX8_node_189 ⟨Nat.zero_le _, Nat.zero_le _⟩ ?_
                        cases h
                        exact sh_rwi hx hb hr hlocks hQ hK hP hD hS dX8_node_192
                      · rw [if_neg g15] at h
                        refine lv_tableOut (tgt := 193) hx hb dX8_node_25 (by have k0 := lv_neT (a := 0) g6 rfl; have k1 := lv_neT (a := 1) g7 rfl; have k2 := lv_neT (a := 2) g8 rfl; have k3 := lv_neT (a := 3) g9 rfl; have k4 := lv_neT (a := 4) g10 rfl; have k5 := lv_neT (a := 5) g11 rfl; have k6 := lv_neT (a := 6) g12 rfl; have k7 := lv_neT (a := 7) g13 rfl; have k8 := lv_neT (a := 8) g14 rfl; have k9 := lv_neT (a := 9) g15 rfl; omega) (by decide) ?_
                        refine lv_bipush (v := -2) hx hb dX8_node_193 (by decide) ?_
                        cases h
                        exact sh_rwi hx hb hr hlocks hQ hK hP hD hS dX8_node_195
  · rw [if_neg g3] at h
    refine lv_iconst (v := -1) hx hb dX8_node_13 (by decide) ?_
    cases h
    exact sh_rwi hx hb hr hlocks hQ hK hP hD hS dX8_node_14
theorem hdV_X8_dots : yX8_dots.cls = RX8 ∧ yX8_dots.cls ≠ "java/lang/invoke/MethodHandle" ∧ yX8_dots.cls ≠ "java/lang/invoke/VarHandle" ∧ (parseMethodDescriptor yX8_dots.desc).map (fun d => d.parameters.length) = some 1 := by decide +kernel
abbrev rmX8_dots : Room := { frames := 5, cells := 0, slots := 0, locals := 123 }
set_option maxHeartbeats 4000000 in
set_option maxRecDepth 100000 in
theorem k_X8_dots (l : Launch) (D : va_G) (cI cJ cZ : ClassId) (sz : Nat) (q : Nat → Nat) (I : Nat → Int32) (S : Int64) (A : Nat → Nat → Int32) (x1 : Int32) (o : Int64) (oI : Nat → Int32) (h : fX8_dots I A x1 = some (o, oI)) : Met l yX8_dots wsX8_dots rmX8_dots (sh_Pw D (sh_ty cI cJ cZ) sz (sh_w8 q cI cJ cZ I S A) [.ref (q 0), .int x1]) (sh_Ql D (sh_ty cI cJ cZ) (va_A (sh_w8 q cI cJ cZ I S A) sz) (sh_w8 q cI cJ cZ oI S A) o) 0 0 (va_A (sh_w8 q cI cJ cZ I S A) sz) := by
  refine Met.ofW (cc := cX8_dots) (maxL := 2) (ret := (some .long)) (by decide) rfl ?_
  intro p e s m args below meth c s₁ hB hml hv
  obtain ⟨hargs, hsz, hP, hK, hD0⟩ := hv
  have hx := hB.exec
  have hb := hB.bytes
  have hr := hB.returns
  have hts := atoms_spec (ws := wsX8_dots) hB.pre
  have hown : s.vm.findClass RX8 = some m.cls := findClass_of_methodNamed hB.named
  have hlocks := hB.notSynchronized
  have hfix : CallFix p m c cX8_dots 2 s args wsX8_dots RX8 := ⟨hx, hb, hml, hown, hts⟩
  have hinX8 : ∀ w ∈ wsX80, w ∈ wsX8_dots := by decide +kernel
  have lk1 := hts (.fieldLink RX8 47 "ShadeTreeModel" "thrown" "I") (by decide +kernel)
  have lk2 := hts (.fieldLink RX8 16 "ShadeTreeModel" "page" "[I") (by decide +kernel)
  have lk3 := hts (.constantLong RX8 67 (-1)) (by decide +kernel)
  rw [show entryFrame m args 2 = entryFrame m ([.ref (q 0), .int x1] : List Value).toArray 2 by rw [hargs], lg_entry_eq]
  have hl := lv_entry ([.ref (q 0), .int x1]) (n := 2) (Nat.le_of_ble_eq_true rfl)
  generalize (lg_sl ([.ref (q 0), .int x1]) ++ List.replicate (2 - (lg_sl ([.ref (q 0), .int x1])).length) Slot.unset).toArray = ls at hl ⊢
  have hl : lv_has ls 2 [(0, .ref (q 0)), (1, .int x1)] := hl
  subst hsz
  have hD := hD0.self (sz := s.heap.size)
  generalize hAe : va_A (sh_w8 q cI cJ cZ I S A) s.heap.size = Az at hD ⊢
  have hA : ∀ q : Nat, s.heap.size ≤ q → Az q := fun q h => by rw [← hAe]; exact Or.inr h
  have hS : va_S Az s.heap s.heap [] := va_S.rf
  generalize hQ : MQ below (sh_Ql D (sh_ty cI cJ cZ) Az (sh_w8 q cI cJ cZ oI S A) o) args s 0 0 Az = Q
  unfold fX8_dots at h
  refine lv_aload_n hx hb dX8_dots_0 rfl (lv_at hl 0 rfl) ?_
  refine lv_iconst (v := 0) hx hb dX8_dots_1 (by decide) ?_
  refine sh_put (wn := (sh_w8 q cI cJ cZ (upd I 0 0) S A)) (ci := 8) (v := .int 0) (ty := .int) (C := RX8) (T := TX8) (N := 21) hx hb hts hinX8 tyX8 tyX8_ok nmX8 hown hK hP hD hS 0 rfl rfl 0 (by decide) lk1 (fun _ h9 => h9) rfl (by decide +kernel) rfl rfl (Nat.le_of_ble_eq_true rfl) rfl dX8_dots_2 (fun H locs hP hD hS => ?_)
  refine lv_aload_n hx hb dX8_dots_5 rfl (lv_at hl 0 rfl) ?_
  refine lv_iload_n hx hb dX8_dots_6 rfl (lv_at hl 1 rfl) ?_
  obtain ⟨v1, hc2, h⟩ := sh_b1_e h
  refine sh_cVi (As := [.int x1]) (rest := []) hfix (k_X8_noDot l D cI cJ cZ q (upd I 0 0) S A x1 v1 hc2) (cwV 1 hts gX8_dots_X8_noDot rfl rfl rfl hdV_X8_noDot ⟨Nat.le_of_ble_eq_true rfl, Nat.le_of_ble_eq_true rfl⟩) hP hK [0, 1, 2, 3, 4, 5, 6, 7, 8, 9, 10, 11, 12] rfl 0 rfl rfl rfl hl.1 rfl (Nat.le_of_ble_eq_true rfl) dX8_dots_7 ⟨Nat.zero_le _, Nat.zero_le _⟩ ?_
  refine lv_if_eq (tgt := 19) hx hb dX8_dots_10 (by decide) (fun g3 => ?_) (fun g3 => ?_)
  · rw [if_pos g3] at h
    refine lv_aload_n hx hb dX8_dots_19 rfl (lv_at hl 0 rfl) ?_
    refine va_get (ci := 8) (v := .ref (q 3)) (C := RX8) (T := TX8) (N := 21) hx hb hts hinX8 hown hK hP 0 rfl rfl 4 (by decide) lk2 (fun _ h9 => h9) rfl dX8_dots_20 ?_
    refine lv_iload_n hx hb dX8_dots_23 rfl (lv_at hl 1 rfl) ?_
    obtain ⟨v4, hc5, h⟩ := sh_b1_e h
    refine sh_cSl (As := [.ref (q 3), .int x1]) (rest := []) hfix (k_X8_nodeOf l D cI cJ cZ (q 3) (A 2) x1 v4 hc5) (va_cwS 2 hts gX8_dots_X8_nodeOf rfl rfl rfl hdS_X8_nodeOf ⟨Nat.le_of_ble_eq_true rfl, Nat.le_of_ble_eq_true rfl⟩) hP hK [3] rfl rfl hl.1 rfl (Nat.le_of_ble_eq_true rfl) dX8_dots_24 ⟨Nat.zero_le _, Nat.zero_le _⟩ ?_
    cases h
    exact sh_rwl hx hb hr hlocks hQ hK hP hD hS dX8_dots_27
  · rw [if_neg g3] at h
    refine lv_ldc2 hx hb hown lk3 dX8_dots_13 ?_
    refine lv_goto (tgt := 27) hx hb dX8_dots_16 (by decide) ?_
    cases h
    exact sh_rwl hx hb hr hlocks hQ hK hP hD hS dX8_dots_27
theorem hdV_X8_parts : yX8_parts.cls = RX8 ∧ yX8_parts.cls ≠ "java/lang/invoke/MethodHandle" ∧ yX8_parts.cls ≠ "java/lang/invoke/VarHandle" ∧ (parseMethodDescriptor yX8_parts.desc).map (fun d => d.parameters.length) = some 1 := by decide +kernel
abbrev rmX8_parts : Room := { frames := 4, cells := 0, slots := 0, locals := 107 }
set_option maxHeartbeats 4000000 in
set_option maxRecDepth 100000 in
theorem k_X8_parts (l : Launch) (D : va_G) (cI cJ cZ : ClassId) (sz : Nat) (q : Nat → Nat) (I : Nat → Int32) (S : Int64) (A : Nat → Nat → Int32) (x1 : Int32) (o : Int32) (oI : Nat → Int32) (h : fX8_parts I A x1 = some (o, oI)) : Met l yX8_parts wsX8_parts rmX8_parts (sh_Pw D (sh_ty cI cJ cZ) sz (sh_w8 q cI cJ cZ I S A) [.ref (q 0), .int x1]) (sh_Qi D (sh_ty cI cJ cZ) (va_A (sh_w8 q cI cJ cZ I S A) sz) (sh_w8 q cI cJ cZ oI S A) o) 0 0 (va_A (sh_w8 q cI cJ cZ I S A) sz) := by
  refine Met.ofW (cc := cX8_parts) (maxL := 2) (ret := (some .int)) (by decide) rfl ?_
  intro p e s m args below meth c s₁ hB hml hv
  obtain ⟨hargs, hsz, hP, hK, hD0⟩ := hv
  have hx := hB.exec
  have hb := hB.bytes
  have hr := hB.returns
  have hts := atoms_spec (ws := wsX8_parts) hB.pre
  have hown : s.vm.findClass RX8 = some m.cls := findClass_of_methodNamed hB.named
  have hlocks := hB.notSynchronized
  have hfix : CallFix p m c cX8_parts 2 s args wsX8_parts RX8 := ⟨hx, hb, hml, hown, hts⟩
  have hinX8 : ∀ w ∈ wsX80, w ∈ wsX8_parts := by decide +kernel
  have lk1 := hts (.fieldLink RX8 47 "ShadeTreeModel" "thrown" "I") (by decide +kernel)
  have lk2 := hts (.constantLong RX8 117 (9)) (by decide +kernel)
  have lk3 := hts (.fieldLink RX8 16 "ShadeTreeModel" "page" "[I") (by decide +kernel)
  have lk4 := hts (.constantLong RX8 67 (-1)) (by decide +kernel)
  rw [show entryFrame m args 2 = entryFrame m ([.ref (q 0), .int x1] : List Value).toArray 2 by rw [hargs], lg_entry_eq]
  have hl := lv_entry ([.ref (q 0), .int x1]) (n := 2) (Nat.le_of_ble_eq_true rfl)
  generalize (lg_sl ([.ref (q 0), .int x1]) ++ List.replicate (2 - (lg_sl ([.ref (q 0), .int x1])).length) Slot.unset).toArray = ls at hl ⊢
  have hl : lv_has ls 2 [(0, .ref (q 0)), (1, .int x1)] := hl
  subst hsz
  have hD := hD0.self (sz := s.heap.size)
  generalize hAe : va_A (sh_w8 q cI cJ cZ I S A) s.heap.size = Az at hD ⊢
  have hA : ∀ q : Nat, s.heap.size ≤ q → Az q := fun q h => by rw [← hAe]; exact Or.inr h
  have hS : va_S Az s.heap s.heap [] := va_S.rf
  generalize hQ : MQ below (sh_Qi D (sh_ty cI cJ cZ) Az (sh_w8 q cI cJ cZ oI S A) o) args s 0 0 Az = Q
  unfold fX8_parts at h
  refine lv_aload_n hx hb dX8_parts_0 rfl (lv_at hl 0 rfl) ?_
  refine lv_iconst (v := 0) hx hb dX8_parts_1 (by decide) ?_
  refine sh_put (wn := (sh_w8 q cI cJ cZ (upd I 0 0) S A)) (ci := 8) (v := .int 0) (ty := .int) (C := RX8) (T := TX8) (N := 21) hx hb hts hinX8 tyX8 tyX8_ok nmX8 hown hK hP hD hS 0 rfl rfl 0 (by decide) lk1 (fun _ h9 => h9) rfl (by decide +kernel) rfl rfl (Nat.le_of_ble_eq_true rfl) rfl dX8_parts_2 (fun H locs hP hD hS => ?_)
  refine lv_iload_n hx hb dX8_parts_5 rfl (lv_at hl 1 rfl) ?_
  refine lv_i2l (v := (Int32.toInt64 x1)) hx hb dX8_parts_6 rfl ?_
  refine lv_lconst (v := 0) hx hb dX8_parts_7 (by decide) ?_
  refine lv_ldc2 hx hb hown lk2 dX8_parts_8 ?_
  obtain ⟨v1, hc2, h⟩ := sh_b1_e h
  refine sh_cSi (As := [.long (Int32.toInt64 x1), .long 0, .long 9]) (rest := []) hfix (k_X8_in l D cI cJ cZ (Int32.toInt64 x1) 0 9 v1 hc2) (va_cwS 3 hts gX8_parts_X8_in rfl rfl rfl hdS_X8_in ⟨Nat.le_of_ble_eq_true rfl, Nat.le_of_ble_eq_true rfl⟩) hP hK [] rfl rfl hl.1 rfl (Nat.le_of_ble_eq_true rfl) dX8_parts_11 ⟨Nat.zero_le _, Nat.zero_le _⟩ ?_
  refine lv_if_eq (tgt := 31) hx hb dX8_parts_14 (by decide) (fun g3 => ?_) (fun g3 => ?_)
  · rw [if_pos g3] at h
    refine lv_bipush (v := -2) hx hb dX8_parts_31 (by decide) ?_
    cases h
    exact sh_rwi hx hb hr hlocks hQ hK hP hD hS dX8_parts_33
  · rw [if_neg g3] at h
    refine lv_aload_n hx hb dX8_parts_17 rfl (lv_at hl 0 rfl) ?_
    refine va_get (ci := 8) (v := .ref (q 3)) (C := RX8) (T := TX8) (N := 21) hx hb hts hinX8 hown hK hP 0 rfl rfl 4 (by decide) lk3 (fun _ h9 => h9) rfl dX8_parts_18 ?_
    refine lv_iload_n hx hb dX8_parts_21 rfl (lv_at hl 1 rfl) ?_
    refine lv_ldc2 hx hb hown lk4 dX8_parts_22 ?_
    obtain ⟨v4, hc5, h⟩ := sh_b1_e h
    refine sh_cSi (As := [.ref (q 3), .int x1, .long (-1)]) (rest := []) hfix (k_X8_partsOf l D cI cJ cZ (q 3) (A 2) x1 (-1) v4 hc5) (va_cwS 3 hts gX8_parts_X8_partsOf rfl rfl rfl hdS_X8_partsOf ⟨Nat.le_of_ble_eq_true rfl, Nat.le_of_ble_eq_true rfl⟩) hP hK [3] rfl rfl hl.1 rfl (Nat.le_of_ble_eq_true rfl) dX8_parts_25 ⟨Nat.zero_le _, Nat.zero_le _⟩ ?_
    refine lv_goto (tgt := 33) hx hb dX8_parts_28 (by decide) ?_
    cases h
    exact sh_rwi hx hb hr hlocks hQ hK hP hD hS dX8_parts_33
theorem hdV_X8_note : yX8_note.cls = RX8 ∧ yX8_note.cls ≠ "java/lang/invoke/MethodHandle" ∧ yX8_note.cls ≠ "java/lang/invoke/VarHandle" ∧ (parseMethodDescriptor yX8_note.desc).map (fun d => d.parameters.length) = some 0 := by decide +kernel
abbrev rmX8_note : Room := { frames := 0, cells := 0, slots := 0, locals := 0 }
set_option maxHeartbeats 4000000 in
set_option maxRecDepth 100000 in
theorem k_X8_note (l : Launch) (D : va_G) (cI cJ cZ : ClassId) (sz : Nat) (q : Nat → Nat) (I : Nat → Int32) (S : Int64) (A : Nat → Nat → Int32) (oI : Nat → Int32) (oA : Nat → Nat → Int32) (h : fX8_note I A = some (oI, oA)) : Met l yX8_note wsX8_note rmX8_note (sh_Pw D (sh_ty cI cJ cZ) sz (sh_w8 q cI cJ cZ I S A) [.ref (q 0)]) (sh_Qv D (sh_ty cI cJ cZ) (va_A (sh_w8 q cI cJ cZ I S A) sz) (sh_w8 q cI cJ cZ oI S oA)) 0 0 (va_A (sh_w8 q cI cJ cZ I S A) sz) := by
  refine Met.ofW (cc := cX8_note) (maxL := 2) (ret := none) (by decide) rfl ?_
  intro p e s m args below meth c s₁ hB hml hv
  obtain ⟨hargs, hsz, hP, hK, hD0⟩ := hv
  have hx := hB.exec
  have hb := hB.bytes
  have hr := hB.returns
  have hts := atoms_spec (ws := wsX8_note) hB.pre
  have hown : s.vm.findClass RX8 = some m.cls := findClass_of_methodNamed hB.named
  have hlocks := hB.notSynchronized
  have hfix : CallFix p m c cX8_note 2 s args wsX8_note RX8 := ⟨hx, hb, hml, hown, hts⟩
  have hinX8 : ∀ w ∈ wsX80, w ∈ wsX8_note := by decide +kernel
  have lk1 := hts (.fieldLink RX8 123 "ShadeTreeModel" "doings" "I") (by decide +kernel)
  have lk2 := hts (.fieldLink RX8 25 "ShadeTreeModel" "book" "[I") (by decide +kernel)
  have lk3 := hts (.fieldLink RX8 16 "ShadeTreeModel" "page" "[I") (by decide +kernel)
  rw [show entryFrame m args 2 = entryFrame m ([.ref (q 0)] : List Value).toArray 2 by rw [hargs], lg_entry_eq]
  have hl := lv_entry ([.ref (q 0)]) (n := 2) (Nat.le_of_ble_eq_true rfl)
  generalize (lg_sl ([.ref (q 0)]) ++ List.replicate (2 - (lg_sl ([.ref (q 0)])).length) Slot.unset).toArray = ls at hl ⊢
  have hl : lv_has ls 2 [(0, .ref (q 0))] := hl
  subst hsz
  have hD := hD0.self (sz := s.heap.size)
  generalize hAe : va_A (sh_w8 q cI cJ cZ I S A) s.heap.size = Az at hD ⊢
  have hA : ∀ q : Nat, s.heap.size ≤ q → Az q := fun q h => by rw [← hAe]; exact Or.inr h
  have hS : va_S Az s.heap s.heap [] := va_S.rf
  generalize hQ : MQ below (sh_Qv D (sh_ty cI cJ cZ) Az (sh_w8 q cI cJ cZ oI S oA)) args s 0 0 Az = Q
  unfold fX8_note at h
  refine lv_aload_n hx hb dX8_note_0 rfl (lv_at hl 0 rfl) ?_
  refine va_get (ci := 8) (v := .int (I 2)) (C := RX8) (T := TX8) (N := 21) hx hb hts hinX8 hown hK hP 0 rfl rfl 8 (by decide) lk1 (fun _ h9 => h9) rfl dX8_note_1 ?_
  refine lv_bipush (v := 14) hx hb dX8_note_4 (by decide) ?_
  refine lv_icmp_ne (tgt := 49) hx hb dX8_note_6 (by decide) (fun g1 => ?_) (fun g1 => ?_)
  · rw [if_neg g1] at h
    refine lv_iconst (v := 0) hx hb dX8_note_49 (by decide) ?_
    refine lv_istore_n (lv' := [(1, .int 0), (0, .ref (q 0))]) hx hb dX8_note_50 rfl hl (by decide) rfl (fun ls hl => ?_)
    have LP5 : ∀ (n : Nat) (x1 : Int32) (A : Nat → Nat → Int32) (oA : (Nat → Nat → Int32)) (H : Heap) (locs : List Loc) (ls : Array Slot), fX8_note_L51 n x1 I A = some oA → lv_has ls 2 [(0, .ref (q 0)), (1, .int x1)] → va_P D vwCl (sh_w8 q cI cJ cZ I S A) H → va_D Az (sh_w8 q cI cJ cZ I S A) → va_S Az s.heap H locs → (∀ (H : Heap) (locs : List Loc) (ls : Array Slot), lv_has ls 2 [(0, .ref (q 0))] → va_P D vwCl (sh_w8 q cI cJ cZ I S oA) H → va_D Az (sh_w8 q cI cJ cZ I S oA) → va_S Az s.heap H locs → W p l e (headSpec wsX8_note rmX8_note).room s m args below meth c H locs 0 0 Q (F0 m 83 ls [])) → W p l e (headSpec wsX8_note rmX8_note).room s m args below meth c H locs 0 0 Q (F0 m 51 ls []) := by
      intro n
      induction n with
      | zero =>
        intro x1 A oA H locs ls h hl hP hD hS hk
        exact nomatch ((fX8_note_L51_z x1 I A).symm.trans h)
      | succ n ih =>
        intro x1 A oA H locs ls h hl hP hD hS hk
        rw [fX8_note_L51_s] at h
        refine lv_iload_n hx hb dX8_note_51 rfl (lv_at hl 1 rfl) ?_
        refine lv_bipush (v := 39) hx hb dX8_note_52 (by decide) ?_
        refine lv_icmp_ge (tgt := 83) hx hb dX8_note_54 (by decide) (fun g2 => ?_) (fun g2 => ?_)
        · rw [if_pos g2] at h
          cases h
          exact hk _ _ ls (lv_sub hl [0] rfl) hP hD hS
        · rw [if_neg g2] at h
          refine lv_aload_n hx hb dX8_note_57 rfl (lv_at hl 0 rfl) ?_
          refine va_get (ci := 8) (v := .ref (q 6)) (C := RX8) (T := TX8) (N := 21) hx hb hts hinX8 hown hK hP 0 rfl rfl 7 (by decide) lk2 (fun _ h9 => h9) rfl dX8_note_58 ?_
          refine lv_bipush (v := 39) hx hb dX8_note_61 (by decide) ?_
          refine lv_aload_n hx hb dX8_note_63 rfl (lv_at hl 0 rfl) ?_
          refine va_get (ci := 8) (v := .int (I 2)) (C := RX8) (T := TX8) (N := 21) hx hb hts hinX8 hown hK hP 0 rfl rfl 8 (by decide) lk1 (fun _ h9 => h9) rfl dX8_note_64 ?_
          refine lv_imul hx hb dX8_note_67 ?_
          refine lv_iload_n hx hb dX8_note_68 rfl (lv_at hl 1 rfl) ?_
          refine lv_iadd hx hb dX8_note_69 ?_
          refine lv_aload_n hx hb dX8_note_70 rfl (lv_at hl 0 rfl) ?_
          refine va_get (ci := 8) (v := .ref (q 3)) (C := RX8) (T := TX8) (N := 21) hx hb hts hinX8 hown hK hP 0 rfl rfl 4 (by decide) lk3 (fun _ h9 => h9) rfl dX8_note_71 ?_
          refine lv_iload_n hx hb dX8_note_74 rfl (lv_at hl 1 rfl) ?_
          obtain ⟨v3, hcv3, h⟩ := sh_b1_e h
          refine sh_iald hx hb hK hP 3 0 rfl rfl (sh_ald_e hcv3) dX8_note_75 ?_
          obtain ⟨f4, hcf4, h⟩ := sh_b1_e h
          refine sh_iast (wn := (sh_w8 q cI cJ cZ I S (va_up A 5 f4))) hx hb hK hP hD hS 6 0 rfl rfl (sh_ast_e hcf4) rfl dX8_note_76 (fun H locs hP hD hS => ?_)
          refine lv_iinc (v := (x1 + 1)) (lv' := [(1, .int (x1 + 1)), (0, .ref (q 0))]) hx hb dX8_note_77 hl (k := 1) rfl rfl (by decide) rfl (fun ls hl => ?_)
          refine lv_goto (tgt := 51) hx hb dX8_note_80 (by decide) ?_
          exact ih (x1 + 1) (va_up A 5 f4) oA _ _ ls h (lv_sub hl [1, 0] rfl) hP hD hS hk
    obtain ⟨w6, hc7, h⟩ := sh_b1_e h
    refine LP5 sh_fu 0 A w6 _ _ ls hc7 (lv_sub hl [1, 0] rfl) hP hD hS (fun H locs ls hl hP hD hS => ?_)
    refine lv_aload_n hx hb dX8_note_83 rfl (lv_at hl 0 rfl) ?_
    refine lv_dup hx hb dX8_note_84 rfl ?_
    refine va_get (ci := 8) (v := .int (I 2)) (C := RX8) (T := TX8) (N := 21) hx hb hts hinX8 hown hK hP 0 rfl rfl 8 (by decide) lk1 (fun _ h9 => h9) rfl dX8_note_85 ?_
    refine lv_iconst (v := 1) hx hb dX8_note_88 (by decide) ?_
    refine lv_iadd hx hb dX8_note_89 ?_
    refine sh_put (wn := (sh_w8 q cI cJ cZ (upd I 2 ((I 2) + 1)) S w6)) (ci := 8) (v := .int ((I 2) + 1)) (ty := .int) (C := RX8) (T := TX8) (N := 21) hx hb hts hinX8 tyX8 tyX8_ok nmX8 hown hK hP hD hS 0 rfl rfl 8 (by decide) lk1 (fun _ h9 => h9) rfl (by decide +kernel) rfl rfl (Nat.le_of_ble_eq_true rfl) rfl dX8_note_90 (fun H locs hP hD hS => ?_)
    cases h
    exact sh_rwv hx hb hr hlocks hQ hK hP hD hS dX8_note_93
  · rw [if_pos g1] at h
    refine lv_iconst (v := 0) hx hb dX8_note_9 (by decide) ?_
    refine lv_istore_n (lv' := [(1, .int 0), (0, .ref (q 0))]) hx hb dX8_note_10 rfl hl (by decide) rfl (fun ls hl => ?_)
    have LP11 : ∀ (n : Nat) (x1 : Int32) (A : Nat → Nat → Int32) (oA : (Nat → Nat → Int32)) (H : Heap) (locs : List Loc) (ls : Array Slot), fX8_note_L11 n x1 A = some oA → lv_has ls 2 [(0, .ref (q 0)), (1, .int x1)] → va_P D vwCl (sh_w8 q cI cJ cZ I S A) H → va_D Az (sh_w8 q cI cJ cZ I S A) → va_S Az s.heap H locs → (∀ (H : Heap) (locs : List Loc) (ls : Array Slot), lv_has ls 2 [(0, .ref (q 0))] → va_P D vwCl (sh_w8 q cI cJ cZ I S oA) H → va_D Az (sh_w8 q cI cJ cZ I S oA) → va_S Az s.heap H locs → W p l e (headSpec wsX8_note rmX8_note).room s m args below meth c H locs 0 0 Q (F0 m 39 ls [])) → W p l e (headSpec wsX8_note rmX8_note).room s m args below meth c H locs 0 0 Q (F0 m 11 ls []) := by
      intro n
      induction n with
      | zero =>
        intro x1 A oA H locs ls h hl hP hD hS hk
        exact nomatch ((fX8_note_L11_z x1 A).symm.trans h)
      | succ n ih =>
        intro x1 A oA H locs ls h hl hP hD hS hk
        rw [fX8_note_L11_s] at h
        refine lv_iload_n hx hb dX8_note_11 rfl (lv_at hl 1 rfl) ?_
        refine lv_sipush (v := 507) hx hb dX8_note_12 (by decide) ?_
        refine lv_icmp_ge (tgt := 39) hx hb dX8_note_15 (by decide) (fun g8 => ?_) (fun g8 => ?_)
        · rw [if_pos g8] at h
          cases h
          exact hk _ _ ls (lv_sub hl [0] rfl) hP hD hS
        · rw [if_neg g8] at h
          refine lv_aload_n hx hb dX8_note_18 rfl (lv_at hl 0 rfl) ?_
          refine va_get (ci := 8) (v := .ref (q 6)) (C := RX8) (T := TX8) (N := 21) hx hb hts hinX8 hown hK hP 0 rfl rfl 7 (by decide) lk2 (fun _ h9 => h9) rfl dX8_note_19 ?_
          refine lv_iload_n hx hb dX8_note_22 rfl (lv_at hl 1 rfl) ?_
          refine lv_aload_n hx hb dX8_note_23 rfl (lv_at hl 0 rfl) ?_
          refine va_get (ci := 8) (v := .ref (q 6)) (C := RX8) (T := TX8) (N := 21) hx hb hts hinX8 hown hK hP 0 rfl rfl 7 (by decide) lk2 (fun _ h9 => h9) rfl dX8_note_24 ?_
          refine lv_iload_n hx hb dX8_note_27 rfl (lv_at hl 1 rfl) ?_
          refine lv_bipush (v := 39) hx hb dX8_note_28 (by decide) ?_
          refine lv_iadd hx hb dX8_note_30 ?_
          obtain ⟨v9, hcv9, h⟩ := sh_b1_e h
          refine sh_iald hx hb hK hP 6 0 rfl rfl (sh_ald_e hcv9) dX8_note_31 ?_
          obtain ⟨f10, hcf10, h⟩ := sh_b1_e h
          refine sh_iast (wn := (sh_w8 q cI cJ cZ I S (va_up A 5 f10))) hx hb hK hP hD hS 6 0 rfl rfl (sh_ast_e hcf10) rfl dX8_note_32 (fun H locs hP hD hS => ?_)
          refine lv_iinc (v := (x1 + 1)) (lv' := [(1, .int (x1 + 1)), (0, .ref (q 0))]) hx hb dX8_note_33 hl (k := 1) rfl rfl (by decide) rfl (fun ls hl => ?_)
          refine lv_goto (tgt := 11) hx hb dX8_note_36 (by decide) ?_
          exact ih (x1 + 1) (va_up A 5 f10) oA _ _ ls h (lv_sub hl [1, 0] rfl) hP hD hS hk
    obtain ⟨w12, hc19, h⟩ := sh_b1_e h
    refine LP11 sh_fu 0 A w12 _ _ ls hc19 (lv_sub hl [1, 0] rfl) hP hD hS (fun H locs ls hl hP hD hS => ?_)
    refine lv_aload_n hx hb dX8_note_39 rfl (lv_at hl 0 rfl) ?_
    refine lv_dup hx hb dX8_note_40 rfl ?_
    refine va_get (ci := 8) (v := .int (I 2)) (C := RX8) (T := TX8) (N := 21) hx hb hts hinX8 hown hK hP 0 rfl rfl 8 (by decide) lk1 (fun _ h9 => h9) rfl dX8_note_41 ?_
    refine lv_iconst (v := 1) hx hb dX8_note_44 (by decide) ?_
    refine lv_isub hx hb dX8_note_45 ?_
    refine sh_put (wn := (sh_w8 q cI cJ cZ (upd I 2 ((I 2) - 1)) S w12)) (ci := 8) (v := .int ((I 2) - 1)) (ty := .int) (C := RX8) (T := TX8) (N := 21) hx hb hts hinX8 tyX8 tyX8_ok nmX8 hown hK hP hD hS 0 rfl rfl 8 (by decide) lk1 (fun _ h9 => h9) rfl (by decide +kernel) rfl rfl (Nat.le_of_ble_eq_true rfl) rfl dX8_note_46 (fun H locs hP hD hS => ?_)
    refine lv_iconst (v := 0) hx hb dX8_note_49 (by decide) ?_
    refine lv_istore_n (lv' := [(1, .int 0), (0, .ref (q 0))]) hx hb dX8_note_50 rfl hl (by decide) rfl (fun ls hl => ?_)
    have LP16 : ∀ (n : Nat) (x1 : Int32) (A : Nat → Nat → Int32) (oA : (Nat → Nat → Int32)) (H : Heap) (locs : List Loc) (ls : Array Slot), fX8_note_L51 n x1 (upd I 2 ((I 2) - 1)) A = some oA → lv_has ls 2 [(0, .ref (q 0)), (1, .int x1)] → va_P D vwCl (sh_w8 q cI cJ cZ (upd I 2 ((I 2) - 1)) S A) H → va_D Az (sh_w8 q cI cJ cZ (upd I 2 ((I 2) - 1)) S A) → va_S Az s.heap H locs → (∀ (H : Heap) (locs : List Loc) (ls : Array Slot), lv_has ls 2 [(0, .ref (q 0))] → va_P D vwCl (sh_w8 q cI cJ cZ (upd I 2 ((I 2) - 1)) S oA) H → va_D Az (sh_w8 q cI cJ cZ (upd I 2 ((I 2) - 1)) S oA) → va_S Az s.heap H locs → W p l e (headSpec wsX8_note rmX8_note).room s m args below meth c H locs 0 0 Q (F0 m 83 ls [])) → W p l e (headSpec wsX8_note rmX8_note).room s m args below meth c H locs 0 0 Q (F0 m 51 ls []) := by
      intro n
      induction n with
      | zero =>
        intro x1 A oA H locs ls h hl hP hD hS hk
        exact nomatch ((fX8_note_L51_z x1 (upd I 2 ((I 2) - 1)) A).symm.trans h)
      | succ n ih =>
        intro x1 A oA H locs ls h hl hP hD hS hk
        rw [fX8_note_L51_s] at h
        refine lv_iload_n hx hb dX8_note_51 rfl (lv_at hl 1 rfl) ?_
        refine lv_bipush (v := 39) hx hb dX8_note_52 (by decide) ?_
        refine lv_icmp_ge (tgt := 83) hx hb dX8_note_54 (by decide) (fun g13 => ?_) (fun g13 => ?_)
        · rw [if_pos g13] at h
          cases h
          exact hk _ _ ls (lv_sub hl [0] rfl) hP hD hS
        · rw [if_neg g13] at h
          refine lv_aload_n hx hb dX8_note_57 rfl (lv_at hl 0 rfl) ?_
          refine va_get (ci := 8) (v := .ref (q 6)) (C := RX8) (T := TX8) (N := 21) hx hb hts hinX8 hown hK hP 0 rfl rfl 7 (by decide) lk2 (fun _ h9 => h9) rfl dX8_note_58 ?_
          refine lv_bipush (v := 39) hx hb dX8_note_61 (by decide) ?_
          refine lv_aload_n hx hb dX8_note_63 rfl (lv_at hl 0 rfl) ?_
          refine va_get (ci := 8) (v := .int ((upd I 2 ((I 2) - 1)) 2)) (C := RX8) (T := TX8) (N := 21) hx hb hts hinX8 hown hK hP 0 rfl rfl 8 (by decide) lk1 (fun _ h9 => h9) rfl dX8_note_64 ?_
          refine lv_imul hx hb dX8_note_67 ?_
          refine lv_iload_n hx hb dX8_note_68 rfl (lv_at hl 1 rfl) ?_
          refine lv_iadd hx hb dX8_note_69 ?_
          refine lv_aload_n hx hb dX8_note_70 rfl (lv_at hl 0 rfl) ?_
          refine va_get (ci := 8) (v := .ref (q 3)) (C := RX8) (T := TX8) (N := 21) hx hb hts hinX8 hown hK hP 0 rfl rfl 4 (by decide) lk3 (fun _ h9 => h9) rfl dX8_note_71 ?_
          refine lv_iload_n hx hb dX8_note_74 rfl (lv_at hl 1 rfl) ?_
          obtain ⟨v14, hcv14, h⟩ := sh_b1_e h
          refine sh_iald hx hb hK hP 3 0 rfl rfl (sh_ald_e hcv14) dX8_note_75 ?_
          obtain ⟨f15, hcf15, h⟩ := sh_b1_e h
          refine sh_iast (wn := (sh_w8 q cI cJ cZ (upd I 2 ((I 2) - 1)) S (va_up A 5 f15))) hx hb hK hP hD hS 6 0 rfl rfl (sh_ast_e hcf15) rfl dX8_note_76 (fun H locs hP hD hS => ?_)
          refine lv_iinc (v := (x1 + 1)) (lv' := [(1, .int (x1 + 1)), (0, .ref (q 0))]) hx hb dX8_note_77 hl (k := 1) rfl rfl (by decide) rfl (fun ls hl => ?_)
          refine lv_goto (tgt := 51) hx hb dX8_note_80 (by decide) ?_
          exact ih (x1 + 1) (va_up A 5 f15) oA _ _ ls h (lv_sub hl [1, 0] rfl) hP hD hS hk
    obtain ⟨w17, hc18, h⟩ := sh_b1_e h
    refine LP16 sh_fu 0 w12 w17 _ _ ls hc18 (lv_sub hl [1, 0] rfl) hP hD hS (fun H locs ls hl hP hD hS => ?_)
    refine lv_aload_n hx hb dX8_note_83 rfl (lv_at hl 0 rfl) ?_
    refine lv_dup hx hb dX8_note_84 rfl ?_
    refine va_get (ci := 8) (v := .int ((I 2) - 1)) (C := RX8) (T := TX8) (N := 21) hx hb hts hinX8 hown hK hP 0 rfl rfl 8 (by decide) lk1 (fun _ h9 => h9) rfl dX8_note_85 ?_
    refine lv_iconst (v := 1) hx hb dX8_note_88 (by decide) ?_
    refine lv_iadd hx hb dX8_note_89 ?_
    refine sh_put (wn := (sh_w8 q cI cJ cZ (upd (upd I 2 ((I 2) - 1)) 2 (((I 2) - 1) + 1)) S w17)) (ci := 8) (v := .int (((I 2) - 1) + 1)) (ty := .int) (C := RX8) (T := TX8) (N := 21) hx hb hts hinX8 tyX8 tyX8_ok nmX8 hown hK hP hD hS 0 rfl rfl 8 (by decide) lk1 (fun _ h9 => h9) rfl (by decide +kernel) rfl rfl (Nat.le_of_ble_eq_true rfl) rfl dX8_note_90 (fun H locs hP hD hS => ?_)
    cases h
    exact sh_rwv hx hb hr hlocks hQ hK hP hD hS dX8_note_93
theorem hdV_X8_paint : yX8_paint.cls = RX8 ∧ yX8_paint.cls ≠ "java/lang/invoke/MethodHandle" ∧ yX8_paint.cls ≠ "java/lang/invoke/VarHandle" ∧ (parseMethodDescriptor yX8_paint.desc).map (fun d => d.parameters.length) = some 2 := by decide +kernel
abbrev rmX8_paint : Room := { frames := 2, cells := 0, slots := 0, locals := 46 }
set_option maxHeartbeats 4000000 in
set_option maxRecDepth 100000 in
theorem k_X8_paint (l : Launch) (D : va_G) (cI cJ cZ : ClassId) (sz : Nat) (q : Nat → Nat) (I : Nat → Int32) (S : Int64) (A : Nat → Nat → Int32) (x1 : Int32) (x2 : Int32) (o : Int32) (oI : Nat → Int32) (oA : Nat → Nat → Int32) (h : fX8_paint I A x1 x2 = some (o, oI, oA)) : Met l yX8_paint wsX8_paint rmX8_paint (sh_Pw D (sh_ty cI cJ cZ) sz (sh_w8 q cI cJ cZ I S A) [.ref (q 0), .int x1, .int x2]) (sh_Qi D (sh_ty cI cJ cZ) (va_A (sh_w8 q cI cJ cZ I S A) sz) (sh_w8 q cI cJ cZ oI S oA) o) 0 0 (va_A (sh_w8 q cI cJ cZ I S A) sz) := by
  refine Met.ofW (cc := cX8_paint) (maxL := 4) (ret := (some .int)) (by decide) rfl ?_
  intro p e s m args below meth c s₁ hB hml hv
  obtain ⟨hargs, hsz, hP, hK, hD0⟩ := hv
  have hx := hB.exec
  have hb := hB.bytes
  have hr := hB.returns
  have hts := atoms_spec (ws := wsX8_paint) hB.pre
  have hown : s.vm.findClass RX8 = some m.cls := findClass_of_methodNamed hB.named
  have hlocks := hB.notSynchronized
  have hfix : CallFix p m c cX8_paint 4 s args wsX8_paint RX8 := ⟨hx, hb, hml, hown, hts⟩
  have hinX8 : ∀ w ∈ wsX80, w ∈ wsX8_paint := by decide +kernel
  have lk1 := hts (.fieldLink RX8 47 "ShadeTreeModel" "thrown" "I") (by decide +kernel)
  have lk2 := hts (.constantLong RX8 117 (9)) (by decide +kernel)
  have lk3 := hts (.fieldLink RX8 16 "ShadeTreeModel" "page" "[I") (by decide +kernel)
  rw [show entryFrame m args 4 = entryFrame m ([.ref (q 0), .int x1, .int x2] : List Value).toArray 4 by rw [hargs], lg_entry_eq]
  have hl := lv_entry ([.ref (q 0), .int x1, .int x2]) (n := 4) (Nat.le_of_ble_eq_true rfl)
  generalize (lg_sl ([.ref (q 0), .int x1, .int x2]) ++ List.replicate (4 - (lg_sl ([.ref (q 0), .int x1, .int x2])).length) Slot.unset).toArray = ls at hl ⊢
  have hl : lv_has ls 4 [(0, .ref (q 0)), (1, .int x1), (2, .int x2)] := hl
  subst hsz
  have hD := hD0.self (sz := s.heap.size)
  generalize hAe : va_A (sh_w8 q cI cJ cZ I S A) s.heap.size = Az at hD ⊢
  have hA : ∀ q : Nat, s.heap.size ≤ q → Az q := fun q h => by rw [← hAe]; exact Or.inr h
  have hS : va_S Az s.heap s.heap [] := va_S.rf
  generalize hQ : MQ below (sh_Qi D (sh_ty cI cJ cZ) Az (sh_w8 q cI cJ cZ oI S oA) o) args s 0 0 Az = Q
  unfold fX8_paint at h
  refine lv_aload_n hx hb dX8_paint_0 rfl (lv_at hl 0 rfl) ?_
  refine lv_iconst (v := 0) hx hb dX8_paint_1 (by decide) ?_
  refine sh_put (wn := (sh_w8 q cI cJ cZ (upd I 0 0) S A)) (ci := 8) (v := .int 0) (ty := .int) (C := RX8) (T := TX8) (N := 21) hx hb hts hinX8 tyX8 tyX8_ok nmX8 hown hK hP hD hS 0 rfl rfl 0 (by decide) lk1 (fun _ h9 => h9) rfl (by decide +kernel) rfl rfl (Nat.le_of_ble_eq_true rfl) rfl dX8_paint_2 (fun H locs hP hD hS => ?_)
  refine lv_aload_n hx hb dX8_paint_5 rfl (lv_at hl 0 rfl) ?_
  refine lv_iload_n hx hb dX8_paint_6 rfl (lv_at hl 1 rfl) ?_
  obtain ⟨v1, hc2, h⟩ := sh_b1_e h
  refine sh_cVi (As := [.int x1]) (rest := []) hfix (k_X8_noDot l D cI cJ cZ q (upd I 0 0) S A x1 v1 hc2) (cwV 1 hts gX8_paint_X8_noDot rfl rfl rfl hdV_X8_noDot ⟨Nat.le_of_ble_eq_true rfl, Nat.le_of_ble_eq_true rfl⟩) hP hK [0, 1, 2, 3, 4, 5, 6, 7, 8, 9, 10, 11, 12] rfl 0 rfl rfl rfl hl.1 rfl (Nat.le_of_ble_eq_true rfl) dX8_paint_7 ⟨Nat.zero_le _, Nat.zero_le _⟩ ?_
  refine lv_if_eq (tgt := 15) hx hb dX8_paint_10 (by decide) (fun g3 => ?_) (fun g3 => ?_)
  · rw [if_pos g3] at h
    refine lv_iload_n hx hb dX8_paint_15 rfl (lv_at hl 2 rfl) ?_
    refine lv_i2l (v := (Int32.toInt64 x2)) hx hb dX8_paint_16 rfl ?_
    refine lv_lconst (v := 0) hx hb dX8_paint_17 (by decide) ?_
    refine lv_ldc2 hx hb hown lk2 dX8_paint_18 ?_
    obtain ⟨v4, hc5, h⟩ := sh_b1_e h
    refine sh_cSi (As := [.long (Int32.toInt64 x2), .long 0, .long 9]) (rest := []) hfix (k_X8_in l D cI cJ cZ (Int32.toInt64 x2) 0 9 v4 hc5) (va_cwS 3 hts gX8_paint_X8_in rfl rfl rfl hdS_X8_in ⟨Nat.le_of_ble_eq_true rfl, Nat.le_of_ble_eq_true rfl⟩) hP hK [] rfl rfl hl.1 rfl (Nat.le_of_ble_eq_true rfl) dX8_paint_21 ⟨Nat.zero_le _, Nat.zero_le _⟩ ?_
    refine lv_if_ne (tgt := 30) hx hb dX8_paint_24 (by decide) (fun g6 => ?_) (fun g6 => ?_)
    · rw [if_neg g6] at h
      refine lv_aload_n hx hb dX8_paint_30 rfl (lv_at hl 0 rfl) ?_
      obtain ⟨u7, u8, hc9, h⟩ := sh_b2_e h
      refine sh_wVv (wn := (sh_w8 q cI cJ cZ u7 S u8)) (As := []) (rest := []) hfix (k_X8_note l D cI cJ cZ _ q (upd I 0 0) S A u7 u8 hc9) (cwV 0 hts gX8_paint_X8_note rfl rfl rfl hdV_X8_note ⟨Nat.le_of_ble_eq_true rfl, Nat.le_of_ble_eq_true rfl⟩) hP hK hD hS hA [0, 1, 2, 3, 4, 5, 6, 7, 8, 9, 10, 11, 12] [] [0, 1, 2, 3, 4, 5, 6, 7, 8, 9, 10, 11, 12] rfl rfl rfl rfl rfl rfl rfl 0 rfl rfl rfl hl.1 rfl (Nat.le_of_ble_eq_true rfl) dX8_paint_31 ⟨Nat.zero_le _, Nat.zero_le _⟩ (fun H locs hP hD hS => ?_)
      refine lv_aload_n hx hb dX8_paint_34 rfl (lv_at hl 0 rfl) ?_
      refine va_get (ci := 8) (v := .ref (q 3)) (C := RX8) (T := TX8) (N := 21) hx hb hts hinX8 hown hK hP 0 rfl rfl 4 (by decide) lk3 (fun _ h9 => h9) rfl dX8_paint_35 ?_
      refine lv_iconst (v := 3) hx hb dX8_paint_38 (by decide) ?_
      refine lv_iload_n hx hb dX8_paint_39 rfl (lv_at hl 1 rfl) ?_
      refine lv_iadd hx hb dX8_paint_40 ?_
      obtain ⟨v10, hcv10, h⟩ := sh_b1_e h
      refine sh_iald hx hb hK hP 3 0 rfl rfl (sh_ald_e hcv10) dX8_paint_41 ?_
      refine lv_istore_n (lv' := [(3, .int v10), (0, .ref (q 0)), (1, .int x1), (2, .int x2)]) hx hb dX8_paint_42 rfl hl (by decide) rfl (fun ls hl => ?_)
      refine lv_aload_n hx hb dX8_paint_43 rfl (lv_at hl 1 rfl) ?_
      refine va_get (ci := 8) (v := .ref (q 3)) (C := RX8) (T := TX8) (N := 21) hx hb hts hinX8 hown hK hP 0 rfl rfl 4 (by decide) lk3 (fun _ h9 => h9) rfl dX8_paint_44 ?_
      refine lv_iconst (v := 3) hx hb dX8_paint_47 (by decide) ?_
      refine lv_iload_n hx hb dX8_paint_48 rfl (lv_at hl 2 rfl) ?_
      refine lv_iadd hx hb dX8_paint_49 ?_
      refine lv_iload_n hx hb dX8_paint_50 rfl (lv_at hl 3 rfl) ?_
      obtain ⟨f11, hcf11, h⟩ := sh_b1_e h
      refine sh_iast (wn := (sh_w8 q cI cJ cZ u7 S (va_up u8 2 f11))) hx hb hK hP hD hS 3 0 rfl rfl (sh_ast_e hcf11) rfl dX8_paint_51 (fun H locs hP hD hS => ?_)
      refine lv_iload_n hx hb dX8_paint_52 rfl (lv_at hl 0 rfl) ?_
      cases h
      exact sh_rwi hx hb hr hlocks hQ hK hP hD hS dX8_paint_53
    · rw [if_pos g6] at h
      refine lv_bipush (v := -2) hx hb dX8_paint_27 (by decide) ?_
      cases h
      exact sh_rwi hx hb hr hlocks hQ hK hP hD hS dX8_paint_29
  · rw [if_neg g3] at h
    refine lv_iconst (v := -1) hx hb dX8_paint_13 (by decide) ?_
    cases h
    exact sh_rwi hx hb hr hlocks hQ hK hP hD hS dX8_paint_14
