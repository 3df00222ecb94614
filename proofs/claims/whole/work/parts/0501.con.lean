theorem hdV_X1_partAround : yX1_partAround.cls = RX1 ∧ yX1_partAround.cls ≠ "java/lang/invoke/MethodHandle" ∧ yX1_partAround.cls ≠ "java/lang/invoke/VarHandle" ∧ (parseMethodDescriptor yX1_partAround.desc).map (fun d => d.parameters.length) = some 3 := by decide +kernel
abbrev rmX1_partAround : Room := { frames := 1, cells := 0, slots := 0, locals := 27 }
set_option maxHeartbeats 4000000 in
set_option maxRecDepth 100000 in
theorem k_X1_partAround (l : Launch) (D : va_G) (cI cJ cZ : ClassId) (aG : Nat) (gw : Int32) (gd : Int32) (gh : Int32) (ga : Int64) (gl : Int64) (gr : Int64) (x1 : Int64) (x3 : Int64) (x5 : Int32) (o : Int64) (h : fX1_partAround gd gl gr x1 x3 x5 = some o) : Met l yX1_partAround wsX1_partAround rmX1_partAround (sh_Pr D (sh_ty cI cJ cZ) [(aG, .inr (1, [.int gw, .int gd, .int gh, .long ga, .long gl, .long gr]))] [.ref aG, .long x1, .long x3, .int x5]) (vp_Sl (fun z => z = o)) 0 0 (fun _ => False) := by
  refine Met.ofW (cc := cX1_partAround) (maxL := 11) (ret := (some .long)) (by decide) rfl ?_
  intro p e s m args below meth c s₁ hB hml hv
  obtain ⟨hargs, hP, hK⟩ := hv
  have hx := hB.exec
  have hb := hB.bytes
  have hr := hB.returns
  have hts := atoms_spec (ws := wsX1_partAround) hB.pre
  have hown : s.vm.findClass RX1 = some m.cls := findClass_of_methodNamed hB.named
  have hlocks := hB.notSynchronized
  have hfix : CallFix p m c cX1_partAround 11 s args wsX1_partAround RX1 := ⟨hx, hb, hml, hown, hts⟩
  rw [show entryFrame m args 11 = entryFrame m ([.ref aG, .long x1, .long x3, .int x5] : List Value).toArray 11 by rw [hargs], lg_entry_eq]
  have hl := lv_entry ([.ref aG, .long x1, .long x3, .int x5]) (n := 11) (Nat.le_of_ble_eq_true rfl)
  generalize (lg_sl ([.ref aG, .long x1, .long x3, .int x5]) ++ List.replicate (11 - (lg_sl ([.ref aG, .long x1, .long x3, .int x5])).length) Slot.unset).toArray = ls at hl ⊢
  have hl : lv_has ls 11 [(0, .ref aG), (1, .long x1), (3, .long x3), (5, .int x5)] := hl
  generalize hQ : MQ below (vp_Sl (fun z => z = o)) args s 0 0 (fun _ => False) = Q
  unfold fX1_partAround at h
  refine lv_lload_n hx hb dX1_partAround_0 rfl (lv_at hl 2 rfl) ?_
  refine lv_lload_n hx hb dX1_partAround_1 rfl (lv_at hl 1 rfl) ?_
  refine lv_land hx hb dX1_partAround_2 ?_
  refine lv_lstore (lv' := [(6, .long (x3 &&& x1)), (0, .ref aG), (1, .long x1), (3, .long x3), (5, .int x5)]) hx hb dX1_partAround_3 hl (by decide) rfl (fun ls hl => ?_)
  refine lv_iconst (v := 0) hx hb dX1_partAround_5 (by decide) ?_
  refine lv_istore (lv' := [(8, .int 0), (6, .long (x3 &&& x1)), (0, .ref aG), (1, .long x1), (3, .long x3), (5, .int x5)]) hx hb dX1_partAround_6 hl (by decide) rfl (fun ls hl => ?_)
  have LP5 : ∀ (n : Nat) (x1 : Int64) (x5 : Int32) (x6 : Int64) (x8 : Int32) (ow6 : Int64) (ls : Array Slot), fX1_partAround_L8 n x1 x5 x6 x8 gd gl gr = some ow6 → lv_has ls 11 [(0, .ref aG), (1, .long x1), (5, .int x5), (6, .long x6), (8, .int x8)] → (∀ (ls : Array Slot), lv_has ls 11 [(6, .long ow6)] → W p l e (headSpec wsX1_partAround rmX1_partAround).room s m args below meth c s.heap [] 0 0 Q (F0 m 48 ls [])) → W p l e (headSpec wsX1_partAround rmX1_partAround).room s m args below meth c s.heap [] 0 0 Q (F0 m 8 ls []) := by
    intro n
    induction n with
    | zero =>
      intro x1 x5 x6 x8 ow6 ls h hl hk
      exact nomatch ((fX1_partAround_L8_z x1 x5 x6 x8 gd gl gr).symm.trans h)
    | succ n ih =>
      intro x1 x5 x6 x8 ow6 ls h hl hk
      rw [fX1_partAround_L8_s] at h
      refine lv_iload hx hb dX1_partAround_8 (lv_at hl 4 rfl) ?_
      refine lv_bipush (v := 36) hx hb dX1_partAround_10 (by decide) ?_
      refine lv_icmp_ge (tgt := 48) hx hb dX1_partAround_12 (by decide) (fun g1 => ?_) (fun g1 => ?_)
      · rw [if_pos g1] at h
        cases h
        exact hk ls (lv_sub hl [3] rfl) 
      · rw [if_neg g1] at h
        refine lv_aload_n hx hb dX1_partAround_15 rfl (lv_at hl 0 rfl) ?_
        refine lv_lload hx hb dX1_partAround_16 (lv_at hl 3 rfl) ?_
        refine lv_iload hx hb dX1_partAround_18 (lv_at hl 2 rfl) ?_
        obtain ⟨v2, hc3, h⟩ := sh_b1_e h
        refine sh_cVl (As := [.long x6, .int x5]) (rest := []) hfix (k_X1_spread l D cI cJ cZ aG gw gd gh ga gl gr x6 x5 v2 hc3) (cwV 2 hts gX1_partAround_X1_spread rfl rfl rfl hdV_X1_spread ⟨Nat.le_of_ble_eq_true rfl, Nat.le_of_ble_eq_true rfl⟩) hP hK [0] rfl 0 rfl rfl rfl hl.1 rfl (Nat.le_of_ble_eq_true rfl) dX1_partAround_20 ⟨Nat.zero_le _, Nat.zero_le _⟩ ?_
        refine lv_lload_n hx hb dX1_partAround_23 rfl (lv_at hl 1 rfl) ?_
        refine lv_land hx hb dX1_partAround_24 ?_
        refine lv_lstore (lv' := [(9, .long (v2 &&& x1)), (0, .ref aG), (1, .long x1), (5, .int x5), (6, .long x6), (8, .int x8)]) hx hb dX1_partAround_25 hl (by decide) rfl (fun ls hl => ?_)
        refine lv_lload hx hb dX1_partAround_27 (lv_at hl 0 rfl) ?_
        refine lv_lload hx hb dX1_partAround_29 (lv_at hl 4 rfl) ?_
        refine sh_lne (tgt := 38) hx hb dX1_partAround_31 dX1_partAround_32 (by decide) (fun g4 => ?_) (fun g4 => ?_)
        · rw [if_neg g4] at h
          refine lv_lload hx hb dX1_partAround_38 (lv_at hl 0 rfl) ?_
          refine lv_lstore (lv' := [(6, .long (v2 &&& x1)), (9, .long (v2 &&& x1)), (0, .ref aG), (1, .long x1), (5, .int x5), (8, .int x8)]) hx hb dX1_partAround_40 hl (by decide) rfl (fun ls hl => ?_)
          refine lv_iinc (v := (x8 + 1)) (lv' := [(8, .int (x8 + 1)), (6, .long (v2 &&& x1)), (9, .long (v2 &&& x1)), (0, .ref aG), (1, .long x1), (5, .int x5)]) hx hb dX1_partAround_42 hl (k := 5) rfl rfl (by decide) rfl (fun ls hl => ?_)
          refine lv_goto (tgt := 8) hx hb dX1_partAround_45 (by decide) ?_
          exact ih x1 x5 (v2 &&& x1) (x8 + 1) ow6 ls h (lv_sub hl [3, 4, 5, 1, 0] rfl)  hk
        · rw [if_pos g4] at h
          refine lv_goto (tgt := 48) hx hb dX1_partAround_35 (by decide) ?_
          cases h
          exact hk ls (lv_sub hl [4] rfl) 
  obtain ⟨w6, hc7, h⟩ := sh_b1_e h
  refine LP5 sh_fu x1 x5 (x3 &&& x1) 0 w6 ls hc7 (lv_sub hl [2, 3, 5, 1, 0] rfl)  (fun ls hl  => ?_)
  refine lv_lload hx hb dX1_partAround_48 (lv_at hl 0 rfl) ?_
  exact sh_rol hx hb hr hlocks hQ (Option.some.inj h) dX1_partAround_50
theorem hdV_X1_joined : yX1_joined.cls = RX1 ∧ yX1_joined.cls ≠ "java/lang/invoke/MethodHandle" ∧ yX1_joined.cls ≠ "java/lang/invoke/VarHandle" ∧ (parseMethodDescriptor yX1_joined.desc).map (fun d => d.parameters.length) = some 4 := by decide +kernel
abbrev rmX1_joined : Room := { frames := 2, cells := 0, slots := 0, locals := 57 }
set_option maxHeartbeats 4000000 in
set_option maxRecDepth 100000 in
theorem k_X1_joined (l : Launch) (D : va_G) (cI cJ cZ : ClassId) (aG : Nat) (gw : Int32) (gd : Int32) (gh : Int32) (ga : Int64) (gl : Int64) (gr : Int64) (x1 : Int64) (x3 : Int32) (x4 : Int32) (x5 : Int32) (o : Int32) (h : fX1_joined gd gh gl gr x1 x3 x4 x5 = some o) : Met l yX1_joined wsX1_joined rmX1_joined (sh_Pr D (sh_ty cI cJ cZ) [(aG, .inr (1, [.int gw, .int gd, .int gh, .long ga, .long gl, .long gr]))] [.ref aG, .long x1, .int x3, .int x4, .int x5]) (vp_Si (fun z => z = o)) 0 0 (fun _ => False) := by
  refine Met.ofW (cc := cX1_joined) (maxL := 6) (ret := (some .boolean)) (by decide) rfl ?_
  intro p e s m args below meth c s₁ hB hml hv
  obtain ⟨hargs, hP, hK⟩ := hv
  have hx := hB.exec
  have hb := hB.bytes
  have hr := hB.returns
  have hts := atoms_spec (ws := wsX1_joined) hB.pre
  have hown : s.vm.findClass RX1 = some m.cls := findClass_of_methodNamed hB.named
  have hlocks := hB.notSynchronized
  have hfix : CallFix p m c cX1_joined 6 s args wsX1_joined RX1 := ⟨hx, hb, hml, hown, hts⟩
  rw [show entryFrame m args 6 = entryFrame m ([.ref aG, .long x1, .int x3, .int x4, .int x5] : List Value).toArray 6 by rw [hargs], lg_entry_eq]
  have hl := lv_entry ([.ref aG, .long x1, .int x3, .int x4, .int x5]) (n := 6) (Nat.le_of_ble_eq_true rfl)
  generalize (lg_sl ([.ref aG, .long x1, .int x3, .int x4, .int x5]) ++ List.replicate (6 - (lg_sl ([.ref aG, .long x1, .int x3, .int x4, .int x5])).length) Slot.unset).toArray = ls at hl ⊢
  have hl : lv_has ls 6 [(0, .ref aG), (1, .long x1), (3, .int x3), (4, .int x4), (5, .int x5)] := hl
  generalize hQ : MQ below (vp_Si (fun z => z = o)) args s 0 0 (fun _ => False) = Q
  unfold fX1_joined at h
  refine lv_aload_n hx hb dX1_joined_0 rfl (lv_at hl 0 rfl) ?_
  refine lv_iload_n hx hb dX1_joined_1 rfl (lv_at hl 2 rfl) ?_
  obtain ⟨v1, hc2, h⟩ := sh_b1_e h
  refine sh_cVi (As := [.int x3]) (rest := []) hfix (k_X1_hasDot l D cI cJ cZ aG gw gd gh ga gl gr x3 v1 hc2) (cwV 1 hts gX1_joined_X1_hasDot rfl rfl rfl hdV_X1_hasDot ⟨Nat.le_of_ble_eq_true rfl, Nat.le_of_ble_eq_true rfl⟩) hP hK [0] rfl 0 rfl rfl rfl hl.1 rfl (Nat.le_of_ble_eq_true rfl) dX1_joined_2 ⟨Nat.zero_le _, Nat.zero_le _⟩ ?_
  refine lv_if_eq (tgt := 17) hx hb dX1_joined_5 (by decide) (fun g3 => ?_) (fun g3 => ?_)
  · rw [if_pos g3] at h
    refine lv_iconst (v := 0) hx hb dX1_joined_17 (by decide) ?_
    exact sh_roz hx hb hr hlocks hQ ⟨rfl, (Option.some.inj h)⟩ dX1_joined_18
  · rw [if_neg g3] at h
    refine lv_aload_n hx hb dX1_joined_8 rfl (lv_at hl 0 rfl) ?_
    refine lv_iload hx hb dX1_joined_9 (lv_at hl 3 rfl) ?_
    obtain ⟨v4, hc5, h⟩ := sh_b1_e h
    refine sh_cVi (As := [.int x4]) (rest := []) hfix (k_X1_hasDot l D cI cJ cZ aG gw gd gh ga gl gr x4 v4 hc5) (cwV 1 hts gX1_joined_X1_hasDot rfl rfl rfl hdV_X1_hasDot ⟨Nat.le_of_ble_eq_true rfl, Nat.le_of_ble_eq_true rfl⟩) hP hK [0] rfl 0 rfl rfl rfl hl.1 rfl (Nat.le_of_ble_eq_true rfl) dX1_joined_11 ⟨Nat.zero_le _, Nat.zero_le _⟩ ?_
    refine lv_if_ne (tgt := 19) hx hb dX1_joined_14 (by decide) (fun g6 => ?_) (fun g6 => ?_)
    · rw [if_neg g6] at h
      refine lv_aload_n hx hb dX1_joined_19 rfl (lv_at hl 0 rfl) ?_
      refine lv_lload_n hx hb dX1_joined_20 rfl (lv_at hl 1 rfl) ?_
      refine lv_lconst (v := 1) hx hb dX1_joined_21 (by decide) ?_
      refine lv_iload_n hx hb dX1_joined_22 rfl (lv_at hl 2 rfl) ?_
      refine lv_lshl (v := (sh_lsl 1 x3)) hx hb dX1_joined_23 rfl ?_
      refine lv_iload hx hb dX1_joined_24 (lv_at hl 4 rfl) ?_
      obtain ⟨v7, hc8, h⟩ := sh_b1_e h
      refine sh_cVl (As := [.long x1, .long (sh_lsl 1 x3), .int x5]) (rest := []) hfix (k_X1_partAround l D cI cJ cZ aG gw gd gh ga gl gr x1 (sh_lsl 1 x3) x5 v7 hc8) (cwV 3 hts gX1_joined_X1_partAround rfl rfl rfl hdV_X1_partAround ⟨Nat.le_of_ble_eq_true rfl, Nat.le_of_ble_eq_true rfl⟩) hP hK [0] rfl 0 rfl rfl rfl hl.1 rfl (Nat.le_of_ble_eq_true rfl) dX1_joined_26 ⟨Nat.zero_le _, Nat.zero_le _⟩ ?_
      refine lv_lconst (v := 1) hx hb dX1_joined_29 (by decide) ?_
      refine lv_iload hx hb dX1_joined_30 (lv_at hl 3 rfl) ?_
      refine lv_lshl (v := (sh_lsl 1 x4)) hx hb dX1_joined_32 rfl ?_
      refine lv_land hx hb dX1_joined_33 ?_
      refine lv_lconst (v := 0) hx hb dX1_joined_34 (by decide) ?_
      refine sh_leq (tgt := 43) hx hb dX1_joined_35 dX1_joined_36 (by decide) (fun g9 => ?_) (fun g9 => ?_)
      · rw [if_pos g9] at h
        refine lv_iconst (v := 0) hx hb dX1_joined_43 (by decide) ?_
        exact sh_roz hx hb hr hlocks hQ ⟨rfl, (Option.some.inj h)⟩ dX1_joined_44
      · rw [if_neg g9] at h
        refine lv_iconst (v := 1) hx hb dX1_joined_39 (by decide) ?_
        refine lv_goto (tgt := 44) hx hb dX1_joined_40 (by decide) ?_
        exact sh_roz hx hb hr hlocks hQ ⟨rfl, (Option.some.inj h)⟩ dX1_joined_44
    · rw [if_pos g6] at h
      refine lv_iconst (v := 0) hx hb dX1_joined_17 (by decide) ?_
      exact sh_roz hx hb hr hlocks hQ ⟨rfl, (Option.some.inj h)⟩ dX1_joined_18
theorem hdV_X1_countParts : yX1_countParts.cls = RX1 ∧ yX1_countParts.cls ≠ "java/lang/invoke/MethodHandle" ∧ yX1_countParts.cls ≠ "java/lang/invoke/VarHandle" ∧ (parseMethodDescriptor yX1_countParts.desc).map (fun d => d.parameters.length) = some 2 := by decide +kernel
abbrev rmX1_countParts : Room := { frames := 2, cells := 0, slots := 0, locals := 57 }
set_option maxHeartbeats 4000000 in
set_option maxRecDepth 100000 in
theorem k_X1_countParts (l : Launch) (D : va_G) (cI cJ cZ : ClassId) (aG : Nat) (gw : Int32) (gd : Int32) (gh : Int32) (ga : Int64) (gl : Int64) (gr : Int64) (x1 : Int64) (x3 : Int32) (o : Int32) (h : fX1_countParts gd gl gr x1 x3 = some o) : Met l yX1_countParts wsX1_countParts rmX1_countParts (sh_Pr D (sh_ty cI cJ cZ) [(aG, .inr (1, [.int gw, .int gd, .int gh, .long ga, .long gl, .long gr]))] [.ref aG, .long x1, .int x3]) (vp_Si (fun z => z = o)) 0 0 (fun _ => False) := by
  refine Met.ofW (cc := cX1_countParts) (maxL := 7) (ret := (some .int)) (by decide) rfl ?_
  intro p e s m args below meth c s₁ hB hml hv
  obtain ⟨hargs, hP, hK⟩ := hv
  have hx := hB.exec
  have hb := hB.bytes
  have hr := hB.returns
  have hts := atoms_spec (ws := wsX1_countParts) hB.pre
  have hown : s.vm.findClass RX1 = some m.cls := findClass_of_methodNamed hB.named
  have hlocks := hB.notSynchronized
  have hfix : CallFix p m c cX1_countParts 7 s args wsX1_countParts RX1 := ⟨hx, hb, hml, hown, hts⟩
  have lk1 := hts (.constantLong RX1 47 (-1)) (by decide +kernel)
  rw [show entryFrame m args 7 = entryFrame m ([.ref aG, .long x1, .int x3] : List Value).toArray 7 by rw [hargs], lg_entry_eq]
  have hl := lv_entry ([.ref aG, .long x1, .int x3]) (n := 7) (Nat.le_of_ble_eq_true rfl)
  generalize (lg_sl ([.ref aG, .long x1, .int x3]) ++ List.replicate (7 - (lg_sl ([.ref aG, .long x1, .int x3])).length) Slot.unset).toArray = ls at hl ⊢
  have hl : lv_has ls 7 [(0, .ref aG), (1, .long x1), (3, .int x3)] := hl
  generalize hQ : MQ below (vp_Si (fun z => z = o)) args s 0 0 (fun _ => False) = Q
  unfold fX1_countParts at h
  refine lv_lload_n hx hb dX1_countParts_0 rfl (lv_at hl 1 rfl) ?_
  refine lv_lstore (lv' := [(4, .long x1), (0, .ref aG), (1, .long x1), (3, .int x3)]) hx hb dX1_countParts_1 hl (by decide) rfl (fun ls hl => ?_)
  refine lv_iconst (v := 0) hx hb dX1_countParts_3 (by decide) ?_
  refine lv_istore (lv' := [(6, .int 0), (4, .long x1), (0, .ref aG), (1, .long x1), (3, .int x3)]) hx hb dX1_countParts_4 hl (by decide) rfl (fun ls hl => ?_)
  have LP5 : ∀ (n : Nat) (x1 : Int64) (x3 : Int32) (x4 : Int64) (x6 : Int32) (ow6 : Int32) (ls : Array Slot), fX1_countParts_L6 n x1 x3 x4 x6 gd gl gr = some ow6 → lv_has ls 7 [(0, .ref aG), (1, .long x1), (3, .int x3), (4, .long x4), (6, .int x6)] → (∀ (ls : Array Slot), lv_has ls 7 [(6, .int ow6)] → W p l e (headSpec wsX1_countParts rmX1_countParts).room s m args below meth c s.heap [] 0 0 Q (F0 m 47 ls [])) → W p l e (headSpec wsX1_countParts rmX1_countParts).room s m args below meth c s.heap [] 0 0 Q (F0 m 6 ls []) := by
    intro n
    induction n with
    | zero =>
      intro x1 x3 x4 x6 ow6 ls h hl hk
      exact nomatch ((fX1_countParts_L6_z x1 x3 x4 x6 gd gl gr).symm.trans h)
    | succ n ih =>
      intro x1 x3 x4 x6 ow6 ls h hl hk
      rw [fX1_countParts_L6_s] at h
      refine lv_iload hx hb dX1_countParts_6 (lv_at hl 4 rfl) ?_
      refine lv_bipush (v := 36) hx hb dX1_countParts_8 (by decide) ?_
      refine lv_icmp_ge (tgt := 47) hx hb dX1_countParts_10 (by decide) (fun g1 => ?_) (fun g1 => ?_)
      · rw [if_pos g1] at h
        cases h
        exact hk ls (lv_sub hl [4] rfl) 
      · rw [if_neg g1] at h
        refine lv_lload hx hb dX1_countParts_13 (lv_at hl 3 rfl) ?_
        refine lv_lconst (v := 0) hx hb dX1_countParts_15 (by decide) ?_
        refine sh_leq (tgt := 47) hx hb dX1_countParts_16 dX1_countParts_17 (by decide) (fun g2 => ?_) (fun g2 => ?_)
        · rw [if_pos g2] at h
          cases h
          exact hk ls (lv_sub hl [4] rfl) 
        · rw [if_neg g2] at h
          refine lv_lload hx hb dX1_countParts_20 (lv_at hl 3 rfl) ?_
          refine lv_aload_n hx hb dX1_countParts_22 rfl (lv_at hl 0 rfl) ?_
          refine lv_lload_n hx hb dX1_countParts_23 rfl (lv_at hl 1 rfl) ?_
          refine lv_lload hx hb dX1_countParts_24 (lv_at hl 3 rfl) ?_
          refine lv_lload hx hb dX1_countParts_26 (lv_at hl 3 rfl) ?_
          refine lv_lneg hx hb dX1_countParts_28 ?_
          refine lv_land hx hb dX1_countParts_29 ?_
          refine lv_iload_n hx hb dX1_countParts_30 rfl (lv_at hl 2 rfl) ?_
          obtain ⟨v3, hc4, h⟩ := sh_b1_e h
          refine sh_cVl (As := [.long x1, .long (x4 &&& (-x4)), .int x3]) (rest := [.long x4]) hfix (k_X1_partAround l D cI cJ cZ aG gw gd gh ga gl gr x1 (x4 &&& (-x4)) x3 v3 hc4) (cwV 3 hts gX1_countParts_X1_partAround rfl rfl rfl hdV_X1_partAround ⟨Nat.le_of_ble_eq_true rfl, Nat.le_of_ble_eq_true rfl⟩) hP hK [0] rfl 0 rfl rfl rfl hl.1 rfl (Nat.le_of_ble_eq_true rfl) dX1_countParts_31 ⟨Nat.zero_le _, Nat.zero_le _⟩ ?_
          refine lv_ldc2 hx hb hown lk1 dX1_countParts_34 ?_
          refine lv_lxor hx hb dX1_countParts_37 ?_
          refine lv_land hx hb dX1_countParts_38 ?_
          refine lv_lstore (lv' := [(4, .long (x4 &&& (v3 ^^^ (-1)))), (0, .ref aG), (1, .long x1), (3, .int x3), (6, .int x6)]) hx hb dX1_countParts_39 hl (by decide) rfl (fun ls hl => ?_)
          refine lv_iinc (v := (x6 + 1)) (lv' := [(6, .int (x6 + 1)), (4, .long (x4 &&& (v3 ^^^ (-1)))), (0, .ref aG), (1, .long x1), (3, .int x3)]) hx hb dX1_countParts_41 hl (k := 4) rfl rfl (by decide) rfl (fun ls hl => ?_)
          refine lv_goto (tgt := 6) hx hb dX1_countParts_44 (by decide) ?_
          exact ih x1 x3 (x4 &&& (v3 ^^^ (-1))) (x6 + 1) ow6 ls h (lv_sub hl [2, 3, 4, 1, 0] rfl)  hk
  obtain ⟨w6, hc7, h⟩ := sh_b1_e h
  refine LP5 sh_fu x1 x3 x1 0 w6 ls hc7 (lv_sub hl [2, 3, 4, 1, 0] rfl)  (fun ls hl  => ?_)
  refine lv_iload hx hb dX1_countParts_47 (lv_at hl 0 rfl) ?_
  exact sh_roi hx hb hr hlocks hQ (Option.some.inj h) dX1_countParts_49
theorem hdV_X2_darken : yX2_darken.cls = RX2 ∧ yX2_darken.cls ≠ "java/lang/invoke/MethodHandle" ∧ yX2_darken.cls ≠ "java/lang/invoke/VarHandle" ∧ (parseMethodDescriptor yX2_darken.desc).map (fun d => d.parameters.length) = some 0 := by decide +kernel
abbrev rmX2_darken : Room := { frames := 1, cells := 0, slots := 0, locals := 20 }
set_option maxHeartbeats 4000000 in
set_option maxRecDepth 100000 in
theorem k_X2_darken (l : Launch) (D : va_G) (cI cJ cZ : ClassId) (sz : Nat) (aG : Nat) (aS : Nat) (aY : Nat) (gw : Int32) (gd : Int32) (gh : Int32) (ga : Int64) (gl : Int64) (gr : Int64) (sL : Nat → Int64) (osL : Nat → Int64) (h : fX2_darken ga sL = some osL) : Met l yX2_darken wsX2_darken rmX2_darken (sh_Pw D (sh_ty cI cJ cZ) sz [(aS, .inr (2, [.ref aG, .ref aY])), (aY, .inl (cJ, 10, .inr (.inl sL))), (aG, .inr (1, [.int gw, .int gd, .int gh, .long ga, .long gl, .long gr]))] [.ref aS]) (sh_Qv D (sh_ty cI cJ cZ) (va_A [(aS, .inr (2, [.ref aG, .ref aY])), (aY, .inl (cJ, 10, .inr (.inl sL))), (aG, .inr (1, [.int gw, .int gd, .int gh, .long ga, .long gl, .long gr]))] sz) [(aS, .inr (2, [.ref aG, .ref aY])), (aY, .inl (cJ, 10, .inr (.inl osL))), (aG, .inr (1, [.int gw, .int gd, .int gh, .long ga, .long gl, .long gr]))]) 0 0 (va_A [(aS, .inr (2, [.ref aG, .ref aY])), (aY, .inl (cJ, 10, .inr (.inl sL))), (aG, .inr (1, [.int gw, .int gd, .int gh, .long ga, .long gl, .long gr]))] sz) := by
  refine Met.ofW (cc := cX2_darken) (maxL := 2) (ret := none) (by decide) rfl ?_
  intro p e s m args below meth c s₁ hB hml hv
  obtain ⟨hargs, hsz, hP, hK, hD0⟩ := hv
  have hx := hB.exec
  have hb := hB.bytes
  have hr := hB.returns
  have hts := atoms_spec (ws := wsX2_darken) hB.pre
  have hown : s.vm.findClass RX2 = some m.cls := findClass_of_methodNamed hB.named
  have hlocks := hB.notSynchronized
  have hfix : CallFix p m c cX2_darken 2 s args wsX2_darken RX2 := ⟨hx, hb, hml, hown, hts⟩
  have hinX2 : ∀ w ∈ wsX20, w ∈ wsX2_darken := by decide +kernel
  have lk1 := hts (.fieldLink RX2 9 "ShadeTree$Shades" "layers" "[J") (by decide +kernel)
  have lk2 := hts (.fieldLink RX2 15 "ShadeTree$Shades" "grid" "LShadeTree$Grid;") (by decide +kernel)
  rw [show entryFrame m args 2 = entryFrame m ([.ref aS] : List Value).toArray 2 by rw [hargs], lg_entry_eq]
  have hl := lv_entry ([.ref aS]) (n := 2) (Nat.le_of_ble_eq_true rfl)
  generalize (lg_sl ([.ref aS]) ++ List.replicate (2 - (lg_sl ([.ref aS])).length) Slot.unset).toArray = ls at hl ⊢
  have hl : lv_has ls 2 [(0, .ref aS)] := hl
  subst hsz
  have hD := hD0.self (sz := s.heap.size)
  generalize hAe : va_A [(aS, .inr (2, [.ref aG, .ref aY])), (aY, .inl (cJ, 10, .inr (.inl sL))), (aG, .inr (1, [.int gw, .int gd, .int gh, .long ga, .long gl, .long gr]))] s.heap.size = Az at hD ⊢
  have hA : ∀ q : Nat, s.heap.size ≤ q → Az q := fun q h => by rw [← hAe]; exact Or.inr h
  have hS : va_S Az s.heap s.heap [] := va_S.rf
  generalize hQ : MQ below (sh_Qv D (sh_ty cI cJ cZ) Az [(aS, .inr (2, [.ref aG, .ref aY])), (aY, .inl (cJ, 10, .inr (.inl osL))), (aG, .inr (1, [.int gw, .int gd, .int gh, .long ga, .long gl, .long gr]))]) args s 0 0 Az = Q
  unfold fX2_darken at h
  refine lv_iconst (v := 0) hx hb dX2_darken_0 (by decide) ?_
  refine lv_istore_n (lv' := [(1, .int 0), (0, .ref aS)]) hx hb dX2_darken_1 rfl hl (by decide) rfl (fun ls hl => ?_)
  have LP7 : ∀ (n : Nat) (x1 : Int32) (sL : Nat → Int64) (osL : (Nat → Int64)) (H : Heap) (locs : List Loc) (ls : Array Slot), fX2_darken_L2 n x1 ga sL = some osL → lv_has ls 2 [(0, .ref aS), (1, .int x1)] → va_P D vwCl [(aS, .inr (2, [.ref aG, .ref aY])), (aY, .inl (cJ, 10, .inr (.inl sL))), (aG, .inr (1, [.int gw, .int gd, .int gh, .long ga, .long gl, .long gr]))] H → va_D Az [(aS, .inr (2, [.ref aG, .ref aY])), (aY, .inl (cJ, 10, .inr (.inl sL))), (aG, .inr (1, [.int gw, .int gd, .int gh, .long ga, .long gl, .long gr]))] → va_S Az s.heap H locs → (∀ (H : Heap) (locs : List Loc) (ls : Array Slot), lv_has ls 2 [] → va_P D vwCl [(aS, .inr (2, [.ref aG, .ref aY])), (aY, .inl (cJ, 10, .inr (.inl osL))), (aG, .inr (1, [.int gw, .int gd, .int gh, .long ga, .long gl, .long gr]))] H → va_D Az [(aS, .inr (2, [.ref aG, .ref aY])), (aY, .inl (cJ, 10, .inr (.inl osL))), (aG, .inr (1, [.int gw, .int gd, .int gh, .long ga, .long gl, .long gr]))] → va_S Az s.heap H locs → W p l e (headSpec wsX2_darken rmX2_darken).room s m args below meth c H locs 0 0 Q (F0 m 38 ls [])) → W p l e (headSpec wsX2_darken rmX2_darken).room s m args below meth c H locs 0 0 Q (F0 m 2 ls []) := by
    intro n
    induction n with
    | zero =>
      intro x1 sL osL H locs ls h hl hP hD hS hk
      exact nomatch ((fX2_darken_L2_z x1 ga sL).symm.trans h)
    | succ n ih =>
      intro x1 sL osL H locs ls h hl hP hD hS hk
      rw [fX2_darken_L2_s] at h
      refine lv_iload_n hx hb dX2_darken_2 rfl (lv_at hl 1 rfl) ?_
      refine lv_aload_n hx hb dX2_darken_3 rfl (lv_at hl 0 rfl) ?_
      refine va_get (ci := 2) (v := .ref aY) (C := RX2) (T := TX2) (N := 2) hx hb hts hinX2 hown hK hP 0 rfl rfl 1 (by decide) lk1 (fun _ h9 => h9) rfl dX2_darken_4 ?_
      refine va_alen (v := 10) hx hb hK hP 1 1 rfl rfl rfl dX2_darken_7 ?_
      refine lv_icmp_ge (tgt := 38) hx hb dX2_darken_8 (by decide) (fun g1 => ?_) (fun g1 => ?_)
      · rw [if_pos g1] at h
        cases h
        exact hk _ _ ls (lv_sub hl [] rfl) hP hD hS
      · rw [if_neg g1] at h
        refine lv_aload_n hx hb dX2_darken_11 rfl (lv_at hl 0 rfl) ?_
        refine va_get (ci := 2) (v := .ref aY) (C := RX2) (T := TX2) (N := 2) hx hb hts hinX2 hown hK hP 0 rfl rfl 1 (by decide) lk1 (fun _ h9 => h9) rfl dX2_darken_12 ?_
        refine lv_iload_n hx hb dX2_darken_15 rfl (lv_at hl 1 rfl) ?_
        refine lv_iload_n hx hb dX2_darken_16 rfl (lv_at hl 1 rfl) ?_
        refine lv_if_ne (tgt := 30) hx hb dX2_darken_17 (by decide) (fun g2 => ?_) (fun g2 => ?_)
        · rw [if_neg g2] at h
          refine lv_lconst (v := 0) hx hb dX2_darken_30 (by decide) ?_
          obtain ⟨f3, hcf3, h⟩ := sh_b1_e h
          refine sh_last (wn := [(aS, .inr (2, [.ref aG, .ref aY])), (aY, .inl (cJ, 10, .inr (.inl f3))), (aG, .inr (1, [.int gw, .int gd, .int gh, .long ga, .long gl, .long gr]))]) hx hb hK hP hD hS 1 1 rfl rfl (sh_astL_e hcf3) rfl dX2_darken_31 (fun H locs hP hD hS => ?_)
          refine lv_iinc (v := (x1 + 1)) (lv' := [(1, .int (x1 + 1)), (0, .ref aS)]) hx hb dX2_darken_32 hl (k := 1) rfl rfl (by decide) rfl (fun ls hl => ?_)
          refine lv_goto (tgt := 2) hx hb dX2_darken_35 (by decide) ?_
          exact ih (x1 + 1) f3 osL _ _ ls h (lv_sub hl [1, 0] rfl) hP hD hS hk
        · rw [if_pos g2] at h
          refine lv_aload_n hx hb dX2_darken_20 rfl (lv_at hl 0 rfl) ?_
          refine va_get (ci := 2) (v := .ref aG) (C := RX2) (T := TX2) (N := 2) hx hb hts hinX2 hown hK hP 0 rfl rfl 0 (by decide) lk2 (fun _ h9 => h9) rfl dX2_darken_21 ?_
          obtain ⟨v4, hc5, h⟩ := sh_b1_e h
          refine sh_cVl (As := []) (rest := [.int x1, .ref aY]) hfix (k_X1_all l D cI cJ cZ aG gw gd gh ga gl gr v4 hc5) (cwV 0 hts gX2_darken_X1_all rfl rfl rfl hdV_X1_all ⟨Nat.le_of_ble_eq_true rfl, Nat.le_of_ble_eq_true rfl⟩) hP hK [2] rfl 2 rfl rfl rfl hl.1 rfl (Nat.le_of_ble_eq_true rfl) dX2_darken_24 ⟨Nat.zero_le _, Nat.zero_le _⟩ ?_
          refine lv_goto (tgt := 31) hx hb dX2_darken_27 (by decide) ?_
          obtain ⟨f6, hcf6, h⟩ := sh_b1_e h
          refine sh_last (wn := [(aS, .inr (2, [.ref aG, .ref aY])), (aY, .inl (cJ, 10, .inr (.inl f6))), (aG, .inr (1, [.int gw, .int gd, .int gh, .long ga, .long gl, .long gr]))]) hx hb hK hP hD hS 1 1 rfl rfl (sh_astL_e hcf6) rfl dX2_darken_31 (fun H locs hP hD hS => ?_)
          refine lv_iinc (v := (x1 + 1)) (lv' := [(1, .int (x1 + 1)), (0, .ref aS)]) hx hb dX2_darken_32 hl (k := 1) rfl rfl (by decide) rfl (fun ls hl => ?_)
          refine lv_goto (tgt := 2) hx hb dX2_darken_35 (by decide) ?_
          exact ih (x1 + 1) f6 osL _ _ ls h (lv_sub hl [1, 0] rfl) hP hD hS hk
  obtain ⟨w8, hc9, h⟩ := sh_b1_e h
  refine LP7 sh_fu 0 sL w8 _ _ ls hc9 (lv_sub hl [1, 0] rfl) hP hD hS (fun H locs ls hl hP hD hS => ?_)
  cases h
  exact sh_rwv hx hb hr hlocks hQ hK hP hD hS dX2_darken_38
theorem hdV_X2_atLeast : yX2_atLeast.cls = RX2 ∧ yX2_atLeast.cls ≠ "java/lang/invoke/MethodHandle" ∧ yX2_atLeast.cls ≠ "java/lang/invoke/VarHandle" ∧ (parseMethodDescriptor yX2_atLeast.desc).map (fun d => d.parameters.length) = some 1 := by decide +kernel
abbrev rmX2_atLeast : Room := { frames := 0, cells := 0, slots := 0, locals := 0 }
set_option maxHeartbeats 4000000 in
set_option maxRecDepth 100000 in
theorem k_X2_atLeast (l : Launch) (D : va_G) (cI cJ cZ : ClassId) (aG : Nat) (aS : Nat) (aY : Nat) (gw : Int32) (gd : Int32) (gh : Int32) (ga : Int64) (gl : Int64) (gr : Int64) (sL : Nat → Int64) (x1 : Int32) (o : Int64) (h : fX2_atLeast sL x1 = some o) : Met l yX2_atLeast wsX2_atLeast rmX2_atLeast (sh_Pr D (sh_ty cI cJ cZ) [(aS, .inr (2, [.ref aG, .ref aY])), (aY, .inl (cJ, 10, .inr (.inl sL))), (aG, .inr (1, [.int gw, .int gd, .int gh, .long ga, .long gl, .long gr]))] [.ref aS, .int x1]) (vp_Sl (fun z => z = o)) 0 0 (fun _ => False) := by
  refine Met.ofW (cc := cX2_atLeast) (maxL := 2) (ret := (some .long)) (by decide) rfl ?_
  intro p e s m args below meth c s₁ hB hml hv
  obtain ⟨hargs, hP, hK⟩ := hv
  have hx := hB.exec
  have hb := hB.bytes
  have hr := hB.returns
  have hts := atoms_spec (ws := wsX2_atLeast) hB.pre
  have hown : s.vm.findClass RX2 = some m.cls := findClass_of_methodNamed hB.named
  have hlocks := hB.notSynchronized
  have hfix : CallFix p m c cX2_atLeast 2 s args wsX2_atLeast RX2 := ⟨hx, hb, hml, hown, hts⟩
  have hinX2 : ∀ w ∈ wsX20, w ∈ wsX2_atLeast := by decide +kernel
  have lk1 := hts (.fieldLink RX2 9 "ShadeTree$Shades" "layers" "[J") (by decide +kernel)
  rw [show entryFrame m args 2 = entryFrame m ([.ref aS, .int x1] : List Value).toArray 2 by rw [hargs], lg_entry_eq]
  have hl := lv_entry ([.ref aS, .int x1]) (n := 2) (Nat.le_of_ble_eq_true rfl)
  generalize (lg_sl ([.ref aS, .int x1]) ++ List.replicate (2 - (lg_sl ([.ref aS, .int x1])).length) Slot.unset).toArray = ls at hl ⊢
  have hl : lv_has ls 2 [(0, .ref aS), (1, .int x1)] := hl
  generalize hQ : MQ below (vp_Sl (fun z => z = o)) args s 0 0 (fun _ => False) = Q
  unfold fX2_atLeast at h
  refine lv_iload_n hx hb dX2_atLeast_0 rfl (lv_at hl 1 rfl) ?_
  refine lv_if_lt (tgt := 22) hx hb dX2_atLeast_1 (by decide) (fun g1 => ?_) (fun g1 => ?_)
  · rw [if_pos g1] at h
    refine lv_lconst (v := 0) hx hb dX2_atLeast_22 (by decide) ?_
    exact sh_rol hx hb hr hlocks hQ (Option.some.inj h) dX2_atLeast_23
  · rw [if_neg g1] at h
    refine lv_iload_n hx hb dX2_atLeast_4 rfl (lv_at hl 1 rfl) ?_
    refine lv_aload_n hx hb dX2_atLeast_5 rfl (lv_at hl 0 rfl) ?_
    refine va_get (ci := 2) (v := .ref aY) (C := RX2) (T := TX2) (N := 2) hx hb hts hinX2 hown hK hP 0 rfl rfl 1 (by decide) lk1 (fun _ h9 => h9) rfl dX2_atLeast_6 ?_
    refine va_alen (v := 10) hx hb hK hP 1 1 rfl rfl rfl dX2_atLeast_9 ?_
    refine lv_icmp_ge (tgt := 22) hx hb dX2_atLeast_10 (by decide) (fun g2 => ?_) (fun g2 => ?_)
    · rw [if_pos g2] at h
      refine lv_lconst (v := 0) hx hb dX2_atLeast_22 (by decide) ?_
      exact sh_rol hx hb hr hlocks hQ (Option.some.inj h) dX2_atLeast_23
    · rw [if_neg g2] at h
      refine lv_aload_n hx hb dX2_atLeast_13 rfl (lv_at hl 0 rfl) ?_
      refine va_get (ci := 2) (v := .ref aY) (C := RX2) (T := TX2) (N := 2) hx hb hts hinX2 hown hK hP 0 rfl rfl 1 (by decide) lk1 (fun _ h9 => h9) rfl dX2_atLeast_14 ?_
      refine lv_iload_n hx hb dX2_atLeast_17 rfl (lv_at hl 1 rfl) ?_
      obtain ⟨v3, hcv3, h⟩ := sh_b1_e h
      refine sh_lald hx hb hK hP 1 1 rfl rfl (sh_ald_e hcv3) dX2_atLeast_18 ?_
      refine lv_goto (tgt := 23) hx hb dX2_atLeast_19 (by decide) ?_
      exact sh_rol hx hb hr hlocks hQ (Option.some.inj h) dX2_atLeast_23
theorem hdV_X2_of : yX2_of.cls = RX2 ∧ yX2_of.cls ≠ "java/lang/invoke/MethodHandle" ∧ yX2_of.cls ≠ "java/lang/invoke/VarHandle" ∧ (parseMethodDescriptor yX2_of.desc).map (fun d => d.parameters.length) = some 1 := by decide +kernel
abbrev rmX2_of : Room := { frames := 0, cells := 0, slots := 0, locals := 0 }
set_option maxHeartbeats 4000000 in
set_option maxRecDepth 100000 in
theorem k_X2_of (l : Launch) (D : va_G) (cI cJ cZ : ClassId) (aG : Nat) (aS : Nat) (aY : Nat) (gw : Int32) (gd : Int32) (gh : Int32) (ga : Int64) (gl : Int64) (gr : Int64) (sL : Nat → Int64) (x1 : Int32) (o : Int32) (h : fX2_of sL x1 = some o) : Met l yX2_of wsX2_of rmX2_of (sh_Pr D (sh_ty cI cJ cZ) [(aS, .inr (2, [.ref aG, .ref aY])), (aY, .inl (cJ, 10, .inr (.inl sL))), (aG, .inr (1, [.int gw, .int gd, .int gh, .long ga, .long gl, .long gr]))] [.ref aS, .int x1]) (vp_Si (fun z => z = o)) 0 0 (fun _ => False) := by
  refine Met.ofW (cc := cX2_of) (maxL := 4) (ret := (some .int)) (by decide) rfl ?_
  intro p e s m args below meth c s₁ hB hml hv
  obtain ⟨hargs, hP, hK⟩ := hv
  have hx := hB.exec
  have hb := hB.bytes
  have hr := hB.returns
  have hts := atoms_spec (ws := wsX2_of) hB.pre
  have hown : s.vm.findClass RX2 = some m.cls := findClass_of_methodNamed hB.named
  have hlocks := hB.notSynchronized
  have hfix : CallFix p m c cX2_of 4 s args wsX2_of RX2 := ⟨hx, hb, hml, hown, hts⟩
  have hinX2 : ∀ w ∈ wsX20, w ∈ wsX2_of := by decide +kernel
  have lk1 := hts (.fieldLink RX2 9 "ShadeTree$Shades" "layers" "[J") (by decide +kernel)
  rw [show entryFrame m args 4 = entryFrame m ([.ref aS, .int x1] : List Value).toArray 4 by rw [hargs], lg_entry_eq]
  have hl := lv_entry ([.ref aS, .int x1]) (n := 4) (Nat.le_of_ble_eq_true rfl)
  generalize (lg_sl ([.ref aS, .int x1]) ++ List.replicate (4 - (lg_sl ([.ref aS, .int x1])).length) Slot.unset).toArray = ls at hl ⊢
  have hl : lv_has ls 4 [(0, .ref aS), (1, .int x1)] := hl
  generalize hQ : MQ below (vp_Si (fun z => z = o)) args s 0 0 (fun _ => False) = Q
  unfold fX2_of at h
  refine lv_iconst (v := 0) hx hb dX2_of_0 (by decide) ?_
  refine lv_istore_n (lv' := [(2, .int 0), (0, .ref aS), (1, .int x1)]) hx hb dX2_of_1 rfl hl (by decide) rfl (fun ls hl => ?_)
  refine lv_iconst (v := 1) hx hb dX2_of_2 (by decide) ?_
  refine lv_istore_n (lv' := [(3, .int 1), (2, .int 0), (0, .ref aS), (1, .int x1)]) hx hb dX2_of_3 rfl hl (by decide) rfl (fun ls hl => ?_)
  have LP3 : ∀ (n : Nat) (x1 : Int32) (x2 : Int32) (x3 : Int32) (ow2 : Int32) (ls : Array Slot), fX2_of_L4 n x1 x2 x3 sL = some ow2 → lv_has ls 4 [(0, .ref aS), (1, .int x1), (2, .int x2), (3, .int x3)] → (∀ (ls : Array Slot), lv_has ls 4 [(2, .int ow2)] → W p l e (headSpec wsX2_of rmX2_of).room s m args below meth c s.heap [] 0 0 Q (F0 m 33 ls [])) → W p l e (headSpec wsX2_of rmX2_of).room s m args below meth c s.heap [] 0 0 Q (F0 m 4 ls []) := by
    intro n
    induction n with
    | zero =>
      intro x1 x2 x3 ow2 ls h hl hk
      exact nomatch ((fX2_of_L4_z x1 x2 x3 sL).symm.trans h)
    | succ n ih =>
      intro x1 x2 x3 ow2 ls h hl hk
      rw [fX2_of_L4_s] at h
      refine lv_iload_n hx hb dX2_of_4 rfl (lv_at hl 3 rfl) ?_
      refine lv_aload_n hx hb dX2_of_5 rfl (lv_at hl 0 rfl) ?_
      refine va_get (ci := 2) (v := .ref aY) (C := RX2) (T := TX2) (N := 2) hx hb hts hinX2 hown hK hP 0 rfl rfl 1 (by decide) lk1 (fun _ h9 => h9) rfl dX2_of_6 ?_
      refine va_alen (v := 10) hx hb hK hP 1 1 rfl rfl rfl dX2_of_9 ?_
      refine lv_icmp_ge (tgt := 33) hx hb dX2_of_10 (by decide) (fun g1 => ?_) (fun g1 => ?_)
      · rw [if_pos g1] at h
        cases h
        exact hk ls (lv_sub hl [2] rfl) 
      · rw [if_neg g1] at h
        refine lv_iload_n hx hb dX2_of_13 rfl (lv_at hl 2 rfl) ?_
        refine lv_aload_n hx hb dX2_of_14 rfl (lv_at hl 0 rfl) ?_
        refine va_get (ci := 2) (v := .ref aY) (C := RX2) (T := TX2) (N := 2) hx hb hts hinX2 hown hK hP 0 rfl rfl 1 (by decide) lk1 (fun _ h9 => h9) rfl dX2_of_15 ?_
        refine lv_iload_n hx hb dX2_of_18 rfl (lv_at hl 3 rfl) ?_
        obtain ⟨v2, hcv2, h⟩ := sh_b1_e h
        refine sh_lald hx hb hK hP 1 1 rfl rfl (sh_ald_e hcv2) dX2_of_19 ?_
        refine lv_iload_n hx hb dX2_of_20 rfl (lv_at hl 1 rfl) ?_
        refine lv_lushr (v := (sh_lsr v2 x1)) hx hb dX2_of_21 rfl ?_
        refine lv_lconst (v := 1) hx hb dX2_of_22 (by decide) ?_
        refine lv_land hx hb dX2_of_23 ?_
        refine lv_l2i (v := (Int64.toInt32 ((sh_lsr v2 x1) &&& 1))) hx hb dX2_of_24 rfl ?_
        refine lv_iadd hx hb dX2_of_25 ?_
        refine lv_istore_n (lv' := [(2, .int (x2 + (Int64.toInt32 ((sh_lsr v2 x1) &&& 1)))), (0, .ref aS), (1, .int x1), (3, .int x3)]) hx hb dX2_of_26 rfl hl (by decide) rfl (fun ls hl => ?_)
        refine lv_iinc (v := (x3 + 1)) (lv' := [(3, .int (x3 + 1)), (2, .int (x2 + (Int64.toInt32 ((sh_lsr v2 x1) &&& 1)))), (0, .ref aS), (1, .int x1)]) hx hb dX2_of_27 hl (k := 3) rfl rfl (by decide) rfl (fun ls hl => ?_)
        refine lv_goto (tgt := 4) hx hb dX2_of_30 (by decide) ?_
        exact ih x1 (x2 + (Int64.toInt32 ((sh_lsr v2 x1) &&& 1))) (x3 + 1) ow2 ls h (lv_sub hl [2, 3, 1, 0] rfl)  hk
  obtain ⟨w4, hc5, h⟩ := sh_b1_e h
  refine LP3 sh_fu x1 0 1 w4 ls hc5 (lv_sub hl [2, 3, 1, 0] rfl)  (fun ls hl  => ?_)
  refine lv_iload_n hx hb dX2_of_33 rfl (lv_at hl 0 rfl) ?_
  exact sh_roi hx hb hr hlocks hQ (Option.some.inj h) dX2_of_34
theorem hdS_J13_bitCount_95d88 : yJ13_bitCount_95d88.cls ≠ "java/lang/invoke/MethodHandle" ∧ yJ13_bitCount_95d88.cls ≠ "java/lang/invoke/VarHandle" ∧ (parseMethodDescriptor yJ13_bitCount_95d88.desc).map (fun d => d.parameters.length) = some 1 := by decide +kernel
abbrev rmJ13_bitCount_95d88 : Room := { frames := 0, cells := 0, slots := 0, locals := 0 }
set_option maxHeartbeats 4000000 in
set_option maxRecDepth 100000 in
theorem k_J13_bitCount_95d88 (l : Launch) (D : va_G) (cI cJ cZ : ClassId) (x0 : Int64) (o : Int32) (h : fJ13_bitCount_95d88 x0 = some o) : Met l yJ13_bitCount_95d88 wsJ13_bitCount_95d88 rmJ13_bitCount_95d88 (sh_Pr D (sh_ty cI cJ cZ) [] [.long x0]) (vp_Si (fun z => z = o)) 0 0 (fun _ => False) := by
  refine Met.ofW (cc := cJ13_bitCount_95d88) (maxL := 2) (ret := (some .int)) (by decide) rfl ?_
  intro p e s m args below meth c s₁ hB hml hv
  obtain ⟨hargs, hP, hK⟩ := hv
  have hx := hB.exec
  have hb := hB.bytes
  have hr := hB.returns
  have hts := atoms_spec (ws := wsJ13_bitCount_95d88) hB.pre
  have hown : s.vm.findClass RJ13 = some m.cls := findClass_of_methodNamed hB.named
  have hlocks := hB.notSynchronized
  have hfix : CallFix p m c cJ13_bitCount_95d88 2 s args wsJ13_bitCount_95d88 RJ13 := ⟨hx, hb, hml, hown, hts⟩
  have lk1 := hts (.constantLong RJ13 314 (6148914691236517205)) (by decide +kernel)
  have lk2 := hts (.constantLong RJ13 316 (3689348814741910323)) (by decide +kernel)
  have lk3 := hts (.constantLong RJ13 318 (1085102592571150095)) (by decide +kernel)
  rw [show entryFrame m args 2 = entryFrame m ([.long x0] : List Value).toArray 2 by rw [hargs], lg_entry_eq]
  have hl := lv_entry ([.long x0]) (n := 2) (Nat.le_of_ble_eq_true rfl)
  generalize (lg_sl ([.long x0]) ++ List.replicate (2 - (lg_sl ([.long x0])).length) Slot.unset).toArray = ls at hl ⊢
  have hl : lv_has ls 2 [(0, .long x0)] := hl
  generalize hQ : MQ below (vp_Si (fun z => z = o)) args s 0 0 (fun _ => False) = Q
  unfold fJ13_bitCount_95d88 at h
  refine lv_lload_n hx hb dJ13_bitCount_95d88_0 rfl (lv_at hl 0 rfl) ?_
  refine lv_lload_n hx hb dJ13_bitCount_95d88_1 rfl (lv_at hl 0 rfl) ?_
  refine lv_iconst (v := 1) hx hb dJ13_bitCount_95d88_2 (by decide) ?_
  refine lv_lushr (v := (sh_lsr x0 1)) hx hb dJ13_bitCount_95d88_3 rfl ?_
  refine lv_ldc2 hx hb hown lk1 dJ13_bitCount_95d88_4 ?_
  refine lv_land hx hb dJ13_bitCount_95d88_7 ?_
  refine lv_lsub hx hb dJ13_bitCount_95d88_8 ?_
  refine lv_lstore_n (lv' := [(0, .long (x0 - ((sh_lsr x0 1) &&& 6148914691236517205)))]) hx hb dJ13_bitCount_95d88_9 rfl hl (by decide) rfl (fun ls hl => ?_)
  refine lv_lload_n hx hb dJ13_bitCount_95d88_10 rfl (lv_at hl 0 rfl) ?_
  refine lv_ldc2 hx hb hown lk2 dJ13_bitCount_95d88_11 ?_
  refine lv_land hx hb dJ13_bitCount_95d88_14 ?_
  refine lv_lload_n hx hb dJ13_bitCount_95d88_15 rfl (lv_at hl 0 rfl) ?_
  refine lv_iconst (v := 2) hx hb dJ13_bitCount_95d88_16 (by decide) ?_
  refine lv_lushr (v := (sh_lsr (x0 - ((sh_lsr x0 1) &&& 6148914691236517205)) 2)) hx hb dJ13_bitCount_95d88_17 rfl ?_
  refine lv_ldc2 hx hb hown lk2 dJ13_bitCount_95d88_18 ?_
  refine lv_land hx hb dJ13_bitCount_95d88_21 ?_
  refine lv_ladd hx hb dJ13_bitCount_95d88_22 ?_
  obtain ⟨y1, ey1, h⟩ := sh_nm_e h
  rw [← ey1]
  refine lv_lstore_n (lv' := [(0, .long y1)]) hx hb dJ13_bitCount_95d88_23 rfl hl (by decide) rfl (fun ls hl => ?_)
  refine lv_lload_n hx hb dJ13_bitCount_95d88_24 rfl (lv_at hl 0 rfl) ?_
  refine lv_lload_n hx hb dJ13_bitCount_95d88_25 rfl (lv_at hl 0 rfl) ?_
  refine lv_iconst (v := 4) hx hb dJ13_bitCount_95d88_26 (by decide) ?_
  refine lv_lushr (v := (sh_lsr y1 4)) hx hb dJ13_bitCount_95d88_27 rfl ?_
  refine lv_ladd hx hb dJ13_bitCount_95d88_28 ?_
  refine lv_ldc2 hx hb hown lk3 dJ13_bitCount_95d88_29 ?_
  refine lv_land hx hb dJ13_bitCount_95d88_32 ?_
  refine lv_lstore_n (lv' := [(0, .long ((y1 + (sh_lsr y1 4)) &&& 1085102592571150095))]) hx hb dJ13_bitCount_95d88_33 rfl hl (by decide) rfl (fun ls hl => ?_)
  refine lv_lload_n hx hb dJ13_bitCount_95d88_34 rfl (lv_at hl 0 rfl) ?_
  refine lv_lload_n hx hb dJ13_bitCount_95d88_35 rfl (lv_at hl 0 rfl) ?_
  refine lv_bipush (v := 8) hx hb dJ13_bitCount_95d88_36 (by decide) ?_
  refine lv_lushr (v := (sh_lsr ((y1 + (sh_lsr y1 4)) &&& 1085102592571150095) 8)) hx hb dJ13_bitCount_95d88_38 rfl ?_
  refine lv_ladd hx hb dJ13_bitCount_95d88_39 ?_
  obtain ⟨y2, ey2, h⟩ := sh_nm_e h
  rw [← ey2]
  refine lv_lstore_n (lv' := [(0, .long y2)]) hx hb dJ13_bitCount_95d88_40 rfl hl (by decide) rfl (fun ls hl => ?_)
  refine lv_lload_n hx hb dJ13_bitCount_95d88_41 rfl (lv_at hl 0 rfl) ?_
  refine lv_lload_n hx hb dJ13_bitCount_95d88_42 rfl (lv_at hl 0 rfl) ?_
  refine lv_bipush (v := 16) hx hb dJ13_bitCount_95d88_43 (by decide) ?_
  refine lv_lushr (v := (sh_lsr y2 16)) hx hb dJ13_bitCount_95d88_45 rfl ?_
  refine lv_ladd hx hb dJ13_bitCount_95d88_46 ?_
  refine lv_lstore_n (lv' := [(0, .long (y2 + (sh_lsr y2 16)))]) hx hb dJ13_bitCount_95d88_47 rfl hl (by decide) rfl (fun ls hl => ?_)
  refine lv_lload_n hx hb dJ13_bitCount_95d88_48 rfl (lv_at hl 0 rfl) ?_
  refine lv_lload_n hx hb dJ13_bitCount_95d88_49 rfl (lv_at hl 0 rfl) ?_
  refine lv_bipush (v := 32) hx hb dJ13_bitCount_95d88_50 (by decide) ?_
  refine lv_lushr (v := (sh_lsr (y2 + (sh_lsr y2 16)) 32)) hx hb dJ13_bitCount_95d88_52 rfl ?_
  refine lv_ladd hx hb dJ13_bitCount_95d88_53 ?_
  refine lv_lstore_n (lv' := [(0, .long ((y2 + (sh_lsr y2 16)) + (sh_lsr (y2 + (sh_lsr y2 16)) 32)))]) hx hb dJ13_bitCount_95d88_54 rfl hl (by decide) rfl (fun ls hl => ?_)
  refine lv_lload_n hx hb dJ13_bitCount_95d88_55 rfl (lv_at hl 0 rfl) ?_
  refine lv_l2i (v := (Int64.toInt32 ((y2 + (sh_lsr y2 16)) + (sh_lsr (y2 + (sh_lsr y2 16)) 32)))) hx hb dJ13_bitCount_95d88_56 rfl ?_
  refine lv_bipush (v := 127) hx hb dJ13_bitCount_95d88_57 (by decide) ?_
  refine lv_iand hx hb dJ13_bitCount_95d88_59 ?_
  exact sh_roi hx hb hr hlocks hQ (Option.some.inj h) dJ13_bitCount_95d88_60
theorem hdV_X2_light : yX2_light.cls = RX2 ∧ yX2_light.cls ≠ "java/lang/invoke/MethodHandle" ∧ yX2_light.cls ≠ "java/lang/invoke/VarHandle" ∧ (parseMethodDescriptor yX2_light.desc).map (fun d => d.parameters.length) = some 1 := by decide +kernel
abbrev rmX2_light : Room := { frames := 1, cells := 0, slots := 0, locals := 21 }
set_option maxHeartbeats 4000000 in
set_option maxRecDepth 100000 in
theorem k_X2_light (l : Launch) (D : va_G) (cI cJ cZ : ClassId) (aG : Nat) (aS : Nat) (aY : Nat) (gw : Int32) (gd : Int32) (gh : Int32) (ga : Int64) (gl : Int64) (gr : Int64) (sL : Nat → Int64) (x1 : Int64) (o : Int32) (h : fX2_light sL x1 = some o) : Met l yX2_light wsX2_light rmX2_light (sh_Pr D (sh_ty cI cJ cZ) [(aS, .inr (2, [.ref aG, .ref aY])), (aY, .inl (cJ, 10, .inr (.inl sL))), (aG, .inr (1, [.int gw, .int gd, .int gh, .long ga, .long gl, .long gr]))] [.ref aS, .long x1]) (vp_Si (fun z => z = o)) 0 0 (fun _ => False) := by
  refine Met.ofW (cc := cX2_light) (maxL := 5) (ret := (some .int)) (by decide) rfl ?_
  intro p e s m args below meth c s₁ hB hml hv
  obtain ⟨hargs, hP, hK⟩ := hv
  have hx := hB.exec
  have hb := hB.bytes
  have hr := hB.returns
  have hts := atoms_spec (ws := wsX2_light) hB.pre
  have hown : s.vm.findClass RX2 = some m.cls := findClass_of_methodNamed hB.named
  have hlocks := hB.notSynchronized
  have hfix : CallFix p m c cX2_light 5 s args wsX2_light RX2 := ⟨hx, hb, hml, hown, hts⟩
  have hinX2 : ∀ w ∈ wsX20, w ∈ wsX2_light := by decide +kernel
  have lk1 := hts (.fieldLink RX2 9 "ShadeTree$Shades" "layers" "[J") (by decide +kernel)
  rw [show entryFrame m args 5 = entryFrame m ([.ref aS, .long x1] : List Value).toArray 5 by rw [hargs], lg_entry_eq]
  have hl := lv_entry ([.ref aS, .long x1]) (n := 5) (Nat.le_of_ble_eq_true rfl)
  generalize (lg_sl ([.ref aS, .long x1]) ++ List.replicate (5 - (lg_sl ([.ref aS, .long x1])).length) Slot.unset).toArray = ls at hl ⊢
  have hl : lv_has ls 5 [(0, .ref aS), (1, .long x1)] := hl
  generalize hQ : MQ below (vp_Si (fun z => z = o)) args s 0 0 (fun _ => False) = Q
  unfold fX2_light at h
  refine lv_iconst (v := 0) hx hb dX2_light_0 (by decide) ?_
  refine lv_istore_n (lv' := [(3, .int 0), (0, .ref aS), (1, .long x1)]) hx hb dX2_light_1 rfl hl (by decide) rfl (fun ls hl => ?_)
  refine lv_iconst (v := 1) hx hb dX2_light_2 (by decide) ?_
  refine lv_istore (lv' := [(4, .int 1), (3, .int 0), (0, .ref aS), (1, .long x1)]) hx hb dX2_light_3 hl (by decide) rfl (fun ls hl => ?_)
  have LP5 : ∀ (n : Nat) (x1 : Int64) (x3 : Int32) (x4 : Int32) (ow3 : Int32) (ls : Array Slot), fX2_light_L5 n x1 x3 x4 sL = some ow3 → lv_has ls 5 [(0, .ref aS), (1, .long x1), (3, .int x3), (4, .int x4)] → (∀ (ls : Array Slot), lv_has ls 5 [(3, .int ow3)] → W p l e (headSpec wsX2_light rmX2_light).room s m args below meth c s.heap [] 0 0 Q (F0 m 36 ls [])) → W p l e (headSpec wsX2_light rmX2_light).room s m args below meth c s.heap [] 0 0 Q (F0 m 5 ls []) := by
    intro n
    induction n with
    | zero =>
      intro x1 x3 x4 ow3 ls h hl hk
      exact nomatch ((fX2_light_L5_z x1 x3 x4 sL).symm.trans h)
    | succ n ih =>
      intro x1 x3 x4 ow3 ls h hl hk
      rw [fX2_light_L5_s] at h
      refine lv_iload hx hb dX2_light_5 (lv_at hl 3 rfl) ?_
      refine lv_aload_n hx hb dX2_light_7 rfl (lv_at hl 0 rfl) ?_
      refine va_get (ci := 2) (v := .ref aY) (C := RX2) (T := TX2) (N := 2) hx hb hts hinX2 hown hK hP 0 rfl rfl 1 (by decide) lk1 (fun _ h9 => h9) rfl dX2_light_8 ?_
      refine va_alen (v := 10) hx hb hK hP 1 1 rfl rfl rfl dX2_light_11 ?_
      refine lv_icmp_ge (tgt := 36) hx hb dX2_light_12 (by decide) (fun g1 => ?_) (fun g1 => ?_)
      · rw [if_pos g1] at h
        cases h
        exact hk ls (lv_sub hl [2] rfl) 
      · rw [if_neg g1] at h
        refine lv_iload_n hx hb dX2_light_15 rfl (lv_at hl 2 rfl) ?_
        refine lv_aload_n hx hb dX2_light_16 rfl (lv_at hl 0 rfl) ?_
        refine va_get (ci := 2) (v := .ref aY) (C := RX2) (T := TX2) (N := 2) hx hb hts hinX2 hown hK hP 0 rfl rfl 1 (by decide) lk1 (fun _ h9 => h9) rfl dX2_light_17 ?_
        refine lv_iload hx hb dX2_light_20 (lv_at hl 3 rfl) ?_
        obtain ⟨v2, hcv2, h⟩ := sh_b1_e h
        refine sh_lald hx hb hK hP 1 1 rfl rfl (sh_ald_e hcv2) dX2_light_22 ?_
        refine lv_lload_n hx hb dX2_light_23 rfl (lv_at hl 1 rfl) ?_
        refine lv_land hx hb dX2_light_24 ?_
        obtain ⟨v3, hc4, h⟩ := sh_b1_e h
        refine sh_cSi (As := [.long (v2 &&& x1)]) (rest := [.int x3]) hfix (k_J13_bitCount_95d88 l D cI cJ cZ (v2 &&& x1) v3 hc4) (va_cwS 1 hts gX2_light_J13_bitCount_95d88 rfl rfl rfl hdS_J13_bitCount_95d88 ⟨Nat.le_of_ble_eq_true rfl, Nat.le_of_ble_eq_true rfl⟩) hP hK [] rfl rfl hl.1 rfl (Nat.le_of_ble_eq_true rfl) dX2_light_25 ⟨Nat.zero_le _, Nat.zero_le _⟩ ?_
        refine lv_iadd hx hb dX2_light_28 ?_
        refine lv_istore_n (lv' := [(3, .int (x3 + v3)), (0, .ref aS), (1, .long x1), (4, .int x4)]) hx hb dX2_light_29 rfl hl (by decide) rfl (fun ls hl => ?_)
        refine lv_iinc (v := (x4 + 1)) (lv' := [(4, .int (x4 + 1)), (3, .int (x3 + v3)), (0, .ref aS), (1, .long x1)]) hx hb dX2_light_30 hl (k := 3) rfl rfl (by decide) rfl (fun ls hl => ?_)
        refine lv_goto (tgt := 5) hx hb dX2_light_33 (by decide) ?_
        exact ih x1 (x3 + v3) (x4 + 1) ow3 ls h (lv_sub hl [2, 3, 1, 0] rfl)  hk
  obtain ⟨w6, hc7, h⟩ := sh_b1_e h
  refine LP5 sh_fu x1 0 1 w6 ls hc7 (lv_sub hl [2, 3, 1, 0] rfl)  (fun ls hl  => ?_)
  refine lv_iload_n hx hb dX2_light_36 rfl (lv_at hl 0 rfl) ?_
  exact sh_roi hx hb hr hlocks hQ (Option.some.inj h) dX2_light_37
theorem hdV_X2_brightest : yX2_brightest.cls = RX2 ∧ yX2_brightest.cls ≠ "java/lang/invoke/MethodHandle" ∧ yX2_brightest.cls ≠ "java/lang/invoke/VarHandle" ∧ (parseMethodDescriptor yX2_brightest.desc).map (fun d => d.parameters.length) = some 1 := by decide +kernel
abbrev rmX2_brightest : Room := { frames := 1, cells := 0, slots := 0, locals := 21 }
set_option maxHeartbeats 4000000 in
set_option maxRecDepth 100000 in
theorem k_X2_brightest (l : Launch) (D : va_G) (cI cJ cZ : ClassId) (aG : Nat) (aS : Nat) (aY : Nat) (gw : Int32) (gd : Int32) (gh : Int32) (ga : Int64) (gl : Int64) (gr : Int64) (sL : Nat → Int64) (x1 : Int64) (o : Int32) (h : fX2_brightest gw gd gh ga gl gr sL x1 = some o) : Met l yX2_brightest wsX2_brightest rmX2_brightest (sh_Pr D (sh_ty cI cJ cZ) [(aS, .inr (2, [.ref aG, .ref aY])), (aY, .inl (cJ, 10, .inr (.inl sL))), (aG, .inr (1, [.int gw, .int gd, .int gh, .long ga, .long gl, .long gr]))] [.ref aS, .long x1]) (vp_Si (fun z => z = o)) 0 0 (fun _ => False) := by
  refine Met.ofW (cc := cX2_brightest) (maxL := 4) (ret := (some .int)) (by decide) rfl ?_
  intro p e s m args below meth c s₁ hB hml hv
  obtain ⟨hargs, hP, hK⟩ := hv
  have hx := hB.exec
  have hb := hB.bytes
  have hr := hB.returns
  have hts := atoms_spec (ws := wsX2_brightest) hB.pre
  have hown : s.vm.findClass RX2 = some m.cls := findClass_of_methodNamed hB.named
  have hlocks := hB.notSynchronized
  have hfix : CallFix p m c cX2_brightest 4 s args wsX2_brightest RX2 := ⟨hx, hb, hml, hown, hts⟩
  rw [show entryFrame m args 4 = entryFrame m ([.ref aS, .long x1] : List Value).toArray 4 by rw [hargs], lg_entry_eq]
  have hl := lv_entry ([.ref aS, .long x1]) (n := 4) (Nat.le_of_ble_eq_true rfl)
  generalize (lg_sl ([.ref aS, .long x1]) ++ List.replicate (4 - (lg_sl ([.ref aS, .long x1])).length) Slot.unset).toArray = ls at hl ⊢
  have hl : lv_has ls 4 [(0, .ref aS), (1, .long x1)] := hl
  generalize hQ : MQ below (vp_Si (fun z => z = o)) args s 0 0 (fun _ => False) = Q
  unfold fX2_brightest at h
  refine lv_bipush (v := 9) hx hb dX2_brightest_0 (by decide) ?_
  refine lv_istore_n (lv' := [(3, .int 9), (0, .ref aS), (1, .long x1)]) hx hb dX2_brightest_2 rfl hl (by decide) rfl (fun ls hl => ?_)
  have LP5 : ∀ (n : Nat) (x1 : Int64) (x3 : Int32) (z : (Int32) ⊕ (Unit)) (ls : Array Slot), fX2_brightest_L3 n x1 x3 gw gd gh ga gl gr sL = some z → lv_has ls 4 [(0, .ref aS), (1, .long x1), (3, .int x3)] → (∀ x, z = .inl x → x = o) → (∀ (t : Unit), z = .inr t → ∀ (ls : Array Slot), lv_has ls 4 [] → W p l e (headSpec wsX2_brightest rmX2_brightest).room s m args below meth c s.heap [] 0 0 Q (F0 m 27 ls [])) → W p l e (headSpec wsX2_brightest rmX2_brightest).room s m args below meth c s.heap [] 0 0 Q (F0 m 3 ls []) := by
    intro n
    induction n with
    | zero =>
      intro x1 x3 z ls h hl hret hk
      exact nomatch ((fX2_brightest_L3_z x1 x3 gw gd gh ga gl gr sL).symm.trans h)
    | succ n ih =>
      intro x1 x3 z ls h hl hret hk
      rw [fX2_brightest_L3_s] at h
      refine lv_iload_n hx hb dX2_brightest_3 rfl (lv_at hl 2 rfl) ?_
      refine lv_if_le (tgt := 27) hx hb dX2_brightest_4 (by decide) (fun g1 => ?_) (fun g1 => ?_)
      · rw [if_pos g1] at h
        exact hk () (Option.some.inj h).symm ls (lv_sub hl [] rfl) 
      · rw [if_neg g1] at h
        refine lv_aload_n hx hb dX2_brightest_7 rfl (lv_at hl 0 rfl) ?_
        refine lv_iload_n hx hb dX2_brightest_8 rfl (lv_at hl 2 rfl) ?_
        obtain ⟨v2, hc3, h⟩ := sh_b1_e h
        refine sh_cVl (As := [.int x3]) (rest := []) hfix (k_X2_atLeast l D cI cJ cZ aG aS aY gw gd gh ga gl gr sL x3 v2 hc3) (cwV 1 hts gX2_brightest_X2_atLeast rfl rfl rfl hdV_X2_atLeast ⟨Nat.le_of_ble_eq_true rfl, Nat.le_of_ble_eq_true rfl⟩) hP hK [0, 1, 2] rfl 0 rfl rfl rfl hl.1 rfl (Nat.le_of_ble_eq_true rfl) dX2_brightest_9 ⟨Nat.zero_le _, Nat.zero_le _⟩ ?_
        refine lv_lload_n hx hb dX2_brightest_12 rfl (lv_at hl 1 rfl) ?_
        refine lv_land hx hb dX2_brightest_13 ?_
        refine lv_lconst (v := 0) hx hb dX2_brightest_14 (by decide) ?_
        refine sh_leq (tgt := 21) hx hb dX2_brightest_15 dX2_brightest_16 (by decide) (fun g4 => ?_) (fun g4 => ?_)
        · rw [if_pos g4] at h
          refine lv_iinc (v := (x3 + (-1))) (lv' := [(3, .int (x3 + (-1))), (0, .ref aS), (1, .long x1)]) hx hb dX2_brightest_21 hl (k := 2) rfl rfl (by decide) rfl (fun ls hl => ?_)
          refine lv_goto (tgt := 3) hx hb dX2_brightest_24 (by decide) ?_
          exact ih x1 (x3 + (-1)) z ls h (lv_sub hl [1, 2, 0] rfl)  hret hk
        · rw [if_neg g4] at h
          refine lv_iload_n hx hb dX2_brightest_19 rfl (lv_at hl 2 rfl) ?_
          exact sh_roi hx hb hr hlocks hQ (hret _ (Option.some.inj h).symm) dX2_brightest_20
  obtain ⟨z6, hcz6, hrz6, hkz6⟩ := sh_bs_e h
  refine LP5 sh_fu x1 9 z6 ls hcz6 (lv_sub hl [1, 2, 0] rfl)  hrz6 (fun t7 et7 ls hl  => ?_)
  have h := hkz6 t7 et7
  refine lv_iconst (v := 0) hx hb dX2_brightest_27 (by decide) ?_
  exact sh_roi hx hb hr hlocks hQ (Option.some.inj h) dX2_brightest_28
theorem hdV_X2_set : yX2_set.cls = RX2 ∧ yX2_set.cls ≠ "java/lang/invoke/MethodHandle" ∧ yX2_set.cls ≠ "java/lang/invoke/VarHandle" ∧ (parseMethodDescriptor yX2_set.desc).map (fun d => d.parameters.length) = some 2 := by decide +kernel
abbrev rmX2_set : Room := { frames := 0, cells := 0, slots := 0, locals := 0 }
set_option maxHeartbeats 4000000 in
set_option maxRecDepth 100000 in
theorem k_X2_set (l : Launch) (D : va_G) (cI cJ cZ : ClassId) (sz : Nat) (aG : Nat) (aS : Nat) (aY : Nat) (gw : Int32) (gd : Int32) (gh : Int32) (ga : Int64) (gl : Int64) (gr : Int64) (sL : Nat → Int64) (x1 : Int32) (x2 : Int32) (osL : Nat → Int64) (h : fX2_set sL x1 x2 = some osL) : Met l yX2_set wsX2_set rmX2_set (sh_Pw D (sh_ty cI cJ cZ) sz [(aS, .inr (2, [.ref aG, .ref aY])), (aY, .inl (cJ, 10, .inr (.inl sL))), (aG, .inr (1, [.int gw, .int gd, .int gh, .long ga, .long gl, .long gr]))] [.ref aS, .int x1, .int x2]) (sh_Qv D (sh_ty cI cJ cZ) (va_A [(aS, .inr (2, [.ref aG, .ref aY])), (aY, .inl (cJ, 10, .inr (.inl sL))), (aG, .inr (1, [.int gw, .int gd, .int gh, .long ga, .long gl, .long gr]))] sz) [(aS, .inr (2, [.ref aG, .ref aY])), (aY, .inl (cJ, 10, .inr (.inl osL))), (aG, .inr (1, [.int gw, .int gd, .int gh, .long ga, .long gl, .long gr]))]) 0 0 (va_A [(aS, .inr (2, [.ref aG, .ref aY])), (aY, .inl (cJ, 10, .inr (.inl sL))), (aG, .inr (1, [.int gw, .int gd, .int gh, .long ga, .long gl, .long gr]))] sz) := by
  refine Met.ofW (cc := cX2_set) (maxL := 6) (ret := none) (by decide) rfl ?_
  intro p e s m args below meth c s₁ hB hml hv
  obtain ⟨hargs, hsz, hP, hK, hD0⟩ := hv
  have hx := hB.exec
  have hb := hB.bytes
  have hr := hB.returns
  have hts := atoms_spec (ws := wsX2_set) hB.pre
  have hown : s.vm.findClass RX2 = some m.cls := findClass_of_methodNamed hB.named
  have hlocks := hB.notSynchronized
  have hfix : CallFix p m c cX2_set 6 s args wsX2_set RX2 := ⟨hx, hb, hml, hown, hts⟩
  have hinX2 : ∀ w ∈ wsX20, w ∈ wsX2_set := by decide +kernel
  have lk1 := hts (.fieldLink RX2 9 "ShadeTree$Shades" "layers" "[J") (by decide +kernel)
  have lk2 := hts (.constantLong RX2 38 (-1)) (by decide +kernel)
  rw [show entryFrame m args 6 = entryFrame m ([.ref aS, .int x1, .int x2] : List Value).toArray 6 by rw [hargs], lg_entry_eq]
  have hl := lv_entry ([.ref aS, .int x1, .int x2]) (n := 6) (Nat.le_of_ble_eq_true rfl)
  generalize (lg_sl ([.ref aS, .int x1, .int x2]) ++ List.replicate (6 - (lg_sl ([.ref aS, .int x1, .int x2])).length) Slot.unset).toArray = ls at hl ⊢
  have hl : lv_has ls 6 [(0, .ref aS), (1, .int x1), (2, .int x2)] := hl
  subst hsz
  have hD := hD0.self (sz := s.heap.size)
  generalize hAe : va_A [(aS, .inr (2, [.ref aG, .ref aY])), (aY, .inl (cJ, 10, .inr (.inl sL))), (aG, .inr (1, [.int gw, .int gd, .int gh, .long ga, .long gl, .long gr]))] s.heap.size = Az at hD ⊢
  have hA : ∀ q : Nat, s.heap.size ≤ q → Az q := fun q h => by rw [← hAe]; exact Or.inr h
  have hS : va_S Az s.heap s.heap [] := va_S.rf
  generalize hQ : MQ below (sh_Qv D (sh_ty cI cJ cZ) Az [(aS, .inr (2, [.ref aG, .ref aY])), (aY, .inl (cJ, 10, .inr (.inl osL))), (aG, .inr (1, [.int gw, .int gd, .int gh, .long ga, .long gl, .long gr]))]) args s 0 0 Az = Q
  unfold fX2_set at h
  refine lv_lconst (v := 1) hx hb dX2_set_0 (by decide) ?_
  refine lv_iload_n hx hb dX2_set_1 rfl (lv_at hl 1 rfl) ?_
  refine lv_lshl (v := (sh_lsl 1 x1)) hx hb dX2_set_2 rfl ?_
  refine lv_lstore_n (lv' := [(3, .long (sh_lsl 1 x1)), (0, .ref aS), (1, .int x1), (2, .int x2)]) hx hb dX2_set_3 rfl hl (by decide) rfl (fun ls hl => ?_)
  refine lv_iconst (v := 1) hx hb dX2_set_4 (by decide) ?_
  refine lv_istore (lv' := [(5, .int 1), (3, .long (sh_lsl 1 x1)), (0, .ref aS), (1, .int x1), (2, .int x2)]) hx hb dX2_set_5 hl (by decide) rfl (fun ls hl => ?_)
  have LP7 : ∀ (n : Nat) (x2 : Int32) (x3 : Int64) (x5 : Int32) (sL : Nat → Int64) (osL : (Nat → Int64)) (H : Heap) (locs : List Loc) (ls : Array Slot), fX2_set_L7 n x2 x3 x5 sL = some osL → lv_has ls 6 [(0, .ref aS), (2, .int x2), (3, .long x3), (5, .int x5)] → va_P D vwCl [(aS, .inr (2, [.ref aG, .ref aY])), (aY, .inl (cJ, 10, .inr (.inl sL))), (aG, .inr (1, [.int gw, .int gd, .int gh, .long ga, .long gl, .long gr]))] H → va_D Az [(aS, .inr (2, [.ref aG, .ref aY])), (aY, .inl (cJ, 10, .inr (.inl sL))), (aG, .inr (1, [.int gw, .int gd, .int gh, .long ga, .long gl, .long gr]))] → va_S Az s.heap H locs → (∀ (H : Heap) (locs : List Loc) (ls : Array Slot), lv_has ls 6 [] → va_P D vwCl [(aS, .inr (2, [.ref aG, .ref aY])), (aY, .inl (cJ, 10, .inr (.inl osL))), (aG, .inr (1, [.int gw, .int gd, .int gh, .long ga, .long gl, .long gr]))] H → va_D Az [(aS, .inr (2, [.ref aG, .ref aY])), (aY, .inl (cJ, 10, .inr (.inl osL))), (aG, .inr (1, [.int gw, .int gd, .int gh, .long ga, .long gl, .long gr]))] → va_S Az s.heap H locs → W p l e (headSpec wsX2_set rmX2_set).room s m args below meth c H locs 0 0 Q (F0 m 61 ls [])) → W p l e (headSpec wsX2_set rmX2_set).room s m args below meth c H locs 0 0 Q (F0 m 7 ls []) := by
    intro n
    induction n with
    | zero =>
      intro x2 x3 x5 sL osL H locs ls h hl hP hD hS hk
      exact nomatch ((fX2_set_L7_z x2 x3 x5 sL).symm.trans h)
    | succ n ih =>
      intro x2 x3 x5 sL osL H locs ls h hl hP hD hS hk
      rw [fX2_set_L7_s] at h
      refine lv_iload hx hb dX2_set_7 (lv_at hl 3 rfl) ?_
      refine lv_aload_n hx hb dX2_set_9 rfl (lv_at hl 0 rfl) ?_
      refine va_get (ci := 2) (v := .ref aY) (C := RX2) (T := TX2) (N := 2) hx hb hts hinX2 hown hK hP 0 rfl rfl 1 (by decide) lk1 (fun _ h9 => h9) rfl dX2_set_10 ?_
      refine va_alen (v := 10) hx hb hK hP 1 1 rfl rfl rfl dX2_set_13 ?_
      refine lv_icmp_ge (tgt := 61) hx hb dX2_set_14 (by decide) (fun g1 => ?_) (fun g1 => ?_)
      · rw [if_pos g1] at h
        cases h
        exact hk _ _ ls (lv_sub hl [] rfl) hP hD hS
      · rw [if_neg g1] at h
        refine lv_aload_n hx hb dX2_set_17 rfl (lv_at hl 0 rfl) ?_
        refine va_get (ci := 2) (v := .ref aY) (C := RX2) (T := TX2) (N := 2) hx hb hts hinX2 hown hK hP 0 rfl rfl 1 (by decide) lk1 (fun _ h9 => h9) rfl dX2_set_18 ?_
        refine lv_iload hx hb dX2_set_21 (lv_at hl 3 rfl) ?_
        refine lv_iload hx hb dX2_set_23 (lv_at hl 3 rfl) ?_
        refine lv_iload_n hx hb dX2_set_25 rfl (lv_at hl 1 rfl) ?_
        refine lv_icmp_gt (tgt := 41) hx hb dX2_set_26 (by decide) (fun g2 => ?_) (fun g2 => ?_)
        · rw [if_pos g2] at h
          refine lv_aload_n hx hb dX2_set_41 rfl (lv_at hl 0 rfl) ?_
          refine va_get (ci := 2) (v := .ref aY) (C := RX2) (T := TX2) (N := 2) hx hb hts hinX2 hown hK hP 0 rfl rfl 1 (by decide) lk1 (fun _ h9 => h9) rfl dX2_set_42 ?_
          refine lv_iload hx hb dX2_set_45 (lv_at hl 3 rfl) ?_
          obtain ⟨v3, hcv3, h⟩ := sh_b1_e h
          refine sh_lald hx hb hK hP 1 1 rfl rfl (sh_ald_e hcv3) dX2_set_47 ?_
          refine lv_lload_n hx hb dX2_set_48 rfl (lv_at hl 2 rfl) ?_
          refine lv_ldc2 hx hb hown lk2 dX2_set_49 ?_
          refine lv_lxor hx hb dX2_set_52 ?_
          refine lv_land hx hb dX2_set_53 ?_
          obtain ⟨f4, hcf4, h⟩ := sh_b1_e h
          refine sh_last (wn := [(aS, .inr (2, [.ref aG, .ref aY])), (aY, .inl (cJ, 10, .inr (.inl f4))), (aG, .inr (1, [.int gw, .int gd, .int gh, .long ga, .long gl, .long gr]))]) hx hb hK hP hD hS 1 1 rfl rfl (sh_astL_e hcf4) rfl dX2_set_54 (fun H locs hP hD hS => ?_)
          refine lv_iinc (v := (x5 + 1)) (lv' := [(5, .int (x5 + 1)), (0, .ref aS), (2, .int x2), (3, .long x3)]) hx hb dX2_set_55 hl (k := 3) rfl rfl (by decide) rfl (fun ls hl => ?_)
          refine lv_goto (tgt := 7) hx hb dX2_set_58 (by decide) ?_
          exact ih x2 x3 (x5 + 1) f4 osL _ _ ls h (lv_sub hl [1, 2, 3, 0] rfl) hP hD hS hk
        · rw [if_neg g2] at h
          refine lv_aload_n hx hb dX2_set_29 rfl (lv_at hl 0 rfl) ?_
          refine va_get (ci := 2) (v := .ref aY) (C := RX2) (T := TX2) (N := 2) hx hb hts hinX2 hown hK hP 0 rfl rfl 1 (by decide) lk1 (fun _ h9 => h9) rfl dX2_set_30 ?_
          refine lv_iload hx hb dX2_set_33 (lv_at hl 3 rfl) ?_
          obtain ⟨v5, hcv5, h⟩ := sh_b1_e h
          refine sh_lald hx hb hK hP 1 1 rfl rfl (sh_ald_e hcv5) dX2_set_35 ?_
          refine lv_lload_n hx hb dX2_set_36 rfl (lv_at hl 2 rfl) ?_
          refine lv_lor hx hb dX2_set_37 ?_
          refine lv_goto (tgt := 54) hx hb dX2_set_38 (by decide) ?_
          obtain ⟨f6, hcf6, h⟩ := sh_b1_e h
          refine sh_last (wn := [(aS, .inr (2, [.ref aG, .ref aY])), (aY, .inl (cJ, 10, .inr (.inl f6))), (aG, .inr (1, [.int gw, .int gd, .int gh, .long ga, .long gl, .long gr]))]) hx hb hK hP hD hS 1 1 rfl rfl (sh_astL_e hcf6) rfl dX2_set_54 (fun H locs hP hD hS => ?_)
          refine lv_iinc (v := (x5 + 1)) (lv' := [(5, .int (x5 + 1)), (0, .ref aS), (2, .int x2), (3, .long x3)]) hx hb dX2_set_55 hl (k := 3) rfl rfl (by decide) rfl (fun ls hl => ?_)
          refine lv_goto (tgt := 7) hx hb dX2_set_58 (by decide) ?_
          exact ih x2 x3 (x5 + 1) f6 osL _ _ ls h (lv_sub hl [1, 2, 3, 0] rfl) hP hD hS hk
  obtain ⟨w8, hc9, h⟩ := sh_b1_e h
  refine LP7 sh_fu x2 (sh_lsl 1 x1) 1 sL w8 _ _ ls hc9 (lv_sub hl [2, 4, 1, 0] rfl) hP hD hS (fun H locs ls hl hP hD hS => ?_)
  cases h
  exact sh_rwv hx hb hr hlocks hQ hK hP hD hS dX2_set_61
theorem hdV_X2_put : yX2_put.cls = RX2 ∧ yX2_put.cls ≠ "java/lang/invoke/MethodHandle" ∧ yX2_put.cls ≠ "java/lang/invoke/VarHandle" ∧ (parseMethodDescriptor yX2_put.desc).map (fun d => d.parameters.length) = some 2 := by decide +kernel
abbrev rmX2_put : Room := { frames := 0, cells := 0, slots := 0, locals := 0 }
set_option maxHeartbeats 4000000 in
set_option maxRecDepth 100000 in
theorem k_X2_put (l : Launch) (D : va_G) (cI cJ cZ : ClassId) (sz : Nat) (aG : Nat) (aS : Nat) (aY : Nat) (gw : Int32) (gd : Int32) (gh : Int32) (ga : Int64) (gl : Int64) (gr : Int64) (sL : Nat → Int64) (x1 : Int32) (x2 : Int64) (osL : Nat → Int64) (h : fX2_put sL x1 x2 = some osL) : Met l yX2_put wsX2_put rmX2_put (sh_Pw D (sh_ty cI cJ cZ) sz [(aS, .inr (2, [.ref aG, .ref aY])), (aY, .inl (cJ, 10, .inr (.inl sL))), (aG, .inr (1, [.int gw, .int gd, .int gh, .long ga, .long gl, .long gr]))] [.ref aS, .int x1, .long x2]) (sh_Qv D (sh_ty cI cJ cZ) (va_A [(aS, .inr (2, [.ref aG, .ref aY])), (aY, .inl (cJ, 10, .inr (.inl sL))), (aG, .inr (1, [.int gw, .int gd, .int gh, .long ga, .long gl, .long gr]))] sz) [(aS, .inr (2, [.ref aG, .ref aY])), (aY, .inl (cJ, 10, .inr (.inl osL))), (aG, .inr (1, [.int gw, .int gd, .int gh, .long ga, .long gl, .long gr]))]) 0 0 (va_A [(aS, .inr (2, [.ref aG, .ref aY])), (aY, .inl (cJ, 10, .inr (.inl sL))), (aG, .inr (1, [.int gw, .int gd, .int gh, .long ga, .long gl, .long gr]))] sz) := by
  refine Met.ofW (cc := cX2_put) (maxL := 4) (ret := none) (by decide) rfl ?_
  intro p e s m args below meth c s₁ hB hml hv
  obtain ⟨hargs, hsz, hP, hK, hD0⟩ := hv
  have hx := hB.exec
  have hb := hB.bytes
  have hr := hB.returns
  have hts := atoms_spec (ws := wsX2_put) hB.pre
  have hown : s.vm.findClass RX2 = some m.cls := findClass_of_methodNamed hB.named
  have hlocks := hB.notSynchronized
  have hfix : CallFix p m c cX2_put 4 s args wsX2_put RX2 := ⟨hx, hb, hml, hown, hts⟩
  have hinX2 : ∀ w ∈ wsX20, w ∈ wsX2_put := by decide +kernel
  have lk1 := hts (.fieldLink RX2 9 "ShadeTree$Shades" "layers" "[J") (by decide +kernel)
  rw [show entryFrame m args 4 = entryFrame m ([.ref aS, .int x1, .long x2] : List Value).toArray 4 by rw [hargs], lg_entry_eq]
  have hl := lv_entry ([.ref aS, .int x1, .long x2]) (n := 4) (Nat.le_of_ble_eq_true rfl)
  generalize (lg_sl ([.ref aS, .int x1, .long x2]) ++ List.replicate (4 - (lg_sl ([.ref aS, .int x1, .long x2])).length) Slot.unset).toArray = ls at hl ⊢
  have hl : lv_has ls 4 [(0, .ref aS), (1, .int x1), (2, .long x2)] := hl
  subst hsz
  have hD := hD0.self (sz := s.heap.size)
  generalize hAe : va_A [(aS, .inr (2, [.ref aG, .ref aY])), (aY, .inl (cJ, 10, .inr (.inl sL))), (aG, .inr (1, [.int gw, .int gd, .int gh, .long ga, .long gl, .long gr]))] s.heap.size = Az at hD ⊢
  have hA : ∀ q : Nat, s.heap.size ≤ q → Az q := fun q h => by rw [← hAe]; exact Or.inr h
  have hS : va_S Az s.heap s.heap [] := va_S.rf
  generalize hQ : MQ below (sh_Qv D (sh_ty cI cJ cZ) Az [(aS, .inr (2, [.ref aG, .ref aY])), (aY, .inl (cJ, 10, .inr (.inl osL))), (aG, .inr (1, [.int gw, .int gd, .int gh, .long ga, .long gl, .long gr]))]) args s 0 0 Az = Q
  unfold fX2_put at h
  refine lv_iload_n hx hb dX2_put_0 rfl (lv_at hl 1 rfl) ?_
  refine lv_if_lt (tgt := 20) hx hb dX2_put_1 (by decide) (fun g1 => ?_) (fun g1 => ?_)
  · rw [if_pos g1] at h
    cases h
    exact sh_rwv hx hb hr hlocks hQ hK hP hD hS dX2_put_20
  · rw [if_neg g1] at h
    refine lv_iload_n hx hb dX2_put_4 rfl (lv_at hl 1 rfl) ?_
    refine lv_aload_n hx hb dX2_put_5 rfl (lv_at hl 0 rfl) ?_
    refine va_get (ci := 2) (v := .ref aY) (C := RX2) (T := TX2) (N := 2) hx hb hts hinX2 hown hK hP 0 rfl rfl 1 (by decide) lk1 (fun _ h9 => h9) rfl dX2_put_6 ?_
    refine va_alen (v := 10) hx hb hK hP 1 1 rfl rfl rfl dX2_put_9 ?_
    refine lv_icmp_ge (tgt := 20) hx hb dX2_put_10 (by decide) (fun g2 => ?_) (fun g2 => ?_)
    · rw [if_pos g2] at h
      cases h
      exact sh_rwv hx hb hr hlocks hQ hK hP hD hS dX2_put_20
    · rw [if_neg g2] at h
      refine lv_aload_n hx hb dX2_put_13 rfl (lv_at hl 0 rfl) ?_
      refine va_get (ci := 2) (v := .ref aY) (C := RX2) (T := TX2) (N := 2) hx hb hts hinX2 hown hK hP 0 rfl rfl 1 (by decide) lk1 (fun _ h9 => h9) rfl dX2_put_14 ?_
      refine lv_iload_n hx hb dX2_put_17 rfl (lv_at hl 1 rfl) ?_
      refine lv_lload_n hx hb dX2_put_18 rfl (lv_at hl 2 rfl) ?_
      obtain ⟨f3, hcf3, h⟩ := sh_b1_e h
      refine sh_last (wn := [(aS, .inr (2, [.ref aG, .ref aY])), (aY, .inl (cJ, 10, .inr (.inl f3))), (aG, .inr (1, [.int gw, .int gd, .int gh, .long ga, .long gl, .long gr]))]) hx hb hK hP hD hS 1 1 rfl rfl (sh_astL_e hcf3) rfl dX2_put_19 (fun H locs hP hD hS => ?_)
      cases h
      exact sh_rwv hx hb hr hlocks hQ hK hP hD hS dX2_put_20
theorem hdV_X2_turn : yX2_turn.cls = RX2 ∧ yX2_turn.cls ≠ "java/lang/invoke/MethodHandle" ∧ yX2_turn.cls ≠ "java/lang/invoke/VarHandle" ∧ (parseMethodDescriptor yX2_turn.desc).map (fun d => d.parameters.length) = some 0 := by decide +kernel
abbrev rmX2_turn : Room := { frames := 1, cells := 0, slots := 0, locals := 23 }
set_option maxHeartbeats 4000000 in
set_option maxRecDepth 100000 in
theorem k_X2_turn (l : Launch) (D : va_G) (cI cJ cZ : ClassId) (sz : Nat) (aG : Nat) (aS : Nat) (aY : Nat) (gw : Int32) (gd : Int32) (gh : Int32) (ga : Int64) (gl : Int64) (gr : Int64) (sL : Nat → Int64) (osL : Nat → Int64) (h : fX2_turn ga sL = some osL) : Met l yX2_turn wsX2_turn rmX2_turn (sh_Pw D (sh_ty cI cJ cZ) sz [(aS, .inr (2, [.ref aG, .ref aY])), (aY, .inl (cJ, 10, .inr (.inl sL))), (aG, .inr (1, [.int gw, .int gd, .int gh, .long ga, .long gl, .long gr]))] [.ref aS]) (sh_Qv D (sh_ty cI cJ cZ) (va_A [(aS, .inr (2, [.ref aG, .ref aY])), (aY, .inl (cJ, 10, .inr (.inl sL))), (aG, .inr (1, [.int gw, .int gd, .int gh, .long ga, .long gl, .long gr]))] sz) [(aS, .inr (2, [.ref aG, .ref aY])), (aY, .inl (cJ, 10, .inr (.inl osL))), (aG, .inr (1, [.int gw, .int gd, .int gh, .long ga, .long gl, .long gr]))]) 0 0 (va_A [(aS, .inr (2, [.ref aG, .ref aY])), (aY, .inl (cJ, 10, .inr (.inl sL))), (aG, .inr (1, [.int gw, .int gd, .int gh, .long ga, .long gl, .long gr]))] sz) := by
  refine Met.ofW (cc := cX2_turn) (maxL := 4) (ret := none) (by decide) rfl ?_
  intro p e s m args below meth c s₁ hB hml hv
  obtain ⟨hargs, hsz, hP, hK, hD0⟩ := hv
  have hx := hB.exec
  have hb := hB.bytes
  have hr := hB.returns
  have hts := atoms_spec (ws := wsX2_turn) hB.pre
  have hown : s.vm.findClass RX2 = some m.cls := findClass_of_methodNamed hB.named
  have hlocks := hB.notSynchronized
  have hfix : CallFix p m c cX2_turn 4 s args wsX2_turn RX2 := ⟨hx, hb, hml, hown, hts⟩
  have hinX2 : ∀ w ∈ wsX20, w ∈ wsX2_turn := by decide +kernel
  have lk1 := hts (.fieldLink RX2 15 "ShadeTree$Shades" "grid" "LShadeTree$Grid;") (by decide +kernel)
  have lk2 := hts (.constantLong RX2 38 (-1)) (by decide +kernel)
  rw [show entryFrame m args 4 = entryFrame m ([.ref aS] : List Value).toArray 4 by rw [hargs], lg_entry_eq]
  have hl := lv_entry ([.ref aS]) (n := 4) (Nat.le_of_ble_eq_true rfl)
  generalize (lg_sl ([.ref aS]) ++ List.replicate (4 - (lg_sl ([.ref aS])).length) Slot.unset).toArray = ls at hl ⊢
  have hl : lv_has ls 4 [(0, .ref aS)] := hl
  subst hsz
  have hD := hD0.self (sz := s.heap.size)
  generalize hAe : va_A [(aS, .inr (2, [.ref aG, .ref aY])), (aY, .inl (cJ, 10, .inr (.inl sL))), (aG, .inr (1, [.int gw, .int gd, .int gh, .long ga, .long gl, .long gr]))] s.heap.size = Az at hD ⊢
  have hA : ∀ q : Nat, s.heap.size ≤ q → Az q := fun q h => by rw [← hAe]; exact Or.inr h
  have hS : va_S Az s.heap s.heap [] := va_S.rf
  generalize hQ : MQ below (sh_Qv D (sh_ty cI cJ cZ) Az [(aS, .inr (2, [.ref aG, .ref aY])), (aY, .inl (cJ, 10, .inr (.inl osL))), (aG, .inr (1, [.int gw, .int gd, .int gh, .long ga, .long gl, .long gr]))]) args s 0 0 Az = Q
  unfold fX2_turn at h
  refine lv_iconst (v := 1) hx hb dX2_turn_0 (by decide) ?_
  refine lv_istore_n (lv' := [(1, .int 1), (0, .ref aS)]) hx hb dX2_turn_1 rfl hl (by decide) rfl (fun ls hl => ?_)
  have LP14 : ∀ (n : Nat) (x1 : Int32) (sL : Nat → Int64) (osL : (Nat → Int64)) (H : Heap) (locs : List Loc) (ls : Array Slot), fX2_turn_L2 n x1 ga sL = some osL → lv_has ls 4 [(0, .ref aS), (1, .int x1)] → va_P D vwCl [(aS, .inr (2, [.ref aG, .ref aY])), (aY, .inl (cJ, 10, .inr (.inl sL))), (aG, .inr (1, [.int gw, .int gd, .int gh, .long ga, .long gl, .long gr]))] H → va_D Az [(aS, .inr (2, [.ref aG, .ref aY])), (aY, .inl (cJ, 10, .inr (.inl sL))), (aG, .inr (1, [.int gw, .int gd, .int gh, .long ga, .long gl, .long gr]))] → va_S Az s.heap H locs → (∀ (H : Heap) (locs : List Loc) (ls : Array Slot), lv_has ls 4 [] → va_P D vwCl [(aS, .inr (2, [.ref aG, .ref aY])), (aY, .inl (cJ, 10, .inr (.inl osL))), (aG, .inr (1, [.int gw, .int gd, .int gh, .long ga, .long gl, .long gr]))] H → va_D Az [(aS, .inr (2, [.ref aG, .ref aY])), (aY, .inl (cJ, 10, .inr (.inl osL))), (aG, .inr (1, [.int gw, .int gd, .int gh, .long ga, .long gl, .long gr]))] → va_S Az s.heap H locs → W p l e (headSpec wsX2_turn rmX2_turn).room s m args below meth c H locs 0 0 Q (F0 m 65 ls [])) → W p l e (headSpec wsX2_turn rmX2_turn).room s m args below meth c H locs 0 0 Q (F0 m 2 ls []) := by
    intro n
    induction n with
    | zero =>
      intro x1 sL osL H locs ls h hl hP hD hS hk
      exact nomatch ((fX2_turn_L2_z x1 ga sL).symm.trans h)
    | succ n ih =>
      intro x1 sL osL H locs ls h hl hP hD hS hk
      rw [fX2_turn_L2_s] at h
      refine lv_iload_n hx hb dX2_turn_2 rfl (lv_at hl 1 rfl) ?_
      refine lv_iconst (v := 5) hx hb dX2_turn_3 (by decide) ?_
      refine lv_icmp_gt (tgt := 65) hx hb dX2_turn_4 (by decide) (fun g1 => ?_) (fun g1 => ?_)
      · rw [if_pos g1] at h
        cases h
        exact hk _ _ ls (lv_sub hl [] rfl) hP hD hS
      · rw [if_neg g1] at h
        refine lv_aload_n hx hb dX2_turn_7 rfl (lv_at hl 0 rfl) ?_
        refine va_get (ci := 2) (v := .ref aG) (C := RX2) (T := TX2) (N := 2) hx hb hts hinX2 hown hK hP 0 rfl rfl 0 (by decide) lk1 (fun _ h9 => h9) rfl dX2_turn_8 ?_
        obtain ⟨v2, hc3, h⟩ := sh_b1_e h
        refine sh_cVl (As := []) (rest := []) hfix (k_X1_all l D cI cJ cZ aG gw gd gh ga gl gr v2 hc3) (cwV 0 hts gX2_turn_X1_all rfl rfl rfl hdV_X1_all ⟨Nat.le_of_ble_eq_true rfl, Nat.le_of_ble_eq_true rfl⟩) hP hK [2] rfl 2 rfl rfl rfl hl.1 rfl (Nat.le_of_ble_eq_true rfl) dX2_turn_11 ⟨Nat.zero_le _, Nat.zero_le _⟩ ?_
        refine lv_aload_n hx hb dX2_turn_14 rfl (lv_at hl 0 rfl) ?_
        refine lv_iload_n hx hb dX2_turn_15 rfl (lv_at hl 1 rfl) ?_
        obtain ⟨v4, hc5, h⟩ := sh_b1_e h
        refine sh_cVl (As := [.int x1]) (rest := [.long v2]) hfix (k_X2_atLeast l D cI cJ cZ aG aS aY gw gd gh ga gl gr sL x1 v4 hc5) (cwV 1 hts gX2_turn_X2_atLeast rfl rfl rfl hdV_X2_atLeast ⟨Nat.le_of_ble_eq_true rfl, Nat.le_of_ble_eq_true rfl⟩) hP hK [0, 1, 2] rfl 0 rfl rfl rfl hl.1 rfl (Nat.le_of_ble_eq_true rfl) dX2_turn_16 ⟨Nat.zero_le _, Nat.zero_le _⟩ ?_
        refine lv_ldc2 hx hb hown lk2 dX2_turn_19 ?_
        refine lv_lxor hx hb dX2_turn_22 ?_
        refine lv_land hx hb dX2_turn_23 ?_
        refine lv_lstore_n (lv' := [(2, .long (v2 &&& (v4 ^^^ (-1)))), (0, .ref aS), (1, .int x1)]) hx hb dX2_turn_24 rfl hl (by decide) rfl (fun ls hl => ?_)
        refine lv_aload_n hx hb dX2_turn_25 rfl (lv_at hl 1 rfl) ?_
        refine lv_iload_n hx hb dX2_turn_26 rfl (lv_at hl 2 rfl) ?_
        refine lv_aload_n hx hb dX2_turn_27 rfl (lv_at hl 1 rfl) ?_
        refine va_get (ci := 2) (v := .ref aG) (C := RX2) (T := TX2) (N := 2) hx hb hts hinX2 hown hK hP 0 rfl rfl 0 (by decide) lk1 (fun _ h9 => h9) rfl dX2_turn_28 ?_
        obtain ⟨v6, hc7, h⟩ := sh_b1_e h
        refine sh_cVl (As := []) (rest := [.int x1, .ref aS]) hfix (k_X1_all l D cI cJ cZ aG gw gd gh ga gl gr v6 hc7) (cwV 0 hts gX2_turn_X1_all rfl rfl rfl hdV_X1_all ⟨Nat.le_of_ble_eq_true rfl, Nat.le_of_ble_eq_true rfl⟩) hP hK [2] rfl 2 rfl rfl rfl hl.1 rfl (Nat.le_of_ble_eq_true rfl) dX2_turn_31 ⟨Nat.zero_le _, Nat.zero_le _⟩ ?_
        refine lv_aload_n hx hb dX2_turn_34 rfl (lv_at hl 1 rfl) ?_
        refine lv_bipush (v := 10) hx hb dX2_turn_35 (by decide) ?_
        refine lv_iload_n hx hb dX2_turn_37 rfl (lv_at hl 2 rfl) ?_
        refine lv_isub hx hb dX2_turn_38 ?_
        obtain ⟨v8, hc9, h⟩ := sh_b1_e h
        refine sh_cVl (As := [.int (10 - x1)]) (rest := [.long v6, .int x1, .ref aS]) hfix (k_X2_atLeast l D cI cJ cZ aG aS aY gw gd gh ga gl gr sL (10 - x1) v8 hc9) (cwV 1 hts gX2_turn_X2_atLeast rfl rfl rfl hdV_X2_atLeast ⟨Nat.le_of_ble_eq_true rfl, Nat.le_of_ble_eq_true rfl⟩) hP hK [0, 1, 2] rfl 0 rfl rfl rfl hl.1 rfl (Nat.le_of_ble_eq_true rfl) dX2_turn_39 ⟨Nat.zero_le _, Nat.zero_le _⟩ ?_
        refine lv_ldc2 hx hb hown lk2 dX2_turn_42 ?_
        refine lv_lxor hx hb dX2_turn_45 ?_
        refine lv_land hx hb dX2_turn_46 ?_
        obtain ⟨u10, hc11, h⟩ := sh_b1_e h
        refine sh_wVv (wn := [(aS, .inr (2, [.ref aG, .ref aY])), (aY, .inl (cJ, 10, .inr (.inl u10))), (aG, .inr (1, [.int gw, .int gd, .int gh, .long ga, .long gl, .long gr]))]) (As := [.int x1, .long (v6 &&& (v8 ^^^ (-1)))]) (rest := []) hfix (k_X2_put l D cI cJ cZ _ aG aS aY gw gd gh ga gl gr sL x1 (v6 &&& (v8 ^^^ (-1))) u10 hc11) (cwV 2 hts gX2_turn_X2_put rfl rfl rfl hdV_X2_put ⟨Nat.le_of_ble_eq_true rfl, Nat.le_of_ble_eq_true rfl⟩) hP hK hD hS hA [0, 1, 2] [] [0, 1, 2] rfl rfl rfl rfl rfl rfl rfl 0 rfl rfl rfl hl.1 rfl (Nat.le_of_ble_eq_true rfl) dX2_turn_47 ⟨Nat.zero_le _, Nat.zero_le _⟩ (fun H locs hP hD hS => ?_)
        refine lv_aload_n hx hb dX2_turn_50 rfl (lv_at hl 1 rfl) ?_
        refine lv_bipush (v := 10) hx hb dX2_turn_51 (by decide) ?_
        refine lv_iload_n hx hb dX2_turn_53 rfl (lv_at hl 2 rfl) ?_
        refine lv_isub hx hb dX2_turn_54 ?_
        refine lv_lload_n hx hb dX2_turn_55 rfl (lv_at hl 0 rfl) ?_
        obtain ⟨u12, hc13, h⟩ := sh_b1_e h
        refine sh_wVv (wn := [(aS, .inr (2, [.ref aG, .ref aY])), (aY, .inl (cJ, 10, .inr (.inl u12))), (aG, .inr (1, [.int gw, .int gd, .int gh, .long ga, .long gl, .long gr]))]) (As := [.int (10 - x1), .long (v2 &&& (v4 ^^^ (-1)))]) (rest := []) hfix (k_X2_put l D cI cJ cZ _ aG aS aY gw gd gh ga gl gr u10 (10 - x1) (v2 &&& (v4 ^^^ (-1))) u12 hc13) (cwV 2 hts gX2_turn_X2_put rfl rfl rfl hdV_X2_put ⟨Nat.le_of_ble_eq_true rfl, Nat.le_of_ble_eq_true rfl⟩) hP hK hD hS hA [0, 1, 2] [] [0, 1, 2] rfl rfl rfl rfl rfl rfl rfl 0 rfl rfl rfl hl.1 rfl (Nat.le_of_ble_eq_true rfl) dX2_turn_56 ⟨Nat.zero_le _, Nat.zero_le _⟩ (fun H locs hP hD hS => ?_)
        refine lv_iinc (v := (x1 + 1)) (lv' := [(1, .int (x1 + 1)), (2, .long (v2 &&& (v4 ^^^ (-1)))), (0, .ref aS)]) hx hb dX2_turn_59 hl (k := 2) rfl rfl (by decide) rfl (fun ls hl => ?_)
        refine lv_goto (tgt := 2) hx hb dX2_turn_62 (by decide) ?_
        exact ih (x1 + 1) u12 osL _ _ ls h (lv_sub hl [2, 0] rfl) hP hD hS hk
  obtain ⟨w15, hc16, h⟩ := sh_b1_e h
  refine LP14 sh_fu 1 sL w15 _ _ ls hc16 (lv_sub hl [1, 0] rfl) hP hD hS (fun H locs ls hl hP hD hS => ?_)
  cases h
  exact sh_rwv hx hb hr hlocks hQ hK hP hD hS dX2_turn_65
theorem hdV_X2_isBig : yX2_isBig.cls = RX2 ∧ yX2_isBig.cls ≠ "java/lang/invoke/MethodHandle" ∧ yX2_isBig.cls ≠ "java/lang/invoke/VarHandle" ∧ (parseMethodDescriptor yX2_isBig.desc).map (fun d => d.parameters.length) = some 3 := by decide +kernel
abbrev rmX2_isBig : Room := { frames := 2, cells := 0, slots := 0, locals := 45 }
set_option maxHeartbeats 4000000 in
set_option maxRecDepth 100000 in
theorem k_X2_isBig (l : Launch) (D : va_G) (cI cJ cZ : ClassId) (aG : Nat) (aS : Nat) (aY : Nat) (gw : Int32) (gd : Int32) (gh : Int32) (ga : Int64) (gl : Int64) (gr : Int64) (sL : Nat → Int64) (x1 : Int64) (x3 : Int32) (x4 : Int32) (o : Int32) (h : fX2_isBig gd gh gl x1 x3 x4 = some o) : Met l yX2_isBig wsX2_isBig rmX2_isBig (sh_Pr D (sh_ty cI cJ cZ) [(aS, .inr (2, [.ref aG, .ref aY])), (aY, .inl (cJ, 10, .inr (.inl sL))), (aG, .inr (1, [.int gw, .int gd, .int gh, .long ga, .long gl, .long gr]))] [.ref aS, .long x1, .int x3, .int x4]) (vp_Si (fun z => z = o)) 0 0 (fun _ => False) := by
  refine Met.ofW (cc := cX2_isBig) (maxL := 5) (ret := (some .boolean)) (by decide) rfl ?_
  intro p e s m args below meth c s₁ hB hml hv
  obtain ⟨hargs, hP, hK⟩ := hv
  have hx := hB.exec
  have hb := hB.bytes
  have hr := hB.returns
  have hts := atoms_spec (ws := wsX2_isBig) hB.pre
  have hown : s.vm.findClass RX2 = some m.cls := findClass_of_methodNamed hB.named
  have hlocks := hB.notSynchronized
  have hfix : CallFix p m c cX2_isBig 5 s args wsX2_isBig RX2 := ⟨hx, hb, hml, hown, hts⟩
  have hinX2 : ∀ w ∈ wsX20, w ∈ wsX2_isBig := by decide +kernel
  have lk1 := hts (.fieldLink RX2 15 "ShadeTree$Shades" "grid" "LShadeTree$Grid;") (by decide +kernel)
  rw [show entryFrame m args 5 = entryFrame m ([.ref aS, .long x1, .int x3, .int x4] : List Value).toArray 5 by rw [hargs], lg_entry_eq]
  have hl := lv_entry ([.ref aS, .long x1, .int x3, .int x4]) (n := 5) (Nat.le_of_ble_eq_true rfl)
  generalize (lg_sl ([.ref aS, .long x1, .int x3, .int x4]) ++ List.replicate (5 - (lg_sl ([.ref aS, .long x1, .int x3, .int x4])).length) Slot.unset).toArray = ls at hl ⊢
  have hl : lv_has ls 5 [(0, .ref aS), (1, .long x1), (3, .int x3), (4, .int x4)] := hl
  generalize hQ : MQ below (vp_Si (fun z => z = o)) args s 0 0 (fun _ => False) = Q
  unfold fX2_isBig at h
  refine lv_iload_n hx hb dX2_isBig_0 rfl (lv_at hl 2 rfl) ?_
  refine lv_if_ne (tgt := 19) hx hb dX2_isBig_1 (by decide) (fun g1 => ?_) (fun g1 => ?_)
  · rw [if_neg g1] at h
    refine lv_aload_n hx hb dX2_isBig_19 rfl (lv_at hl 0 rfl) ?_
    refine va_get (ci := 2) (v := .ref aG) (C := RX2) (T := TX2) (N := 2) hx hb hts hinX2 hown hK hP 0 rfl rfl 0 (by decide) lk1 (fun _ h9 => h9) rfl dX2_isBig_20 ?_
    refine lv_lload_n hx hb dX2_isBig_23 rfl (lv_at hl 1 rfl) ?_
    obtain ⟨v2, hc3, h⟩ := sh_b1_e h
    refine sh_cVi (As := [.long x1]) (rest := []) hfix (k_X1_columnsOf l D cI cJ cZ aG gw gd gh ga gl gr x1 v2 hc3) (cwV 1 hts gX2_isBig_X1_columnsOf rfl rfl rfl hdV_X1_columnsOf ⟨Nat.le_of_ble_eq_true rfl, Nat.le_of_ble_eq_true rfl⟩) hP hK [2] rfl 2 rfl rfl rfl hl.1 rfl (Nat.le_of_ble_eq_true rfl) dX2_isBig_24 ⟨Nat.zero_le _, Nat.zero_le _⟩ ?_
    refine lv_iload hx hb dX2_isBig_27 (lv_at hl 3 rfl) ?_
    refine lv_icmp_ge (tgt := 45) hx hb dX2_isBig_29 (by decide) (fun g4 => ?_) (fun g4 => ?_)
    · rw [if_pos g4] at h
      refine lv_iconst (v := 1) hx hb dX2_isBig_45 (by decide) ?_
      refine lv_goto (tgt := 50) hx hb dX2_isBig_46 (by decide) ?_
      exact sh_roz hx hb hr hlocks hQ ⟨rfl, (Option.some.inj h)⟩ dX2_isBig_50
    · rw [if_neg g4] at h
      refine lv_aload_n hx hb dX2_isBig_32 rfl (lv_at hl 0 rfl) ?_
      refine va_get (ci := 2) (v := .ref aG) (C := RX2) (T := TX2) (N := 2) hx hb hts hinX2 hown hK hP 0 rfl rfl 0 (by decide) lk1 (fun _ h9 => h9) rfl dX2_isBig_33 ?_
      refine lv_lload_n hx hb dX2_isBig_36 rfl (lv_at hl 1 rfl) ?_
      obtain ⟨v5, hc6, h⟩ := sh_b1_e h
      refine sh_cVi (As := [.long x1]) (rest := []) hfix (k_X1_rowsOf l D cI cJ cZ aG gw gd gh ga gl gr x1 v5 hc6) (cwV 1 hts gX2_isBig_X1_rowsOf rfl rfl rfl hdV_X1_rowsOf ⟨Nat.le_of_ble_eq_true rfl, Nat.le_of_ble_eq_true rfl⟩) hP hK [2] rfl 2 rfl rfl rfl hl.1 rfl (Nat.le_of_ble_eq_true rfl) dX2_isBig_37 ⟨Nat.zero_le _, Nat.zero_le _⟩ ?_
      refine lv_iload hx hb dX2_isBig_40 (lv_at hl 3 rfl) ?_
      refine lv_icmp_lt (tgt := 49) hx hb dX2_isBig_42 (by decide) (fun g7 => ?_) (fun g7 => ?_)
      · rw [if_pos g7] at h
        refine lv_iconst (v := 0) hx hb dX2_isBig_49 (by decide) ?_
        exact sh_roz hx hb hr hlocks hQ ⟨rfl, (Option.some.inj h)⟩ dX2_isBig_50
      · rw [if_neg g7] at h
        refine lv_iconst (v := 1) hx hb dX2_isBig_45 (by decide) ?_
        refine lv_goto (tgt := 50) hx hb dX2_isBig_46 (by decide) ?_
        exact sh_roz hx hb hr hlocks hQ ⟨rfl, (Option.some.inj h)⟩ dX2_isBig_50
  · rw [if_pos g1] at h
    refine lv_lload_n hx hb dX2_isBig_4 rfl (lv_at hl 1 rfl) ?_
    obtain ⟨v8, hc9, h⟩ := sh_b1_e h
    refine sh_cSi (As := [.long x1]) (rest := []) hfix (k_J13_bitCount_95d88 l D cI cJ cZ x1 v8 hc9) (va_cwS 1 hts gX2_isBig_J13_bitCount_95d88 rfl rfl rfl hdS_J13_bitCount_95d88 ⟨Nat.le_of_ble_eq_true rfl, Nat.le_of_ble_eq_true rfl⟩) hP hK [] rfl rfl hl.1 rfl (Nat.le_of_ble_eq_true rfl) dX2_isBig_5 ⟨Nat.zero_le _, Nat.zero_le _⟩ ?_
    refine lv_iload hx hb dX2_isBig_8 (lv_at hl 3 rfl) ?_
    refine lv_icmp_lt (tgt := 17) hx hb dX2_isBig_10 (by decide) (fun g10 => ?_) (fun g10 => ?_)
    · rw [if_pos g10] at h
      refine lv_iconst (v := 0) hx hb dX2_isBig_17 (by decide) ?_
      exact sh_roz hx hb hr hlocks hQ ⟨rfl, (Option.some.inj h)⟩ dX2_isBig_18
    · rw [if_neg g10] at h
      refine lv_iconst (v := 1) hx hb dX2_isBig_13 (by decide) ?_
      refine lv_goto (tgt := 18) hx hb dX2_isBig_14 (by decide) ?_
      exact sh_roz hx hb hr hlocks hQ ⟨rfl, (Option.some.inj h)⟩ dX2_isBig_18
