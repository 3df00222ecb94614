theorem hdV_X7_picture : yX7_picture.cls = RX7 ∧ yX7_picture.cls ≠ "java/lang/invoke/MethodHandle" ∧ yX7_picture.cls ≠ "java/lang/invoke/VarHandle" ∧ (parseMethodDescriptor yX7_picture.desc).map (fun d => d.parameters.length) = some 0 := by decide +kernel
abbrev rmX7_picture : Room := { frames := 5, cells := 0, slots := 0, locals := 125 }
set_option maxHeartbeats 4000000 in
set_option maxRecDepth 100000 in
theorem k_X7_picture (l : Launch) (D : va_G) (cI cJ cZ : ClassId) (sz : Nat) (q : Nat → Nat) (I : Nat → Int32) (J : Nat → Int64) (A : Nat → Nat → Int32) (B : Nat → Nat → Int64) (o : Int32) (oI : Nat → Int32) (oJ : Nat → Int64) (oA : Nat → Nat → Int32) (oB : Nat → Nat → Int64) (h : fX7_picture I J A B = some (o, oI, oJ, oA, oB)) : Met l yX7_picture wsX7_picture rmX7_picture (sh_Pn (.methodLinkNest RX5 31 yX7_isShade RX7) (sh_Pw D (sh_ty cI cJ cZ) sz (sh_w7 q cI cJ cZ I J A B) [.ref (q 0)])) (sh_Qi D (sh_ty cI cJ cZ) (va_A (sh_w7 q cI cJ cZ I J A B) sz) (sh_w7 q cI cJ cZ oI oJ oA oB) o) 0 0 (va_A (sh_w7 q cI cJ cZ I J A B) sz) := by
  refine Met.ofW (cc := cX7_picture) (maxL := 2) (ret := (some .int)) (by decide) rfl ?_
  intro p e s m args below meth c s₁ hB hml hv
  obtain ⟨hv, hnw⟩ := hv
  obtain ⟨hargs, hsz, hP, hK, hD0⟩ := hv
  have hx := hB.exec
  have hb := hB.bytes
  have hr := hB.returns
  have hts := atoms_spec (ws := wsX7_picture) hB.pre
  have hown : s.vm.findClass RX7 = some m.cls := findClass_of_methodNamed hB.named
  have hlocks := hB.notSynchronized
  have hfix : CallFix p m c cX7_picture 2 s args wsX7_picture RX7 := ⟨hx, hb, hml, hown, hts⟩
  have hinX7 : ∀ w ∈ wsX70, w ∈ wsX7_picture := by decide +kernel
  have lk1 := hts (.fieldLink RX7 10 "ShadeTree" "text" "LShadeTree$Text;") (by decide +kernel)
  have lk2 := hts (.fieldLink RX7 19 "ShadeTree" "grid" "LShadeTree$Grid;") (by decide +kernel)
  have lk3 := hts (.fieldLink RX7 28 "ShadeTree" "now" "LShadeTree$Shades;") (by decide +kernel)
  have lk4 := hts (.fieldLink RX7 50 "ShadeTree" "doings" "LShadeTree$Doings;") (by decide +kernel)
  have lk5 := hts (.fieldLink RX7 57 "ShadeTree" "slots" "LShadeTree$Slots;") (by decide +kernel)
  have lk6 := hts (.fieldLink RX7 37 "ShadeTree" "tree" "LShadeTree$Tree;") (by decide +kernel)
  rw [show entryFrame m args 2 = entryFrame m ([.ref (q 0)] : List Value).toArray 2 by rw [hargs], lg_entry_eq]
  have hl := lv_entry ([.ref (q 0)]) (n := 2) (Nat.le_of_ble_eq_true rfl)
  generalize (lg_sl ([.ref (q 0)]) ++ List.replicate (2 - (lg_sl ([.ref (q 0)])).length) Slot.unset).toArray = ls at hl ⊢
  have hl : lv_has ls 2 [(0, .ref (q 0))] := hl
  subst hsz
  have hD := hD0.self (sz := s.heap.size)
  generalize hAe : va_A (sh_w7 q cI cJ cZ I J A B) s.heap.size = Az at hD ⊢
  have hA : ∀ q : Nat, s.heap.size ≤ q → Az q := fun q h => by rw [← hAe]; exact Or.inr h
  have hS : va_S Az s.heap s.heap [] := va_S.rf
  generalize hQ : MQ below (sh_Qi D (sh_ty cI cJ cZ) Az (sh_w7 q cI cJ cZ oI oJ oA oB) o) args s 0 0 Az = Q
  unfold fX7_picture at h
  refine lv_aload_n hx hb dX7_picture_0 rfl (lv_at hl 0 rfl) ?_
  refine va_get (ci := 7) (v := .ref (q 1)) (C := RX7) (T := TX7) (N := 10) hx hb hts hinX7 hown hK hP 0 rfl rfl 0 (by decide) lk1 (fun _ h9 => h9) rfl dX7_picture_1 ?_
  obtain ⟨v1, hc2, h⟩ := sh_b1_e h
  refine sh_cVin (As := []) (rest := []) hfix (k_X5_firstFault l D cI cJ cZ (q 1) (q 2) (A 0) (I 0) v1 hc2) (cwV 0 hts gX7_picture_X5_firstFault rfl rfl rfl hdV_X5_firstFault ⟨Nat.le_of_ble_eq_true rfl, Nat.le_of_ble_eq_true rfl⟩) hnw hP hK [1, 2] rfl 1 rfl rfl rfl hl.1 rfl (Nat.le_of_ble_eq_true rfl) dX7_picture_4 ⟨Nat.zero_le _, Nat.zero_le _⟩ ?_
  refine lv_bipush (v := -9) hx hb dX7_picture_7 (by decide) ?_
  refine lv_icmp_eq (tgt := 15) hx hb dX7_picture_9 (by decide) (fun g3 => ?_) (fun g3 => ?_)
  · rw [if_pos g3] at h
    refine lv_aload_n hx hb dX7_picture_15 rfl (lv_at hl 0 rfl) ?_
    refine va_get (ci := 7) (v := .ref (q 3)) (C := RX7) (T := TX7) (N := 10) hx hb hts hinX7 hown hK hP 0 rfl rfl 1 (by decide) lk2 (fun _ h9 => h9) rfl dX7_picture_16 ?_
    refine lv_aload_n hx hb dX7_picture_19 rfl (lv_at hl 0 rfl) ?_
    refine va_get (ci := 7) (v := .ref (q 1)) (C := RX7) (T := TX7) (N := 10) hx hb hts hinX7 hown hK hP 0 rfl rfl 0 (by decide) lk1 (fun _ h9 => h9) rfl dX7_picture_20 ?_
    refine lv_iconst (v := 1) hx hb dX7_picture_23 (by decide) ?_
    obtain ⟨v4, hc5, h⟩ := sh_b1_e h
    refine sh_cVi (As := [.int 1]) (rest := [.ref (q 3)]) hfix (k_X5_figure l D cI cJ cZ (q 1) (q 2) (A 0) (I 0) 1 v4 hc5) (cwV 1 hts gX7_picture_X5_figure rfl rfl rfl hdV_X5_figure ⟨Nat.le_of_ble_eq_true rfl, Nat.le_of_ble_eq_true rfl⟩) hP hK [1, 2] rfl 1 rfl rfl rfl hl.1 rfl (Nat.le_of_ble_eq_true rfl) dX7_picture_24 ⟨Nat.zero_le _, Nat.zero_le _⟩ ?_
    refine lv_aload_n hx hb dX7_picture_27 rfl (lv_at hl 0 rfl) ?_
    refine va_get (ci := 7) (v := .ref (q 1)) (C := RX7) (T := TX7) (N := 10) hx hb hts hinX7 hown hK hP 0 rfl rfl 0 (by decide) lk1 (fun _ h9 => h9) rfl dX7_picture_28 ?_
    refine lv_iconst (v := 2) hx hb dX7_picture_31 (by decide) ?_
    obtain ⟨v6, hc7, h⟩ := sh_b1_e h
    refine sh_cVi (As := [.int 2]) (rest := [.int v4, .ref (q 3)]) hfix (k_X5_figure l D cI cJ cZ (q 1) (q 2) (A 0) (I 0) 2 v6 hc7) (cwV 1 hts gX7_picture_X5_figure rfl rfl rfl hdV_X5_figure ⟨Nat.le_of_ble_eq_true rfl, Nat.le_of_ble_eq_true rfl⟩) hP hK [1, 2] rfl 1 rfl rfl rfl hl.1 rfl (Nat.le_of_ble_eq_true rfl) dX7_picture_32 ⟨Nat.zero_le _, Nat.zero_le _⟩ ?_
    refine lv_aload_n hx hb dX7_picture_35 rfl (lv_at hl 0 rfl) ?_
    refine va_get (ci := 7) (v := .ref (q 1)) (C := RX7) (T := TX7) (N := 10) hx hb hts hinX7 hown hK hP 0 rfl rfl 0 (by decide) lk1 (fun _ h9 => h9) rfl dX7_picture_36 ?_
    refine lv_iconst (v := 3) hx hb dX7_picture_39 (by decide) ?_
    obtain ⟨v8, hc9, h⟩ := sh_b1_e h
    refine sh_cVi (As := [.int 3]) (rest := [.int v6, .int v4, .ref (q 3)]) hfix (k_X5_figure l D cI cJ cZ (q 1) (q 2) (A 0) (I 0) 3 v8 hc9) (cwV 1 hts gX7_picture_X5_figure rfl rfl rfl hdV_X5_figure ⟨Nat.le_of_ble_eq_true rfl, Nat.le_of_ble_eq_true rfl⟩) hP hK [1, 2] rfl 1 rfl rfl rfl hl.1 rfl (Nat.le_of_ble_eq_true rfl) dX7_picture_40 ⟨Nat.zero_le _, Nat.zero_le _⟩ ?_
    obtain ⟨u10, u11, u12, u13, u14, u15, hc16, h⟩ := sh_b6_e h
    refine sh_wVv (wn := (sh_w7 q cI cJ cZ (upd (upd (upd I 1 u10) 2 u11) 3 u12) (vp_updL (vp_updL (vp_updL J 0 u13) 1 u14) 2 u15) A B)) (As := [.int v4, .int v6, .int v8]) (rest := []) hfix (k_X1_lay l D cI cJ cZ _ (q 3) (I 1) (I 2) (I 3) (J 0) (J 1) (J 2) v4 v6 v8 u10 u11 u12 u13 u14 u15 hc16) (cwV 3 hts gX7_picture_X1_lay rfl rfl rfl hdV_X1_lay ⟨Nat.le_of_ble_eq_true rfl, Nat.le_of_ble_eq_true rfl⟩) hP hK hD hS hA [3] [0, 1, 2, 4, 5, 6, 7, 8, 9, 10, 11, 12, 13, 14, 15, 16, 17, 18, 19, 20, 21, 22] [0, 1, 2, 22, 3, 4, 5, 6, 7, 8, 9, 10, 11, 12, 13, 14, 15, 16, 17, 18, 19, 20, 21] rfl rfl rfl rfl rfl rfl rfl 3 rfl rfl rfl hl.1 rfl (Nat.le_of_ble_eq_true rfl) dX7_picture_43 ⟨Nat.zero_le _, Nat.zero_le _⟩ (fun H locs hP hD hS => ?_)
    refine lv_aload_n hx hb dX7_picture_46 rfl (lv_at hl 0 rfl) ?_
    refine va_get (ci := 7) (v := .ref (q 4)) (C := RX7) (T := TX7) (N := 10) hx hb hts hinX7 hown hK hP 0 rfl rfl 2 (by decide) lk3 (fun _ h9 => h9) rfl dX7_picture_47 ?_
    obtain ⟨u17, hc18, h⟩ := sh_b1_e h
    refine sh_wVv (wn := (sh_w7 q cI cJ cZ (upd (upd (upd I 1 u10) 2 u11) 3 u12) (vp_updL (vp_updL (vp_updL J 0 u13) 1 u14) 2 u15) A (va_up B 0 u17))) (As := []) (rest := []) hfix (k_X2_darken l D cI cJ cZ _ (q 3) (q 4) (q 5) u10 u11 u12 u13 u14 u15 (B 0) u17 hc18) (cwV 0 hts gX7_picture_X2_darken rfl rfl rfl hdV_X2_darken ⟨Nat.le_of_ble_eq_true rfl, Nat.le_of_ble_eq_true rfl⟩) hP hK hD hS hA [4, 5, 3] [0, 1, 2, 6, 7, 8, 9, 10, 11, 12, 13, 14, 15, 16, 17, 18, 19, 20, 21, 22] [0, 1, 2, 22, 20, 21, 3, 4, 5, 6, 7, 8, 9, 10, 11, 12, 13, 14, 15, 16, 17, 18, 19] rfl rfl rfl rfl rfl rfl rfl 4 rfl rfl rfl hl.1 rfl (Nat.le_of_ble_eq_true rfl) dX7_picture_50 ⟨Nat.zero_le _, Nat.zero_le _⟩ (fun H locs hP hD hS => ?_)
    refine lv_iconst (v := 0) hx hb dX7_picture_53 (by decide) ?_
    refine lv_istore_n (lv' := [(1, .int 0), (0, .ref (q 0))]) hx hb dX7_picture_54 rfl hl (by decide) rfl (fun ls hl => ?_)
    have LP26 : ∀ (n : Nat) (x1 : Int32) (B : Nat → Nat → Int64) (oB : (Nat → Nat → Int64)) (H : Heap) (locs : List Loc) (ls : Array Slot), fX7_picture_L55 n x1 (upd (upd (upd I 1 u10) 2 u11) 3 u12) A B = some oB → lv_has ls 2 [(0, .ref (q 0)), (1, .int x1)] → va_P D vwCl (sh_w7 q cI cJ cZ (upd (upd (upd I 1 u10) 2 u11) 3 u12) (vp_updL (vp_updL (vp_updL J 0 u13) 1 u14) 2 u15) A B) H → va_D Az (sh_w7 q cI cJ cZ (upd (upd (upd I 1 u10) 2 u11) 3 u12) (vp_updL (vp_updL (vp_updL J 0 u13) 1 u14) 2 u15) A B) → va_S Az s.heap H locs → (∀ (H : Heap) (locs : List Loc) (ls : Array Slot), lv_has ls 2 [(0, .ref (q 0))] → va_P D vwCl (sh_w7 q cI cJ cZ (upd (upd (upd I 1 u10) 2 u11) 3 u12) (vp_updL (vp_updL (vp_updL J 0 u13) 1 u14) 2 u15) A oB) H → va_D Az (sh_w7 q cI cJ cZ (upd (upd (upd I 1 u10) 2 u11) 3 u12) (vp_updL (vp_updL (vp_updL J 0 u13) 1 u14) 2 u15) A oB) → va_S Az s.heap H locs → W p l e (headSpec wsX7_picture rmX7_picture).room s m args below meth c H locs 0 0 Q (F0 m 90 ls [])) → W p l e (headSpec wsX7_picture rmX7_picture).room s m args below meth c H locs 0 0 Q (F0 m 55 ls []) := by
      intro n
      induction n with
      | zero =>
        intro x1 B oB H locs ls h hl hP hD hS hk
        exact nomatch ((fX7_picture_L55_z x1 (upd (upd (upd I 1 u10) 2 u11) 3 u12) A B).symm.trans h)
      | succ n ih =>
        intro x1 B oB H locs ls h hl hP hD hS hk
        rw [fX7_picture_L55_s] at h
        refine lv_iload_n hx hb dX7_picture_55 rfl (lv_at hl 1 rfl) ?_
        refine lv_aload_n hx hb dX7_picture_56 rfl (lv_at hl 0 rfl) ?_
        refine va_get (ci := 7) (v := .ref (q 3)) (C := RX7) (T := TX7) (N := 10) hx hb hts hinX7 hown hK hP 0 rfl rfl 1 (by decide) lk2 (fun _ h9 => h9) rfl dX7_picture_57 ?_
        obtain ⟨v19, hc20, h⟩ := sh_b1_e h
        refine sh_cVi (As := []) (rest := [.int x1]) hfix (k_X1_size l D cI cJ cZ (q 3) ((upd (upd (upd I 1 u10) 2 u11) 3 u12) 1) ((upd (upd (upd I 1 u10) 2 u11) 3 u12) 2) ((upd (upd (upd I 1 u10) 2 u11) 3 u12) 3) u13 u14 u15 v19 hc20) (cwV 0 hts gX7_picture_X1_size rfl rfl rfl hdV_X1_size ⟨Nat.le_of_ble_eq_true rfl, Nat.le_of_ble_eq_true rfl⟩) hP hK [3] rfl 3 rfl rfl rfl hl.1 rfl (Nat.le_of_ble_eq_true rfl) dX7_picture_60 ⟨Nat.zero_le _, Nat.zero_le _⟩ ?_
        refine lv_icmp_ge (tgt := 90) hx hb dX7_picture_63 (by decide) (fun g21 => ?_) (fun g21 => ?_)
        · rw [if_pos g21] at h
          cases h
          exact hk _ _ ls (lv_sub hl [0] rfl) hP hD hS
        · rw [if_neg g21] at h
          refine lv_aload_n hx hb dX7_picture_66 rfl (lv_at hl 0 rfl) ?_
          refine va_get (ci := 7) (v := .ref (q 4)) (C := RX7) (T := TX7) (N := 10) hx hb hts hinX7 hown hK hP 0 rfl rfl 2 (by decide) lk3 (fun _ h9 => h9) rfl dX7_picture_67 ?_
          refine lv_iload_n hx hb dX7_picture_70 rfl (lv_at hl 1 rfl) ?_
          refine lv_aload_n hx hb dX7_picture_71 rfl (lv_at hl 0 rfl) ?_
          refine va_get (ci := 7) (v := .ref (q 1)) (C := RX7) (T := TX7) (N := 10) hx hb hts hinX7 hown hK hP 0 rfl rfl 0 (by decide) lk1 (fun _ h9 => h9) rfl dX7_picture_72 ?_
          refine lv_iconst (v := 4) hx hb dX7_picture_75 (by decide) ?_
          refine lv_iload_n hx hb dX7_picture_76 rfl (lv_at hl 1 rfl) ?_
          refine lv_iadd hx hb dX7_picture_77 ?_
          obtain ⟨v22, hc23, h⟩ := sh_b1_e h
          refine sh_cVi (As := [.int (4 + x1)]) (rest := [.int x1, .ref (q 4)]) hfix (k_X5_figure l D cI cJ cZ (q 1) (q 2) (A 0) ((upd (upd (upd I 1 u10) 2 u11) 3 u12) 0) (4 + x1) v22 hc23) (cwV 1 hts gX7_picture_X5_figure rfl rfl rfl hdV_X5_figure ⟨Nat.le_of_ble_eq_true rfl, Nat.le_of_ble_eq_true rfl⟩) hP hK [1, 2] rfl 1 rfl rfl rfl hl.1 rfl (Nat.le_of_ble_eq_true rfl) dX7_picture_78 ⟨Nat.zero_le _, Nat.zero_le _⟩ ?_
          obtain ⟨u24, hc25, h⟩ := sh_b1_e h
          refine sh_wVv (wn := (sh_w7 q cI cJ cZ (upd (upd (upd I 1 u10) 2 u11) 3 u12) (vp_updL (vp_updL (vp_updL J 0 u13) 1 u14) 2 u15) A (va_up B 0 u24))) (As := [.int x1, .int v22]) (rest := []) hfix (k_X2_set l D cI cJ cZ _ (q 3) (q 4) (q 5) ((upd (upd (upd I 1 u10) 2 u11) 3 u12) 1) ((upd (upd (upd I 1 u10) 2 u11) 3 u12) 2) ((upd (upd (upd I 1 u10) 2 u11) 3 u12) 3) u13 u14 u15 (B 0) x1 v22 u24 hc25) (cwV 2 hts gX7_picture_X2_set rfl rfl rfl hdV_X2_set ⟨Nat.le_of_ble_eq_true rfl, Nat.le_of_ble_eq_true rfl⟩) hP hK hD hS hA [4, 5, 3] [0, 1, 2, 6, 7, 8, 9, 10, 11, 12, 13, 14, 15, 16, 17, 18, 19, 20, 21, 22] [0, 1, 2, 22, 20, 21, 3, 4, 5, 6, 7, 8, 9, 10, 11, 12, 13, 14, 15, 16, 17, 18, 19] rfl rfl rfl rfl rfl rfl rfl 4 rfl rfl rfl hl.1 rfl (Nat.le_of_ble_eq_true rfl) dX7_picture_81 ⟨Nat.zero_le _, Nat.zero_le _⟩ (fun H locs hP hD hS => ?_)
          refine lv_iinc (v := (x1 + 1)) (lv' := [(1, .int (x1 + 1)), (0, .ref (q 0))]) hx hb dX7_picture_84 hl (k := 1) rfl rfl (by decide) rfl (fun ls hl => ?_)
          refine lv_goto (tgt := 55) hx hb dX7_picture_87 (by decide) ?_
          exact ih (x1 + 1) (va_up B 0 u24) oB _ _ ls h (lv_sub hl [1, 0] rfl) hP hD hS hk
    obtain ⟨w27, hc37, h⟩ := sh_b1_e h
    refine LP26 sh_fu 0 (va_up B 0 u17) w27 _ _ ls hc37 (lv_sub hl [1, 0] rfl) hP hD hS (fun H locs ls hl hP hD hS => ?_)
    refine lv_aload_n hx hb dX7_picture_90 rfl (lv_at hl 0 rfl) ?_
    refine va_get (ci := 7) (v := .ref (q 14)) (C := RX7) (T := TX7) (N := 10) hx hb hts hinX7 hown hK hP 0 rfl rfl 6 (by decide) lk4 (fun _ h9 => h9) rfl dX7_picture_91 ?_
    obtain ⟨u28, hc29, h⟩ := sh_b1_e h
    refine sh_wVv (wn := (sh_w7 q cI cJ cZ (upd (upd (upd (upd I 1 u10) 2 u11) 3 u12) 6 u28) (vp_updL (vp_updL (vp_updL J 0 u13) 1 u14) 2 u15) A w27)) (As := []) (rest := []) hfix (k_X0_clear l D cI cJ cZ _ (q 14) (q 15) (w27 4) (I 6) u28 hc29) (cwV 0 hts gX7_picture_X0_clear rfl rfl rfl hdV_X0_clear ⟨Nat.le_of_ble_eq_true rfl, Nat.le_of_ble_eq_true rfl⟩) hP hK hD hS hA [14, 15] [0, 1, 2, 3, 4, 5, 6, 7, 8, 9, 10, 11, 12, 13, 16, 17, 18, 19, 20, 21, 22] [0, 1, 2, 3, 4, 5, 6, 7, 8, 9, 10, 11, 12, 13, 21, 22, 14, 15, 16, 17, 18, 19, 20] rfl rfl rfl rfl rfl rfl rfl 14 rfl rfl rfl hl.1 rfl (Nat.le_of_ble_eq_true rfl) dX7_picture_94 ⟨Nat.zero_le _, Nat.zero_le _⟩ (fun H locs hP hD hS => ?_)
    refine lv_aload_n hx hb dX7_picture_97 rfl (lv_at hl 0 rfl) ?_
    refine va_get (ci := 7) (v := .ref (q 16)) (C := RX7) (T := TX7) (N := 10) hx hb hts hinX7 hown hK hP 0 rfl rfl 7 (by decide) lk5 (fun _ h9 => h9) rfl dX7_picture_98 ?_
    obtain ⟨u30, hc31, h⟩ := sh_b1_e h
    refine sh_wVv (wn := (sh_w7 q cI cJ cZ (upd (upd (upd (upd I 1 u10) 2 u11) 3 u12) 6 u28) (vp_updL (vp_updL (vp_updL J 0 u13) 1 u14) 2 u15) (va_up A 3 u30) w27)) (As := []) (rest := []) hfix (k_X4_clear l D cI cJ cZ _ (q 16) (q 17) (q 18) (w27 5) (A 3) u30 hc31) (cwV 0 hts gX7_picture_X4_clear rfl rfl rfl hdV_X4_clear ⟨Nat.le_of_ble_eq_true rfl, Nat.le_of_ble_eq_true rfl⟩) hP hK hD hS hA [16, 17, 18] [0, 1, 2, 3, 4, 5, 6, 7, 8, 9, 10, 11, 12, 13, 14, 15, 19, 20, 21, 22] [0, 1, 2, 3, 4, 5, 6, 7, 8, 9, 10, 11, 12, 13, 14, 15, 20, 21, 22, 16, 17, 18, 19] rfl rfl rfl rfl rfl rfl rfl 16 rfl rfl rfl hl.1 rfl (Nat.le_of_ble_eq_true rfl) dX7_picture_101 ⟨Nat.zero_le _, Nat.zero_le _⟩ (fun H locs hP hD hS => ?_)
    refine lv_aload_n hx hb dX7_picture_104 rfl (lv_at hl 0 rfl) ?_
    refine va_get (ci := 7) (v := .ref (q 6)) (C := RX7) (T := TX7) (N := 10) hx hb hts hinX7 hown hK hP 0 rfl rfl 3 (by decide) lk6 (fun _ h9 => h9) rfl dX7_picture_105 ?_
    obtain ⟨v32, u33, u34, u35, hc36, h⟩ := sh_b4_e h
    refine sh_wVi (wn := (sh_w7 q cI cJ cZ (upd (upd (upd (upd (upd I 1 u10) 2 u11) 3 u12) 6 u28) 4 u35) (vp_updL (vp_updL (vp_updL J 0 u13) 1 u14) 2 u15) (va_up (va_up A 3 u30) 1 u34) (va_up w27 2 u33))) (As := []) (rest := []) hfix (k_X6_countNodes l D cI cJ cZ _ (q 3) (q 4) (q 5) (q 6) (q 7) (q 8) u10 u11 u12 u13 u14 u15 (w27 0) (w27 2) (A 1) (I 4) v32 u33 u34 u35 hc36) (cwV 0 hts gX7_picture_X6_countNodes rfl rfl rfl hdV_X6_countNodes ⟨Nat.le_of_ble_eq_true rfl, Nat.le_of_ble_eq_true rfl⟩) hP hK hD hS hA [6, 7, 8, 4, 5, 3] [0, 1, 2, 9, 10, 11, 12, 13, 14, 15, 16, 17, 18, 19, 20, 21, 22] [0, 1, 2, 22, 20, 21, 17, 18, 19, 3, 4, 5, 6, 7, 8, 9, 10, 11, 12, 13, 14, 15, 16] rfl rfl rfl rfl rfl rfl rfl 6 rfl rfl rfl hl.1 rfl (Nat.le_of_ble_eq_true rfl) dX7_picture_108 ⟨Nat.zero_le _, Nat.zero_le _⟩ (fun H locs hP hD hS => ?_)
    cases h
    exact sh_rwi hx hb hr hlocks hQ hK hP hD hS dX7_picture_111
  · rw [if_neg g3] at h
    refine lv_bipush (v := -3) hx hb dX7_picture_12 (by decide) ?_
    cases h
    exact sh_rwi hx hb hr hlocks hQ hK hP hD hS dX7_picture_14
theorem hdV_X7_about : yX7_about.cls = RX7 ∧ yX7_about.cls ≠ "java/lang/invoke/MethodHandle" ∧ yX7_about.cls ≠ "java/lang/invoke/VarHandle" ∧ (parseMethodDescriptor yX7_about.desc).map (fun d => d.parameters.length) = some 1 := by decide +kernel
abbrev rmX7_about : Room := { frames := 5, cells := 0, slots := 0, locals := 131 }
set_option maxHeartbeats 4000000 in
set_option maxRecDepth 100000 in
theorem k_X7_about (l : Launch) (D : va_G) (cI cJ cZ : ClassId) (sz : Nat) (q : Nat → Nat) (I : Nat → Int32) (J : Nat → Int64) (A : Nat → Nat → Int32) (B : Nat → Nat → Int64) (x1 : Int32) (o : Int32) (oI : Nat → Int32) (oA : Nat → Nat → Int32) (oB : Nat → Nat → Int64) (h : fX7_about I J A B x1 = some (o, oI, oA, oB)) : Met l yX7_about wsX7_about rmX7_about (sh_Pw D (sh_ty cI cJ cZ) sz (sh_w7 q cI cJ cZ I J A B) [.ref (q 0), .int x1]) (sh_Qi D (sh_ty cI cJ cZ) (va_A (sh_w7 q cI cJ cZ I J A B) sz) (sh_w7 q cI cJ cZ oI J oA oB) o) 0 0 (va_A (sh_w7 q cI cJ cZ I J A B) sz) := by
  refine Met.ofW (cc := cX7_about) (maxL := 2) (ret := (some .int)) (by decide) rfl ?_
  intro p e s m args below meth c s₁ hB hml hv
  obtain ⟨hargs, hsz, hP, hK, hD0⟩ := hv
  have hx := hB.exec
  have hb := hB.bytes
  have hr := hB.returns
  have hts := atoms_spec (ws := wsX7_about) hB.pre
  have hown : s.vm.findClass RX7 = some m.cls := findClass_of_methodNamed hB.named
  have hlocks := hB.notSynchronized
  have hfix : CallFix p m c cX7_about 2 s args wsX7_about RX7 := ⟨hx, hb, hml, hown, hts⟩
  have hinX7 : ∀ w ∈ wsX70, w ∈ wsX7_about := by decide +kernel
  have lk1 := hts (.fieldLink RX7 10 "ShadeTree" "text" "LShadeTree$Text;") (by decide +kernel)
  have lk2 := hts (.fieldLink RX7 64 "ShadeTree" "sights" "LShadeTree$Sights;") (by decide +kernel)
  have lk3 := hts (.fieldLink RX7 50 "ShadeTree" "doings" "LShadeTree$Doings;") (by decide +kernel)
  have lk4 := hts (.fieldLink RX7 28 "ShadeTree" "now" "LShadeTree$Shades;") (by decide +kernel)
  have lk5 := hts (.fieldLink RX7 19 "ShadeTree" "grid" "LShadeTree$Grid;") (by decide +kernel)
  have lk6 := hts (.fieldLink RX7 37 "ShadeTree" "tree" "LShadeTree$Tree;") (by decide +kernel)
  rw [show entryFrame m args 2 = entryFrame m ([.ref (q 0), .int x1] : List Value).toArray 2 by rw [hargs], lg_entry_eq]
  have hl := lv_entry ([.ref (q 0), .int x1]) (n := 2) (Nat.le_of_ble_eq_true rfl)
  generalize (lg_sl ([.ref (q 0), .int x1]) ++ List.replicate (2 - (lg_sl ([.ref (q 0), .int x1])).length) Slot.unset).toArray = ls at hl ⊢
  have hl : lv_has ls 2 [(0, .ref (q 0)), (1, .int x1)] := hl
  subst hsz
  have hD := hD0.self (sz := s.heap.size)
  generalize hAe : va_A (sh_w7 q cI cJ cZ I J A B) s.heap.size = Az at hD ⊢
  have hA : ∀ q : Nat, s.heap.size ≤ q → Az q := fun q h => by rw [← hAe]; exact Or.inr h
  have hS : va_S Az s.heap s.heap [] := va_S.rf
  generalize hQ : MQ below (sh_Qi D (sh_ty cI cJ cZ) Az (sh_w7 q cI cJ cZ oI J oA oB) o) args s 0 0 Az = Q
  unfold fX7_about at h
  refine lv_iload_n hx hb dX7_about_0 rfl (lv_at hl 1 rfl) ?_
  by_cases g1 : x1 = 0
  · rw [if_pos g1] at h
    refine lv_tableIn (off := 55) (tgt := 56) hx hb dX7_about_1 (by rw [g1]; decide) (by rw [g1]; decide) (by rw [g1]; rfl) (by decide) ?_
    refine lv_aload_n hx hb dX7_about_56 rfl (lv_at hl 0 rfl) ?_
    refine va_get (ci := 7) (v := .ref (q 3)) (C := RX7) (T := TX7) (N := 10) hx hb hts hinX7 hown hK hP 0 rfl rfl 1 (by decide) lk5 (fun _ h9 => h9) rfl dX7_about_57 ?_
    obtain ⟨v40, hc41, h⟩ := sh_b1_e h
    refine sh_cVi (As := []) (rest := []) hfix (k_X1_way l D cI cJ cZ (q 3) (I 1) (I 2) (I 3) (J 0) (J 1) (J 2) v40 hc41) (cwV 0 hts gX7_about_X1_way rfl rfl rfl hdV_X1_way ⟨Nat.le_of_ble_eq_true rfl, Nat.le_of_ble_eq_true rfl⟩) hP hK [3] rfl 3 rfl rfl rfl hl.1 rfl (Nat.le_of_ble_eq_true rfl) dX7_about_60 ⟨Nat.zero_le _, Nat.zero_le _⟩ ?_
    cases h
    exact sh_rwi hx hb hr hlocks hQ hK hP hD hS dX7_about_63
  · rw [if_neg g1] at h
    by_cases g2 : x1 = 1
    · rw [if_pos g2] at h
      refine lv_tableIn (off := 63) (tgt := 64) hx hb dX7_about_1 (by rw [g2]; decide) (by rw [g2]; decide) (by rw [g2]; rfl) (by decide) ?_
      refine lv_aload_n hx hb dX7_about_64 rfl (lv_at hl 0 rfl) ?_
      refine va_get (ci := 7) (v := .ref (q 3)) (C := RX7) (T := TX7) (N := 10) hx hb hts hinX7 hown hK hP 0 rfl rfl 1 (by decide) lk5 (fun _ h9 => h9) rfl dX7_about_65 ?_
      obtain ⟨v38, hc39, h⟩ := sh_b1_e h
      refine sh_cVi (As := []) (rest := []) hfix (k_X1_wide l D cI cJ cZ (q 3) (I 1) (I 2) (I 3) (J 0) (J 1) (J 2) v38 hc39) (cwV 0 hts gX7_about_X1_wide rfl rfl rfl hdV_X1_wide ⟨Nat.le_of_ble_eq_true rfl, Nat.le_of_ble_eq_true rfl⟩) hP hK [3] rfl 3 rfl rfl rfl hl.1 rfl (Nat.le_of_ble_eq_true rfl) dX7_about_68 ⟨Nat.zero_le _, Nat.zero_le _⟩ ?_
      cases h
      exact sh_rwi hx hb hr hlocks hQ hK hP hD hS dX7_about_71
    · rw [if_neg g2] at h
      by_cases g3 : x1 = 2
      · rw [if_pos g3] at h
        refine lv_tableIn (off := 71) (tgt := 72) hx hb dX7_about_1 (by rw [g3]; decide) (by rw [g3]; decide) (by rw [g3]; rfl) (by decide) ?_
        refine lv_aload_n hx hb dX7_about_72 rfl (lv_at hl 0 rfl) ?_
        refine va_get (ci := 7) (v := .ref (q 3)) (C := RX7) (T := TX7) (N := 10) hx hb hts hinX7 hown hK hP 0 rfl rfl 1 (by decide) lk5 (fun _ h9 => h9) rfl dX7_about_73 ?_
        obtain ⟨v36, hc37, h⟩ := sh_b1_e h
        refine sh_cVi (As := []) (rest := []) hfix (k_X1_high l D cI cJ cZ (q 3) (I 1) (I 2) (I 3) (J 0) (J 1) (J 2) v36 hc37) (cwV 0 hts gX7_about_X1_high rfl rfl rfl hdV_X1_high ⟨Nat.le_of_ble_eq_true rfl, Nat.le_of_ble_eq_true rfl⟩) hP hK [3] rfl 3 rfl rfl rfl hl.1 rfl (Nat.le_of_ble_eq_true rfl) dX7_about_76 ⟨Nat.zero_le _, Nat.zero_le _⟩ ?_
        cases h
        exact sh_rwi hx hb hr hlocks hQ hK hP hD hS dX7_about_79
      · rw [if_neg g3] at h
        by_cases g4 : x1 = 3
        · rw [if_pos g4] at h
          refine lv_tableIn (off := 79) (tgt := 80) hx hb dX7_about_1 (by rw [g4]; decide) (by rw [g4]; decide) (by rw [g4]; rfl) (by decide) ?_
          refine lv_aload_n hx hb dX7_about_80 rfl (lv_at hl 0 rfl) ?_
          refine va_get (ci := 7) (v := .ref (q 6)) (C := RX7) (T := TX7) (N := 10) hx hb hts hinX7 hown hK hP 0 rfl rfl 3 (by decide) lk6 (fun _ h9 => h9) rfl dX7_about_81 ?_
          obtain ⟨v31, u32, u33, u34, hc35, h⟩ := sh_b4_e h
          refine sh_wVi (wn := (sh_w7 q cI cJ cZ (upd I 4 u34) J (va_up A 1 u33) (va_up B 2 u32))) (As := []) (rest := []) hfix (k_X6_countNodes l D cI cJ cZ _ (q 3) (q 4) (q 5) (q 6) (q 7) (q 8) (I 1) (I 2) (I 3) (J 0) (J 1) (J 2) (B 0) (B 2) (A 1) (I 4) v31 u32 u33 u34 hc35) (cwV 0 hts gX7_about_X6_countNodes rfl rfl rfl hdV_X6_countNodes ⟨Nat.le_of_ble_eq_true rfl, Nat.le_of_ble_eq_true rfl⟩) hP hK hD hS hA [6, 7, 8, 4, 5, 3] [0, 1, 2, 9, 10, 11, 12, 13, 14, 15, 16, 17, 18, 19, 20, 21, 22] [0, 1, 2, 22, 20, 21, 17, 18, 19, 3, 4, 5, 6, 7, 8, 9, 10, 11, 12, 13, 14, 15, 16] rfl rfl rfl rfl rfl rfl rfl 6 rfl rfl rfl hl.1 rfl (Nat.le_of_ble_eq_true rfl) dX7_about_84 ⟨Nat.zero_le _, Nat.zero_le _⟩ (fun H locs hP hD hS => ?_)
          cases h
          exact sh_rwi hx hb hr hlocks hQ hK hP hD hS dX7_about_87
        · rw [if_neg g4] at h
          by_cases g5 : x1 = 4
          · rw [if_pos g5] at h
            refine lv_tableIn (off := 87) (tgt := 88) hx hb dX7_about_1 (by rw [g5]; decide) (by rw [g5]; decide) (by rw [g5]; rfl) (by decide) ?_
            refine lv_aload_n hx hb dX7_about_88 rfl (lv_at hl 0 rfl) ?_
            refine va_get (ci := 7) (v := .ref (q 6)) (C := RX7) (T := TX7) (N := 10) hx hb hts hinX7 hown hK hP 0 rfl rfl 3 (by decide) lk6 (fun _ h9 => h9) rfl dX7_about_89 ?_
            obtain ⟨v26, u27, u28, u29, hc30, h⟩ := sh_b4_e h
            refine sh_wVi (wn := (sh_w7 q cI cJ cZ (upd I 4 u29) J (va_up A 1 u28) (va_up B 2 u27))) (As := []) (rest := []) hfix (k_X6_countLeaves l D cI cJ cZ _ (q 3) (q 4) (q 5) (q 6) (q 7) (q 8) (I 1) (I 2) (I 3) (J 0) (J 1) (J 2) (B 0) (B 2) (A 1) (I 4) v26 u27 u28 u29 hc30) (cwV 0 hts gX7_about_X6_countLeaves rfl rfl rfl hdV_X6_countLeaves ⟨Nat.le_of_ble_eq_true rfl, Nat.le_of_ble_eq_true rfl⟩) hP hK hD hS hA [6, 7, 8, 4, 5, 3] [0, 1, 2, 9, 10, 11, 12, 13, 14, 15, 16, 17, 18, 19, 20, 21, 22] [0, 1, 2, 22, 20, 21, 17, 18, 19, 3, 4, 5, 6, 7, 8, 9, 10, 11, 12, 13, 14, 15, 16] rfl rfl rfl rfl rfl rfl rfl 6 rfl rfl rfl hl.1 rfl (Nat.le_of_ble_eq_true rfl) dX7_about_92 ⟨Nat.zero_le _, Nat.zero_le _⟩ (fun H locs hP hD hS => ?_)
            cases h
            exact sh_rwi hx hb hr hlocks hQ hK hP hD hS dX7_about_95
          · rw [if_neg g5] at h
            by_cases g6 : x1 = 5
            · rw [if_pos g6] at h
              refine lv_tableIn (off := 95) (tgt := 96) hx hb dX7_about_1 (by rw [g6]; decide) (by rw [g6]; decide) (by rw [g6]; rfl) (by decide) ?_
              refine lv_aload_n hx hb dX7_about_96 rfl (lv_at hl 0 rfl) ?_
              refine va_get (ci := 7) (v := .ref (q 6)) (C := RX7) (T := TX7) (N := 10) hx hb hts hinX7 hown hK hP 0 rfl rfl 3 (by decide) lk6 (fun _ h9 => h9) rfl dX7_about_97 ?_
              obtain ⟨v21, u22, u23, u24, hc25, h⟩ := sh_b4_e h
              refine sh_wVi (wn := (sh_w7 q cI cJ cZ (upd I 4 u24) J (va_up A 1 u23) (va_up B 2 u22))) (As := []) (rest := []) hfix (k_X6_greatestDepth l D cI cJ cZ _ (q 3) (q 4) (q 5) (q 6) (q 7) (q 8) (I 1) (I 2) (I 3) (J 0) (J 1) (J 2) (B 0) (B 2) (A 1) (I 4) v21 u22 u23 u24 hc25) (cwV 0 hts gX7_about_X6_greatestDepth rfl rfl rfl hdV_X6_greatestDepth ⟨Nat.le_of_ble_eq_true rfl, Nat.le_of_ble_eq_true rfl⟩) hP hK hD hS hA [6, 7, 8, 4, 5, 3] [0, 1, 2, 9, 10, 11, 12, 13, 14, 15, 16, 17, 18, 19, 20, 21, 22] [0, 1, 2, 22, 20, 21, 17, 18, 19, 3, 4, 5, 6, 7, 8, 9, 10, 11, 12, 13, 14, 15, 16] rfl rfl rfl rfl rfl rfl rfl 6 rfl rfl rfl hl.1 rfl (Nat.le_of_ble_eq_true rfl) dX7_about_100 ⟨Nat.zero_le _, Nat.zero_le _⟩ (fun H locs hP hD hS => ?_)
              cases h
              exact sh_rwi hx hb hr hlocks hQ hK hP hD hS dX7_about_103
            · rw [if_neg g6] at h
              by_cases g7 : x1 = 6
              · rw [if_pos g7] at h
                refine lv_tableIn (off := 103) (tgt := 104) hx hb dX7_about_1 (by rw [g7]; decide) (by rw [g7]; decide) (by rw [g7]; rfl) (by decide) ?_
                refine lv_aload_n hx hb dX7_about_104 rfl (lv_at hl 0 rfl) ?_
                refine va_get (ci := 7) (v := .ref (q 4)) (C := RX7) (T := TX7) (N := 10) hx hb hts hinX7 hown hK hP 0 rfl rfl 2 (by decide) lk4 (fun _ h9 => h9) rfl dX7_about_105 ?_
                refine lv_aload_n hx hb dX7_about_108 rfl (lv_at hl 0 rfl) ?_
                refine va_get (ci := 7) (v := .ref (q 3)) (C := RX7) (T := TX7) (N := 10) hx hb hts hinX7 hown hK hP 0 rfl rfl 1 (by decide) lk5 (fun _ h9 => h9) rfl dX7_about_109 ?_
                obtain ⟨v17, hc18, h⟩ := sh_b1_e h
                refine sh_cVl (As := []) (rest := [.ref (q 4)]) hfix (k_X1_all l D cI cJ cZ (q 3) (I 1) (I 2) (I 3) (J 0) (J 1) (J 2) v17 hc18) (cwV 0 hts gX7_about_X1_all rfl rfl rfl hdV_X1_all ⟨Nat.le_of_ble_eq_true rfl, Nat.le_of_ble_eq_true rfl⟩) hP hK [3] rfl 3 rfl rfl rfl hl.1 rfl (Nat.le_of_ble_eq_true rfl) dX7_about_112 ⟨Nat.zero_le _, Nat.zero_le _⟩ ?_
                obtain ⟨v19, hc20, h⟩ := sh_b1_e h
                refine sh_cVi (As := [.long v17]) (rest := []) hfix (k_X2_light l D cI cJ cZ (q 3) (q 4) (q 5) (I 1) (I 2) (I 3) (J 0) (J 1) (J 2) (B 0) v17 v19 hc20) (cwV 1 hts gX7_about_X2_light rfl rfl rfl hdV_X2_light ⟨Nat.le_of_ble_eq_true rfl, Nat.le_of_ble_eq_true rfl⟩) hP hK [4, 5, 3] rfl 4 rfl rfl rfl hl.1 rfl (Nat.le_of_ble_eq_true rfl) dX7_about_115 ⟨Nat.zero_le _, Nat.zero_le _⟩ ?_
                cases h
                exact sh_rwi hx hb hr hlocks hQ hK hP hD hS dX7_about_118
              · rw [if_neg g7] at h
                by_cases g8 : x1 = 7
                · rw [if_pos g8] at h
                  refine lv_tableIn (off := 118) (tgt := 119) hx hb dX7_about_1 (by rw [g8]; decide) (by rw [g8]; decide) (by rw [g8]; rfl) (by decide) ?_
                  refine lv_aload_n hx hb dX7_about_119 rfl (lv_at hl 0 rfl) ?_
                  refine va_get (ci := 7) (v := .ref (q 14)) (C := RX7) (T := TX7) (N := 10) hx hb hts hinX7 hown hK hP 0 rfl rfl 6 (by decide) lk3 (fun _ h9 => h9) rfl dX7_about_120 ?_
                  obtain ⟨v15, hc16, h⟩ := sh_b1_e h
                  refine sh_cVi (As := []) (rest := []) hfix (k_X0_size l D cI cJ cZ (q 14) (q 15) (B 4) (I 6) v15 hc16) (cwV 0 hts gX7_about_X0_size rfl rfl rfl hdV_X0_size ⟨Nat.le_of_ble_eq_true rfl, Nat.le_of_ble_eq_true rfl⟩) hP hK [14, 15] rfl 14 rfl rfl rfl hl.1 rfl (Nat.le_of_ble_eq_true rfl) dX7_about_123 ⟨Nat.zero_le _, Nat.zero_le _⟩ ?_
                  cases h
                  exact sh_rwi hx hb hr hlocks hQ hK hP hD hS dX7_about_126
                · rw [if_neg g8] at h
                  by_cases g9 : x1 = 8
                  · rw [if_pos g9] at h
                    refine lv_tableIn (off := 126) (tgt := 127) hx hb dX7_about_1 (by rw [g9]; decide) (by rw [g9]; decide) (by rw [g9]; rfl) (by decide) ?_
                    refine lv_aload_n hx hb dX7_about_127 rfl (lv_at hl 0 rfl) ?_
                    refine va_get (ci := 7) (v := .ref (q 19)) (C := RX7) (T := TX7) (N := 10) hx hb hts hinX7 hown hK hP 0 rfl rfl 8 (by decide) lk2 (fun _ h9 => h9) rfl dX7_about_128 ?_
                    obtain ⟨v13, hc14, h⟩ := sh_b1_e h
                    refine sh_cVi (As := []) (rest := []) hfix (k_X3_size l D cI cJ cZ (q 19) (q 20) (q 21) (q 22) (A 4) (A 5) (A 6) (I 7) v13 hc14) (cwV 0 hts gX7_about_X3_size rfl rfl rfl hdV_X3_size ⟨Nat.le_of_ble_eq_true rfl, Nat.le_of_ble_eq_true rfl⟩) hP hK [19, 20, 21, 22] rfl 19 rfl rfl rfl hl.1 rfl (Nat.le_of_ble_eq_true rfl) dX7_about_131 ⟨Nat.zero_le _, Nat.zero_le _⟩ ?_
                    cases h
                    exact sh_rwi hx hb hr hlocks hQ hK hP hD hS dX7_about_134
                  · rw [if_neg g9] at h
                    by_cases g10 : x1 = 9
                    · rw [if_pos g10] at h
                      refine lv_tableIn (off := 134) (tgt := 135) hx hb dX7_about_1 (by rw [g10]; decide) (by rw [g10]; decide) (by rw [g10]; rfl) (by decide) ?_
                      refine lv_aload_n hx hb dX7_about_135 rfl (lv_at hl 0 rfl) ?_
                      refine va_get (ci := 7) (v := .ref (q 1)) (C := RX7) (T := TX7) (N := 10) hx hb hts hinX7 hown hK hP 0 rfl rfl 0 (by decide) lk1 (fun _ h9 => h9) rfl dX7_about_136 ?_
                      obtain ⟨v11, hc12, h⟩ := sh_b1_e h
                      refine sh_cVi (As := []) (rest := []) hfix (k_X5_size l D cI cJ cZ (q 1) (q 2) (A 0) (I 0) v11 hc12) (cwV 0 hts gX7_about_X5_size rfl rfl rfl hdV_X5_size ⟨Nat.le_of_ble_eq_true rfl, Nat.le_of_ble_eq_true rfl⟩) hP hK [1, 2] rfl 1 rfl rfl rfl hl.1 rfl (Nat.le_of_ble_eq_true rfl) dX7_about_139 ⟨Nat.zero_le _, Nat.zero_le _⟩ ?_
                      cases h
                      exact sh_rwi hx hb hr hlocks hQ hK hP hD hS dX7_about_142
                    · rw [if_neg g10] at h
                      refine lv_tableOut (tgt := 143) hx hb dX7_about_1 (by have k0 := lv_neT (a := 0) g1 rfl; have k1 := lv_neT (a := 1) g2 rfl; have k2 := lv_neT (a := 2) g3 rfl; have k3 := lv_neT (a := 3) g4 rfl; have k4 := lv_neT (a := 4) g5 rfl; have k5 := lv_neT (a := 5) g6 rfl; have k6 := lv_neT (a := 6) g7 rfl; have k7 := lv_neT (a := 7) g8 rfl; have k8 := lv_neT (a := 8) g9 rfl; have k9 := lv_neT (a := 9) g10 rfl; omega) (by decide) ?_
                      refine lv_bipush (v := -2) hx hb dX7_about_143 (by decide) ?_
                      cases h
                      exact sh_rwi hx hb hr hlocks hQ hK hP hD hS dX7_about_145
theorem hdV_X7_shade : yX7_shade.cls = RX7 ∧ yX7_shade.cls ≠ "java/lang/invoke/MethodHandle" ∧ yX7_shade.cls ≠ "java/lang/invoke/VarHandle" ∧ (parseMethodDescriptor yX7_shade.desc).map (fun d => d.parameters.length) = some 1 := by decide +kernel
abbrev rmX7_shade : Room := { frames := 2, cells := 0, slots := 0, locals := 41 }
set_option maxHeartbeats 4000000 in
set_option maxRecDepth 100000 in
theorem k_X7_shade (l : Launch) (D : va_G) (cI cJ cZ : ClassId) (q : Nat → Nat) (I : Nat → Int32) (J : Nat → Int64) (A : Nat → Nat → Int32) (B : Nat → Nat → Int64) (x1 : Int32) (o : Int32) (h : fX7_shade I B x1 = some o) : Met l yX7_shade wsX7_shade rmX7_shade (sh_Pr D (sh_ty cI cJ cZ) (sh_w7 q cI cJ cZ I J A B) [.ref (q 0), .int x1]) (vp_Si (fun z => z = o)) 0 0 (fun _ => False) := by
  refine Met.ofW (cc := cX7_shade) (maxL := 2) (ret := (some .int)) (by decide) rfl ?_
  intro p e s m args below meth c s₁ hB hml hv
  obtain ⟨hargs, hP, hK⟩ := hv
  have hx := hB.exec
  have hb := hB.bytes
  have hr := hB.returns
  have hts := atoms_spec (ws := wsX7_shade) hB.pre
  have hown : s.vm.findClass RX7 = some m.cls := findClass_of_methodNamed hB.named
  have hlocks := hB.notSynchronized
  have hfix : CallFix p m c cX7_shade 2 s args wsX7_shade RX7 := ⟨hx, hb, hml, hown, hts⟩
  have hinX7 : ∀ w ∈ wsX70, w ∈ wsX7_shade := by decide +kernel
  have lk1 := hts (.fieldLink RX7 19 "ShadeTree" "grid" "LShadeTree$Grid;") (by decide +kernel)
  have lk2 := hts (.fieldLink RX7 28 "ShadeTree" "now" "LShadeTree$Shades;") (by decide +kernel)
  rw [show entryFrame m args 2 = entryFrame m ([.ref (q 0), .int x1] : List Value).toArray 2 by rw [hargs], lg_entry_eq]
  have hl := lv_entry ([.ref (q 0), .int x1]) (n := 2) (Nat.le_of_ble_eq_true rfl)
  generalize (lg_sl ([.ref (q 0), .int x1]) ++ List.replicate (2 - (lg_sl ([.ref (q 0), .int x1])).length) Slot.unset).toArray = ls at hl ⊢
  have hl : lv_has ls 2 [(0, .ref (q 0)), (1, .int x1)] := hl
  generalize hQ : MQ below (vp_Si (fun z => z = o)) args s 0 0 (fun _ => False) = Q
  unfold fX7_shade at h
  refine lv_aload_n hx hb dX7_shade_0 rfl (lv_at hl 0 rfl) ?_
  refine va_get (ci := 7) (v := .ref (q 3)) (C := RX7) (T := TX7) (N := 10) hx hb hts hinX7 hown hK hP 0 rfl rfl 1 (by decide) lk1 (fun _ h9 => h9) rfl dX7_shade_1 ?_
  refine lv_iload_n hx hb dX7_shade_4 rfl (lv_at hl 1 rfl) ?_
  obtain ⟨v1, hc2, h⟩ := sh_b1_e h
  refine sh_cVi (As := [.int x1]) (rest := []) hfix (k_X1_hasDot l D cI cJ cZ (q 3) (I 1) (I 2) (I 3) (J 0) (J 1) (J 2) x1 v1 hc2) (cwV 1 hts gX7_shade_X1_hasDot rfl rfl rfl hdV_X1_hasDot ⟨Nat.le_of_ble_eq_true rfl, Nat.le_of_ble_eq_true rfl⟩) hP hK [3] rfl 3 rfl rfl rfl hl.1 rfl (Nat.le_of_ble_eq_true rfl) dX7_shade_5 ⟨Nat.zero_le _, Nat.zero_le _⟩ ?_
  refine lv_if_eq (tgt := 22) hx hb dX7_shade_8 (by decide) (fun g3 => ?_) (fun g3 => ?_)
  · rw [if_pos g3] at h
    refine lv_iconst (v := -1) hx hb dX7_shade_22 (by decide) ?_
    exact sh_roi hx hb hr hlocks hQ (Option.some.inj h) dX7_shade_23
  · rw [if_neg g3] at h
    refine lv_aload_n hx hb dX7_shade_11 rfl (lv_at hl 0 rfl) ?_
    refine va_get (ci := 7) (v := .ref (q 4)) (C := RX7) (T := TX7) (N := 10) hx hb hts hinX7 hown hK hP 0 rfl rfl 2 (by decide) lk2 (fun _ h9 => h9) rfl dX7_shade_12 ?_
    refine lv_iload_n hx hb dX7_shade_15 rfl (lv_at hl 1 rfl) ?_
    obtain ⟨v4, hc5, h⟩ := sh_b1_e h
    refine sh_cVi (As := [.int x1]) (rest := []) hfix (k_X2_of l D cI cJ cZ (q 3) (q 4) (q 5) (I 1) (I 2) (I 3) (J 0) (J 1) (J 2) (B 0) x1 v4 hc5) (cwV 1 hts gX7_shade_X2_of rfl rfl rfl hdV_X2_of ⟨Nat.le_of_ble_eq_true rfl, Nat.le_of_ble_eq_true rfl⟩) hP hK [4, 5, 3] rfl 4 rfl rfl rfl hl.1 rfl (Nat.le_of_ble_eq_true rfl) dX7_shade_16 ⟨Nat.zero_le _, Nat.zero_le _⟩ ?_
    refine lv_goto (tgt := 23) hx hb dX7_shade_19 (by decide) ?_
    exact sh_roi hx hb hr hlocks hQ (Option.some.inj h) dX7_shade_23
theorem hdV_X7_node : yX7_node.cls = RX7 ∧ yX7_node.cls ≠ "java/lang/invoke/MethodHandle" ∧ yX7_node.cls ≠ "java/lang/invoke/VarHandle" ∧ (parseMethodDescriptor yX7_node.desc).map (fun d => d.parameters.length) = some 2 := by decide +kernel
abbrev rmX7_node : Room := { frames := 5, cells := 0, slots := 0, locals := 128 }
set_option maxHeartbeats 4000000 in
set_option maxRecDepth 100000 in
theorem k_X7_node (l : Launch) (D : va_G) (cI cJ cZ : ClassId) (q : Nat → Nat) (I : Nat → Int32) (J : Nat → Int64) (A : Nat → Nat → Int32) (B : Nat → Nat → Int64) (x1 : Int32) (x2 : Int32) (o : Int32) (h : fX7_node I J A B x1 x2 = some o) : Met l yX7_node wsX7_node rmX7_node (sh_Pr D (sh_ty cI cJ cZ) (sh_w7 q cI cJ cZ I J A B) [.ref (q 0), .int x1, .int x2]) (vp_Si (fun z => z = o)) 0 0 (fun _ => False) := by
  refine Met.ofW (cc := cX7_node) (maxL := 6) (ret := (some .int)) (by decide) rfl ?_
  intro p e s m args below meth c s₁ hB hml hv
  obtain ⟨hargs, hP, hK⟩ := hv
  have hx := hB.exec
  have hb := hB.bytes
  have hr := hB.returns
  have hts := atoms_spec (ws := wsX7_node) hB.pre
  have hown : s.vm.findClass RX7 = some m.cls := findClass_of_methodNamed hB.named
  have hlocks := hB.notSynchronized
  have hfix : CallFix p m c cX7_node 6 s args wsX7_node RX7 := ⟨hx, hb, hml, hown, hts⟩
  have hinX7 : ∀ w ∈ wsX70, w ∈ wsX7_node := by decide +kernel
  have lk1 := hts (.fieldLink RX7 19 "ShadeTree" "grid" "LShadeTree$Grid;") (by decide +kernel)
  have lk2 := hts (.fieldLink RX7 28 "ShadeTree" "now" "LShadeTree$Shades;") (by decide +kernel)
  have lk3 := hts (.fieldLink RX7 37 "ShadeTree" "tree" "LShadeTree$Tree;") (by decide +kernel)
  rw [show entryFrame m args 6 = entryFrame m ([.ref (q 0), .int x1, .int x2] : List Value).toArray 6 by rw [hargs], lg_entry_eq]
  have hl := lv_entry ([.ref (q 0), .int x1, .int x2]) (n := 6) (Nat.le_of_ble_eq_true rfl)
  generalize (lg_sl ([.ref (q 0), .int x1, .int x2]) ++ List.replicate (6 - (lg_sl ([.ref (q 0), .int x1, .int x2])).length) Slot.unset).toArray = ls at hl ⊢
  have hl : lv_has ls 6 [(0, .ref (q 0)), (1, .int x1), (2, .int x2)] := hl
  generalize hQ : MQ below (vp_Si (fun z => z = o)) args s 0 0 (fun _ => False) = Q
  unfold fX7_node at h
  refine lv_aload_n hx hb dX7_node_0 rfl (lv_at hl 0 rfl) ?_
  refine va_get (ci := 7) (v := .ref (q 3)) (C := RX7) (T := TX7) (N := 10) hx hb hts hinX7 hown hK hP 0 rfl rfl 1 (by decide) lk1 (fun _ h9 => h9) rfl dX7_node_1 ?_
  refine lv_iload_n hx hb dX7_node_4 rfl (lv_at hl 1 rfl) ?_
  obtain ⟨v1, hc2, h⟩ := sh_b1_e h
  refine sh_cVi (As := [.int x1]) (rest := []) hfix (k_X1_hasDot l D cI cJ cZ (q 3) (I 1) (I 2) (I 3) (J 0) (J 1) (J 2) x1 v1 hc2) (cwV 1 hts gX7_node_X1_hasDot rfl rfl rfl hdV_X1_hasDot ⟨Nat.le_of_ble_eq_true rfl, Nat.le_of_ble_eq_true rfl⟩) hP hK [3] rfl 3 rfl rfl rfl hl.1 rfl (Nat.le_of_ble_eq_true rfl) dX7_node_5 ⟨Nat.zero_le _, Nat.zero_le _⟩ ?_
  refine lv_if_ne (tgt := 13) hx hb dX7_node_8 (by decide) (fun g3 => ?_) (fun g3 => ?_)
  · rw [if_neg g3] at h
    refine lv_aload_n hx hb dX7_node_13 rfl (lv_at hl 0 rfl) ?_
    refine va_get (ci := 7) (v := .ref (q 4)) (C := RX7) (T := TX7) (N := 10) hx hb hts hinX7 hown hK hP 0 rfl rfl 2 (by decide) lk2 (fun _ h9 => h9) rfl dX7_node_14 ?_
    refine lv_iload_n hx hb dX7_node_17 rfl (lv_at hl 1 rfl) ?_
    obtain ⟨v4, hc5, h⟩ := sh_b1_e h
    refine sh_cVi (As := [.int x1]) (rest := []) hfix (k_X2_of l D cI cJ cZ (q 3) (q 4) (q 5) (I 1) (I 2) (I 3) (J 0) (J 1) (J 2) (B 0) x1 v4 hc5) (cwV 1 hts gX7_node_X2_of rfl rfl rfl hdV_X2_of ⟨Nat.le_of_ble_eq_true rfl, Nat.le_of_ble_eq_true rfl⟩) hP hK [4, 5, 3] rfl 4 rfl rfl rfl hl.1 rfl (Nat.le_of_ble_eq_true rfl) dX7_node_18 ⟨Nat.zero_le _, Nat.zero_le _⟩ ?_
    refine lv_istore_n (lv' := [(3, .int v4), (0, .ref (q 0)), (1, .int x1), (2, .int x2)]) hx hb dX7_node_21 rfl hl (by decide) rfl (fun ls hl => ?_)
    refine lv_aload_n hx hb dX7_node_22 rfl (lv_at hl 1 rfl) ?_
    refine va_get (ci := 7) (v := .ref (q 6)) (C := RX7) (T := TX7) (N := 10) hx hb hts hinX7 hown hK hP 0 rfl rfl 3 (by decide) lk3 (fun _ h9 => h9) rfl dX7_node_23 ?_
    refine lv_iload_n hx hb dX7_node_26 rfl (lv_at hl 2 rfl) ?_
    obtain ⟨v6, hc7, h⟩ := sh_b1_e h
    refine sh_cVl (As := [.int x1]) (rest := []) hfix (k_X6_nodeOf l D cI cJ cZ (q 3) (q 4) (q 5) (q 6) (q 7) (q 8) (I 1) (I 2) (I 3) (J 0) (J 1) (J 2) (B 0) (B 2) (A 1) (I 4) x1 v6 hc7) (cwV 1 hts gX7_node_X6_nodeOf rfl rfl rfl hdV_X6_nodeOf ⟨Nat.le_of_ble_eq_true rfl, Nat.le_of_ble_eq_true rfl⟩) hP hK [6, 7, 8, 4, 5, 3] rfl 6 rfl rfl rfl hl.1 rfl (Nat.le_of_ble_eq_true rfl) dX7_node_27 ⟨Nat.zero_le _, Nat.zero_le _⟩ ?_
    refine lv_lstore (lv' := [(4, .long v6), (3, .int v4), (0, .ref (q 0)), (1, .int x1), (2, .int x2)]) hx hb dX7_node_30 hl (by decide) rfl (fun ls hl => ?_)
    refine lv_iload_n hx hb dX7_node_32 rfl (lv_at hl 4 rfl) ?_
    by_cases g8 : x2 = 0
    · rw [if_pos g8] at h
      refine lv_tableIn (off := 55) (tgt := 88) hx hb dX7_node_33 (by rw [g8]; decide) (by rw [g8]; decide) (by rw [g8]; rfl) (by decide) ?_
      refine lv_aload_n hx hb dX7_node_88 rfl (lv_at hl 2 rfl) ?_
      refine va_get (ci := 7) (v := .ref (q 6)) (C := RX7) (T := TX7) (N := 10) hx hb hts hinX7 hown hK hP 0 rfl rfl 3 (by decide) lk3 (fun _ h9 => h9) rfl dX7_node_89 ?_
      refine lv_lload hx hb dX7_node_92 (lv_at hl 0 rfl) ?_
      refine lv_iload_n hx hb dX7_node_94 rfl (lv_at hl 1 rfl) ?_
      obtain ⟨v34, hc35, h⟩ := sh_b1_e h
      refine sh_cVi (As := [.long v6, .int v4]) (rest := []) hfix (k_X6_head l D cI cJ cZ (q 3) (q 4) (q 5) (q 6) (q 7) (q 8) (I 1) (I 2) (I 3) (J 0) (J 1) (J 2) (B 0) (B 2) (A 1) (I 4) v6 v4 v34 hc35) (cwV 2 hts gX7_node_X6_head rfl rfl rfl hdV_X6_head ⟨Nat.le_of_ble_eq_true rfl, Nat.le_of_ble_eq_true rfl⟩) hP hK [6, 7, 8, 4, 5, 3] rfl 6 rfl rfl rfl hl.1 rfl (Nat.le_of_ble_eq_true rfl) dX7_node_95 ⟨Nat.zero_le _, Nat.zero_le _⟩ ?_
      exact sh_roi hx hb hr hlocks hQ (Option.some.inj h) dX7_node_98
    · rw [if_neg g8] at h
      by_cases g9 : x2 = 1
      · rw [if_pos g9] at h
        refine lv_tableIn (off := 66) (tgt := 99) hx hb dX7_node_33 (by rw [g9]; decide) (by rw [g9]; decide) (by rw [g9]; rfl) (by decide) ?_
        refine lv_iload_n hx hb dX7_node_99 rfl (lv_at hl 1 rfl) ?_
        exact sh_roi hx hb hr hlocks hQ (Option.some.inj h) dX7_node_100
      · rw [if_neg g9] at h
        by_cases g10 : x2 = 2
        · rw [if_pos g10] at h
          refine lv_tableIn (off := 68) (tgt := 101) hx hb dX7_node_33 (by rw [g10]; decide) (by rw [g10]; decide) (by rw [g10]; rfl) (by decide) ?_
          refine lv_lload hx hb dX7_node_101 (lv_at hl 0 rfl) ?_
          obtain ⟨v32, hc33, h⟩ := sh_b1_e h
          refine sh_cSi (As := [.long v6]) (rest := []) hfix (k_J13_bitCount_95d88 l D cI cJ cZ v6 v32 hc33) (va_cwS 1 hts gX7_node_J13_bitCount_95d88 rfl rfl rfl hdS_J13_bitCount_95d88 ⟨Nat.le_of_ble_eq_true rfl, Nat.le_of_ble_eq_true rfl⟩) hP hK [] rfl rfl hl.1 rfl (Nat.le_of_ble_eq_true rfl) dX7_node_103 ⟨Nat.zero_le _, Nat.zero_le _⟩ ?_
          exact sh_roi hx hb hr hlocks hQ (Option.some.inj h) dX7_node_106
        · rw [if_neg g10] at h
          by_cases g11 : x2 = 3
          · rw [if_pos g11] at h
            refine lv_tableIn (off := 74) (tgt := 107) hx hb dX7_node_33 (by rw [g11]; decide) (by rw [g11]; decide) (by rw [g11]; rfl) (by decide) ?_
            refine lv_aload_n hx hb dX7_node_107 rfl (lv_at hl 2 rfl) ?_
            refine va_get (ci := 7) (v := .ref (q 4)) (C := RX7) (T := TX7) (N := 10) hx hb hts hinX7 hown hK hP 0 rfl rfl 2 (by decide) lk2 (fun _ h9 => h9) rfl dX7_node_108 ?_
            refine lv_lload hx hb dX7_node_111 (lv_at hl 0 rfl) ?_
            obtain ⟨v30, hc31, h⟩ := sh_b1_e h
            refine sh_cVi (As := [.long v6]) (rest := []) hfix (k_X2_light l D cI cJ cZ (q 3) (q 4) (q 5) (I 1) (I 2) (I 3) (J 0) (J 1) (J 2) (B 0) v6 v30 hc31) (cwV 1 hts gX7_node_X2_light rfl rfl rfl hdV_X2_light ⟨Nat.le_of_ble_eq_true rfl, Nat.le_of_ble_eq_true rfl⟩) hP hK [4, 5, 3] rfl 4 rfl rfl rfl hl.1 rfl (Nat.le_of_ble_eq_true rfl) dX7_node_113 ⟨Nat.zero_le _, Nat.zero_le _⟩ ?_
            exact sh_roi hx hb hr hlocks hQ (Option.some.inj h) dX7_node_116
          · rw [if_neg g11] at h
            by_cases g12 : x2 = 4
            · rw [if_pos g12] at h
              refine lv_tableIn (off := 84) (tgt := 117) hx hb dX7_node_33 (by rw [g12]; decide) (by rw [g12]; decide) (by rw [g12]; rfl) (by decide) ?_
              refine lv_aload_n hx hb dX7_node_117 rfl (lv_at hl 2 rfl) ?_
              refine va_get (ci := 7) (v := .ref (q 6)) (C := RX7) (T := TX7) (N := 10) hx hb hts hinX7 hown hK hP 0 rfl rfl 3 (by decide) lk3 (fun _ h9 => h9) rfl dX7_node_118 ?_
              refine lv_lload hx hb dX7_node_121 (lv_at hl 0 rfl) ?_
              refine lv_iload_n hx hb dX7_node_123 rfl (lv_at hl 1 rfl) ?_
              obtain ⟨v28, hc29, h⟩ := sh_b1_e h
              refine sh_cVi (As := [.long v6, .int v4]) (rest := []) hfix (k_X6_parentHead l D cI cJ cZ (q 3) (q 4) (q 5) (q 6) (q 7) (q 8) (I 1) (I 2) (I 3) (J 0) (J 1) (J 2) (B 0) (B 2) (A 1) (I 4) v6 v4 v28 hc29) (cwV 2 hts gX7_node_X6_parentHead rfl rfl rfl hdV_X6_parentHead ⟨Nat.le_of_ble_eq_true rfl, Nat.le_of_ble_eq_true rfl⟩) hP hK [6, 7, 8, 4, 5, 3] rfl 6 rfl rfl rfl hl.1 rfl (Nat.le_of_ble_eq_true rfl) dX7_node_124 ⟨Nat.zero_le _, Nat.zero_le _⟩ ?_
              exact sh_roi hx hb hr hlocks hQ (Option.some.inj h) dX7_node_127
            · rw [if_neg g12] at h
              by_cases g13 : x2 = 5
              · rw [if_pos g13] at h
                refine lv_tableIn (off := 95) (tgt := 128) hx hb dX7_node_33 (by rw [g13]; decide) (by rw [g13]; decide) (by rw [g13]; rfl) (by decide) ?_
                refine lv_aload_n hx hb dX7_node_128 rfl (lv_at hl 2 rfl) ?_
                refine va_get (ci := 7) (v := .ref (q 6)) (C := RX7) (T := TX7) (N := 10) hx hb hts hinX7 hown hK hP 0 rfl rfl 3 (by decide) lk3 (fun _ h9 => h9) rfl dX7_node_129 ?_
                refine lv_lload hx hb dX7_node_132 (lv_at hl 0 rfl) ?_
                refine lv_iload_n hx hb dX7_node_134 rfl (lv_at hl 1 rfl) ?_
                obtain ⟨v26, hc27, h⟩ := sh_b1_e h
                refine sh_cVi (As := [.long v6, .int v4]) (rest := []) hfix (k_X6_countChildren l D cI cJ cZ (q 3) (q 4) (q 5) (q 6) (q 7) (q 8) (I 1) (I 2) (I 3) (J 0) (J 1) (J 2) (B 0) (B 2) (A 1) (I 4) v6 v4 v26 hc27) (cwV 2 hts gX7_node_X6_countChildren rfl rfl rfl hdV_X6_countChildren ⟨Nat.le_of_ble_eq_true rfl, Nat.le_of_ble_eq_true rfl⟩) hP hK [6, 7, 8, 4, 5, 3] rfl 6 rfl rfl rfl hl.1 rfl (Nat.le_of_ble_eq_true rfl) dX7_node_135 ⟨Nat.zero_le _, Nat.zero_le _⟩ ?_
                exact sh_roi hx hb hr hlocks hQ (Option.some.inj h) dX7_node_138
              · rw [if_neg g13] at h
                by_cases g14 : x2 = 6
                · rw [if_pos g14] at h
                  refine lv_tableIn (off := 106) (tgt := 139) hx hb dX7_node_33 (by rw [g14]; decide) (by rw [g14]; decide) (by rw [g14]; rfl) (by decide) ?_
                  refine lv_aload_n hx hb dX7_node_139 rfl (lv_at hl 2 rfl) ?_
                  refine va_get (ci := 7) (v := .ref (q 6)) (C := RX7) (T := TX7) (N := 10) hx hb hts hinX7 hown hK hP 0 rfl rfl 3 (by decide) lk3 (fun _ h9 => h9) rfl dX7_node_140 ?_
                  refine lv_lload hx hb dX7_node_143 (lv_at hl 0 rfl) ?_
                  refine lv_iload_n hx hb dX7_node_145 rfl (lv_at hl 1 rfl) ?_
                  obtain ⟨v24, hc25, h⟩ := sh_b1_e h
                  refine sh_cVi (As := [.long v6, .int v4]) (rest := []) hfix (k_X6_depth l D cI cJ cZ (q 3) (q 4) (q 5) (q 6) (q 7) (q 8) (I 1) (I 2) (I 3) (J 0) (J 1) (J 2) (B 0) (B 2) (A 1) (I 4) v6 v4 v24 hc25) (cwV 2 hts gX7_node_X6_depth rfl rfl rfl hdV_X6_depth ⟨Nat.le_of_ble_eq_true rfl, Nat.le_of_ble_eq_true rfl⟩) hP hK [6, 7, 8, 4, 5, 3] rfl 6 rfl rfl rfl hl.1 rfl (Nat.le_of_ble_eq_true rfl) dX7_node_146 ⟨Nat.zero_le _, Nat.zero_le _⟩ ?_
                  exact sh_roi hx hb hr hlocks hQ (Option.some.inj h) dX7_node_149
                · rw [if_neg g14] at h
                  by_cases g15 : x2 = 7
                  · rw [if_pos g15] at h
                    refine lv_tableIn (off := 117) (tgt := 150) hx hb dX7_node_33 (by rw [g15]; decide) (by rw [g15]; decide) (by rw [g15]; rfl) (by decide) ?_
                    refine lv_aload_n hx hb dX7_node_150 rfl (lv_at hl 2 rfl) ?_
                    refine va_get (ci := 7) (v := .ref (q 3)) (C := RX7) (T := TX7) (N := 10) hx hb hts hinX7 hown hK hP 0 rfl rfl 1 (by decide) lk1 (fun _ h9 => h9) rfl dX7_node_151 ?_
                    refine lv_lload hx hb dX7_node_154 (lv_at hl 0 rfl) ?_
                    obtain ⟨v22, hc23, h⟩ := sh_b1_e h
                    refine sh_cVi (As := [.long v6]) (rest := []) hfix (k_X1_columnsOf l D cI cJ cZ (q 3) (I 1) (I 2) (I 3) (J 0) (J 1) (J 2) v6 v22 hc23) (cwV 1 hts gX7_node_X1_columnsOf rfl rfl rfl hdV_X1_columnsOf ⟨Nat.le_of_ble_eq_true rfl, Nat.le_of_ble_eq_true rfl⟩) hP hK [3] rfl 3 rfl rfl rfl hl.1 rfl (Nat.le_of_ble_eq_true rfl) dX7_node_156 ⟨Nat.zero_le _, Nat.zero_le _⟩ ?_
                    exact sh_roi hx hb hr hlocks hQ (Option.some.inj h) dX7_node_159
                  · rw [if_neg g15] at h
                    by_cases g16 : x2 = 8
                    · rw [if_pos g16] at h
                      refine lv_tableIn (off := 127) (tgt := 160) hx hb dX7_node_33 (by rw [g16]; decide) (by rw [g16]; decide) (by rw [g16]; rfl) (by decide) ?_
                      refine lv_aload_n hx hb dX7_node_160 rfl (lv_at hl 2 rfl) ?_
                      refine va_get (ci := 7) (v := .ref (q 3)) (C := RX7) (T := TX7) (N := 10) hx hb hts hinX7 hown hK hP 0 rfl rfl 1 (by decide) lk1 (fun _ h9 => h9) rfl dX7_node_161 ?_
                      refine lv_lload hx hb dX7_node_164 (lv_at hl 0 rfl) ?_
                      obtain ⟨v20, hc21, h⟩ := sh_b1_e h
                      refine sh_cVi (As := [.long v6]) (rest := []) hfix (k_X1_rowsOf l D cI cJ cZ (q 3) (I 1) (I 2) (I 3) (J 0) (J 1) (J 2) v6 v20 hc21) (cwV 1 hts gX7_node_X1_rowsOf rfl rfl rfl hdV_X1_rowsOf ⟨Nat.le_of_ble_eq_true rfl, Nat.le_of_ble_eq_true rfl⟩) hP hK [3] rfl 3 rfl rfl rfl hl.1 rfl (Nat.le_of_ble_eq_true rfl) dX7_node_166 ⟨Nat.zero_le _, Nat.zero_le _⟩ ?_
                      exact sh_roi hx hb hr hlocks hQ (Option.some.inj h) dX7_node_169
                    · rw [if_neg g16] at h
                      by_cases g17 : x2 = 9
                      · rw [if_pos g17] at h
                        refine lv_tableIn (off := 137) (tgt := 170) hx hb dX7_node_33 (by rw [g17]; decide) (by rw [g17]; decide) (by rw [g17]; rfl) (by decide) ?_
                        refine lv_aload_n hx hb dX7_node_170 rfl (lv_at hl 2 rfl) ?_
                        refine va_get (ci := 7) (v := .ref (q 6)) (C := RX7) (T := TX7) (N := 10) hx hb hts hinX7 hown hK hP 0 rfl rfl 3 (by decide) lk3 (fun _ h9 => h9) rfl dX7_node_171 ?_
                        refine lv_lload hx hb dX7_node_174 (lv_at hl 0 rfl) ?_
                        refine lv_iload_n hx hb dX7_node_176 rfl (lv_at hl 1 rfl) ?_
                        obtain ⟨v18, hc19, h⟩ := sh_b1_e h
                        refine sh_cVi (As := [.long v6, .int v4]) (rest := []) hfix (k_X6_rise l D cI cJ cZ (q 3) (q 4) (q 5) (q 6) (q 7) (q 8) (I 1) (I 2) (I 3) (J 0) (J 1) (J 2) (B 0) (B 2) (A 1) (I 4) v6 v4 v18 hc19) (cwV 2 hts gX7_node_X6_rise rfl rfl rfl hdV_X6_rise ⟨Nat.le_of_ble_eq_true rfl, Nat.le_of_ble_eq_true rfl⟩) hP hK [6, 7, 8, 4, 5, 3] rfl 6 rfl rfl rfl hl.1 rfl (Nat.le_of_ble_eq_true rfl) dX7_node_177 ⟨Nat.zero_le _, Nat.zero_le _⟩ ?_
                        exact sh_roi hx hb hr hlocks hQ (Option.some.inj h) dX7_node_180
                      · rw [if_neg g17] at h
                        refine lv_tableOut (tgt := 181) hx hb dX7_node_33 (by have k0 := lv_neT (a := 0) g8 rfl; have k1 := lv_neT (a := 1) g9 rfl; have k2 := lv_neT (a := 2) g10 rfl; have k3 := lv_neT (a := 3) g11 rfl; have k4 := lv_neT (a := 4) g12 rfl; have k5 := lv_neT (a := 5) g13 rfl; have k6 := lv_neT (a := 6) g14 rfl; have k7 := lv_neT (a := 7) g15 rfl; have k8 := lv_neT (a := 8) g16 rfl; have k9 := lv_neT (a := 9) g17 rfl; omega) (by decide) ?_
                        refine lv_bipush (v := -2) hx hb dX7_node_181 (by decide) ?_
                        exact sh_roi hx hb hr hlocks hQ (Option.some.inj h) dX7_node_183
  · rw [if_pos g3] at h
    refine lv_iconst (v := -1) hx hb dX7_node_11 (by decide) ?_
    exact sh_roi hx hb hr hlocks hQ (Option.some.inj h) dX7_node_12
theorem hdV_X7_dots : yX7_dots.cls = RX7 ∧ yX7_dots.cls ≠ "java/lang/invoke/MethodHandle" ∧ yX7_dots.cls ≠ "java/lang/invoke/VarHandle" ∧ (parseMethodDescriptor yX7_dots.desc).map (fun d => d.parameters.length) = some 1 := by decide +kernel
abbrev rmX7_dots : Room := { frames := 4, cells := 0, slots := 0, locals := 101 }
set_option maxHeartbeats 4000000 in
set_option maxRecDepth 100000 in
theorem k_X7_dots (l : Launch) (D : va_G) (cI cJ cZ : ClassId) (q : Nat → Nat) (I : Nat → Int32) (J : Nat → Int64) (A : Nat → Nat → Int32) (B : Nat → Nat → Int64) (x1 : Int32) (o : Int64) (h : fX7_dots I J B x1 = some o) : Met l yX7_dots wsX7_dots rmX7_dots (sh_Pr D (sh_ty cI cJ cZ) (sh_w7 q cI cJ cZ I J A B) [.ref (q 0), .int x1]) (vp_Sl (fun z => z = o)) 0 0 (fun _ => False) := by
  refine Met.ofW (cc := cX7_dots) (maxL := 2) (ret := (some .long)) (by decide) rfl ?_
  intro p e s m args below meth c s₁ hB hml hv
  obtain ⟨hargs, hP, hK⟩ := hv
  have hx := hB.exec
  have hb := hB.bytes
  have hr := hB.returns
  have hts := atoms_spec (ws := wsX7_dots) hB.pre
  have hown : s.vm.findClass RX7 = some m.cls := findClass_of_methodNamed hB.named
  have hlocks := hB.notSynchronized
  have hfix : CallFix p m c cX7_dots 2 s args wsX7_dots RX7 := ⟨hx, hb, hml, hown, hts⟩
  have hinX7 : ∀ w ∈ wsX70, w ∈ wsX7_dots := by decide +kernel
  have lk1 := hts (.fieldLink RX7 19 "ShadeTree" "grid" "LShadeTree$Grid;") (by decide +kernel)
  have lk2 := hts (.constantLong RX7 169 (-1)) (by decide +kernel)
  have lk3 := hts (.fieldLink RX7 37 "ShadeTree" "tree" "LShadeTree$Tree;") (by decide +kernel)
  rw [show entryFrame m args 2 = entryFrame m ([.ref (q 0), .int x1] : List Value).toArray 2 by rw [hargs], lg_entry_eq]
  have hl := lv_entry ([.ref (q 0), .int x1]) (n := 2) (Nat.le_of_ble_eq_true rfl)
  generalize (lg_sl ([.ref (q 0), .int x1]) ++ List.replicate (2 - (lg_sl ([.ref (q 0), .int x1])).length) Slot.unset).toArray = ls at hl ⊢
  have hl : lv_has ls 2 [(0, .ref (q 0)), (1, .int x1)] := hl
  generalize hQ : MQ below (vp_Sl (fun z => z = o)) args s 0 0 (fun _ => False) = Q
  unfold fX7_dots at h
  refine lv_aload_n hx hb dX7_dots_0 rfl (lv_at hl 0 rfl) ?_
  refine va_get (ci := 7) (v := .ref (q 3)) (C := RX7) (T := TX7) (N := 10) hx hb hts hinX7 hown hK hP 0 rfl rfl 1 (by decide) lk1 (fun _ h9 => h9) rfl dX7_dots_1 ?_
  refine lv_iload_n hx hb dX7_dots_4 rfl (lv_at hl 1 rfl) ?_
  obtain ⟨v1, hc2, h⟩ := sh_b1_e h
  refine sh_cVi (As := [.int x1]) (rest := []) hfix (k_X1_hasDot l D cI cJ cZ (q 3) (I 1) (I 2) (I 3) (J 0) (J 1) (J 2) x1 v1 hc2) (cwV 1 hts gX7_dots_X1_hasDot rfl rfl rfl hdV_X1_hasDot ⟨Nat.le_of_ble_eq_true rfl, Nat.le_of_ble_eq_true rfl⟩) hP hK [3] rfl 3 rfl rfl rfl hl.1 rfl (Nat.le_of_ble_eq_true rfl) dX7_dots_5 ⟨Nat.zero_le _, Nat.zero_le _⟩ ?_
  refine lv_if_eq (tgt := 22) hx hb dX7_dots_8 (by decide) (fun g3 => ?_) (fun g3 => ?_)
  · rw [if_pos g3] at h
    refine lv_ldc2 hx hb hown lk2 dX7_dots_22 ?_
    exact sh_rol hx hb hr hlocks hQ (Option.some.inj h) dX7_dots_25
  · rw [if_neg g3] at h
    refine lv_aload_n hx hb dX7_dots_11 rfl (lv_at hl 0 rfl) ?_
    refine va_get (ci := 7) (v := .ref (q 6)) (C := RX7) (T := TX7) (N := 10) hx hb hts hinX7 hown hK hP 0 rfl rfl 3 (by decide) lk3 (fun _ h9 => h9) rfl dX7_dots_12 ?_
    refine lv_iload_n hx hb dX7_dots_15 rfl (lv_at hl 1 rfl) ?_
    obtain ⟨v4, hc5, h⟩ := sh_b1_e h
    refine sh_cVl (As := [.int x1]) (rest := []) hfix (k_X6_nodeOf l D cI cJ cZ (q 3) (q 4) (q 5) (q 6) (q 7) (q 8) (I 1) (I 2) (I 3) (J 0) (J 1) (J 2) (B 0) (B 2) (A 1) (I 4) x1 v4 hc5) (cwV 1 hts gX7_dots_X6_nodeOf rfl rfl rfl hdV_X6_nodeOf ⟨Nat.le_of_ble_eq_true rfl, Nat.le_of_ble_eq_true rfl⟩) hP hK [6, 7, 8, 4, 5, 3] rfl 6 rfl rfl rfl hl.1 rfl (Nat.le_of_ble_eq_true rfl) dX7_dots_16 ⟨Nat.zero_le _, Nat.zero_le _⟩ ?_
    refine lv_goto (tgt := 25) hx hb dX7_dots_19 (by decide) ?_
    exact sh_rol hx hb hr hlocks hQ (Option.some.inj h) dX7_dots_25
theorem hdV_X7_parts : yX7_parts.cls = RX7 ∧ yX7_parts.cls ≠ "java/lang/invoke/MethodHandle" ∧ yX7_parts.cls ≠ "java/lang/invoke/VarHandle" ∧ (parseMethodDescriptor yX7_parts.desc).map (fun d => d.parameters.length) = some 1 := by decide +kernel
abbrev rmX7_parts : Room := { frames := 3, cells := 0, slots := 0, locals := 83 }
set_option maxHeartbeats 4000000 in
set_option maxRecDepth 100000 in
theorem k_X7_parts (l : Launch) (D : va_G) (cI cJ cZ : ClassId) (q : Nat → Nat) (I : Nat → Int32) (J : Nat → Int64) (A : Nat → Nat → Int32) (B : Nat → Nat → Int64) (x1 : Int32) (o : Int32) (h : fX7_parts I J B x1 = some o) : Met l yX7_parts wsX7_parts rmX7_parts (sh_Pr D (sh_ty cI cJ cZ) (sh_w7 q cI cJ cZ I J A B) [.ref (q 0), .int x1]) (vp_Si (fun z => z = o)) 0 0 (fun _ => False) := by
  refine Met.ofW (cc := cX7_parts) (maxL := 2) (ret := (some .int)) (by decide) rfl ?_
  intro p e s m args below meth c s₁ hB hml hv
  obtain ⟨hargs, hP, hK⟩ := hv
  have hx := hB.exec
  have hb := hB.bytes
  have hr := hB.returns
  have hts := atoms_spec (ws := wsX7_parts) hB.pre
  have hown : s.vm.findClass RX7 = some m.cls := findClass_of_methodNamed hB.named
  have hlocks := hB.notSynchronized
  have hfix : CallFix p m c cX7_parts 2 s args wsX7_parts RX7 := ⟨hx, hb, hml, hown, hts⟩
  have hinX7 : ∀ w ∈ wsX70, w ∈ wsX7_parts := by decide +kernel
  have lk1 := hts (.fieldLink RX7 19 "ShadeTree" "grid" "LShadeTree$Grid;") (by decide +kernel)
  have lk2 := hts (.fieldLink RX7 28 "ShadeTree" "now" "LShadeTree$Shades;") (by decide +kernel)
  rw [show entryFrame m args 2 = entryFrame m ([.ref (q 0), .int x1] : List Value).toArray 2 by rw [hargs], lg_entry_eq]
  have hl := lv_entry ([.ref (q 0), .int x1]) (n := 2) (Nat.le_of_ble_eq_true rfl)
  generalize (lg_sl ([.ref (q 0), .int x1]) ++ List.replicate (2 - (lg_sl ([.ref (q 0), .int x1])).length) Slot.unset).toArray = ls at hl ⊢
  have hl : lv_has ls 2 [(0, .ref (q 0)), (1, .int x1)] := hl
  generalize hQ : MQ below (vp_Si (fun z => z = o)) args s 0 0 (fun _ => False) = Q
  unfold fX7_parts at h
  refine lv_iload_n hx hb dX7_parts_0 rfl (lv_at hl 1 rfl) ?_
  obtain ⟨v1, hc2, h⟩ := sh_b1_e h
  refine sh_cSi (As := [.int x1]) (rest := []) hfix (k_X7_isShade l D cI cJ cZ x1 v1 hc2) (va_cwS 1 hts gX7_parts_X7_isShade rfl rfl rfl hdS_X7_isShade ⟨Nat.le_of_ble_eq_true rfl, Nat.le_of_ble_eq_true rfl⟩) hP hK [] rfl rfl hl.1 rfl (Nat.le_of_ble_eq_true rfl) dX7_parts_1 ⟨Nat.zero_le _, Nat.zero_le _⟩ ?_
  refine lv_if_eq (tgt := 32) hx hb dX7_parts_4 (by decide) (fun g3 => ?_) (fun g3 => ?_)
  · rw [if_pos g3] at h
    refine lv_bipush (v := -2) hx hb dX7_parts_32 (by decide) ?_
    exact sh_roi hx hb hr hlocks hQ (Option.some.inj h) dX7_parts_34
  · rw [if_neg g3] at h
    refine lv_aload_n hx hb dX7_parts_7 rfl (lv_at hl 0 rfl) ?_
    refine va_get (ci := 7) (v := .ref (q 3)) (C := RX7) (T := TX7) (N := 10) hx hb hts hinX7 hown hK hP 0 rfl rfl 1 (by decide) lk1 (fun _ h9 => h9) rfl dX7_parts_8 ?_
    refine lv_aload_n hx hb dX7_parts_11 rfl (lv_at hl 0 rfl) ?_
    refine va_get (ci := 7) (v := .ref (q 4)) (C := RX7) (T := TX7) (N := 10) hx hb hts hinX7 hown hK hP 0 rfl rfl 2 (by decide) lk2 (fun _ h9 => h9) rfl dX7_parts_12 ?_
    refine lv_iload_n hx hb dX7_parts_15 rfl (lv_at hl 1 rfl) ?_
    obtain ⟨v4, hc5, h⟩ := sh_b1_e h
    refine sh_cVl (As := [.int x1]) (rest := [.ref (q 3)]) hfix (k_X2_atLeast l D cI cJ cZ (q 3) (q 4) (q 5) (I 1) (I 2) (I 3) (J 0) (J 1) (J 2) (B 0) x1 v4 hc5) (cwV 1 hts gX7_parts_X2_atLeast rfl rfl rfl hdV_X2_atLeast ⟨Nat.le_of_ble_eq_true rfl, Nat.le_of_ble_eq_true rfl⟩) hP hK [4, 5, 3] rfl 4 rfl rfl rfl hl.1 rfl (Nat.le_of_ble_eq_true rfl) dX7_parts_16 ⟨Nat.zero_le _, Nat.zero_le _⟩ ?_
    refine lv_aload_n hx hb dX7_parts_19 rfl (lv_at hl 0 rfl) ?_
    refine va_get (ci := 7) (v := .ref (q 3)) (C := RX7) (T := TX7) (N := 10) hx hb hts hinX7 hown hK hP 0 rfl rfl 1 (by decide) lk1 (fun _ h9 => h9) rfl dX7_parts_20 ?_
    obtain ⟨v6, hc7, h⟩ := sh_b1_e h
    refine sh_cVi (As := []) (rest := [.long v4, .ref (q 3)]) hfix (k_X1_way l D cI cJ cZ (q 3) (I 1) (I 2) (I 3) (J 0) (J 1) (J 2) v6 hc7) (cwV 0 hts gX7_parts_X1_way rfl rfl rfl hdV_X1_way ⟨Nat.le_of_ble_eq_true rfl, Nat.le_of_ble_eq_true rfl⟩) hP hK [3] rfl 3 rfl rfl rfl hl.1 rfl (Nat.le_of_ble_eq_true rfl) dX7_parts_23 ⟨Nat.zero_le _, Nat.zero_le _⟩ ?_
    obtain ⟨v8, hc9, h⟩ := sh_b1_e h
    refine sh_cVi (As := [.long v4, .int v6]) (rest := []) hfix (k_X1_countParts l D cI cJ cZ (q 3) (I 1) (I 2) (I 3) (J 0) (J 1) (J 2) v4 v6 v8 hc9) (cwV 2 hts gX7_parts_X1_countParts rfl rfl rfl hdV_X1_countParts ⟨Nat.le_of_ble_eq_true rfl, Nat.le_of_ble_eq_true rfl⟩) hP hK [3] rfl 3 rfl rfl rfl hl.1 rfl (Nat.le_of_ble_eq_true rfl) dX7_parts_26 ⟨Nat.zero_le _, Nat.zero_le _⟩ ?_
    refine lv_goto (tgt := 34) hx hb dX7_parts_29 (by decide) ?_
    exact sh_roi hx hb hr hlocks hQ (Option.some.inj h) dX7_parts_34
theorem hdV_X7_paint : yX7_paint.cls = RX7 ∧ yX7_paint.cls ≠ "java/lang/invoke/MethodHandle" ∧ yX7_paint.cls ≠ "java/lang/invoke/VarHandle" ∧ (parseMethodDescriptor yX7_paint.desc).map (fun d => d.parameters.length) = some 2 := by decide +kernel
abbrev rmX7_paint : Room := { frames := 3, cells := 0, slots := 0, locals := 83 }
set_option maxHeartbeats 4000000 in
set_option maxRecDepth 100000 in
theorem k_X7_paint (l : Launch) (D : va_G) (cI cJ cZ : ClassId) (sz : Nat) (q : Nat → Nat) (I : Nat → Int32) (J : Nat → Int64) (A : Nat → Nat → Int32) (B : Nat → Nat → Int64) (x1 : Int32) (x2 : Int32) (o : Int32) (oI : Nat → Int32) (oB : Nat → Nat → Int64) (h : fX7_paint I B x1 x2 = some (o, oI, oB)) : Met l yX7_paint wsX7_paint rmX7_paint (sh_Pw D (sh_ty cI cJ cZ) sz (sh_w7 q cI cJ cZ I J A B) [.ref (q 0), .int x1, .int x2]) (sh_Qi D (sh_ty cI cJ cZ) (va_A (sh_w7 q cI cJ cZ I J A B) sz) (sh_w7 q cI cJ cZ oI J A oB) o) 0 0 (va_A (sh_w7 q cI cJ cZ I J A B) sz) := by
  refine Met.ofW (cc := cX7_paint) (maxL := 4) (ret := (some .int)) (by decide) rfl ?_
  intro p e s m args below meth c s₁ hB hml hv
  obtain ⟨hargs, hsz, hP, hK, hD0⟩ := hv
  have hx := hB.exec
  have hb := hB.bytes
  have hr := hB.returns
  have hts := atoms_spec (ws := wsX7_paint) hB.pre
  have hown : s.vm.findClass RX7 = some m.cls := findClass_of_methodNamed hB.named
  have hlocks := hB.notSynchronized
  have hfix : CallFix p m c cX7_paint 4 s args wsX7_paint RX7 := ⟨hx, hb, hml, hown, hts⟩
  have hinX7 : ∀ w ∈ wsX70, w ∈ wsX7_paint := by decide +kernel
  have lk1 := hts (.fieldLink RX7 19 "ShadeTree" "grid" "LShadeTree$Grid;") (by decide +kernel)
  have lk2 := hts (.fieldLink RX7 28 "ShadeTree" "now" "LShadeTree$Shades;") (by decide +kernel)
  have lk3 := hts (.fieldLink RX7 50 "ShadeTree" "doings" "LShadeTree$Doings;") (by decide +kernel)
  rw [show entryFrame m args 4 = entryFrame m ([.ref (q 0), .int x1, .int x2] : List Value).toArray 4 by rw [hargs], lg_entry_eq]
  have hl := lv_entry ([.ref (q 0), .int x1, .int x2]) (n := 4) (Nat.le_of_ble_eq_true rfl)
  generalize (lg_sl ([.ref (q 0), .int x1, .int x2]) ++ List.replicate (4 - (lg_sl ([.ref (q 0), .int x1, .int x2])).length) Slot.unset).toArray = ls at hl ⊢
  have hl : lv_has ls 4 [(0, .ref (q 0)), (1, .int x1), (2, .int x2)] := hl
  subst hsz
  have hD := hD0.self (sz := s.heap.size)
  generalize hAe : va_A (sh_w7 q cI cJ cZ I J A B) s.heap.size = Az at hD ⊢
  have hA : ∀ q : Nat, s.heap.size ≤ q → Az q := fun q h => by rw [← hAe]; exact Or.inr h
  have hS : va_S Az s.heap s.heap [] := va_S.rf
  generalize hQ : MQ below (sh_Qi D (sh_ty cI cJ cZ) Az (sh_w7 q cI cJ cZ oI J A oB) o) args s 0 0 Az = Q
  unfold fX7_paint at h
  refine lv_aload_n hx hb dX7_paint_0 rfl (lv_at hl 0 rfl) ?_
  refine va_get (ci := 7) (v := .ref (q 3)) (C := RX7) (T := TX7) (N := 10) hx hb hts hinX7 hown hK hP 0 rfl rfl 1 (by decide) lk1 (fun _ h9 => h9) rfl dX7_paint_1 ?_
  refine lv_iload_n hx hb dX7_paint_4 rfl (lv_at hl 1 rfl) ?_
  obtain ⟨v1, hc2, h⟩ := sh_b1_e h
  refine sh_cVi (As := [.int x1]) (rest := []) hfix (k_X1_hasDot l D cI cJ cZ (q 3) (I 1) (I 2) (I 3) (J 0) (J 1) (J 2) x1 v1 hc2) (cwV 1 hts gX7_paint_X1_hasDot rfl rfl rfl hdV_X1_hasDot ⟨Nat.le_of_ble_eq_true rfl, Nat.le_of_ble_eq_true rfl⟩) hP hK [3] rfl 3 rfl rfl rfl hl.1 rfl (Nat.le_of_ble_eq_true rfl) dX7_paint_5 ⟨Nat.zero_le _, Nat.zero_le _⟩ ?_
  refine lv_if_ne (tgt := 13) hx hb dX7_paint_8 (by decide) (fun g3 => ?_) (fun g3 => ?_)
  · rw [if_neg g3] at h
    refine lv_iload_n hx hb dX7_paint_13 rfl (lv_at hl 2 rfl) ?_
    obtain ⟨v4, hc5, h⟩ := sh_b1_e h
    refine sh_cSi (As := [.int x2]) (rest := []) hfix (k_X7_isShade l D cI cJ cZ x2 v4 hc5) (va_cwS 1 hts gX7_paint_X7_isShade rfl rfl rfl hdS_X7_isShade ⟨Nat.le_of_ble_eq_true rfl, Nat.le_of_ble_eq_true rfl⟩) hP hK [] rfl rfl hl.1 rfl (Nat.le_of_ble_eq_true rfl) dX7_paint_14 ⟨Nat.zero_le _, Nat.zero_le _⟩ ?_
    refine lv_if_ne (tgt := 23) hx hb dX7_paint_17 (by decide) (fun g6 => ?_) (fun g6 => ?_)
    · rw [if_neg g6] at h
      refine lv_aload_n hx hb dX7_paint_23 rfl (lv_at hl 0 rfl) ?_
      refine va_get (ci := 7) (v := .ref (q 4)) (C := RX7) (T := TX7) (N := 10) hx hb hts hinX7 hown hK hP 0 rfl rfl 2 (by decide) lk2 (fun _ h9 => h9) rfl dX7_paint_24 ?_
      refine lv_iload_n hx hb dX7_paint_27 rfl (lv_at hl 1 rfl) ?_
      obtain ⟨v7, hc8, h⟩ := sh_b1_e h
      refine sh_cVi (As := [.int x1]) (rest := []) hfix (k_X2_of l D cI cJ cZ (q 3) (q 4) (q 5) (I 1) (I 2) (I 3) (J 0) (J 1) (J 2) (B 0) x1 v7 hc8) (cwV 1 hts gX7_paint_X2_of rfl rfl rfl hdV_X2_of ⟨Nat.le_of_ble_eq_true rfl, Nat.le_of_ble_eq_true rfl⟩) hP hK [4, 5, 3] rfl 4 rfl rfl rfl hl.1 rfl (Nat.le_of_ble_eq_true rfl) dX7_paint_28 ⟨Nat.zero_le _, Nat.zero_le _⟩ ?_
      refine lv_istore_n (lv' := [(3, .int v7), (0, .ref (q 0)), (1, .int x1), (2, .int x2)]) hx hb dX7_paint_31 rfl hl (by decide) rfl (fun ls hl => ?_)
      refine lv_aload_n hx hb dX7_paint_32 rfl (lv_at hl 1 rfl) ?_
      refine va_get (ci := 7) (v := .ref (q 14)) (C := RX7) (T := TX7) (N := 10) hx hb hts hinX7 hown hK hP 0 rfl rfl 6 (by decide) lk3 (fun _ h9 => h9) rfl dX7_paint_33 ?_
      refine lv_aload_n hx hb dX7_paint_36 rfl (lv_at hl 1 rfl) ?_
      refine va_get (ci := 7) (v := .ref (q 4)) (C := RX7) (T := TX7) (N := 10) hx hb hts hinX7 hown hK hP 0 rfl rfl 2 (by decide) lk2 (fun _ h9 => h9) rfl dX7_paint_37 ?_
      obtain ⟨u9, u10, hc11, h⟩ := sh_b2_e h
      refine sh_wVv (wn := (sh_w7 q cI cJ cZ (upd I 6 u10) J A (va_up B 4 u9))) (As := [.ref (q 4)]) (rest := []) hfix (k_X0_add l D cI cJ cZ _ (q 14) (q 15) (q 3) (q 4) (q 5) (B 4) (I 6) (B 0) u9 u10 hc11) (cwV 1 hts gX7_paint_X0_add rfl rfl rfl hdV_X0_add ⟨Nat.le_of_ble_eq_true rfl, Nat.le_of_ble_eq_true rfl⟩) hP hK hD hS hA [14, 15, 4, 5] [0, 1, 2, 3, 6, 7, 8, 9, 10, 11, 12, 13, 16, 17, 18, 19, 20, 21, 22] [0, 1, 2, 3, 21, 22, 4, 5, 6, 7, 8, 9, 10, 11, 19, 20, 12, 13, 14, 15, 16, 17, 18] rfl rfl rfl rfl rfl rfl rfl 14 rfl rfl rfl hl.1 rfl (Nat.le_of_ble_eq_true rfl) dX7_paint_40 ⟨Nat.zero_le _, Nat.zero_le _⟩ (fun H locs hP hD hS => ?_)
      refine lv_aload_n hx hb dX7_paint_43 rfl (lv_at hl 1 rfl) ?_
      refine va_get (ci := 7) (v := .ref (q 4)) (C := RX7) (T := TX7) (N := 10) hx hb hts hinX7 hown hK hP 0 rfl rfl 2 (by decide) lk2 (fun _ h9 => h9) rfl dX7_paint_44 ?_
      refine lv_iload_n hx hb dX7_paint_47 rfl (lv_at hl 2 rfl) ?_
      refine lv_iload_n hx hb dX7_paint_48 rfl (lv_at hl 3 rfl) ?_
      obtain ⟨u12, hc13, h⟩ := sh_b1_e h
      refine sh_wVv (wn := (sh_w7 q cI cJ cZ (upd I 6 u10) J A (va_up (va_up B 4 u9) 0 u12))) (As := [.int x1, .int x2]) (rest := []) hfix (k_X2_set l D cI cJ cZ _ (q 3) (q 4) (q 5) (I 1) (I 2) (I 3) (J 0) (J 1) (J 2) (B 0) x1 x2 u12 hc13) (cwV 2 hts gX7_paint_X2_set rfl rfl rfl hdV_X2_set ⟨Nat.le_of_ble_eq_true rfl, Nat.le_of_ble_eq_true rfl⟩) hP hK hD hS hA [4, 5, 3] [0, 1, 2, 6, 7, 8, 9, 10, 11, 12, 13, 14, 15, 16, 17, 18, 19, 20, 21, 22] [0, 1, 2, 22, 20, 21, 3, 4, 5, 6, 7, 8, 9, 10, 11, 12, 13, 14, 15, 16, 17, 18, 19] rfl rfl rfl rfl rfl rfl rfl 4 rfl rfl rfl hl.1 rfl (Nat.le_of_ble_eq_true rfl) dX7_paint_49 ⟨Nat.zero_le _, Nat.zero_le _⟩ (fun H locs hP hD hS => ?_)
      refine lv_iload_n hx hb dX7_paint_52 rfl (lv_at hl 0 rfl) ?_
      cases h
      exact sh_rwi hx hb hr hlocks hQ hK hP hD hS dX7_paint_53
    · rw [if_pos g6] at h
      refine lv_bipush (v := -2) hx hb dX7_paint_20 (by decide) ?_
      cases h
      exact sh_rwi hx hb hr hlocks hQ hK hP hD hS dX7_paint_22
  · rw [if_pos g3] at h
    refine lv_iconst (v := -1) hx hb dX7_paint_11 (by decide) ?_
    cases h
    exact sh_rwi hx hb hr hlocks hQ hK hP hD hS dX7_paint_12
theorem hdV_X7_negative : yX7_negative.cls = RX7 ∧ yX7_negative.cls ≠ "java/lang/invoke/MethodHandle" ∧ yX7_negative.cls ≠ "java/lang/invoke/VarHandle" ∧ (parseMethodDescriptor yX7_negative.desc).map (fun d => d.parameters.length) = some 0 := by decide +kernel
abbrev rmX7_negative : Room := { frames := 5, cells := 0, slots := 0, locals := 125 }
set_option maxHeartbeats 4000000 in
set_option maxRecDepth 100000 in
theorem k_X7_negative (l : Launch) (D : va_G) (cI cJ cZ : ClassId) (sz : Nat) (q : Nat → Nat) (I : Nat → Int32) (J : Nat → Int64) (A : Nat → Nat → Int32) (B : Nat → Nat → Int64) (o : Int32) (oI : Nat → Int32) (oA : Nat → Nat → Int32) (oB : Nat → Nat → Int64) (h : fX7_negative I J A B = some (o, oI, oA, oB)) : Met l yX7_negative wsX7_negative rmX7_negative (sh_Pw D (sh_ty cI cJ cZ) sz (sh_w7 q cI cJ cZ I J A B) [.ref (q 0)]) (sh_Qi D (sh_ty cI cJ cZ) (va_A (sh_w7 q cI cJ cZ I J A B) sz) (sh_w7 q cI cJ cZ oI J oA oB) o) 0 0 (va_A (sh_w7 q cI cJ cZ I J A B) sz) := by
  refine Met.ofW (cc := cX7_negative) (maxL := 1) (ret := (some .int)) (by decide) rfl ?_
  intro p e s m args below meth c s₁ hB hml hv
  obtain ⟨hargs, hsz, hP, hK, hD0⟩ := hv
  have hx := hB.exec
  have hb := hB.bytes
  have hr := hB.returns
  have hts := atoms_spec (ws := wsX7_negative) hB.pre
  have hown : s.vm.findClass RX7 = some m.cls := findClass_of_methodNamed hB.named
  have hlocks := hB.notSynchronized
  have hfix : CallFix p m c cX7_negative 1 s args wsX7_negative RX7 := ⟨hx, hb, hml, hown, hts⟩
  have hinX7 : ∀ w ∈ wsX70, w ∈ wsX7_negative := by decide +kernel
  have lk1 := hts (.fieldLink RX7 50 "ShadeTree" "doings" "LShadeTree$Doings;") (by decide +kernel)
  have lk2 := hts (.fieldLink RX7 28 "ShadeTree" "now" "LShadeTree$Shades;") (by decide +kernel)
  have lk3 := hts (.fieldLink RX7 37 "ShadeTree" "tree" "LShadeTree$Tree;") (by decide +kernel)
  rw [show entryFrame m args 1 = entryFrame m ([.ref (q 0)] : List Value).toArray 1 by rw [hargs], lg_entry_eq]
  have hl := lv_entry ([.ref (q 0)]) (n := 1) (Nat.le_of_ble_eq_true rfl)
  generalize (lg_sl ([.ref (q 0)]) ++ List.replicate (1 - (lg_sl ([.ref (q 0)])).length) Slot.unset).toArray = ls at hl ⊢
  have hl : lv_has ls 1 [(0, .ref (q 0))] := hl
  subst hsz
  have hD := hD0.self (sz := s.heap.size)
  generalize hAe : va_A (sh_w7 q cI cJ cZ I J A B) s.heap.size = Az at hD ⊢
  have hA : ∀ q : Nat, s.heap.size ≤ q → Az q := fun q h => by rw [← hAe]; exact Or.inr h
  have hS : va_S Az s.heap s.heap [] := va_S.rf
  generalize hQ : MQ below (sh_Qi D (sh_ty cI cJ cZ) Az (sh_w7 q cI cJ cZ oI J oA oB) o) args s 0 0 Az = Q
  unfold fX7_negative at h
  refine lv_aload_n hx hb dX7_negative_0 rfl (lv_at hl 0 rfl) ?_
  refine va_get (ci := 7) (v := .ref (q 14)) (C := RX7) (T := TX7) (N := 10) hx hb hts hinX7 hown hK hP 0 rfl rfl 6 (by decide) lk1 (fun _ h9 => h9) rfl dX7_negative_1 ?_
  refine lv_aload_n hx hb dX7_negative_4 rfl (lv_at hl 0 rfl) ?_
  refine va_get (ci := 7) (v := .ref (q 4)) (C := RX7) (T := TX7) (N := 10) hx hb hts hinX7 hown hK hP 0 rfl rfl 2 (by decide) lk2 (fun _ h9 => h9) rfl dX7_negative_5 ?_
  obtain ⟨u1, u2, hc3, h⟩ := sh_b2_e h
  refine sh_wVv (wn := (sh_w7 q cI cJ cZ (upd I 6 u2) J A (va_up B 4 u1))) (As := [.ref (q 4)]) (rest := []) hfix (k_X0_add l D cI cJ cZ _ (q 14) (q 15) (q 3) (q 4) (q 5) (B 4) (I 6) (B 0) u1 u2 hc3) (cwV 1 hts gX7_negative_X0_add rfl rfl rfl hdV_X0_add ⟨Nat.le_of_ble_eq_true rfl, Nat.le_of_ble_eq_true rfl⟩) hP hK hD hS hA [14, 15, 4, 5] [0, 1, 2, 3, 6, 7, 8, 9, 10, 11, 12, 13, 16, 17, 18, 19, 20, 21, 22] [0, 1, 2, 3, 21, 22, 4, 5, 6, 7, 8, 9, 10, 11, 19, 20, 12, 13, 14, 15, 16, 17, 18] rfl rfl rfl rfl rfl rfl rfl 14 rfl rfl rfl hl.1 rfl (Nat.le_of_ble_eq_true rfl) dX7_negative_8 ⟨Nat.zero_le _, Nat.zero_le _⟩ (fun H locs hP hD hS => ?_)
  refine lv_aload_n hx hb dX7_negative_11 rfl (lv_at hl 0 rfl) ?_
  refine va_get (ci := 7) (v := .ref (q 4)) (C := RX7) (T := TX7) (N := 10) hx hb hts hinX7 hown hK hP 0 rfl rfl 2 (by decide) lk2 (fun _ h9 => h9) rfl dX7_negative_12 ?_
  obtain ⟨u4, hc5, h⟩ := sh_b1_e h
  refine sh_wVv (wn := (sh_w7 q cI cJ cZ (upd I 6 u2) J A (va_up (va_up B 4 u1) 0 u4))) (As := []) (rest := []) hfix (k_X2_turn l D cI cJ cZ _ (q 3) (q 4) (q 5) (I 1) (I 2) (I 3) (J 0) (J 1) (J 2) (B 0) u4 hc5) (cwV 0 hts gX7_negative_X2_turn rfl rfl rfl hdV_X2_turn ⟨Nat.le_of_ble_eq_true rfl, Nat.le_of_ble_eq_true rfl⟩) hP hK hD hS hA [4, 5, 3] [0, 1, 2, 6, 7, 8, 9, 10, 11, 12, 13, 14, 15, 16, 17, 18, 19, 20, 21, 22] [0, 1, 2, 22, 20, 21, 3, 4, 5, 6, 7, 8, 9, 10, 11, 12, 13, 14, 15, 16, 17, 18, 19] rfl rfl rfl rfl rfl rfl rfl 4 rfl rfl rfl hl.1 rfl (Nat.le_of_ble_eq_true rfl) dX7_negative_15 ⟨Nat.zero_le _, Nat.zero_le _⟩ (fun H locs hP hD hS => ?_)
  refine lv_aload_n hx hb dX7_negative_18 rfl (lv_at hl 0 rfl) ?_
  refine va_get (ci := 7) (v := .ref (q 6)) (C := RX7) (T := TX7) (N := 10) hx hb hts hinX7 hown hK hP 0 rfl rfl 3 (by decide) lk3 (fun _ h9 => h9) rfl dX7_negative_19 ?_
  obtain ⟨v6, u7, u8, u9, hc10, h⟩ := sh_b4_e h
  refine sh_wVi (wn := (sh_w7 q cI cJ cZ (upd (upd I 6 u2) 4 u9) J (va_up A 1 u8) (va_up (va_up (va_up B 4 u1) 0 u4) 2 u7))) (As := []) (rest := []) hfix (k_X6_countNodes l D cI cJ cZ _ (q 3) (q 4) (q 5) (q 6) (q 7) (q 8) (I 1) (I 2) (I 3) (J 0) (J 1) (J 2) u4 (B 2) (A 1) (I 4) v6 u7 u8 u9 hc10) (cwV 0 hts gX7_negative_X6_countNodes rfl rfl rfl hdV_X6_countNodes ⟨Nat.le_of_ble_eq_true rfl, Nat.le_of_ble_eq_true rfl⟩) hP hK hD hS hA [6, 7, 8, 4, 5, 3] [0, 1, 2, 9, 10, 11, 12, 13, 14, 15, 16, 17, 18, 19, 20, 21, 22] [0, 1, 2, 22, 20, 21, 17, 18, 19, 3, 4, 5, 6, 7, 8, 9, 10, 11, 12, 13, 14, 15, 16] rfl rfl rfl rfl rfl rfl rfl 6 rfl rfl rfl hl.1 rfl (Nat.le_of_ble_eq_true rfl) dX7_negative_22 ⟨Nat.zero_le _, Nat.zero_le _⟩ (fun H locs hP hD hS => ?_)
  cases h
  exact sh_rwi hx hb hr hlocks hQ hK hP hD hS dX7_negative_25
theorem hdS_X7_isSieve : yX7_isSieve.cls ≠ "java/lang/invoke/MethodHandle" ∧ yX7_isSieve.cls ≠ "java/lang/invoke/VarHandle" ∧ (parseMethodDescriptor yX7_isSieve.desc).map (fun d => d.parameters.length) = some 2 := by decide +kernel
abbrev rmX7_isSieve : Room := { frames := 0, cells := 0, slots := 0, locals := 0 }
set_option maxHeartbeats 4000000 in
set_option maxRecDepth 100000 in
theorem k_X7_isSieve (l : Launch) (D : va_G) (cI cJ cZ : ClassId) (x0 : Int32) (x1 : Int32) (o : Int32) (h : fX7_isSieve x0 x1 = some o) : Met l yX7_isSieve wsX7_isSieve rmX7_isSieve (sh_Pr D (sh_ty cI cJ cZ) [] [.int x0, .int x1]) (vp_Si (fun z => z = o)) 0 0 (fun _ => False) := by
  refine Met.ofW (cc := cX7_isSieve) (maxL := 2) (ret := (some .boolean)) (by decide) rfl ?_
  intro p e s m args below meth c s₁ hB hml hv
  obtain ⟨hargs, hP, hK⟩ := hv
  have hx := hB.exec
  have hb := hB.bytes
  have hr := hB.returns
  have hts := atoms_spec (ws := wsX7_isSieve) hB.pre
  have hown : s.vm.findClass RX7 = some m.cls := findClass_of_methodNamed hB.named
  have hlocks := hB.notSynchronized
  have hfix : CallFix p m c cX7_isSieve 2 s args wsX7_isSieve RX7 := ⟨hx, hb, hml, hown, hts⟩
  rw [show entryFrame m args 2 = entryFrame m ([.int x0, .int x1] : List Value).toArray 2 by rw [hargs], lg_entry_eq]
  have hl := lv_entry ([.int x0, .int x1]) (n := 2) (Nat.le_of_ble_eq_true rfl)
  generalize (lg_sl ([.int x0, .int x1]) ++ List.replicate (2 - (lg_sl ([.int x0, .int x1])).length) Slot.unset).toArray = ls at hl ⊢
  have hl : lv_has ls 2 [(0, .int x0), (1, .int x1)] := hl
  generalize hQ : MQ below (vp_Si (fun z => z = o)) args s 0 0 (fun _ => False) = Q
  unfold fX7_isSieve at h
  refine lv_iload_n hx hb dX7_isSieve_0 rfl (lv_at hl 0 rfl) ?_
  refine lv_if_ne (tgt := 21) hx hb dX7_isSieve_1 (by decide) (fun g1 => ?_) (fun g1 => ?_)
  · rw [if_neg g1] at h
    refine lv_iload_n hx hb dX7_isSieve_21 rfl (lv_at hl 0 rfl) ?_
    refine lv_iconst (v := 1) hx hb dX7_isSieve_22 (by decide) ?_
    refine lv_icmp_ne (tgt := 41) hx hb dX7_isSieve_23 (by decide) (fun g2 => ?_) (fun g2 => ?_)
    · rw [if_neg g2] at h
      refine lv_iconst (v := 0) hx hb dX7_isSieve_41 (by decide) ?_
      exact sh_roz hx hb hr hlocks hQ ⟨rfl, (Option.some.inj h)⟩ dX7_isSieve_42
    · rw [if_pos g2] at h
      refine lv_iload_n hx hb dX7_isSieve_26 rfl (lv_at hl 1 rfl) ?_
      refine lv_iconst (v := 1) hx hb dX7_isSieve_27 (by decide) ?_
      refine lv_icmp_lt (tgt := 41) hx hb dX7_isSieve_28 (by decide) (fun g3 => ?_) (fun g3 => ?_)
      · rw [if_pos g3] at h
        refine lv_iconst (v := 0) hx hb dX7_isSieve_41 (by decide) ?_
        exact sh_roz hx hb hr hlocks hQ ⟨rfl, (Option.some.inj h)⟩ dX7_isSieve_42
      · rw [if_neg g3] at h
        refine lv_iload_n hx hb dX7_isSieve_31 rfl (lv_at hl 1 rfl) ?_
        refine lv_bipush (v := 6) hx hb dX7_isSieve_32 (by decide) ?_
        refine lv_icmp_gt (tgt := 41) hx hb dX7_isSieve_34 (by decide) (fun g4 => ?_) (fun g4 => ?_)
        · rw [if_pos g4] at h
          refine lv_iconst (v := 0) hx hb dX7_isSieve_41 (by decide) ?_
          exact sh_roz hx hb hr hlocks hQ ⟨rfl, (Option.some.inj h)⟩ dX7_isSieve_42
        · rw [if_neg g4] at h
          refine lv_iconst (v := 1) hx hb dX7_isSieve_37 (by decide) ?_
          refine lv_goto (tgt := 42) hx hb dX7_isSieve_38 (by decide) ?_
          exact sh_roz hx hb hr hlocks hQ ⟨rfl, (Option.some.inj h)⟩ dX7_isSieve_42
  · rw [if_pos g1] at h
    refine lv_iload_n hx hb dX7_isSieve_4 rfl (lv_at hl 1 rfl) ?_
    refine lv_iconst (v := 1) hx hb dX7_isSieve_5 (by decide) ?_
    refine lv_icmp_lt (tgt := 19) hx hb dX7_isSieve_6 (by decide) (fun g5 => ?_) (fun g5 => ?_)
    · rw [if_pos g5] at h
      refine lv_iconst (v := 0) hx hb dX7_isSieve_19 (by decide) ?_
      exact sh_roz hx hb hr hlocks hQ ⟨rfl, (Option.some.inj h)⟩ dX7_isSieve_20
    · rw [if_neg g5] at h
      refine lv_iload_n hx hb dX7_isSieve_9 rfl (lv_at hl 1 rfl) ?_
      refine lv_bipush (v := 36) hx hb dX7_isSieve_10 (by decide) ?_
      refine lv_icmp_gt (tgt := 19) hx hb dX7_isSieve_12 (by decide) (fun g6 => ?_) (fun g6 => ?_)
      · rw [if_pos g6] at h
        refine lv_iconst (v := 0) hx hb dX7_isSieve_19 (by decide) ?_
        exact sh_roz hx hb hr hlocks hQ ⟨rfl, (Option.some.inj h)⟩ dX7_isSieve_20
      · rw [if_neg g6] at h
        refine lv_iconst (v := 1) hx hb dX7_isSieve_15 (by decide) ?_
        refine lv_goto (tgt := 20) hx hb dX7_isSieve_16 (by decide) ?_
        exact sh_roz hx hb hr hlocks hQ ⟨rfl, (Option.some.inj h)⟩ dX7_isSieve_20
theorem hdV_X7_sift : yX7_sift.cls = RX7 ∧ yX7_sift.cls ≠ "java/lang/invoke/MethodHandle" ∧ yX7_sift.cls ≠ "java/lang/invoke/VarHandle" ∧ (parseMethodDescriptor yX7_sift.desc).map (fun d => d.parameters.length) = some 2 := by decide +kernel
abbrev rmX7_sift : Room := { frames := 5, cells := 0, slots := 0, locals := 127 }
set_option maxHeartbeats 4000000 in
set_option maxRecDepth 100000 in
theorem k_X7_sift (l : Launch) (D : va_G) (cI cJ cZ : ClassId) (sz : Nat) (q : Nat → Nat) (I : Nat → Int32) (J : Nat → Int64) (A : Nat → Nat → Int32) (B : Nat → Nat → Int64) (x1 : Int32) (x2 : Int32) (o : Int32) (oI : Nat → Int32) (oB : Nat → Nat → Int64) (h : fX7_sift I J B x1 x2 = some (o, oI, oB)) : Met l yX7_sift wsX7_sift rmX7_sift (sh_Pw D (sh_ty cI cJ cZ) sz (sh_w7 q cI cJ cZ I J A B) [.ref (q 0), .int x1, .int x2]) (sh_Qi D (sh_ty cI cJ cZ) (va_A (sh_w7 q cI cJ cZ I J A B) sz) (sh_w7 q cI cJ cZ oI J A oB) o) 0 0 (va_A (sh_w7 q cI cJ cZ I J A B) sz) := by
  refine Met.ofW (cc := cX7_sift) (maxL := 3) (ret := (some .int)) (by decide) rfl ?_
  intro p e s m args below meth c s₁ hB hml hv
  obtain ⟨hargs, hsz, hP, hK, hD0⟩ := hv
  have hx := hB.exec
  have hb := hB.bytes
  have hr := hB.returns
  have hts := atoms_spec (ws := wsX7_sift) hB.pre
  have hown : s.vm.findClass RX7 = some m.cls := findClass_of_methodNamed hB.named
  have hlocks := hB.notSynchronized
  have hfix : CallFix p m c cX7_sift 3 s args wsX7_sift RX7 := ⟨hx, hb, hml, hown, hts⟩
  have hinX7 : ∀ w ∈ wsX70, w ∈ wsX7_sift := by decide +kernel
  have lk1 := hts (.fieldLink RX7 50 "ShadeTree" "doings" "LShadeTree$Doings;") (by decide +kernel)
  have lk2 := hts (.fieldLink RX7 28 "ShadeTree" "now" "LShadeTree$Shades;") (by decide +kernel)
  rw [show entryFrame m args 3 = entryFrame m ([.ref (q 0), .int x1, .int x2] : List Value).toArray 3 by rw [hargs], lg_entry_eq]
  have hl := lv_entry ([.ref (q 0), .int x1, .int x2]) (n := 3) (Nat.le_of_ble_eq_true rfl)
  generalize (lg_sl ([.ref (q 0), .int x1, .int x2]) ++ List.replicate (3 - (lg_sl ([.ref (q 0), .int x1, .int x2])).length) Slot.unset).toArray = ls at hl ⊢
  have hl : lv_has ls 3 [(0, .ref (q 0)), (1, .int x1), (2, .int x2)] := hl
  subst hsz
  have hD := hD0.self (sz := s.heap.size)
  generalize hAe : va_A (sh_w7 q cI cJ cZ I J A B) s.heap.size = Az at hD ⊢
  have hA : ∀ q : Nat, s.heap.size ≤ q → Az q := fun q h => by rw [← hAe]; exact Or.inr h
  have hS : va_S Az s.heap s.heap [] := va_S.rf
  generalize hQ : MQ below (sh_Qi D (sh_ty cI cJ cZ) Az (sh_w7 q cI cJ cZ oI J A oB) o) args s 0 0 Az = Q
  unfold fX7_sift at h
  refine lv_iload_n hx hb dX7_sift_0 rfl (lv_at hl 1 rfl) ?_
  refine lv_iload_n hx hb dX7_sift_1 rfl (lv_at hl 2 rfl) ?_
  obtain ⟨v1, hc2, h⟩ := sh_b1_e h
  refine sh_cSi (As := [.int x1, .int x2]) (rest := []) hfix (k_X7_isSieve l D cI cJ cZ x1 x2 v1 hc2) (va_cwS 2 hts gX7_sift_X7_isSieve rfl rfl rfl hdS_X7_isSieve ⟨Nat.le_of_ble_eq_true rfl, Nat.le_of_ble_eq_true rfl⟩) hP hK [] rfl rfl hl.1 rfl (Nat.le_of_ble_eq_true rfl) dX7_sift_2 ⟨Nat.zero_le _, Nat.zero_le _⟩ ?_
  refine lv_if_ne (tgt := 11) hx hb dX7_sift_5 (by decide) (fun g3 => ?_) (fun g3 => ?_)
  · rw [if_neg g3] at h
    refine lv_aload_n hx hb dX7_sift_11 rfl (lv_at hl 0 rfl) ?_
    refine va_get (ci := 7) (v := .ref (q 14)) (C := RX7) (T := TX7) (N := 10) hx hb hts hinX7 hown hK hP 0 rfl rfl 6 (by decide) lk1 (fun _ h9 => h9) rfl dX7_sift_12 ?_
    refine lv_aload_n hx hb dX7_sift_15 rfl (lv_at hl 0 rfl) ?_
    refine va_get (ci := 7) (v := .ref (q 4)) (C := RX7) (T := TX7) (N := 10) hx hb hts hinX7 hown hK hP 0 rfl rfl 2 (by decide) lk2 (fun _ h9 => h9) rfl dX7_sift_16 ?_
    obtain ⟨u4, u5, hc6, h⟩ := sh_b2_e h
    refine sh_wVv (wn := (sh_w7 q cI cJ cZ (upd I 6 u5) J A (va_up B 4 u4))) (As := [.ref (q 4)]) (rest := []) hfix (k_X0_add l D cI cJ cZ _ (q 14) (q 15) (q 3) (q 4) (q 5) (B 4) (I 6) (B 0) u4 u5 hc6) (cwV 1 hts gX7_sift_X0_add rfl rfl rfl hdV_X0_add ⟨Nat.le_of_ble_eq_true rfl, Nat.le_of_ble_eq_true rfl⟩) hP hK hD hS hA [14, 15, 4, 5] [0, 1, 2, 3, 6, 7, 8, 9, 10, 11, 12, 13, 16, 17, 18, 19, 20, 21, 22] [0, 1, 2, 3, 21, 22, 4, 5, 6, 7, 8, 9, 10, 11, 19, 20, 12, 13, 14, 15, 16, 17, 18] rfl rfl rfl rfl rfl rfl rfl 14 rfl rfl rfl hl.1 rfl (Nat.le_of_ble_eq_true rfl) dX7_sift_19 ⟨Nat.zero_le _, Nat.zero_le _⟩ (fun H locs hP hD hS => ?_)
    refine lv_aload_n hx hb dX7_sift_22 rfl (lv_at hl 0 rfl) ?_
    refine va_get (ci := 7) (v := .ref (q 4)) (C := RX7) (T := TX7) (N := 10) hx hb hts hinX7 hown hK hP 0 rfl rfl 2 (by decide) lk2 (fun _ h9 => h9) rfl dX7_sift_23 ?_
    refine lv_iload_n hx hb dX7_sift_26 rfl (lv_at hl 1 rfl) ?_
    refine lv_iload_n hx hb dX7_sift_27 rfl (lv_at hl 2 rfl) ?_
    obtain ⟨v7, u8, hc9, h⟩ := sh_b2_e h
    refine sh_wVi (wn := (sh_w7 q cI cJ cZ (upd I 6 u5) J A (va_up (va_up B 4 u4) 0 u8))) (As := [.int x1, .int x2]) (rest := []) hfix (k_X2_thin l D cI cJ cZ _ (q 3) (q 4) (q 5) (I 1) (I 2) (I 3) (J 0) (J 1) (J 2) (B 0) x1 x2 v7 u8 hc9) (cwV 2 hts gX7_sift_X2_thin rfl rfl rfl hdV_X2_thin ⟨Nat.le_of_ble_eq_true rfl, Nat.le_of_ble_eq_true rfl⟩) hP hK hD hS hA [4, 5, 3] [0, 1, 2, 6, 7, 8, 9, 10, 11, 12, 13, 14, 15, 16, 17, 18, 19, 20, 21, 22] [0, 1, 2, 22, 20, 21, 3, 4, 5, 6, 7, 8, 9, 10, 11, 12, 13, 14, 15, 16, 17, 18, 19] rfl rfl rfl rfl rfl rfl rfl 4 rfl rfl rfl hl.1 rfl (Nat.le_of_ble_eq_true rfl) dX7_sift_28 ⟨Nat.zero_le _, Nat.zero_le _⟩ (fun H locs hP hD hS => ?_)
    cases h
    exact sh_rwi hx hb hr hlocks hQ hK hP hD hS dX7_sift_31
  · rw [if_pos g3] at h
    refine lv_bipush (v := -2) hx hb dX7_sift_8 (by decide) ?_
    cases h
    exact sh_rwi hx hb hr hlocks hQ hK hP hD hS dX7_sift_10
theorem hdV_X7_undo : yX7_undo.cls = RX7 ∧ yX7_undo.cls ≠ "java/lang/invoke/MethodHandle" ∧ yX7_undo.cls ≠ "java/lang/invoke/VarHandle" ∧ (parseMethodDescriptor yX7_undo.desc).map (fun d => d.parameters.length) = some 0 := by decide +kernel
abbrev rmX7_undo : Room := { frames := 3, cells := 0, slots := 0, locals := 83 }
set_option maxHeartbeats 4000000 in
set_option maxRecDepth 100000 in
theorem k_X7_undo (l : Launch) (D : va_G) (cI cJ cZ : ClassId) (sz : Nat) (q : Nat → Nat) (I : Nat → Int32) (J : Nat → Int64) (A : Nat → Nat → Int32) (B : Nat → Nat → Int64) (o : Int32) (oI : Nat → Int32) (oB : Nat → Nat → Int64) (h : fX7_undo I B = some (o, oI, oB)) : Met l yX7_undo wsX7_undo rmX7_undo (sh_Pw D (sh_ty cI cJ cZ) sz (sh_w7 q cI cJ cZ I J A B) [.ref (q 0)]) (sh_Qi D (sh_ty cI cJ cZ) (va_A (sh_w7 q cI cJ cZ I J A B) sz) (sh_w7 q cI cJ cZ oI J A oB) o) 0 0 (va_A (sh_w7 q cI cJ cZ I J A B) sz) := by
  refine Met.ofW (cc := cX7_undo) (maxL := 1) (ret := (some .int)) (by decide) rfl ?_
  intro p e s m args below meth c s₁ hB hml hv
  obtain ⟨hargs, hsz, hP, hK, hD0⟩ := hv
  have hx := hB.exec
  have hb := hB.bytes
  have hr := hB.returns
  have hts := atoms_spec (ws := wsX7_undo) hB.pre
  have hown : s.vm.findClass RX7 = some m.cls := findClass_of_methodNamed hB.named
  have hlocks := hB.notSynchronized
  have hfix : CallFix p m c cX7_undo 1 s args wsX7_undo RX7 := ⟨hx, hb, hml, hown, hts⟩
  have hinX7 : ∀ w ∈ wsX70, w ∈ wsX7_undo := by decide +kernel
  have lk1 := hts (.fieldLink RX7 50 "ShadeTree" "doings" "LShadeTree$Doings;") (by decide +kernel)
  have lk2 := hts (.fieldLink RX7 28 "ShadeTree" "now" "LShadeTree$Shades;") (by decide +kernel)
  rw [show entryFrame m args 1 = entryFrame m ([.ref (q 0)] : List Value).toArray 1 by rw [hargs], lg_entry_eq]
  have hl := lv_entry ([.ref (q 0)]) (n := 1) (Nat.le_of_ble_eq_true rfl)
  generalize (lg_sl ([.ref (q 0)]) ++ List.replicate (1 - (lg_sl ([.ref (q 0)])).length) Slot.unset).toArray = ls at hl ⊢
  have hl : lv_has ls 1 [(0, .ref (q 0))] := hl
  subst hsz
  have hD := hD0.self (sz := s.heap.size)
  generalize hAe : va_A (sh_w7 q cI cJ cZ I J A B) s.heap.size = Az at hD ⊢
  have hA : ∀ q : Nat, s.heap.size ≤ q → Az q := fun q h => by rw [← hAe]; exact Or.inr h
  have hS : va_S Az s.heap s.heap [] := va_S.rf
  generalize hQ : MQ below (sh_Qi D (sh_ty cI cJ cZ) Az (sh_w7 q cI cJ cZ oI J A oB) o) args s 0 0 Az = Q
  unfold fX7_undo at h
  refine lv_aload_n hx hb dX7_undo_0 rfl (lv_at hl 0 rfl) ?_
  refine va_get (ci := 7) (v := .ref (q 14)) (C := RX7) (T := TX7) (N := 10) hx hb hts hinX7 hown hK hP 0 rfl rfl 6 (by decide) lk1 (fun _ h9 => h9) rfl dX7_undo_1 ?_
  refine lv_aload_n hx hb dX7_undo_4 rfl (lv_at hl 0 rfl) ?_
  refine va_get (ci := 7) (v := .ref (q 4)) (C := RX7) (T := TX7) (N := 10) hx hb hts hinX7 hown hK hP 0 rfl rfl 2 (by decide) lk2 (fun _ h9 => h9) rfl dX7_undo_5 ?_
  obtain ⟨v1, u2, u3, hc4, h⟩ := sh_b3_e h
  refine sh_wVi (wn := (sh_w7 q cI cJ cZ (upd I 6 u2) J A (va_up B 0 u3))) (As := [.ref (q 4)]) (rest := []) hfix (k_X0_takeBack l D cI cJ cZ _ (q 14) (q 15) (q 3) (q 4) (q 5) (B 4) (I 6) (B 0) v1 u2 u3 hc4) (cwV 1 hts gX7_undo_X0_takeBack rfl rfl rfl hdV_X0_takeBack ⟨Nat.le_of_ble_eq_true rfl, Nat.le_of_ble_eq_true rfl⟩) hP hK hD hS hA [14, 15, 4, 5] [0, 1, 2, 3, 6, 7, 8, 9, 10, 11, 12, 13, 16, 17, 18, 19, 20, 21, 22] [0, 1, 2, 3, 21, 22, 4, 5, 6, 7, 8, 9, 10, 11, 19, 20, 12, 13, 14, 15, 16, 17, 18] rfl rfl rfl rfl rfl rfl rfl 14 rfl rfl rfl hl.1 rfl (Nat.le_of_ble_eq_true rfl) dX7_undo_8 ⟨Nat.zero_le _, Nat.zero_le _⟩ (fun H locs hP hD hS => ?_)
  refine lv_if_eq (tgt := 24) hx hb dX7_undo_11 (by decide) (fun g5 => ?_) (fun g5 => ?_)
  · rw [if_pos g5] at h
    refine lv_bipush (v := -3) hx hb dX7_undo_24 (by decide) ?_
    cases h
    exact sh_rwi hx hb hr hlocks hQ hK hP hD hS dX7_undo_26
  · rw [if_neg g5] at h
    refine lv_aload_n hx hb dX7_undo_14 rfl (lv_at hl 0 rfl) ?_
    refine va_get (ci := 7) (v := .ref (q 14)) (C := RX7) (T := TX7) (N := 10) hx hb hts hinX7 hown hK hP 0 rfl rfl 6 (by decide) lk1 (fun _ h9 => h9) rfl dX7_undo_15 ?_
    obtain ⟨v6, hc7, h⟩ := sh_b1_e h
    refine sh_cVi (As := []) (rest := []) hfix (k_X0_size l D cI cJ cZ (q 14) (q 15) (B 4) u2 v6 hc7) (cwV 0 hts gX7_undo_X0_size rfl rfl rfl hdV_X0_size ⟨Nat.le_of_ble_eq_true rfl, Nat.le_of_ble_eq_true rfl⟩) hP hK [14, 15] rfl 14 rfl rfl rfl hl.1 rfl (Nat.le_of_ble_eq_true rfl) dX7_undo_18 ⟨Nat.zero_le _, Nat.zero_le _⟩ ?_
    refine lv_goto (tgt := 26) hx hb dX7_undo_21 (by decide) ?_
    cases h
    exact sh_rwi hx hb hr hlocks hQ hK hP hD hS dX7_undo_26
