/-! the cases of the law -/
set_option maxHeartbeats 4000000 in
set_option maxRecDepth 100000 in
theorem lc_write {p : Program} {l : Launch} {e : Env} {s : State} {m : MethodId} {below : List Frame} {meth : Method} {c : Code} {b L : Nat} {xs : Nat → Int32} {D : va_G} {cI cJ cZ : ClassId} {q q2 : Nat → Nat} {x3 : Int32} (C0 : lw_At p s m meth c b L xs) (hK : va_K D vwCl (sh_ty cI cJ cZ) s) (hin : ∀ k, k < 6 → vp_in (x3 + nI k) L) (hk : lw_J p l e s m below meth c b D cI cJ cZ q q2 x3 960) : lw_J p l e s m below meth c b D cI cJ cZ q q2 x3 152 := by
  obtain ⟨hx, hb, hr, hml, hown0, hts0, hX, hbl, hlocks, hgv⟩ := C0
  have hown : s.vm.findClass RL = some m.cls := hown0
  have hts : ∀ w ∈ wsL_law, w.before #[Value.ref b] s = true := fun w h => hts0 w (wsL_law_in w h)
  have hA : ∀ a : Nat, s.heap.size ≤ a → (fun a : Nat => s.heap.size ≤ a) a := fun _ h => h
  have hbA : ¬ (fun a : Nat => s.heap.size ≤ a) b := Nat.not_le.mpr hbl
  have hfix : CallFix p m c cL_law 4 s #[Value.ref b] wsL_law RL := ⟨hx, hb, hml, hown, hts⟩
  intro I J A B I2 S A2 H locs ls HS hP hD hS hl
  have i1 : vp_in (x3 + 1) L := hin 1 (by omega)
  obtain ⟨o, I1, A1, I3, A3, f7, f8, HS1⟩ := s_write HS (xs (x3 + 1).toNatClampNeg)
  refine lv_aload_n hx hb dL_law_152 rfl (lv_at hl 1 rfl) ?_
  refine lv_aload_n hx hb dL_law_153 rfl (lv_at hl 0 rfl) ?_
  refine lv_iload_n hx hb dL_law_154 rfl (lv_at hl 3 rfl) ?_
  refine lv_iconst (v := 1) hx hb dL_law_155 (by decide) ?_
  refine lv_iadd hx hb dL_law_156 ?_
  refine va_sld hx hb hX hbl hbA hS i1 dL_law_157 ?_
  refine sh_wVi (wn := sh_w7 q cI cJ cZ I1 J A1 B ++ sh_w8 q2 cI cJ cZ I2 S A2) (As := [.int (xs (x3 + 1).toNatClampNeg)]) (rest := []) hfix (k_X7_write l D cI cJ cZ _ q I J A B (xs (x3 + 1).toNatClampNeg) o I1 A1 f7) (cwV 1 hts gL_law_X7_write rfl rfl rfl hdV_X7_write ⟨Nat.le_of_ble_eq_true rfl, Nat.le_of_ble_eq_true rfl⟩) hP hK hD hS hA [0, 1, 2, 3, 4, 5, 6, 7, 8, 9, 10, 11, 12, 13, 14, 15, 16, 17, 18, 19, 20, 21, 22] [23, 24, 25, 26, 27, 28, 29, 30, 31, 32, 33, 34, 35] [13, 14, 15, 16, 17, 18, 19, 20, 21, 22, 23, 24, 25, 26, 27, 28, 29, 30, 31, 32, 33, 34, 35, 0, 1, 2, 3, 4, 5, 6, 7, 8, 9, 10, 11, 12] rfl rfl rfl rfl rfl rfl rfl 0 rfl rfl rfl hl.1 rfl (Nat.le_of_ble_eq_true rfl) dL_law_158 ⟨Nat.le_of_ble_eq_true rfl, Nat.le_of_ble_eq_true rfl⟩ (fun H locs hP hD hS => ?_)
  refine lv_aload_n hx hb dL_law_161 rfl (lv_at hl 2 rfl) ?_
  refine lv_aload_n hx hb dL_law_162 rfl (lv_at hl 0 rfl) ?_
  refine lv_iload_n hx hb dL_law_163 rfl (lv_at hl 3 rfl) ?_
  refine lv_iconst (v := 1) hx hb dL_law_164 (by decide) ?_
  refine lv_iadd hx hb dL_law_165 ?_
  refine va_sld hx hb hX hbl hbA hS i1 dL_law_166 ?_
  refine sh_wVi (wn := sh_w7 q cI cJ cZ I1 J A1 B ++ sh_w8 q2 cI cJ cZ I3 S A3) (As := [.int (xs (x3 + 1).toNatClampNeg)]) (rest := [.int o]) hfix (k_X8_write l D cI cJ cZ _ q2 I2 S A2 (xs (x3 + 1).toNatClampNeg) o I3 A3 f8) (cwV 1 hts gL_law_X8_write rfl rfl rfl hdV_X8_write ⟨Nat.le_of_ble_eq_true rfl, Nat.le_of_ble_eq_true rfl⟩) hP hK hD hS hA [23, 24, 25, 26, 27, 28, 29, 30, 31, 32, 33, 34, 35] [0, 1, 2, 3, 4, 5, 6, 7, 8, 9, 10, 11, 12, 13, 14, 15, 16, 17, 18, 19, 20, 21, 22] [0, 1, 2, 3, 4, 5, 6, 7, 8, 9, 10, 11, 12, 13, 14, 15, 16, 17, 18, 19, 20, 21, 22, 23, 24, 25, 26, 27, 28, 29, 30, 31, 32, 33, 34, 35] rfl rfl rfl rfl rfl rfl rfl 23 rfl rfl rfl hl.1 rfl (Nat.le_of_ble_eq_true rfl) dL_law_167 ⟨Nat.le_of_ble_eq_true rfl, Nat.le_of_ble_eq_true rfl⟩ (fun H locs hP hD hS => ?_)
  refine lv_icmp_eq (tgt := 960) hx hb dL_law_170 (by decide) (fun g => ?_) (fun g => absurd rfl g)
  exact hk _ _ _ _ _ _ _ _ _ ls HS1 hP hD hS hl
set_option maxHeartbeats 4000000 in
set_option maxRecDepth 100000 in
theorem lc_wipe {p : Program} {l : Launch} {e : Env} {s : State} {m : MethodId} {below : List Frame} {meth : Method} {c : Code} {b L : Nat} {xs : Nat → Int32} {D : va_G} {cI cJ cZ : ClassId} {q q2 : Nat → Nat} {x3 : Int32} (C0 : lw_At p s m meth c b L xs) (hK : va_K D vwCl (sh_ty cI cJ cZ) s) (hin : ∀ k, k < 6 → vp_in (x3 + nI k) L) (hk : lw_J p l e s m below meth c b D cI cJ cZ q q2 x3 960) : lw_J p l e s m below meth c b D cI cJ cZ q q2 x3 175 := by
  obtain ⟨hx, hb, hr, hml, hown0, hts0, hX, hbl, hlocks, hgv⟩ := C0
  have hown : s.vm.findClass RL = some m.cls := hown0
  have hts : ∀ w ∈ wsL_law, w.before #[Value.ref b] s = true := fun w h => hts0 w (wsL_law_in w h)
  have hA : ∀ a : Nat, s.heap.size ≤ a → (fun a : Nat => s.heap.size ≤ a) a := fun _ h => h
  have hbA : ¬ (fun a : Nat => s.heap.size ≤ a) b := Nat.not_le.mpr hbl
  have hfix : CallFix p m c cL_law 4 s #[Value.ref b] wsL_law RL := ⟨hx, hb, hml, hown, hts⟩
  intro I J A B I2 S A2 H locs ls HS hP hD hS hl
  obtain ⟨o, I1, I3, f7, f8, HS1⟩ := s_wipe HS
  refine lv_aload_n hx hb dL_law_175 rfl (lv_at hl 1 rfl) ?_
  refine sh_wVi (wn := sh_w7 q cI cJ cZ I1 J A B ++ sh_w8 q2 cI cJ cZ I2 S A2) (As := []) (rest := []) hfix (k_X7_wipe l D cI cJ cZ _ q I J A B o I1 f7) (cwV 0 hts gL_law_X7_wipe rfl rfl rfl hdV_X7_wipe ⟨Nat.le_of_ble_eq_true rfl, Nat.le_of_ble_eq_true rfl⟩) hP hK hD hS hA [0, 1, 2, 3, 4, 5, 6, 7, 8, 9, 10, 11, 12, 13, 14, 15, 16, 17, 18, 19, 20, 21, 22] [23, 24, 25, 26, 27, 28, 29, 30, 31, 32, 33, 34, 35] [13, 14, 15, 16, 17, 18, 19, 20, 21, 22, 23, 24, 25, 26, 27, 28, 29, 30, 31, 32, 33, 34, 35, 0, 1, 2, 3, 4, 5, 6, 7, 8, 9, 10, 11, 12] rfl rfl rfl rfl rfl rfl rfl 0 rfl rfl rfl hl.1 rfl (Nat.le_of_ble_eq_true rfl) dL_law_176 ⟨Nat.le_of_ble_eq_true rfl, Nat.le_of_ble_eq_true rfl⟩ (fun H locs hP hD hS => ?_)
  refine lv_aload_n hx hb dL_law_179 rfl (lv_at hl 2 rfl) ?_
  refine sh_wVi (wn := sh_w7 q cI cJ cZ I1 J A B ++ sh_w8 q2 cI cJ cZ I3 S A2) (As := []) (rest := [.int o]) hfix (k_X8_wipe l D cI cJ cZ _ q2 I2 S A2 o I3 f8) (cwV 0 hts gL_law_X8_wipe rfl rfl rfl hdV_X8_wipe ⟨Nat.le_of_ble_eq_true rfl, Nat.le_of_ble_eq_true rfl⟩) hP hK hD hS hA [23, 24, 25, 26, 27, 28, 29, 30, 31, 32, 33, 34, 35] [0, 1, 2, 3, 4, 5, 6, 7, 8, 9, 10, 11, 12, 13, 14, 15, 16, 17, 18, 19, 20, 21, 22] [0, 1, 2, 3, 4, 5, 6, 7, 8, 9, 10, 11, 12, 13, 14, 15, 16, 17, 18, 19, 20, 21, 22, 23, 24, 25, 26, 27, 28, 29, 30, 31, 32, 33, 34, 35] rfl rfl rfl rfl rfl rfl rfl 23 rfl rfl rfl hl.1 rfl (Nat.le_of_ble_eq_true rfl) dL_law_180 ⟨Nat.le_of_ble_eq_true rfl, Nat.le_of_ble_eq_true rfl⟩ (fun H locs hP hD hS => ?_)
  refine lv_icmp_eq (tgt := 960) hx hb dL_law_183 (by decide) (fun g => ?_) (fun g => absurd rfl g)
  exact hk _ _ _ _ _ _ _ _ _ ls HS1 hP hD hS hl
set_option maxHeartbeats 4000000 in
set_option maxRecDepth 100000 in
theorem lc_fault {p : Program} {l : Launch} {e : Env} {s : State} {m : MethodId} {below : List Frame} {meth : Method} {c : Code} {b L : Nat} {xs : Nat → Int32} {D : va_G} {cI cJ cZ : ClassId} {q q2 : Nat → Nat} {x3 : Int32} (C0 : lw_At p s m meth c b L xs) (hK : va_K D vwCl (sh_ty cI cJ cZ) s) (hin : ∀ k, k < 6 → vp_in (x3 + nI k) L) (hk : lw_J p l e s m below meth c b D cI cJ cZ q q2 x3 960) : lw_J p l e s m below meth c b D cI cJ cZ q q2 x3 188 := by
  obtain ⟨hx, hb, hr, hml, hown0, hts0, hX, hbl, hlocks, hgv⟩ := C0
  have hown : s.vm.findClass RL = some m.cls := hown0
  have hts : ∀ w ∈ wsL_law, w.before #[Value.ref b] s = true := fun w h => hts0 w (wsL_law_in w h)
  have hA : ∀ a : Nat, s.heap.size ≤ a → (fun a : Nat => s.heap.size ≤ a) a := fun _ h => h
  have hbA : ¬ (fun a : Nat => s.heap.size ≤ a) b := Nat.not_le.mpr hbl
  have hfix : CallFix p m c cL_law 4 s #[Value.ref b] wsL_law RL := ⟨hx, hb, hml, hown, hts⟩
  intro I J A B I2 S A2 H locs ls HS hP hD hS hl
  have hnw : va_Nw (.methodLinkNest RX5 31 yX7_isShade RX7) s := va_Nw.of rfl (hts0 (.methodLinkNest RX5 31 yX7_isShade RX7) (List.mem_of_getElem? (i := 260) (by decide +kernel)))
  obtain ⟨o, I3, A3, f7, f8, HS1⟩ := s_fault HS
  refine lv_aload_n hx hb dL_law_188 rfl (lv_at hl 1 rfl) ?_
  refine sh_cVin (As := []) (rest := []) hfix (k_X7_fault l D cI cJ cZ q I J A B o f7) (cwV 0 hts gL_law_X7_fault rfl rfl rfl hdV_X7_fault ⟨Nat.le_of_ble_eq_true rfl, Nat.le_of_ble_eq_true rfl⟩) hnw hP hK [0, 1, 2, 3, 4, 5, 6, 7, 8, 9, 10, 11, 12, 13, 14, 15, 16, 17, 18, 19, 20, 21, 22] rfl 0 rfl rfl rfl hl.1 rfl (Nat.le_of_ble_eq_true rfl) dL_law_189 ⟨Nat.le_of_ble_eq_true rfl, Nat.le_of_ble_eq_true rfl⟩ ?_
  refine lv_aload_n hx hb dL_law_192 rfl (lv_at hl 2 rfl) ?_
  refine sh_wVi (wn := sh_w7 q cI cJ cZ I J A B ++ sh_w8 q2 cI cJ cZ I3 S A3) (As := []) (rest := [.int o]) hfix (k_X8_fault l D cI cJ cZ _ q2 I2 S A2 o I3 A3 f8) (cwV 0 hts gL_law_X8_fault rfl rfl rfl hdV_X8_fault ⟨Nat.le_of_ble_eq_true rfl, Nat.le_of_ble_eq_true rfl⟩) hP hK hD hS hA [23, 24, 25, 26, 27, 28, 29, 30, 31, 32, 33, 34, 35] [0, 1, 2, 3, 4, 5, 6, 7, 8, 9, 10, 11, 12, 13, 14, 15, 16, 17, 18, 19, 20, 21, 22] [0, 1, 2, 3, 4, 5, 6, 7, 8, 9, 10, 11, 12, 13, 14, 15, 16, 17, 18, 19, 20, 21, 22, 23, 24, 25, 26, 27, 28, 29, 30, 31, 32, 33, 34, 35] rfl rfl rfl rfl rfl rfl rfl 23 rfl rfl rfl hl.1 rfl (Nat.le_of_ble_eq_true rfl) dL_law_193 ⟨Nat.le_of_ble_eq_true rfl, Nat.le_of_ble_eq_true rfl⟩ (fun H locs hP hD hS => ?_)
  refine lv_icmp_eq (tgt := 960) hx hb dL_law_196 (by decide) (fun g => ?_) (fun g => absurd rfl g)
  exact hk _ _ _ _ _ _ _ _ _ ls HS1 hP hD hS hl
set_option maxHeartbeats 4000000 in
set_option maxRecDepth 100000 in
theorem lc_picture {p : Program} {l : Launch} {e : Env} {s : State} {m : MethodId} {below : List Frame} {meth : Method} {c : Code} {b L : Nat} {xs : Nat → Int32} {D : va_G} {cI cJ cZ : ClassId} {q q2 : Nat → Nat} {x3 : Int32} (C0 : lw_At p s m meth c b L xs) (hK : va_K D vwCl (sh_ty cI cJ cZ) s) (hin : ∀ k, k < 6 → vp_in (x3 + nI k) L) (hk : lw_J p l e s m below meth c b D cI cJ cZ q q2 x3 960) : lw_J p l e s m below meth c b D cI cJ cZ q q2 x3 201 := by
  obtain ⟨hx, hb, hr, hml, hown0, hts0, hX, hbl, hlocks, hgv⟩ := C0
  have hown : s.vm.findClass RL = some m.cls := hown0
  have hts : ∀ w ∈ wsL_law, w.before #[Value.ref b] s = true := fun w h => hts0 w (wsL_law_in w h)
  have hA : ∀ a : Nat, s.heap.size ≤ a → (fun a : Nat => s.heap.size ≤ a) a := fun _ h => h
  have hbA : ¬ (fun a : Nat => s.heap.size ≤ a) b := Nat.not_le.mpr hbl
  have hfix : CallFix p m c cL_law 4 s #[Value.ref b] wsL_law RL := ⟨hx, hb, hml, hown, hts⟩
  intro I J A B I2 S A2 H locs ls HS hP hD hS hl
  have hnw : va_Nw (.methodLinkNest RX5 31 yX7_isShade RX7) s := va_Nw.of rfl (hts0 (.methodLinkNest RX5 31 yX7_isShade RX7) (List.mem_of_getElem? (i := 260) (by decide +kernel)))
  obtain ⟨o, I1, J1, A1, B1, I3, A3, f7, f8, HS1⟩ := s_picture HS
  refine lv_aload_n hx hb dL_law_201 rfl (lv_at hl 1 rfl) ?_
  refine sh_wVin (wn := sh_w7 q cI cJ cZ I1 J1 A1 B1 ++ sh_w8 q2 cI cJ cZ I2 S A2) (As := []) (rest := []) hfix (k_X7_picture l D cI cJ cZ _ q I J A B o I1 J1 A1 B1 f7) (cwV 0 hts gL_law_X7_picture rfl rfl rfl hdV_X7_picture ⟨Nat.le_of_ble_eq_true rfl, Nat.le_of_ble_eq_true rfl⟩) hnw hP hK hD hS hA [0, 1, 2, 3, 4, 5, 6, 7, 8, 9, 10, 11, 12, 13, 14, 15, 16, 17, 18, 19, 20, 21, 22] [23, 24, 25, 26, 27, 28, 29, 30, 31, 32, 33, 34, 35] [13, 14, 15, 16, 17, 18, 19, 20, 21, 22, 23, 24, 25, 26, 27, 28, 29, 30, 31, 32, 33, 34, 35, 0, 1, 2, 3, 4, 5, 6, 7, 8, 9, 10, 11, 12] rfl rfl rfl rfl rfl rfl rfl 0 rfl rfl rfl hl.1 rfl (Nat.le_of_ble_eq_true rfl) dL_law_202 ⟨Nat.le_of_ble_eq_true rfl, Nat.le_of_ble_eq_true rfl⟩ (fun H locs hP hD hS => ?_)
  refine lv_aload_n hx hb dL_law_205 rfl (lv_at hl 2 rfl) ?_
  refine sh_wVi (wn := sh_w7 q cI cJ cZ I1 J1 A1 B1 ++ sh_w8 q2 cI cJ cZ I3 S A3) (As := []) (rest := [.int o]) hfix (k_X8_picture l D cI cJ cZ _ q2 I2 S A2 o I3 A3 f8) (cwV 0 hts gL_law_X8_picture rfl rfl rfl hdV_X8_picture ⟨Nat.le_of_ble_eq_true rfl, Nat.le_of_ble_eq_true rfl⟩) hP hK hD hS hA [23, 24, 25, 26, 27, 28, 29, 30, 31, 32, 33, 34, 35] [0, 1, 2, 3, 4, 5, 6, 7, 8, 9, 10, 11, 12, 13, 14, 15, 16, 17, 18, 19, 20, 21, 22] [0, 1, 2, 3, 4, 5, 6, 7, 8, 9, 10, 11, 12, 13, 14, 15, 16, 17, 18, 19, 20, 21, 22, 23, 24, 25, 26, 27, 28, 29, 30, 31, 32, 33, 34, 35] rfl rfl rfl rfl rfl rfl rfl 23 rfl rfl rfl hl.1 rfl (Nat.le_of_ble_eq_true rfl) dL_law_206 ⟨Nat.le_of_ble_eq_true rfl, Nat.le_of_ble_eq_true rfl⟩ (fun H locs hP hD hS => ?_)
  refine lv_icmp_eq (tgt := 960) hx hb dL_law_209 (by decide) (fun g => ?_) (fun g => absurd rfl g)
  exact hk _ _ _ _ _ _ _ _ _ ls HS1 hP hD hS hl
