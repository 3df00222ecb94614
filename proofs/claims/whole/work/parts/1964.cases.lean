/-! the cases of the law -/
set_option maxHeartbeats 4000000 in
set_option maxRecDepth 100000 in
theorem lc_judge {p : Program} {l : Launch} {e : Env} {s : State} {m : MethodId} {below : List Frame} {meth : Method} {c : Code} {b L : Nat} {xs : Nat → Int32} {D : va_G} {cI cJ cZ : ClassId} {q q2 : Nat → Nat} {x3 : Int32} (C0 : lw_At p s m meth c b L xs) (hK : va_K D vwCl (sh_ty cI cJ cZ) s) (hin : ∀ k, k < 6 → vp_in (x3 + nI k) L) (hk : lw_J p l e s m below meth c b D cI cJ cZ q q2 x3 960) : lw_J p l e s m below meth c b D cI cJ cZ q q2 x3 557 := by
  obtain ⟨hx, hb, hr, hml, hown0, hts0, hX, hbl, hlocks, hgv⟩ := C0
  have hown : s.vm.findClass RL = some m.cls := hown0
  have hts : ∀ w ∈ wsL_law, w.before #[Value.ref b] s = true := fun w h => hts0 w (wsL_law_in w h)
  have hA : ∀ a : Nat, s.heap.size ≤ a → (fun a : Nat => s.heap.size ≤ a) a := fun _ h => h
  have hbA : ¬ (fun a : Nat => s.heap.size ≤ a) b := Nat.not_le.mpr hbl
  have hfix : CallFix p m c cL_law 4 s #[Value.ref b] wsL_law RL := ⟨hx, hb, hml, hown, hts⟩
  intro I J A B I2 S A2 H locs ls HS hP hD hS hl
  have i1 : vp_in (x3 + 1) L := hin 1 (by omega)
  have i2 : vp_in (x3 + 2) L := hin 2 (by omega)
  have i3 : vp_in (x3 + 3) L := hin 3 (by omega)
  obtain ⟨o, B1, I3, A3, f7, f8, HS1⟩ := s_judge HS (xs (x3 + 1).toNatClampNeg) ((sh_lsl (Int32.toInt64 (xs (x3 + 2).toNatClampNeg)) 32) ||| ((Int32.toInt64 (xs (x3 + 3).toNatClampNeg)) &&& 4294967295))
  refine lv_aload_n hx hb dL_law_557 rfl (lv_at hl 1 rfl) ?_
  refine lv_aload_n hx hb dL_law_558 rfl (lv_at hl 0 rfl) ?_
  refine lv_iload_n hx hb dL_law_559 rfl (lv_at hl 3 rfl) ?_
  refine lv_iconst (v := 1) hx hb dL_law_560 (by decide) ?_
  refine lv_iadd hx hb dL_law_561 ?_
  refine va_sld hx hb hX hbl hbA hS i1 dL_law_562 ?_
  refine lv_aload_n hx hb dL_law_563 rfl (lv_at hl 0 rfl) ?_
  refine lv_iload_n hx hb dL_law_564 rfl (lv_at hl 3 rfl) ?_
  refine lv_iconst (v := 2) hx hb dL_law_565 (by decide) ?_
  refine lv_iadd hx hb dL_law_566 ?_
  refine va_sld hx hb hX hbl hbA hS i2 dL_law_567 ?_
  refine lv_i2l (v := (Int32.toInt64 (xs (x3 + 2).toNatClampNeg))) hx hb dL_law_568 rfl ?_
  refine lv_bipush (v := 32) hx hb dL_law_569 (by decide) ?_
  refine lv_lshl (v := (sh_lsl (Int32.toInt64 (xs (x3 + 2).toNatClampNeg)) 32)) hx hb dL_law_571 rfl ?_
  refine lv_aload_n hx hb dL_law_572 rfl (lv_at hl 0 rfl) ?_
  refine lv_iload_n hx hb dL_law_573 rfl (lv_at hl 3 rfl) ?_
  refine lv_iconst (v := 3) hx hb dL_law_574 (by decide) ?_
  refine lv_iadd hx hb dL_law_575 ?_
  refine va_sld hx hb hX hbl hbA hS i3 dL_law_576 ?_
  refine lv_i2l (v := (Int32.toInt64 (xs (x3 + 3).toNatClampNeg))) hx hb dL_law_577 rfl ?_
  refine lv_ldc2 hx hb hown (hts (.constantLong RL 82 (4294967295)) (List.mem_of_getElem? (i := 6) (by decide +kernel))) dL_law_578 ?_
  refine lv_land hx hb dL_law_581 ?_
  refine lv_lor hx hb dL_law_582 ?_
  refine sh_wVi (wn := sh_w7 q cI cJ cZ I J A B1 ++ sh_w8 q2 cI cJ cZ I2 S A2) (As := [.int (xs (x3 + 1).toNatClampNeg), .long ((sh_lsl (Int32.toInt64 (xs (x3 + 2).toNatClampNeg)) 32) ||| ((Int32.toInt64 (xs (x3 + 3).toNatClampNeg)) &&& 4294967295))]) (rest := []) hfix (k_X7_judge l D cI cJ cZ _ q I J A B (xs (x3 + 1).toNatClampNeg) ((sh_lsl (Int32.toInt64 (xs (x3 + 2).toNatClampNeg)) 32) ||| ((Int32.toInt64 (xs (x3 + 3).toNatClampNeg)) &&& 4294967295)) o B1 f7) (cwV 2 hts gL_law_X7_judge rfl rfl rfl hdV_X7_judge ⟨Nat.le_of_ble_eq_true rfl, Nat.le_of_ble_eq_true rfl⟩) hP hK hD hS hA [0, 1, 2, 3, 4, 5, 6, 7, 8, 9, 10, 11, 12, 13, 14, 15, 16, 17, 18, 19, 20, 21, 22] [23, 24, 25, 26, 27, 28, 29, 30, 31, 32, 33, 34, 35] [13, 14, 15, 16, 17, 18, 19, 20, 21, 22, 23, 24, 25, 26, 27, 28, 29, 30, 31, 32, 33, 34, 35, 0, 1, 2, 3, 4, 5, 6, 7, 8, 9, 10, 11, 12] rfl rfl rfl rfl rfl rfl rfl 0 rfl rfl rfl hl.1 rfl (Nat.le_of_ble_eq_true rfl) dL_law_583 ⟨Nat.le_of_ble_eq_true rfl, Nat.le_of_ble_eq_true rfl⟩ (fun H locs hP hD hS => ?_)
  refine lv_aload_n hx hb dL_law_586 rfl (lv_at hl 2 rfl) ?_
  refine lv_aload_n hx hb dL_law_587 rfl (lv_at hl 0 rfl) ?_
  refine lv_iload_n hx hb dL_law_588 rfl (lv_at hl 3 rfl) ?_
  refine lv_iconst (v := 1) hx hb dL_law_589 (by decide) ?_
  refine lv_iadd hx hb dL_law_590 ?_
  refine va_sld hx hb hX hbl hbA hS i1 dL_law_591 ?_
  refine lv_aload_n hx hb dL_law_592 rfl (lv_at hl 0 rfl) ?_
  refine lv_iload_n hx hb dL_law_593 rfl (lv_at hl 3 rfl) ?_
  refine lv_iconst (v := 2) hx hb dL_law_594 (by decide) ?_
  refine lv_iadd hx hb dL_law_595 ?_
  refine va_sld hx hb hX hbl hbA hS i2 dL_law_596 ?_
  refine lv_i2l (v := (Int32.toInt64 (xs (x3 + 2).toNatClampNeg))) hx hb dL_law_597 rfl ?_
  refine lv_bipush (v := 32) hx hb dL_law_598 (by decide) ?_
  refine lv_lshl (v := (sh_lsl (Int32.toInt64 (xs (x3 + 2).toNatClampNeg)) 32)) hx hb dL_law_600 rfl ?_
  refine lv_aload_n hx hb dL_law_601 rfl (lv_at hl 0 rfl) ?_
  refine lv_iload_n hx hb dL_law_602 rfl (lv_at hl 3 rfl) ?_
  refine lv_iconst (v := 3) hx hb dL_law_603 (by decide) ?_
  refine lv_iadd hx hb dL_law_604 ?_
  refine va_sld hx hb hX hbl hbA hS i3 dL_law_605 ?_
  refine lv_i2l (v := (Int32.toInt64 (xs (x3 + 3).toNatClampNeg))) hx hb dL_law_606 rfl ?_
  refine lv_ldc2 hx hb hown (hts (.constantLong RL 82 (4294967295)) (List.mem_of_getElem? (i := 6) (by decide +kernel))) dL_law_607 ?_
  refine lv_land hx hb dL_law_610 ?_
  refine lv_lor hx hb dL_law_611 ?_
  refine sh_wVi (wn := sh_w7 q cI cJ cZ I J A B1 ++ sh_w8 q2 cI cJ cZ I3 S A3) (As := [.int (xs (x3 + 1).toNatClampNeg), .long ((sh_lsl (Int32.toInt64 (xs (x3 + 2).toNatClampNeg)) 32) ||| ((Int32.toInt64 (xs (x3 + 3).toNatClampNeg)) &&& 4294967295))]) (rest := [.int o]) hfix (k_X8_judge l D cI cJ cZ _ q2 I2 S A2 (xs (x3 + 1).toNatClampNeg) ((sh_lsl (Int32.toInt64 (xs (x3 + 2).toNatClampNeg)) 32) ||| ((Int32.toInt64 (xs (x3 + 3).toNatClampNeg)) &&& 4294967295)) o I3 A3 f8) (cwV 2 hts gL_law_X8_judge rfl rfl rfl hdV_X8_judge ⟨Nat.le_of_ble_eq_true rfl, Nat.le_of_ble_eq_true rfl⟩) hP hK hD hS hA [23, 24, 25, 26, 27, 28, 29, 30, 31, 32, 33, 34, 35] [0, 1, 2, 3, 4, 5, 6, 7, 8, 9, 10, 11, 12, 13, 14, 15, 16, 17, 18, 19, 20, 21, 22] [0, 1, 2, 3, 4, 5, 6, 7, 8, 9, 10, 11, 12, 13, 14, 15, 16, 17, 18, 19, 20, 21, 22, 23, 24, 25, 26, 27, 28, 29, 30, 31, 32, 33, 34, 35] rfl rfl rfl rfl rfl rfl rfl 23 rfl rfl rfl hl.1 rfl (Nat.le_of_ble_eq_true rfl) dL_law_612 ⟨Nat.le_of_ble_eq_true rfl, Nat.le_of_ble_eq_true rfl⟩ (fun H locs hP hD hS => ?_)
  refine lv_icmp_eq (tgt := 960) hx hb dL_law_615 (by decide) (fun g => ?_) (fun g => absurd rfl g)
  exact hk _ _ _ _ _ _ _ _ _ ls HS1 hP hD hS hl
set_option maxHeartbeats 4000000 in
set_option maxRecDepth 100000 in
theorem lc_share {p : Program} {l : Launch} {e : Env} {s : State} {m : MethodId} {below : List Frame} {meth : Method} {c : Code} {b L : Nat} {xs : Nat → Int32} {D : va_G} {cI cJ cZ : ClassId} {q q2 : Nat → Nat} {x3 : Int32} (C0 : lw_At p s m meth c b L xs) (hK : va_K D vwCl (sh_ty cI cJ cZ) s) (hin : ∀ k, k < 6 → vp_in (x3 + nI k) L) (hk : lw_J p l e s m below meth c b D cI cJ cZ q q2 x3 960) : lw_J p l e s m below meth c b D cI cJ cZ q q2 x3 620 := by
  obtain ⟨hx, hb, hr, hml, hown0, hts0, hX, hbl, hlocks, hgv⟩ := C0
  have hown : s.vm.findClass RL = some m.cls := hown0
  have hts : ∀ w ∈ wsL_law, w.before #[Value.ref b] s = true := fun w h => hts0 w (wsL_law_in w h)
  have hA : ∀ a : Nat, s.heap.size ≤ a → (fun a : Nat => s.heap.size ≤ a) a := fun _ h => h
  have hbA : ¬ (fun a : Nat => s.heap.size ≤ a) b := Nat.not_le.mpr hbl
  have hfix : CallFix p m c cL_law 4 s #[Value.ref b] wsL_law RL := ⟨hx, hb, hml, hown, hts⟩
  intro I J A B I2 S A2 H locs ls HS hP hD hS hl
  have i1 : vp_in (x3 + 1) L := hin 1 (by omega)
  have i2 : vp_in (x3 + 2) L := hin 2 (by omega)
  have i3 : vp_in (x3 + 3) L := hin 3 (by omega)
  obtain ⟨bv, bv0, bv1⟩ : ∃ z : Int32, ((xs (x3 + 3).toNatClampNeg) = 0 → z = 0) ∧ (¬ (xs (x3 + 3).toNatClampNeg) = 0 → z = 1) := ⟨if (xs (x3 + 3).toNatClampNeg) = 0 then 0 else 1, fun z => if_pos z, fun z => if_neg z⟩
  obtain ⟨o, I3, A3, f7, f8, HS1⟩ := s_share HS (xs (x3 + 1).toNatClampNeg) (xs (x3 + 2).toNatClampNeg) bv
  refine lv_aload_n hx hb dL_law_620 rfl (lv_at hl 1 rfl) ?_
  refine lv_aload_n hx hb dL_law_621 rfl (lv_at hl 0 rfl) ?_
  refine lv_iload_n hx hb dL_law_622 rfl (lv_at hl 3 rfl) ?_
  refine lv_iconst (v := 1) hx hb dL_law_623 (by decide) ?_
  refine lv_iadd hx hb dL_law_624 ?_
  refine va_sld hx hb hX hbl hbA hS i1 dL_law_625 ?_
  refine lv_aload_n hx hb dL_law_626 rfl (lv_at hl 0 rfl) ?_
  refine lv_iload_n hx hb dL_law_627 rfl (lv_at hl 3 rfl) ?_
  refine lv_iconst (v := 2) hx hb dL_law_628 (by decide) ?_
  refine lv_iadd hx hb dL_law_629 ?_
  refine va_sld hx hb hX hbl hbA hS i2 dL_law_630 ?_
  refine lv_aload_n hx hb dL_law_631 rfl (lv_at hl 0 rfl) ?_
  refine lv_iload_n hx hb dL_law_632 rfl (lv_at hl 3 rfl) ?_
  refine lv_iconst (v := 3) hx hb dL_law_633 (by decide) ?_
  refine lv_iadd hx hb dL_law_634 ?_
  refine va_sld hx hb hX hbl hbA hS i3 dL_law_635 ?_
  suffices hj : W p l e room_1 s m #[Value.ref b] below meth c H locs 36 1349 (lw_Z below #[Value.ref b] s) (F0 m 644 ls [.int bv, .int (xs (x3 + 2).toNatClampNeg), .int (xs (x3 + 1).toNatClampNeg), .ref (q 0)]) by
    refine lv_if_eq (tgt := 643) hx hb dL_law_636 (by decide) (fun g => ?_) (fun g => ?_)
    · refine lv_iconst (v := 0) hx hb dL_law_643 (by decide) ?_
      rw [bv0 g] at hj
      exact hj
    · refine lv_iconst (v := 1) hx hb dL_law_639 (by decide) ?_
      refine lv_goto (tgt := 644) hx hb dL_law_640 (by decide) ?_
      rw [bv1 g] at hj
      exact hj
  refine sh_cVi (As := [.int (xs (x3 + 1).toNatClampNeg), .int (xs (x3 + 2).toNatClampNeg), .int bv]) (rest := []) hfix (k_X7_share l D cI cJ cZ q I J A B (xs (x3 + 1).toNatClampNeg) (xs (x3 + 2).toNatClampNeg) bv o f7) (cwV 3 hts gL_law_X7_share rfl rfl rfl hdV_X7_share ⟨Nat.le_of_ble_eq_true rfl, Nat.le_of_ble_eq_true rfl⟩) hP hK [0, 1, 2, 3, 4, 5, 6, 7, 8, 9, 10, 11, 12, 13, 14, 15, 16, 17, 18, 19, 20, 21, 22] rfl 0 rfl rfl rfl hl.1 rfl (Nat.le_of_ble_eq_true rfl) dL_law_644 ⟨Nat.le_of_ble_eq_true rfl, Nat.le_of_ble_eq_true rfl⟩ ?_
  refine lv_aload_n hx hb dL_law_647 rfl (lv_at hl 2 rfl) ?_
  refine lv_aload_n hx hb dL_law_648 rfl (lv_at hl 0 rfl) ?_
  refine lv_iload_n hx hb dL_law_649 rfl (lv_at hl 3 rfl) ?_
  refine lv_iconst (v := 1) hx hb dL_law_650 (by decide) ?_
  refine lv_iadd hx hb dL_law_651 ?_
  refine va_sld hx hb hX hbl hbA hS i1 dL_law_652 ?_
  refine lv_aload_n hx hb dL_law_653 rfl (lv_at hl 0 rfl) ?_
  refine lv_iload_n hx hb dL_law_654 rfl (lv_at hl 3 rfl) ?_
  refine lv_iconst (v := 2) hx hb dL_law_655 (by decide) ?_
  refine lv_iadd hx hb dL_law_656 ?_
  refine va_sld hx hb hX hbl hbA hS i2 dL_law_657 ?_
  refine lv_aload_n hx hb dL_law_658 rfl (lv_at hl 0 rfl) ?_
  refine lv_iload_n hx hb dL_law_659 rfl (lv_at hl 3 rfl) ?_
  refine lv_iconst (v := 3) hx hb dL_law_660 (by decide) ?_
  refine lv_iadd hx hb dL_law_661 ?_
  refine va_sld hx hb hX hbl hbA hS i3 dL_law_662 ?_
  suffices hj : W p l e room_1 s m #[Value.ref b] below meth c H locs 36 1349 (lw_Z below #[Value.ref b] s) (F0 m 671 ls [.int bv, .int (xs (x3 + 2).toNatClampNeg), .int (xs (x3 + 1).toNatClampNeg), .ref (q2 0), .int o]) by
    refine lv_if_eq (tgt := 670) hx hb dL_law_663 (by decide) (fun g => ?_) (fun g => ?_)
    · refine lv_iconst (v := 0) hx hb dL_law_670 (by decide) ?_
      rw [bv0 g] at hj
      exact hj
    · refine lv_iconst (v := 1) hx hb dL_law_666 (by decide) ?_
      refine lv_goto (tgt := 671) hx hb dL_law_667 (by decide) ?_
      rw [bv1 g] at hj
      exact hj
  refine sh_wVi (wn := sh_w7 q cI cJ cZ I J A B ++ sh_w8 q2 cI cJ cZ I3 S A3) (As := [.int (xs (x3 + 1).toNatClampNeg), .int (xs (x3 + 2).toNatClampNeg), .int bv]) (rest := [.int o]) hfix (k_X8_share l D cI cJ cZ _ q2 I2 S A2 (xs (x3 + 1).toNatClampNeg) (xs (x3 + 2).toNatClampNeg) bv o I3 A3 f8) (cwV 3 hts gL_law_X8_share rfl rfl rfl hdV_X8_share ⟨Nat.le_of_ble_eq_true rfl, Nat.le_of_ble_eq_true rfl⟩) hP hK hD hS hA [23, 24, 25, 26, 27, 28, 29, 30, 31, 32, 33, 34, 35] [0, 1, 2, 3, 4, 5, 6, 7, 8, 9, 10, 11, 12, 13, 14, 15, 16, 17, 18, 19, 20, 21, 22] [0, 1, 2, 3, 4, 5, 6, 7, 8, 9, 10, 11, 12, 13, 14, 15, 16, 17, 18, 19, 20, 21, 22, 23, 24, 25, 26, 27, 28, 29, 30, 31, 32, 33, 34, 35] rfl rfl rfl rfl rfl rfl rfl 23 rfl rfl rfl hl.1 rfl (Nat.le_of_ble_eq_true rfl) dL_law_671 ⟨Nat.le_of_ble_eq_true rfl, Nat.le_of_ble_eq_true rfl⟩ (fun H locs hP hD hS => ?_)
  refine lv_icmp_eq (tgt := 960) hx hb dL_law_674 (by decide) (fun g => ?_) (fun g => absurd rfl g)
  exact hk _ _ _ _ _ _ _ _ _ ls HS1 hP hD hS hl
set_option maxHeartbeats 4000000 in
set_option maxRecDepth 100000 in
theorem lc_see {p : Program} {l : Launch} {e : Env} {s : State} {m : MethodId} {below : List Frame} {meth : Method} {c : Code} {b L : Nat} {xs : Nat → Int32} {D : va_G} {cI cJ cZ : ClassId} {q q2 : Nat → Nat} {x3 : Int32} (C0 : lw_At p s m meth c b L xs) (hK : va_K D vwCl (sh_ty cI cJ cZ) s) (hin : ∀ k, k < 6 → vp_in (x3 + nI k) L) (hk : lw_J p l e s m below meth c b D cI cJ cZ q q2 x3 960) : lw_J p l e s m below meth c b D cI cJ cZ q q2 x3 679 := by
  obtain ⟨hx, hb, hr, hml, hown0, hts0, hX, hbl, hlocks, hgv⟩ := C0
  have hown : s.vm.findClass RL = some m.cls := hown0
  have hts : ∀ w ∈ wsL_law, w.before #[Value.ref b] s = true := fun w h => hts0 w (wsL_law_in w h)
  have hA : ∀ a : Nat, s.heap.size ≤ a → (fun a : Nat => s.heap.size ≤ a) a := fun _ h => h
  have hbA : ¬ (fun a : Nat => s.heap.size ≤ a) b := Nat.not_le.mpr hbl
  have hfix : CallFix p m c cL_law 4 s #[Value.ref b] wsL_law RL := ⟨hx, hb, hml, hown, hts⟩
  intro I J A B I2 S A2 H locs ls HS hP hD hS hl
  have i1 : vp_in (x3 + 1) L := hin 1 (by omega)
  have i2 : vp_in (x3 + 2) L := hin 2 (by omega)
  have i3 : vp_in (x3 + 3) L := hin 3 (by omega)
  obtain ⟨o, I1, A1, I3, A3, f7, f8, HS1⟩ := s_see HS (xs (x3 + 1).toNatClampNeg) (xs (x3 + 2).toNatClampNeg) (xs (x3 + 3).toNatClampNeg)
  refine lv_aload_n hx hb dL_law_679 rfl (lv_at hl 1 rfl) ?_
  refine lv_aload_n hx hb dL_law_680 rfl (lv_at hl 0 rfl) ?_
  refine lv_iload_n hx hb dL_law_681 rfl (lv_at hl 3 rfl) ?_
  refine lv_iconst (v := 1) hx hb dL_law_682 (by decide) ?_
  refine lv_iadd hx hb dL_law_683 ?_
  refine va_sld hx hb hX hbl hbA hS i1 dL_law_684 ?_
  refine lv_aload_n hx hb dL_law_685 rfl (lv_at hl 0 rfl) ?_
  refine lv_iload_n hx hb dL_law_686 rfl (lv_at hl 3 rfl) ?_
  refine lv_iconst (v := 2) hx hb dL_law_687 (by decide) ?_
  refine lv_iadd hx hb dL_law_688 ?_
  refine va_sld hx hb hX hbl hbA hS i2 dL_law_689 ?_
  refine lv_aload_n hx hb dL_law_690 rfl (lv_at hl 0 rfl) ?_
  refine lv_iload_n hx hb dL_law_691 rfl (lv_at hl 3 rfl) ?_
  refine lv_iconst (v := 3) hx hb dL_law_692 (by decide) ?_
  refine lv_iadd hx hb dL_law_693 ?_
  refine va_sld hx hb hX hbl hbA hS i3 dL_law_694 ?_
  refine sh_wVi (wn := sh_w7 q cI cJ cZ I1 J A1 B ++ sh_w8 q2 cI cJ cZ I2 S A2) (As := [.int (xs (x3 + 1).toNatClampNeg), .int (xs (x3 + 2).toNatClampNeg), .int (xs (x3 + 3).toNatClampNeg)]) (rest := []) hfix (k_X7_see l D cI cJ cZ _ q I J A B (xs (x3 + 1).toNatClampNeg) (xs (x3 + 2).toNatClampNeg) (xs (x3 + 3).toNatClampNeg) o I1 A1 f7) (cwV 3 hts gL_law_X7_see rfl rfl rfl hdV_X7_see ⟨Nat.le_of_ble_eq_true rfl, Nat.le_of_ble_eq_true rfl⟩) hP hK hD hS hA [0, 1, 2, 3, 4, 5, 6, 7, 8, 9, 10, 11, 12, 13, 14, 15, 16, 17, 18, 19, 20, 21, 22] [23, 24, 25, 26, 27, 28, 29, 30, 31, 32, 33, 34, 35] [13, 14, 15, 16, 17, 18, 19, 20, 21, 22, 23, 24, 25, 26, 27, 28, 29, 30, 31, 32, 33, 34, 35, 0, 1, 2, 3, 4, 5, 6, 7, 8, 9, 10, 11, 12] rfl rfl rfl rfl rfl rfl rfl 0 rfl rfl rfl hl.1 rfl (Nat.le_of_ble_eq_true rfl) dL_law_695 ⟨Nat.le_of_ble_eq_true rfl, Nat.le_of_ble_eq_true rfl⟩ (fun H locs hP hD hS => ?_)
  refine lv_aload_n hx hb dL_law_698 rfl (lv_at hl 2 rfl) ?_
  refine lv_aload_n hx hb dL_law_699 rfl (lv_at hl 0 rfl) ?_
  refine lv_iload_n hx hb dL_law_700 rfl (lv_at hl 3 rfl) ?_
  refine lv_iconst (v := 1) hx hb dL_law_701 (by decide) ?_
  refine lv_iadd hx hb dL_law_702 ?_
  refine va_sld hx hb hX hbl hbA hS i1 dL_law_703 ?_
  refine lv_aload_n hx hb dL_law_704 rfl (lv_at hl 0 rfl) ?_
  refine lv_iload_n hx hb dL_law_705 rfl (lv_at hl 3 rfl) ?_
  refine lv_iconst (v := 2) hx hb dL_law_706 (by decide) ?_
  refine lv_iadd hx hb dL_law_707 ?_
  refine va_sld hx hb hX hbl hbA hS i2 dL_law_708 ?_
  refine lv_aload_n hx hb dL_law_709 rfl (lv_at hl 0 rfl) ?_
  refine lv_iload_n hx hb dL_law_710 rfl (lv_at hl 3 rfl) ?_
  refine lv_iconst (v := 3) hx hb dL_law_711 (by decide) ?_
  refine lv_iadd hx hb dL_law_712 ?_
  refine va_sld hx hb hX hbl hbA hS i3 dL_law_713 ?_
  refine sh_wVi (wn := sh_w7 q cI cJ cZ I1 J A1 B ++ sh_w8 q2 cI cJ cZ I3 S A3) (As := [.int (xs (x3 + 1).toNatClampNeg), .int (xs (x3 + 2).toNatClampNeg), .int (xs (x3 + 3).toNatClampNeg)]) (rest := [.int o]) hfix (k_X8_see l D cI cJ cZ _ q2 I2 S A2 (xs (x3 + 1).toNatClampNeg) (xs (x3 + 2).toNatClampNeg) (xs (x3 + 3).toNatClampNeg) o I3 A3 f8) (cwV 3 hts gL_law_X8_see rfl rfl rfl hdV_X8_see ⟨Nat.le_of_ble_eq_true rfl, Nat.le_of_ble_eq_true rfl⟩) hP hK hD hS hA [23, 24, 25, 26, 27, 28, 29, 30, 31, 32, 33, 34, 35] [0, 1, 2, 3, 4, 5, 6, 7, 8, 9, 10, 11, 12, 13, 14, 15, 16, 17, 18, 19, 20, 21, 22] [0, 1, 2, 3, 4, 5, 6, 7, 8, 9, 10, 11, 12, 13, 14, 15, 16, 17, 18, 19, 20, 21, 22, 23, 24, 25, 26, 27, 28, 29, 30, 31, 32, 33, 34, 35] rfl rfl rfl rfl rfl rfl rfl 23 rfl rfl rfl hl.1 rfl (Nat.le_of_ble_eq_true rfl) dL_law_714 ⟨Nat.le_of_ble_eq_true rfl, Nat.le_of_ble_eq_true rfl⟩ (fun H locs hP hD hS => ?_)
  refine lv_icmp_eq (tgt := 960) hx hb dL_law_717 (by decide) (fun g => ?_) (fun g => absurd rfl g)
  exact hk _ _ _ _ _ _ _ _ _ ls HS1 hP hD hS hl
set_option maxHeartbeats 4000000 in
set_option maxRecDepth 100000 in
theorem lc_unsee {p : Program} {l : Launch} {e : Env} {s : State} {m : MethodId} {below : List Frame} {meth : Method} {c : Code} {b L : Nat} {xs : Nat → Int32} {D : va_G} {cI cJ cZ : ClassId} {q q2 : Nat → Nat} {x3 : Int32} (C0 : lw_At p s m meth c b L xs) (hK : va_K D vwCl (sh_ty cI cJ cZ) s) (hin : ∀ k, k < 6 → vp_in (x3 + nI k) L) (hk : lw_J p l e s m below meth c b D cI cJ cZ q q2 x3 960) : lw_J p l e s m below meth c b D cI cJ cZ q q2 x3 722 := by
  obtain ⟨hx, hb, hr, hml, hown0, hts0, hX, hbl, hlocks, hgv⟩ := C0
  have hown : s.vm.findClass RL = some m.cls := hown0
  have hts : ∀ w ∈ wsL_law, w.before #[Value.ref b] s = true := fun w h => hts0 w (wsL_law_in w h)
  have hA : ∀ a : Nat, s.heap.size ≤ a → (fun a : Nat => s.heap.size ≤ a) a := fun _ h => h
  have hbA : ¬ (fun a : Nat => s.heap.size ≤ a) b := Nat.not_le.mpr hbl
  have hfix : CallFix p m c cL_law 4 s #[Value.ref b] wsL_law RL := ⟨hx, hb, hml, hown, hts⟩
  intro I J A B I2 S A2 H locs ls HS hP hD hS hl
  obtain ⟨o, I1, I3, f7, f8, HS1⟩ := s_unsee HS
  refine lv_aload_n hx hb dL_law_722 rfl (lv_at hl 1 rfl) ?_
  refine sh_wVi (wn := sh_w7 q cI cJ cZ I1 J A B ++ sh_w8 q2 cI cJ cZ I2 S A2) (As := []) (rest := []) hfix (k_X7_unsee l D cI cJ cZ _ q I J A B o I1 f7) (cwV 0 hts gL_law_X7_unsee rfl rfl rfl hdV_X7_unsee ⟨Nat.le_of_ble_eq_true rfl, Nat.le_of_ble_eq_true rfl⟩) hP hK hD hS hA [0, 1, 2, 3, 4, 5, 6, 7, 8, 9, 10, 11, 12, 13, 14, 15, 16, 17, 18, 19, 20, 21, 22] [23, 24, 25, 26, 27, 28, 29, 30, 31, 32, 33, 34, 35] [13, 14, 15, 16, 17, 18, 19, 20, 21, 22, 23, 24, 25, 26, 27, 28, 29, 30, 31, 32, 33, 34, 35, 0, 1, 2, 3, 4, 5, 6, 7, 8, 9, 10, 11, 12] rfl rfl rfl rfl rfl rfl rfl 0 rfl rfl rfl hl.1 rfl (Nat.le_of_ble_eq_true rfl) dL_law_723 ⟨Nat.le_of_ble_eq_true rfl, Nat.le_of_ble_eq_true rfl⟩ (fun H locs hP hD hS => ?_)
  refine lv_aload_n hx hb dL_law_726 rfl (lv_at hl 2 rfl) ?_
  refine sh_wVi (wn := sh_w7 q cI cJ cZ I1 J A B ++ sh_w8 q2 cI cJ cZ I3 S A2) (As := []) (rest := [.int o]) hfix (k_X8_unsee l D cI cJ cZ _ q2 I2 S A2 o I3 f8) (cwV 0 hts gL_law_X8_unsee rfl rfl rfl hdV_X8_unsee ⟨Nat.le_of_ble_eq_true rfl, Nat.le_of_ble_eq_true rfl⟩) hP hK hD hS hA [23, 24, 25, 26, 27, 28, 29, 30, 31, 32, 33, 34, 35] [0, 1, 2, 3, 4, 5, 6, 7, 8, 9, 10, 11, 12, 13, 14, 15, 16, 17, 18, 19, 20, 21, 22] [0, 1, 2, 3, 4, 5, 6, 7, 8, 9, 10, 11, 12, 13, 14, 15, 16, 17, 18, 19, 20, 21, 22, 23, 24, 25, 26, 27, 28, 29, 30, 31, 32, 33, 34, 35] rfl rfl rfl rfl rfl rfl rfl 23 rfl rfl rfl hl.1 rfl (Nat.le_of_ble_eq_true rfl) dL_law_727 ⟨Nat.le_of_ble_eq_true rfl, Nat.le_of_ble_eq_true rfl⟩ (fun H locs hP hD hS => ?_)
  refine lv_icmp_eq (tgt := 960) hx hb dL_law_730 (by decide) (fun g => ?_) (fun g => absurd rfl g)
  exact hk _ _ _ _ _ _ _ _ _ ls HS1 hP hD hS hl
