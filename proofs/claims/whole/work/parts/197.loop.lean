/-! the loop of the law -/
set_option maxHeartbeats 4000000 in
set_option maxRecDepth 100000 in
theorem law_loop {p : Program} {l : Launch} {e : Env} {s : State} {m : MethodId} {below : List Frame} {meth : Method} {c : Code} {b L : Nat} {xs : Nat → Int32} {D : va_G} {cI cJ cZ : ClassId} {q q2 : Nat → Nat} (hL : L ≤ 3072) (C0 : lw_At p s m meth c b L xs) (hK : va_K D vwCl (sh_ty cI cJ cZ) s) : ∀ (n i : Nat) (x3 : Int32), i ≤ L → L + 1 ≤ i + n → x3 = nI i → lw_J p l e s m below meth c b D cI cJ cZ q q2 x3 18 := by
  obtain ⟨hx, hb, hr, hml, hown, hts, hX, hbl, hlocks, hgv⟩ := id C0
  have hbA : ¬ (fun a : Nat => s.heap.size ≤ a) b := Nat.not_le.mpr hbl
  intro n
  induction n with
  | zero =>
    intro i x3 h1 h2
    exact absurd h2 (by omega)
  | succ n ih =>
    intro i x3 hi hn ex I J A B I2 S A2 H locs ls HS hP hD hS hl
    refine lv_iload_n hx hb dL_law_18 rfl (lv_at hl 3 rfl) ?_
    refine lv_aload_n hx hb dL_law_19 rfl (lv_at hl 0 rfl) ?_
    refine va_slen hx hb hX hbl hbA hS dL_law_20 ?_
    refine lv_bipush (v := 6) hx hb dL_law_21 (by decide) ?_
    refine lv_isub hx hb dL_law_23 ?_
    have hsub : (Int32.ofNat L - 6).toInt = (L : Int) - 6 := pk_sub_toInt (a := L) (b := 6) (by omega) (by omega)
    have hxi : x3.toInt = (i : Int) := by rw [ex]; exact nI_toInt (by omega)
    refine lv_icmp_gt (tgt := 966) hx hb dL_law_24 (by decide) (fun g => ?_) (fun g => ?_)
    · refine lv_iconst (v := 1) hx hb dL_law_966 (by decide) ?_
      refine va_forget (fun a ha => hS.2.2 a ha) ?_
      exact lw_ret hx hb hr hlocks dL_law_967
    · have hlt : i + 6 ≤ L := by
        rw [Int32.lt_iff_toInt_lt, hsub, hxi] at g
        omega
      have hin : ∀ k, k < 6 → vp_in (x3 + nI k) L := fun k hk => by rw [ex, nI_add]; exact vp_in_nI (by omega) (by omega)
      have hin0 : vp_in x3 L := by rw [ex]; exact vp_in_nI (by omega) (by omega)
      have hk : lw_J p l e s m below meth c b D cI cJ cZ q q2 x3 960 := by
        intro I J A B I2 S A2 H locs ls HS hP hD hS hl
        refine lv_iinc (v := x3 + 6) (lv' := [(3, .int (x3 + 6)), (0, .ref b), (1, .ref (q 0)), (2, .ref (q2 0))]) hx hb dL_law_960 hl (k := 3) rfl rfl (by decide) rfl (fun ls hl => ?_)
        refine lv_goto (tgt := 18) hx hb dL_law_963 (by decide) ?_
        exact ih (i + 6) (x3 + 6) hlt (by omega) (by rw [ex]; exact nI_add i 6) I J A B I2 S A2 H locs ls HS hP hD hS (lv_sub hl [1, 2, 3, 0] rfl)
      refine lv_aload_n hx hb dL_law_27 rfl (lv_at hl 0 rfl) ?_
      refine lv_iload_n hx hb dL_law_28 rfl (lv_at hl 3 rfl) ?_
      refine va_sld hx hb hX hbl hbA hS hin0 dL_law_29 ?_
      refine lv_bipush (v := 31) hx hb dL_law_30 (by decide) ?_
      refine lv_iand hx hb dL_law_32 ?_
      obtain ⟨j, hj, ej⟩ := pk_andE (xs x3.toNatClampNeg) (m := 31) 5 (by decide)
      rw [ej]
      rcases Nat.lt_or_ge 25 j with z | z
      · refine lv_tableOut (tgt := 960) hx hb dL_law_33 (Or.inr (by rw [nI_toInt (by omega)]; omega)) (by decide) ?_
        exact hk I J A B I2 S A2 H locs ls HS hP hD hS hl
      · have hc : j = 0 ∨ j = 1 ∨ j = 2 ∨ j = 3 ∨ j = 4 ∨ j = 5 ∨ j = 6 ∨ j = 7 ∨ j = 8 ∨ j = 9 ∨ j = 10 ∨ j = 11 ∨ j = 12 ∨ j = 13 ∨ j = 14 ∨ j = 15 ∨ j = 16 ∨ j = 17 ∨ j = 18 ∨ j = 19 ∨ j = 20 ∨ j = 21 ∨ j = 22 ∨ j = 23 ∨ j = 24 ∨ j = 25 := by omega
        rcases hc with rfl | rfl | rfl | rfl | rfl | rfl | rfl | rfl | rfl | rfl | rfl | rfl | rfl | rfl | rfl | rfl | rfl | rfl | rfl | rfl | rfl | rfl | rfl | rfl | rfl | rfl
        · refine lv_tableIn (off := 119) (tgt := 152) hx hb dL_law_33 (by decide) (by decide) rfl (by decide) ?_
          exact lc_write C0 hK hin hk I J A B I2 S A2 H locs ls HS hP hD hS hl
        · refine lv_tableIn (off := 142) (tgt := 175) hx hb dL_law_33 (by decide) (by decide) rfl (by decide) ?_
          exact lc_wipe C0 hK hin hk I J A B I2 S A2 H locs ls HS hP hD hS hl
        · refine lv_tableIn (off := 155) (tgt := 188) hx hb dL_law_33 (by decide) (by decide) rfl (by decide) ?_
          exact lc_fault C0 hK hin hk I J A B I2 S A2 H locs ls HS hP hD hS hl
        · refine lv_tableIn (off := 168) (tgt := 201) hx hb dL_law_33 (by decide) (by decide) rfl (by decide) ?_
          exact lc_picture C0 hK hin hk I J A B I2 S A2 H locs ls HS hP hD hS hl
        · refine lv_tableIn (off := 181) (tgt := 214) hx hb dL_law_33 (by decide) (by decide) rfl (by decide) ?_
          exact lc_about C0 hK hin hk I J A B I2 S A2 H locs ls HS hP hD hS hl
        · refine lv_tableIn (off := 204) (tgt := 237) hx hb dL_law_33 (by decide) (by decide) rfl (by decide) ?_
          exact lc_shade C0 hK hin hk I J A B I2 S A2 H locs ls HS hP hD hS hl
        · refine lv_tableIn (off := 227) (tgt := 260) hx hb dL_law_33 (by decide) (by decide) rfl (by decide) ?_
          exact lc_node C0 hK hin hk I J A B I2 S A2 H locs ls HS hP hD hS hl
        · refine lv_tableIn (off := 260) (tgt := 293) hx hb dL_law_33 (by decide) (by decide) rfl (by decide) ?_
          exact lc_dots C0 hK hin hk I J A B I2 S A2 H locs ls HS hP hD hS hl
        · refine lv_tableIn (off := 284) (tgt := 317) hx hb dL_law_33 (by decide) (by decide) rfl (by decide) ?_
          exact lc_parts C0 hK hin hk I J A B I2 S A2 H locs ls HS hP hD hS hl
        · refine lv_tableIn (off := 307) (tgt := 340) hx hb dL_law_33 (by decide) (by decide) rfl (by decide) ?_
          exact lc_paint C0 hK hin hk I J A B I2 S A2 H locs ls HS hP hD hS hl
        · refine lv_tableIn (off := 340) (tgt := 373) hx hb dL_law_33 (by decide) (by decide) rfl (by decide) ?_
          exact lc_negative C0 hK hin hk I J A B I2 S A2 H locs ls HS hP hD hS hl
        · refine lv_tableIn (off := 353) (tgt := 386) hx hb dL_law_33 (by decide) (by decide) rfl (by decide) ?_
          exact lc_sift C0 hK hin hk I J A B I2 S A2 H locs ls HS hP hD hS hl
        · refine lv_tableIn (off := 386) (tgt := 419) hx hb dL_law_33 (by decide) (by decide) rfl (by decide) ?_
          exact lc_undo C0 hK hin hk I J A B I2 S A2 H locs ls HS hP hD hS hl
        · refine lv_tableIn (off := 399) (tgt := 432) hx hb dL_law_33 (by decide) (by decide) rfl (by decide) ?_
          exact lc_pass C0 hK hin hk I J A B I2 S A2 H locs ls HS hP hD hS hl
        · refine lv_tableIn (off := 432) (tgt := 465) hx hb dL_law_33 (by decide) (by decide) rfl (by decide) ?_
          exact lc_grows C0 hK hin hk I J A B I2 S A2 H locs ls HS hP hD hS hl
        · refine lv_tableIn (off := 491) (tgt := 524) hx hb dL_law_33 (by decide) (by decide) rfl (by decide) ?_
          exact lc_steady C0 hK hin hk I J A B I2 S A2 H locs ls HS hP hD hS hl
        · refine lv_tableIn (off := 524) (tgt := 557) hx hb dL_law_33 (by decide) (by decide) rfl (by decide) ?_
          exact lc_judge C0 hK hin hk I J A B I2 S A2 H locs ls HS hP hD hS hl
        · refine lv_tableIn (off := 587) (tgt := 620) hx hb dL_law_33 (by decide) (by decide) rfl (by decide) ?_
          exact lc_share C0 hK hin hk I J A B I2 S A2 H locs ls HS hP hD hS hl
        · refine lv_tableIn (off := 646) (tgt := 679) hx hb dL_law_33 (by decide) (by decide) rfl (by decide) ?_
          exact lc_see C0 hK hin hk I J A B I2 S A2 H locs ls HS hP hD hS hl
        · refine lv_tableIn (off := 689) (tgt := 722) hx hb dL_law_33 (by decide) (by decide) rfl (by decide) ?_
          exact lc_unsee C0 hK hin hk I J A B I2 S A2 H locs ls HS hP hD hS hl
        · refine lv_tableIn (off := 702) (tgt := 735) hx hb dL_law_33 (by decide) (by decide) rfl (by decide) ?_
          exact lc_ways C0 hK hin hk I J A B I2 S A2 H locs ls HS hP hD hS hl
        · refine lv_tableIn (off := 725) (tgt := 758) hx hb dL_law_33 (by decide) (by decide) rfl (by decide) ?_
          exact lc_fades C0 hK hin hk I J A B I2 S A2 H locs ls HS hP hD hS hl
        · refine lv_tableIn (off := 804) (tgt := 837) hx hb dL_law_33 (by decide) (by decide) rfl (by decide) ?_
          exact lc_seed C0 hK hin hk I J A B I2 S A2 H locs ls HS hP hD hS hl
        · refine lv_tableIn (off := 858) (tgt := 891) hx hb dL_law_33 (by decide) (by decide) rfl (by decide) ?_
          exact lc_drawn C0 hK hin hk I J A B I2 S A2 H locs ls HS hP hD hS hl
        · refine lv_tableIn (off := 881) (tgt := 914) hx hb dL_law_33 (by decide) (by decide) rfl (by decide) ?_
          exact lc_keep C0 hK hin hk I J A B I2 S A2 H locs ls HS hP hD hS hl
        · refine lv_tableIn (off := 904) (tgt := 937) hx hb dL_law_33 (by decide) (by decide) rfl (by decide) ?_
          exact lc_again C0 hK hin hk I J A B I2 S A2 H locs ls HS hP hD hS hl
