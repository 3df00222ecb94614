/-! the start: both systems as they are made hold together -/
def sh_q (a : Nat) (u : Nat → Nat) : Nat → Nat := fun k => match k with
  | 0 => a
  | k + 1 => u k
def st_I : Nat → Int32 := fun k => match k with
  | 1 => 4
  | 2 => 1
  | 3 => 1
  | _ => 0
def st_J (ga gl gr : Int64) : Nat → Int64 := fun k => match k with
  | 0 => ga
  | 1 => gl
  | 2 => gr
  | _ => 0
def st_B (d0 : Nat → Int64) : Nat → Nat → Int64 := fun k => match k with
  | 0 => d0
  | 1 => d0
  | _ => fun _ => 0
def st_A2 : Nat → Nat → Int32 := fun k => match k with
  | 2 => upd (upd (upd (fun _ => 0) 0 4) 1 1) 2 1
  | _ => fun _ => 0
theorem st_sim {ga gl gr : Int64} {d0 : Nat → Int64} (hlay : Lay (nI 4) (nI 1) (nI 1) ga gl gr 4 1 1) (hlev : Lev d0 (1 * 1) (fun _ => 0)) : Sim st_I (st_J ga gl gr) (fun _ _ => 0) (st_B d0) (fun _ => 0) 0 st_A2 := by
  refine ⟨4, 1, 1, fun _ => 0, 0, 0, 0, ⟨⟨rfl, rfl, rfl, ⟨Or.inl rfl, ⟨by omega, by omega⟩, by omega, by omega⟩, fun d hd => ?_⟩, hlay, hlev⟩, ⟨by omega, rfl, rfl, fun j hj => absurd hj (Nat.not_lt_zero j)⟩, ⟨by omega, rfl, rfl, fun j hj => absurd hj (Nat.not_lt_zero j)⟩, fun z _ => ⟨rfl, fun h => absurd rfl h⟩, ⟨by omega, rfl, rfl, fun j hj => absurd hj (Nat.not_lt_zero j)⟩, rfl, rfl⟩
  obtain rfl : d = 0 := by omega
  exact ⟨rfl, Nat.zero_le 9⟩
theorem st_arr {U : State} {args : Array Value} {ty : FieldType} (hp : sh_pr ty = true) (h : (Cond.arrayClass ty).before args U = true) : ∃ cA : ClassId, ArrOfT U cA ty ∧ va_RA U cA ty := by
  obtain ⟨cA, kA, comp, h1, h2, h3⟩ := Cond.arrayClass_spec h
  refine ⟨cA, fun n z => ⟨fun k h => (by cases h), kA, h2, comp, h3⟩, ?_⟩
  cases ty with
  | object C => exact nomatch hp
  | _ => exact h1
set_option maxHeartbeats 4000000 in
set_option maxRecDepth 100000 in
theorem whole_start {p : Program} {e : Env} {s : State} {m : MethodId} {below : List Frame} {meth : Method} {c : Code} (l : Launch) (hflags : l.flags = flags0) {b L : Nat} {xs : Nat → Int32} (hL : L ≤ 3072) (C0 : lw_At p s m meth c b L xs) : W p l e room_1 s m #[Value.ref b] below meth c s.heap [] 0 0 (lw_Z below #[Value.ref b] s) (entryFrame m ([Value.ref b] : List Value).toArray 4) := by
  obtain ⟨hx, hb, hr, hml, hown0, hts0, hX, hbl, hlocks, hgv⟩ := id C0
  have hown : s.vm.findClass RL = some m.cls := hown0
  have hts : ∀ w ∈ wsL_law, w.before #[Value.ref b] s = true := fun w h => hts0 w (wsL_law_in w h)
  have hA : ∀ a : Nat, s.heap.size ≤ a → (fun a : Nat => s.heap.size ≤ a) a := fun _ h => h
  have hfix : CallFix p m c cL_law 4 s #[Value.ref b] wsL_law RL := ⟨hx, hb, hml, hown, hts⟩
  obtain ⟨c0, iS0, hK0⟩ := u_known (C := RX0) (T := TX0) (N := 2) (n := 2) hts0 wl_X0 (hts0 (.instantiable RX0 2) (List.mem_of_getElem? (i := 144) (by decide +kernel)))
  obtain ⟨c1, iS1, hK1⟩ := u_known (C := RX1) (T := TX1) (N := 6) (n := 6) hts0 wl_X1 (hts0 (.instantiable RX1 6) (List.mem_of_getElem? (i := 71) (by decide +kernel)))
  obtain ⟨c2, iS2, hK2⟩ := u_known (C := RX2) (T := TX2) (N := 2) (n := 2) hts0 wl_X2 (hts0 (.instantiable RX2 2) (List.mem_of_getElem? (i := 100) (by decide +kernel)))
  obtain ⟨c3, iS3, hK3⟩ := u_known (C := RX3) (T := TX3) (N := 4) (n := 4) hts0 wl_X3 (hts0 (.instantiable RX3 4) (List.mem_of_getElem? (i := 171) (by decide +kernel)))
  obtain ⟨c4, iS4, hK4⟩ := u_known (C := RX4) (T := TX4) (N := 2) (n := 2) hts0 wl_X4 (hts0 (.instantiable RX4 2) (List.mem_of_getElem? (i := 157) (by decide +kernel)))
  obtain ⟨c5, iS5, hK5⟩ := u_known (C := RX5) (T := TX5) (N := 2) (n := 2) hts0 wl_X5 (hts0 (.instantiable RX5 2) (List.mem_of_getElem? (i := 57) (by decide +kernel)))
  obtain ⟨c6, iS6, hK6⟩ := u_known (C := RX6) (T := TX6) (N := 5) (n := 5) hts0 wl_X6 (hts0 (.instantiable RX6 5) (List.mem_of_getElem? (i := 122) (by decide +kernel)))
  obtain ⟨c7, iS7, hK7⟩ := u_known (C := RX7) (T := TX7) (N := 10) (n := 10) hts0 wl_X7 (hts0 (.instantiable RX7 10) (List.mem_of_getElem? (i := 49) (by decide +kernel)))
  obtain ⟨c8, iS8, hK8⟩ := u_known (C := RX8) (T := TX8) (N := 21) (n := 21) hts0 wl_X8 (hts0 (.instantiable RX8 21) (List.mem_of_getElem? (i := 689) (by decide +kernel)))
  obtain ⟨D, hKc⟩ : ∃ D : va_G, ∀ (k : Nat) (q : vw_C), vwCl[k]? = some q → u_Kn s q.1 q.2.1 q.2.2 (D.1 k) (D.2 k) := by
    refine ⟨(fun k => match k with | 0 => c0 | 1 => c1 | 2 => c2 | 3 => c3 | 4 => c4 | 5 => c5 | 6 => c6 | 7 => c7 | _ => c8, fun k => match k with | 0 => iS0 | 1 => iS1 | 2 => iS2 | 3 => iS3 | 4 => iS4 | 5 => iS5 | 6 => iS6 | 7 => iS7 | _ => iS8), ?_⟩
    intro k q hq
    match k, hq with
    | 0, hq => cases hq; exact hK0
    | 1, hq => cases hq; exact hK1
    | 2, hq => cases hq; exact hK2
    | 3, hq => cases hq; exact hK3
    | 4, hq => cases hq; exact hK4
    | 5, hq => cases hq; exact hK5
    | 6, hq => cases hq; exact hK6
    | 7, hq => cases hq; exact hK7
    | 8, hq => cases hq; exact hK8
    | k + 9, hq => simp [vwCl] at hq
  obtain ⟨cI, hI⟩ := st_arr (ty := .int) rfl (hts0 (.arrayClass .int) (List.mem_of_getElem? (i := 69) (by decide +kernel)))
  obtain ⟨cJ, hJ⟩ := st_arr (ty := .long) rfl (hts0 (.arrayClass .long) (List.mem_of_getElem? (i := 120) (by decide +kernel)))
  obtain ⟨cZ, hZ⟩ := st_arr (ty := .boolean) rfl (hts0 (.arrayClass .boolean) (List.mem_of_getElem? (i := 169) (by decide +kernel)))
  have hK : va_K D vwCl (sh_ty cI cJ cZ) s := ⟨hKc, fun k q h => by
    match k, h with
    | 0, h => cases h; exact hI
    | 1, h => cases h; exact hJ
    | 2, h => cases h; exact hZ
    | k + 3, h => simp [sh_ty] at h⟩
  have hn5 : va_Nw (.methodLinkNest RX7 9 yX5_init RX7) s := va_Nw.of rfl (hts0 (.methodLinkNest RX7 9 yX5_init RX7) (List.mem_of_getElem? (i := 58) (by decide +kernel)))
  have hn0 : va_Nw (.methodLinkNest RX7 49 yX0_init RX7) s := va_Nw.of rfl (hts0 (.methodLinkNest RX7 49 yX0_init RX7) (List.mem_of_getElem? (i := 145) (by decide +kernel)))
  have hn4 : va_Nw (.methodLinkNest RX7 56 yX4_init RX7) s := va_Nw.of rfl (hts0 (.methodLinkNest RX7 56 yX4_init RX7) (List.mem_of_getElem? (i := 158) (by decide +kernel)))
  have hn3 : va_Nw (.methodLinkNest RX7 63 yX3_init RX7) s := va_Nw.of rfl (hts0 (.methodLinkNest RX7 63 yX3_init RX7) (List.mem_of_getElem? (i := 172) (by decide +kernel)))
  obtain ⟨ga, gl, gr, elay, hlay⟩ := p_lay (k := 4) (w := 1) (h := 1) (Or.inl rfl) ⟨by omega, by omega⟩ ⟨by omega, by omega⟩
  obtain ⟨d0, edark, hlev⟩ := p_darken7 (n := 1 * 1) (ga := ga) hlay.2.2.2.1 (fun _ => 0)
  have hS : va_S (fun a : Nat => s.heap.size ≤ a) s.heap s.heap [] := va_S.rf
  have hP : va_P D vwCl [] s.heap := fun k q h => by simp at h
  have hD : va_D (fun a : Nat => s.heap.size ≤ a) [] := ⟨fun i j p q h => by simp at h, fun k q h => by simp at h⟩
  have hl := lv_entry ([.ref b]) (n := 4) (Nat.le_of_ble_eq_true rfl)
  rw [lg_entry_eq]
  generalize (lg_sl ([.ref b]) ++ List.replicate (4 - (lg_sl ([.ref b])).length) Slot.unset).toArray = ls at hl ⊢
  have hl : lv_has ls 4 [(0, .ref b)] := hl
  refine va_new (ci := 7) (fs := [.null, .null, .null, .null, .null, .null, .null, .null, .null, .long 0]) (C := RX7) (T := TX7) (N := 10) hx hb hts0 wl_X7 tyX7 tyX7_ok hown (hts (.classLink RL 7 RX7) (List.mem_of_getElem? (i := 0) (by decide +kernel))) (hts (.instantiable RX7 10) (List.mem_of_getElem? (i := 1) (by decide +kernel))) (hts (.initialized RX7) (List.mem_of_getElem? (i := 2) (by decide +kernel))) hK hP hD hS hA rfl (fun j hj => match j, hj with | 0, _ => rfl | 1, _ => rfl | 2, _ => rfl | 3, _ => rfl | 4, _ => rfl | 5, _ => rfl | 6, _ => rfl | 7, _ => rfl | 8, _ => rfl | 9, _ => rfl | _ + 10, h => absurd h (by omega)) (Nat.le_of_ble_eq_true rfl) (Nat.le_of_ble_eq_true rfl) dL_law_0 (fun a7 H hP hD hS => ?_)
  have hP : va_P D vwCl [(a7, .inr (7, [.null, .null, .null, .null, .null, .null, .null, .null, .null, .long 0]))] H := hP
  have hD : va_D (fun a : Nat => s.heap.size ≤ a) [(a7, .inr (7, [.null, .null, .null, .null, .null, .null, .null, .null, .null, .long 0]))] := hD
  refine W.widen (k := 1) (n := 10) (Nat.le_of_ble_eq_true rfl) (Nat.le_of_ble_eq_true rfl) ?_
  refine lv_dup hx hb dL_law_3 rfl ?_
  refine sh_wI4 (wu := fun u => sh_w7 (sh_q a7 u) cI cJ cZ st_I (st_J ga gl gr) (fun _ _ => 0) (st_B d0)) (As := []) (rest := [.ref a7]) hfix (k_X7_init l D cI cJ cZ _ a7 ga gl gr d0 elay edark) (cwI 0 hts gL_law_X7_init rfl rfl rfl (hts (.initialized RX7) (List.mem_of_getElem? (i := 2) (by decide +kernel))) (hts (.methodLink RL 9 yX7_init) (List.mem_of_getElem? (i := 7) (by decide +kernel))) (hts (.instanceMethod yX7_init) (List.mem_of_getElem? (i := 8) (by decide +kernel))) rfl hdI_X7_init ⟨Nat.le_of_ble_eq_true rfl, Nat.le_of_ble_eq_true rfl⟩) hn5 hn0 hn4 hn3 hP hK hD hS hA [0] [] [0, 1, 2, 3, 4, 5, 6, 7, 8, 9, 10, 11, 12, 13, 14, 15, 16, 17, 18, 19, 20, 21, 22] rfl rfl rfl rfl rfl (fun _ => rfl) (fun _ => rfl) rfl hl.1 rfl (Nat.le_of_ble_eq_true rfl) dL_law_4 ⟨Nat.le_of_ble_eq_true rfl, Nat.le_of_ble_eq_true rfl⟩ (fun u H locs hP hD hS => ?_)
  refine W.widen (k := 23) (n := 424) (Nat.le_of_ble_eq_true rfl) (Nat.le_of_ble_eq_true rfl) ?_
  refine lv_astore_n (lv' := [(1, .ref a7), (0, .ref b)]) hx hb dL_law_7 rfl hl (by decide) rfl (fun ls hl => ?_)
  refine va_new (ci := 8) (fs := [.int 0, .null, .int 0, .null, .null, .null, .null, .null, .int 0, .null, .null, .int 0, .null, .null, .null, .long 0, .int 0, .int 0, .int 0, .int 0, .null]) (C := RX8) (T := TX8) (N := 21) hx hb hts0 wl_X8 tyX8 tyX8_ok hown (hts (.classLink RL 10 RX8) (List.mem_of_getElem? (i := 3) (by decide +kernel))) (hts (.instantiable RX8 21) (List.mem_of_getElem? (i := 4) (by decide +kernel))) (hts (.initialized RX8) (List.mem_of_getElem? (i := 5) (by decide +kernel))) hK hP hD hS hA rfl (fun j hj => match j, hj with | 0, _ => rfl | 1, _ => rfl | 2, _ => rfl | 3, _ => rfl | 4, _ => rfl | 5, _ => rfl | 6, _ => rfl | 7, _ => rfl | 8, _ => rfl | 9, _ => rfl | 10, _ => rfl | 11, _ => rfl | 12, _ => rfl | 13, _ => rfl | 14, _ => rfl | 15, _ => rfl | 16, _ => rfl | 17, _ => rfl | 18, _ => rfl | 19, _ => rfl | 20, _ => rfl | _ + 21, h => absurd h (by omega)) (Nat.le_of_ble_eq_true rfl) (Nat.le_of_ble_eq_true rfl) dL_law_8 (fun a8 H hP hD hS => ?_)
  refine W.widen (k := 24) (n := 445) (Nat.le_of_ble_eq_true rfl) (Nat.le_of_ble_eq_true rfl) ?_
  refine lv_dup hx hb dL_law_11 rfl ?_
  refine sh_wI (wu := fun u2 => sh_w7 (sh_q a7 u) cI cJ cZ st_I (st_J ga gl gr) (fun _ _ => 0) (st_B d0) ++ sh_w8 (sh_q a8 u2) cI cJ cZ (fun _ => 0) 0 st_A2) (As := []) (rest := [.ref a8]) hfix (k_X8_init l D cI cJ cZ _ a8) (cwI 0 hts gL_law_X8_init rfl rfl rfl (hts (.initialized RX8) (List.mem_of_getElem? (i := 5) (by decide +kernel))) (hts0 (.methodLink RL 12 yX8_init) (List.mem_of_getElem? (i := 690) (by decide +kernel))) (hts0 (.instanceMethod yX8_init) (List.mem_of_getElem? (i := 691) (by decide +kernel))) rfl hdI_X8_init ⟨Nat.le_of_ble_eq_true rfl, Nat.le_of_ble_eq_true rfl⟩) hP hK hD hS hA [23] [0, 1, 2, 3, 4, 5, 6, 7, 8, 9, 10, 11, 12, 13, 14, 15, 16, 17, 18, 19, 20, 21, 22] [0, 1, 2, 3, 4, 5, 6, 7, 8, 9, 10, 11, 12, 13, 14, 15, 16, 17, 18, 19, 20, 21, 22, 23, 24, 25, 26, 27, 28, 29, 30, 31, 32, 33, 34, 35] rfl rfl rfl rfl rfl (fun _ => rfl) (fun _ => rfl) rfl hl.1 rfl (Nat.le_of_ble_eq_true rfl) dL_law_12 ⟨Nat.le_of_ble_eq_true rfl, Nat.le_of_ble_eq_true rfl⟩ (fun u2 H locs hP hD hS => ?_)
  refine W.widen (k := 36) (n := 1349) (Nat.le_of_ble_eq_true rfl) (Nat.le_of_ble_eq_true rfl) ?_
  refine lv_astore_n (lv' := [(2, .ref a8), (1, .ref a7), (0, .ref b)]) hx hb dL_law_15 rfl hl (by decide) rfl (fun ls hl => ?_)
  refine lv_iconst (v := 0) hx hb dL_law_16 (by decide) ?_
  refine lv_istore_n (lv' := [(3, .int 0), (2, .ref a8), (1, .ref a7), (0, .ref b)]) hx hb dL_law_17 rfl hl (by decide) rfl (fun ls hl => ?_)
  exact law_loop (q := sh_q a7 u) (q2 := sh_q a8 u2) hL C0 hK (L + 1) 0 0 (Nat.zero_le L) (by omega) nI_0.symm _ _ _ _ _ _ _ _ _ ls (st_sim hlay hlev) hP hD hS (lv_sub hl [3, 2, 1, 0] rfl)
