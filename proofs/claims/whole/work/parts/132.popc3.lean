theorem sh_lsrN {n k : Nat} (hn : n < 2 ^ 64) (hk : k < 64) : sh_lsr (lN n) (nI k) = lN (n / 2 ^ k) := wb_shr hn hk
theorem bc_sum {a b M : Nat} (hM : M < 2 ^ 62) (ha : a ≤ M) (hb : b ≤ M) : a + b < 2 ^ 63 := by omega
theorem bc_s16 {z : Nat} (h : z < 2 ^ 63) : z + z / 16 < 2 ^ 64 := by omega
theorem bc_end {c0 c1 c2 c3 c4 c5 c6 c7 y : Nat} (h0 : c0 ≤ 8) (h1 : c1 ≤ 8) (h2 : c2 ≤ 8) (h3 : c3 ≤ 8) (h4 : c4 ≤ 8) (h5 : c5 ≤ 8) (h6 : c6 ≤ 8) (h7 : c7 ≤ 8)
    (hy : y = 256 * (256 * (256 * (256 * (256 * (256 * (256 * (c7) + c6) + c5) + c4) + c3) + c2) + c1) + c0) :
    (Int64.toInt32 (((lN y + sh_lsr (lN y) 8) + sh_lsr (lN y + sh_lsr (lN y) 8) 16) + sh_lsr ((lN y + sh_lsr (lN y) 8) + sh_lsr (lN y + sh_lsr (lN y) 8) 16) 32)) &&& 127 = nI (c0 + c1 + c2 + c3 + c4 + c5 + c6 + c7) := by
  obtain ⟨f1, f2, f3, f4⟩ := bc_fin h0 h1 h2 h3 h4 h5 h6 h7 hy rfl rfl
  have y64 : y < 2 ^ 64 := Nat.lt_trans f4 (by decide)
  rw [show sh_lsr (lN y) 8 = lN (y / 256) from sh_lsrN (k := 8) y64 (by decide), lN_add]
  generalize y + y / 256 = z1 at f1 f2 f3 ⊢
  have z64 : z1 < 2 ^ 64 := Nat.lt_trans f2 (by decide)
  rw [show sh_lsr (lN z1) 16 = lN (z1 / 65536) from sh_lsrN (k := 16) z64 (by decide), lN_add]
  generalize z1 + z1 / 65536 = z2 at f1 f3 ⊢
  have w64 : z2 < 2 ^ 64 := Nat.lt_trans f3 (by decide)
  rw [show sh_lsr (lN z2) 32 = lN (z2 / 4294967296) from sh_lsrN (k := 32) w64 (by decide), lN_add, lN_i, show (127 : Int32) = nI (2 ^ 7 - 1) from rfl, fa_mask, show 2 ^ 7 = 128 from rfl, f1]
theorem bc_k1 : (6148914691236517205 : Int64) = lN (bcM 0x55 8) := by decide
theorem bc_k2 : (3689348814741910323 : Int64) = lN (bcM 0x33 8) := by decide
theorem bc_k3 : (1085102592571150095 : Int64) = lN (bcM 0x0f 8) := by decide
theorem bc_m1 : bcM 0x55 8 < 2 ^ 64 := by decide
theorem bc_m2 : bcM 0x33 8 < 2 ^ 62 := by decide
theorem bc_m2' : bcM 0x33 8 < 2 ^ 64 := by decide
theorem bc_m3 : bcM 0x0f 8 < 2 ^ 64 := by decide
theorem bc_e1 {m : Nat} (hm : m < 2 ^ 64) : lN m - (sh_lsr (lN m) 1 &&& 6148914691236517205) = lN (bcS1 8 m) := by
  rw [bc_k1, show sh_lsr (lN m) 1 = lN (m / 2) from sh_lsrN (k := 1) hm (by decide), wb_and (Nat.lt_of_le_of_lt (Nat.div_le_self _ _) hm) bc_m1, lN_sub (Nat.le_trans Nat.and_le_left (Nat.div_le_self _ _))]
  rfl
theorem bc_e2 {z : Nat} (hz : z < 2 ^ 64) : (lN z &&& 3689348814741910323) + (sh_lsr (lN z) 2 &&& 3689348814741910323) = lN (bcS2 8 z) := by
  rw [bc_k2, show sh_lsr (lN z) 2 = lN (z / 4) from sh_lsrN (k := 2) hz (by decide), wb_and hz bc_m2', wb_and (Nat.lt_of_le_of_lt (Nat.div_le_self _ _) hz) bc_m2', lN_add]
  rfl
theorem bc_e3 {z : Nat} (hz : z < 2 ^ 63) : (lN z + sh_lsr (lN z) 4) &&& 1085102592571150095 = lN (bcS3 8 z) := by
  rw [bc_k3, show sh_lsr (lN z) 4 = lN (z / 16) from sh_lsrN (k := 4) (Nat.lt_trans hz (by decide)) (by decide), lN_add, wb_and (bc_s16 hz) bc_m3]
  rfl
theorem p_bc (x : Int64) : fJ13_bitCount_95d88 x = some (nI (fb_ct (zb x) 64)) := by
  obtain ⟨m, hm, rfl⟩ := wb_of x
  rw [show fb_ct (zb (lN m)) 64 = fb_ct (fun i => m.testBit i) 64 from fb_ct_cong (fun i hi => zb_lN i hi)]
  obtain ⟨c0, c1, c2, c3, c4, c5, c6, c7, h0, h1, h2, h3, h4, h5, h6, h7, hG, hct⟩ := bc_G8 m
  have hF := bc_G 8 m hm
  have s1 : bcS1 8 m < 2 ^ 64 := Nat.lt_of_le_of_lt (Nat.sub_le _ _) hm
  have s2 : bcS2 8 (bcS1 8 m) < 2 ^ 63 := bc_sum bc_m2 Nat.and_le_right Nat.and_le_right
  unfold fJ13_bitCount_95d88 sh_nm
  rw [bc_e1 hm, bc_e2 s1]
  dsimp only
  rw [bc_e3 s2, hF, hct]
  exact congrArg some (bc_end h0 h1 h2 h3 h4 h5 h6 h7 hG)
