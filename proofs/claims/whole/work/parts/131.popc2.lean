theorem zb_lN {m : Nat} (i : Nat) (hi : i < 64) : zb (lN m) i = m.testBit i := by
  unfold zb
  rw [wb_tb, BitVec.getLsbD_ofNat]
  simp [hi]
theorem bc_q {d X b c : Nat} (h : c < d) (hb : b = d * X + c) : b / d = X := by
  rw [hb, Nat.mul_add_div (by omega), Nat.div_eq_of_lt h, Nat.add_zero]
theorem bc_x4 {a b c d e p q r t : Nat} (h1 : a = 256 * b + p) (h2 : b = 256 * c + q) (h3 : c = 256 * d + r) (h4 : d = 256 * e + t) : a = 4294967296 * e + (256 * (256 * (256 * t + r) + q) + p) := by
  subst h4; subst h3; subst h2; subst h1
  omega
theorem bc_f1 {y Y1 Y2 Y3 c0 c1 c2 : Nat} (h1 : y = 256 * Y1 + c0) (h2 : Y1 = 256 * Y2 + c1) (h3 : Y2 = 256 * Y3 + c2) : y + Y1 = 65536 * (Y2 + Y3) + (256 * (c1 + c2) + (c0 + c1)) := by
  subst h3; subst h2; subst h1
  omega
theorem bc_r {a b c d : Nat} (ha : a ≤ 8) (hb : b ≤ 8) (hc : c ≤ 8) (hd : d ≤ 8) : 256 * (256 * (256 * d + c) + b) + a ≤ 134744072 := by omega
theorem bc_4 {a1 a2 a3 a4 e1 e2 e3 e4 r1 r2 r3 r4 : Nat} (h1 : a1 = 4294967296 * e1 + r1) (h2 : a2 = 4294967296 * e2 + r2) (h3 : a3 = 4294967296 * e3 + r3) (h4 : a4 = 4294967296 * e4 + r4) : a1 + a2 + (a3 + a4) = 4294967296 * (e1 + e2 + (e3 + e4)) + (r1 + r2 + (r3 + r4)) := by
  subst h1; subst h2; subst h3; subst h4
  omega
theorem bc_m {y Y1 Y2 Y3 Y4 Y5 Y6 c0 c1 c2 c3 c4 c5 c6 c7 : Nat} (h1 : y = 256 * Y1 + c0) (h2 : Y1 = 256 * Y2 + c1) (h3 : Y2 = 256 * Y3 + c2) (h4 : Y3 = 256 * Y4 + c3) (h5 : Y4 = 256 * Y5 + c4) (h6 : Y5 = 256 * Y6 + c5) (h7 : Y6 = 256 * c7 + c6) :
    y + Y1 + (Y2 + Y3) + (Y4 + Y5 + (Y6 + c7)) = 128 * (2 * (Y1 + Y2 + Y3 + Y4 + Y5 + Y6 + c7)) + (c0 + c1 + c2 + c3 + c4 + c5 + c6 + c7) := by
  generalize hs : Y1 + Y2 + Y3 + Y4 + Y5 + Y6 + c7 = s
  have e1 : y + Y1 + (Y2 + Y3) + (Y4 + Y5 + (Y6 + c7)) = 256 * s + (c0 + c1 + c2 + c3 + c4 + c5 + c6 + c7) := by
    calc y + Y1 + (Y2 + Y3) + (Y4 + Y5 + (Y6 + c7)) = (256 * Y1 + c0) + (256 * Y2 + c1) + ((256 * Y3 + c2) + (256 * Y4 + c3)) + ((256 * Y5 + c4) + (256 * Y6 + c5) + ((256 * c7 + c6) + c7)) := by rw [← h1, ← h2, ← h3, ← h4, ← h5, ← h6, ← h7]
      _ = 256 * (Y1 + Y2 + Y3 + Y4 + Y5 + Y6 + c7) + (c0 + c1 + c2 + c3 + c4 + c5 + c6 + c7) := by clear h1 h2 h3 h4 h5 h6 h7 hs; omega
      _ = 256 * s + (c0 + c1 + c2 + c3 + c4 + c5 + c6 + c7) := by rw [hs]
  rw [e1]
  omega
theorem bc_bd {Y c n : Nat} (hc : c ≤ 8) (h : Y ≤ n) : 256 * Y + c ≤ 256 * n + 8 := by omega
theorem bc_fin {c0 c1 c2 c3 c4 c5 c6 c7 y z1 z2 : Nat} (h0 : c0 ≤ 8) (h1 : c1 ≤ 8) (h2 : c2 ≤ 8) (h3 : c3 ≤ 8) (h4 : c4 ≤ 8) (h5 : c5 ≤ 8) (h6 : c6 ≤ 8) (h7 : c7 ≤ 8)
    (hy : y = 256 * (256 * (256 * (256 * (256 * (256 * (256 * (c7) + c6) + c5) + c4) + c3) + c2) + c1) + c0) (e1 : z1 = y + y / 256) (e2 : z2 = z1 + z1 / 65536) :
    (z2 + z2 / 4294967296) % 128 = c0 + c1 + c2 + c3 + c4 + c5 + c6 + c7 ∧ z1 < 2 ^ 62 ∧ z2 < 2 ^ 62 ∧ y < 2 ^ 60 := by
  obtain ⟨Y6, k6⟩ : ∃ Y, Y = 256 * c7 + c6 := ⟨_, rfl⟩
  rw [← k6] at hy
  obtain ⟨Y5, k5⟩ : ∃ Y, Y = 256 * Y6 + c5 := ⟨_, rfl⟩
  rw [← k5] at hy
  obtain ⟨Y4, k4⟩ : ∃ Y, Y = 256 * Y5 + c4 := ⟨_, rfl⟩
  rw [← k4] at hy
  obtain ⟨Y3, k3⟩ : ∃ Y, Y = 256 * Y4 + c3 := ⟨_, rfl⟩
  rw [← k3] at hy
  obtain ⟨Y2, k2⟩ : ∃ Y, Y = 256 * Y3 + c2 := ⟨_, rfl⟩
  rw [← k2] at hy
  obtain ⟨Y1, k1⟩ : ∃ Y, Y = 256 * Y2 + c1 := ⟨_, rfl⟩
  rw [← k1] at hy
  have b6 : Y6 ≤ 256 * 8 + 8 := by rw [k6]; exact bc_bd h6 h7
  have b5 : Y5 ≤ 256 * (256 * 8 + 8) + 8 := by rw [k5]; exact bc_bd h5 b6
  have b4 : Y4 ≤ 256 * (256 * (256 * 8 + 8) + 8) + 8 := by rw [k4]; exact bc_bd h4 b5
  have b3 : Y3 ≤ 256 * (256 * (256 * (256 * 8 + 8) + 8) + 8) + 8 := by rw [k3]; exact bc_bd h3 b4
  have b2 : Y2 ≤ 256 * (256 * (256 * (256 * (256 * 8 + 8) + 8) + 8) + 8) + 8 := by rw [k2]; exact bc_bd h2 b3
  have b1 : Y1 ≤ 256 * (256 * (256 * (256 * (256 * (256 * 8 + 8) + 8) + 8) + 8) + 8) + 8 := by rw [k1]; exact bc_bd h1 b2
  have b0 : y ≤ 256 * (256 * (256 * (256 * (256 * (256 * (256 * 8 + 8) + 8) + 8) + 8) + 8) + 8) + 8 := by rw [hy]; exact bc_bd h0 b1
  rw [bc_q (d := 256) (Nat.lt_of_le_of_lt h0 (by decide)) hy] at e1
  have f1 := bc_f1 hy k1 k2
  rw [← e1] at f1
  rw [bc_q (d := 65536) (by clear hy e1 e2 f1 k1 k2 k3 k4 k5 k6 b0 b1 b2 b3 b4 b5 b6; omega) f1, e1] at e2
  have x0 := bc_x4 hy k1 k2 k3
  have x1 := bc_x4 k1 k2 k3 k4
  have x2 := bc_x4 k2 k3 k4 k5
  have x3 := bc_x4 k3 k4 k5 k6
  have f2 := bc_4 x0 x1 x2 x3
  rw [← e2] at f2
  have r0 := bc_r h0 h1 h2 h3
  have r1 := bc_r h1 h2 h3 h4
  have r2 := bc_r h2 h3 h4 h5
  have r3 := bc_r h3 h4 h5 h6
  rw [bc_q (d := 4294967296) (Nat.lt_of_le_of_lt (Nat.add_le_add (Nat.add_le_add r0 r1) (Nat.add_le_add r2 r3)) (by decide)) f2]
  have g := bc_m hy k1 k2 k3 k4 k5 k6
  rw [← e2] at g
  refine ⟨?_, ?_, ?_, ?_⟩
  · rw [g, Nat.mul_add_mod, Nat.mod_eq_of_lt (by clear hy e1 e2 f1 f2 g k1 k2 k3 k4 k5 k6 b0 b1 b2 b3 b4 b5 b6 r0 r1 r2 r3 x0 x1 x2 x3; omega)]
  · rw [e1]; exact Nat.lt_of_le_of_lt (Nat.add_le_add b0 b1) (by decide)
  · rw [e2]; exact Nat.lt_of_le_of_lt (Nat.add_le_add (Nat.add_le_add b0 b1) (Nat.add_le_add b2 b3)) (by decide)
  · exact Nat.lt_of_le_of_lt b0 (by decide)
theorem bc_G8 (m : Nat) : ∃ c0 c1 c2 c3 c4 c5 c6 c7 : Nat, c0 ≤ 8 ∧ c1 ≤ 8 ∧ c2 ≤ 8 ∧ c3 ≤ 8 ∧ c4 ≤ 8 ∧ c5 ≤ 8 ∧ c6 ≤ 8 ∧ c7 ≤ 8 ∧ bcG 8 m = 256 * (256 * (256 * (256 * (256 * (256 * (256 * (c7) + c6) + c5) + c4) + c3) + c2) + c1) + c0 ∧ fb_ct (fun i => m.testBit i) 64 = c0 + c1 + c2 + c3 + c4 + c5 + c6 + c7 := by
  have hc : ∀ x, bcP (x % 256) ≤ 8 := fun x => (bc_all _ (Nat.mod_lt _ (by omega))).2.2.2.2.1
  refine ⟨_, _, _, _, _, _, _, _, hc m, hc (m / 256), hc (m / 256 / 256), hc (m / 256 / 256 / 256), hc (m / 256 / 256 / 256 / 256), hc (m / 256 / 256 / 256 / 256 / 256), hc (m / 256 / 256 / 256 / 256 / 256 / 256), hc (m / 256 / 256 / 256 / 256 / 256 / 256 / 256), ?_, ?_⟩
  · simp only [bcG, Nat.mul_zero, Nat.zero_add]
  · have a1 : fb_ct (fun i => m.testBit i) 64 = _ := bc_ct 7 m
    have a2 : fb_ct (fun i => (m / 256).testBit i) (8 * 7) = _ := bc_ct 6 (m / 256)
    have a3 : fb_ct (fun i => (m / 256 / 256).testBit i) (8 * 6) = _ := bc_ct 5 (m / 256 / 256)
    have a4 : fb_ct (fun i => (m / 256 / 256 / 256).testBit i) (8 * 5) = _ := bc_ct 4 (m / 256 / 256 / 256)
    have a5 : fb_ct (fun i => (m / 256 / 256 / 256 / 256).testBit i) (8 * 4) = _ := bc_ct 3 (m / 256 / 256 / 256 / 256)
    have a6 : fb_ct (fun i => (m / 256 / 256 / 256 / 256 / 256).testBit i) (8 * 3) = _ := bc_ct 2 (m / 256 / 256 / 256 / 256 / 256)
    have a7 : fb_ct (fun i => (m / 256 / 256 / 256 / 256 / 256 / 256).testBit i) (8 * 2) = _ := bc_ct 1 (m / 256 / 256 / 256 / 256 / 256 / 256)
    have a8 : fb_ct (fun i => (m / 256 / 256 / 256 / 256 / 256 / 256 / 256).testBit i) (8 * 1) = _ := bc_ct 0 (m / 256 / 256 / 256 / 256 / 256 / 256 / 256)
    have a9 : fb_ct (fun i => (m / 256 / 256 / 256 / 256 / 256 / 256 / 256 / 256).testBit i) (8 * 0) = 0 := rfl
    rw [a1, a2, a3, a4, a5, a6, a7, a8, a9]
    simp only [Nat.add_assoc, Nat.add_zero]
