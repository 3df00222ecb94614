section
-- ===== PART A: goes FIRST, ahead of the names: the tables' words, and 'selects' of the private methods out of them =====
/-- a private method of a class that the tables say can be made, by its rows of tables_1 -/
def lw_okq (q : MethodName × Nat) : Prop := (q.1.cls ≠ "java/lang/invoke/MethodHandle" ∧ q.1.cls ≠ "java/lang/invoke/VarHandle") ∧ Cond.instantiable q.1.cls q.2 ∈ tables_1 ∧ Cond.privateMethod q.1 ∈ tables_1 ∧ Cond.instanceMethod q.1 ∈ tables_1
theorem lw_p0 : lw_okq (⟨"ShadeTree$Text", "fits", "(I)Z"⟩, 2) := ⟨⟨by decide +kernel, by decide +kernel⟩, List.mem_of_getElem? (i := 23) (by decide +kernel), List.mem_of_getElem? (i := 215) (by decide +kernel), List.mem_of_getElem? (i := 216) (by decide +kernel)⟩
theorem lw_p1 : lw_okq (⟨"ShadeTree$Text", "wholeSize", "()I"⟩, 2) := ⟨⟨by decide +kernel, by decide +kernel⟩, List.mem_of_getElem? (i := 23) (by decide +kernel), List.mem_of_getElem? (i := 223) (by decide +kernel), List.mem_of_getElem? (i := 224) (by decide +kernel)⟩
theorem lw_p2 : lw_okq (⟨"ShadeTree$Tree", "gather", "()V"⟩, 5) := ⟨⟨by decide +kernel, by decide +kernel⟩, List.mem_of_getElem? (i := 88) (by decide +kernel), List.mem_of_getElem? (i := 258) (by decide +kernel), List.mem_of_getElem? (i := 259) (by decide +kernel)⟩
theorem lw_p3 : lw_okq (⟨"ShadeTree$Tree", "ofLevel", "(I)J"⟩, 5) := ⟨⟨by decide +kernel, by decide +kernel⟩, List.mem_of_getElem? (i := 88) (by decide +kernel), List.mem_of_getElem? (i := 262) (by decide +kernel), List.mem_of_getElem? (i := 263) (by decide +kernel)⟩
theorem lw_p4 : lw_okq (⟨"ShadeTree$Tree", "partAt", "(IJ)J"⟩, 5) := ⟨⟨by decide +kernel, by decide +kernel⟩, List.mem_of_getElem? (i := 88) (by decide +kernel), List.mem_of_getElem? (i := 271) (by decide +kernel), List.mem_of_getElem? (i := 272) (by decide +kernel)⟩
theorem lw_p5 : lw_okq (⟨"ShadeTree$Grid", "spread", "(JI)J"⟩, 6) := ⟨⟨by decide +kernel, by decide +kernel⟩, List.mem_of_getElem? (i := 37) (by decide +kernel), List.mem_of_getElem? (i := 283) (by decide +kernel), List.mem_of_getElem? (i := 284) (by decide +kernel)⟩
theorem lw_p6 : lw_okq (⟨"ShadeTree$Shades", "put", "(IJ)V"⟩, 2) := ⟨⟨by decide +kernel, by decide +kernel⟩, List.mem_of_getElem? (i := 66) (by decide +kernel), List.mem_of_getElem? (i := 440) (by decide +kernel), List.mem_of_getElem? (i := 441) (by decide +kernel)⟩
theorem lw_p7 : lw_okq (⟨"ShadeTree$Shades", "bigParts", "(JII)J"⟩, 2) := ⟨⟨by decide +kernel, by decide +kernel⟩, List.mem_of_getElem? (i := 66) (by decide +kernel), List.mem_of_getElem? (i := 455) (by decide +kernel), List.mem_of_getElem? (i := 456) (by decide +kernel)⟩
theorem lw_p8 : lw_okq (⟨"ShadeTree$Shades", "isBig", "(JII)Z"⟩, 2) := ⟨⟨by decide +kernel, by decide +kernel⟩, List.mem_of_getElem? (i := 66) (by decide +kernel), List.mem_of_getElem? (i := 461) (by decide +kernel), List.mem_of_getElem? (i := 462) (by decide +kernel)⟩
theorem lw_p9 : lw_okq (⟨"ShadeTree$Tree", "darkest", "(J)I"⟩, 5) := ⟨⟨by decide +kernel, by decide +kernel⟩, List.mem_of_getElem? (i := 88) (by decide +kernel), List.mem_of_getElem? (i := 517) (by decide +kernel), List.mem_of_getElem? (i := 518) (by decide +kernel)⟩
theorem lw_p10 : lw_okq (⟨"ShadeTree", "comesTrue", "(III)Z"⟩, 10) := ⟨⟨by decide +kernel, by decide +kernel⟩, List.mem_of_getElem? (i := 15) (by decide +kernel), List.mem_of_getElem? (i := 534) (by decide +kernel), List.mem_of_getElem? (i := 535) (by decide +kernel)⟩
theorem lw_p11 : lw_okq (⟨"ShadeTree", "trialPainted", "(II)Z"⟩, 10) := ⟨⟨by decide +kernel, by decide +kernel⟩, List.mem_of_getElem? (i := 15) (by decide +kernel), List.mem_of_getElem? (i := 538) (by decide +kernel), List.mem_of_getElem? (i := 539) (by decide +kernel)⟩
theorem lw_p12 : lw_okq (⟨"ShadeTree", "trialTurned", "()Z"⟩, 10) := ⟨⟨by decide +kernel, by decide +kernel⟩, List.mem_of_getElem? (i := 15) (by decide +kernel), List.mem_of_getElem? (i := 542) (by decide +kernel), List.mem_of_getElem? (i := 543) (by decide +kernel)⟩
theorem lw_p13 : lw_okq (⟨"ShadeTree", "trialThinned", "(II)Z"⟩, 10) := ⟨⟨by decide +kernel, by decide +kernel⟩, List.mem_of_getElem? (i := 15) (by decide +kernel), List.mem_of_getElem? (i := 546) (by decide +kernel), List.mem_of_getElem? (i := 547) (by decide +kernel)⟩
theorem lw_p14 : lw_okq (⟨"ShadeTree", "sharedOut", "(JI)I"⟩, 10) := ⟨⟨by decide +kernel, by decide +kernel⟩, List.mem_of_getElem? (i := 15) (by decide +kernel), List.mem_of_getElem? (i := 559) (by decide +kernel), List.mem_of_getElem? (i := 560) (by decide +kernel)⟩
theorem lw_p15 : lw_okq (⟨"ShadeTree", "partsOfRows", "(JI)I"⟩, 10) := ⟨⟨by decide +kernel, by decide +kernel⟩, List.mem_of_getElem? (i := 15) (by decide +kernel), List.mem_of_getElem? (i := 572) (by decide +kernel), List.mem_of_getElem? (i := 573) (by decide +kernel)⟩
def lw_privs_1 : List (MethodName × Nat) := [(⟨"ShadeTree$Text", "fits", "(I)Z"⟩, 2), (⟨"ShadeTree$Text", "wholeSize", "()I"⟩, 2), (⟨"ShadeTree$Tree", "gather", "()V"⟩, 5), (⟨"ShadeTree$Tree", "ofLevel", "(I)J"⟩, 5), (⟨"ShadeTree$Tree", "partAt", "(IJ)J"⟩, 5), (⟨"ShadeTree$Grid", "spread", "(JI)J"⟩, 6), (⟨"ShadeTree$Shades", "put", "(IJ)V"⟩, 2), (⟨"ShadeTree$Shades", "bigParts", "(JII)J"⟩, 2), (⟨"ShadeTree$Shades", "isBig", "(JII)Z"⟩, 2), (⟨"ShadeTree$Tree", "darkest", "(J)I"⟩, 5), (⟨"ShadeTree", "comesTrue", "(III)Z"⟩, 10), (⟨"ShadeTree", "trialPainted", "(II)Z"⟩, 10), (⟨"ShadeTree", "trialTurned", "()Z"⟩, 10), (⟨"ShadeTree", "trialThinned", "(II)Z"⟩, 10), (⟨"ShadeTree", "sharedOut", "(JI)I"⟩, 10), (⟨"ShadeTree", "partsOfRows", "(JI)I"⟩, 10)]
theorem lw_r1 : ∀ q ∈ lw_privs_1, lw_okq q := List.forall_mem_cons.mpr ⟨lw_p0, List.forall_mem_cons.mpr ⟨lw_p1, List.forall_mem_cons.mpr ⟨lw_p2, List.forall_mem_cons.mpr ⟨lw_p3, List.forall_mem_cons.mpr ⟨lw_p4, List.forall_mem_cons.mpr ⟨lw_p5, List.forall_mem_cons.mpr ⟨lw_p6, List.forall_mem_cons.mpr ⟨lw_p7, List.forall_mem_cons.mpr ⟨lw_p8, List.forall_mem_cons.mpr ⟨lw_p9, List.forall_mem_cons.mpr ⟨lw_p10, List.forall_mem_cons.mpr ⟨lw_p11, List.forall_mem_cons.mpr ⟨lw_p12, List.forall_mem_cons.mpr ⟨lw_p13, List.forall_mem_cons.mpr ⟨lw_p14, List.forall_mem_cons.mpr ⟨lw_p15, fun _ h => absurd h List.not_mem_nil⟩⟩⟩⟩⟩⟩⟩⟩⟩⟩⟩⟩⟩⟩⟩⟩
theorem lw_p16 : lw_okq (⟨"ShadeTree", "fadedOut", "(JJII)I"⟩, 10) := ⟨⟨by decide +kernel, by decide +kernel⟩, List.mem_of_getElem? (i := 15) (by decide +kernel), List.mem_of_getElem? (i := 610) (by decide +kernel), List.mem_of_getElem? (i := 611) (by decide +kernel)⟩
theorem lw_p17 : lw_okq (⟨"ShadeTree", "change", "(J)V"⟩, 10) := ⟨⟨by decide +kernel, by decide +kernel⟩, List.mem_of_getElem? (i := 15) (by decide +kernel), List.mem_of_getElem? (i := 627) (by decide +kernel), List.mem_of_getElem? (i := 628) (by decide +kernel)⟩
theorem lw_p18 : lw_okq (⟨"ShadeTreeModel", "readPicture", "()I"⟩, 21) := ⟨⟨by decide +kernel, by decide +kernel⟩, List.mem_of_getElem? (i := 655) (by decide +kernel), List.mem_of_getElem? (i := 741) (by decide +kernel), List.mem_of_getElem? (i := 742) (by decide +kernel)⟩
theorem lw_p19 : lw_okq (⟨"ShadeTreeModel", "letterAt", "(I)I"⟩, 21) := ⟨⟨by decide +kernel, by decide +kernel⟩, List.mem_of_getElem? (i := 655) (by decide +kernel), List.mem_of_getElem? (i := 745) (by decide +kernel), List.mem_of_getElem? (i := 746) (by decide +kernel)⟩
theorem lw_p20 : lw_okq (⟨"ShadeTreeModel", "leaves", "()I"⟩, 21) := ⟨⟨by decide +kernel, by decide +kernel⟩, List.mem_of_getElem? (i := 655) (by decide +kernel), List.mem_of_getElem? (i := 796) (by decide +kernel), List.mem_of_getElem? (i := 797) (by decide +kernel)⟩
theorem lw_p21 : lw_okq (⟨"ShadeTreeModel", "deepest", "()I"⟩, 21) := ⟨⟨by decide +kernel, by decide +kernel⟩, List.mem_of_getElem? (i := 655) (by decide +kernel), List.mem_of_getElem? (i := 806) (by decide +kernel), List.mem_of_getElem? (i := 807) (by decide +kernel)⟩
theorem lw_p22 : lw_okq (⟨"ShadeTreeModel", "noDot", "(I)Z"⟩, 21) := ⟨⟨by decide +kernel, by decide +kernel⟩, List.mem_of_getElem? (i := 655) (by decide +kernel), List.mem_of_getElem? (i := 820) (by decide +kernel), List.mem_of_getElem? (i := 821) (by decide +kernel)⟩
theorem lw_p23 : lw_okq (⟨"ShadeTreeModel", "note", "()V"⟩, 21) := ⟨⟨by decide +kernel, by decide +kernel⟩, List.mem_of_getElem? (i := 655) (by decide +kernel), List.mem_of_getElem? (i := 855) (by decide +kernel), List.mem_of_getElem? (i := 856) (by decide +kernel)⟩
theorem lw_p24 : lw_okq (⟨"ShadeTreeModel", "goSift", "([III)I"⟩, 21) := ⟨⟨by decide +kernel, by decide +kernel⟩, List.mem_of_getElem? (i := 655) (by decide +kernel), List.mem_of_getElem? (i := 871) (by decide +kernel), List.mem_of_getElem? (i := 872) (by decide +kernel)⟩
theorem lw_p25 : lw_okq (⟨"ShadeTreeModel", "layGrown", "(JI)V"⟩, 21) := ⟨⟨by decide +kernel, by decide +kernel⟩, List.mem_of_getElem? (i := 655) (by decide +kernel), List.mem_of_getElem? (i := 893) (by decide +kernel), List.mem_of_getElem? (i := 894) (by decide +kernel)⟩
theorem lw_p26 : lw_okq (⟨"ShadeTreeModel", "isSteady", "(JI)Z"⟩, 21) := ⟨⟨by decide +kernel, by decide +kernel⟩, List.mem_of_getElem? (i := 655) (by decide +kernel), List.mem_of_getElem? (i := 907) (by decide +kernel), List.mem_of_getElem? (i := 908) (by decide +kernel)⟩
theorem lw_p27 : lw_okq (⟨"ShadeTreeModel", "growsLess", "(JJI)Z"⟩, 21) := ⟨⟨by decide +kernel, by decide +kernel⟩, List.mem_of_getElem? (i := 655) (by decide +kernel), List.mem_of_getElem? (i := 911) (by decide +kernel), List.mem_of_getElem? (i := 912) (by decide +kernel)⟩
theorem lw_p28 : lw_okq (⟨"ShadeTreeModel", "begin", "()V"⟩, 21) := ⟨⟨by decide +kernel, by decide +kernel⟩, List.mem_of_getElem? (i := 655) (by decide +kernel), List.mem_of_getElem? (i := 924) (by decide +kernel), List.mem_of_getElem? (i := 925) (by decide +kernel)⟩
theorem lw_p29 : lw_okq (⟨"ShadeTreeModel", "does", "(I)Z"⟩, 21) := ⟨⟨by decide +kernel, by decide +kernel⟩, List.mem_of_getElem? (i := 655) (by decide +kernel), List.mem_of_getElem? (i := 928) (by decide +kernel), List.mem_of_getElem? (i := 929) (by decide +kernel)⟩
theorem lw_p30 : lw_okq (⟨"ShadeTreeModel", "isSo", "(III)Z"⟩, 21) := ⟨⟨by decide +kernel, by decide +kernel⟩, List.mem_of_getElem? (i := 655) (by decide +kernel), List.mem_of_getElem? (i := 932) (by decide +kernel), List.mem_of_getElem? (i := 933) (by decide +kernel)⟩
theorem lw_p31 : lw_okq (⟨"ShadeTreeModel", "rows", "(I)J"⟩, 21) := ⟨⟨by decide +kernel, by decide +kernel⟩, List.mem_of_getElem? (i := 655) (by decide +kernel), List.mem_of_getElem? (i := 940) (by decide +kernel), List.mem_of_getElem? (i := 941) (by decide +kernel)⟩
def lw_privs_2 : List (MethodName × Nat) := [(⟨"ShadeTree", "fadedOut", "(JJII)I"⟩, 10), (⟨"ShadeTree", "change", "(J)V"⟩, 10), (⟨"ShadeTreeModel", "readPicture", "()I"⟩, 21), (⟨"ShadeTreeModel", "letterAt", "(I)I"⟩, 21), (⟨"ShadeTreeModel", "leaves", "()I"⟩, 21), (⟨"ShadeTreeModel", "deepest", "()I"⟩, 21), (⟨"ShadeTreeModel", "noDot", "(I)Z"⟩, 21), (⟨"ShadeTreeModel", "note", "()V"⟩, 21), (⟨"ShadeTreeModel", "goSift", "([III)I"⟩, 21), (⟨"ShadeTreeModel", "layGrown", "(JI)V"⟩, 21), (⟨"ShadeTreeModel", "isSteady", "(JI)Z"⟩, 21), (⟨"ShadeTreeModel", "growsLess", "(JJI)Z"⟩, 21), (⟨"ShadeTreeModel", "begin", "()V"⟩, 21), (⟨"ShadeTreeModel", "does", "(I)Z"⟩, 21), (⟨"ShadeTreeModel", "isSo", "(III)Z"⟩, 21), (⟨"ShadeTreeModel", "rows", "(I)J"⟩, 21)]
theorem lw_r2 : ∀ q ∈ lw_privs_2, lw_okq q := List.forall_mem_cons.mpr ⟨lw_p16, List.forall_mem_cons.mpr ⟨lw_p17, List.forall_mem_cons.mpr ⟨lw_p18, List.forall_mem_cons.mpr ⟨lw_p19, List.forall_mem_cons.mpr ⟨lw_p20, List.forall_mem_cons.mpr ⟨lw_p21, List.forall_mem_cons.mpr ⟨lw_p22, List.forall_mem_cons.mpr ⟨lw_p23, List.forall_mem_cons.mpr ⟨lw_p24, List.forall_mem_cons.mpr ⟨lw_p25, List.forall_mem_cons.mpr ⟨lw_p26, List.forall_mem_cons.mpr ⟨lw_p27, List.forall_mem_cons.mpr ⟨lw_p28, List.forall_mem_cons.mpr ⟨lw_p29, List.forall_mem_cons.mpr ⟨lw_p30, List.forall_mem_cons.mpr ⟨lw_p31, fun _ h => absurd h List.not_mem_nil⟩⟩⟩⟩⟩⟩⟩⟩⟩⟩⟩⟩⟩⟩⟩⟩
theorem lw_p32 : lw_okq (⟨"ShadeTreeModel", "explains", "(II)Z"⟩, 21) := ⟨⟨by decide +kernel, by decide +kernel⟩, List.mem_of_getElem? (i := 655) (by decide +kernel), List.mem_of_getElem? (i := 959) (by decide +kernel), List.mem_of_getElem? (i := 960) (by decide +kernel)⟩
theorem lw_p33 : lw_okq (⟨"ShadeTreeModel", "goDraw", "(II)V"⟩, 21) := ⟨⟨by decide +kernel, by decide +kernel⟩, List.mem_of_getElem? (i := 655) (by decide +kernel), List.mem_of_getElem? (i := 982) (by decide +kernel), List.mem_of_getElem? (i := 983) (by decide +kernel)⟩
def lw_privs_3 : List (MethodName × Nat) := [(⟨"ShadeTreeModel", "explains", "(II)Z"⟩, 21), (⟨"ShadeTreeModel", "goDraw", "(II)V"⟩, 21)]
theorem lw_r3 : ∀ q ∈ lw_privs_3, lw_okq q := List.forall_mem_cons.mpr ⟨lw_p32, List.forall_mem_cons.mpr ⟨lw_p33, fun _ h => absurd h List.not_mem_nil⟩⟩
def lw_privs : List (MethodName × Nat) := lw_privs_1 ++ (lw_privs_2 ++ (lw_privs_3))
def lw_tbl : List Cond := k2_sels lw_privs ++ tables_1
theorem lw_privs_ok : ∀ q ∈ lw_privs, lw_okq q := by
  show ∀ q ∈ lw_privs_1 ++ (lw_privs_2 ++ (lw_privs_3)), lw_okq q
  exact List.forall_mem_append.mpr ⟨lw_r1, List.forall_mem_append.mpr ⟨lw_r2, lw_r3⟩⟩
end
section
/-! ===== BEGIN words of one list among another's, by their places ===== -/
theorem goodIn_r {big : List Cond} (ws : List Cond) (ps : List Nat) (hp : ws = ps.filterMap (fun i => big[i]?)) (h : ws.all goodWord = true) : GoodIn big ws := by
  intro w hw
  have h1 := List.all_eq_true.mp h w hw
  rw [hp] at hw
  obtain ⟨i, -, hi⟩ := List.mem_filterMap.mp hw
  have hm : w ∈ big := by first | exact List.mem_of_getElem? hi | exact List.getElem?_mem hi
  exact ⟨hm, good_of_word h1⟩
theorem goodIn_app {big a b : List Cond} (ha : GoodIn big a) (hb : GoodIn big b) : GoodIn big (a ++ b) := fun w h => (List.mem_append.mp h).elim (ha w) (hb w)
theorem goodIn_ca {big a b : List Cond} {c : Cond} (ha : GoodIn big (c :: a)) (hb : GoodIn big b) : GoodIn big (c :: (a ++ b)) := fun w h => (List.mem_cons.mp h).elim (fun e => ha w (List.mem_cons.mpr (Or.inl e))) (fun h => (List.mem_append.mp h).elim (fun h => ha w (List.mem_cons.mpr (Or.inr h))) (hb w))
theorem goodIn_sub {big ws : List Cond} (hm : ∀ w ∈ ws, w ∈ big) (h : ws.all goodWord = true) : GoodIn big ws := fun w hw => ⟨hm w hw, good_of_word (List.all_eq_true.mp h w hw)⟩
/-! ===== END ===== -/

/-! ===== BEGIN printed: names, fields, word lists, decode rows ===== -/
def RX0 : String := "ShadeTree$Doings"
def TX0 : u_T := fun k => match k with
  | 0 => ("ShadeTree$Doings", "before", "[J", true)
  | _ => ("ShadeTree$Doings", "size", "I", false)
def tyX0 : Nat → FieldType := fun k => match k with
  | 0 => .array .long
  | _ => .int
abbrev wsX00 : List Cond := u_ws RX0 TX0 2
theorem nmX0 : ∀ a, a < 2 → ∀ b, b < 2 → a ≠ b → (TX0 a).2.1 ≠ (TX0 b).2.1 := by decide +kernel
theorem tyX0_ok : ∀ k, k < 2 → parseFieldDescriptor (TX0 k).2.2.1 = some (tyX0 k) := by decide +kernel
abbrev cX0_init : ByteArray := prog_2_method_1_code
def yX0_init : MethodName := ⟨RX0, "<init>", "()V"⟩
abbrev cX0_size : ByteArray := prog_2_method_2_code
def yX0_size : MethodName := ⟨RX0, "size", "()I"⟩
abbrev cX0_clear : ByteArray := prog_2_method_3_code
def yX0_clear : MethodName := ⟨RX0, "clear", "()V"⟩
abbrev cX0_add : ByteArray := prog_2_method_4_code
def yX0_add : MethodName := ⟨RX0, "add", "(LShadeTree$Shades;)V"⟩
abbrev cX0_takeBack : ByteArray := prog_2_method_5_code
def yX0_takeBack : MethodName := ⟨RX0, "takeBack", "(LShadeTree$Shades;)Z"⟩
def RX1 : String := "ShadeTree$Grid"
def TX1 : u_T := fun k => match k with
  | 0 => ("ShadeTree$Grid", "way", "I", false)
  | 1 => ("ShadeTree$Grid", "wide", "I", false)
  | 2 => ("ShadeTree$Grid", "high", "I", false)
  | 3 => ("ShadeTree$Grid", "all", "J", false)
  | 4 => ("ShadeTree$Grid", "leftmost", "J", false)
  | _ => ("ShadeTree$Grid", "rightmost", "J", false)
def tyX1 : Nat → FieldType := fun k => match k with
  | 0 => .int
  | 1 => .int
  | 2 => .int
  | 3 => .long
  | 4 => .long
  | _ => .long
abbrev wsX10 : List Cond := u_ws RX1 TX1 6
theorem nmX1 : ∀ a, a < 6 → ∀ b, b < 6 → a ≠ b → (TX1 a).2.1 ≠ (TX1 b).2.1 := by decide +kernel
theorem tyX1_ok : ∀ k, k < 6 → parseFieldDescriptor (TX1 k).2.2.1 = some (tyX1 k) := by decide +kernel
abbrev cX1_init : ByteArray := prog_3_method_1_code
def yX1_init : MethodName := ⟨RX1, "<init>", "()V"⟩
abbrev cX1_lay : ByteArray := prog_3_method_2_code
def yX1_lay : MethodName := ⟨RX1, "lay", "(III)V"⟩
abbrev cX1_way : ByteArray := prog_3_method_3_code
def yX1_way : MethodName := ⟨RX1, "way", "()I"⟩
abbrev cX1_wide : ByteArray := prog_3_method_4_code
def yX1_wide : MethodName := ⟨RX1, "wide", "()I"⟩
abbrev cX1_high : ByteArray := prog_3_method_5_code
def yX1_high : MethodName := ⟨RX1, "high", "()I"⟩
abbrev cX1_size : ByteArray := prog_3_method_6_code
def yX1_size : MethodName := ⟨RX1, "size", "()I"⟩
abbrev cX1_all : ByteArray := prog_3_method_7_code
def yX1_all : MethodName := ⟨RX1, "all", "()J"⟩
abbrev cX1_hasDot : ByteArray := prog_3_method_8_code
def yX1_hasDot : MethodName := ⟨RX1, "hasDot", "(I)Z"⟩
abbrev cX1_hasRow : ByteArray := prog_3_method_9_code
def yX1_hasRow : MethodName := ⟨RX1, "hasRow", "(I)Z"⟩
abbrev cX1_row : ByteArray := prog_3_method_10_code
def yX1_row : MethodName := ⟨RX1, "row", "(I)J"⟩
abbrev cX1_rows : ByteArray := prog_3_method_11_code
def yX1_rows : MethodName := ⟨RX1, "rows", "(I)J"⟩
abbrev cX1_columnsOf : ByteArray := prog_3_method_12_code
def yX1_columnsOf : MethodName := ⟨RX1, "columnsOf", "(J)I"⟩
abbrev cX1_rowsOf : ByteArray := prog_3_method_13_code
def yX1_rowsOf : MethodName := ⟨RX1, "rowsOf", "(J)I"⟩
abbrev cX1_partAround : ByteArray := prog_3_method_14_code
def yX1_partAround : MethodName := ⟨RX1, "partAround", "(JJI)J"⟩
abbrev cX1_spread : ByteArray := prog_3_method_15_code
def yX1_spread : MethodName := ⟨RX1, "spread", "(JI)J"⟩
abbrev cX1_joined : ByteArray := prog_3_method_16_code
def yX1_joined : MethodName := ⟨RX1, "joined", "(JIII)Z"⟩
abbrev cX1_countParts : ByteArray := prog_3_method_17_code
def yX1_countParts : MethodName := ⟨RX1, "countParts", "(JI)I"⟩
def RX2 : String := "ShadeTree$Shades"
def TX2 : u_T := fun k => match k with
  | 0 => ("ShadeTree$Shades", "grid", "LShadeTree$Grid;", true)
  | _ => ("ShadeTree$Shades", "layers", "[J", true)
def tyX2 : Nat → FieldType := fun k => match k with
  | 0 => .object "ShadeTree$Grid"
  | _ => .array .long
abbrev wsX20 : List Cond := u_ws RX2 TX2 2
theorem nmX2 : ∀ a, a < 2 → ∀ b, b < 2 → a ≠ b → (TX2 a).2.1 ≠ (TX2 b).2.1 := by decide +kernel
theorem tyX2_ok : ∀ k, k < 2 → parseFieldDescriptor (TX2 k).2.2.1 = some (tyX2 k) := by decide +kernel
abbrev cX2_init : ByteArray := prog_4_method_1_code
def yX2_init : MethodName := ⟨RX2, "<init>", "(LShadeTree$Grid;)V"⟩
abbrev cX2_darken : ByteArray := prog_4_method_2_code
def yX2_darken : MethodName := ⟨RX2, "darken", "()V"⟩
abbrev cX2_atLeast : ByteArray := prog_4_method_3_code
def yX2_atLeast : MethodName := ⟨RX2, "atLeast", "(I)J"⟩
abbrev cX2_of : ByteArray := prog_4_method_4_code
def yX2_of : MethodName := ⟨RX2, "of", "(I)I"⟩
abbrev cX2_light : ByteArray := prog_4_method_5_code
def yX2_light : MethodName := ⟨RX2, "light", "(J)I"⟩
abbrev cX2_brightest : ByteArray := prog_4_method_6_code
def yX2_brightest : MethodName := ⟨RX2, "brightest", "(J)I"⟩
abbrev cX2_set : ByteArray := prog_4_method_7_code
def yX2_set : MethodName := ⟨RX2, "set", "(II)V"⟩
abbrev cX2_turn : ByteArray := prog_4_method_8_code
def yX2_turn : MethodName := ⟨RX2, "turn", "()V"⟩
abbrev cX2_put : ByteArray := prog_4_method_9_code
def yX2_put : MethodName := ⟨RX2, "put", "(IJ)V"⟩
abbrev cX2_thin : ByteArray := prog_4_method_10_code
def yX2_thin : MethodName := ⟨RX2, "thin", "(II)I"⟩
abbrev cX2_bigParts : ByteArray := prog_4_method_11_code
def yX2_bigParts : MethodName := ⟨RX2, "bigParts", "(JII)J"⟩
abbrev cX2_isBig : ByteArray := prog_4_method_12_code
def yX2_isBig : MethodName := ⟨RX2, "isBig", "(JII)Z"⟩
abbrev cX2_copy : ByteArray := prog_4_method_13_code
def yX2_copy : MethodName := ⟨RX2, "copy", "(LShadeTree$Shades;)V"⟩
abbrev cX2_store : ByteArray := prog_4_method_14_code
def yX2_store : MethodName := ⟨RX2, "store", "([JI)V"⟩
abbrev cX2_load : ByteArray := prog_4_method_15_code
def yX2_load : MethodName := ⟨RX2, "load", "([JI)V"⟩
def RX3 : String := "ShadeTree$Sights"
def TX3 : u_T := fun k => match k with
  | 0 => ("ShadeTree$Sights", "ones", "[I", true)
  | 1 => ("ShadeTree$Sights", "others", "[I", true)
  | 2 => ("ShadeTree$Sights", "joined", "[Z", true)
  | _ => ("ShadeTree$Sights", "size", "I", false)
def tyX3 : Nat → FieldType := fun k => match k with
  | 0 => .array .int
  | 1 => .array .int
  | 2 => .array .boolean
  | _ => .int
abbrev wsX30 : List Cond := u_ws RX3 TX3 4
theorem nmX3 : ∀ a, a < 4 → ∀ b, b < 4 → a ≠ b → (TX3 a).2.1 ≠ (TX3 b).2.1 := by decide +kernel
theorem tyX3_ok : ∀ k, k < 4 → parseFieldDescriptor (TX3 k).2.2.1 = some (tyX3 k) := by decide +kernel
abbrev cX3_init : ByteArray := prog_5_method_1_code
def yX3_init : MethodName := ⟨RX3, "<init>", "()V"⟩
abbrev cX3_size : ByteArray := prog_5_method_2_code
def yX3_size : MethodName := ⟨RX3, "size", "()I"⟩
abbrev cX3_clear : ByteArray := prog_5_method_3_code
def yX3_clear : MethodName := ⟨RX3, "clear", "()V"⟩
abbrev cX3_add : ByteArray := prog_5_method_4_code
def yX3_add : MethodName := ⟨RX3, "add", "(IIZ)Z"⟩
abbrev cX3_hold : ByteArray := prog_5_method_5_code
def yX3_hold : MethodName := ⟨RX3, "hold", "(LShadeTree$Grid;JI)Z"⟩
def RX4 : String := "ShadeTree$Slots"
def TX4 : u_T := fun k => match k with
  | 0 => ("ShadeTree$Slots", "kept", "[J", true)
  | _ => ("ShadeTree$Slots", "used", "[Z", true)
def tyX4 : Nat → FieldType := fun k => match k with
  | 0 => .array .long
  | _ => .array .boolean
abbrev wsX40 : List Cond := u_ws RX4 TX4 2
theorem nmX4 : ∀ a, a < 2 → ∀ b, b < 2 → a ≠ b → (TX4 a).2.1 ≠ (TX4 b).2.1 := by decide +kernel
theorem tyX4_ok : ∀ k, k < 2 → parseFieldDescriptor (TX4 k).2.2.1 = some (tyX4 k) := by decide +kernel
abbrev cX4_init : ByteArray := prog_6_method_1_code
def yX4_init : MethodName := ⟨RX4, "<init>", "()V"⟩
abbrev cX4_clear : ByteArray := prog_6_method_2_code
def yX4_clear : MethodName := ⟨RX4, "clear", "()V"⟩
abbrev cX4_has : ByteArray := prog_6_method_3_code
def yX4_has : MethodName := ⟨RX4, "has", "(I)Z"⟩
abbrev cX4_put : ByteArray := prog_6_method_4_code
def yX4_put : MethodName := ⟨RX4, "put", "(ILShadeTree$Shades;)Z"⟩
abbrev cX4_bringBack : ByteArray := prog_6_method_5_code
def yX4_bringBack : MethodName := ⟨RX4, "bringBack", "(ILShadeTree$Shades;)Z"⟩
def RX5 : String := "ShadeTree$Text"
def TX5 : u_T := fun k => match k with
  | 0 => ("ShadeTree$Text", "letters", "[I", true)
  | _ => ("ShadeTree$Text", "size", "I", false)
def tyX5 : Nat → FieldType := fun k => match k with
  | 0 => .array .int
  | _ => .int
abbrev wsX50 : List Cond := u_ws RX5 TX5 2
theorem nmX5 : ∀ a, a < 2 → ∀ b, b < 2 → a ≠ b → (TX5 a).2.1 ≠ (TX5 b).2.1 := by decide +kernel
theorem tyX5_ok : ∀ k, k < 2 → parseFieldDescriptor (TX5 k).2.2.1 = some (tyX5 k) := by decide +kernel
abbrev cX5_init : ByteArray := prog_7_method_1_code
def yX5_init : MethodName := ⟨RX5, "<init>", "()V"⟩
abbrev cX5_size : ByteArray := prog_7_method_2_code
def yX5_size : MethodName := ⟨RX5, "size", "()I"⟩
abbrev cX5_clear : ByteArray := prog_7_method_3_code
def yX5_clear : MethodName := ⟨RX5, "clear", "()V"⟩
abbrev cX5_add : ByteArray := prog_7_method_4_code
def yX5_add : MethodName := ⟨RX5, "add", "(I)Z"⟩
abbrev cX5_figure : ByteArray := prog_7_method_5_code
def yX5_figure : MethodName := ⟨RX5, "figure", "(I)I"⟩
abbrev cX5_firstFault : ByteArray := prog_7_method_6_code
def yX5_firstFault : MethodName := ⟨RX5, "firstFault", "()I"⟩
abbrev cX5_fits : ByteArray := prog_7_method_7_code
def yX5_fits : MethodName := ⟨RX5, "fits", "(I)Z"⟩
abbrev cX5_wholeSize : ByteArray := prog_7_method_8_code
def yX5_wholeSize : MethodName := ⟨RX5, "wholeSize", "()I"⟩
def RX6 : String := "ShadeTree$Tree"
def TX6 : u_T := fun k => match k with
  | 0 => ("ShadeTree$Tree", "grid", "LShadeTree$Grid;", true)
  | 1 => ("ShadeTree$Tree", "shades", "LShadeTree$Shades;", true)
  | 2 => ("ShadeTree$Tree", "nodeParts", "[J", true)
  | 3 => ("ShadeTree$Tree", "nodeLevels", "[I", true)
  | _ => ("ShadeTree$Tree", "size", "I", false)
def tyX6 : Nat → FieldType := fun k => match k with
  | 0 => .object "ShadeTree$Grid"
  | 1 => .object "ShadeTree$Shades"
  | 2 => .array .long
  | 3 => .array .int
  | _ => .int
abbrev wsX60 : List Cond := u_ws RX6 TX6 5
theorem nmX6 : ∀ a, a < 5 → ∀ b, b < 5 → a ≠ b → (TX6 a).2.1 ≠ (TX6 b).2.1 := by decide +kernel
theorem tyX6_ok : ∀ k, k < 5 → parseFieldDescriptor (TX6 k).2.2.1 = some (tyX6 k) := by decide +kernel
abbrev cX6_init : ByteArray := prog_8_method_1_code
def yX6_init : MethodName := ⟨RX6, "<init>", "(LShadeTree$Grid;LShadeTree$Shades;)V"⟩
abbrev cX6_partAt : ByteArray := prog_8_method_2_code
def yX6_partAt : MethodName := ⟨RX6, "partAt", "(IJ)J"⟩
abbrev cX6_ofLevel : ByteArray := prog_8_method_3_code
def yX6_ofLevel : MethodName := ⟨RX6, "ofLevel", "(I)J"⟩
abbrev cX6_nodeOf : ByteArray := prog_8_method_4_code
def yX6_nodeOf : MethodName := ⟨RX6, "nodeOf", "(I)J"⟩
abbrev cX6_head : ByteArray := prog_8_method_5_code
def yX6_head : MethodName := ⟨RX6, "head", "(JI)I"⟩
abbrev cX6_parentLevel : ByteArray := prog_8_method_6_code
def yX6_parentLevel : MethodName := ⟨RX6, "parentLevel", "(JI)I"⟩
abbrev cX6_parentHead : ByteArray := prog_8_method_7_code
def yX6_parentHead : MethodName := ⟨RX6, "parentHead", "(JI)I"⟩
abbrev cX6_countChildren : ByteArray := prog_8_method_8_code
def yX6_countChildren : MethodName := ⟨RX6, "countChildren", "(JI)I"⟩
abbrev cX6_depth : ByteArray := prog_8_method_9_code
def yX6_depth : MethodName := ⟨RX6, "depth", "(JI)I"⟩
abbrev cX6_rise : ByteArray := prog_8_method_10_code
def yX6_rise : MethodName := ⟨RX6, "rise", "(JI)I"⟩
abbrev cX6_gain : ByteArray := prog_8_method_11_code
def yX6_gain : MethodName := ⟨RX6, "gain", "(JII)I"⟩
abbrev cX6_isSteady : ByteArray := prog_8_method_12_code
def yX6_isSteady : MethodName := ⟨RX6, "isSteady", "(JII)Z"⟩
abbrev cX6_darkest : ByteArray := prog_8_method_13_code
def yX6_darkest : MethodName := ⟨RX6, "darkest", "(J)I"⟩
abbrev cX6_countNodes : ByteArray := prog_8_method_14_code
def yX6_countNodes : MethodName := ⟨RX6, "countNodes", "()I"⟩
abbrev cX6_countLeaves : ByteArray := prog_8_method_15_code
def yX6_countLeaves : MethodName := ⟨RX6, "countLeaves", "()I"⟩
abbrev cX6_greatestDepth : ByteArray := prog_8_method_16_code
def yX6_greatestDepth : MethodName := ⟨RX6, "greatestDepth", "()I"⟩
abbrev cX6_gather : ByteArray := prog_8_method_17_code
def yX6_gather : MethodName := ⟨RX6, "gather", "()V"⟩
def RX7 : String := "ShadeTree"
def TX7 : u_T := fun k => match k with
  | 0 => ("ShadeTree", "text", "LShadeTree$Text;", true)
  | 1 => ("ShadeTree", "grid", "LShadeTree$Grid;", true)
  | 2 => ("ShadeTree", "now", "LShadeTree$Shades;", true)
  | 3 => ("ShadeTree", "tree", "LShadeTree$Tree;", true)
  | 4 => ("ShadeTree", "trial", "LShadeTree$Shades;", true)
  | 5 => ("ShadeTree", "trialTree", "LShadeTree$Tree;", true)
  | 6 => ("ShadeTree", "doings", "LShadeTree$Doings;", true)
  | 7 => ("ShadeTree", "slots", "LShadeTree$Slots;", true)
  | 8 => ("ShadeTree", "sights", "LShadeTree$Sights;", true)
  | _ => ("ShadeTree", "seedNow", "J", false)
def tyX7 : Nat → FieldType := fun k => match k with
  | 0 => .object "ShadeTree$Text"
  | 1 => .object "ShadeTree$Grid"
  | 2 => .object "ShadeTree$Shades"
  | 3 => .object "ShadeTree$Tree"
  | 4 => .object "ShadeTree$Shades"
  | 5 => .object "ShadeTree$Tree"
  | 6 => .object "ShadeTree$Doings"
  | 7 => .object "ShadeTree$Slots"
  | 8 => .object "ShadeTree$Sights"
  | _ => .long
abbrev wsX70 : List Cond := u_ws RX7 TX7 10
theorem nmX7 : ∀ a, a < 10 → ∀ b, b < 10 → a ≠ b → (TX7 a).2.1 ≠ (TX7 b).2.1 := by decide +kernel
theorem tyX7_ok : ∀ k, k < 10 → parseFieldDescriptor (TX7 k).2.2.1 = some (tyX7 k) := by decide +kernel
abbrev cX7_init : ByteArray := prog_1_method_1_code
def yX7_init : MethodName := ⟨RX7, "<init>", "()V"⟩
abbrev cX7_write : ByteArray := prog_1_method_2_code
def yX7_write : MethodName := ⟨RX7, "write", "(I)I"⟩
abbrev cX7_wipe : ByteArray := prog_1_method_3_code
def yX7_wipe : MethodName := ⟨RX7, "wipe", "()I"⟩
abbrev cX7_fault : ByteArray := prog_1_method_4_code
def yX7_fault : MethodName := ⟨RX7, "fault", "()I"⟩
abbrev cX7_picture : ByteArray := prog_1_method_5_code
def yX7_picture : MethodName := ⟨RX7, "picture", "()I"⟩
abbrev cX7_about : ByteArray := prog_1_method_6_code
def yX7_about : MethodName := ⟨RX7, "about", "(I)I"⟩
abbrev cX7_shade : ByteArray := prog_1_method_7_code
def yX7_shade : MethodName := ⟨RX7, "shade", "(I)I"⟩
abbrev cX7_node : ByteArray := prog_1_method_8_code
def yX7_node : MethodName := ⟨RX7, "node", "(II)I"⟩
abbrev cX7_dots : ByteArray := prog_1_method_9_code
def yX7_dots : MethodName := ⟨RX7, "dots", "(I)J"⟩
abbrev cX7_parts : ByteArray := prog_1_method_10_code
def yX7_parts : MethodName := ⟨RX7, "parts", "(I)I"⟩
abbrev cX7_paint : ByteArray := prog_1_method_11_code
def yX7_paint : MethodName := ⟨RX7, "paint", "(II)I"⟩
abbrev cX7_negative : ByteArray := prog_1_method_12_code
def yX7_negative : MethodName := ⟨RX7, "negative", "()I"⟩
abbrev cX7_sift : ByteArray := prog_1_method_13_code
def yX7_sift : MethodName := ⟨RX7, "sift", "(II)I"⟩
abbrev cX7_undo : ByteArray := prog_1_method_14_code
def yX7_undo : MethodName := ⟨RX7, "undo", "()I"⟩
abbrev cX7_pass : ByteArray := prog_1_method_15_code
def yX7_pass : MethodName := ⟨RX7, "pass", "(II)I"⟩
abbrev cX7_grows : ByteArray := prog_1_method_16_code
def yX7_grows : MethodName := ⟨RX7, "grows", "(IIZ)I"⟩
abbrev cX7_steady : ByteArray := prog_1_method_17_code
def yX7_steady : MethodName := ⟨RX7, "steady", "(II)I"⟩
abbrev cX7_judge : ByteArray := prog_1_method_18_code
def yX7_judge : MethodName := ⟨RX7, "judge", "(IJ)I"⟩
abbrev cX7_share : ByteArray := prog_1_method_19_code
def yX7_share : MethodName := ⟨RX7, "share", "(IIZ)I"⟩
abbrev cX7_see : ByteArray := prog_1_method_20_code
def yX7_see : MethodName := ⟨RX7, "see", "(III)I"⟩
abbrev cX7_unsee : ByteArray := prog_1_method_21_code
def yX7_unsee : MethodName := ⟨RX7, "unsee", "()I"⟩
abbrev cX7_ways : ByteArray := prog_1_method_22_code
def yX7_ways : MethodName := ⟨RX7, "ways", "(I)I"⟩
abbrev cX7_fades : ByteArray := prog_1_method_23_code
def yX7_fades : MethodName := ⟨RX7, "fades", "(IIIIZ)I"⟩
abbrev cX7_seed : ByteArray := prog_1_method_24_code
def yX7_seed : MethodName := ⟨RX7, "seed", "(J)J"⟩
abbrev cX7_drawn : ByteArray := prog_1_method_25_code
def yX7_drawn : MethodName := ⟨RX7, "drawn", "(I)I"⟩
abbrev cX7_keep : ByteArray := prog_1_method_26_code
def yX7_keep : MethodName := ⟨RX7, "keep", "(I)I"⟩
abbrev cX7_again : ByteArray := prog_1_method_27_code
def yX7_again : MethodName := ⟨RX7, "again", "(I)I"⟩
abbrev cX7_isShade : ByteArray := prog_1_method_28_code
def yX7_isShade : MethodName := ⟨RX7, "isShade", "(I)Z"⟩
abbrev cX7_isStep : ByteArray := prog_1_method_29_code
def yX7_isStep : MethodName := ⟨RX7, "isStep", "(I)Z"⟩
abbrev cX7_isSieve : ByteArray := prog_1_method_30_code
def yX7_isSieve : MethodName := ⟨RX7, "isSieve", "(II)Z"⟩
abbrev cX7_withoutLast : ByteArray := prog_1_method_31_code
def yX7_withoutLast : MethodName := ⟨RX7, "withoutLast", "(JI)J"⟩
abbrev cX7_comesTrue : ByteArray := prog_1_method_32_code
def yX7_comesTrue : MethodName := ⟨RX7, "comesTrue", "(III)Z"⟩
abbrev cX7_trialPainted : ByteArray := prog_1_method_33_code
def yX7_trialPainted : MethodName := ⟨RX7, "trialPainted", "(II)Z"⟩
abbrev cX7_trialTurned : ByteArray := prog_1_method_34_code
def yX7_trialTurned : MethodName := ⟨RX7, "trialTurned", "()Z"⟩
abbrev cX7_trialThinned : ByteArray := prog_1_method_35_code
def yX7_trialThinned : MethodName := ⟨RX7, "trialThinned", "(II)Z"⟩
abbrev cX7_change : ByteArray := prog_1_method_36_code
def yX7_change : MethodName := ⟨RX7, "change", "(J)V"⟩
abbrev cX7_sharedOut : ByteArray := prog_1_method_37_code
def yX7_sharedOut : MethodName := ⟨RX7, "sharedOut", "(JI)I"⟩
abbrev cX7_partsOfRows : ByteArray := prog_1_method_38_code
def yX7_partsOfRows : MethodName := ⟨RX7, "partsOfRows", "(JI)I"⟩
abbrev cX7_fadedOut : ByteArray := prog_1_method_39_code
def yX7_fadedOut : MethodName := ⟨RX7, "fadedOut", "(JJII)I"⟩
abbrev cX7_factorial : ByteArray := prog_1_method_40_code
def yX7_factorial : MethodName := ⟨RX7, "factorial", "(I)I"⟩
abbrev cX7_power : ByteArray := prog_1_method_41_code
def yX7_power : MethodName := ⟨RX7, "power", "(II)I"⟩
abbrev cX7_fraction : ByteArray := prog_1_method_42_code
def yX7_fraction : MethodName := ⟨RX7, "fraction", "(IIZ)I"⟩
abbrev cX7_commonDivisor : ByteArray := prog_1_method_43_code
def yX7_commonDivisor : MethodName := ⟨RX7, "commonDivisor", "(II)I"⟩
def RX8 : String := "ShadeTreeModel"
def TX8 : u_T := fun k => match k with
  | 0 => ("ShadeTreeModel", "thrown", "I", false)
  | 1 => ("ShadeTreeModel", "text", "[I", true)
  | 2 => ("ShadeTreeModel", "textSize", "I", false)
  | 3 => ("ShadeTreeModel", "readPage", "[I", true)
  | 4 => ("ShadeTreeModel", "page", "[I", true)
  | 5 => ("ShadeTreeModel", "trial", "[I", true)
  | 6 => ("ShadeTreeModel", "changed", "[I", true)
  | 7 => ("ShadeTreeModel", "book", "[I", true)
  | 8 => ("ShadeTreeModel", "doings", "I", false)
  | 9 => ("ShadeTreeModel", "kept", "[I", true)
  | 10 => ("ShadeTreeModel", "isKept", "[Z", true)
  | 11 => ("ShadeTreeModel", "seen", "I", false)
  | 12 => ("ShadeTreeModel", "seenOne", "[I", true)
  | 13 => ("ShadeTreeModel", "seenOther", "[I", true)
  | 14 => ("ShadeTreeModel", "seenIs", "[I", true)
  | 15 => ("ShadeTreeModel", "seed", "J", false)
  | 16 => ("ShadeTreeModel", "grown", "I", false)
  | 17 => ("ShadeTreeModel", "grownBy", "I", false)
  | 18 => ("ShadeTreeModel", "wayMany", "I", false)
  | 19 => ("ShadeTreeModel", "wayFirst", "I", false)
  | _ => ("ShadeTreeModel", "value", "[I", true)
def tyX8 : Nat → FieldType := fun k => match k with
  | 0 => .int
  | 1 => .array .int
  | 2 => .int
  | 3 => .array .int
  | 4 => .array .int
  | 5 => .array .int
  | 6 => .array .int
  | 7 => .array .int
  | 8 => .int
  | 9 => .array .int
  | 10 => .array .boolean
  | 11 => .int
  | 12 => .array .int
  | 13 => .array .int
  | 14 => .array .int
  | 15 => .long
  | 16 => .int
  | 17 => .int
  | 18 => .int
  | 19 => .int
  | _ => .array .int
abbrev wsX80 : List Cond := u_ws RX8 TX8 21
theorem nmX8 : ∀ a, a < 21 → ∀ b, b < 21 → a ≠ b → (TX8 a).2.1 ≠ (TX8 b).2.1 := by decide +kernel
theorem tyX8_ok : ∀ k, k < 21 → parseFieldDescriptor (TX8 k).2.2.1 = some (tyX8 k) := by decide +kernel
abbrev cX8_init : ByteArray := prog_10_method_1_code
def yX8_init : MethodName := ⟨RX8, "<init>", "()V"⟩
abbrev cX8_in : ByteArray := prog_10_method_3_code
def yX8_in : MethodName := ⟨RX8, "in", "(JJJ)Z"⟩
abbrev cX8_has : ByteArray := prog_10_method_4_code
def yX8_has : MethodName := ⟨RX8, "has", "(JI)Z"⟩
abbrev cX8_many : ByteArray := prog_10_method_5_code
def yX8_many : MethodName := ⟨RX8, "many", "(J)I"⟩
abbrev cX8_power : ByteArray := prog_10_method_6_code
def yX8_power : MethodName := ⟨RX8, "power", "(II)I"⟩
abbrev cX8_dotsOf : ByteArray := prog_10_method_7_code
def yX8_dotsOf : MethodName := ⟨RX8, "dotsOf", "([I)I"⟩
abbrev cX8_noDot : ByteArray := prog_10_method_8_code
def yX8_noDot : MethodName := ⟨RX8, "noDot", "(I)Z"⟩
abbrev cX8_isBeside : ByteArray := prog_10_method_9_code
def yX8_isBeside : MethodName := ⟨RX8, "isBeside", "([IIII)Z"⟩
abbrev cX8_bright : ByteArray := prog_10_method_10_code
def yX8_bright : MethodName := ⟨RX8, "bright", "([IIJ)J"⟩
abbrev cX8_around : ByteArray := prog_10_method_11_code
def yX8_around : MethodName := ⟨RX8, "around", "([III)J"⟩
abbrev cX8_spread : ByteArray := prog_10_method_12_code
def yX8_spread : MethodName := ⟨RX8, "spread", "([IIJI)J"⟩
abbrev cX8_part : ByteArray := prog_10_method_13_code
def yX8_part : MethodName := ⟨RX8, "part", "([III)J"⟩
abbrev cX8_partsOf : ByteArray := prog_10_method_14_code
def yX8_partsOf : MethodName := ⟨RX8, "partsOf", "([IIJ)I"⟩
abbrev cX8_nodeOf : ByteArray := prog_10_method_15_code
def yX8_nodeOf : MethodName := ⟨RX8, "nodeOf", "([II)J"⟩
abbrev cX8_level : ByteArray := prog_10_method_16_code
def yX8_level : MethodName := ⟨RX8, "level", "([IJ)I"⟩
abbrev cX8_brightest : ByteArray := prog_10_method_17_code
def yX8_brightest : MethodName := ⟨RX8, "brightest", "([IJ)I"⟩
abbrev cX8_head : ByteArray := prog_10_method_18_code
def yX8_head : MethodName := ⟨RX8, "head", "([IJ)I"⟩
abbrev cX8_parent : ByteArray := prog_10_method_19_code
def yX8_parent : MethodName := ⟨RX8, "parent", "([IJ)J"⟩
abbrev cX8_isHead : ByteArray := prog_10_method_20_code
def yX8_isHead : MethodName := ⟨RX8, "isHead", "([II)Z"⟩
abbrev cX8_nodes : ByteArray := prog_10_method_21_code
def yX8_nodes : MethodName := ⟨RX8, "nodes", "([I)I"⟩
abbrev cX8_children : ByteArray := prog_10_method_22_code
def yX8_children : MethodName := ⟨RX8, "children", "([IJ)I"⟩
abbrev cX8_depth : ByteArray := prog_10_method_23_code
def yX8_depth : MethodName := ⟨RX8, "depth", "([IJ)I"⟩
abbrev cX8_light : ByteArray := prog_10_method_24_code
def yX8_light : MethodName := ⟨RX8, "light", "([IJ)I"⟩
abbrev cX8_box : ByteArray := prog_10_method_25_code
def yX8_box : MethodName := ⟨RX8, "box", "([IJZ)I"⟩
abbrev cX8_rise : ByteArray := prog_10_method_26_code
def yX8_rise : MethodName := ⟨RX8, "rise", "([IJ)I"⟩
abbrev cX8_write : ByteArray := prog_10_method_27_code
def yX8_write : MethodName := ⟨RX8, "write", "(I)I"⟩
abbrev cX8_wipe : ByteArray := prog_10_method_28_code
def yX8_wipe : MethodName := ⟨RX8, "wipe", "()I"⟩
abbrev cX8_letterAt : ByteArray := prog_10_method_29_code
def yX8_letterAt : MethodName := ⟨RX8, "letterAt", "(I)I"⟩
abbrev cX8_readPicture : ByteArray := prog_10_method_30_code
def yX8_readPicture : MethodName := ⟨RX8, "readPicture", "()I"⟩
abbrev cX8_fault : ByteArray := prog_10_method_31_code
def yX8_fault : MethodName := ⟨RX8, "fault", "()I"⟩
abbrev cX8_picture : ByteArray := prog_10_method_32_code
def yX8_picture : MethodName := ⟨RX8, "picture", "()I"⟩
abbrev cX8_leaves : ByteArray := prog_10_method_33_code
def yX8_leaves : MethodName := ⟨RX8, "leaves", "()I"⟩
abbrev cX8_deepest : ByteArray := prog_10_method_34_code
def yX8_deepest : MethodName := ⟨RX8, "deepest", "()I"⟩
abbrev cX8_about : ByteArray := prog_10_method_35_code
def yX8_about : MethodName := ⟨RX8, "about", "(I)I"⟩
abbrev cX8_shade : ByteArray := prog_10_method_36_code
def yX8_shade : MethodName := ⟨RX8, "shade", "(I)I"⟩
abbrev cX8_node : ByteArray := prog_10_method_37_code
def yX8_node : MethodName := ⟨RX8, "node", "(II)I"⟩
abbrev cX8_dots : ByteArray := prog_10_method_38_code
def yX8_dots : MethodName := ⟨RX8, "dots", "(I)J"⟩
abbrev cX8_parts : ByteArray := prog_10_method_39_code
def yX8_parts : MethodName := ⟨RX8, "parts", "(I)I"⟩
abbrev cX8_note : ByteArray := prog_10_method_40_code
def yX8_note : MethodName := ⟨RX8, "note", "()V"⟩
abbrev cX8_paint : ByteArray := prog_10_method_41_code
def yX8_paint : MethodName := ⟨RX8, "paint", "(II)I"⟩
abbrev cX8_goNegative : ByteArray := prog_10_method_42_code
def yX8_goNegative : MethodName := ⟨RX8, "goNegative", "([I)V"⟩
abbrev cX8_negative : ByteArray := prog_10_method_43_code
def yX8_negative : MethodName := ⟨RX8, "negative", "()I"⟩
abbrev cX8_stays : ByteArray := prog_10_method_44_code
def yX8_stays : MethodName := ⟨RX8, "stays", "([IJII)Z"⟩
abbrev cX8_sifted : ByteArray := prog_10_method_45_code
def yX8_sifted : MethodName := ⟨RX8, "sifted", "([IIII)I"⟩
abbrev cX8_goSift : ByteArray := prog_10_method_46_code
def yX8_goSift : MethodName := ⟨RX8, "goSift", "([III)I"⟩
abbrev cX8_sift : ByteArray := prog_10_method_47_code
def yX8_sift : MethodName := ⟨RX8, "sift", "(II)I"⟩
abbrev cX8_undo : ByteArray := prog_10_method_48_code
def yX8_undo : MethodName := ⟨RX8, "undo", "()I"⟩
abbrev cX8_pass : ByteArray := prog_10_method_49_code
def yX8_pass : MethodName := ⟨RX8, "pass", "(II)I"⟩
abbrev cX8_divisor : ByteArray := prog_10_method_50_code
def yX8_divisor : MethodName := ⟨RX8, "divisor", "(II)I"⟩
abbrev cX8_fraction : ByteArray := prog_10_method_51_code
def yX8_fraction : MethodName := ⟨RX8, "fraction", "(IIZ)I"⟩
abbrev cX8_layGrown : ByteArray := prog_10_method_52_code
def yX8_layGrown : MethodName := ⟨RX8, "layGrown", "(JI)V"⟩
abbrev cX8_grows : ByteArray := prog_10_method_53_code
def yX8_grows : MethodName := ⟨RX8, "grows", "(IIZ)I"⟩
abbrev cX8_growsLess : ByteArray := prog_10_method_54_code
def yX8_growsLess : MethodName := ⟨RX8, "growsLess", "(JJI)Z"⟩
abbrev cX8_isSteady : ByteArray := prog_10_method_55_code
def yX8_isSteady : MethodName := ⟨RX8, "isSteady", "(JI)Z"⟩
abbrev cX8_steady : ByteArray := prog_10_method_56_code
def yX8_steady : MethodName := ⟨RX8, "steady", "(II)I"⟩
abbrev cX8_begin : ByteArray := prog_10_method_57_code
def yX8_begin : MethodName := ⟨RX8, "begin", "()V"⟩
abbrev cX8_longPower : ByteArray := prog_10_method_58_code
def yX8_longPower : MethodName := ⟨RX8, "longPower", "(JI)J"⟩
abbrev cX8_isSo : ByteArray := prog_10_method_59_code
def yX8_isSo : MethodName := ⟨RX8, "isSo", "(III)Z"⟩
abbrev cX8_does : ByteArray := prog_10_method_60_code
def yX8_does : MethodName := ⟨RX8, "does", "(I)Z"⟩
abbrev cX8_judge : ByteArray := prog_10_method_61_code
def yX8_judge : MethodName := ⟨RX8, "judge", "(IJ)I"⟩
abbrev cX8_orders : ByteArray := prog_10_method_62_code
def yX8_orders : MethodName := ⟨RX8, "orders", "(II)I"⟩
abbrev cX8_rows : ByteArray := prog_10_method_63_code
def yX8_rows : MethodName := ⟨RX8, "rows", "(I)J"⟩
abbrev cX8_share : ByteArray := prog_10_method_64_code
def yX8_share : MethodName := ⟨RX8, "share", "(IIZ)I"⟩
abbrev cX8_see : ByteArray := prog_10_method_65_code
def yX8_see : MethodName := ⟨RX8, "see", "(III)I"⟩
abbrev cX8_unsee : ByteArray := prog_10_method_66_code
def yX8_unsee : MethodName := ⟨RX8, "unsee", "()I"⟩
abbrev cX8_explains : ByteArray := prog_10_method_67_code
def yX8_explains : MethodName := ⟨RX8, "explains", "(II)Z"⟩
abbrev cX8_ways : ByteArray := prog_10_method_68_code
def yX8_ways : MethodName := ⟨RX8, "ways", "(I)I"⟩
abbrev cX8_fades : ByteArray := prog_10_method_69_code
def yX8_fades : MethodName := ⟨RX8, "fades", "(IIIIZ)I"⟩
abbrev cX8_seed : ByteArray := prog_10_method_70_code
def yX8_seed : MethodName := ⟨RX8, "seed", "(J)J"⟩
abbrev cX8_goDraw : ByteArray := prog_10_method_71_code
def yX8_goDraw : MethodName := ⟨RX8, "goDraw", "(II)V"⟩
abbrev cX8_drawn : ByteArray := prog_10_method_72_code
def yX8_drawn : MethodName := ⟨RX8, "drawn", "(I)I"⟩
abbrev cX8_keep : ByteArray := prog_10_method_73_code
def yX8_keep : MethodName := ⟨RX8, "keep", "(I)I"⟩
abbrev cX8_again : ByteArray := prog_10_method_74_code
def yX8_again : MethodName := ⟨RX8, "again", "(I)I"⟩
def RJ6 : String := "java/lang/Integer"
def TJ6 : u_T := fun k => match k with
  | _ => ("", "", "", false)
def tyJ6 : Nat → FieldType := fun k => match k with
  | _ => .int
abbrev wsJ60 : List Cond := u_ws RJ6 TJ6 0
theorem nmJ6 : ∀ a, a < 0 → ∀ b, b < 0 → a ≠ b → (TJ6 a).2.1 ≠ (TJ6 b).2.1 := by decide +kernel
theorem tyJ6_ok : ∀ k, k < 0 → parseFieldDescriptor (TJ6 k).2.2.1 = some (tyJ6 k) := by decide +kernel
abbrev cJ6_bitCount_0f7a4 : ByteArray := prog_11_method_49_code
def yJ6_bitCount_0f7a4 : MethodName := ⟨RJ6, "bitCount", "(I)I"⟩
def RJ13 : String := "java/lang/Long"
def TJ13 : u_T := fun k => match k with
  | _ => ("", "", "", false)
def tyJ13 : Nat → FieldType := fun k => match k with
  | _ => .int
abbrev wsJ130 : List Cond := u_ws RJ13 TJ13 0
theorem nmJ13 : ∀ a, a < 0 → ∀ b, b < 0 → a ≠ b → (TJ13 a).2.1 ≠ (TJ13 b).2.1 := by decide +kernel
theorem tyJ13_ok : ∀ k, k < 0 → parseFieldDescriptor (TJ13 k).2.2.1 = some (tyJ13 k) := by decide +kernel
abbrev cJ13_bitCount_95d88 : ByteArray := prog_12_method_50_code
def yJ13_bitCount_95d88 : MethodName := ⟨RJ13, "bitCount", "(J)I"⟩
def RJ9 : String := "java/lang/Math"
def TJ9 : u_T := fun k => match k with
  | _ => ("", "", "", false)
def tyJ9 : Nat → FieldType := fun k => match k with
  | _ => .int
abbrev wsJ90 : List Cond := u_ws RJ9 TJ9 0
theorem nmJ9 : ∀ a, a < 0 → ∀ b, b < 0 → a ≠ b → (TJ9 a).2.1 ≠ (TJ9 b).2.1 := by decide +kernel
theorem tyJ9_ok : ∀ k, k < 0 → parseFieldDescriptor (TJ9 k).2.2.1 = some (tyJ9 k) := by decide +kernel
abbrev cJ9_abs_0f7a4 : ByteArray := prog_13_method_59_code
def yJ9_abs_0f7a4 : MethodName := ⟨RJ9, "abs", "(I)I"⟩
abbrev cJ9_max_7cf53 : ByteArray := prog_13_method_65_code
def yJ9_max_7cf53 : MethodName := ⟨RJ9, "max", "(II)I"⟩
def RJ10 : String := "java/lang/System"
def TJ10 : u_T := fun k => match k with
  | _ => ("", "", "", false)
def tyJ10 : Nat → FieldType := fun k => match k with
  | _ => .int
abbrev wsJ100 : List Cond := u_ws RJ10 TJ10 0
theorem nmJ10 : ∀ a, a < 0 → ∀ b, b < 0 → a ≠ b → (TJ10 a).2.1 ≠ (TJ10 b).2.1 := by decide +kernel
theorem tyJ10_ok : ∀ k, k < 0 → parseFieldDescriptor (TJ10 k).2.2.1 = some (tyJ10 k) := by decide +kernel
def RL : String := "ShadeTreeLaw"
abbrev cL_law : ByteArray := code
def yL_law : MethodName := ⟨RL, "law", "([I)Z"⟩
def wsX0_init : List Cond := .code yX0_init cX0_init 1 none :: ([.methodLink RX0 3 objectInit, .instanceMethod objectInit, .code objectInit ⟨#[0xb1]⟩ 1 none, .arrayClass .long, .fieldLink RX0 11 "ShadeTree$Doings" "before" "[J"] ++ wsX00)
def wsX0_size : List Cond := .code yX0_size cX0_size 1 (some .int) :: ([.fieldLink RX0 15 "ShadeTree$Doings" "size" "I"] ++ wsX00)
def wsX0_clear : List Cond := .code yX0_clear cX0_clear 1 none :: ([.fieldLink RX0 15 "ShadeTree$Doings" "size" "I"] ++ wsX00)
def wsX2_store : List Cond := .code yX2_store cX2_store 3 none :: ([.fieldLink RX2 9 "ShadeTree$Shades" "layers" "[J", .methodLink RX2 70 arraycopyName, .native arraycopyName, .static arraycopyName, .initialized "java/lang/System"] ++ wsX20)
def wsX0_add : List Cond := .code yX0_add cX0_add 2 none :: ([.fieldLink RX0 15 "ShadeTree$Doings" "size" "I", .fieldLink RX0 11 "ShadeTree$Doings" "before" "[J", .methodLink RX0 19 arraycopyName, .native arraycopyName, .static arraycopyName, .initialized "java/lang/System", .methodLink RX0 25 yX2_store, .instanceMethod yX2_store, .selects RX2 yX2_store yX2_store, .initialized RX2, .code yX2_store cX2_store 3 none, .fieldLink RX2 9 "ShadeTree$Shades" "layers" "[J", .methodLink RX2 70 arraycopyName] ++ wsX00 ++ wsX20)
def wsX2_load : List Cond := .code yX2_load cX2_load 3 none :: ([.fieldLink RX2 9 "ShadeTree$Shades" "layers" "[J", .methodLink RX2 70 arraycopyName, .native arraycopyName, .static arraycopyName, .initialized "java/lang/System"] ++ wsX20)
def wsX0_takeBack : List Cond := .code yX0_takeBack cX0_takeBack 2 (some .boolean) :: ([.fieldLink RX0 15 "ShadeTree$Doings" "size" "I", .fieldLink RX0 11 "ShadeTree$Doings" "before" "[J", .methodLink RX0 31 yX2_load, .instanceMethod yX2_load, .selects RX2 yX2_load yX2_load, .initialized RX2, .code yX2_load cX2_load 3 none, .fieldLink RX2 9 "ShadeTree$Shades" "layers" "[J", .methodLink RX2 70 arraycopyName, .native arraycopyName, .static arraycopyName, .initialized "java/lang/System"] ++ wsX00 ++ wsX20)
def wsX1_lay : List Cond := .code yX1_lay cX1_lay 5 none :: ([.fieldLink RX1 15 "ShadeTree$Grid" "way" "I", .fieldLink RX1 19 "ShadeTree$Grid" "wide" "I", .fieldLink RX1 22 "ShadeTree$Grid" "high" "I", .fieldLink RX1 25 "ShadeTree$Grid" "all" "J", .fieldLink RX1 29 "ShadeTree$Grid" "leftmost" "J", .fieldLink RX1 32 "ShadeTree$Grid" "rightmost" "J"] ++ wsX10)
def wsX1_init : List Cond := .code yX1_init cX1_init 1 none :: ([.methodLink RX1 3 objectInit, .instanceMethod objectInit, .code objectInit ⟨#[0xb1]⟩ 1 none, .methodLink RX1 9 yX1_lay, .instanceMethod yX1_lay, .selects RX1 yX1_lay yX1_lay, .initialized RX1, .code yX1_lay cX1_lay 5 none, .fieldLink RX1 15 "ShadeTree$Grid" "way" "I", .fieldLink RX1 19 "ShadeTree$Grid" "wide" "I", .fieldLink RX1 22 "ShadeTree$Grid" "high" "I", .fieldLink RX1 25 "ShadeTree$Grid" "all" "J", .fieldLink RX1 29 "ShadeTree$Grid" "leftmost" "J", .fieldLink RX1 32 "ShadeTree$Grid" "rightmost" "J"] ++ wsX10)
def wsX1_way : List Cond := .code yX1_way cX1_way 1 (some .int) :: ([.fieldLink RX1 15 "ShadeTree$Grid" "way" "I"] ++ wsX10)
def wsX1_wide : List Cond := .code yX1_wide cX1_wide 1 (some .int) :: ([.fieldLink RX1 19 "ShadeTree$Grid" "wide" "I"] ++ wsX10)
def wsX1_high : List Cond := .code yX1_high cX1_high 1 (some .int) :: ([.fieldLink RX1 22 "ShadeTree$Grid" "high" "I"] ++ wsX10)
def wsX1_size : List Cond := .code yX1_size cX1_size 1 (some .int) :: ([.fieldLink RX1 19 "ShadeTree$Grid" "wide" "I", .fieldLink RX1 22 "ShadeTree$Grid" "high" "I"] ++ wsX10)
def wsX1_all : List Cond := .code yX1_all cX1_all 1 (some .long) :: ([.fieldLink RX1 25 "ShadeTree$Grid" "all" "J"] ++ wsX10)
def wsX1_hasDot : List Cond := .code yX1_hasDot cX1_hasDot 2 (some .boolean) :: ([.methodLink RX1 35 yX1_size, .instanceMethod yX1_size, .selects RX1 yX1_size yX1_size, .initialized RX1, .code yX1_size cX1_size 1 (some .int), .fieldLink RX1 19 "ShadeTree$Grid" "wide" "I", .fieldLink RX1 22 "ShadeTree$Grid" "high" "I"] ++ wsX10)
def wsX1_hasRow : List Cond := .code yX1_hasRow cX1_hasRow 2 (some .boolean) :: ([.fieldLink RX1 22 "ShadeTree$Grid" "high" "I"] ++ wsX10)
def wsX1_row : List Cond := .code yX1_row cX1_row 2 (some .long) :: ([.fieldLink RX1 19 "ShadeTree$Grid" "wide" "I"] ++ wsX10)
def wsX1_rows : List Cond := .code yX1_rows cX1_rows 5 (some .long) :: ([.fieldLink RX1 22 "ShadeTree$Grid" "high" "I", .methodLink RX1 39 yX1_row, .instanceMethod yX1_row, .selects RX1 yX1_row yX1_row, .initialized RX1, .code yX1_row cX1_row 2 (some .long), .fieldLink RX1 19 "ShadeTree$Grid" "wide" "I"] ++ wsX10)
def wsX1_columnsOf : List Cond := .code yX1_columnsOf cX1_columnsOf 5 (some .int) :: ([.fieldLink RX1 19 "ShadeTree$Grid" "wide" "I", .fieldLink RX1 29 "ShadeTree$Grid" "leftmost" "J"] ++ wsX10)
def wsX1_rowsOf : List Cond := .code yX1_rowsOf cX1_rowsOf 5 (some .int) :: ([.fieldLink RX1 22 "ShadeTree$Grid" "high" "I", .methodLink RX1 39 yX1_row, .instanceMethod yX1_row, .selects RX1 yX1_row yX1_row, .initialized RX1, .code yX1_row cX1_row 2 (some .long), .fieldLink RX1 19 "ShadeTree$Grid" "wide" "I"] ++ wsX10)
def wsX1_spread : List Cond := .code yX1_spread cX1_spread 8 (some .long) :: ([.fieldLink RX1 32 "ShadeTree$Grid" "rightmost" "J", .constantLong RX1 47 (-1), .fieldLink RX1 29 "ShadeTree$Grid" "leftmost" "J", .fieldLink RX1 19 "ShadeTree$Grid" "wide" "I"] ++ wsX10)
def wsX1_partAround : List Cond := .code yX1_partAround cX1_partAround 11 (some .long) :: ([.methodLink RX1 43 yX1_spread, .instanceMethod yX1_spread, .selects RX1 yX1_spread yX1_spread, .initialized RX1, .code yX1_spread cX1_spread 8 (some .long), .fieldLink RX1 32 "ShadeTree$Grid" "rightmost" "J", .constantLong RX1 47 (-1), .fieldLink RX1 29 "ShadeTree$Grid" "leftmost" "J", .fieldLink RX1 19 "ShadeTree$Grid" "wide" "I"] ++ wsX10)
def wsX1_joined : List Cond := .code yX1_joined cX1_joined 6 (some .boolean) :: ([.methodLink RX1 49 yX1_hasDot, .instanceMethod yX1_hasDot, .selects RX1 yX1_hasDot yX1_hasDot, .initialized RX1, .code yX1_hasDot cX1_hasDot 2 (some .boolean), .methodLink RX1 35 yX1_size, .instanceMethod yX1_size, .selects RX1 yX1_size yX1_size, .code yX1_size cX1_size 1 (some .int), .fieldLink RX1 19 "ShadeTree$Grid" "wide" "I", .fieldLink RX1 22 "ShadeTree$Grid" "high" "I", .methodLink RX1 53 yX1_partAround, .instanceMethod yX1_partAround, .selects RX1 yX1_partAround yX1_partAround, .code yX1_partAround cX1_partAround 11 (some .long), .methodLink RX1 43 yX1_spread, .instanceMethod yX1_spread, .selects RX1 yX1_spread yX1_spread, .code yX1_spread cX1_spread 8 (some .long), .fieldLink RX1 32 "ShadeTree$Grid" "rightmost" "J", .constantLong RX1 47 (-1), .fieldLink RX1 29 "ShadeTree$Grid" "leftmost" "J"] ++ wsX10)
def wsX1_countParts : List Cond := .code yX1_countParts cX1_countParts 7 (some .int) :: ([.constantLong RX1 47 (-1), .methodLink RX1 53 yX1_partAround, .instanceMethod yX1_partAround, .selects RX1 yX1_partAround yX1_partAround, .initialized RX1, .code yX1_partAround cX1_partAround 11 (some .long), .methodLink RX1 43 yX1_spread, .instanceMethod yX1_spread, .selects RX1 yX1_spread yX1_spread, .code yX1_spread cX1_spread 8 (some .long), .fieldLink RX1 32 "ShadeTree$Grid" "rightmost" "J", .fieldLink RX1 29 "ShadeTree$Grid" "leftmost" "J", .fieldLink RX1 19 "ShadeTree$Grid" "wide" "I"] ++ wsX10)
def wsX2_darken : List Cond := .code yX2_darken cX2_darken 2 none :: ([.fieldLink RX2 9 "ShadeTree$Shades" "layers" "[J", .fieldLink RX2 15 "ShadeTree$Shades" "grid" "LShadeTree$Grid;", .methodLink RX2 22 yX1_all, .instanceMethod yX1_all, .selects RX1 yX1_all yX1_all, .initialized RX1, .code yX1_all cX1_all 1 (some .long), .fieldLink RX1 25 "ShadeTree$Grid" "all" "J"] ++ wsX20 ++ wsX10)
def wsX2_init : List Cond := .code yX2_init cX2_init 2 none :: ([.methodLink RX2 3 objectInit, .instanceMethod objectInit, .code objectInit ⟨#[0xb1]⟩ 1 none, .arrayClass .long, .fieldLink RX2 9 "ShadeTree$Shades" "layers" "[J", .fieldLink RX2 15 "ShadeTree$Shades" "grid" "LShadeTree$Grid;", .methodLink RX2 19 yX2_darken, .instanceMethod yX2_darken, .selects RX2 yX2_darken yX2_darken, .initialized RX2, .code yX2_darken cX2_darken 2 none, .methodLink RX2 22 yX1_all, .instanceMethod yX1_all, .selects RX1 yX1_all yX1_all, .initialized RX1, .code yX1_all cX1_all 1 (some .long), .fieldLink RX1 25 "ShadeTree$Grid" "all" "J"] ++ wsX20 ++ wsX10)
def wsX2_atLeast : List Cond := .code yX2_atLeast cX2_atLeast 2 (some .long) :: ([.fieldLink RX2 9 "ShadeTree$Shades" "layers" "[J"] ++ wsX20)
def wsX2_of : List Cond := .code yX2_of cX2_of 4 (some .int) :: ([.fieldLink RX2 9 "ShadeTree$Shades" "layers" "[J"] ++ wsX20)
def wsJ13_bitCount_95d88 : List Cond := .code yJ13_bitCount_95d88 cJ13_bitCount_95d88 2 (some .int) :: ([.constantLong RJ13 314 (6148914691236517205), .constantLong RJ13 316 (3689348814741910323), .constantLong RJ13 318 (1085102592571150095)])
def wsX2_light : List Cond := .code yX2_light cX2_light 5 (some .int) :: ([.fieldLink RX2 9 "ShadeTree$Shades" "layers" "[J", .methodLink RX2 28 yJ13_bitCount_95d88, .static yJ13_bitCount_95d88, .initialized RJ13, .code yJ13_bitCount_95d88 cJ13_bitCount_95d88 2 (some .int), .constantLong RJ13 314 (6148914691236517205), .constantLong RJ13 316 (3689348814741910323), .constantLong RJ13 318 (1085102592571150095)] ++ wsX20)
def wsX2_brightest : List Cond := .code yX2_brightest cX2_brightest 4 (some .int) :: ([.methodLink RX2 34 yX2_atLeast, .instanceMethod yX2_atLeast, .selects RX2 yX2_atLeast yX2_atLeast, .initialized RX2, .code yX2_atLeast cX2_atLeast 2 (some .long), .fieldLink RX2 9 "ShadeTree$Shades" "layers" "[J"] ++ wsX20)
def wsX2_set : List Cond := .code yX2_set cX2_set 6 none :: ([.fieldLink RX2 9 "ShadeTree$Shades" "layers" "[J", .constantLong RX2 38 (-1)] ++ wsX20)
def wsX2_put : List Cond := .code yX2_put cX2_put 4 none :: ([.fieldLink RX2 9 "ShadeTree$Shades" "layers" "[J"] ++ wsX20)
def wsX2_turn : List Cond := .code yX2_turn cX2_turn 4 none :: ([.fieldLink RX2 15 "ShadeTree$Shades" "grid" "LShadeTree$Grid;", .constantLong RX2 38 (-1), .methodLink RX2 22 yX1_all, .instanceMethod yX1_all, .selects RX1 yX1_all yX1_all, .initialized RX1, .code yX1_all cX1_all 1 (some .long), .fieldLink RX1 25 "ShadeTree$Grid" "all" "J", .methodLink RX2 34 yX2_atLeast, .instanceMethod yX2_atLeast, .selects RX2 yX2_atLeast yX2_atLeast, .initialized RX2, .code yX2_atLeast cX2_atLeast 2 (some .long), .fieldLink RX2 9 "ShadeTree$Shades" "layers" "[J", .methodLink RX2 40 yX2_put, .instanceMethod yX2_put, .selects RX2 yX2_put yX2_put, .code yX2_put cX2_put 4 none] ++ wsX20 ++ wsX10)
def wsX2_isBig : List Cond := .code yX2_isBig cX2_isBig 5 (some .boolean) :: ([.fieldLink RX2 15 "ShadeTree$Shades" "grid" "LShadeTree$Grid;", .methodLink RX2 28 yJ13_bitCount_95d88, .static yJ13_bitCount_95d88, .initialized RJ13, .code yJ13_bitCount_95d88 cJ13_bitCount_95d88 2 (some .int), .constantLong RJ13 314 (6148914691236517205), .constantLong RJ13 316 (3689348814741910323), .constantLong RJ13 318 (1085102592571150095), .methodLink RX2 60 yX1_columnsOf, .instanceMethod yX1_columnsOf, .selects RX1 yX1_columnsOf yX1_columnsOf, .initialized RX1, .code yX1_columnsOf cX1_columnsOf 5 (some .int), .fieldLink RX1 19 "ShadeTree$Grid" "wide" "I", .fieldLink RX1 29 "ShadeTree$Grid" "leftmost" "J", .methodLink RX2 63 yX1_rowsOf, .instanceMethod yX1_rowsOf, .selects RX1 yX1_rowsOf yX1_rowsOf, .code yX1_rowsOf cX1_rowsOf 5 (some .int), .fieldLink RX1 22 "ShadeTree$Grid" "high" "I", .methodLink RX1 39 yX1_row, .instanceMethod yX1_row, .selects RX1 yX1_row yX1_row, .code yX1_row cX1_row 2 (some .long)] ++ wsX20 ++ wsX10)
def wsX2_bigParts_r1 : List Cond := [Cond.fieldLink RX2 15 "ShadeTree$Shades" "grid" "LShadeTree$Grid;", Cond.constantLong RX2 38 (-1), Cond.methodLink RX2 22 yX1_all, Cond.instanceMethod yX1_all, Cond.selects RX1 yX1_all yX1_all, Cond.initialized RX1, Cond.code yX1_all cX1_all 1 (some .long), Cond.fieldLink RX1 25 "ShadeTree$Grid" "all" "J", Cond.methodLink RX2 48 yX1_way, Cond.instanceMethod yX1_way, Cond.selects RX1 yX1_way yX1_way, Cond.code yX1_way cX1_way 1 (some .int), Cond.fieldLink RX1 15 "ShadeTree$Grid" "way" "I", Cond.methodLink RX2 52 yX1_partAround, Cond.instanceMethod yX1_partAround, Cond.selects RX1 yX1_partAround yX1_partAround, Cond.code yX1_partAround cX1_partAround 11 (some .long), Cond.methodLink RX1 43 yX1_spread, Cond.instanceMethod yX1_spread, Cond.selects RX1 yX1_spread yX1_spread, Cond.code yX1_spread cX1_spread 8 (some .long), Cond.fieldLink RX1 32 "ShadeTree$Grid" "rightmost" "J", Cond.constantLong RX1 47 (-1), Cond.fieldLink RX1 29 "ShadeTree$Grid" "leftmost" "J"]
def wsX2_bigParts_r2 : List Cond := [Cond.fieldLink RX1 19 "ShadeTree$Grid" "wide" "I", Cond.methodLink RX2 56 yX2_isBig, Cond.instanceMethod yX2_isBig, Cond.selects RX2 yX2_isBig yX2_isBig, Cond.initialized RX2, Cond.code yX2_isBig cX2_isBig 5 (some .boolean), Cond.methodLink RX2 28 yJ13_bitCount_95d88, Cond.static yJ13_bitCount_95d88, Cond.initialized RJ13, Cond.code yJ13_bitCount_95d88 cJ13_bitCount_95d88 2 (some .int), Cond.constantLong RJ13 314 (6148914691236517205), Cond.constantLong RJ13 316 (3689348814741910323), Cond.constantLong RJ13 318 (1085102592571150095), Cond.methodLink RX2 60 yX1_columnsOf, Cond.instanceMethod yX1_columnsOf, Cond.selects RX1 yX1_columnsOf yX1_columnsOf, Cond.code yX1_columnsOf cX1_columnsOf 5 (some .int), Cond.methodLink RX2 63 yX1_rowsOf, Cond.instanceMethod yX1_rowsOf, Cond.selects RX1 yX1_rowsOf yX1_rowsOf, Cond.code yX1_rowsOf cX1_rowsOf 5 (some .int), Cond.fieldLink RX1 22 "ShadeTree$Grid" "high" "I", Cond.methodLink RX1 39 yX1_row, Cond.instanceMethod yX1_row]
def wsX2_bigParts_r3 : List Cond := [Cond.selects RX1 yX1_row yX1_row, Cond.code yX1_row cX1_row 2 (some .long)]
def wsX2_bigParts : List Cond := .code yX2_bigParts cX2_bigParts 12 (some .long) :: ((wsX2_bigParts_r1 ++ (wsX2_bigParts_r2 ++ wsX2_bigParts_r3)) ++ wsX20 ++ wsX10)
def wsX2_thin_r1 : List Cond := [Cond.fieldLink RX2 9 "ShadeTree$Shades" "layers" "[J", Cond.constantLong RX2 38 (-1), Cond.methodLink RX2 44 yX2_bigParts, Cond.instanceMethod yX2_bigParts, Cond.selects RX2 yX2_bigParts yX2_bigParts, Cond.initialized RX2, Cond.code yX2_bigParts cX2_bigParts 12 (some .long), Cond.fieldLink RX2 15 "ShadeTree$Shades" "grid" "LShadeTree$Grid;", Cond.methodLink RX2 22 yX1_all, Cond.instanceMethod yX1_all, Cond.selects RX1 yX1_all yX1_all, Cond.initialized RX1, Cond.code yX1_all cX1_all 1 (some .long), Cond.fieldLink RX1 25 "ShadeTree$Grid" "all" "J", Cond.methodLink RX2 48 yX1_way, Cond.instanceMethod yX1_way, Cond.selects RX1 yX1_way yX1_way, Cond.code yX1_way cX1_way 1 (some .int), Cond.fieldLink RX1 15 "ShadeTree$Grid" "way" "I", Cond.methodLink RX2 52 yX1_partAround, Cond.instanceMethod yX1_partAround, Cond.selects RX1 yX1_partAround yX1_partAround, Cond.code yX1_partAround cX1_partAround 11 (some .long), Cond.methodLink RX1 43 yX1_spread]
def wsX2_thin_r2 : List Cond := [Cond.instanceMethod yX1_spread, Cond.selects RX1 yX1_spread yX1_spread, Cond.code yX1_spread cX1_spread 8 (some .long), Cond.fieldLink RX1 32 "ShadeTree$Grid" "rightmost" "J", Cond.constantLong RX1 47 (-1), Cond.fieldLink RX1 29 "ShadeTree$Grid" "leftmost" "J", Cond.fieldLink RX1 19 "ShadeTree$Grid" "wide" "I", Cond.methodLink RX2 56 yX2_isBig, Cond.instanceMethod yX2_isBig, Cond.selects RX2 yX2_isBig yX2_isBig, Cond.code yX2_isBig cX2_isBig 5 (some .boolean), Cond.methodLink RX2 28 yJ13_bitCount_95d88, Cond.static yJ13_bitCount_95d88, Cond.initialized RJ13, Cond.code yJ13_bitCount_95d88 cJ13_bitCount_95d88 2 (some .int), Cond.constantLong RJ13 314 (6148914691236517205), Cond.constantLong RJ13 316 (3689348814741910323), Cond.constantLong RJ13 318 (1085102592571150095), Cond.methodLink RX2 60 yX1_columnsOf, Cond.instanceMethod yX1_columnsOf, Cond.selects RX1 yX1_columnsOf yX1_columnsOf, Cond.code yX1_columnsOf cX1_columnsOf 5 (some .int), Cond.methodLink RX2 63 yX1_rowsOf, Cond.instanceMethod yX1_rowsOf]
def wsX2_thin_r3 : List Cond := [Cond.selects RX1 yX1_rowsOf yX1_rowsOf, Cond.code yX1_rowsOf cX1_rowsOf 5 (some .int), Cond.fieldLink RX1 22 "ShadeTree$Grid" "high" "I", Cond.methodLink RX1 39 yX1_row, Cond.instanceMethod yX1_row, Cond.selects RX1 yX1_row yX1_row, Cond.code yX1_row cX1_row 2 (some .long)]
def wsX2_thin : List Cond := .code yX2_thin cX2_thin 8 (some .int) :: ((wsX2_thin_r1 ++ (wsX2_thin_r2 ++ wsX2_thin_r3)) ++ wsX20 ++ wsX10)
def wsX2_copy : List Cond := .code yX2_copy cX2_copy 2 none :: ([.fieldLink RX2 9 "ShadeTree$Shades" "layers" "[J", .methodLink RX2 66 yX2_store, .instanceMethod yX2_store, .selects RX2 yX2_store yX2_store, .initialized RX2, .code yX2_store cX2_store 3 none, .methodLink RX2 70 arraycopyName, .native arraycopyName, .static arraycopyName, .initialized "java/lang/System"] ++ wsX20)
def wsX3_init : List Cond := .code yX3_init cX3_init 1 none :: ([.methodLink RX3 1 objectInit, .instanceMethod objectInit, .code objectInit ⟨#[0xb1]⟩ 1 none, .arrayClass .int, .fieldLink RX3 9 "ShadeTree$Sights" "ones" "[I", .fieldLink RX3 13 "ShadeTree$Sights" "others" "[I", .arrayClass .boolean, .fieldLink RX3 16 "ShadeTree$Sights" "joined" "[Z"] ++ wsX30)
def wsX3_size : List Cond := .code yX3_size cX3_size 1 (some .int) :: ([.fieldLink RX3 20 "ShadeTree$Sights" "size" "I"] ++ wsX30)
def wsX3_clear : List Cond := .code yX3_clear cX3_clear 1 none :: ([.fieldLink RX3 20 "ShadeTree$Sights" "size" "I"] ++ wsX30)
def wsX3_add : List Cond := .code yX3_add cX3_add 4 (some .boolean) :: ([.fieldLink RX3 20 "ShadeTree$Sights" "size" "I", .fieldLink RX3 9 "ShadeTree$Sights" "ones" "[I", .fieldLink RX3 13 "ShadeTree$Sights" "others" "[I", .fieldLink RX3 16 "ShadeTree$Sights" "joined" "[Z"] ++ wsX30)
def wsX3_hold_r1 : List Cond := [Cond.fieldLink RX3 20 "ShadeTree$Sights" "size" "I", Cond.fieldLink RX3 9 "ShadeTree$Sights" "ones" "[I", Cond.fieldLink RX3 13 "ShadeTree$Sights" "others" "[I", Cond.fieldLink RX3 16 "ShadeTree$Sights" "joined" "[Z", Cond.methodLink RX3 24 yX1_joined, Cond.instanceMethod yX1_joined, Cond.selects RX1 yX1_joined yX1_joined, Cond.initialized RX1, Cond.code yX1_joined cX1_joined 6 (some .boolean), Cond.methodLink RX1 49 yX1_hasDot, Cond.instanceMethod yX1_hasDot, Cond.selects RX1 yX1_hasDot yX1_hasDot, Cond.code yX1_hasDot cX1_hasDot 2 (some .boolean), Cond.methodLink RX1 35 yX1_size, Cond.instanceMethod yX1_size, Cond.selects RX1 yX1_size yX1_size, Cond.code yX1_size cX1_size 1 (some .int), Cond.fieldLink RX1 19 "ShadeTree$Grid" "wide" "I", Cond.fieldLink RX1 22 "ShadeTree$Grid" "high" "I", Cond.methodLink RX1 53 yX1_partAround, Cond.instanceMethod yX1_partAround, Cond.selects RX1 yX1_partAround yX1_partAround, Cond.code yX1_partAround cX1_partAround 11 (some .long), Cond.methodLink RX1 43 yX1_spread]
def wsX3_hold_r2 : List Cond := [Cond.instanceMethod yX1_spread, Cond.selects RX1 yX1_spread yX1_spread, Cond.code yX1_spread cX1_spread 8 (some .long), Cond.fieldLink RX1 32 "ShadeTree$Grid" "rightmost" "J", Cond.constantLong RX1 47 (-1), Cond.fieldLink RX1 29 "ShadeTree$Grid" "leftmost" "J"]
def wsX3_hold : List Cond := .code yX3_hold cX3_hold 6 (some .boolean) :: ((wsX3_hold_r1 ++ wsX3_hold_r2) ++ wsX30 ++ wsX10)
def wsX4_init : List Cond := .code yX4_init cX4_init 1 none :: ([.methodLink RX4 3 objectInit, .instanceMethod objectInit, .code objectInit ⟨#[0xb1]⟩ 1 none, .arrayClass .long, .fieldLink RX4 11 "ShadeTree$Slots" "kept" "[J", .arrayClass .boolean, .fieldLink RX4 15 "ShadeTree$Slots" "used" "[Z"] ++ wsX40)
def wsX4_clear : List Cond := .code yX4_clear cX4_clear 2 none :: ([.fieldLink RX4 15 "ShadeTree$Slots" "used" "[Z"] ++ wsX40)
def wsX4_has : List Cond := .code yX4_has cX4_has 2 (some .boolean) :: ([.fieldLink RX4 15 "ShadeTree$Slots" "used" "[Z"] ++ wsX40)
def wsX4_put : List Cond := .code yX4_put cX4_put 3 (some .boolean) :: ([.fieldLink RX4 15 "ShadeTree$Slots" "used" "[Z", .fieldLink RX4 11 "ShadeTree$Slots" "kept" "[J", .methodLink RX4 19 yX2_store, .instanceMethod yX2_store, .selects RX2 yX2_store yX2_store, .initialized RX2, .code yX2_store cX2_store 3 none, .fieldLink RX2 9 "ShadeTree$Shades" "layers" "[J", .methodLink RX2 70 arraycopyName, .native arraycopyName, .static arraycopyName, .initialized "java/lang/System"] ++ wsX40 ++ wsX20)
def wsX4_bringBack : List Cond := .code yX4_bringBack cX4_bringBack 3 (some .boolean) :: ([.fieldLink RX4 15 "ShadeTree$Slots" "used" "[Z", .fieldLink RX4 11 "ShadeTree$Slots" "kept" "[J", .methodLink RX4 25 yX2_load, .instanceMethod yX2_load, .selects RX2 yX2_load yX2_load, .initialized RX2, .code yX2_load cX2_load 3 none, .fieldLink RX2 9 "ShadeTree$Shades" "layers" "[J", .methodLink RX2 70 arraycopyName, .native arraycopyName, .static arraycopyName, .initialized "java/lang/System"] ++ wsX40 ++ wsX20)
def wsX5_init : List Cond := .code yX5_init cX5_init 1 none :: ([.methodLink RX5 3 objectInit, .instanceMethod objectInit, .code objectInit ⟨#[0xb1]⟩ 1 none, .arrayClass .int, .fieldLink RX5 11 "ShadeTree$Text" "letters" "[I"] ++ wsX50)
def wsX5_size : List Cond := .code yX5_size cX5_size 1 (some .int) :: ([.fieldLink RX5 15 "ShadeTree$Text" "size" "I"] ++ wsX50)
def wsX5_clear : List Cond := .code yX5_clear cX5_clear 1 none :: ([.fieldLink RX5 15 "ShadeTree$Text" "size" "I"] ++ wsX50)
def wsX5_add : List Cond := .code yX5_add cX5_add 2 (some .boolean) :: ([.fieldLink RX5 15 "ShadeTree$Text" "size" "I", .fieldLink RX5 11 "ShadeTree$Text" "letters" "[I"] ++ wsX50)
def wsX5_figure : List Cond := .code yX5_figure cX5_figure 2 (some .int) :: ([.fieldLink RX5 11 "ShadeTree$Text" "letters" "[I"] ++ wsX50)
def wsX5_wholeSize : List Cond := .code yX5_wholeSize cX5_wholeSize 1 (some .int) :: ([.methodLink RX5 27 yX5_figure, .instanceMethod yX5_figure, .selects RX5 yX5_figure yX5_figure, .initialized RX5, .code yX5_figure cX5_figure 2 (some .int), .fieldLink RX5 11 "ShadeTree$Text" "letters" "[I"] ++ wsX50)
def wsX7_isShade : List Cond := .code yX7_isShade cX7_isShade 1 (some .boolean) :: ([])
def wsX5_fits : List Cond := .code yX5_fits cX5_fits 3 (some .boolean) :: ([.methodLink RX5 27 yX5_figure, .instanceMethod yX5_figure, .selects RX5 yX5_figure yX5_figure, .initialized RX5, .code yX5_figure cX5_figure 2 (some .int), .fieldLink RX5 11 "ShadeTree$Text" "letters" "[I", .methodLink RX5 23 yX5_wholeSize, .instanceMethod yX5_wholeSize, .selects RX5 yX5_wholeSize yX5_wholeSize, .code yX5_wholeSize cX5_wholeSize 1 (some .int), .static yX7_isShade, .initialized RX7, .code yX7_isShade cX7_isShade 1 (some .boolean)] ++ wsX50)
def wsX5_firstFault : List Cond := .code yX5_firstFault cX5_firstFault 2 (some .int) :: ([.fieldLink RX5 15 "ShadeTree$Text" "size" "I", .methodLink RX5 19 yX5_fits, .instanceMethod yX5_fits, .selects RX5 yX5_fits yX5_fits, .initialized RX5, .code yX5_fits cX5_fits 3 (some .boolean), .methodLink RX5 27 yX5_figure, .instanceMethod yX5_figure, .selects RX5 yX5_figure yX5_figure, .code yX5_figure cX5_figure 2 (some .int), .fieldLink RX5 11 "ShadeTree$Text" "letters" "[I", .methodLink RX5 23 yX5_wholeSize, .instanceMethod yX5_wholeSize, .selects RX5 yX5_wholeSize yX5_wholeSize, .code yX5_wholeSize cX5_wholeSize 1 (some .int), .static yX7_isShade, .initialized RX7, .code yX7_isShade cX7_isShade 1 (some .boolean)] ++ wsX50)
def wsX6_init : List Cond := .code yX6_init cX6_init 3 none :: ([.methodLink RX6 3 objectInit, .instanceMethod objectInit, .code objectInit ⟨#[0xb1]⟩ 1 none, .arrayClass .long, .fieldLink RX6 9 "ShadeTree$Tree" "nodeParts" "[J", .arrayClass .int, .fieldLink RX6 15 "ShadeTree$Tree" "nodeLevels" "[I", .fieldLink RX6 19 "ShadeTree$Tree" "grid" "LShadeTree$Grid;", .fieldLink RX6 23 "ShadeTree$Tree" "shades" "LShadeTree$Shades;"] ++ wsX60)
def wsX6_partAt_r1 : List Cond := [Cond.fieldLink RX6 19 "ShadeTree$Tree" "grid" "LShadeTree$Grid;", Cond.fieldLink RX6 23 "ShadeTree$Tree" "shades" "LShadeTree$Shades;", Cond.methodLink RX6 27 yX2_atLeast, Cond.instanceMethod yX2_atLeast, Cond.selects RX2 yX2_atLeast yX2_atLeast, Cond.initialized RX2, Cond.code yX2_atLeast cX2_atLeast 2 (some .long), Cond.fieldLink RX2 9 "ShadeTree$Shades" "layers" "[J", Cond.methodLink RX6 33 yX1_way, Cond.instanceMethod yX1_way, Cond.selects RX1 yX1_way yX1_way, Cond.initialized RX1, Cond.code yX1_way cX1_way 1 (some .int), Cond.fieldLink RX1 15 "ShadeTree$Grid" "way" "I", Cond.methodLink RX6 39 yX1_partAround, Cond.instanceMethod yX1_partAround, Cond.selects RX1 yX1_partAround yX1_partAround, Cond.code yX1_partAround cX1_partAround 11 (some .long), Cond.methodLink RX1 43 yX1_spread, Cond.instanceMethod yX1_spread, Cond.selects RX1 yX1_spread yX1_spread, Cond.code yX1_spread cX1_spread 8 (some .long), Cond.fieldLink RX1 32 "ShadeTree$Grid" "rightmost" "J", Cond.constantLong RX1 47 (-1)]
def wsX6_partAt_r2 : List Cond := [Cond.fieldLink RX1 29 "ShadeTree$Grid" "leftmost" "J", Cond.fieldLink RX1 19 "ShadeTree$Grid" "wide" "I"]
def wsX6_partAt : List Cond := .code yX6_partAt cX6_partAt 4 (some .long) :: ((wsX6_partAt_r1 ++ wsX6_partAt_r2) ++ wsX60 ++ wsX20 ++ wsX10)
def wsX6_ofLevel : List Cond := .code yX6_ofLevel cX6_ofLevel 2 (some .long) :: ([.fieldLink RX6 23 "ShadeTree$Tree" "shades" "LShadeTree$Shades;", .constantLong RX6 43 (-1), .methodLink RX6 27 yX2_atLeast, .instanceMethod yX2_atLeast, .selects RX2 yX2_atLeast yX2_atLeast, .initialized RX2, .code yX2_atLeast cX2_atLeast 2 (some .long), .fieldLink RX2 9 "ShadeTree$Shades" "layers" "[J"] ++ wsX60 ++ wsX20)
def wsX6_nodeOf_r1 : List Cond := [Cond.fieldLink RX6 19 "ShadeTree$Tree" "grid" "LShadeTree$Grid;", Cond.fieldLink RX6 23 "ShadeTree$Tree" "shades" "LShadeTree$Shades;", Cond.methodLink RX6 45 yX1_hasDot, Cond.instanceMethod yX1_hasDot, Cond.selects RX1 yX1_hasDot yX1_hasDot, Cond.initialized RX1, Cond.code yX1_hasDot cX1_hasDot 2 (some .boolean), Cond.methodLink RX1 35 yX1_size, Cond.instanceMethod yX1_size, Cond.selects RX1 yX1_size yX1_size, Cond.code yX1_size cX1_size 1 (some .int), Cond.fieldLink RX1 19 "ShadeTree$Grid" "wide" "I", Cond.fieldLink RX1 22 "ShadeTree$Grid" "high" "I", Cond.methodLink RX6 49 yX2_of, Cond.instanceMethod yX2_of, Cond.selects RX2 yX2_of yX2_of, Cond.initialized RX2, Cond.code yX2_of cX2_of 4 (some .int), Cond.fieldLink RX2 9 "ShadeTree$Shades" "layers" "[J", Cond.methodLink RX6 53 yX6_partAt, Cond.instanceMethod yX6_partAt, Cond.selects RX6 yX6_partAt yX6_partAt, Cond.initialized RX6, Cond.code yX6_partAt cX6_partAt 4 (some .long)]
def wsX6_nodeOf_r2 : List Cond := [Cond.methodLink RX6 27 yX2_atLeast, Cond.instanceMethod yX2_atLeast, Cond.selects RX2 yX2_atLeast yX2_atLeast, Cond.code yX2_atLeast cX2_atLeast 2 (some .long), Cond.methodLink RX6 33 yX1_way, Cond.instanceMethod yX1_way, Cond.selects RX1 yX1_way yX1_way, Cond.code yX1_way cX1_way 1 (some .int), Cond.fieldLink RX1 15 "ShadeTree$Grid" "way" "I", Cond.methodLink RX6 39 yX1_partAround, Cond.instanceMethod yX1_partAround, Cond.selects RX1 yX1_partAround yX1_partAround, Cond.code yX1_partAround cX1_partAround 11 (some .long), Cond.methodLink RX1 43 yX1_spread, Cond.instanceMethod yX1_spread, Cond.selects RX1 yX1_spread yX1_spread, Cond.code yX1_spread cX1_spread 8 (some .long), Cond.fieldLink RX1 32 "ShadeTree$Grid" "rightmost" "J", Cond.constantLong RX1 47 (-1), Cond.fieldLink RX1 29 "ShadeTree$Grid" "leftmost" "J"]
def wsX6_nodeOf : List Cond := .code yX6_nodeOf cX6_nodeOf 2 (some .long) :: ((wsX6_nodeOf_r1 ++ wsX6_nodeOf_r2) ++ wsX60 ++ wsX10 ++ wsX20)
def wsX6_head : List Cond := .code yX6_head cX6_head 6 (some .int) :: ([.methodLink RX6 57 yX6_ofLevel, .instanceMethod yX6_ofLevel, .selects RX6 yX6_ofLevel yX6_ofLevel, .initialized RX6, .code yX6_ofLevel cX6_ofLevel 2 (some .long), .fieldLink RX6 23 "ShadeTree$Tree" "shades" "LShadeTree$Shades;", .constantLong RX6 43 (-1), .methodLink RX6 27 yX2_atLeast, .instanceMethod yX2_atLeast, .selects RX2 yX2_atLeast yX2_atLeast, .initialized RX2, .code yX2_atLeast cX2_atLeast 2 (some .long), .fieldLink RX2 9 "ShadeTree$Shades" "layers" "[J", .methodLink RX6 60 yJ13_bitCount_95d88, .static yJ13_bitCount_95d88, .initialized RJ13, .code yJ13_bitCount_95d88 cJ13_bitCount_95d88 2 (some .int), .constantLong RJ13 314 (6148914691236517205), .constantLong RJ13 316 (3689348814741910323), .constantLong RJ13 318 (1085102592571150095)] ++ wsX60 ++ wsX20)
def wsX6_parentLevel_r1 : List Cond := [Cond.methodLink RX6 53 yX6_partAt, Cond.instanceMethod yX6_partAt, Cond.selects RX6 yX6_partAt yX6_partAt, Cond.initialized RX6, Cond.code yX6_partAt cX6_partAt 4 (some .long), Cond.fieldLink RX6 19 "ShadeTree$Tree" "grid" "LShadeTree$Grid;", Cond.fieldLink RX6 23 "ShadeTree$Tree" "shades" "LShadeTree$Shades;", Cond.methodLink RX6 27 yX2_atLeast, Cond.instanceMethod yX2_atLeast, Cond.selects RX2 yX2_atLeast yX2_atLeast, Cond.initialized RX2, Cond.code yX2_atLeast cX2_atLeast 2 (some .long), Cond.fieldLink RX2 9 "ShadeTree$Shades" "layers" "[J", Cond.methodLink RX6 33 yX1_way, Cond.instanceMethod yX1_way, Cond.selects RX1 yX1_way yX1_way, Cond.initialized RX1, Cond.code yX1_way cX1_way 1 (some .int), Cond.fieldLink RX1 15 "ShadeTree$Grid" "way" "I", Cond.methodLink RX6 39 yX1_partAround, Cond.instanceMethod yX1_partAround, Cond.selects RX1 yX1_partAround yX1_partAround, Cond.code yX1_partAround cX1_partAround 11 (some .long), Cond.methodLink RX1 43 yX1_spread]
def wsX6_parentLevel_r2 : List Cond := [Cond.instanceMethod yX1_spread, Cond.selects RX1 yX1_spread yX1_spread, Cond.code yX1_spread cX1_spread 8 (some .long), Cond.fieldLink RX1 32 "ShadeTree$Grid" "rightmost" "J", Cond.constantLong RX1 47 (-1), Cond.fieldLink RX1 29 "ShadeTree$Grid" "leftmost" "J", Cond.fieldLink RX1 19 "ShadeTree$Grid" "wide" "I"]
def wsX6_parentLevel : List Cond := .code yX6_parentLevel cX6_parentLevel 5 (some .int) :: ((wsX6_parentLevel_r1 ++ wsX6_parentLevel_r2) ++ wsX60 ++ wsX20 ++ wsX10)
def wsX6_parentHead_r1 : List Cond := [Cond.methodLink RX6 66 yX6_parentLevel, Cond.instanceMethod yX6_parentLevel, Cond.selects RX6 yX6_parentLevel yX6_parentLevel, Cond.initialized RX6, Cond.code yX6_parentLevel cX6_parentLevel 5 (some .int), Cond.methodLink RX6 53 yX6_partAt, Cond.instanceMethod yX6_partAt, Cond.selects RX6 yX6_partAt yX6_partAt, Cond.code yX6_partAt cX6_partAt 4 (some .long), Cond.fieldLink RX6 19 "ShadeTree$Tree" "grid" "LShadeTree$Grid;", Cond.fieldLink RX6 23 "ShadeTree$Tree" "shades" "LShadeTree$Shades;", Cond.methodLink RX6 27 yX2_atLeast, Cond.instanceMethod yX2_atLeast, Cond.selects RX2 yX2_atLeast yX2_atLeast, Cond.initialized RX2, Cond.code yX2_atLeast cX2_atLeast 2 (some .long), Cond.fieldLink RX2 9 "ShadeTree$Shades" "layers" "[J", Cond.methodLink RX6 33 yX1_way, Cond.instanceMethod yX1_way, Cond.selects RX1 yX1_way yX1_way, Cond.initialized RX1, Cond.code yX1_way cX1_way 1 (some .int), Cond.fieldLink RX1 15 "ShadeTree$Grid" "way" "I", Cond.methodLink RX6 39 yX1_partAround]
def wsX6_parentHead_r2 : List Cond := [Cond.instanceMethod yX1_partAround, Cond.selects RX1 yX1_partAround yX1_partAround, Cond.code yX1_partAround cX1_partAround 11 (some .long), Cond.methodLink RX1 43 yX1_spread, Cond.instanceMethod yX1_spread, Cond.selects RX1 yX1_spread yX1_spread, Cond.code yX1_spread cX1_spread 8 (some .long), Cond.fieldLink RX1 32 "ShadeTree$Grid" "rightmost" "J", Cond.constantLong RX1 47 (-1), Cond.fieldLink RX1 29 "ShadeTree$Grid" "leftmost" "J", Cond.fieldLink RX1 19 "ShadeTree$Grid" "wide" "I", Cond.methodLink RX6 70 yX6_head, Cond.instanceMethod yX6_head, Cond.selects RX6 yX6_head yX6_head, Cond.code yX6_head cX6_head 6 (some .int), Cond.methodLink RX6 57 yX6_ofLevel, Cond.instanceMethod yX6_ofLevel, Cond.selects RX6 yX6_ofLevel yX6_ofLevel, Cond.code yX6_ofLevel cX6_ofLevel 2 (some .long), Cond.constantLong RX6 43 (-1), Cond.methodLink RX6 60 yJ13_bitCount_95d88, Cond.static yJ13_bitCount_95d88, Cond.initialized RJ13, Cond.code yJ13_bitCount_95d88 cJ13_bitCount_95d88 2 (some .int)]
def wsX6_parentHead_r3 : List Cond := [Cond.constantLong RJ13 314 (6148914691236517205), Cond.constantLong RJ13 316 (3689348814741910323), Cond.constantLong RJ13 318 (1085102592571150095)]
def wsX6_parentHead : List Cond := .code yX6_parentHead cX6_parentHead 5 (some .int) :: ((wsX6_parentHead_r1 ++ (wsX6_parentHead_r2 ++ wsX6_parentHead_r3)) ++ wsX60 ++ wsX20 ++ wsX10)
def wsX6_countChildren_r1 : List Cond := [Cond.fieldLink RX6 19 "ShadeTree$Tree" "grid" "LShadeTree$Grid;", Cond.fieldLink RX6 23 "ShadeTree$Tree" "shades" "LShadeTree$Shades;", Cond.methodLink RX6 27 yX2_atLeast, Cond.instanceMethod yX2_atLeast, Cond.selects RX2 yX2_atLeast yX2_atLeast, Cond.initialized RX2, Cond.code yX2_atLeast cX2_atLeast 2 (some .long), Cond.fieldLink RX2 9 "ShadeTree$Shades" "layers" "[J", Cond.methodLink RX6 33 yX1_way, Cond.instanceMethod yX1_way, Cond.selects RX1 yX1_way yX1_way, Cond.initialized RX1, Cond.code yX1_way cX1_way 1 (some .int), Cond.fieldLink RX1 15 "ShadeTree$Grid" "way" "I", Cond.methodLink RX6 73 yX1_countParts, Cond.instanceMethod yX1_countParts, Cond.selects RX1 yX1_countParts yX1_countParts, Cond.code yX1_countParts cX1_countParts 7 (some .int), Cond.constantLong RX1 47 (-1), Cond.methodLink RX1 53 yX1_partAround, Cond.instanceMethod yX1_partAround, Cond.selects RX1 yX1_partAround yX1_partAround, Cond.code yX1_partAround cX1_partAround 11 (some .long), Cond.methodLink RX1 43 yX1_spread]
def wsX6_countChildren_r2 : List Cond := [Cond.instanceMethod yX1_spread, Cond.selects RX1 yX1_spread yX1_spread, Cond.code yX1_spread cX1_spread 8 (some .long), Cond.fieldLink RX1 32 "ShadeTree$Grid" "rightmost" "J", Cond.fieldLink RX1 29 "ShadeTree$Grid" "leftmost" "J", Cond.fieldLink RX1 19 "ShadeTree$Grid" "wide" "I"]
def wsX6_countChildren : List Cond := .code yX6_countChildren cX6_countChildren 4 (some .int) :: ((wsX6_countChildren_r1 ++ wsX6_countChildren_r2) ++ wsX60 ++ wsX20 ++ wsX10)
def wsX6_depth_r1 : List Cond := [Cond.methodLink RX6 53 yX6_partAt, Cond.instanceMethod yX6_partAt, Cond.selects RX6 yX6_partAt yX6_partAt, Cond.initialized RX6, Cond.code yX6_partAt cX6_partAt 4 (some .long), Cond.fieldLink RX6 19 "ShadeTree$Tree" "grid" "LShadeTree$Grid;", Cond.fieldLink RX6 23 "ShadeTree$Tree" "shades" "LShadeTree$Shades;", Cond.methodLink RX6 27 yX2_atLeast, Cond.instanceMethod yX2_atLeast, Cond.selects RX2 yX2_atLeast yX2_atLeast, Cond.initialized RX2, Cond.code yX2_atLeast cX2_atLeast 2 (some .long), Cond.fieldLink RX2 9 "ShadeTree$Shades" "layers" "[J", Cond.methodLink RX6 33 yX1_way, Cond.instanceMethod yX1_way, Cond.selects RX1 yX1_way yX1_way, Cond.initialized RX1, Cond.code yX1_way cX1_way 1 (some .int), Cond.fieldLink RX1 15 "ShadeTree$Grid" "way" "I", Cond.methodLink RX6 39 yX1_partAround, Cond.instanceMethod yX1_partAround, Cond.selects RX1 yX1_partAround yX1_partAround, Cond.code yX1_partAround cX1_partAround 11 (some .long), Cond.methodLink RX1 43 yX1_spread]
def wsX6_depth_r2 : List Cond := [Cond.instanceMethod yX1_spread, Cond.selects RX1 yX1_spread yX1_spread, Cond.code yX1_spread cX1_spread 8 (some .long), Cond.fieldLink RX1 32 "ShadeTree$Grid" "rightmost" "J", Cond.constantLong RX1 47 (-1), Cond.fieldLink RX1 29 "ShadeTree$Grid" "leftmost" "J", Cond.fieldLink RX1 19 "ShadeTree$Grid" "wide" "I"]
def wsX6_depth : List Cond := .code yX6_depth cX6_depth 10 (some .int) :: ((wsX6_depth_r1 ++ wsX6_depth_r2) ++ wsX60 ++ wsX20 ++ wsX10)
def wsX6_rise_r1 : List Cond := [Cond.fieldLink RX6 23 "ShadeTree$Tree" "shades" "LShadeTree$Shades;", Cond.methodLink RX6 76 yX2_brightest, Cond.instanceMethod yX2_brightest, Cond.selects RX2 yX2_brightest yX2_brightest, Cond.initialized RX2, Cond.code yX2_brightest cX2_brightest 4 (some .int), Cond.methodLink RX2 34 yX2_atLeast, Cond.instanceMethod yX2_atLeast, Cond.selects RX2 yX2_atLeast yX2_atLeast, Cond.code yX2_atLeast cX2_atLeast 2 (some .long), Cond.fieldLink RX2 9 "ShadeTree$Shades" "layers" "[J", Cond.methodLink RX6 27 yX2_atLeast, Cond.methodLink RX6 53 yX6_partAt, Cond.instanceMethod yX6_partAt, Cond.selects RX6 yX6_partAt yX6_partAt, Cond.initialized RX6, Cond.code yX6_partAt cX6_partAt 4 (some .long), Cond.fieldLink RX6 19 "ShadeTree$Tree" "grid" "LShadeTree$Grid;", Cond.methodLink RX6 33 yX1_way, Cond.instanceMethod yX1_way, Cond.selects RX1 yX1_way yX1_way, Cond.initialized RX1, Cond.code yX1_way cX1_way 1 (some .int), Cond.fieldLink RX1 15 "ShadeTree$Grid" "way" "I"]
def wsX6_rise_r2 : List Cond := [Cond.methodLink RX6 39 yX1_partAround, Cond.instanceMethod yX1_partAround, Cond.selects RX1 yX1_partAround yX1_partAround, Cond.code yX1_partAround cX1_partAround 11 (some .long), Cond.methodLink RX1 43 yX1_spread, Cond.instanceMethod yX1_spread, Cond.selects RX1 yX1_spread yX1_spread, Cond.code yX1_spread cX1_spread 8 (some .long), Cond.fieldLink RX1 32 "ShadeTree$Grid" "rightmost" "J", Cond.constantLong RX1 47 (-1), Cond.fieldLink RX1 29 "ShadeTree$Grid" "leftmost" "J", Cond.fieldLink RX1 19 "ShadeTree$Grid" "wide" "I"]
def wsX6_rise : List Cond := .code yX6_rise cX6_rise 7 (some .int) :: ((wsX6_rise_r1 ++ wsX6_rise_r2) ++ wsX60 ++ wsX20 ++ wsX10)
def wsX6_gain_r1 : List Cond := [Cond.methodLink RX6 79 Lib.Math.max.name, Cond.static Lib.Math.max.name, Cond.initialized "java/lang/Math", Cond.code Lib.Math.max.name Lib.Math.max.code 2 (some .int), Cond.constantLong RX6 43 (-1), Cond.methodLink RX6 53 yX6_partAt, Cond.instanceMethod yX6_partAt, Cond.selects RX6 yX6_partAt yX6_partAt, Cond.initialized RX6, Cond.code yX6_partAt cX6_partAt 4 (some .long), Cond.fieldLink RX6 19 "ShadeTree$Tree" "grid" "LShadeTree$Grid;", Cond.fieldLink RX6 23 "ShadeTree$Tree" "shades" "LShadeTree$Shades;", Cond.methodLink RX6 27 yX2_atLeast, Cond.instanceMethod yX2_atLeast, Cond.selects RX2 yX2_atLeast yX2_atLeast, Cond.initialized RX2, Cond.code yX2_atLeast cX2_atLeast 2 (some .long), Cond.fieldLink RX2 9 "ShadeTree$Shades" "layers" "[J", Cond.methodLink RX6 33 yX1_way, Cond.instanceMethod yX1_way, Cond.selects RX1 yX1_way yX1_way, Cond.initialized RX1, Cond.code yX1_way cX1_way 1 (some .int), Cond.fieldLink RX1 15 "ShadeTree$Grid" "way" "I"]
def wsX6_gain_r2 : List Cond := [Cond.methodLink RX6 39 yX1_partAround, Cond.instanceMethod yX1_partAround, Cond.selects RX1 yX1_partAround yX1_partAround, Cond.code yX1_partAround cX1_partAround 11 (some .long), Cond.methodLink RX1 43 yX1_spread, Cond.instanceMethod yX1_spread, Cond.selects RX1 yX1_spread yX1_spread, Cond.code yX1_spread cX1_spread 8 (some .long), Cond.fieldLink RX1 32 "ShadeTree$Grid" "rightmost" "J", Cond.constantLong RX1 47 (-1), Cond.fieldLink RX1 29 "ShadeTree$Grid" "leftmost" "J", Cond.fieldLink RX1 19 "ShadeTree$Grid" "wide" "I", Cond.methodLink RX6 60 yJ13_bitCount_95d88, Cond.static yJ13_bitCount_95d88, Cond.initialized RJ13, Cond.code yJ13_bitCount_95d88 cJ13_bitCount_95d88 2 (some .int), Cond.constantLong RJ13 314 (6148914691236517205), Cond.constantLong RJ13 316 (3689348814741910323), Cond.constantLong RJ13 318 (1085102592571150095)]
def wsX6_gain : List Cond := .code yX6_gain cX6_gain 5 (some .int) :: ((wsX6_gain_r1 ++ wsX6_gain_r2) ++ wsX60 ++ wsX20 ++ wsX10)
def wsX6_darkest : List Cond := .code yX6_darkest cX6_darkest 4 (some .int) :: ([.fieldLink RX6 23 "ShadeTree$Tree" "shades" "LShadeTree$Shades;", .constantLong RX6 43 (-1), .methodLink RX6 27 yX2_atLeast, .instanceMethod yX2_atLeast, .selects RX2 yX2_atLeast yX2_atLeast, .initialized RX2, .code yX2_atLeast cX2_atLeast 2 (some .long), .fieldLink RX2 9 "ShadeTree$Shades" "layers" "[J"] ++ wsX60 ++ wsX20)
def wsX6_isSteady_r1 : List Cond := [Cond.fieldLink RX6 23 "ShadeTree$Tree" "shades" "LShadeTree$Shades;", Cond.constantLong RX6 43 (-1), Cond.methodLink RX6 85 yX6_gain, Cond.instanceMethod yX6_gain, Cond.selects RX6 yX6_gain yX6_gain, Cond.initialized RX6, Cond.code yX6_gain cX6_gain 5 (some .int), Cond.methodLink RX6 79 Lib.Math.max.name, Cond.static Lib.Math.max.name, Cond.initialized "java/lang/Math", Cond.code Lib.Math.max.name Lib.Math.max.code 2 (some .int), Cond.methodLink RX6 53 yX6_partAt, Cond.instanceMethod yX6_partAt, Cond.selects RX6 yX6_partAt yX6_partAt, Cond.code yX6_partAt cX6_partAt 4 (some .long), Cond.fieldLink RX6 19 "ShadeTree$Tree" "grid" "LShadeTree$Grid;", Cond.methodLink RX6 27 yX2_atLeast, Cond.instanceMethod yX2_atLeast, Cond.selects RX2 yX2_atLeast yX2_atLeast, Cond.initialized RX2, Cond.code yX2_atLeast cX2_atLeast 2 (some .long), Cond.fieldLink RX2 9 "ShadeTree$Shades" "layers" "[J", Cond.methodLink RX6 33 yX1_way, Cond.instanceMethod yX1_way]
def wsX6_isSteady_r2 : List Cond := [Cond.selects RX1 yX1_way yX1_way, Cond.initialized RX1, Cond.code yX1_way cX1_way 1 (some .int), Cond.fieldLink RX1 15 "ShadeTree$Grid" "way" "I", Cond.methodLink RX6 39 yX1_partAround, Cond.instanceMethod yX1_partAround, Cond.selects RX1 yX1_partAround yX1_partAround, Cond.code yX1_partAround cX1_partAround 11 (some .long), Cond.methodLink RX1 43 yX1_spread, Cond.instanceMethod yX1_spread, Cond.selects RX1 yX1_spread yX1_spread, Cond.code yX1_spread cX1_spread 8 (some .long), Cond.fieldLink RX1 32 "ShadeTree$Grid" "rightmost" "J", Cond.constantLong RX1 47 (-1), Cond.fieldLink RX1 29 "ShadeTree$Grid" "leftmost" "J", Cond.fieldLink RX1 19 "ShadeTree$Grid" "wide" "I", Cond.methodLink RX6 60 yJ13_bitCount_95d88, Cond.static yJ13_bitCount_95d88, Cond.initialized RJ13, Cond.code yJ13_bitCount_95d88 cJ13_bitCount_95d88 2 (some .int), Cond.constantLong RJ13 314 (6148914691236517205), Cond.constantLong RJ13 316 (3689348814741910323), Cond.constantLong RJ13 318 (1085102592571150095), Cond.methodLink RX6 66 yX6_parentLevel]
def wsX6_isSteady_r3 : List Cond := [Cond.instanceMethod yX6_parentLevel, Cond.selects RX6 yX6_parentLevel yX6_parentLevel, Cond.code yX6_parentLevel cX6_parentLevel 5 (some .int), Cond.methodLink RX6 89 yX6_darkest, Cond.instanceMethod yX6_darkest, Cond.selects RX6 yX6_darkest yX6_darkest, Cond.code yX6_darkest cX6_darkest 4 (some .int)]
def wsX6_isSteady : List Cond := .code yX6_isSteady cX6_isSteady 13 (some .boolean) :: ((wsX6_isSteady_r1 ++ (wsX6_isSteady_r2 ++ wsX6_isSteady_r3)) ++ wsX60 ++ wsX20 ++ wsX10)
def wsX6_gather_r1 : List Cond := [Cond.fieldLink RX6 95 "ShadeTree$Tree" "size" "I", Cond.fieldLink RX6 9 "ShadeTree$Tree" "nodeParts" "[J", Cond.fieldLink RX6 15 "ShadeTree$Tree" "nodeLevels" "[I", Cond.constantLong RX6 43 (-1), Cond.methodLink RX6 57 yX6_ofLevel, Cond.instanceMethod yX6_ofLevel, Cond.selects RX6 yX6_ofLevel yX6_ofLevel, Cond.initialized RX6, Cond.code yX6_ofLevel cX6_ofLevel 2 (some .long), Cond.fieldLink RX6 23 "ShadeTree$Tree" "shades" "LShadeTree$Shades;", Cond.methodLink RX6 27 yX2_atLeast, Cond.instanceMethod yX2_atLeast, Cond.selects RX2 yX2_atLeast yX2_atLeast, Cond.initialized RX2, Cond.code yX2_atLeast cX2_atLeast 2 (some .long), Cond.fieldLink RX2 9 "ShadeTree$Shades" "layers" "[J", Cond.methodLink RX6 53 yX6_partAt, Cond.instanceMethod yX6_partAt, Cond.selects RX6 yX6_partAt yX6_partAt, Cond.code yX6_partAt cX6_partAt 4 (some .long), Cond.fieldLink RX6 19 "ShadeTree$Tree" "grid" "LShadeTree$Grid;", Cond.methodLink RX6 33 yX1_way, Cond.instanceMethod yX1_way, Cond.selects RX1 yX1_way yX1_way]
def wsX6_gather_r2 : List Cond := [Cond.initialized RX1, Cond.code yX1_way cX1_way 1 (some .int), Cond.fieldLink RX1 15 "ShadeTree$Grid" "way" "I", Cond.methodLink RX6 39 yX1_partAround, Cond.instanceMethod yX1_partAround, Cond.selects RX1 yX1_partAround yX1_partAround, Cond.code yX1_partAround cX1_partAround 11 (some .long), Cond.methodLink RX1 43 yX1_spread, Cond.instanceMethod yX1_spread, Cond.selects RX1 yX1_spread yX1_spread, Cond.code yX1_spread cX1_spread 8 (some .long), Cond.fieldLink RX1 32 "ShadeTree$Grid" "rightmost" "J", Cond.constantLong RX1 47 (-1), Cond.fieldLink RX1 29 "ShadeTree$Grid" "leftmost" "J", Cond.fieldLink RX1 19 "ShadeTree$Grid" "wide" "I"]
def wsX6_gather : List Cond := .code yX6_gather cX6_gather 6 none :: ((wsX6_gather_r1 ++ wsX6_gather_r2) ++ wsX60 ++ wsX20 ++ wsX10)
def wsX6_countNodes_r1 : List Cond := [Cond.fieldLink RX6 95 "ShadeTree$Tree" "size" "I", Cond.methodLink RX6 92 yX6_gather, Cond.instanceMethod yX6_gather, Cond.selects RX6 yX6_gather yX6_gather, Cond.initialized RX6, Cond.code yX6_gather cX6_gather 6 none, Cond.fieldLink RX6 9 "ShadeTree$Tree" "nodeParts" "[J", Cond.fieldLink RX6 15 "ShadeTree$Tree" "nodeLevels" "[I", Cond.constantLong RX6 43 (-1), Cond.methodLink RX6 57 yX6_ofLevel, Cond.instanceMethod yX6_ofLevel, Cond.selects RX6 yX6_ofLevel yX6_ofLevel, Cond.code yX6_ofLevel cX6_ofLevel 2 (some .long), Cond.fieldLink RX6 23 "ShadeTree$Tree" "shades" "LShadeTree$Shades;", Cond.methodLink RX6 27 yX2_atLeast, Cond.instanceMethod yX2_atLeast, Cond.selects RX2 yX2_atLeast yX2_atLeast, Cond.initialized RX2, Cond.code yX2_atLeast cX2_atLeast 2 (some .long), Cond.fieldLink RX2 9 "ShadeTree$Shades" "layers" "[J", Cond.methodLink RX6 53 yX6_partAt, Cond.instanceMethod yX6_partAt, Cond.selects RX6 yX6_partAt yX6_partAt, Cond.code yX6_partAt cX6_partAt 4 (some .long)]
def wsX6_countNodes_r2 : List Cond := [Cond.fieldLink RX6 19 "ShadeTree$Tree" "grid" "LShadeTree$Grid;", Cond.methodLink RX6 33 yX1_way, Cond.instanceMethod yX1_way, Cond.selects RX1 yX1_way yX1_way, Cond.initialized RX1, Cond.code yX1_way cX1_way 1 (some .int), Cond.fieldLink RX1 15 "ShadeTree$Grid" "way" "I", Cond.methodLink RX6 39 yX1_partAround, Cond.instanceMethod yX1_partAround, Cond.selects RX1 yX1_partAround yX1_partAround, Cond.code yX1_partAround cX1_partAround 11 (some .long), Cond.methodLink RX1 43 yX1_spread, Cond.instanceMethod yX1_spread, Cond.selects RX1 yX1_spread yX1_spread, Cond.code yX1_spread cX1_spread 8 (some .long), Cond.fieldLink RX1 32 "ShadeTree$Grid" "rightmost" "J", Cond.constantLong RX1 47 (-1), Cond.fieldLink RX1 29 "ShadeTree$Grid" "leftmost" "J", Cond.fieldLink RX1 19 "ShadeTree$Grid" "wide" "I"]
def wsX6_countNodes : List Cond := .code yX6_countNodes cX6_countNodes 1 (some .int) :: ((wsX6_countNodes_r1 ++ wsX6_countNodes_r2) ++ wsX60 ++ wsX20 ++ wsX10)
def wsX6_countLeaves_r1 : List Cond := [Cond.fieldLink RX6 95 "ShadeTree$Tree" "size" "I", Cond.fieldLink RX6 9 "ShadeTree$Tree" "nodeParts" "[J", Cond.fieldLink RX6 23 "ShadeTree$Tree" "shades" "LShadeTree$Shades;", Cond.fieldLink RX6 15 "ShadeTree$Tree" "nodeLevels" "[I", Cond.methodLink RX6 92 yX6_gather, Cond.instanceMethod yX6_gather, Cond.selects RX6 yX6_gather yX6_gather, Cond.initialized RX6, Cond.code yX6_gather cX6_gather 6 none, Cond.constantLong RX6 43 (-1), Cond.methodLink RX6 57 yX6_ofLevel, Cond.instanceMethod yX6_ofLevel, Cond.selects RX6 yX6_ofLevel yX6_ofLevel, Cond.code yX6_ofLevel cX6_ofLevel 2 (some .long), Cond.methodLink RX6 27 yX2_atLeast, Cond.instanceMethod yX2_atLeast, Cond.selects RX2 yX2_atLeast yX2_atLeast, Cond.initialized RX2, Cond.code yX2_atLeast cX2_atLeast 2 (some .long), Cond.fieldLink RX2 9 "ShadeTree$Shades" "layers" "[J", Cond.methodLink RX6 53 yX6_partAt, Cond.instanceMethod yX6_partAt, Cond.selects RX6 yX6_partAt yX6_partAt, Cond.code yX6_partAt cX6_partAt 4 (some .long)]
def wsX6_countLeaves_r2 : List Cond := [Cond.fieldLink RX6 19 "ShadeTree$Tree" "grid" "LShadeTree$Grid;", Cond.methodLink RX6 33 yX1_way, Cond.instanceMethod yX1_way, Cond.selects RX1 yX1_way yX1_way, Cond.initialized RX1, Cond.code yX1_way cX1_way 1 (some .int), Cond.fieldLink RX1 15 "ShadeTree$Grid" "way" "I", Cond.methodLink RX6 39 yX1_partAround, Cond.instanceMethod yX1_partAround, Cond.selects RX1 yX1_partAround yX1_partAround, Cond.code yX1_partAround cX1_partAround 11 (some .long), Cond.methodLink RX1 43 yX1_spread, Cond.instanceMethod yX1_spread, Cond.selects RX1 yX1_spread yX1_spread, Cond.code yX1_spread cX1_spread 8 (some .long), Cond.fieldLink RX1 32 "ShadeTree$Grid" "rightmost" "J", Cond.constantLong RX1 47 (-1), Cond.fieldLink RX1 29 "ShadeTree$Grid" "leftmost" "J", Cond.fieldLink RX1 19 "ShadeTree$Grid" "wide" "I"]
def wsX6_countLeaves : List Cond := .code yX6_countLeaves cX6_countLeaves 3 (some .int) :: ((wsX6_countLeaves_r1 ++ wsX6_countLeaves_r2) ++ wsX60 ++ wsX20 ++ wsX10)
def wsX6_greatestDepth_r1 : List Cond := [Cond.fieldLink RX6 95 "ShadeTree$Tree" "size" "I", Cond.fieldLink RX6 9 "ShadeTree$Tree" "nodeParts" "[J", Cond.fieldLink RX6 15 "ShadeTree$Tree" "nodeLevels" "[I", Cond.methodLink RX6 79 Lib.Math.max.name, Cond.static Lib.Math.max.name, Cond.initialized "java/lang/Math", Cond.code Lib.Math.max.name Lib.Math.max.code 2 (some .int), Cond.methodLink RX6 92 yX6_gather, Cond.instanceMethod yX6_gather, Cond.selects RX6 yX6_gather yX6_gather, Cond.initialized RX6, Cond.code yX6_gather cX6_gather 6 none, Cond.constantLong RX6 43 (-1), Cond.methodLink RX6 57 yX6_ofLevel, Cond.instanceMethod yX6_ofLevel, Cond.selects RX6 yX6_ofLevel yX6_ofLevel, Cond.code yX6_ofLevel cX6_ofLevel 2 (some .long), Cond.fieldLink RX6 23 "ShadeTree$Tree" "shades" "LShadeTree$Shades;", Cond.methodLink RX6 27 yX2_atLeast, Cond.instanceMethod yX2_atLeast, Cond.selects RX2 yX2_atLeast yX2_atLeast, Cond.initialized RX2, Cond.code yX2_atLeast cX2_atLeast 2 (some .long), Cond.fieldLink RX2 9 "ShadeTree$Shades" "layers" "[J"]
def wsX6_greatestDepth_r2 : List Cond := [Cond.methodLink RX6 53 yX6_partAt, Cond.instanceMethod yX6_partAt, Cond.selects RX6 yX6_partAt yX6_partAt, Cond.code yX6_partAt cX6_partAt 4 (some .long), Cond.fieldLink RX6 19 "ShadeTree$Tree" "grid" "LShadeTree$Grid;", Cond.methodLink RX6 33 yX1_way, Cond.instanceMethod yX1_way, Cond.selects RX1 yX1_way yX1_way, Cond.initialized RX1, Cond.code yX1_way cX1_way 1 (some .int), Cond.fieldLink RX1 15 "ShadeTree$Grid" "way" "I", Cond.methodLink RX6 39 yX1_partAround, Cond.instanceMethod yX1_partAround, Cond.selects RX1 yX1_partAround yX1_partAround, Cond.code yX1_partAround cX1_partAround 11 (some .long), Cond.methodLink RX1 43 yX1_spread, Cond.instanceMethod yX1_spread, Cond.selects RX1 yX1_spread yX1_spread, Cond.code yX1_spread cX1_spread 8 (some .long), Cond.fieldLink RX1 32 "ShadeTree$Grid" "rightmost" "J", Cond.constantLong RX1 47 (-1), Cond.fieldLink RX1 29 "ShadeTree$Grid" "leftmost" "J", Cond.fieldLink RX1 19 "ShadeTree$Grid" "wide" "I", Cond.methodLink RX6 99 yX6_depth]
def wsX6_greatestDepth_r3 : List Cond := [Cond.instanceMethod yX6_depth, Cond.selects RX6 yX6_depth yX6_depth, Cond.code yX6_depth cX6_depth 10 (some .int)]
def wsX6_greatestDepth : List Cond := .code yX6_greatestDepth cX6_greatestDepth 3 (some .int) :: ((wsX6_greatestDepth_r1 ++ (wsX6_greatestDepth_r2 ++ wsX6_greatestDepth_r3)) ++ wsX60 ++ wsX20 ++ wsX10)
def wsX7_init_r1 : List Cond := [Cond.methodLink RX7 1 objectInit, Cond.instanceMethod objectInit, Cond.code objectInit ⟨#[0xb1]⟩ 1 none, Cond.classLink RX7 7 RX5, Cond.instantiable RX5 2, Cond.initialized RX5, Cond.fieldLink RX7 10 "ShadeTree" "text" "LShadeTree$Text;", Cond.classLink RX7 16 RX1, Cond.instantiable RX1 6, Cond.initialized RX1, Cond.fieldLink RX7 19 "ShadeTree" "grid" "LShadeTree$Grid;", Cond.classLink RX7 23 RX2, Cond.instantiable RX2 2, Cond.initialized RX2, Cond.fieldLink RX7 28 "ShadeTree" "now" "LShadeTree$Shades;", Cond.classLink RX7 32 RX6, Cond.instantiable RX6 5, Cond.initialized RX6, Cond.fieldLink RX7 37 "ShadeTree" "tree" "LShadeTree$Tree;", Cond.fieldLink RX7 41 "ShadeTree" "trial" "LShadeTree$Shades;", Cond.fieldLink RX7 44 "ShadeTree" "trialTree" "LShadeTree$Tree;", Cond.classLink RX7 47 RX0, Cond.instantiable RX0 2, Cond.initialized RX0]
def wsX7_init_r2 : List Cond := [Cond.fieldLink RX7 50 "ShadeTree" "doings" "LShadeTree$Doings;", Cond.classLink RX7 54 RX4, Cond.instantiable RX4 2, Cond.initialized RX4, Cond.fieldLink RX7 57 "ShadeTree" "slots" "LShadeTree$Slots;", Cond.classLink RX7 61 RX3, Cond.instantiable RX3 4, Cond.initialized RX3, Cond.fieldLink RX7 64 "ShadeTree" "sights" "LShadeTree$Sights;", Cond.fieldLink RX7 68 "ShadeTree" "seedNow" "J", Cond.instanceMethod yX5_init, Cond.code yX5_init cX5_init 1 none, Cond.methodLink RX5 3 objectInit, Cond.arrayClass .int, Cond.fieldLink RX5 11 "ShadeTree$Text" "letters" "[I", Cond.methodLink RX7 18 yX1_init, Cond.instanceMethod yX1_init, Cond.code yX1_init cX1_init 1 none, Cond.methodLink RX1 3 objectInit, Cond.methodLink RX1 9 yX1_lay, Cond.instanceMethod yX1_lay, Cond.selects RX1 yX1_lay yX1_lay, Cond.code yX1_lay cX1_lay 5 none, Cond.fieldLink RX1 15 "ShadeTree$Grid" "way" "I"]
def wsX7_init_r3 : List Cond := [Cond.fieldLink RX1 19 "ShadeTree$Grid" "wide" "I", Cond.fieldLink RX1 22 "ShadeTree$Grid" "high" "I", Cond.fieldLink RX1 25 "ShadeTree$Grid" "all" "J", Cond.fieldLink RX1 29 "ShadeTree$Grid" "leftmost" "J", Cond.fieldLink RX1 32 "ShadeTree$Grid" "rightmost" "J", Cond.methodLink RX7 25 yX2_init, Cond.instanceMethod yX2_init, Cond.code yX2_init cX2_init 2 none, Cond.methodLink RX2 3 objectInit, Cond.arrayClass .long, Cond.fieldLink RX2 9 "ShadeTree$Shades" "layers" "[J", Cond.fieldLink RX2 15 "ShadeTree$Shades" "grid" "LShadeTree$Grid;", Cond.methodLink RX2 19 yX2_darken, Cond.instanceMethod yX2_darken, Cond.selects RX2 yX2_darken yX2_darken, Cond.code yX2_darken cX2_darken 2 none, Cond.methodLink RX2 22 yX1_all, Cond.instanceMethod yX1_all, Cond.selects RX1 yX1_all yX1_all, Cond.code yX1_all cX1_all 1 (some .long), Cond.methodLink RX7 34 yX6_init, Cond.instanceMethod yX6_init, Cond.code yX6_init cX6_init 3 none, Cond.methodLink RX6 3 objectInit]
def wsX7_init_r4 : List Cond := [Cond.fieldLink RX6 9 "ShadeTree$Tree" "nodeParts" "[J", Cond.fieldLink RX6 15 "ShadeTree$Tree" "nodeLevels" "[I", Cond.fieldLink RX6 19 "ShadeTree$Tree" "grid" "LShadeTree$Grid;", Cond.fieldLink RX6 23 "ShadeTree$Tree" "shades" "LShadeTree$Shades;", Cond.instanceMethod yX0_init, Cond.code yX0_init cX0_init 1 none, Cond.methodLink RX0 3 objectInit, Cond.fieldLink RX0 11 "ShadeTree$Doings" "before" "[J", Cond.instanceMethod yX4_init, Cond.code yX4_init cX4_init 1 none, Cond.methodLink RX4 3 objectInit, Cond.fieldLink RX4 11 "ShadeTree$Slots" "kept" "[J", Cond.arrayClass .boolean, Cond.fieldLink RX4 15 "ShadeTree$Slots" "used" "[Z", Cond.instanceMethod yX3_init, Cond.code yX3_init cX3_init 1 none, Cond.methodLink RX3 1 objectInit, Cond.fieldLink RX3 9 "ShadeTree$Sights" "ones" "[I", Cond.fieldLink RX3 13 "ShadeTree$Sights" "others" "[I", Cond.fieldLink RX3 16 "ShadeTree$Sights" "joined" "[Z"]
def wsX7_init : List Cond := .code yX7_init cX7_init 1 none :: ((wsX7_init_r1 ++ (wsX7_init_r2 ++ (wsX7_init_r3 ++ wsX7_init_r4))) ++ wsX50 ++ wsX70 ++ wsX10 ++ wsX20 ++ wsX60 ++ wsX00 ++ wsX40 ++ wsX30)
def wsX7_write : List Cond := .code yX7_write cX7_write 2 (some .int) :: ([.fieldLink RX7 10 "ShadeTree" "text" "LShadeTree$Text;", .methodLink RX7 72 yX5_add, .instanceMethod yX5_add, .selects RX5 yX5_add yX5_add, .initialized RX5, .code yX5_add cX5_add 2 (some .boolean), .fieldLink RX5 15 "ShadeTree$Text" "size" "I", .fieldLink RX5 11 "ShadeTree$Text" "letters" "[I", .methodLink RX7 76 yX5_size, .instanceMethod yX5_size, .selects RX5 yX5_size yX5_size, .code yX5_size cX5_size 1 (some .int)] ++ wsX70 ++ wsX50)
def wsX7_wipe : List Cond := .code yX7_wipe cX7_wipe 2 (some .int) :: ([.fieldLink RX7 10 "ShadeTree" "text" "LShadeTree$Text;", .methodLink RX7 76 yX5_size, .instanceMethod yX5_size, .selects RX5 yX5_size yX5_size, .initialized RX5, .code yX5_size cX5_size 1 (some .int), .fieldLink RX5 15 "ShadeTree$Text" "size" "I", .methodLink RX7 80 yX5_clear, .instanceMethod yX5_clear, .selects RX5 yX5_clear yX5_clear, .code yX5_clear cX5_clear 1 none] ++ wsX70 ++ wsX50)
def wsX7_fault : List Cond := .code yX7_fault cX7_fault 1 (some .int) :: ([.fieldLink RX7 10 "ShadeTree" "text" "LShadeTree$Text;", .methodLink RX7 83 yX5_firstFault, .instanceMethod yX5_firstFault, .selects RX5 yX5_firstFault yX5_firstFault, .initialized RX5, .code yX5_firstFault cX5_firstFault 2 (some .int), .fieldLink RX5 15 "ShadeTree$Text" "size" "I", .methodLink RX5 19 yX5_fits, .instanceMethod yX5_fits, .selects RX5 yX5_fits yX5_fits, .code yX5_fits cX5_fits 3 (some .boolean), .methodLink RX5 27 yX5_figure, .instanceMethod yX5_figure, .selects RX5 yX5_figure yX5_figure, .code yX5_figure cX5_figure 2 (some .int), .fieldLink RX5 11 "ShadeTree$Text" "letters" "[I", .methodLink RX5 23 yX5_wholeSize, .instanceMethod yX5_wholeSize, .selects RX5 yX5_wholeSize yX5_wholeSize, .code yX5_wholeSize cX5_wholeSize 1 (some .int), .static yX7_isShade, .initialized RX7, .code yX7_isShade cX7_isShade 1 (some .boolean)] ++ wsX70 ++ wsX50)
def wsX7_picture_r1 : List Cond := [Cond.fieldLink RX7 10 "ShadeTree" "text" "LShadeTree$Text;", Cond.fieldLink RX7 19 "ShadeTree" "grid" "LShadeTree$Grid;", Cond.fieldLink RX7 28 "ShadeTree" "now" "LShadeTree$Shades;", Cond.fieldLink RX7 50 "ShadeTree" "doings" "LShadeTree$Doings;", Cond.fieldLink RX7 57 "ShadeTree" "slots" "LShadeTree$Slots;", Cond.fieldLink RX7 37 "ShadeTree" "tree" "LShadeTree$Tree;", Cond.methodLink RX7 83 yX5_firstFault, Cond.instanceMethod yX5_firstFault, Cond.selects RX5 yX5_firstFault yX5_firstFault, Cond.initialized RX5, Cond.code yX5_firstFault cX5_firstFault 2 (some .int), Cond.fieldLink RX5 15 "ShadeTree$Text" "size" "I", Cond.methodLink RX5 19 yX5_fits, Cond.instanceMethod yX5_fits, Cond.selects RX5 yX5_fits yX5_fits, Cond.code yX5_fits cX5_fits 3 (some .boolean), Cond.methodLink RX5 27 yX5_figure, Cond.instanceMethod yX5_figure, Cond.selects RX5 yX5_figure yX5_figure, Cond.code yX5_figure cX5_figure 2 (some .int), Cond.fieldLink RX5 11 "ShadeTree$Text" "letters" "[I", Cond.methodLink RX5 23 yX5_wholeSize, Cond.instanceMethod yX5_wholeSize, Cond.selects RX5 yX5_wholeSize yX5_wholeSize]
def wsX7_picture_r2 : List Cond := [Cond.code yX5_wholeSize cX5_wholeSize 1 (some .int), Cond.static yX7_isShade, Cond.initialized RX7, Cond.code yX7_isShade cX7_isShade 1 (some .boolean), Cond.methodLink RX7 86 yX5_figure, Cond.methodLink RX7 90 yX1_lay, Cond.instanceMethod yX1_lay, Cond.selects RX1 yX1_lay yX1_lay, Cond.initialized RX1, Cond.code yX1_lay cX1_lay 5 none, Cond.fieldLink RX1 15 "ShadeTree$Grid" "way" "I", Cond.fieldLink RX1 19 "ShadeTree$Grid" "wide" "I", Cond.fieldLink RX1 22 "ShadeTree$Grid" "high" "I", Cond.fieldLink RX1 25 "ShadeTree$Grid" "all" "J", Cond.fieldLink RX1 29 "ShadeTree$Grid" "leftmost" "J", Cond.fieldLink RX1 32 "ShadeTree$Grid" "rightmost" "J", Cond.methodLink RX7 94 yX2_darken, Cond.instanceMethod yX2_darken, Cond.selects RX2 yX2_darken yX2_darken, Cond.initialized RX2, Cond.code yX2_darken cX2_darken 2 none, Cond.fieldLink RX2 9 "ShadeTree$Shades" "layers" "[J", Cond.fieldLink RX2 15 "ShadeTree$Shades" "grid" "LShadeTree$Grid;", Cond.methodLink RX2 22 yX1_all]
def wsX7_picture_r3 : List Cond := [Cond.instanceMethod yX1_all, Cond.selects RX1 yX1_all yX1_all, Cond.code yX1_all cX1_all 1 (some .long), Cond.methodLink RX7 97 yX1_size, Cond.instanceMethod yX1_size, Cond.selects RX1 yX1_size yX1_size, Cond.code yX1_size cX1_size 1 (some .int), Cond.methodLink RX7 98 yX2_set, Cond.instanceMethod yX2_set, Cond.selects RX2 yX2_set yX2_set, Cond.code yX2_set cX2_set 6 none, Cond.constantLong RX2 38 (-1), Cond.methodLink RX7 102 yX0_clear, Cond.instanceMethod yX0_clear, Cond.selects RX0 yX0_clear yX0_clear, Cond.initialized RX0, Cond.code yX0_clear cX0_clear 1 none, Cond.fieldLink RX0 15 "ShadeTree$Doings" "size" "I", Cond.methodLink RX7 103 yX4_clear, Cond.instanceMethod yX4_clear, Cond.selects RX4 yX4_clear yX4_clear, Cond.initialized RX4, Cond.code yX4_clear cX4_clear 2 none, Cond.fieldLink RX4 15 "ShadeTree$Slots" "used" "[Z"]
def wsX7_picture_r4 : List Cond := [Cond.methodLink RX7 104 yX6_countNodes, Cond.instanceMethod yX6_countNodes, Cond.selects RX6 yX6_countNodes yX6_countNodes, Cond.initialized RX6, Cond.code yX6_countNodes cX6_countNodes 1 (some .int), Cond.fieldLink RX6 95 "ShadeTree$Tree" "size" "I", Cond.methodLink RX6 92 yX6_gather, Cond.instanceMethod yX6_gather, Cond.selects RX6 yX6_gather yX6_gather, Cond.code yX6_gather cX6_gather 6 none, Cond.fieldLink RX6 9 "ShadeTree$Tree" "nodeParts" "[J", Cond.fieldLink RX6 15 "ShadeTree$Tree" "nodeLevels" "[I", Cond.constantLong RX6 43 (-1), Cond.methodLink RX6 57 yX6_ofLevel, Cond.instanceMethod yX6_ofLevel, Cond.selects RX6 yX6_ofLevel yX6_ofLevel, Cond.code yX6_ofLevel cX6_ofLevel 2 (some .long), Cond.fieldLink RX6 23 "ShadeTree$Tree" "shades" "LShadeTree$Shades;", Cond.methodLink RX6 27 yX2_atLeast, Cond.instanceMethod yX2_atLeast, Cond.selects RX2 yX2_atLeast yX2_atLeast, Cond.code yX2_atLeast cX2_atLeast 2 (some .long), Cond.methodLink RX6 53 yX6_partAt, Cond.instanceMethod yX6_partAt]
def wsX7_picture_r5 : List Cond := [Cond.selects RX6 yX6_partAt yX6_partAt, Cond.code yX6_partAt cX6_partAt 4 (some .long), Cond.fieldLink RX6 19 "ShadeTree$Tree" "grid" "LShadeTree$Grid;", Cond.methodLink RX6 33 yX1_way, Cond.instanceMethod yX1_way, Cond.selects RX1 yX1_way yX1_way, Cond.code yX1_way cX1_way 1 (some .int), Cond.methodLink RX6 39 yX1_partAround, Cond.instanceMethod yX1_partAround, Cond.selects RX1 yX1_partAround yX1_partAround, Cond.code yX1_partAround cX1_partAround 11 (some .long), Cond.methodLink RX1 43 yX1_spread, Cond.instanceMethod yX1_spread, Cond.selects RX1 yX1_spread yX1_spread, Cond.code yX1_spread cX1_spread 8 (some .long), Cond.constantLong RX1 47 (-1)]
def wsX7_picture : List Cond := .code yX7_picture cX7_picture 2 (some .int) :: ((wsX7_picture_r1 ++ (wsX7_picture_r2 ++ (wsX7_picture_r3 ++ (wsX7_picture_r4 ++ wsX7_picture_r5)))) ++ wsX70 ++ wsX50 ++ wsX10 ++ wsX20 ++ wsX00 ++ wsX40 ++ wsX60)
def wsX7_about_r1 : List Cond := [Cond.fieldLink RX7 19 "ShadeTree" "grid" "LShadeTree$Grid;", Cond.fieldLink RX7 37 "ShadeTree" "tree" "LShadeTree$Tree;", Cond.fieldLink RX7 28 "ShadeTree" "now" "LShadeTree$Shades;", Cond.fieldLink RX7 50 "ShadeTree" "doings" "LShadeTree$Doings;", Cond.fieldLink RX7 64 "ShadeTree" "sights" "LShadeTree$Sights;", Cond.fieldLink RX7 10 "ShadeTree" "text" "LShadeTree$Text;", Cond.methodLink RX7 107 yX1_way, Cond.instanceMethod yX1_way, Cond.selects RX1 yX1_way yX1_way, Cond.initialized RX1, Cond.code yX1_way cX1_way 1 (some .int), Cond.fieldLink RX1 15 "ShadeTree$Grid" "way" "I", Cond.methodLink RX7 110 yX1_wide, Cond.instanceMethod yX1_wide, Cond.selects RX1 yX1_wide yX1_wide, Cond.code yX1_wide cX1_wide 1 (some .int), Cond.fieldLink RX1 19 "ShadeTree$Grid" "wide" "I", Cond.methodLink RX7 113 yX1_high, Cond.instanceMethod yX1_high, Cond.selects RX1 yX1_high yX1_high, Cond.code yX1_high cX1_high 1 (some .int), Cond.fieldLink RX1 22 "ShadeTree$Grid" "high" "I", Cond.methodLink RX7 104 yX6_countNodes, Cond.instanceMethod yX6_countNodes]
def wsX7_about_r2 : List Cond := [Cond.selects RX6 yX6_countNodes yX6_countNodes, Cond.initialized RX6, Cond.code yX6_countNodes cX6_countNodes 1 (some .int), Cond.fieldLink RX6 95 "ShadeTree$Tree" "size" "I", Cond.methodLink RX6 92 yX6_gather, Cond.instanceMethod yX6_gather, Cond.selects RX6 yX6_gather yX6_gather, Cond.code yX6_gather cX6_gather 6 none, Cond.fieldLink RX6 9 "ShadeTree$Tree" "nodeParts" "[J", Cond.fieldLink RX6 15 "ShadeTree$Tree" "nodeLevels" "[I", Cond.constantLong RX6 43 (-1), Cond.methodLink RX6 57 yX6_ofLevel, Cond.instanceMethod yX6_ofLevel, Cond.selects RX6 yX6_ofLevel yX6_ofLevel, Cond.code yX6_ofLevel cX6_ofLevel 2 (some .long), Cond.fieldLink RX6 23 "ShadeTree$Tree" "shades" "LShadeTree$Shades;", Cond.methodLink RX6 27 yX2_atLeast, Cond.instanceMethod yX2_atLeast, Cond.selects RX2 yX2_atLeast yX2_atLeast, Cond.initialized RX2, Cond.code yX2_atLeast cX2_atLeast 2 (some .long), Cond.fieldLink RX2 9 "ShadeTree$Shades" "layers" "[J", Cond.methodLink RX6 53 yX6_partAt, Cond.instanceMethod yX6_partAt]
def wsX7_about_r3 : List Cond := [Cond.selects RX6 yX6_partAt yX6_partAt, Cond.code yX6_partAt cX6_partAt 4 (some .long), Cond.fieldLink RX6 19 "ShadeTree$Tree" "grid" "LShadeTree$Grid;", Cond.methodLink RX6 33 yX1_way, Cond.methodLink RX6 39 yX1_partAround, Cond.instanceMethod yX1_partAround, Cond.selects RX1 yX1_partAround yX1_partAround, Cond.code yX1_partAround cX1_partAround 11 (some .long), Cond.methodLink RX1 43 yX1_spread, Cond.instanceMethod yX1_spread, Cond.selects RX1 yX1_spread yX1_spread, Cond.code yX1_spread cX1_spread 8 (some .long), Cond.fieldLink RX1 32 "ShadeTree$Grid" "rightmost" "J", Cond.constantLong RX1 47 (-1), Cond.fieldLink RX1 29 "ShadeTree$Grid" "leftmost" "J", Cond.methodLink RX7 116 yX6_countLeaves, Cond.instanceMethod yX6_countLeaves, Cond.selects RX6 yX6_countLeaves yX6_countLeaves, Cond.code yX6_countLeaves cX6_countLeaves 3 (some .int), Cond.methodLink RX7 119 yX6_greatestDepth, Cond.instanceMethod yX6_greatestDepth, Cond.selects RX6 yX6_greatestDepth yX6_greatestDepth, Cond.code yX6_greatestDepth cX6_greatestDepth 3 (some .int), Cond.methodLink RX6 79 Lib.Math.max.name]
def wsX7_about_r4 : List Cond := [Cond.static Lib.Math.max.name, Cond.initialized "java/lang/Math", Cond.code Lib.Math.max.name Lib.Math.max.code 2 (some .int), Cond.methodLink RX6 99 yX6_depth, Cond.instanceMethod yX6_depth, Cond.selects RX6 yX6_depth yX6_depth, Cond.code yX6_depth cX6_depth 10 (some .int), Cond.methodLink RX7 122 yX1_all, Cond.instanceMethod yX1_all, Cond.selects RX1 yX1_all yX1_all, Cond.code yX1_all cX1_all 1 (some .long), Cond.fieldLink RX1 25 "ShadeTree$Grid" "all" "J", Cond.methodLink RX7 126 yX2_light, Cond.instanceMethod yX2_light, Cond.selects RX2 yX2_light yX2_light, Cond.code yX2_light cX2_light 5 (some .int), Cond.methodLink RX2 28 yJ13_bitCount_95d88, Cond.static yJ13_bitCount_95d88, Cond.initialized RJ13, Cond.code yJ13_bitCount_95d88 cJ13_bitCount_95d88 2 (some .int), Cond.constantLong RJ13 314 (6148914691236517205), Cond.constantLong RJ13 316 (3689348814741910323), Cond.constantLong RJ13 318 (1085102592571150095), Cond.methodLink RX7 130 yX0_size]
def wsX7_about_r5 : List Cond := [Cond.instanceMethod yX0_size, Cond.selects RX0 yX0_size yX0_size, Cond.initialized RX0, Cond.code yX0_size cX0_size 1 (some .int), Cond.fieldLink RX0 15 "ShadeTree$Doings" "size" "I", Cond.methodLink RX7 131 yX3_size, Cond.instanceMethod yX3_size, Cond.selects RX3 yX3_size yX3_size, Cond.initialized RX3, Cond.code yX3_size cX3_size 1 (some .int), Cond.fieldLink RX3 20 "ShadeTree$Sights" "size" "I", Cond.methodLink RX7 76 yX5_size, Cond.instanceMethod yX5_size, Cond.selects RX5 yX5_size yX5_size, Cond.initialized RX5, Cond.code yX5_size cX5_size 1 (some .int), Cond.fieldLink RX5 15 "ShadeTree$Text" "size" "I"]
def wsX7_about : List Cond := .code yX7_about cX7_about 2 (some .int) :: ((wsX7_about_r1 ++ (wsX7_about_r2 ++ (wsX7_about_r3 ++ (wsX7_about_r4 ++ wsX7_about_r5)))) ++ wsX70 ++ wsX10 ++ wsX60 ++ wsX20 ++ wsX00 ++ wsX30 ++ wsX50)
def wsX7_shade : List Cond := .code yX7_shade cX7_shade 2 (some .int) :: ([.fieldLink RX7 19 "ShadeTree" "grid" "LShadeTree$Grid;", .fieldLink RX7 28 "ShadeTree" "now" "LShadeTree$Shades;", .methodLink RX7 132 yX1_hasDot, .instanceMethod yX1_hasDot, .selects RX1 yX1_hasDot yX1_hasDot, .initialized RX1, .code yX1_hasDot cX1_hasDot 2 (some .boolean), .methodLink RX1 35 yX1_size, .instanceMethod yX1_size, .selects RX1 yX1_size yX1_size, .code yX1_size cX1_size 1 (some .int), .fieldLink RX1 19 "ShadeTree$Grid" "wide" "I", .fieldLink RX1 22 "ShadeTree$Grid" "high" "I", .methodLink RX7 135 yX2_of, .instanceMethod yX2_of, .selects RX2 yX2_of yX2_of, .initialized RX2, .code yX2_of cX2_of 4 (some .int), .fieldLink RX2 9 "ShadeTree$Shades" "layers" "[J"] ++ wsX70 ++ wsX10 ++ wsX20)
def wsX7_node_r1 : List Cond := [Cond.fieldLink RX7 19 "ShadeTree" "grid" "LShadeTree$Grid;", Cond.fieldLink RX7 28 "ShadeTree" "now" "LShadeTree$Shades;", Cond.fieldLink RX7 37 "ShadeTree" "tree" "LShadeTree$Tree;", Cond.methodLink RX7 132 yX1_hasDot, Cond.instanceMethod yX1_hasDot, Cond.selects RX1 yX1_hasDot yX1_hasDot, Cond.initialized RX1, Cond.code yX1_hasDot cX1_hasDot 2 (some .boolean), Cond.methodLink RX1 35 yX1_size, Cond.instanceMethod yX1_size, Cond.selects RX1 yX1_size yX1_size, Cond.code yX1_size cX1_size 1 (some .int), Cond.fieldLink RX1 19 "ShadeTree$Grid" "wide" "I", Cond.fieldLink RX1 22 "ShadeTree$Grid" "high" "I", Cond.methodLink RX7 135 yX2_of, Cond.instanceMethod yX2_of, Cond.selects RX2 yX2_of yX2_of, Cond.initialized RX2, Cond.code yX2_of cX2_of 4 (some .int), Cond.fieldLink RX2 9 "ShadeTree$Shades" "layers" "[J", Cond.methodLink RX7 138 yX6_nodeOf, Cond.instanceMethod yX6_nodeOf, Cond.selects RX6 yX6_nodeOf yX6_nodeOf, Cond.initialized RX6]
def wsX7_node_r2 : List Cond := [Cond.code yX6_nodeOf cX6_nodeOf 2 (some .long), Cond.fieldLink RX6 19 "ShadeTree$Tree" "grid" "LShadeTree$Grid;", Cond.fieldLink RX6 23 "ShadeTree$Tree" "shades" "LShadeTree$Shades;", Cond.methodLink RX6 45 yX1_hasDot, Cond.methodLink RX6 49 yX2_of, Cond.methodLink RX6 53 yX6_partAt, Cond.instanceMethod yX6_partAt, Cond.selects RX6 yX6_partAt yX6_partAt, Cond.code yX6_partAt cX6_partAt 4 (some .long), Cond.methodLink RX6 27 yX2_atLeast, Cond.instanceMethod yX2_atLeast, Cond.selects RX2 yX2_atLeast yX2_atLeast, Cond.code yX2_atLeast cX2_atLeast 2 (some .long), Cond.methodLink RX6 33 yX1_way, Cond.instanceMethod yX1_way, Cond.selects RX1 yX1_way yX1_way, Cond.code yX1_way cX1_way 1 (some .int), Cond.fieldLink RX1 15 "ShadeTree$Grid" "way" "I", Cond.methodLink RX6 39 yX1_partAround, Cond.instanceMethod yX1_partAround, Cond.selects RX1 yX1_partAround yX1_partAround, Cond.code yX1_partAround cX1_partAround 11 (some .long), Cond.methodLink RX1 43 yX1_spread, Cond.instanceMethod yX1_spread]
def wsX7_node_r3 : List Cond := [Cond.selects RX1 yX1_spread yX1_spread, Cond.code yX1_spread cX1_spread 8 (some .long), Cond.fieldLink RX1 32 "ShadeTree$Grid" "rightmost" "J", Cond.constantLong RX1 47 (-1), Cond.fieldLink RX1 29 "ShadeTree$Grid" "leftmost" "J", Cond.methodLink RX7 142 yX6_head, Cond.instanceMethod yX6_head, Cond.selects RX6 yX6_head yX6_head, Cond.code yX6_head cX6_head 6 (some .int), Cond.methodLink RX6 57 yX6_ofLevel, Cond.instanceMethod yX6_ofLevel, Cond.selects RX6 yX6_ofLevel yX6_ofLevel, Cond.code yX6_ofLevel cX6_ofLevel 2 (some .long), Cond.constantLong RX6 43 (-1), Cond.methodLink RX6 60 yJ13_bitCount_95d88, Cond.static yJ13_bitCount_95d88, Cond.initialized RJ13, Cond.code yJ13_bitCount_95d88 cJ13_bitCount_95d88 2 (some .int), Cond.constantLong RJ13 314 (6148914691236517205), Cond.constantLong RJ13 316 (3689348814741910323), Cond.constantLong RJ13 318 (1085102592571150095), Cond.methodLink RX7 146 yJ13_bitCount_95d88, Cond.methodLink RX7 126 yX2_light, Cond.instanceMethod yX2_light]
def wsX7_node_r4 : List Cond := [Cond.selects RX2 yX2_light yX2_light, Cond.code yX2_light cX2_light 5 (some .int), Cond.methodLink RX2 28 yJ13_bitCount_95d88, Cond.methodLink RX7 151 yX6_parentHead, Cond.instanceMethod yX6_parentHead, Cond.selects RX6 yX6_parentHead yX6_parentHead, Cond.code yX6_parentHead cX6_parentHead 5 (some .int), Cond.methodLink RX6 66 yX6_parentLevel, Cond.instanceMethod yX6_parentLevel, Cond.selects RX6 yX6_parentLevel yX6_parentLevel, Cond.code yX6_parentLevel cX6_parentLevel 5 (some .int), Cond.methodLink RX6 70 yX6_head, Cond.methodLink RX7 154 yX6_countChildren, Cond.instanceMethod yX6_countChildren, Cond.selects RX6 yX6_countChildren yX6_countChildren, Cond.code yX6_countChildren cX6_countChildren 4 (some .int), Cond.methodLink RX6 73 yX1_countParts, Cond.instanceMethod yX1_countParts, Cond.selects RX1 yX1_countParts yX1_countParts, Cond.code yX1_countParts cX1_countParts 7 (some .int), Cond.methodLink RX1 53 yX1_partAround, Cond.methodLink RX7 157 yX6_depth, Cond.instanceMethod yX6_depth, Cond.selects RX6 yX6_depth yX6_depth]
def wsX7_node_r5 : List Cond := [Cond.code yX6_depth cX6_depth 10 (some .int), Cond.methodLink RX7 160 yX1_columnsOf, Cond.instanceMethod yX1_columnsOf, Cond.selects RX1 yX1_columnsOf yX1_columnsOf, Cond.code yX1_columnsOf cX1_columnsOf 5 (some .int), Cond.methodLink RX7 163 yX1_rowsOf, Cond.instanceMethod yX1_rowsOf, Cond.selects RX1 yX1_rowsOf yX1_rowsOf, Cond.code yX1_rowsOf cX1_rowsOf 5 (some .int), Cond.methodLink RX1 39 yX1_row, Cond.instanceMethod yX1_row, Cond.selects RX1 yX1_row yX1_row, Cond.code yX1_row cX1_row 2 (some .long), Cond.methodLink RX7 166 yX6_rise, Cond.instanceMethod yX6_rise, Cond.selects RX6 yX6_rise yX6_rise, Cond.code yX6_rise cX6_rise 7 (some .int), Cond.methodLink RX6 76 yX2_brightest, Cond.instanceMethod yX2_brightest, Cond.selects RX2 yX2_brightest yX2_brightest, Cond.code yX2_brightest cX2_brightest 4 (some .int), Cond.methodLink RX2 34 yX2_atLeast]
def wsX7_node : List Cond := .code yX7_node cX7_node 6 (some .int) :: ((wsX7_node_r1 ++ (wsX7_node_r2 ++ (wsX7_node_r3 ++ (wsX7_node_r4 ++ wsX7_node_r5)))) ++ wsX70 ++ wsX10 ++ wsX20 ++ wsX60)
def wsX7_dots_r1 : List Cond := [Cond.fieldLink RX7 19 "ShadeTree" "grid" "LShadeTree$Grid;", Cond.fieldLink RX7 37 "ShadeTree" "tree" "LShadeTree$Tree;", Cond.constantLong RX7 169 (-1), Cond.methodLink RX7 132 yX1_hasDot, Cond.instanceMethod yX1_hasDot, Cond.selects RX1 yX1_hasDot yX1_hasDot, Cond.initialized RX1, Cond.code yX1_hasDot cX1_hasDot 2 (some .boolean), Cond.methodLink RX1 35 yX1_size, Cond.instanceMethod yX1_size, Cond.selects RX1 yX1_size yX1_size, Cond.code yX1_size cX1_size 1 (some .int), Cond.fieldLink RX1 19 "ShadeTree$Grid" "wide" "I", Cond.fieldLink RX1 22 "ShadeTree$Grid" "high" "I", Cond.methodLink RX7 138 yX6_nodeOf, Cond.instanceMethod yX6_nodeOf, Cond.selects RX6 yX6_nodeOf yX6_nodeOf, Cond.initialized RX6, Cond.code yX6_nodeOf cX6_nodeOf 2 (some .long), Cond.fieldLink RX6 19 "ShadeTree$Tree" "grid" "LShadeTree$Grid;", Cond.fieldLink RX6 23 "ShadeTree$Tree" "shades" "LShadeTree$Shades;", Cond.methodLink RX6 45 yX1_hasDot, Cond.methodLink RX6 49 yX2_of, Cond.instanceMethod yX2_of]
def wsX7_dots_r2 : List Cond := [Cond.selects RX2 yX2_of yX2_of, Cond.initialized RX2, Cond.code yX2_of cX2_of 4 (some .int), Cond.fieldLink RX2 9 "ShadeTree$Shades" "layers" "[J", Cond.methodLink RX6 53 yX6_partAt, Cond.instanceMethod yX6_partAt, Cond.selects RX6 yX6_partAt yX6_partAt, Cond.code yX6_partAt cX6_partAt 4 (some .long), Cond.methodLink RX6 27 yX2_atLeast, Cond.instanceMethod yX2_atLeast, Cond.selects RX2 yX2_atLeast yX2_atLeast, Cond.code yX2_atLeast cX2_atLeast 2 (some .long), Cond.methodLink RX6 33 yX1_way, Cond.instanceMethod yX1_way, Cond.selects RX1 yX1_way yX1_way, Cond.code yX1_way cX1_way 1 (some .int), Cond.fieldLink RX1 15 "ShadeTree$Grid" "way" "I", Cond.methodLink RX6 39 yX1_partAround, Cond.instanceMethod yX1_partAround, Cond.selects RX1 yX1_partAround yX1_partAround, Cond.code yX1_partAround cX1_partAround 11 (some .long), Cond.methodLink RX1 43 yX1_spread, Cond.instanceMethod yX1_spread, Cond.selects RX1 yX1_spread yX1_spread]
def wsX7_dots_r3 : List Cond := [Cond.code yX1_spread cX1_spread 8 (some .long), Cond.fieldLink RX1 32 "ShadeTree$Grid" "rightmost" "J", Cond.constantLong RX1 47 (-1), Cond.fieldLink RX1 29 "ShadeTree$Grid" "leftmost" "J"]
def wsX7_dots : List Cond := .code yX7_dots cX7_dots 2 (some .long) :: ((wsX7_dots_r1 ++ (wsX7_dots_r2 ++ wsX7_dots_r3)) ++ wsX70 ++ wsX10 ++ wsX60 ++ wsX20)
def wsX7_parts_r1 : List Cond := [Cond.fieldLink RX7 19 "ShadeTree" "grid" "LShadeTree$Grid;", Cond.fieldLink RX7 28 "ShadeTree" "now" "LShadeTree$Shades;", Cond.methodLink RX7 171 yX7_isShade, Cond.static yX7_isShade, Cond.initialized RX7, Cond.code yX7_isShade cX7_isShade 1 (some .boolean), Cond.methodLink RX7 174 yX2_atLeast, Cond.instanceMethod yX2_atLeast, Cond.selects RX2 yX2_atLeast yX2_atLeast, Cond.initialized RX2, Cond.code yX2_atLeast cX2_atLeast 2 (some .long), Cond.fieldLink RX2 9 "ShadeTree$Shades" "layers" "[J", Cond.methodLink RX7 107 yX1_way, Cond.instanceMethod yX1_way, Cond.selects RX1 yX1_way yX1_way, Cond.initialized RX1, Cond.code yX1_way cX1_way 1 (some .int), Cond.fieldLink RX1 15 "ShadeTree$Grid" "way" "I", Cond.methodLink RX7 177 yX1_countParts, Cond.instanceMethod yX1_countParts, Cond.selects RX1 yX1_countParts yX1_countParts, Cond.code yX1_countParts cX1_countParts 7 (some .int), Cond.constantLong RX1 47 (-1), Cond.methodLink RX1 53 yX1_partAround]
def wsX7_parts_r2 : List Cond := [Cond.instanceMethod yX1_partAround, Cond.selects RX1 yX1_partAround yX1_partAround, Cond.code yX1_partAround cX1_partAround 11 (some .long), Cond.methodLink RX1 43 yX1_spread, Cond.instanceMethod yX1_spread, Cond.selects RX1 yX1_spread yX1_spread, Cond.code yX1_spread cX1_spread 8 (some .long), Cond.fieldLink RX1 32 "ShadeTree$Grid" "rightmost" "J", Cond.fieldLink RX1 29 "ShadeTree$Grid" "leftmost" "J", Cond.fieldLink RX1 19 "ShadeTree$Grid" "wide" "I"]
def wsX7_parts : List Cond := .code yX7_parts cX7_parts 2 (some .int) :: ((wsX7_parts_r1 ++ wsX7_parts_r2) ++ wsX70 ++ wsX20 ++ wsX10)
def wsX7_paint_r1 : List Cond := [Cond.fieldLink RX7 19 "ShadeTree" "grid" "LShadeTree$Grid;", Cond.fieldLink RX7 28 "ShadeTree" "now" "LShadeTree$Shades;", Cond.fieldLink RX7 50 "ShadeTree" "doings" "LShadeTree$Doings;", Cond.methodLink RX7 132 yX1_hasDot, Cond.instanceMethod yX1_hasDot, Cond.selects RX1 yX1_hasDot yX1_hasDot, Cond.initialized RX1, Cond.code yX1_hasDot cX1_hasDot 2 (some .boolean), Cond.methodLink RX1 35 yX1_size, Cond.instanceMethod yX1_size, Cond.selects RX1 yX1_size yX1_size, Cond.code yX1_size cX1_size 1 (some .int), Cond.fieldLink RX1 19 "ShadeTree$Grid" "wide" "I", Cond.fieldLink RX1 22 "ShadeTree$Grid" "high" "I", Cond.methodLink RX7 171 yX7_isShade, Cond.static yX7_isShade, Cond.initialized RX7, Cond.code yX7_isShade cX7_isShade 1 (some .boolean), Cond.methodLink RX7 135 yX2_of, Cond.instanceMethod yX2_of, Cond.selects RX2 yX2_of yX2_of, Cond.initialized RX2, Cond.code yX2_of cX2_of 4 (some .int), Cond.fieldLink RX2 9 "ShadeTree$Shades" "layers" "[J"]
def wsX7_paint_r2 : List Cond := [Cond.methodLink RX7 180 yX0_add, Cond.instanceMethod yX0_add, Cond.selects RX0 yX0_add yX0_add, Cond.initialized RX0, Cond.code yX0_add cX0_add 2 none, Cond.fieldLink RX0 15 "ShadeTree$Doings" "size" "I", Cond.fieldLink RX0 11 "ShadeTree$Doings" "before" "[J", Cond.methodLink RX0 19 arraycopyName, Cond.native arraycopyName, Cond.static arraycopyName, Cond.initialized "java/lang/System", Cond.methodLink RX0 25 yX2_store, Cond.instanceMethod yX2_store, Cond.selects RX2 yX2_store yX2_store, Cond.code yX2_store cX2_store 3 none, Cond.methodLink RX2 70 arraycopyName, Cond.methodLink RX7 98 yX2_set, Cond.instanceMethod yX2_set, Cond.selects RX2 yX2_set yX2_set, Cond.code yX2_set cX2_set 6 none, Cond.constantLong RX2 38 (-1)]
def wsX7_paint : List Cond := .code yX7_paint cX7_paint 4 (some .int) :: ((wsX7_paint_r1 ++ wsX7_paint_r2) ++ wsX70 ++ wsX10 ++ wsX20 ++ wsX00)
def wsX7_negative_r1 : List Cond := [Cond.fieldLink RX7 50 "ShadeTree" "doings" "LShadeTree$Doings;", Cond.fieldLink RX7 28 "ShadeTree" "now" "LShadeTree$Shades;", Cond.fieldLink RX7 37 "ShadeTree" "tree" "LShadeTree$Tree;", Cond.methodLink RX7 180 yX0_add, Cond.instanceMethod yX0_add, Cond.selects RX0 yX0_add yX0_add, Cond.initialized RX0, Cond.code yX0_add cX0_add 2 none, Cond.fieldLink RX0 15 "ShadeTree$Doings" "size" "I", Cond.fieldLink RX0 11 "ShadeTree$Doings" "before" "[J", Cond.methodLink RX0 19 arraycopyName, Cond.native arraycopyName, Cond.static arraycopyName, Cond.initialized "java/lang/System", Cond.methodLink RX0 25 yX2_store, Cond.instanceMethod yX2_store, Cond.selects RX2 yX2_store yX2_store, Cond.initialized RX2, Cond.code yX2_store cX2_store 3 none, Cond.fieldLink RX2 9 "ShadeTree$Shades" "layers" "[J", Cond.methodLink RX2 70 arraycopyName, Cond.methodLink RX7 183 yX2_turn, Cond.instanceMethod yX2_turn, Cond.selects RX2 yX2_turn yX2_turn]
def wsX7_negative_r2 : List Cond := [Cond.code yX2_turn cX2_turn 4 none, Cond.fieldLink RX2 15 "ShadeTree$Shades" "grid" "LShadeTree$Grid;", Cond.constantLong RX2 38 (-1), Cond.methodLink RX2 22 yX1_all, Cond.instanceMethod yX1_all, Cond.selects RX1 yX1_all yX1_all, Cond.initialized RX1, Cond.code yX1_all cX1_all 1 (some .long), Cond.fieldLink RX1 25 "ShadeTree$Grid" "all" "J", Cond.methodLink RX2 34 yX2_atLeast, Cond.instanceMethod yX2_atLeast, Cond.selects RX2 yX2_atLeast yX2_atLeast, Cond.code yX2_atLeast cX2_atLeast 2 (some .long), Cond.methodLink RX2 40 yX2_put, Cond.instanceMethod yX2_put, Cond.selects RX2 yX2_put yX2_put, Cond.code yX2_put cX2_put 4 none, Cond.methodLink RX7 104 yX6_countNodes, Cond.instanceMethod yX6_countNodes, Cond.selects RX6 yX6_countNodes yX6_countNodes, Cond.initialized RX6, Cond.code yX6_countNodes cX6_countNodes 1 (some .int), Cond.fieldLink RX6 95 "ShadeTree$Tree" "size" "I", Cond.methodLink RX6 92 yX6_gather]
def wsX7_negative_r3 : List Cond := [Cond.instanceMethod yX6_gather, Cond.selects RX6 yX6_gather yX6_gather, Cond.code yX6_gather cX6_gather 6 none, Cond.fieldLink RX6 9 "ShadeTree$Tree" "nodeParts" "[J", Cond.fieldLink RX6 15 "ShadeTree$Tree" "nodeLevels" "[I", Cond.constantLong RX6 43 (-1), Cond.methodLink RX6 57 yX6_ofLevel, Cond.instanceMethod yX6_ofLevel, Cond.selects RX6 yX6_ofLevel yX6_ofLevel, Cond.code yX6_ofLevel cX6_ofLevel 2 (some .long), Cond.fieldLink RX6 23 "ShadeTree$Tree" "shades" "LShadeTree$Shades;", Cond.methodLink RX6 27 yX2_atLeast, Cond.methodLink RX6 53 yX6_partAt, Cond.instanceMethod yX6_partAt, Cond.selects RX6 yX6_partAt yX6_partAt, Cond.code yX6_partAt cX6_partAt 4 (some .long), Cond.fieldLink RX6 19 "ShadeTree$Tree" "grid" "LShadeTree$Grid;", Cond.methodLink RX6 33 yX1_way, Cond.instanceMethod yX1_way, Cond.selects RX1 yX1_way yX1_way, Cond.code yX1_way cX1_way 1 (some .int), Cond.fieldLink RX1 15 "ShadeTree$Grid" "way" "I", Cond.methodLink RX6 39 yX1_partAround, Cond.instanceMethod yX1_partAround]
def wsX7_negative_r4 : List Cond := [Cond.selects RX1 yX1_partAround yX1_partAround, Cond.code yX1_partAround cX1_partAround 11 (some .long), Cond.methodLink RX1 43 yX1_spread, Cond.instanceMethod yX1_spread, Cond.selects RX1 yX1_spread yX1_spread, Cond.code yX1_spread cX1_spread 8 (some .long), Cond.fieldLink RX1 32 "ShadeTree$Grid" "rightmost" "J", Cond.constantLong RX1 47 (-1), Cond.fieldLink RX1 29 "ShadeTree$Grid" "leftmost" "J", Cond.fieldLink RX1 19 "ShadeTree$Grid" "wide" "I"]
def wsX7_negative : List Cond := .code yX7_negative cX7_negative 1 (some .int) :: ((wsX7_negative_r1 ++ (wsX7_negative_r2 ++ (wsX7_negative_r3 ++ wsX7_negative_r4))) ++ wsX70 ++ wsX00 ++ wsX20 ++ wsX10 ++ wsX60)
def wsX7_isSieve : List Cond := .code yX7_isSieve cX7_isSieve 2 (some .boolean) :: ([])
def wsX7_sift_r1 : List Cond := [Cond.fieldLink RX7 50 "ShadeTree" "doings" "LShadeTree$Doings;", Cond.fieldLink RX7 28 "ShadeTree" "now" "LShadeTree$Shades;", Cond.methodLink RX7 186 yX7_isSieve, Cond.static yX7_isSieve, Cond.initialized RX7, Cond.code yX7_isSieve cX7_isSieve 2 (some .boolean), Cond.methodLink RX7 180 yX0_add, Cond.instanceMethod yX0_add, Cond.selects RX0 yX0_add yX0_add, Cond.initialized RX0, Cond.code yX0_add cX0_add 2 none, Cond.fieldLink RX0 15 "ShadeTree$Doings" "size" "I", Cond.fieldLink RX0 11 "ShadeTree$Doings" "before" "[J", Cond.methodLink RX0 19 arraycopyName, Cond.native arraycopyName, Cond.static arraycopyName, Cond.initialized "java/lang/System", Cond.methodLink RX0 25 yX2_store, Cond.instanceMethod yX2_store, Cond.selects RX2 yX2_store yX2_store, Cond.initialized RX2, Cond.code yX2_store cX2_store 3 none, Cond.fieldLink RX2 9 "ShadeTree$Shades" "layers" "[J", Cond.methodLink RX2 70 arraycopyName]
def wsX7_sift_r2 : List Cond := [Cond.methodLink RX7 190 yX2_thin, Cond.instanceMethod yX2_thin, Cond.selects RX2 yX2_thin yX2_thin, Cond.code yX2_thin cX2_thin 8 (some .int), Cond.constantLong RX2 38 (-1), Cond.methodLink RX2 44 yX2_bigParts, Cond.instanceMethod yX2_bigParts, Cond.selects RX2 yX2_bigParts yX2_bigParts, Cond.code yX2_bigParts cX2_bigParts 12 (some .long), Cond.fieldLink RX2 15 "ShadeTree$Shades" "grid" "LShadeTree$Grid;", Cond.methodLink RX2 22 yX1_all, Cond.instanceMethod yX1_all, Cond.selects RX1 yX1_all yX1_all, Cond.initialized RX1, Cond.code yX1_all cX1_all 1 (some .long), Cond.fieldLink RX1 25 "ShadeTree$Grid" "all" "J", Cond.methodLink RX2 48 yX1_way, Cond.instanceMethod yX1_way, Cond.selects RX1 yX1_way yX1_way, Cond.code yX1_way cX1_way 1 (some .int), Cond.fieldLink RX1 15 "ShadeTree$Grid" "way" "I", Cond.methodLink RX2 52 yX1_partAround, Cond.instanceMethod yX1_partAround, Cond.selects RX1 yX1_partAround yX1_partAround]
def wsX7_sift_r3 : List Cond := [Cond.code yX1_partAround cX1_partAround 11 (some .long), Cond.methodLink RX1 43 yX1_spread, Cond.instanceMethod yX1_spread, Cond.selects RX1 yX1_spread yX1_spread, Cond.code yX1_spread cX1_spread 8 (some .long), Cond.fieldLink RX1 32 "ShadeTree$Grid" "rightmost" "J", Cond.constantLong RX1 47 (-1), Cond.fieldLink RX1 29 "ShadeTree$Grid" "leftmost" "J", Cond.fieldLink RX1 19 "ShadeTree$Grid" "wide" "I", Cond.methodLink RX2 56 yX2_isBig, Cond.instanceMethod yX2_isBig, Cond.selects RX2 yX2_isBig yX2_isBig, Cond.code yX2_isBig cX2_isBig 5 (some .boolean), Cond.methodLink RX2 28 yJ13_bitCount_95d88, Cond.static yJ13_bitCount_95d88, Cond.initialized RJ13, Cond.code yJ13_bitCount_95d88 cJ13_bitCount_95d88 2 (some .int), Cond.constantLong RJ13 314 (6148914691236517205), Cond.constantLong RJ13 316 (3689348814741910323), Cond.constantLong RJ13 318 (1085102592571150095), Cond.methodLink RX2 60 yX1_columnsOf, Cond.instanceMethod yX1_columnsOf, Cond.selects RX1 yX1_columnsOf yX1_columnsOf, Cond.code yX1_columnsOf cX1_columnsOf 5 (some .int)]
def wsX7_sift_r4 : List Cond := [Cond.methodLink RX2 63 yX1_rowsOf, Cond.instanceMethod yX1_rowsOf, Cond.selects RX1 yX1_rowsOf yX1_rowsOf, Cond.code yX1_rowsOf cX1_rowsOf 5 (some .int), Cond.fieldLink RX1 22 "ShadeTree$Grid" "high" "I", Cond.methodLink RX1 39 yX1_row, Cond.instanceMethod yX1_row, Cond.selects RX1 yX1_row yX1_row, Cond.code yX1_row cX1_row 2 (some .long)]
def wsX7_sift : List Cond := .code yX7_sift cX7_sift 3 (some .int) :: ((wsX7_sift_r1 ++ (wsX7_sift_r2 ++ (wsX7_sift_r3 ++ wsX7_sift_r4))) ++ wsX70 ++ wsX00 ++ wsX20 ++ wsX10)
def wsX7_undo : List Cond := .code yX7_undo cX7_undo 1 (some .int) :: ([.fieldLink RX7 50 "ShadeTree" "doings" "LShadeTree$Doings;", .fieldLink RX7 28 "ShadeTree" "now" "LShadeTree$Shades;", .methodLink RX7 194 yX0_takeBack, .instanceMethod yX0_takeBack, .selects RX0 yX0_takeBack yX0_takeBack, .initialized RX0, .code yX0_takeBack cX0_takeBack 2 (some .boolean), .fieldLink RX0 15 "ShadeTree$Doings" "size" "I", .fieldLink RX0 11 "ShadeTree$Doings" "before" "[J", .methodLink RX0 31 yX2_load, .instanceMethod yX2_load, .selects RX2 yX2_load yX2_load, .initialized RX2, .code yX2_load cX2_load 3 none, .fieldLink RX2 9 "ShadeTree$Shades" "layers" "[J", .methodLink RX2 70 arraycopyName, .native arraycopyName, .static arraycopyName, .initialized "java/lang/System", .methodLink RX7 130 yX0_size, .instanceMethod yX0_size, .selects RX0 yX0_size yX0_size, .code yX0_size cX0_size 1 (some .int)] ++ wsX70 ++ wsX00 ++ wsX20)
def wsX7_pass_r1 : List Cond := [Cond.fieldLink RX7 19 "ShadeTree" "grid" "LShadeTree$Grid;", Cond.fieldLink RX7 28 "ShadeTree" "now" "LShadeTree$Shades;", Cond.methodLink RX7 132 yX1_hasDot, Cond.instanceMethod yX1_hasDot, Cond.selects RX1 yX1_hasDot yX1_hasDot, Cond.initialized RX1, Cond.code yX1_hasDot cX1_hasDot 2 (some .boolean), Cond.methodLink RX1 35 yX1_size, Cond.instanceMethod yX1_size, Cond.selects RX1 yX1_size yX1_size, Cond.code yX1_size cX1_size 1 (some .int), Cond.fieldLink RX1 19 "ShadeTree$Grid" "wide" "I", Cond.fieldLink RX1 22 "ShadeTree$Grid" "high" "I", Cond.methodLink RX7 174 yX2_atLeast, Cond.instanceMethod yX2_atLeast, Cond.selects RX2 yX2_atLeast yX2_atLeast, Cond.initialized RX2, Cond.code yX2_atLeast cX2_atLeast 2 (some .long), Cond.fieldLink RX2 9 "ShadeTree$Shades" "layers" "[J", Cond.methodLink RX7 107 yX1_way, Cond.instanceMethod yX1_way, Cond.selects RX1 yX1_way yX1_way, Cond.code yX1_way cX1_way 1 (some .int), Cond.fieldLink RX1 15 "ShadeTree$Grid" "way" "I"]
def wsX7_pass_r2 : List Cond := [Cond.methodLink RX7 198 yX1_joined, Cond.instanceMethod yX1_joined, Cond.selects RX1 yX1_joined yX1_joined, Cond.code yX1_joined cX1_joined 6 (some .boolean), Cond.methodLink RX1 49 yX1_hasDot, Cond.methodLink RX1 53 yX1_partAround, Cond.instanceMethod yX1_partAround, Cond.selects RX1 yX1_partAround yX1_partAround, Cond.code yX1_partAround cX1_partAround 11 (some .long), Cond.methodLink RX1 43 yX1_spread, Cond.instanceMethod yX1_spread, Cond.selects RX1 yX1_spread yX1_spread, Cond.code yX1_spread cX1_spread 8 (some .long), Cond.fieldLink RX1 32 "ShadeTree$Grid" "rightmost" "J", Cond.constantLong RX1 47 (-1), Cond.fieldLink RX1 29 "ShadeTree$Grid" "leftmost" "J"]
def wsX7_pass : List Cond := .code yX7_pass cX7_pass 4 (some .int) :: ((wsX7_pass_r1 ++ wsX7_pass_r2) ++ wsX70 ++ wsX10 ++ wsX20)
def wsX7_isStep : List Cond := .code yX7_isStep cX7_isStep 1 (some .boolean) :: ([])
def wsX7_commonDivisor : List Cond := .code yX7_commonDivisor cX7_commonDivisor 6 (some .int) :: ([])
def wsX7_fraction : List Cond := .code yX7_fraction cX7_fraction 4 (some .int) :: ([.methodLink RX7 302 Lib.Math.abs.name, .static Lib.Math.abs.name, .initialized "java/lang/Math", .code Lib.Math.abs.name Lib.Math.abs.code 1 (some .int), .methodLink RX7 307 yX7_commonDivisor, .static yX7_commonDivisor, .initialized RX7, .code yX7_commonDivisor cX7_commonDivisor 6 (some .int)])
def wsX7_grows_r1 : List Cond := [Cond.fieldLink RX7 19 "ShadeTree" "grid" "LShadeTree$Grid;", Cond.fieldLink RX7 37 "ShadeTree" "tree" "LShadeTree$Tree;", Cond.fieldLink RX7 28 "ShadeTree" "now" "LShadeTree$Shades;", Cond.methodLink RX7 132 yX1_hasDot, Cond.instanceMethod yX1_hasDot, Cond.selects RX1 yX1_hasDot yX1_hasDot, Cond.initialized RX1, Cond.code yX1_hasDot cX1_hasDot 2 (some .boolean), Cond.methodLink RX1 35 yX1_size, Cond.instanceMethod yX1_size, Cond.selects RX1 yX1_size yX1_size, Cond.code yX1_size cX1_size 1 (some .int), Cond.fieldLink RX1 19 "ShadeTree$Grid" "wide" "I", Cond.fieldLink RX1 22 "ShadeTree$Grid" "high" "I", Cond.methodLink RX7 202 yX7_isStep, Cond.static yX7_isStep, Cond.initialized RX7, Cond.code yX7_isStep cX7_isStep 1 (some .boolean), Cond.methodLink RX7 138 yX6_nodeOf, Cond.instanceMethod yX6_nodeOf, Cond.selects RX6 yX6_nodeOf yX6_nodeOf, Cond.initialized RX6, Cond.code yX6_nodeOf cX6_nodeOf 2 (some .long), Cond.fieldLink RX6 19 "ShadeTree$Tree" "grid" "LShadeTree$Grid;"]
def wsX7_grows_r2 : List Cond := [Cond.fieldLink RX6 23 "ShadeTree$Tree" "shades" "LShadeTree$Shades;", Cond.methodLink RX6 45 yX1_hasDot, Cond.methodLink RX6 49 yX2_of, Cond.instanceMethod yX2_of, Cond.selects RX2 yX2_of yX2_of, Cond.initialized RX2, Cond.code yX2_of cX2_of 4 (some .int), Cond.fieldLink RX2 9 "ShadeTree$Shades" "layers" "[J", Cond.methodLink RX6 53 yX6_partAt, Cond.instanceMethod yX6_partAt, Cond.selects RX6 yX6_partAt yX6_partAt, Cond.code yX6_partAt cX6_partAt 4 (some .long), Cond.methodLink RX6 27 yX2_atLeast, Cond.instanceMethod yX2_atLeast, Cond.selects RX2 yX2_atLeast yX2_atLeast, Cond.code yX2_atLeast cX2_atLeast 2 (some .long), Cond.methodLink RX6 33 yX1_way, Cond.instanceMethod yX1_way, Cond.selects RX1 yX1_way yX1_way, Cond.code yX1_way cX1_way 1 (some .int), Cond.fieldLink RX1 15 "ShadeTree$Grid" "way" "I", Cond.methodLink RX6 39 yX1_partAround, Cond.instanceMethod yX1_partAround, Cond.selects RX1 yX1_partAround yX1_partAround]
def wsX7_grows_r3 : List Cond := [Cond.code yX1_partAround cX1_partAround 11 (some .long), Cond.methodLink RX1 43 yX1_spread, Cond.instanceMethod yX1_spread, Cond.selects RX1 yX1_spread yX1_spread, Cond.code yX1_spread cX1_spread 8 (some .long), Cond.fieldLink RX1 32 "ShadeTree$Grid" "rightmost" "J", Cond.constantLong RX1 47 (-1), Cond.fieldLink RX1 29 "ShadeTree$Grid" "leftmost" "J", Cond.methodLink RX7 135 yX2_of, Cond.methodLink RX7 205 yX6_gain, Cond.instanceMethod yX6_gain, Cond.selects RX6 yX6_gain yX6_gain, Cond.code yX6_gain cX6_gain 5 (some .int), Cond.methodLink RX6 79 Lib.Math.max.name, Cond.static Lib.Math.max.name, Cond.initialized "java/lang/Math", Cond.code Lib.Math.max.name Lib.Math.max.code 2 (some .int), Cond.constantLong RX6 43 (-1), Cond.methodLink RX6 60 yJ13_bitCount_95d88, Cond.static yJ13_bitCount_95d88, Cond.initialized RJ13, Cond.code yJ13_bitCount_95d88 cJ13_bitCount_95d88 2 (some .int), Cond.constantLong RJ13 314 (6148914691236517205), Cond.constantLong RJ13 316 (3689348814741910323)]
def wsX7_grows_r4 : List Cond := [Cond.constantLong RJ13 318 (1085102592571150095), Cond.methodLink RX7 146 yJ13_bitCount_95d88, Cond.methodLink RX7 209 yX7_fraction, Cond.static yX7_fraction, Cond.code yX7_fraction cX7_fraction 4 (some .int), Cond.methodLink RX7 302 Lib.Math.abs.name, Cond.static Lib.Math.abs.name, Cond.code Lib.Math.abs.name Lib.Math.abs.code 1 (some .int), Cond.methodLink RX7 307 yX7_commonDivisor, Cond.static yX7_commonDivisor, Cond.code yX7_commonDivisor cX7_commonDivisor 6 (some .int)]
def wsX7_grows : List Cond := .code yX7_grows cX7_grows 6 (some .int) :: ((wsX7_grows_r1 ++ (wsX7_grows_r2 ++ (wsX7_grows_r3 ++ wsX7_grows_r4))) ++ wsX70 ++ wsX10 ++ wsX60 ++ wsX20)
def wsX7_steady_r1 : List Cond := [Cond.fieldLink RX7 19 "ShadeTree" "grid" "LShadeTree$Grid;", Cond.fieldLink RX7 37 "ShadeTree" "tree" "LShadeTree$Tree;", Cond.fieldLink RX7 28 "ShadeTree" "now" "LShadeTree$Shades;", Cond.methodLink RX7 132 yX1_hasDot, Cond.instanceMethod yX1_hasDot, Cond.selects RX1 yX1_hasDot yX1_hasDot, Cond.initialized RX1, Cond.code yX1_hasDot cX1_hasDot 2 (some .boolean), Cond.methodLink RX1 35 yX1_size, Cond.instanceMethod yX1_size, Cond.selects RX1 yX1_size yX1_size, Cond.code yX1_size cX1_size 1 (some .int), Cond.fieldLink RX1 19 "ShadeTree$Grid" "wide" "I", Cond.fieldLink RX1 22 "ShadeTree$Grid" "high" "I", Cond.methodLink RX7 202 yX7_isStep, Cond.static yX7_isStep, Cond.initialized RX7, Cond.code yX7_isStep cX7_isStep 1 (some .boolean), Cond.methodLink RX7 138 yX6_nodeOf, Cond.instanceMethod yX6_nodeOf, Cond.selects RX6 yX6_nodeOf yX6_nodeOf, Cond.initialized RX6, Cond.code yX6_nodeOf cX6_nodeOf 2 (some .long), Cond.fieldLink RX6 19 "ShadeTree$Tree" "grid" "LShadeTree$Grid;"]
def wsX7_steady_r2 : List Cond := [Cond.fieldLink RX6 23 "ShadeTree$Tree" "shades" "LShadeTree$Shades;", Cond.methodLink RX6 45 yX1_hasDot, Cond.methodLink RX6 49 yX2_of, Cond.instanceMethod yX2_of, Cond.selects RX2 yX2_of yX2_of, Cond.initialized RX2, Cond.code yX2_of cX2_of 4 (some .int), Cond.fieldLink RX2 9 "ShadeTree$Shades" "layers" "[J", Cond.methodLink RX6 53 yX6_partAt, Cond.instanceMethod yX6_partAt, Cond.selects RX6 yX6_partAt yX6_partAt, Cond.code yX6_partAt cX6_partAt 4 (some .long), Cond.methodLink RX6 27 yX2_atLeast, Cond.instanceMethod yX2_atLeast, Cond.selects RX2 yX2_atLeast yX2_atLeast, Cond.code yX2_atLeast cX2_atLeast 2 (some .long), Cond.methodLink RX6 33 yX1_way, Cond.instanceMethod yX1_way, Cond.selects RX1 yX1_way yX1_way, Cond.code yX1_way cX1_way 1 (some .int), Cond.fieldLink RX1 15 "ShadeTree$Grid" "way" "I", Cond.methodLink RX6 39 yX1_partAround, Cond.instanceMethod yX1_partAround, Cond.selects RX1 yX1_partAround yX1_partAround]
def wsX7_steady_r3 : List Cond := [Cond.code yX1_partAround cX1_partAround 11 (some .long), Cond.methodLink RX1 43 yX1_spread, Cond.instanceMethod yX1_spread, Cond.selects RX1 yX1_spread yX1_spread, Cond.code yX1_spread cX1_spread 8 (some .long), Cond.fieldLink RX1 32 "ShadeTree$Grid" "rightmost" "J", Cond.constantLong RX1 47 (-1), Cond.fieldLink RX1 29 "ShadeTree$Grid" "leftmost" "J", Cond.methodLink RX7 135 yX2_of, Cond.methodLink RX7 213 yX6_isSteady, Cond.instanceMethod yX6_isSteady, Cond.selects RX6 yX6_isSteady yX6_isSteady, Cond.code yX6_isSteady cX6_isSteady 13 (some .boolean), Cond.constantLong RX6 43 (-1), Cond.methodLink RX6 85 yX6_gain, Cond.instanceMethod yX6_gain, Cond.selects RX6 yX6_gain yX6_gain, Cond.code yX6_gain cX6_gain 5 (some .int), Cond.methodLink RX6 79 Lib.Math.max.name, Cond.static Lib.Math.max.name, Cond.initialized "java/lang/Math", Cond.code Lib.Math.max.name Lib.Math.max.code 2 (some .int), Cond.methodLink RX6 60 yJ13_bitCount_95d88, Cond.static yJ13_bitCount_95d88]
def wsX7_steady_r4 : List Cond := [Cond.initialized RJ13, Cond.code yJ13_bitCount_95d88 cJ13_bitCount_95d88 2 (some .int), Cond.constantLong RJ13 314 (6148914691236517205), Cond.constantLong RJ13 316 (3689348814741910323), Cond.constantLong RJ13 318 (1085102592571150095), Cond.methodLink RX6 66 yX6_parentLevel, Cond.instanceMethod yX6_parentLevel, Cond.selects RX6 yX6_parentLevel yX6_parentLevel, Cond.code yX6_parentLevel cX6_parentLevel 5 (some .int), Cond.methodLink RX6 89 yX6_darkest, Cond.instanceMethod yX6_darkest, Cond.selects RX6 yX6_darkest yX6_darkest, Cond.code yX6_darkest cX6_darkest 4 (some .int)]
def wsX7_steady : List Cond := .code yX7_steady cX7_steady 3 (some .int) :: ((wsX7_steady_r1 ++ (wsX7_steady_r2 ++ (wsX7_steady_r3 ++ wsX7_steady_r4))) ++ wsX70 ++ wsX10 ++ wsX60 ++ wsX20)
def wsX7_withoutLast : List Cond := .code yX7_withoutLast cX7_withoutLast 6 (some .long) :: ([.constantLong RX7 224 (10000)])
def wsX7_trialPainted : List Cond := .code yX7_trialPainted cX7_trialPainted 3 (some .boolean) :: ([.fieldLink RX7 19 "ShadeTree" "grid" "LShadeTree$Grid;", .fieldLink RX7 41 "ShadeTree" "trial" "LShadeTree$Shades;", .methodLink RX7 132 yX1_hasDot, .instanceMethod yX1_hasDot, .selects RX1 yX1_hasDot yX1_hasDot, .initialized RX1, .code yX1_hasDot cX1_hasDot 2 (some .boolean), .methodLink RX1 35 yX1_size, .instanceMethod yX1_size, .selects RX1 yX1_size yX1_size, .code yX1_size cX1_size 1 (some .int), .fieldLink RX1 19 "ShadeTree$Grid" "wide" "I", .fieldLink RX1 22 "ShadeTree$Grid" "high" "I", .methodLink RX7 98 yX2_set, .instanceMethod yX2_set, .selects RX2 yX2_set yX2_set, .initialized RX2, .code yX2_set cX2_set 6 none, .fieldLink RX2 9 "ShadeTree$Shades" "layers" "[J", .constantLong RX2 38 (-1)] ++ wsX70 ++ wsX10 ++ wsX20)
def wsX7_trialTurned : List Cond := .code yX7_trialTurned cX7_trialTurned 1 (some .boolean) :: ([.fieldLink RX7 41 "ShadeTree" "trial" "LShadeTree$Shades;", .methodLink RX7 183 yX2_turn, .instanceMethod yX2_turn, .selects RX2 yX2_turn yX2_turn, .initialized RX2, .code yX2_turn cX2_turn 4 none, .fieldLink RX2 15 "ShadeTree$Shades" "grid" "LShadeTree$Grid;", .constantLong RX2 38 (-1), .methodLink RX2 22 yX1_all, .instanceMethod yX1_all, .selects RX1 yX1_all yX1_all, .initialized RX1, .code yX1_all cX1_all 1 (some .long), .fieldLink RX1 25 "ShadeTree$Grid" "all" "J", .methodLink RX2 34 yX2_atLeast, .instanceMethod yX2_atLeast, .selects RX2 yX2_atLeast yX2_atLeast, .code yX2_atLeast cX2_atLeast 2 (some .long), .fieldLink RX2 9 "ShadeTree$Shades" "layers" "[J", .methodLink RX2 40 yX2_put, .instanceMethod yX2_put, .selects RX2 yX2_put yX2_put, .code yX2_put cX2_put 4 none] ++ wsX70 ++ wsX20 ++ wsX10)
def wsX7_trialThinned_r1 : List Cond := [Cond.fieldLink RX7 41 "ShadeTree" "trial" "LShadeTree$Shades;", Cond.methodLink RX7 186 yX7_isSieve, Cond.static yX7_isSieve, Cond.initialized RX7, Cond.code yX7_isSieve cX7_isSieve 2 (some .boolean), Cond.methodLink RX7 190 yX2_thin, Cond.instanceMethod yX2_thin, Cond.selects RX2 yX2_thin yX2_thin, Cond.initialized RX2, Cond.code yX2_thin cX2_thin 8 (some .int), Cond.fieldLink RX2 9 "ShadeTree$Shades" "layers" "[J", Cond.constantLong RX2 38 (-1), Cond.methodLink RX2 44 yX2_bigParts, Cond.instanceMethod yX2_bigParts, Cond.selects RX2 yX2_bigParts yX2_bigParts, Cond.code yX2_bigParts cX2_bigParts 12 (some .long), Cond.fieldLink RX2 15 "ShadeTree$Shades" "grid" "LShadeTree$Grid;", Cond.methodLink RX2 22 yX1_all, Cond.instanceMethod yX1_all, Cond.selects RX1 yX1_all yX1_all, Cond.initialized RX1, Cond.code yX1_all cX1_all 1 (some .long), Cond.fieldLink RX1 25 "ShadeTree$Grid" "all" "J", Cond.methodLink RX2 48 yX1_way]
def wsX7_trialThinned_r2 : List Cond := [Cond.instanceMethod yX1_way, Cond.selects RX1 yX1_way yX1_way, Cond.code yX1_way cX1_way 1 (some .int), Cond.fieldLink RX1 15 "ShadeTree$Grid" "way" "I", Cond.methodLink RX2 52 yX1_partAround, Cond.instanceMethod yX1_partAround, Cond.selects RX1 yX1_partAround yX1_partAround, Cond.code yX1_partAround cX1_partAround 11 (some .long), Cond.methodLink RX1 43 yX1_spread, Cond.instanceMethod yX1_spread, Cond.selects RX1 yX1_spread yX1_spread, Cond.code yX1_spread cX1_spread 8 (some .long), Cond.fieldLink RX1 32 "ShadeTree$Grid" "rightmost" "J", Cond.constantLong RX1 47 (-1), Cond.fieldLink RX1 29 "ShadeTree$Grid" "leftmost" "J", Cond.fieldLink RX1 19 "ShadeTree$Grid" "wide" "I", Cond.methodLink RX2 56 yX2_isBig, Cond.instanceMethod yX2_isBig, Cond.selects RX2 yX2_isBig yX2_isBig, Cond.code yX2_isBig cX2_isBig 5 (some .boolean), Cond.methodLink RX2 28 yJ13_bitCount_95d88, Cond.static yJ13_bitCount_95d88, Cond.initialized RJ13, Cond.code yJ13_bitCount_95d88 cJ13_bitCount_95d88 2 (some .int)]
def wsX7_trialThinned_r3 : List Cond := [Cond.constantLong RJ13 314 (6148914691236517205), Cond.constantLong RJ13 316 (3689348814741910323), Cond.constantLong RJ13 318 (1085102592571150095), Cond.methodLink RX2 60 yX1_columnsOf, Cond.instanceMethod yX1_columnsOf, Cond.selects RX1 yX1_columnsOf yX1_columnsOf, Cond.code yX1_columnsOf cX1_columnsOf 5 (some .int), Cond.methodLink RX2 63 yX1_rowsOf, Cond.instanceMethod yX1_rowsOf, Cond.selects RX1 yX1_rowsOf yX1_rowsOf, Cond.code yX1_rowsOf cX1_rowsOf 5 (some .int), Cond.fieldLink RX1 22 "ShadeTree$Grid" "high" "I", Cond.methodLink RX1 39 yX1_row, Cond.instanceMethod yX1_row, Cond.selects RX1 yX1_row yX1_row, Cond.code yX1_row cX1_row 2 (some .long)]
def wsX7_trialThinned : List Cond := .code yX7_trialThinned cX7_trialThinned 3 (some .boolean) :: ((wsX7_trialThinned_r1 ++ (wsX7_trialThinned_r2 ++ wsX7_trialThinned_r3)) ++ wsX70 ++ wsX20 ++ wsX10)
def wsX7_comesTrue_r1 : List Cond := [Cond.fieldLink RX7 19 "ShadeTree" "grid" "LShadeTree$Grid;", Cond.fieldLink RX7 44 "ShadeTree" "trialTree" "LShadeTree$Tree;", Cond.fieldLink RX7 41 "ShadeTree" "trial" "LShadeTree$Shades;", Cond.methodLink RX7 275 yX7_trialPainted, Cond.instanceMethod yX7_trialPainted, Cond.selects RX7 yX7_trialPainted yX7_trialPainted, Cond.initialized RX7, Cond.code yX7_trialPainted cX7_trialPainted 3 (some .boolean), Cond.methodLink RX7 132 yX1_hasDot, Cond.instanceMethod yX1_hasDot, Cond.selects RX1 yX1_hasDot yX1_hasDot, Cond.initialized RX1, Cond.code yX1_hasDot cX1_hasDot 2 (some .boolean), Cond.methodLink RX1 35 yX1_size, Cond.instanceMethod yX1_size, Cond.selects RX1 yX1_size yX1_size, Cond.code yX1_size cX1_size 1 (some .int), Cond.fieldLink RX1 19 "ShadeTree$Grid" "wide" "I", Cond.fieldLink RX1 22 "ShadeTree$Grid" "high" "I", Cond.methodLink RX7 98 yX2_set, Cond.instanceMethod yX2_set, Cond.selects RX2 yX2_set yX2_set, Cond.initialized RX2, Cond.code yX2_set cX2_set 6 none]
def wsX7_comesTrue_r2 : List Cond := [Cond.fieldLink RX2 9 "ShadeTree$Shades" "layers" "[J", Cond.constantLong RX2 38 (-1), Cond.methodLink RX7 278 yX7_trialTurned, Cond.instanceMethod yX7_trialTurned, Cond.selects RX7 yX7_trialTurned yX7_trialTurned, Cond.code yX7_trialTurned cX7_trialTurned 1 (some .boolean), Cond.methodLink RX7 183 yX2_turn, Cond.instanceMethod yX2_turn, Cond.selects RX2 yX2_turn yX2_turn, Cond.code yX2_turn cX2_turn 4 none, Cond.fieldLink RX2 15 "ShadeTree$Shades" "grid" "LShadeTree$Grid;", Cond.methodLink RX2 22 yX1_all, Cond.instanceMethod yX1_all, Cond.selects RX1 yX1_all yX1_all, Cond.code yX1_all cX1_all 1 (some .long), Cond.fieldLink RX1 25 "ShadeTree$Grid" "all" "J", Cond.methodLink RX2 34 yX2_atLeast, Cond.instanceMethod yX2_atLeast, Cond.selects RX2 yX2_atLeast yX2_atLeast, Cond.code yX2_atLeast cX2_atLeast 2 (some .long), Cond.methodLink RX2 40 yX2_put, Cond.instanceMethod yX2_put, Cond.selects RX2 yX2_put yX2_put, Cond.code yX2_put cX2_put 4 none]
def wsX7_comesTrue_r3 : List Cond := [Cond.methodLink RX7 282 yX7_trialThinned, Cond.instanceMethod yX7_trialThinned, Cond.selects RX7 yX7_trialThinned yX7_trialThinned, Cond.code yX7_trialThinned cX7_trialThinned 3 (some .boolean), Cond.methodLink RX7 186 yX7_isSieve, Cond.static yX7_isSieve, Cond.code yX7_isSieve cX7_isSieve 2 (some .boolean), Cond.methodLink RX7 190 yX2_thin, Cond.instanceMethod yX2_thin, Cond.selects RX2 yX2_thin yX2_thin, Cond.code yX2_thin cX2_thin 8 (some .int), Cond.methodLink RX2 44 yX2_bigParts, Cond.instanceMethod yX2_bigParts, Cond.selects RX2 yX2_bigParts yX2_bigParts, Cond.code yX2_bigParts cX2_bigParts 12 (some .long), Cond.methodLink RX2 48 yX1_way, Cond.instanceMethod yX1_way, Cond.selects RX1 yX1_way yX1_way, Cond.code yX1_way cX1_way 1 (some .int), Cond.fieldLink RX1 15 "ShadeTree$Grid" "way" "I", Cond.methodLink RX2 52 yX1_partAround, Cond.instanceMethod yX1_partAround, Cond.selects RX1 yX1_partAround yX1_partAround, Cond.code yX1_partAround cX1_partAround 11 (some .long)]
def wsX7_comesTrue_r4 : List Cond := [Cond.methodLink RX1 43 yX1_spread, Cond.instanceMethod yX1_spread, Cond.selects RX1 yX1_spread yX1_spread, Cond.code yX1_spread cX1_spread 8 (some .long), Cond.fieldLink RX1 32 "ShadeTree$Grid" "rightmost" "J", Cond.constantLong RX1 47 (-1), Cond.fieldLink RX1 29 "ShadeTree$Grid" "leftmost" "J", Cond.methodLink RX2 56 yX2_isBig, Cond.instanceMethod yX2_isBig, Cond.selects RX2 yX2_isBig yX2_isBig, Cond.code yX2_isBig cX2_isBig 5 (some .boolean), Cond.methodLink RX2 28 yJ13_bitCount_95d88, Cond.static yJ13_bitCount_95d88, Cond.initialized RJ13, Cond.code yJ13_bitCount_95d88 cJ13_bitCount_95d88 2 (some .int), Cond.constantLong RJ13 314 (6148914691236517205), Cond.constantLong RJ13 316 (3689348814741910323), Cond.constantLong RJ13 318 (1085102592571150095), Cond.methodLink RX2 60 yX1_columnsOf, Cond.instanceMethod yX1_columnsOf, Cond.selects RX1 yX1_columnsOf yX1_columnsOf, Cond.code yX1_columnsOf cX1_columnsOf 5 (some .int), Cond.methodLink RX2 63 yX1_rowsOf, Cond.instanceMethod yX1_rowsOf]
def wsX7_comesTrue_r5 : List Cond := [Cond.selects RX1 yX1_rowsOf yX1_rowsOf, Cond.code yX1_rowsOf cX1_rowsOf 5 (some .int), Cond.methodLink RX1 39 yX1_row, Cond.instanceMethod yX1_row, Cond.selects RX1 yX1_row yX1_row, Cond.code yX1_row cX1_row 2 (some .long), Cond.methodLink RX7 138 yX6_nodeOf, Cond.instanceMethod yX6_nodeOf, Cond.selects RX6 yX6_nodeOf yX6_nodeOf, Cond.initialized RX6, Cond.code yX6_nodeOf cX6_nodeOf 2 (some .long), Cond.fieldLink RX6 19 "ShadeTree$Tree" "grid" "LShadeTree$Grid;", Cond.fieldLink RX6 23 "ShadeTree$Tree" "shades" "LShadeTree$Shades;", Cond.methodLink RX6 45 yX1_hasDot, Cond.methodLink RX6 49 yX2_of, Cond.instanceMethod yX2_of, Cond.selects RX2 yX2_of yX2_of, Cond.code yX2_of cX2_of 4 (some .int), Cond.methodLink RX6 53 yX6_partAt, Cond.instanceMethod yX6_partAt, Cond.selects RX6 yX6_partAt yX6_partAt, Cond.code yX6_partAt cX6_partAt 4 (some .long), Cond.methodLink RX6 27 yX2_atLeast, Cond.methodLink RX6 33 yX1_way]
def wsX7_comesTrue_r6 : List Cond := [Cond.methodLink RX6 39 yX1_partAround, Cond.methodLink RX7 135 yX2_of, Cond.methodLink RX7 285 yX6_parentLevel, Cond.instanceMethod yX6_parentLevel, Cond.selects RX6 yX6_parentLevel yX6_parentLevel, Cond.code yX6_parentLevel cX6_parentLevel 5 (some .int), Cond.methodLink RX7 174 yX2_atLeast, Cond.methodLink RX7 107 yX1_way, Cond.methodLink RX7 177 yX1_countParts, Cond.instanceMethod yX1_countParts, Cond.selects RX1 yX1_countParts yX1_countParts, Cond.code yX1_countParts cX1_countParts 7 (some .int), Cond.methodLink RX1 53 yX1_partAround, Cond.methodLink RX7 166 yX6_rise, Cond.instanceMethod yX6_rise, Cond.selects RX6 yX6_rise yX6_rise, Cond.code yX6_rise cX6_rise 7 (some .int), Cond.methodLink RX6 76 yX2_brightest, Cond.instanceMethod yX2_brightest, Cond.selects RX2 yX2_brightest yX2_brightest, Cond.code yX2_brightest cX2_brightest 4 (some .int)]
def wsX7_comesTrue : List Cond := .code yX7_comesTrue cX7_comesTrue 4 (some .boolean) :: ((wsX7_comesTrue_r1 ++ (wsX7_comesTrue_r2 ++ (wsX7_comesTrue_r3 ++ (wsX7_comesTrue_r4 ++ (wsX7_comesTrue_r5 ++ wsX7_comesTrue_r6))))) ++ wsX70 ++ wsX10 ++ wsX20 ++ wsX60)
def wsX7_judge_r1 : List Cond := [Cond.fieldLink RX7 41 "ShadeTree" "trial" "LShadeTree$Shades;", Cond.fieldLink RX7 28 "ShadeTree" "now" "LShadeTree$Shades;", Cond.constantLong RX7 224 (10000), Cond.methodLink RX7 217 yX7_withoutLast, Cond.static yX7_withoutLast, Cond.initialized RX7, Cond.code yX7_withoutLast cX7_withoutLast 6 (some .long), Cond.methodLink RX7 221 yX2_copy, Cond.instanceMethod yX2_copy, Cond.selects RX2 yX2_copy yX2_copy, Cond.initialized RX2, Cond.code yX2_copy cX2_copy 2 none, Cond.fieldLink RX2 9 "ShadeTree$Shades" "layers" "[J", Cond.methodLink RX2 66 yX2_store, Cond.instanceMethod yX2_store, Cond.selects RX2 yX2_store yX2_store, Cond.code yX2_store cX2_store 3 none, Cond.methodLink RX2 70 arraycopyName, Cond.native arraycopyName, Cond.static arraycopyName, Cond.initialized "java/lang/System", Cond.methodLink RX7 226 yX7_comesTrue, Cond.instanceMethod yX7_comesTrue, Cond.selects RX7 yX7_comesTrue yX7_comesTrue]
def wsX7_judge_r2 : List Cond := [Cond.code yX7_comesTrue cX7_comesTrue 4 (some .boolean), Cond.fieldLink RX7 19 "ShadeTree" "grid" "LShadeTree$Grid;", Cond.fieldLink RX7 44 "ShadeTree" "trialTree" "LShadeTree$Tree;", Cond.methodLink RX7 275 yX7_trialPainted, Cond.instanceMethod yX7_trialPainted, Cond.selects RX7 yX7_trialPainted yX7_trialPainted, Cond.code yX7_trialPainted cX7_trialPainted 3 (some .boolean), Cond.methodLink RX7 132 yX1_hasDot, Cond.instanceMethod yX1_hasDot, Cond.selects RX1 yX1_hasDot yX1_hasDot, Cond.initialized RX1, Cond.code yX1_hasDot cX1_hasDot 2 (some .boolean), Cond.methodLink RX1 35 yX1_size, Cond.instanceMethod yX1_size, Cond.selects RX1 yX1_size yX1_size, Cond.code yX1_size cX1_size 1 (some .int), Cond.fieldLink RX1 19 "ShadeTree$Grid" "wide" "I", Cond.fieldLink RX1 22 "ShadeTree$Grid" "high" "I", Cond.methodLink RX7 98 yX2_set, Cond.instanceMethod yX2_set, Cond.selects RX2 yX2_set yX2_set, Cond.code yX2_set cX2_set 6 none, Cond.constantLong RX2 38 (-1), Cond.methodLink RX7 278 yX7_trialTurned]
def wsX7_judge_r3 : List Cond := [Cond.instanceMethod yX7_trialTurned, Cond.selects RX7 yX7_trialTurned yX7_trialTurned, Cond.code yX7_trialTurned cX7_trialTurned 1 (some .boolean), Cond.methodLink RX7 183 yX2_turn, Cond.instanceMethod yX2_turn, Cond.selects RX2 yX2_turn yX2_turn, Cond.code yX2_turn cX2_turn 4 none, Cond.fieldLink RX2 15 "ShadeTree$Shades" "grid" "LShadeTree$Grid;", Cond.methodLink RX2 22 yX1_all, Cond.instanceMethod yX1_all, Cond.selects RX1 yX1_all yX1_all, Cond.code yX1_all cX1_all 1 (some .long), Cond.fieldLink RX1 25 "ShadeTree$Grid" "all" "J", Cond.methodLink RX2 34 yX2_atLeast, Cond.instanceMethod yX2_atLeast, Cond.selects RX2 yX2_atLeast yX2_atLeast, Cond.code yX2_atLeast cX2_atLeast 2 (some .long), Cond.methodLink RX2 40 yX2_put, Cond.instanceMethod yX2_put, Cond.selects RX2 yX2_put yX2_put, Cond.code yX2_put cX2_put 4 none, Cond.methodLink RX7 282 yX7_trialThinned, Cond.instanceMethod yX7_trialThinned, Cond.selects RX7 yX7_trialThinned yX7_trialThinned]
def wsX7_judge_r4 : List Cond := [Cond.code yX7_trialThinned cX7_trialThinned 3 (some .boolean), Cond.methodLink RX7 186 yX7_isSieve, Cond.static yX7_isSieve, Cond.code yX7_isSieve cX7_isSieve 2 (some .boolean), Cond.methodLink RX7 190 yX2_thin, Cond.instanceMethod yX2_thin, Cond.selects RX2 yX2_thin yX2_thin, Cond.code yX2_thin cX2_thin 8 (some .int), Cond.methodLink RX2 44 yX2_bigParts, Cond.instanceMethod yX2_bigParts, Cond.selects RX2 yX2_bigParts yX2_bigParts, Cond.code yX2_bigParts cX2_bigParts 12 (some .long), Cond.methodLink RX2 48 yX1_way, Cond.instanceMethod yX1_way, Cond.selects RX1 yX1_way yX1_way, Cond.code yX1_way cX1_way 1 (some .int), Cond.fieldLink RX1 15 "ShadeTree$Grid" "way" "I", Cond.methodLink RX2 52 yX1_partAround, Cond.instanceMethod yX1_partAround, Cond.selects RX1 yX1_partAround yX1_partAround, Cond.code yX1_partAround cX1_partAround 11 (some .long), Cond.methodLink RX1 43 yX1_spread, Cond.instanceMethod yX1_spread, Cond.selects RX1 yX1_spread yX1_spread]
def wsX7_judge_r5 : List Cond := [Cond.code yX1_spread cX1_spread 8 (some .long), Cond.fieldLink RX1 32 "ShadeTree$Grid" "rightmost" "J", Cond.constantLong RX1 47 (-1), Cond.fieldLink RX1 29 "ShadeTree$Grid" "leftmost" "J", Cond.methodLink RX2 56 yX2_isBig, Cond.instanceMethod yX2_isBig, Cond.selects RX2 yX2_isBig yX2_isBig, Cond.code yX2_isBig cX2_isBig 5 (some .boolean), Cond.methodLink RX2 28 yJ13_bitCount_95d88, Cond.static yJ13_bitCount_95d88, Cond.initialized RJ13, Cond.code yJ13_bitCount_95d88 cJ13_bitCount_95d88 2 (some .int), Cond.constantLong RJ13 314 (6148914691236517205), Cond.constantLong RJ13 316 (3689348814741910323), Cond.constantLong RJ13 318 (1085102592571150095), Cond.methodLink RX2 60 yX1_columnsOf, Cond.instanceMethod yX1_columnsOf, Cond.selects RX1 yX1_columnsOf yX1_columnsOf, Cond.code yX1_columnsOf cX1_columnsOf 5 (some .int), Cond.methodLink RX2 63 yX1_rowsOf, Cond.instanceMethod yX1_rowsOf, Cond.selects RX1 yX1_rowsOf yX1_rowsOf, Cond.code yX1_rowsOf cX1_rowsOf 5 (some .int), Cond.methodLink RX1 39 yX1_row]
def wsX7_judge_r6 : List Cond := [Cond.instanceMethod yX1_row, Cond.selects RX1 yX1_row yX1_row, Cond.code yX1_row cX1_row 2 (some .long), Cond.methodLink RX7 138 yX6_nodeOf, Cond.instanceMethod yX6_nodeOf, Cond.selects RX6 yX6_nodeOf yX6_nodeOf, Cond.initialized RX6, Cond.code yX6_nodeOf cX6_nodeOf 2 (some .long), Cond.fieldLink RX6 19 "ShadeTree$Tree" "grid" "LShadeTree$Grid;", Cond.fieldLink RX6 23 "ShadeTree$Tree" "shades" "LShadeTree$Shades;", Cond.methodLink RX6 45 yX1_hasDot, Cond.methodLink RX6 49 yX2_of, Cond.instanceMethod yX2_of, Cond.selects RX2 yX2_of yX2_of, Cond.code yX2_of cX2_of 4 (some .int), Cond.methodLink RX6 53 yX6_partAt, Cond.instanceMethod yX6_partAt, Cond.selects RX6 yX6_partAt yX6_partAt, Cond.code yX6_partAt cX6_partAt 4 (some .long), Cond.methodLink RX6 27 yX2_atLeast, Cond.methodLink RX6 33 yX1_way, Cond.methodLink RX6 39 yX1_partAround, Cond.methodLink RX7 135 yX2_of, Cond.methodLink RX7 285 yX6_parentLevel]
def wsX7_judge_r7 : List Cond := [Cond.instanceMethod yX6_parentLevel, Cond.selects RX6 yX6_parentLevel yX6_parentLevel, Cond.code yX6_parentLevel cX6_parentLevel 5 (some .int), Cond.methodLink RX7 174 yX2_atLeast, Cond.methodLink RX7 107 yX1_way, Cond.methodLink RX7 177 yX1_countParts, Cond.instanceMethod yX1_countParts, Cond.selects RX1 yX1_countParts yX1_countParts, Cond.code yX1_countParts cX1_countParts 7 (some .int), Cond.methodLink RX1 53 yX1_partAround, Cond.methodLink RX7 166 yX6_rise, Cond.instanceMethod yX6_rise, Cond.selects RX6 yX6_rise yX6_rise, Cond.code yX6_rise cX6_rise 7 (some .int), Cond.methodLink RX6 76 yX2_brightest, Cond.instanceMethod yX2_brightest, Cond.selects RX2 yX2_brightest yX2_brightest, Cond.code yX2_brightest cX2_brightest 4 (some .int)]
def wsX7_judge : List Cond := .code yX7_judge cX7_judge 6 (some .int) :: ((wsX7_judge_r1 ++ (wsX7_judge_r2 ++ (wsX7_judge_r3 ++ (wsX7_judge_r4 ++ (wsX7_judge_r5 ++ (wsX7_judge_r6 ++ wsX7_judge_r7)))))) ++ wsX70 ++ wsX20 ++ wsX10 ++ wsX60)
def wsJ6_bitCount_0f7a4 : List Cond := .code yJ6_bitCount_0f7a4 cJ6_bitCount_0f7a4 1 (some .int) :: ([.constant RJ6 265 (1431655765), .constant RJ6 266 (858993459), .constant RJ6 267 (252645135)])
def wsX7_factorial : List Cond := .code yX7_factorial cX7_factorial 3 (some .int) :: ([])
def wsX7_partsOfRows_r1 : List Cond := [Cond.fieldLink RX7 19 "ShadeTree" "grid" "LShadeTree$Grid;", Cond.methodLink RX7 299 yX1_rows, Cond.instanceMethod yX1_rows, Cond.selects RX1 yX1_rows yX1_rows, Cond.initialized RX1, Cond.code yX1_rows cX1_rows 5 (some .long), Cond.fieldLink RX1 22 "ShadeTree$Grid" "high" "I", Cond.methodLink RX1 39 yX1_row, Cond.instanceMethod yX1_row, Cond.selects RX1 yX1_row yX1_row, Cond.code yX1_row cX1_row 2 (some .long), Cond.fieldLink RX1 19 "ShadeTree$Grid" "wide" "I", Cond.methodLink RX7 107 yX1_way, Cond.instanceMethod yX1_way, Cond.selects RX1 yX1_way yX1_way, Cond.code yX1_way cX1_way 1 (some .int), Cond.fieldLink RX1 15 "ShadeTree$Grid" "way" "I", Cond.methodLink RX7 177 yX1_countParts, Cond.instanceMethod yX1_countParts, Cond.selects RX1 yX1_countParts yX1_countParts, Cond.code yX1_countParts cX1_countParts 7 (some .int), Cond.constantLong RX1 47 (-1), Cond.methodLink RX1 53 yX1_partAround, Cond.instanceMethod yX1_partAround]
def wsX7_partsOfRows_r2 : List Cond := [Cond.selects RX1 yX1_partAround yX1_partAround, Cond.code yX1_partAround cX1_partAround 11 (some .long), Cond.methodLink RX1 43 yX1_spread, Cond.instanceMethod yX1_spread, Cond.selects RX1 yX1_spread yX1_spread, Cond.code yX1_spread cX1_spread 8 (some .long), Cond.fieldLink RX1 32 "ShadeTree$Grid" "rightmost" "J", Cond.fieldLink RX1 29 "ShadeTree$Grid" "leftmost" "J"]
def wsX7_partsOfRows : List Cond := .code yX7_partsOfRows cX7_partsOfRows 4 (some .int) :: ((wsX7_partsOfRows_r1 ++ wsX7_partsOfRows_r2) ++ wsX70 ++ wsX10)
def wsX7_sharedOut_r1 : List Cond := [Cond.fieldLink RX7 19 "ShadeTree" "grid" "LShadeTree$Grid;", Cond.methodLink RX7 113 yX1_high, Cond.instanceMethod yX1_high, Cond.selects RX1 yX1_high yX1_high, Cond.initialized RX1, Cond.code yX1_high cX1_high 1 (some .int), Cond.fieldLink RX1 22 "ShadeTree$Grid" "high" "I", Cond.methodLink RX7 292 yJ6_bitCount_0f7a4, Cond.static yJ6_bitCount_0f7a4, Cond.initialized RJ6, Cond.code yJ6_bitCount_0f7a4 cJ6_bitCount_0f7a4 1 (some .int), Cond.constant RJ6 265 (1431655765), Cond.constant RJ6 266 (858993459), Cond.constant RJ6 267 (252645135), Cond.methodLink RX7 236 yX7_factorial, Cond.static yX7_factorial, Cond.initialized RX7, Cond.code yX7_factorial cX7_factorial 3 (some .int), Cond.methodLink RX7 296 yX7_partsOfRows, Cond.instanceMethod yX7_partsOfRows, Cond.selects RX7 yX7_partsOfRows yX7_partsOfRows, Cond.code yX7_partsOfRows cX7_partsOfRows 4 (some .int), Cond.methodLink RX7 299 yX1_rows, Cond.instanceMethod yX1_rows]
def wsX7_sharedOut_r2 : List Cond := [Cond.selects RX1 yX1_rows yX1_rows, Cond.code yX1_rows cX1_rows 5 (some .long), Cond.methodLink RX1 39 yX1_row, Cond.instanceMethod yX1_row, Cond.selects RX1 yX1_row yX1_row, Cond.code yX1_row cX1_row 2 (some .long), Cond.fieldLink RX1 19 "ShadeTree$Grid" "wide" "I", Cond.methodLink RX7 107 yX1_way, Cond.instanceMethod yX1_way, Cond.selects RX1 yX1_way yX1_way, Cond.code yX1_way cX1_way 1 (some .int), Cond.fieldLink RX1 15 "ShadeTree$Grid" "way" "I", Cond.methodLink RX7 177 yX1_countParts, Cond.instanceMethod yX1_countParts, Cond.selects RX1 yX1_countParts yX1_countParts, Cond.code yX1_countParts cX1_countParts 7 (some .int), Cond.constantLong RX1 47 (-1), Cond.methodLink RX1 53 yX1_partAround, Cond.instanceMethod yX1_partAround, Cond.selects RX1 yX1_partAround yX1_partAround, Cond.code yX1_partAround cX1_partAround 11 (some .long), Cond.methodLink RX1 43 yX1_spread, Cond.instanceMethod yX1_spread, Cond.selects RX1 yX1_spread yX1_spread]
def wsX7_sharedOut_r3 : List Cond := [Cond.code yX1_spread cX1_spread 8 (some .long), Cond.fieldLink RX1 32 "ShadeTree$Grid" "rightmost" "J", Cond.fieldLink RX1 29 "ShadeTree$Grid" "leftmost" "J"]
def wsX7_sharedOut : List Cond := .code yX7_sharedOut cX7_sharedOut 10 (some .int) :: ((wsX7_sharedOut_r1 ++ (wsX7_sharedOut_r2 ++ wsX7_sharedOut_r3)) ++ wsX70 ++ wsX10)
def wsX7_share_r1 : List Cond := [Cond.fieldLink RX7 19 "ShadeTree" "grid" "LShadeTree$Grid;", Cond.fieldLink RX7 28 "ShadeTree" "now" "LShadeTree$Shades;", Cond.methodLink RX7 230 yX1_hasRow, Cond.instanceMethod yX1_hasRow, Cond.selects RX1 yX1_hasRow yX1_hasRow, Cond.initialized RX1, Cond.code yX1_hasRow cX1_hasRow 2 (some .boolean), Cond.fieldLink RX1 22 "ShadeTree$Grid" "high" "I", Cond.methodLink RX7 171 yX7_isShade, Cond.static yX7_isShade, Cond.initialized RX7, Cond.code yX7_isShade cX7_isShade 1 (some .boolean), Cond.methodLink RX7 174 yX2_atLeast, Cond.instanceMethod yX2_atLeast, Cond.selects RX2 yX2_atLeast yX2_atLeast, Cond.initialized RX2, Cond.code yX2_atLeast cX2_atLeast 2 (some .long), Cond.fieldLink RX2 9 "ShadeTree$Shades" "layers" "[J", Cond.methodLink RX7 233 yX7_sharedOut, Cond.instanceMethod yX7_sharedOut, Cond.selects RX7 yX7_sharedOut yX7_sharedOut, Cond.code yX7_sharedOut cX7_sharedOut 10 (some .int), Cond.methodLink RX7 113 yX1_high, Cond.instanceMethod yX1_high]
def wsX7_share_r2 : List Cond := [Cond.selects RX1 yX1_high yX1_high, Cond.code yX1_high cX1_high 1 (some .int), Cond.methodLink RX7 292 yJ6_bitCount_0f7a4, Cond.static yJ6_bitCount_0f7a4, Cond.initialized RJ6, Cond.code yJ6_bitCount_0f7a4 cJ6_bitCount_0f7a4 1 (some .int), Cond.constant RJ6 265 (1431655765), Cond.constant RJ6 266 (858993459), Cond.constant RJ6 267 (252645135), Cond.methodLink RX7 236 yX7_factorial, Cond.static yX7_factorial, Cond.code yX7_factorial cX7_factorial 3 (some .int), Cond.methodLink RX7 296 yX7_partsOfRows, Cond.instanceMethod yX7_partsOfRows, Cond.selects RX7 yX7_partsOfRows yX7_partsOfRows, Cond.code yX7_partsOfRows cX7_partsOfRows 4 (some .int), Cond.methodLink RX7 299 yX1_rows, Cond.instanceMethod yX1_rows, Cond.selects RX1 yX1_rows yX1_rows, Cond.code yX1_rows cX1_rows 5 (some .long), Cond.methodLink RX1 39 yX1_row, Cond.instanceMethod yX1_row, Cond.selects RX1 yX1_row yX1_row, Cond.code yX1_row cX1_row 2 (some .long)]
def wsX7_share_r3 : List Cond := [Cond.fieldLink RX1 19 "ShadeTree$Grid" "wide" "I", Cond.methodLink RX7 107 yX1_way, Cond.instanceMethod yX1_way, Cond.selects RX1 yX1_way yX1_way, Cond.code yX1_way cX1_way 1 (some .int), Cond.fieldLink RX1 15 "ShadeTree$Grid" "way" "I", Cond.methodLink RX7 177 yX1_countParts, Cond.instanceMethod yX1_countParts, Cond.selects RX1 yX1_countParts yX1_countParts, Cond.code yX1_countParts cX1_countParts 7 (some .int), Cond.constantLong RX1 47 (-1), Cond.methodLink RX1 53 yX1_partAround, Cond.instanceMethod yX1_partAround, Cond.selects RX1 yX1_partAround yX1_partAround, Cond.code yX1_partAround cX1_partAround 11 (some .long), Cond.methodLink RX1 43 yX1_spread, Cond.instanceMethod yX1_spread, Cond.selects RX1 yX1_spread yX1_spread, Cond.code yX1_spread cX1_spread 8 (some .long), Cond.fieldLink RX1 32 "ShadeTree$Grid" "rightmost" "J", Cond.fieldLink RX1 29 "ShadeTree$Grid" "leftmost" "J", Cond.methodLink RX7 209 yX7_fraction, Cond.static yX7_fraction, Cond.code yX7_fraction cX7_fraction 4 (some .int)]
def wsX7_share_r4 : List Cond := [Cond.methodLink RX7 302 Lib.Math.abs.name, Cond.static Lib.Math.abs.name, Cond.initialized "java/lang/Math", Cond.code Lib.Math.abs.name Lib.Math.abs.code 1 (some .int), Cond.methodLink RX7 307 yX7_commonDivisor, Cond.static yX7_commonDivisor, Cond.code yX7_commonDivisor cX7_commonDivisor 6 (some .int)]
def wsX7_share : List Cond := .code yX7_share cX7_share 4 (some .int) :: ((wsX7_share_r1 ++ (wsX7_share_r2 ++ (wsX7_share_r3 ++ wsX7_share_r4))) ++ wsX70 ++ wsX10 ++ wsX20)
def wsX7_see_r1 : List Cond := [Cond.fieldLink RX7 19 "ShadeTree" "grid" "LShadeTree$Grid;", Cond.fieldLink RX7 64 "ShadeTree" "sights" "LShadeTree$Sights;", Cond.methodLink RX7 132 yX1_hasDot, Cond.instanceMethod yX1_hasDot, Cond.selects RX1 yX1_hasDot yX1_hasDot, Cond.initialized RX1, Cond.code yX1_hasDot cX1_hasDot 2 (some .boolean), Cond.methodLink RX1 35 yX1_size, Cond.instanceMethod yX1_size, Cond.selects RX1 yX1_size yX1_size, Cond.code yX1_size cX1_size 1 (some .int), Cond.fieldLink RX1 19 "ShadeTree$Grid" "wide" "I", Cond.fieldLink RX1 22 "ShadeTree$Grid" "high" "I", Cond.methodLink RX7 239 yX3_add, Cond.instanceMethod yX3_add, Cond.selects RX3 yX3_add yX3_add, Cond.initialized RX3, Cond.code yX3_add cX3_add 4 (some .boolean), Cond.fieldLink RX3 20 "ShadeTree$Sights" "size" "I", Cond.fieldLink RX3 9 "ShadeTree$Sights" "ones" "[I", Cond.fieldLink RX3 13 "ShadeTree$Sights" "others" "[I", Cond.fieldLink RX3 16 "ShadeTree$Sights" "joined" "[Z", Cond.methodLink RX7 131 yX3_size, Cond.instanceMethod yX3_size]
def wsX7_see_r2 : List Cond := [Cond.selects RX3 yX3_size yX3_size, Cond.code yX3_size cX3_size 1 (some .int)]
def wsX7_see : List Cond := .code yX7_see cX7_see 4 (some .int) :: ((wsX7_see_r1 ++ wsX7_see_r2) ++ wsX70 ++ wsX10 ++ wsX30)
def wsX7_unsee : List Cond := .code yX7_unsee cX7_unsee 2 (some .int) :: ([.fieldLink RX7 64 "ShadeTree" "sights" "LShadeTree$Sights;", .methodLink RX7 131 yX3_size, .instanceMethod yX3_size, .selects RX3 yX3_size yX3_size, .initialized RX3, .code yX3_size cX3_size 1 (some .int), .fieldLink RX3 20 "ShadeTree$Sights" "size" "I", .methodLink RX7 242 yX3_clear, .instanceMethod yX3_clear, .selects RX3 yX3_clear yX3_clear, .code yX3_clear cX3_clear 1 none] ++ wsX70 ++ wsX30)
def wsX7_ways_r1 : List Cond := [Cond.fieldLink RX7 64 "ShadeTree" "sights" "LShadeTree$Sights;", Cond.fieldLink RX7 19 "ShadeTree" "grid" "LShadeTree$Grid;", Cond.fieldLink RX7 28 "ShadeTree" "now" "LShadeTree$Shades;", Cond.methodLink RX7 174 yX2_atLeast, Cond.instanceMethod yX2_atLeast, Cond.selects RX2 yX2_atLeast yX2_atLeast, Cond.initialized RX2, Cond.code yX2_atLeast cX2_atLeast 2 (some .long), Cond.fieldLink RX2 9 "ShadeTree$Shades" "layers" "[J", Cond.methodLink RX7 243 yX3_hold, Cond.instanceMethod yX3_hold, Cond.selects RX3 yX3_hold yX3_hold, Cond.initialized RX3, Cond.code yX3_hold cX3_hold 6 (some .boolean), Cond.fieldLink RX3 20 "ShadeTree$Sights" "size" "I", Cond.fieldLink RX3 9 "ShadeTree$Sights" "ones" "[I", Cond.fieldLink RX3 13 "ShadeTree$Sights" "others" "[I", Cond.fieldLink RX3 16 "ShadeTree$Sights" "joined" "[Z", Cond.methodLink RX3 24 yX1_joined, Cond.instanceMethod yX1_joined, Cond.selects RX1 yX1_joined yX1_joined, Cond.initialized RX1, Cond.code yX1_joined cX1_joined 6 (some .boolean), Cond.methodLink RX1 49 yX1_hasDot]
def wsX7_ways_r2 : List Cond := [Cond.instanceMethod yX1_hasDot, Cond.selects RX1 yX1_hasDot yX1_hasDot, Cond.code yX1_hasDot cX1_hasDot 2 (some .boolean), Cond.methodLink RX1 35 yX1_size, Cond.instanceMethod yX1_size, Cond.selects RX1 yX1_size yX1_size, Cond.code yX1_size cX1_size 1 (some .int), Cond.fieldLink RX1 19 "ShadeTree$Grid" "wide" "I", Cond.fieldLink RX1 22 "ShadeTree$Grid" "high" "I", Cond.methodLink RX1 53 yX1_partAround, Cond.instanceMethod yX1_partAround, Cond.selects RX1 yX1_partAround yX1_partAround, Cond.code yX1_partAround cX1_partAround 11 (some .long), Cond.methodLink RX1 43 yX1_spread, Cond.instanceMethod yX1_spread, Cond.selects RX1 yX1_spread yX1_spread, Cond.code yX1_spread cX1_spread 8 (some .long), Cond.fieldLink RX1 32 "ShadeTree$Grid" "rightmost" "J", Cond.constantLong RX1 47 (-1), Cond.fieldLink RX1 29 "ShadeTree$Grid" "leftmost" "J"]
def wsX7_ways : List Cond := .code yX7_ways cX7_ways 6 (some .int) :: ((wsX7_ways_r1 ++ wsX7_ways_r2) ++ wsX70 ++ wsX20 ++ wsX30 ++ wsX10)
def wsX7_power : List Cond := .code yX7_power cX7_power 4 (some .int) :: ([])
def wsX7_fadedOut_r1 : List Cond := [Cond.fieldLink RX7 19 "ShadeTree" "grid" "LShadeTree$Grid;", Cond.constantLong RX7 169 (-1), Cond.methodLink RX7 107 yX1_way, Cond.instanceMethod yX1_way, Cond.selects RX1 yX1_way yX1_way, Cond.initialized RX1, Cond.code yX1_way cX1_way 1 (some .int), Cond.fieldLink RX1 15 "ShadeTree$Grid" "way" "I", Cond.methodLink RX7 177 yX1_countParts, Cond.instanceMethod yX1_countParts, Cond.selects RX1 yX1_countParts yX1_countParts, Cond.code yX1_countParts cX1_countParts 7 (some .int), Cond.constantLong RX1 47 (-1), Cond.methodLink RX1 53 yX1_partAround, Cond.instanceMethod yX1_partAround, Cond.selects RX1 yX1_partAround yX1_partAround, Cond.code yX1_partAround cX1_partAround 11 (some .long), Cond.methodLink RX1 43 yX1_spread, Cond.instanceMethod yX1_spread, Cond.selects RX1 yX1_spread yX1_spread, Cond.code yX1_spread cX1_spread 8 (some .long), Cond.fieldLink RX1 32 "ShadeTree$Grid" "rightmost" "J", Cond.fieldLink RX1 29 "ShadeTree$Grid" "leftmost" "J", Cond.fieldLink RX1 19 "ShadeTree$Grid" "wide" "I"]
def wsX7_fadedOut_r2 : List Cond := [Cond.methodLink RX7 146 yJ13_bitCount_95d88, Cond.static yJ13_bitCount_95d88, Cond.initialized RJ13, Cond.code yJ13_bitCount_95d88 cJ13_bitCount_95d88 2 (some .int), Cond.constantLong RJ13 314 (6148914691236517205), Cond.constantLong RJ13 316 (3689348814741910323), Cond.constantLong RJ13 318 (1085102592571150095), Cond.methodLink RX7 254 yX7_power, Cond.static yX7_power, Cond.initialized RX7, Cond.code yX7_power cX7_power 4 (some .int)]
def wsX7_fadedOut : List Cond := .code yX7_fadedOut cX7_fadedOut 11 (some .int) :: ((wsX7_fadedOut_r1 ++ wsX7_fadedOut_r2) ++ wsX70 ++ wsX10)
def wsX7_fades_r1 : List Cond := [Cond.fieldLink RX7 19 "ShadeTree" "grid" "LShadeTree$Grid;", Cond.fieldLink RX7 28 "ShadeTree" "now" "LShadeTree$Shades;", Cond.methodLink RX7 230 yX1_hasRow, Cond.instanceMethod yX1_hasRow, Cond.selects RX1 yX1_hasRow yX1_hasRow, Cond.initialized RX1, Cond.code yX1_hasRow cX1_hasRow 2 (some .boolean), Cond.fieldLink RX1 22 "ShadeTree$Grid" "high" "I", Cond.methodLink RX7 174 yX2_atLeast, Cond.instanceMethod yX2_atLeast, Cond.selects RX2 yX2_atLeast yX2_atLeast, Cond.initialized RX2, Cond.code yX2_atLeast cX2_atLeast 2 (some .long), Cond.fieldLink RX2 9 "ShadeTree$Shades" "layers" "[J", Cond.methodLink RX7 247 yX1_row, Cond.instanceMethod yX1_row, Cond.selects RX1 yX1_row yX1_row, Cond.code yX1_row cX1_row 2 (some .long), Cond.fieldLink RX1 19 "ShadeTree$Grid" "wide" "I", Cond.methodLink RX7 250 yX7_fadedOut, Cond.instanceMethod yX7_fadedOut, Cond.selects RX7 yX7_fadedOut yX7_fadedOut, Cond.initialized RX7, Cond.code yX7_fadedOut cX7_fadedOut 11 (some .int)]
def wsX7_fades_r2 : List Cond := [Cond.constantLong RX7 169 (-1), Cond.methodLink RX7 107 yX1_way, Cond.instanceMethod yX1_way, Cond.selects RX1 yX1_way yX1_way, Cond.code yX1_way cX1_way 1 (some .int), Cond.fieldLink RX1 15 "ShadeTree$Grid" "way" "I", Cond.methodLink RX7 177 yX1_countParts, Cond.instanceMethod yX1_countParts, Cond.selects RX1 yX1_countParts yX1_countParts, Cond.code yX1_countParts cX1_countParts 7 (some .int), Cond.constantLong RX1 47 (-1), Cond.methodLink RX1 53 yX1_partAround, Cond.instanceMethod yX1_partAround, Cond.selects RX1 yX1_partAround yX1_partAround, Cond.code yX1_partAround cX1_partAround 11 (some .long), Cond.methodLink RX1 43 yX1_spread, Cond.instanceMethod yX1_spread, Cond.selects RX1 yX1_spread yX1_spread, Cond.code yX1_spread cX1_spread 8 (some .long), Cond.fieldLink RX1 32 "ShadeTree$Grid" "rightmost" "J", Cond.fieldLink RX1 29 "ShadeTree$Grid" "leftmost" "J", Cond.methodLink RX7 146 yJ13_bitCount_95d88, Cond.static yJ13_bitCount_95d88, Cond.initialized RJ13]
def wsX7_fades_r3 : List Cond := [Cond.code yJ13_bitCount_95d88 cJ13_bitCount_95d88 2 (some .int), Cond.constantLong RJ13 314 (6148914691236517205), Cond.constantLong RJ13 316 (3689348814741910323), Cond.constantLong RJ13 318 (1085102592571150095), Cond.methodLink RX7 254 yX7_power, Cond.static yX7_power, Cond.code yX7_power cX7_power 4 (some .int), Cond.methodLink RX7 209 yX7_fraction, Cond.static yX7_fraction, Cond.code yX7_fraction cX7_fraction 4 (some .int), Cond.methodLink RX7 302 Lib.Math.abs.name, Cond.static Lib.Math.abs.name, Cond.initialized "java/lang/Math", Cond.code Lib.Math.abs.name Lib.Math.abs.code 1 (some .int), Cond.methodLink RX7 307 yX7_commonDivisor, Cond.static yX7_commonDivisor, Cond.code yX7_commonDivisor cX7_commonDivisor 6 (some .int)]
def wsX7_fades : List Cond := .code yX7_fades cX7_fades 10 (some .int) :: ((wsX7_fades_r1 ++ (wsX7_fades_r2 ++ wsX7_fades_r3)) ++ wsX70 ++ wsX10 ++ wsX20)
def wsX7_seed : List Cond := .code yX7_seed cX7_seed 5 (some .long) :: ([.fieldLink RX7 68 "ShadeTree" "seedNow" "J"] ++ wsX70)
def wsX7_change_r1 : List Cond := [Cond.fieldLink RX7 19 "ShadeTree" "grid" "LShadeTree$Grid;", Cond.constantLong RX7 288 (64), Cond.constantLong RX7 290 (12), Cond.fieldLink RX7 41 "ShadeTree" "trial" "LShadeTree$Shades;", Cond.methodLink RX7 97 yX1_size, Cond.instanceMethod yX1_size, Cond.selects RX1 yX1_size yX1_size, Cond.initialized RX1, Cond.code yX1_size cX1_size 1 (some .int), Cond.fieldLink RX1 19 "ShadeTree$Grid" "wide" "I", Cond.fieldLink RX1 22 "ShadeTree$Grid" "high" "I", Cond.methodLink RX7 98 yX2_set, Cond.instanceMethod yX2_set, Cond.selects RX2 yX2_set yX2_set, Cond.initialized RX2, Cond.code yX2_set cX2_set 6 none, Cond.fieldLink RX2 9 "ShadeTree$Shades" "layers" "[J", Cond.constantLong RX2 38 (-1), Cond.methodLink RX7 183 yX2_turn, Cond.instanceMethod yX2_turn, Cond.selects RX2 yX2_turn yX2_turn, Cond.code yX2_turn cX2_turn 4 none, Cond.fieldLink RX2 15 "ShadeTree$Shades" "grid" "LShadeTree$Grid;", Cond.methodLink RX2 22 yX1_all]
def wsX7_change_r2 : List Cond := [Cond.instanceMethod yX1_all, Cond.selects RX1 yX1_all yX1_all, Cond.code yX1_all cX1_all 1 (some .long), Cond.fieldLink RX1 25 "ShadeTree$Grid" "all" "J", Cond.methodLink RX2 34 yX2_atLeast, Cond.instanceMethod yX2_atLeast, Cond.selects RX2 yX2_atLeast yX2_atLeast, Cond.code yX2_atLeast cX2_atLeast 2 (some .long), Cond.methodLink RX2 40 yX2_put, Cond.instanceMethod yX2_put, Cond.selects RX2 yX2_put yX2_put, Cond.code yX2_put cX2_put 4 none, Cond.methodLink RX7 190 yX2_thin, Cond.instanceMethod yX2_thin, Cond.selects RX2 yX2_thin yX2_thin, Cond.code yX2_thin cX2_thin 8 (some .int), Cond.methodLink RX2 44 yX2_bigParts, Cond.instanceMethod yX2_bigParts, Cond.selects RX2 yX2_bigParts yX2_bigParts, Cond.code yX2_bigParts cX2_bigParts 12 (some .long), Cond.methodLink RX2 48 yX1_way, Cond.instanceMethod yX1_way, Cond.selects RX1 yX1_way yX1_way, Cond.code yX1_way cX1_way 1 (some .int)]
def wsX7_change_r3 : List Cond := [Cond.fieldLink RX1 15 "ShadeTree$Grid" "way" "I", Cond.methodLink RX2 52 yX1_partAround, Cond.instanceMethod yX1_partAround, Cond.selects RX1 yX1_partAround yX1_partAround, Cond.code yX1_partAround cX1_partAround 11 (some .long), Cond.methodLink RX1 43 yX1_spread, Cond.instanceMethod yX1_spread, Cond.selects RX1 yX1_spread yX1_spread, Cond.code yX1_spread cX1_spread 8 (some .long), Cond.fieldLink RX1 32 "ShadeTree$Grid" "rightmost" "J", Cond.constantLong RX1 47 (-1), Cond.fieldLink RX1 29 "ShadeTree$Grid" "leftmost" "J", Cond.methodLink RX2 56 yX2_isBig, Cond.instanceMethod yX2_isBig, Cond.selects RX2 yX2_isBig yX2_isBig, Cond.code yX2_isBig cX2_isBig 5 (some .boolean), Cond.methodLink RX2 28 yJ13_bitCount_95d88, Cond.static yJ13_bitCount_95d88, Cond.initialized RJ13, Cond.code yJ13_bitCount_95d88 cJ13_bitCount_95d88 2 (some .int), Cond.constantLong RJ13 314 (6148914691236517205), Cond.constantLong RJ13 316 (3689348814741910323), Cond.constantLong RJ13 318 (1085102592571150095), Cond.methodLink RX2 60 yX1_columnsOf]
def wsX7_change_r4 : List Cond := [Cond.instanceMethod yX1_columnsOf, Cond.selects RX1 yX1_columnsOf yX1_columnsOf, Cond.code yX1_columnsOf cX1_columnsOf 5 (some .int), Cond.methodLink RX2 63 yX1_rowsOf, Cond.instanceMethod yX1_rowsOf, Cond.selects RX1 yX1_rowsOf yX1_rowsOf, Cond.code yX1_rowsOf cX1_rowsOf 5 (some .int), Cond.methodLink RX1 39 yX1_row, Cond.instanceMethod yX1_row, Cond.selects RX1 yX1_row yX1_row, Cond.code yX1_row cX1_row 2 (some .long)]
def wsX7_change : List Cond := .code yX7_change cX7_change 6 none :: ((wsX7_change_r1 ++ (wsX7_change_r2 ++ (wsX7_change_r3 ++ wsX7_change_r4))) ++ wsX70 ++ wsX10 ++ wsX20)
def wsX7_drawn_r1 : List Cond := [Cond.fieldLink RX7 41 "ShadeTree" "trial" "LShadeTree$Shades;", Cond.fieldLink RX7 28 "ShadeTree" "now" "LShadeTree$Shades;", Cond.fieldLink RX7 68 "ShadeTree" "seedNow" "J", Cond.constantLong RX7 257 (6364136223846793005), Cond.constantLong RX7 259 (1442695040888963407), Cond.fieldLink RX7 44 "ShadeTree" "trialTree" "LShadeTree$Tree;", Cond.methodLink RX7 221 yX2_copy, Cond.instanceMethod yX2_copy, Cond.selects RX2 yX2_copy yX2_copy, Cond.initialized RX2, Cond.code yX2_copy cX2_copy 2 none, Cond.fieldLink RX2 9 "ShadeTree$Shades" "layers" "[J", Cond.methodLink RX2 66 yX2_store, Cond.instanceMethod yX2_store, Cond.selects RX2 yX2_store yX2_store, Cond.code yX2_store cX2_store 3 none, Cond.methodLink RX2 70 arraycopyName, Cond.native arraycopyName, Cond.static arraycopyName, Cond.initialized "java/lang/System", Cond.methodLink RX7 261 yX7_change, Cond.instanceMethod yX7_change, Cond.selects RX7 yX7_change yX7_change, Cond.initialized RX7]
def wsX7_drawn_r2 : List Cond := [Cond.code yX7_change cX7_change 6 none, Cond.fieldLink RX7 19 "ShadeTree" "grid" "LShadeTree$Grid;", Cond.constantLong RX7 288 (64), Cond.constantLong RX7 290 (12), Cond.methodLink RX7 97 yX1_size, Cond.instanceMethod yX1_size, Cond.selects RX1 yX1_size yX1_size, Cond.initialized RX1, Cond.code yX1_size cX1_size 1 (some .int), Cond.fieldLink RX1 19 "ShadeTree$Grid" "wide" "I", Cond.fieldLink RX1 22 "ShadeTree$Grid" "high" "I", Cond.methodLink RX7 98 yX2_set, Cond.instanceMethod yX2_set, Cond.selects RX2 yX2_set yX2_set, Cond.code yX2_set cX2_set 6 none, Cond.constantLong RX2 38 (-1), Cond.methodLink RX7 183 yX2_turn, Cond.instanceMethod yX2_turn, Cond.selects RX2 yX2_turn yX2_turn, Cond.code yX2_turn cX2_turn 4 none, Cond.fieldLink RX2 15 "ShadeTree$Shades" "grid" "LShadeTree$Grid;", Cond.methodLink RX2 22 yX1_all, Cond.instanceMethod yX1_all, Cond.selects RX1 yX1_all yX1_all]
def wsX7_drawn_r3 : List Cond := [Cond.code yX1_all cX1_all 1 (some .long), Cond.fieldLink RX1 25 "ShadeTree$Grid" "all" "J", Cond.methodLink RX2 34 yX2_atLeast, Cond.instanceMethod yX2_atLeast, Cond.selects RX2 yX2_atLeast yX2_atLeast, Cond.code yX2_atLeast cX2_atLeast 2 (some .long), Cond.methodLink RX2 40 yX2_put, Cond.instanceMethod yX2_put, Cond.selects RX2 yX2_put yX2_put, Cond.code yX2_put cX2_put 4 none, Cond.methodLink RX7 190 yX2_thin, Cond.instanceMethod yX2_thin, Cond.selects RX2 yX2_thin yX2_thin, Cond.code yX2_thin cX2_thin 8 (some .int), Cond.methodLink RX2 44 yX2_bigParts, Cond.instanceMethod yX2_bigParts, Cond.selects RX2 yX2_bigParts yX2_bigParts, Cond.code yX2_bigParts cX2_bigParts 12 (some .long), Cond.methodLink RX2 48 yX1_way, Cond.instanceMethod yX1_way, Cond.selects RX1 yX1_way yX1_way, Cond.code yX1_way cX1_way 1 (some .int), Cond.fieldLink RX1 15 "ShadeTree$Grid" "way" "I", Cond.methodLink RX2 52 yX1_partAround]
def wsX7_drawn_r4 : List Cond := [Cond.instanceMethod yX1_partAround, Cond.selects RX1 yX1_partAround yX1_partAround, Cond.code yX1_partAround cX1_partAround 11 (some .long), Cond.methodLink RX1 43 yX1_spread, Cond.instanceMethod yX1_spread, Cond.selects RX1 yX1_spread yX1_spread, Cond.code yX1_spread cX1_spread 8 (some .long), Cond.fieldLink RX1 32 "ShadeTree$Grid" "rightmost" "J", Cond.constantLong RX1 47 (-1), Cond.fieldLink RX1 29 "ShadeTree$Grid" "leftmost" "J", Cond.methodLink RX2 56 yX2_isBig, Cond.instanceMethod yX2_isBig, Cond.selects RX2 yX2_isBig yX2_isBig, Cond.code yX2_isBig cX2_isBig 5 (some .boolean), Cond.methodLink RX2 28 yJ13_bitCount_95d88, Cond.static yJ13_bitCount_95d88, Cond.initialized RJ13, Cond.code yJ13_bitCount_95d88 cJ13_bitCount_95d88 2 (some .int), Cond.constantLong RJ13 314 (6148914691236517205), Cond.constantLong RJ13 316 (3689348814741910323), Cond.constantLong RJ13 318 (1085102592571150095), Cond.methodLink RX2 60 yX1_columnsOf, Cond.instanceMethod yX1_columnsOf, Cond.selects RX1 yX1_columnsOf yX1_columnsOf]
def wsX7_drawn_r5 : List Cond := [Cond.code yX1_columnsOf cX1_columnsOf 5 (some .int), Cond.methodLink RX2 63 yX1_rowsOf, Cond.instanceMethod yX1_rowsOf, Cond.selects RX1 yX1_rowsOf yX1_rowsOf, Cond.code yX1_rowsOf cX1_rowsOf 5 (some .int), Cond.methodLink RX1 39 yX1_row, Cond.instanceMethod yX1_row, Cond.selects RX1 yX1_row yX1_row, Cond.code yX1_row cX1_row 2 (some .long), Cond.methodLink RX7 104 yX6_countNodes, Cond.instanceMethod yX6_countNodes, Cond.selects RX6 yX6_countNodes yX6_countNodes, Cond.initialized RX6, Cond.code yX6_countNodes cX6_countNodes 1 (some .int), Cond.fieldLink RX6 95 "ShadeTree$Tree" "size" "I", Cond.methodLink RX6 92 yX6_gather, Cond.instanceMethod yX6_gather, Cond.selects RX6 yX6_gather yX6_gather, Cond.code yX6_gather cX6_gather 6 none, Cond.fieldLink RX6 9 "ShadeTree$Tree" "nodeParts" "[J", Cond.fieldLink RX6 15 "ShadeTree$Tree" "nodeLevels" "[I", Cond.constantLong RX6 43 (-1), Cond.methodLink RX6 57 yX6_ofLevel, Cond.instanceMethod yX6_ofLevel]
def wsX7_drawn_r6 : List Cond := [Cond.selects RX6 yX6_ofLevel yX6_ofLevel, Cond.code yX6_ofLevel cX6_ofLevel 2 (some .long), Cond.fieldLink RX6 23 "ShadeTree$Tree" "shades" "LShadeTree$Shades;", Cond.methodLink RX6 27 yX2_atLeast, Cond.methodLink RX6 53 yX6_partAt, Cond.instanceMethod yX6_partAt, Cond.selects RX6 yX6_partAt yX6_partAt, Cond.code yX6_partAt cX6_partAt 4 (some .long), Cond.fieldLink RX6 19 "ShadeTree$Tree" "grid" "LShadeTree$Grid;", Cond.methodLink RX6 33 yX1_way, Cond.methodLink RX6 39 yX1_partAround]
def wsX7_drawn : List Cond := .code yX7_drawn cX7_drawn 4 (some .int) :: ((wsX7_drawn_r1 ++ (wsX7_drawn_r2 ++ (wsX7_drawn_r3 ++ (wsX7_drawn_r4 ++ (wsX7_drawn_r5 ++ wsX7_drawn_r6))))) ++ wsX70 ++ wsX20 ++ wsX10 ++ wsX60)
def wsX7_keep_r1 : List Cond := [Cond.fieldLink RX7 57 "ShadeTree" "slots" "LShadeTree$Slots;", Cond.fieldLink RX7 28 "ShadeTree" "now" "LShadeTree$Shades;", Cond.fieldLink RX7 37 "ShadeTree" "tree" "LShadeTree$Tree;", Cond.methodLink RX7 265 yX4_put, Cond.instanceMethod yX4_put, Cond.selects RX4 yX4_put yX4_put, Cond.initialized RX4, Cond.code yX4_put cX4_put 3 (some .boolean), Cond.fieldLink RX4 15 "ShadeTree$Slots" "used" "[Z", Cond.fieldLink RX4 11 "ShadeTree$Slots" "kept" "[J", Cond.methodLink RX4 19 yX2_store, Cond.instanceMethod yX2_store, Cond.selects RX2 yX2_store yX2_store, Cond.initialized RX2, Cond.code yX2_store cX2_store 3 none, Cond.fieldLink RX2 9 "ShadeTree$Shades" "layers" "[J", Cond.methodLink RX2 70 arraycopyName, Cond.native arraycopyName, Cond.static arraycopyName, Cond.initialized "java/lang/System", Cond.methodLink RX7 104 yX6_countNodes, Cond.instanceMethod yX6_countNodes, Cond.selects RX6 yX6_countNodes yX6_countNodes, Cond.initialized RX6]
def wsX7_keep_r2 : List Cond := [Cond.code yX6_countNodes cX6_countNodes 1 (some .int), Cond.fieldLink RX6 95 "ShadeTree$Tree" "size" "I", Cond.methodLink RX6 92 yX6_gather, Cond.instanceMethod yX6_gather, Cond.selects RX6 yX6_gather yX6_gather, Cond.code yX6_gather cX6_gather 6 none, Cond.fieldLink RX6 9 "ShadeTree$Tree" "nodeParts" "[J", Cond.fieldLink RX6 15 "ShadeTree$Tree" "nodeLevels" "[I", Cond.constantLong RX6 43 (-1), Cond.methodLink RX6 57 yX6_ofLevel, Cond.instanceMethod yX6_ofLevel, Cond.selects RX6 yX6_ofLevel yX6_ofLevel, Cond.code yX6_ofLevel cX6_ofLevel 2 (some .long), Cond.fieldLink RX6 23 "ShadeTree$Tree" "shades" "LShadeTree$Shades;", Cond.methodLink RX6 27 yX2_atLeast, Cond.instanceMethod yX2_atLeast, Cond.selects RX2 yX2_atLeast yX2_atLeast, Cond.code yX2_atLeast cX2_atLeast 2 (some .long), Cond.methodLink RX6 53 yX6_partAt, Cond.instanceMethod yX6_partAt, Cond.selects RX6 yX6_partAt yX6_partAt, Cond.code yX6_partAt cX6_partAt 4 (some .long), Cond.fieldLink RX6 19 "ShadeTree$Tree" "grid" "LShadeTree$Grid;", Cond.methodLink RX6 33 yX1_way]
def wsX7_keep_r3 : List Cond := [Cond.instanceMethod yX1_way, Cond.selects RX1 yX1_way yX1_way, Cond.initialized RX1, Cond.code yX1_way cX1_way 1 (some .int), Cond.fieldLink RX1 15 "ShadeTree$Grid" "way" "I", Cond.methodLink RX6 39 yX1_partAround, Cond.instanceMethod yX1_partAround, Cond.selects RX1 yX1_partAround yX1_partAround, Cond.code yX1_partAround cX1_partAround 11 (some .long), Cond.methodLink RX1 43 yX1_spread, Cond.instanceMethod yX1_spread, Cond.selects RX1 yX1_spread yX1_spread, Cond.code yX1_spread cX1_spread 8 (some .long), Cond.fieldLink RX1 32 "ShadeTree$Grid" "rightmost" "J", Cond.constantLong RX1 47 (-1), Cond.fieldLink RX1 29 "ShadeTree$Grid" "leftmost" "J", Cond.fieldLink RX1 19 "ShadeTree$Grid" "wide" "I"]
def wsX7_keep : List Cond := .code yX7_keep cX7_keep 2 (some .int) :: ((wsX7_keep_r1 ++ (wsX7_keep_r2 ++ wsX7_keep_r3)) ++ wsX70 ++ wsX40 ++ wsX20 ++ wsX60 ++ wsX10)
def wsX7_again_r1 : List Cond := [Cond.fieldLink RX7 57 "ShadeTree" "slots" "LShadeTree$Slots;", Cond.fieldLink RX7 28 "ShadeTree" "now" "LShadeTree$Shades;", Cond.fieldLink RX7 50 "ShadeTree" "doings" "LShadeTree$Doings;", Cond.fieldLink RX7 37 "ShadeTree" "tree" "LShadeTree$Tree;", Cond.methodLink RX7 269 yX4_has, Cond.instanceMethod yX4_has, Cond.selects RX4 yX4_has yX4_has, Cond.initialized RX4, Cond.code yX4_has cX4_has 2 (some .boolean), Cond.fieldLink RX4 15 "ShadeTree$Slots" "used" "[Z", Cond.methodLink RX7 272 yX4_bringBack, Cond.instanceMethod yX4_bringBack, Cond.selects RX4 yX4_bringBack yX4_bringBack, Cond.code yX4_bringBack cX4_bringBack 3 (some .boolean), Cond.fieldLink RX4 11 "ShadeTree$Slots" "kept" "[J", Cond.methodLink RX4 25 yX2_load, Cond.instanceMethod yX2_load, Cond.selects RX2 yX2_load yX2_load, Cond.initialized RX2, Cond.code yX2_load cX2_load 3 none, Cond.fieldLink RX2 9 "ShadeTree$Shades" "layers" "[J", Cond.methodLink RX2 70 arraycopyName, Cond.native arraycopyName, Cond.static arraycopyName]
def wsX7_again_r2 : List Cond := [Cond.initialized "java/lang/System", Cond.methodLink RX7 102 yX0_clear, Cond.instanceMethod yX0_clear, Cond.selects RX0 yX0_clear yX0_clear, Cond.initialized RX0, Cond.code yX0_clear cX0_clear 1 none, Cond.fieldLink RX0 15 "ShadeTree$Doings" "size" "I", Cond.methodLink RX7 104 yX6_countNodes, Cond.instanceMethod yX6_countNodes, Cond.selects RX6 yX6_countNodes yX6_countNodes, Cond.initialized RX6, Cond.code yX6_countNodes cX6_countNodes 1 (some .int), Cond.fieldLink RX6 95 "ShadeTree$Tree" "size" "I", Cond.methodLink RX6 92 yX6_gather, Cond.instanceMethod yX6_gather, Cond.selects RX6 yX6_gather yX6_gather, Cond.code yX6_gather cX6_gather 6 none, Cond.fieldLink RX6 9 "ShadeTree$Tree" "nodeParts" "[J", Cond.fieldLink RX6 15 "ShadeTree$Tree" "nodeLevels" "[I", Cond.constantLong RX6 43 (-1), Cond.methodLink RX6 57 yX6_ofLevel, Cond.instanceMethod yX6_ofLevel, Cond.selects RX6 yX6_ofLevel yX6_ofLevel, Cond.code yX6_ofLevel cX6_ofLevel 2 (some .long)]
def wsX7_again_r3 : List Cond := [Cond.fieldLink RX6 23 "ShadeTree$Tree" "shades" "LShadeTree$Shades;", Cond.methodLink RX6 27 yX2_atLeast, Cond.instanceMethod yX2_atLeast, Cond.selects RX2 yX2_atLeast yX2_atLeast, Cond.code yX2_atLeast cX2_atLeast 2 (some .long), Cond.methodLink RX6 53 yX6_partAt, Cond.instanceMethod yX6_partAt, Cond.selects RX6 yX6_partAt yX6_partAt, Cond.code yX6_partAt cX6_partAt 4 (some .long), Cond.fieldLink RX6 19 "ShadeTree$Tree" "grid" "LShadeTree$Grid;", Cond.methodLink RX6 33 yX1_way, Cond.instanceMethod yX1_way, Cond.selects RX1 yX1_way yX1_way, Cond.initialized RX1, Cond.code yX1_way cX1_way 1 (some .int), Cond.fieldLink RX1 15 "ShadeTree$Grid" "way" "I", Cond.methodLink RX6 39 yX1_partAround, Cond.instanceMethod yX1_partAround, Cond.selects RX1 yX1_partAround yX1_partAround, Cond.code yX1_partAround cX1_partAround 11 (some .long), Cond.methodLink RX1 43 yX1_spread, Cond.instanceMethod yX1_spread, Cond.selects RX1 yX1_spread yX1_spread, Cond.code yX1_spread cX1_spread 8 (some .long)]
def wsX7_again_r4 : List Cond := [Cond.fieldLink RX1 32 "ShadeTree$Grid" "rightmost" "J", Cond.constantLong RX1 47 (-1), Cond.fieldLink RX1 29 "ShadeTree$Grid" "leftmost" "J", Cond.fieldLink RX1 19 "ShadeTree$Grid" "wide" "I"]
def wsX7_again : List Cond := .code yX7_again cX7_again 2 (some .int) :: ((wsX7_again_r1 ++ (wsX7_again_r2 ++ (wsX7_again_r3 ++ wsX7_again_r4))) ++ wsX70 ++ wsX40 ++ wsX20 ++ wsX00 ++ wsX60 ++ wsX10)
def wsX8_init : List Cond := .code yX8_init cX8_init 1 none :: ([.methodLink RX8 1 objectInit, .instanceMethod objectInit, .code objectInit ⟨#[0xb1]⟩ 1 none, .arrayClass .int, .fieldLink RX8 7 "ShadeTreeModel" "text" "[I", .fieldLink RX8 13 "ShadeTreeModel" "readPage" "[I", .fieldLink RX8 16 "ShadeTreeModel" "page" "[I", .fieldLink RX8 19 "ShadeTreeModel" "trial" "[I", .fieldLink RX8 22 "ShadeTreeModel" "changed" "[I", .fieldLink RX8 25 "ShadeTreeModel" "book" "[I", .fieldLink RX8 28 "ShadeTreeModel" "kept" "[I", .arrayClass .boolean, .fieldLink RX8 31 "ShadeTreeModel" "isKept" "[Z", .fieldLink RX8 35 "ShadeTreeModel" "seenOne" "[I", .fieldLink RX8 38 "ShadeTreeModel" "seenOther" "[I", .fieldLink RX8 41 "ShadeTreeModel" "seenIs" "[I", .fieldLink RX8 44 "ShadeTreeModel" "value" "[I"] ++ wsX80)
def wsX8_in : List Cond := .code yX8_in cX8_in 6 (some .boolean) :: ([])
def wsX8_has : List Cond := .code yX8_has cX8_has 3 (some .boolean) :: ([])
def wsX8_many : List Cond := .code yX8_many cX8_many 4 (some .int) :: ([.methodLink RX8 51 yX8_has, .static yX8_has, .initialized RX8, .code yX8_has cX8_has 3 (some .boolean)])
def wsX8_power : List Cond := .code yX8_power cX8_power 4 (some .int) :: ([])
def wsX8_dotsOf : List Cond := .code yX8_dotsOf cX8_dotsOf 1 (some .int) :: ([])
def wsX8_noDot : List Cond := .code yX8_noDot cX8_noDot 2 (some .boolean) :: ([.fieldLink RX8 16 "ShadeTreeModel" "page" "[I", .methodLink RX8 55 yX8_dotsOf, .static yX8_dotsOf, .initialized RX8, .code yX8_dotsOf cX8_dotsOf 1 (some .int), .methodLink RX8 59 yX8_in, .static yX8_in, .code yX8_in cX8_in 6 (some .boolean)] ++ wsX80)
def wsX8_isBeside : List Cond := .code yX8_isBeside cX8_isBeside 7 (some .boolean) :: ([])
def wsX8_bright : List Cond := .code yX8_bright cX8_bright 7 (some .long) :: ([.methodLink RX8 55 yX8_dotsOf, .static yX8_dotsOf, .initialized RX8, .code yX8_dotsOf cX8_dotsOf 1 (some .int), .methodLink RX8 51 yX8_has, .static yX8_has, .code yX8_has cX8_has 3 (some .boolean)])
def wsX8_around : List Cond := .code yX8_around cX8_around 6 (some .long) :: ([.methodLink RX8 55 yX8_dotsOf, .static yX8_dotsOf, .initialized RX8, .code yX8_dotsOf cX8_dotsOf 1 (some .int), .methodLink RX8 63 yX8_isBeside, .static yX8_isBeside, .code yX8_isBeside cX8_isBeside 7 (some .boolean)])
def wsX8_spread : List Cond := .code yX8_spread cX8_spread 10 (some .long) :: ([.constantLong RX8 67 (-1), .methodLink RX8 51 yX8_has, .static yX8_has, .initialized RX8, .code yX8_has cX8_has 3 (some .boolean), .methodLink RX8 69 yX8_around, .static yX8_around, .code yX8_around cX8_around 6 (some .long), .methodLink RX8 55 yX8_dotsOf, .static yX8_dotsOf, .code yX8_dotsOf cX8_dotsOf 1 (some .int), .methodLink RX8 63 yX8_isBeside, .static yX8_isBeside, .code yX8_isBeside cX8_isBeside 7 (some .boolean)])
def wsX8_part : List Cond := .code yX8_part cX8_part 3 (some .long) :: ([.constantLong RX8 67 (-1), .methodLink RX8 73 yX8_bright, .static yX8_bright, .initialized RX8, .code yX8_bright cX8_bright 7 (some .long), .methodLink RX8 55 yX8_dotsOf, .static yX8_dotsOf, .code yX8_dotsOf cX8_dotsOf 1 (some .int), .methodLink RX8 51 yX8_has, .static yX8_has, .code yX8_has cX8_has 3 (some .boolean), .methodLink RX8 77 yX8_spread, .static yX8_spread, .code yX8_spread cX8_spread 10 (some .long), .methodLink RX8 69 yX8_around, .static yX8_around, .code yX8_around cX8_around 6 (some .long), .methodLink RX8 63 yX8_isBeside, .static yX8_isBeside, .code yX8_isBeside cX8_isBeside 7 (some .boolean)])
def wsX8_partsOf : List Cond := .code yX8_partsOf cX8_partsOf 8 (some .int) :: ([.constantLong RX8 67 (-1), .methodLink RX8 73 yX8_bright, .static yX8_bright, .initialized RX8, .code yX8_bright cX8_bright 7 (some .long), .methodLink RX8 55 yX8_dotsOf, .static yX8_dotsOf, .code yX8_dotsOf cX8_dotsOf 1 (some .int), .methodLink RX8 51 yX8_has, .static yX8_has, .code yX8_has cX8_has 3 (some .boolean), .methodLink RX8 77 yX8_spread, .static yX8_spread, .code yX8_spread cX8_spread 10 (some .long), .methodLink RX8 69 yX8_around, .static yX8_around, .code yX8_around cX8_around 6 (some .long), .methodLink RX8 63 yX8_isBeside, .static yX8_isBeside, .code yX8_isBeside cX8_isBeside 7 (some .boolean)])
def wsX8_nodeOf : List Cond := .code yX8_nodeOf cX8_nodeOf 2 (some .long) :: ([.methodLink RX8 81 yX8_part, .static yX8_part, .initialized RX8, .code yX8_part cX8_part 3 (some .long), .constantLong RX8 67 (-1), .methodLink RX8 73 yX8_bright, .static yX8_bright, .code yX8_bright cX8_bright 7 (some .long), .methodLink RX8 55 yX8_dotsOf, .static yX8_dotsOf, .code yX8_dotsOf cX8_dotsOf 1 (some .int), .methodLink RX8 51 yX8_has, .static yX8_has, .code yX8_has cX8_has 3 (some .boolean), .methodLink RX8 77 yX8_spread, .static yX8_spread, .code yX8_spread cX8_spread 10 (some .long), .methodLink RX8 69 yX8_around, .static yX8_around, .code yX8_around cX8_around 6 (some .long), .methodLink RX8 63 yX8_isBeside, .static yX8_isBeside, .code yX8_isBeside cX8_isBeside 7 (some .boolean)])
def wsX8_level : List Cond := .code yX8_level cX8_level 5 (some .int) :: ([.methodLink RX8 55 yX8_dotsOf, .static yX8_dotsOf, .initialized RX8, .code yX8_dotsOf cX8_dotsOf 1 (some .int), .methodLink RX8 51 yX8_has, .static yX8_has, .code yX8_has cX8_has 3 (some .boolean)])
def wsX8_brightest : List Cond := .code yX8_brightest cX8_brightest 5 (some .int) :: ([.methodLink RX8 55 yX8_dotsOf, .static yX8_dotsOf, .initialized RX8, .code yX8_dotsOf cX8_dotsOf 1 (some .int), .methodLink RX8 51 yX8_has, .static yX8_has, .code yX8_has cX8_has 3 (some .boolean)])
def wsX8_head : List Cond := .code yX8_head cX8_head 5 (some .int) :: ([.methodLink RX8 84 yX8_level, .static yX8_level, .initialized RX8, .code yX8_level cX8_level 5 (some .int), .methodLink RX8 55 yX8_dotsOf, .static yX8_dotsOf, .code yX8_dotsOf cX8_dotsOf 1 (some .int), .methodLink RX8 51 yX8_has, .static yX8_has, .code yX8_has cX8_has 3 (some .boolean)])
def wsX8_parent_r1 : List Cond := [Cond.methodLink RX8 88 yX8_head, Cond.static yX8_head, Cond.initialized RX8, Cond.code yX8_head cX8_head 5 (some .int), Cond.methodLink RX8 84 yX8_level, Cond.static yX8_level, Cond.code yX8_level cX8_level 5 (some .int), Cond.methodLink RX8 55 yX8_dotsOf, Cond.static yX8_dotsOf, Cond.code yX8_dotsOf cX8_dotsOf 1 (some .int), Cond.methodLink RX8 51 yX8_has, Cond.static yX8_has, Cond.code yX8_has cX8_has 3 (some .boolean), Cond.methodLink RX8 81 yX8_part, Cond.static yX8_part, Cond.code yX8_part cX8_part 3 (some .long), Cond.constantLong RX8 67 (-1), Cond.methodLink RX8 73 yX8_bright, Cond.static yX8_bright, Cond.code yX8_bright cX8_bright 7 (some .long), Cond.methodLink RX8 77 yX8_spread, Cond.static yX8_spread, Cond.code yX8_spread cX8_spread 10 (some .long), Cond.methodLink RX8 69 yX8_around]
def wsX8_parent_r2 : List Cond := [Cond.static yX8_around, Cond.code yX8_around cX8_around 6 (some .long), Cond.methodLink RX8 63 yX8_isBeside, Cond.static yX8_isBeside, Cond.code yX8_isBeside cX8_isBeside 7 (some .boolean)]
def wsX8_parent : List Cond := .code yX8_parent cX8_parent 7 (some .long) :: ((wsX8_parent_r1 ++ wsX8_parent_r2))
def wsX8_isHead_r1 : List Cond := [Cond.methodLink RX8 91 yX8_nodeOf, Cond.static yX8_nodeOf, Cond.initialized RX8, Cond.code yX8_nodeOf cX8_nodeOf 2 (some .long), Cond.methodLink RX8 81 yX8_part, Cond.static yX8_part, Cond.code yX8_part cX8_part 3 (some .long), Cond.constantLong RX8 67 (-1), Cond.methodLink RX8 73 yX8_bright, Cond.static yX8_bright, Cond.code yX8_bright cX8_bright 7 (some .long), Cond.methodLink RX8 55 yX8_dotsOf, Cond.static yX8_dotsOf, Cond.code yX8_dotsOf cX8_dotsOf 1 (some .int), Cond.methodLink RX8 51 yX8_has, Cond.static yX8_has, Cond.code yX8_has cX8_has 3 (some .boolean), Cond.methodLink RX8 77 yX8_spread, Cond.static yX8_spread, Cond.code yX8_spread cX8_spread 10 (some .long), Cond.methodLink RX8 69 yX8_around, Cond.static yX8_around, Cond.code yX8_around cX8_around 6 (some .long), Cond.methodLink RX8 63 yX8_isBeside]
def wsX8_isHead_r2 : List Cond := [Cond.static yX8_isBeside, Cond.code yX8_isBeside cX8_isBeside 7 (some .boolean), Cond.methodLink RX8 88 yX8_head, Cond.static yX8_head, Cond.code yX8_head cX8_head 5 (some .int), Cond.methodLink RX8 84 yX8_level, Cond.static yX8_level, Cond.code yX8_level cX8_level 5 (some .int)]
def wsX8_isHead : List Cond := .code yX8_isHead cX8_isHead 2 (some .boolean) :: ((wsX8_isHead_r1 ++ wsX8_isHead_r2))
def wsX8_nodes_r1 : List Cond := [Cond.methodLink RX8 55 yX8_dotsOf, Cond.static yX8_dotsOf, Cond.initialized RX8, Cond.code yX8_dotsOf cX8_dotsOf 1 (some .int), Cond.methodLink RX8 95 yX8_isHead, Cond.static yX8_isHead, Cond.code yX8_isHead cX8_isHead 2 (some .boolean), Cond.methodLink RX8 91 yX8_nodeOf, Cond.static yX8_nodeOf, Cond.code yX8_nodeOf cX8_nodeOf 2 (some .long), Cond.methodLink RX8 81 yX8_part, Cond.static yX8_part, Cond.code yX8_part cX8_part 3 (some .long), Cond.constantLong RX8 67 (-1), Cond.methodLink RX8 73 yX8_bright, Cond.static yX8_bright, Cond.code yX8_bright cX8_bright 7 (some .long), Cond.methodLink RX8 51 yX8_has, Cond.static yX8_has, Cond.code yX8_has cX8_has 3 (some .boolean), Cond.methodLink RX8 77 yX8_spread, Cond.static yX8_spread, Cond.code yX8_spread cX8_spread 10 (some .long), Cond.methodLink RX8 69 yX8_around]
def wsX8_nodes_r2 : List Cond := [Cond.static yX8_around, Cond.code yX8_around cX8_around 6 (some .long), Cond.methodLink RX8 63 yX8_isBeside, Cond.static yX8_isBeside, Cond.code yX8_isBeside cX8_isBeside 7 (some .boolean), Cond.methodLink RX8 88 yX8_head, Cond.static yX8_head, Cond.code yX8_head cX8_head 5 (some .int), Cond.methodLink RX8 84 yX8_level, Cond.static yX8_level, Cond.code yX8_level cX8_level 5 (some .int)]
def wsX8_nodes : List Cond := .code yX8_nodes cX8_nodes 3 (some .int) :: ((wsX8_nodes_r1 ++ wsX8_nodes_r2))
def wsX8_children_r1 : List Cond := [Cond.methodLink RX8 55 yX8_dotsOf, Cond.static yX8_dotsOf, Cond.initialized RX8, Cond.code yX8_dotsOf cX8_dotsOf 1 (some .int), Cond.methodLink RX8 51 yX8_has, Cond.static yX8_has, Cond.code yX8_has cX8_has 3 (some .boolean), Cond.methodLink RX8 95 yX8_isHead, Cond.static yX8_isHead, Cond.code yX8_isHead cX8_isHead 2 (some .boolean), Cond.methodLink RX8 91 yX8_nodeOf, Cond.static yX8_nodeOf, Cond.code yX8_nodeOf cX8_nodeOf 2 (some .long), Cond.methodLink RX8 81 yX8_part, Cond.static yX8_part, Cond.code yX8_part cX8_part 3 (some .long), Cond.constantLong RX8 67 (-1), Cond.methodLink RX8 73 yX8_bright, Cond.static yX8_bright, Cond.code yX8_bright cX8_bright 7 (some .long), Cond.methodLink RX8 77 yX8_spread, Cond.static yX8_spread, Cond.code yX8_spread cX8_spread 10 (some .long), Cond.methodLink RX8 69 yX8_around]
def wsX8_children_r2 : List Cond := [Cond.static yX8_around, Cond.code yX8_around cX8_around 6 (some .long), Cond.methodLink RX8 63 yX8_isBeside, Cond.static yX8_isBeside, Cond.code yX8_isBeside cX8_isBeside 7 (some .boolean), Cond.methodLink RX8 88 yX8_head, Cond.static yX8_head, Cond.code yX8_head cX8_head 5 (some .int), Cond.methodLink RX8 84 yX8_level, Cond.static yX8_level, Cond.code yX8_level cX8_level 5 (some .int), Cond.methodLink RX8 99 yX8_parent, Cond.static yX8_parent, Cond.code yX8_parent cX8_parent 7 (some .long)]
def wsX8_children : List Cond := .code yX8_children cX8_children 7 (some .int) :: ((wsX8_children_r1 ++ wsX8_children_r2))
def wsX8_depth_r1 : List Cond := [Cond.methodLink RX8 99 yX8_parent, Cond.static yX8_parent, Cond.initialized RX8, Cond.code yX8_parent cX8_parent 7 (some .long), Cond.methodLink RX8 88 yX8_head, Cond.static yX8_head, Cond.code yX8_head cX8_head 5 (some .int), Cond.methodLink RX8 84 yX8_level, Cond.static yX8_level, Cond.code yX8_level cX8_level 5 (some .int), Cond.methodLink RX8 55 yX8_dotsOf, Cond.static yX8_dotsOf, Cond.code yX8_dotsOf cX8_dotsOf 1 (some .int), Cond.methodLink RX8 51 yX8_has, Cond.static yX8_has, Cond.code yX8_has cX8_has 3 (some .boolean), Cond.methodLink RX8 81 yX8_part, Cond.static yX8_part, Cond.code yX8_part cX8_part 3 (some .long), Cond.constantLong RX8 67 (-1), Cond.methodLink RX8 73 yX8_bright, Cond.static yX8_bright, Cond.code yX8_bright cX8_bright 7 (some .long), Cond.methodLink RX8 77 yX8_spread]
def wsX8_depth_r2 : List Cond := [Cond.static yX8_spread, Cond.code yX8_spread cX8_spread 10 (some .long), Cond.methodLink RX8 69 yX8_around, Cond.static yX8_around, Cond.code yX8_around cX8_around 6 (some .long), Cond.methodLink RX8 63 yX8_isBeside, Cond.static yX8_isBeside, Cond.code yX8_isBeside cX8_isBeside 7 (some .boolean)]
def wsX8_depth : List Cond := .code yX8_depth cX8_depth 8 (some .int) :: ((wsX8_depth_r1 ++ wsX8_depth_r2))
def wsX8_light : List Cond := .code yX8_light cX8_light 5 (some .int) :: ([.methodLink RX8 55 yX8_dotsOf, .static yX8_dotsOf, .initialized RX8, .code yX8_dotsOf cX8_dotsOf 1 (some .int), .methodLink RX8 51 yX8_has, .static yX8_has, .code yX8_has cX8_has 3 (some .boolean)])
def wsX8_box : List Cond := .code yX8_box cX8_box 8 (some .int) :: ([.methodLink RX8 55 yX8_dotsOf, .static yX8_dotsOf, .initialized RX8, .code yX8_dotsOf cX8_dotsOf 1 (some .int), .methodLink RX8 51 yX8_has, .static yX8_has, .code yX8_has cX8_has 3 (some .boolean)])
def wsX8_rise_r1 : List Cond := [Cond.methodLink RX8 84 yX8_level, Cond.static yX8_level, Cond.initialized RX8, Cond.code yX8_level cX8_level 5 (some .int), Cond.methodLink RX8 55 yX8_dotsOf, Cond.static yX8_dotsOf, Cond.code yX8_dotsOf cX8_dotsOf 1 (some .int), Cond.methodLink RX8 51 yX8_has, Cond.static yX8_has, Cond.code yX8_has cX8_has 3 (some .boolean), Cond.methodLink RX8 103 yX8_brightest, Cond.static yX8_brightest, Cond.code yX8_brightest cX8_brightest 5 (some .int), Cond.methodLink RX8 88 yX8_head, Cond.static yX8_head, Cond.code yX8_head cX8_head 5 (some .int), Cond.methodLink RX8 81 yX8_part, Cond.static yX8_part, Cond.code yX8_part cX8_part 3 (some .long), Cond.constantLong RX8 67 (-1), Cond.methodLink RX8 73 yX8_bright, Cond.static yX8_bright, Cond.code yX8_bright cX8_bright 7 (some .long), Cond.methodLink RX8 77 yX8_spread]
def wsX8_rise_r2 : List Cond := [Cond.static yX8_spread, Cond.code yX8_spread cX8_spread 10 (some .long), Cond.methodLink RX8 69 yX8_around, Cond.static yX8_around, Cond.code yX8_around cX8_around 6 (some .long), Cond.methodLink RX8 63 yX8_isBeside, Cond.static yX8_isBeside, Cond.code yX8_isBeside cX8_isBeside 7 (some .boolean)]
def wsX8_rise : List Cond := .code yX8_rise cX8_rise 7 (some .int) :: ((wsX8_rise_r1 ++ wsX8_rise_r2))
def wsX8_write : List Cond := .code yX8_write cX8_write 2 (some .int) :: ([.fieldLink RX8 47 "ShadeTreeModel" "thrown" "I", .constantLong RX8 106 (255), .fieldLink RX8 108 "ShadeTreeModel" "textSize" "I", .fieldLink RX8 7 "ShadeTreeModel" "text" "[I", .methodLink RX8 59 yX8_in, .static yX8_in, .initialized RX8, .code yX8_in cX8_in 6 (some .boolean)] ++ wsX80)
def wsX8_wipe : List Cond := .code yX8_wipe cX8_wipe 2 (some .int) :: ([.fieldLink RX8 47 "ShadeTreeModel" "thrown" "I", .fieldLink RX8 108 "ShadeTreeModel" "textSize" "I"] ++ wsX80)
def wsX8_letterAt : List Cond := .code yX8_letterAt cX8_letterAt 2 (some .int) :: ([.fieldLink RX8 108 "ShadeTreeModel" "textSize" "I", .fieldLink RX8 7 "ShadeTreeModel" "text" "[I"] ++ wsX80)
def wsX8_readPicture : List Cond := .code yX8_readPicture cX8_readPicture 3 (some .int) :: ([.fieldLink RX8 13 "ShadeTreeModel" "readPage" "[I", .fieldLink RX8 7 "ShadeTreeModel" "text" "[I", .constantLong RX8 115 (6), .constantLong RX8 117 (9), .fieldLink RX8 108 "ShadeTreeModel" "textSize" "I", .methodLink RX8 111 yX8_letterAt, .instanceMethod yX8_letterAt, .selects RX8 yX8_letterAt yX8_letterAt, .initialized RX8, .code yX8_letterAt cX8_letterAt 2 (some .int), .methodLink RX8 59 yX8_in, .static yX8_in, .code yX8_in cX8_in 6 (some .boolean), .methodLink RX8 55 yX8_dotsOf, .static yX8_dotsOf, .code yX8_dotsOf cX8_dotsOf 1 (some .int)] ++ wsX80)
def wsX8_fault : List Cond := .code yX8_fault cX8_fault 1 (some .int) :: ([.fieldLink RX8 47 "ShadeTreeModel" "thrown" "I", .methodLink RX8 119 yX8_readPicture, .instanceMethod yX8_readPicture, .selects RX8 yX8_readPicture yX8_readPicture, .initialized RX8, .code yX8_readPicture cX8_readPicture 3 (some .int), .fieldLink RX8 13 "ShadeTreeModel" "readPage" "[I", .fieldLink RX8 7 "ShadeTreeModel" "text" "[I", .constantLong RX8 115 (6), .constantLong RX8 117 (9), .fieldLink RX8 108 "ShadeTreeModel" "textSize" "I", .methodLink RX8 111 yX8_letterAt, .instanceMethod yX8_letterAt, .selects RX8 yX8_letterAt yX8_letterAt, .code yX8_letterAt cX8_letterAt 2 (some .int), .methodLink RX8 59 yX8_in, .static yX8_in, .code yX8_in cX8_in 6 (some .boolean), .methodLink RX8 55 yX8_dotsOf, .static yX8_dotsOf, .code yX8_dotsOf cX8_dotsOf 1 (some .int)] ++ wsX80)
def wsX8_picture_r1 : List Cond := [Cond.fieldLink RX8 47 "ShadeTreeModel" "thrown" "I", Cond.fieldLink RX8 16 "ShadeTreeModel" "page" "[I", Cond.fieldLink RX8 13 "ShadeTreeModel" "readPage" "[I", Cond.fieldLink RX8 123 "ShadeTreeModel" "doings" "I", Cond.fieldLink RX8 31 "ShadeTreeModel" "isKept" "[Z", Cond.methodLink RX8 119 yX8_readPicture, Cond.instanceMethod yX8_readPicture, Cond.selects RX8 yX8_readPicture yX8_readPicture, Cond.initialized RX8, Cond.code yX8_readPicture cX8_readPicture 3 (some .int), Cond.fieldLink RX8 7 "ShadeTreeModel" "text" "[I", Cond.constantLong RX8 115 (6), Cond.constantLong RX8 117 (9), Cond.fieldLink RX8 108 "ShadeTreeModel" "textSize" "I", Cond.methodLink RX8 111 yX8_letterAt, Cond.instanceMethod yX8_letterAt, Cond.selects RX8 yX8_letterAt yX8_letterAt, Cond.code yX8_letterAt cX8_letterAt 2 (some .int), Cond.methodLink RX8 59 yX8_in, Cond.static yX8_in, Cond.code yX8_in cX8_in 6 (some .boolean), Cond.methodLink RX8 55 yX8_dotsOf, Cond.static yX8_dotsOf, Cond.code yX8_dotsOf cX8_dotsOf 1 (some .int)]
def wsX8_picture_r2 : List Cond := [Cond.methodLink RX8 126 yX8_nodes, Cond.static yX8_nodes, Cond.code yX8_nodes cX8_nodes 3 (some .int), Cond.methodLink RX8 95 yX8_isHead, Cond.static yX8_isHead, Cond.code yX8_isHead cX8_isHead 2 (some .boolean), Cond.methodLink RX8 91 yX8_nodeOf, Cond.static yX8_nodeOf, Cond.code yX8_nodeOf cX8_nodeOf 2 (some .long), Cond.methodLink RX8 81 yX8_part, Cond.static yX8_part, Cond.code yX8_part cX8_part 3 (some .long), Cond.constantLong RX8 67 (-1), Cond.methodLink RX8 73 yX8_bright, Cond.static yX8_bright, Cond.code yX8_bright cX8_bright 7 (some .long), Cond.methodLink RX8 51 yX8_has, Cond.static yX8_has, Cond.code yX8_has cX8_has 3 (some .boolean), Cond.methodLink RX8 77 yX8_spread, Cond.static yX8_spread, Cond.code yX8_spread cX8_spread 10 (some .long), Cond.methodLink RX8 69 yX8_around, Cond.static yX8_around]
def wsX8_picture_r3 : List Cond := [Cond.code yX8_around cX8_around 6 (some .long), Cond.methodLink RX8 63 yX8_isBeside, Cond.static yX8_isBeside, Cond.code yX8_isBeside cX8_isBeside 7 (some .boolean), Cond.methodLink RX8 88 yX8_head, Cond.static yX8_head, Cond.code yX8_head cX8_head 5 (some .int), Cond.methodLink RX8 84 yX8_level, Cond.static yX8_level, Cond.code yX8_level cX8_level 5 (some .int)]
def wsX8_picture : List Cond := .code yX8_picture cX8_picture 2 (some .int) :: ((wsX8_picture_r1 ++ (wsX8_picture_r2 ++ wsX8_picture_r3)) ++ wsX80)
def wsX8_leaves_r1 : List Cond := [Cond.fieldLink RX8 16 "ShadeTreeModel" "page" "[I", Cond.constantLong RX8 67 (-1), Cond.methodLink RX8 55 yX8_dotsOf, Cond.static yX8_dotsOf, Cond.initialized RX8, Cond.code yX8_dotsOf cX8_dotsOf 1 (some .int), Cond.methodLink RX8 95 yX8_isHead, Cond.static yX8_isHead, Cond.code yX8_isHead cX8_isHead 2 (some .boolean), Cond.methodLink RX8 91 yX8_nodeOf, Cond.static yX8_nodeOf, Cond.code yX8_nodeOf cX8_nodeOf 2 (some .long), Cond.methodLink RX8 81 yX8_part, Cond.static yX8_part, Cond.code yX8_part cX8_part 3 (some .long), Cond.methodLink RX8 73 yX8_bright, Cond.static yX8_bright, Cond.code yX8_bright cX8_bright 7 (some .long), Cond.methodLink RX8 51 yX8_has, Cond.static yX8_has, Cond.code yX8_has cX8_has 3 (some .boolean), Cond.methodLink RX8 77 yX8_spread, Cond.static yX8_spread, Cond.code yX8_spread cX8_spread 10 (some .long)]
def wsX8_leaves_r2 : List Cond := [Cond.methodLink RX8 69 yX8_around, Cond.static yX8_around, Cond.code yX8_around cX8_around 6 (some .long), Cond.methodLink RX8 63 yX8_isBeside, Cond.static yX8_isBeside, Cond.code yX8_isBeside cX8_isBeside 7 (some .boolean), Cond.methodLink RX8 88 yX8_head, Cond.static yX8_head, Cond.code yX8_head cX8_head 5 (some .int), Cond.methodLink RX8 84 yX8_level, Cond.static yX8_level, Cond.code yX8_level cX8_level 5 (some .int), Cond.methodLink RX8 99 yX8_parent, Cond.static yX8_parent, Cond.code yX8_parent cX8_parent 7 (some .long), Cond.methodLink RX8 129 yX8_many, Cond.static yX8_many, Cond.code yX8_many cX8_many 4 (some .int)]
def wsX8_leaves : List Cond := .code yX8_leaves cX8_leaves 8 (some .int) :: ((wsX8_leaves_r1 ++ wsX8_leaves_r2) ++ wsX80)
def wsX8_deepest_r1 : List Cond := [Cond.fieldLink RX8 16 "ShadeTreeModel" "page" "[I", Cond.methodLink RX8 55 yX8_dotsOf, Cond.static yX8_dotsOf, Cond.initialized RX8, Cond.code yX8_dotsOf cX8_dotsOf 1 (some .int), Cond.methodLink RX8 91 yX8_nodeOf, Cond.static yX8_nodeOf, Cond.code yX8_nodeOf cX8_nodeOf 2 (some .long), Cond.methodLink RX8 81 yX8_part, Cond.static yX8_part, Cond.code yX8_part cX8_part 3 (some .long), Cond.constantLong RX8 67 (-1), Cond.methodLink RX8 73 yX8_bright, Cond.static yX8_bright, Cond.code yX8_bright cX8_bright 7 (some .long), Cond.methodLink RX8 51 yX8_has, Cond.static yX8_has, Cond.code yX8_has cX8_has 3 (some .boolean), Cond.methodLink RX8 77 yX8_spread, Cond.static yX8_spread, Cond.code yX8_spread cX8_spread 10 (some .long), Cond.methodLink RX8 69 yX8_around, Cond.static yX8_around, Cond.code yX8_around cX8_around 6 (some .long)]
def wsX8_deepest_r2 : List Cond := [Cond.methodLink RX8 63 yX8_isBeside, Cond.static yX8_isBeside, Cond.code yX8_isBeside cX8_isBeside 7 (some .boolean), Cond.methodLink RX8 133 yX8_depth, Cond.static yX8_depth, Cond.code yX8_depth cX8_depth 8 (some .int), Cond.methodLink RX8 99 yX8_parent, Cond.static yX8_parent, Cond.code yX8_parent cX8_parent 7 (some .long), Cond.methodLink RX8 88 yX8_head, Cond.static yX8_head, Cond.code yX8_head cX8_head 5 (some .int), Cond.methodLink RX8 84 yX8_level, Cond.static yX8_level, Cond.code yX8_level cX8_level 5 (some .int)]
def wsX8_deepest : List Cond := .code yX8_deepest cX8_deepest 4 (some .int) :: ((wsX8_deepest_r1 ++ wsX8_deepest_r2) ++ wsX80)
def wsX8_about_r1 : List Cond := [Cond.fieldLink RX8 47 "ShadeTreeModel" "thrown" "I", Cond.fieldLink RX8 16 "ShadeTreeModel" "page" "[I", Cond.constantLong RX8 67 (-1), Cond.fieldLink RX8 123 "ShadeTreeModel" "doings" "I", Cond.fieldLink RX8 145 "ShadeTreeModel" "seen" "I", Cond.fieldLink RX8 108 "ShadeTreeModel" "textSize" "I", Cond.methodLink RX8 126 yX8_nodes, Cond.static yX8_nodes, Cond.initialized RX8, Cond.code yX8_nodes cX8_nodes 3 (some .int), Cond.methodLink RX8 55 yX8_dotsOf, Cond.static yX8_dotsOf, Cond.code yX8_dotsOf cX8_dotsOf 1 (some .int), Cond.methodLink RX8 95 yX8_isHead, Cond.static yX8_isHead, Cond.code yX8_isHead cX8_isHead 2 (some .boolean), Cond.methodLink RX8 91 yX8_nodeOf, Cond.static yX8_nodeOf, Cond.code yX8_nodeOf cX8_nodeOf 2 (some .long), Cond.methodLink RX8 81 yX8_part, Cond.static yX8_part, Cond.code yX8_part cX8_part 3 (some .long), Cond.methodLink RX8 73 yX8_bright, Cond.static yX8_bright]
def wsX8_about_r2 : List Cond := [Cond.code yX8_bright cX8_bright 7 (some .long), Cond.methodLink RX8 51 yX8_has, Cond.static yX8_has, Cond.code yX8_has cX8_has 3 (some .boolean), Cond.methodLink RX8 77 yX8_spread, Cond.static yX8_spread, Cond.code yX8_spread cX8_spread 10 (some .long), Cond.methodLink RX8 69 yX8_around, Cond.static yX8_around, Cond.code yX8_around cX8_around 6 (some .long), Cond.methodLink RX8 63 yX8_isBeside, Cond.static yX8_isBeside, Cond.code yX8_isBeside cX8_isBeside 7 (some .boolean), Cond.methodLink RX8 88 yX8_head, Cond.static yX8_head, Cond.code yX8_head cX8_head 5 (some .int), Cond.methodLink RX8 84 yX8_level, Cond.static yX8_level, Cond.code yX8_level cX8_level 5 (some .int), Cond.methodLink RX8 136 yX8_leaves, Cond.instanceMethod yX8_leaves, Cond.selects RX8 yX8_leaves yX8_leaves, Cond.code yX8_leaves cX8_leaves 8 (some .int), Cond.methodLink RX8 99 yX8_parent]
def wsX8_about_r3 : List Cond := [Cond.static yX8_parent, Cond.code yX8_parent cX8_parent 7 (some .long), Cond.methodLink RX8 129 yX8_many, Cond.static yX8_many, Cond.code yX8_many cX8_many 4 (some .int), Cond.methodLink RX8 139 yX8_deepest, Cond.instanceMethod yX8_deepest, Cond.selects RX8 yX8_deepest yX8_deepest, Cond.code yX8_deepest cX8_deepest 4 (some .int), Cond.methodLink RX8 133 yX8_depth, Cond.static yX8_depth, Cond.code yX8_depth cX8_depth 8 (some .int), Cond.methodLink RX8 142 yX8_light, Cond.static yX8_light, Cond.code yX8_light cX8_light 5 (some .int)]
def wsX8_about : List Cond := .code yX8_about cX8_about 2 (some .int) :: ((wsX8_about_r1 ++ (wsX8_about_r2 ++ wsX8_about_r3)) ++ wsX80)
def wsX8_shade : List Cond := .code yX8_shade cX8_shade 2 (some .int) :: ([.fieldLink RX8 47 "ShadeTreeModel" "thrown" "I", .fieldLink RX8 16 "ShadeTreeModel" "page" "[I", .methodLink RX8 148 yX8_noDot, .instanceMethod yX8_noDot, .selects RX8 yX8_noDot yX8_noDot, .initialized RX8, .code yX8_noDot cX8_noDot 2 (some .boolean), .methodLink RX8 55 yX8_dotsOf, .static yX8_dotsOf, .code yX8_dotsOf cX8_dotsOf 1 (some .int), .methodLink RX8 59 yX8_in, .static yX8_in, .code yX8_in cX8_in 6 (some .boolean)] ++ wsX80)
def wsX8_node_r1 : List Cond := [Cond.fieldLink RX8 47 "ShadeTreeModel" "thrown" "I", Cond.fieldLink RX8 16 "ShadeTreeModel" "page" "[I", Cond.methodLink RX8 148 yX8_noDot, Cond.instanceMethod yX8_noDot, Cond.selects RX8 yX8_noDot yX8_noDot, Cond.initialized RX8, Cond.code yX8_noDot cX8_noDot 2 (some .boolean), Cond.methodLink RX8 55 yX8_dotsOf, Cond.static yX8_dotsOf, Cond.code yX8_dotsOf cX8_dotsOf 1 (some .int), Cond.methodLink RX8 59 yX8_in, Cond.static yX8_in, Cond.code yX8_in cX8_in 6 (some .boolean), Cond.methodLink RX8 91 yX8_nodeOf, Cond.static yX8_nodeOf, Cond.code yX8_nodeOf cX8_nodeOf 2 (some .long), Cond.methodLink RX8 81 yX8_part, Cond.static yX8_part, Cond.code yX8_part cX8_part 3 (some .long), Cond.constantLong RX8 67 (-1), Cond.methodLink RX8 73 yX8_bright, Cond.static yX8_bright, Cond.code yX8_bright cX8_bright 7 (some .long), Cond.methodLink RX8 51 yX8_has]
def wsX8_node_r2 : List Cond := [Cond.static yX8_has, Cond.code yX8_has cX8_has 3 (some .boolean), Cond.methodLink RX8 77 yX8_spread, Cond.static yX8_spread, Cond.code yX8_spread cX8_spread 10 (some .long), Cond.methodLink RX8 69 yX8_around, Cond.static yX8_around, Cond.code yX8_around cX8_around 6 (some .long), Cond.methodLink RX8 63 yX8_isBeside, Cond.static yX8_isBeside, Cond.code yX8_isBeside cX8_isBeside 7 (some .boolean), Cond.methodLink RX8 88 yX8_head, Cond.static yX8_head, Cond.code yX8_head cX8_head 5 (some .int), Cond.methodLink RX8 84 yX8_level, Cond.static yX8_level, Cond.code yX8_level cX8_level 5 (some .int), Cond.methodLink RX8 129 yX8_many, Cond.static yX8_many, Cond.code yX8_many cX8_many 4 (some .int), Cond.methodLink RX8 142 yX8_light, Cond.static yX8_light, Cond.code yX8_light cX8_light 5 (some .int), Cond.methodLink RX8 99 yX8_parent]
def wsX8_node_r3 : List Cond := [Cond.static yX8_parent, Cond.code yX8_parent cX8_parent 7 (some .long), Cond.methodLink RX8 152 yX8_children, Cond.static yX8_children, Cond.code yX8_children cX8_children 7 (some .int), Cond.methodLink RX8 95 yX8_isHead, Cond.static yX8_isHead, Cond.code yX8_isHead cX8_isHead 2 (some .boolean), Cond.methodLink RX8 133 yX8_depth, Cond.static yX8_depth, Cond.code yX8_depth cX8_depth 8 (some .int), Cond.methodLink RX8 155 yX8_box, Cond.static yX8_box, Cond.code yX8_box cX8_box 8 (some .int), Cond.methodLink RX8 159 yX8_rise, Cond.static yX8_rise, Cond.code yX8_rise cX8_rise 7 (some .int), Cond.methodLink RX8 103 yX8_brightest, Cond.static yX8_brightest, Cond.code yX8_brightest cX8_brightest 5 (some .int)]
def wsX8_node : List Cond := .code yX8_node cX8_node 5 (some .int) :: ((wsX8_node_r1 ++ (wsX8_node_r2 ++ wsX8_node_r3)) ++ wsX80)
def wsX8_dots_r1 : List Cond := [Cond.fieldLink RX8 47 "ShadeTreeModel" "thrown" "I", Cond.constantLong RX8 67 (-1), Cond.fieldLink RX8 16 "ShadeTreeModel" "page" "[I", Cond.methodLink RX8 148 yX8_noDot, Cond.instanceMethod yX8_noDot, Cond.selects RX8 yX8_noDot yX8_noDot, Cond.initialized RX8, Cond.code yX8_noDot cX8_noDot 2 (some .boolean), Cond.methodLink RX8 55 yX8_dotsOf, Cond.static yX8_dotsOf, Cond.code yX8_dotsOf cX8_dotsOf 1 (some .int), Cond.methodLink RX8 59 yX8_in, Cond.static yX8_in, Cond.code yX8_in cX8_in 6 (some .boolean), Cond.methodLink RX8 91 yX8_nodeOf, Cond.static yX8_nodeOf, Cond.code yX8_nodeOf cX8_nodeOf 2 (some .long), Cond.methodLink RX8 81 yX8_part, Cond.static yX8_part, Cond.code yX8_part cX8_part 3 (some .long), Cond.methodLink RX8 73 yX8_bright, Cond.static yX8_bright, Cond.code yX8_bright cX8_bright 7 (some .long), Cond.methodLink RX8 51 yX8_has]
def wsX8_dots_r2 : List Cond := [Cond.static yX8_has, Cond.code yX8_has cX8_has 3 (some .boolean), Cond.methodLink RX8 77 yX8_spread, Cond.static yX8_spread, Cond.code yX8_spread cX8_spread 10 (some .long), Cond.methodLink RX8 69 yX8_around, Cond.static yX8_around, Cond.code yX8_around cX8_around 6 (some .long), Cond.methodLink RX8 63 yX8_isBeside, Cond.static yX8_isBeside, Cond.code yX8_isBeside cX8_isBeside 7 (some .boolean)]
def wsX8_dots : List Cond := .code yX8_dots cX8_dots 2 (some .long) :: ((wsX8_dots_r1 ++ wsX8_dots_r2) ++ wsX80)
def wsX8_parts_r1 : List Cond := [Cond.fieldLink RX8 47 "ShadeTreeModel" "thrown" "I", Cond.constantLong RX8 117 (9), Cond.fieldLink RX8 16 "ShadeTreeModel" "page" "[I", Cond.constantLong RX8 67 (-1), Cond.methodLink RX8 59 yX8_in, Cond.static yX8_in, Cond.initialized RX8, Cond.code yX8_in cX8_in 6 (some .boolean), Cond.methodLink RX8 162 yX8_partsOf, Cond.static yX8_partsOf, Cond.code yX8_partsOf cX8_partsOf 8 (some .int), Cond.methodLink RX8 73 yX8_bright, Cond.static yX8_bright, Cond.code yX8_bright cX8_bright 7 (some .long), Cond.methodLink RX8 55 yX8_dotsOf, Cond.static yX8_dotsOf, Cond.code yX8_dotsOf cX8_dotsOf 1 (some .int), Cond.methodLink RX8 51 yX8_has, Cond.static yX8_has, Cond.code yX8_has cX8_has 3 (some .boolean), Cond.methodLink RX8 77 yX8_spread, Cond.static yX8_spread, Cond.code yX8_spread cX8_spread 10 (some .long), Cond.methodLink RX8 69 yX8_around]
def wsX8_parts_r2 : List Cond := [Cond.static yX8_around, Cond.code yX8_around cX8_around 6 (some .long), Cond.methodLink RX8 63 yX8_isBeside, Cond.static yX8_isBeside, Cond.code yX8_isBeside cX8_isBeside 7 (some .boolean)]
def wsX8_parts : List Cond := .code yX8_parts cX8_parts 2 (some .int) :: ((wsX8_parts_r1 ++ wsX8_parts_r2) ++ wsX80)
def wsX8_note : List Cond := .code yX8_note cX8_note 2 none :: ([.fieldLink RX8 123 "ShadeTreeModel" "doings" "I", .fieldLink RX8 25 "ShadeTreeModel" "book" "[I", .fieldLink RX8 16 "ShadeTreeModel" "page" "[I"] ++ wsX80)
def wsX8_paint : List Cond := .code yX8_paint cX8_paint 4 (some .int) :: ([.fieldLink RX8 47 "ShadeTreeModel" "thrown" "I", .constantLong RX8 117 (9), .fieldLink RX8 16 "ShadeTreeModel" "page" "[I", .methodLink RX8 148 yX8_noDot, .instanceMethod yX8_noDot, .selects RX8 yX8_noDot yX8_noDot, .initialized RX8, .code yX8_noDot cX8_noDot 2 (some .boolean), .methodLink RX8 55 yX8_dotsOf, .static yX8_dotsOf, .code yX8_dotsOf cX8_dotsOf 1 (some .int), .methodLink RX8 59 yX8_in, .static yX8_in, .code yX8_in cX8_in 6 (some .boolean), .methodLink RX8 166 yX8_note, .instanceMethod yX8_note, .selects RX8 yX8_note yX8_note, .code yX8_note cX8_note 2 none, .fieldLink RX8 123 "ShadeTreeModel" "doings" "I", .fieldLink RX8 25 "ShadeTreeModel" "book" "[I"] ++ wsX80)
def wsX8_goNegative : List Cond := .code yX8_goNegative cX8_goNegative 2 none :: ([.methodLink RX8 55 yX8_dotsOf, .static yX8_dotsOf, .initialized RX8, .code yX8_dotsOf cX8_dotsOf 1 (some .int)])
def wsX8_negative_r1 : List Cond := [Cond.fieldLink RX8 47 "ShadeTreeModel" "thrown" "I", Cond.fieldLink RX8 16 "ShadeTreeModel" "page" "[I", Cond.methodLink RX8 166 yX8_note, Cond.instanceMethod yX8_note, Cond.selects RX8 yX8_note yX8_note, Cond.initialized RX8, Cond.code yX8_note cX8_note 2 none, Cond.fieldLink RX8 123 "ShadeTreeModel" "doings" "I", Cond.fieldLink RX8 25 "ShadeTreeModel" "book" "[I", Cond.methodLink RX8 169 yX8_goNegative, Cond.static yX8_goNegative, Cond.code yX8_goNegative cX8_goNegative 2 none, Cond.methodLink RX8 55 yX8_dotsOf, Cond.static yX8_dotsOf, Cond.code yX8_dotsOf cX8_dotsOf 1 (some .int), Cond.methodLink RX8 126 yX8_nodes, Cond.static yX8_nodes, Cond.code yX8_nodes cX8_nodes 3 (some .int), Cond.methodLink RX8 95 yX8_isHead, Cond.static yX8_isHead, Cond.code yX8_isHead cX8_isHead 2 (some .boolean), Cond.methodLink RX8 91 yX8_nodeOf, Cond.static yX8_nodeOf, Cond.code yX8_nodeOf cX8_nodeOf 2 (some .long)]
def wsX8_negative_r2 : List Cond := [Cond.methodLink RX8 81 yX8_part, Cond.static yX8_part, Cond.code yX8_part cX8_part 3 (some .long), Cond.constantLong RX8 67 (-1), Cond.methodLink RX8 73 yX8_bright, Cond.static yX8_bright, Cond.code yX8_bright cX8_bright 7 (some .long), Cond.methodLink RX8 51 yX8_has, Cond.static yX8_has, Cond.code yX8_has cX8_has 3 (some .boolean), Cond.methodLink RX8 77 yX8_spread, Cond.static yX8_spread, Cond.code yX8_spread cX8_spread 10 (some .long), Cond.methodLink RX8 69 yX8_around, Cond.static yX8_around, Cond.code yX8_around cX8_around 6 (some .long), Cond.methodLink RX8 63 yX8_isBeside, Cond.static yX8_isBeside, Cond.code yX8_isBeside cX8_isBeside 7 (some .boolean), Cond.methodLink RX8 88 yX8_head, Cond.static yX8_head, Cond.code yX8_head cX8_head 5 (some .int), Cond.methodLink RX8 84 yX8_level, Cond.static yX8_level]
def wsX8_negative_r3 : List Cond := [Cond.code yX8_level cX8_level 5 (some .int)]
def wsX8_negative : List Cond := .code yX8_negative cX8_negative 1 (some .int) :: ((wsX8_negative_r1 ++ (wsX8_negative_r2 ++ wsX8_negative_r3)) ++ wsX80)
def wsX8_stays : List Cond := .code yX8_stays cX8_stays 5 (some .boolean) :: ([.methodLink RX8 129 yX8_many, .static yX8_many, .initialized RX8, .code yX8_many cX8_many 4 (some .int), .methodLink RX8 51 yX8_has, .static yX8_has, .code yX8_has cX8_has 3 (some .boolean), .methodLink RX8 155 yX8_box, .static yX8_box, .code yX8_box cX8_box 8 (some .int), .methodLink RX8 55 yX8_dotsOf, .static yX8_dotsOf, .code yX8_dotsOf cX8_dotsOf 1 (some .int)])
def wsX8_sifted_r1 : List Cond := [Cond.constantLong RX8 67 (-1), Cond.methodLink RX8 81 yX8_part, Cond.static yX8_part, Cond.initialized RX8, Cond.code yX8_part cX8_part 3 (some .long), Cond.methodLink RX8 73 yX8_bright, Cond.static yX8_bright, Cond.code yX8_bright cX8_bright 7 (some .long), Cond.methodLink RX8 55 yX8_dotsOf, Cond.static yX8_dotsOf, Cond.code yX8_dotsOf cX8_dotsOf 1 (some .int), Cond.methodLink RX8 51 yX8_has, Cond.static yX8_has, Cond.code yX8_has cX8_has 3 (some .boolean), Cond.methodLink RX8 77 yX8_spread, Cond.static yX8_spread, Cond.code yX8_spread cX8_spread 10 (some .long), Cond.methodLink RX8 69 yX8_around, Cond.static yX8_around, Cond.code yX8_around cX8_around 6 (some .long), Cond.methodLink RX8 63 yX8_isBeside, Cond.static yX8_isBeside, Cond.code yX8_isBeside cX8_isBeside 7 (some .boolean), Cond.methodLink RX8 173 yX8_stays]
def wsX8_sifted_r2 : List Cond := [Cond.static yX8_stays, Cond.code yX8_stays cX8_stays 5 (some .boolean), Cond.methodLink RX8 129 yX8_many, Cond.static yX8_many, Cond.code yX8_many cX8_many 4 (some .int), Cond.methodLink RX8 155 yX8_box, Cond.static yX8_box, Cond.code yX8_box cX8_box 8 (some .int), Cond.methodLink RX8 84 yX8_level, Cond.static yX8_level, Cond.code yX8_level cX8_level 5 (some .int)]
def wsX8_sifted : List Cond := .code yX8_sifted cX8_sifted 7 (some .int) :: ((wsX8_sifted_r1 ++ wsX8_sifted_r2))
def wsX8_goSift_r1 : List Cond := [Cond.fieldLink RX8 22 "ShadeTreeModel" "changed" "[I", Cond.methodLink RX8 55 yX8_dotsOf, Cond.static yX8_dotsOf, Cond.initialized RX8, Cond.code yX8_dotsOf cX8_dotsOf 1 (some .int), Cond.methodLink RX8 177 yX8_sifted, Cond.static yX8_sifted, Cond.code yX8_sifted cX8_sifted 7 (some .int), Cond.constantLong RX8 67 (-1), Cond.methodLink RX8 81 yX8_part, Cond.static yX8_part, Cond.code yX8_part cX8_part 3 (some .long), Cond.methodLink RX8 73 yX8_bright, Cond.static yX8_bright, Cond.code yX8_bright cX8_bright 7 (some .long), Cond.methodLink RX8 51 yX8_has, Cond.static yX8_has, Cond.code yX8_has cX8_has 3 (some .boolean), Cond.methodLink RX8 77 yX8_spread, Cond.static yX8_spread, Cond.code yX8_spread cX8_spread 10 (some .long), Cond.methodLink RX8 69 yX8_around, Cond.static yX8_around, Cond.code yX8_around cX8_around 6 (some .long)]
def wsX8_goSift_r2 : List Cond := [Cond.methodLink RX8 63 yX8_isBeside, Cond.static yX8_isBeside, Cond.code yX8_isBeside cX8_isBeside 7 (some .boolean), Cond.methodLink RX8 173 yX8_stays, Cond.static yX8_stays, Cond.code yX8_stays cX8_stays 5 (some .boolean), Cond.methodLink RX8 129 yX8_many, Cond.static yX8_many, Cond.code yX8_many cX8_many 4 (some .int), Cond.methodLink RX8 155 yX8_box, Cond.static yX8_box, Cond.code yX8_box cX8_box 8 (some .int), Cond.methodLink RX8 84 yX8_level, Cond.static yX8_level, Cond.code yX8_level cX8_level 5 (some .int)]
def wsX8_goSift : List Cond := .code yX8_goSift cX8_goSift 6 (some .int) :: ((wsX8_goSift_r1 ++ wsX8_goSift_r2) ++ wsX80)
def wsX8_sift_r1 : List Cond := [Cond.fieldLink RX8 47 "ShadeTreeModel" "thrown" "I", Cond.constantLong RX8 181 (36), Cond.constantLong RX8 115 (6), Cond.fieldLink RX8 16 "ShadeTreeModel" "page" "[I", Cond.methodLink RX8 59 yX8_in, Cond.static yX8_in, Cond.initialized RX8, Cond.code yX8_in cX8_in 6 (some .boolean), Cond.methodLink RX8 166 yX8_note, Cond.instanceMethod yX8_note, Cond.selects RX8 yX8_note yX8_note, Cond.code yX8_note cX8_note 2 none, Cond.fieldLink RX8 123 "ShadeTreeModel" "doings" "I", Cond.fieldLink RX8 25 "ShadeTreeModel" "book" "[I", Cond.methodLink RX8 183 yX8_goSift, Cond.instanceMethod yX8_goSift, Cond.selects RX8 yX8_goSift yX8_goSift, Cond.code yX8_goSift cX8_goSift 6 (some .int), Cond.fieldLink RX8 22 "ShadeTreeModel" "changed" "[I", Cond.methodLink RX8 55 yX8_dotsOf, Cond.static yX8_dotsOf, Cond.code yX8_dotsOf cX8_dotsOf 1 (some .int), Cond.methodLink RX8 177 yX8_sifted, Cond.static yX8_sifted]
def wsX8_sift_r2 : List Cond := [Cond.code yX8_sifted cX8_sifted 7 (some .int), Cond.constantLong RX8 67 (-1), Cond.methodLink RX8 81 yX8_part, Cond.static yX8_part, Cond.code yX8_part cX8_part 3 (some .long), Cond.methodLink RX8 73 yX8_bright, Cond.static yX8_bright, Cond.code yX8_bright cX8_bright 7 (some .long), Cond.methodLink RX8 51 yX8_has, Cond.static yX8_has, Cond.code yX8_has cX8_has 3 (some .boolean), Cond.methodLink RX8 77 yX8_spread, Cond.static yX8_spread, Cond.code yX8_spread cX8_spread 10 (some .long), Cond.methodLink RX8 69 yX8_around, Cond.static yX8_around, Cond.code yX8_around cX8_around 6 (some .long), Cond.methodLink RX8 63 yX8_isBeside, Cond.static yX8_isBeside, Cond.code yX8_isBeside cX8_isBeside 7 (some .boolean), Cond.methodLink RX8 173 yX8_stays, Cond.static yX8_stays, Cond.code yX8_stays cX8_stays 5 (some .boolean), Cond.methodLink RX8 129 yX8_many]
def wsX8_sift_r3 : List Cond := [Cond.static yX8_many, Cond.code yX8_many cX8_many 4 (some .int), Cond.methodLink RX8 155 yX8_box, Cond.static yX8_box, Cond.code yX8_box cX8_box 8 (some .int), Cond.methodLink RX8 84 yX8_level, Cond.static yX8_level, Cond.code yX8_level cX8_level 5 (some .int)]
def wsX8_sift : List Cond := .code yX8_sift cX8_sift 3 (some .int) :: ((wsX8_sift_r1 ++ (wsX8_sift_r2 ++ wsX8_sift_r3)) ++ wsX80)
def wsX8_undo : List Cond := .code yX8_undo cX8_undo 2 (some .int) :: ([.fieldLink RX8 47 "ShadeTreeModel" "thrown" "I", .fieldLink RX8 123 "ShadeTreeModel" "doings" "I", .fieldLink RX8 16 "ShadeTreeModel" "page" "[I", .fieldLink RX8 25 "ShadeTreeModel" "book" "[I"] ++ wsX80)
def wsX8_pass_r1 : List Cond := [Cond.fieldLink RX8 47 "ShadeTreeModel" "thrown" "I", Cond.fieldLink RX8 16 "ShadeTreeModel" "page" "[I", Cond.methodLink RX8 148 yX8_noDot, Cond.instanceMethod yX8_noDot, Cond.selects RX8 yX8_noDot yX8_noDot, Cond.initialized RX8, Cond.code yX8_noDot cX8_noDot 2 (some .boolean), Cond.methodLink RX8 55 yX8_dotsOf, Cond.static yX8_dotsOf, Cond.code yX8_dotsOf cX8_dotsOf 1 (some .int), Cond.methodLink RX8 59 yX8_in, Cond.static yX8_in, Cond.code yX8_in cX8_in 6 (some .boolean), Cond.methodLink RX8 81 yX8_part, Cond.static yX8_part, Cond.code yX8_part cX8_part 3 (some .long), Cond.constantLong RX8 67 (-1), Cond.methodLink RX8 73 yX8_bright, Cond.static yX8_bright, Cond.code yX8_bright cX8_bright 7 (some .long), Cond.methodLink RX8 51 yX8_has, Cond.static yX8_has, Cond.code yX8_has cX8_has 3 (some .boolean), Cond.methodLink RX8 77 yX8_spread]
def wsX8_pass_r2 : List Cond := [Cond.static yX8_spread, Cond.code yX8_spread cX8_spread 10 (some .long), Cond.methodLink RX8 69 yX8_around, Cond.static yX8_around, Cond.code yX8_around cX8_around 6 (some .long), Cond.methodLink RX8 63 yX8_isBeside, Cond.static yX8_isBeside, Cond.code yX8_isBeside cX8_isBeside 7 (some .boolean)]
def wsX8_pass : List Cond := .code yX8_pass cX8_pass 4 (some .int) :: ((wsX8_pass_r1 ++ wsX8_pass_r2) ++ wsX80)
def wsX8_divisor : List Cond := .code yX8_divisor cX8_divisor 5 (some .int) :: ([])
def wsX8_fraction : List Cond := .code yX8_fraction cX8_fraction 4 (some .int) :: ([.methodLink RX8 187 yX8_divisor, .static yX8_divisor, .initialized RX8, .code yX8_divisor cX8_divisor 5 (some .int)])
def wsX8_layGrown_r1 : List Cond := [Cond.fieldLink RX8 16 "ShadeTreeModel" "page" "[I", Cond.fieldLink RX8 191 "ShadeTreeModel" "grown" "I", Cond.fieldLink RX8 194 "ShadeTreeModel" "grownBy" "I", Cond.methodLink RX8 84 yX8_level, Cond.static yX8_level, Cond.initialized RX8, Cond.code yX8_level cX8_level 5 (some .int), Cond.methodLink RX8 55 yX8_dotsOf, Cond.static yX8_dotsOf, Cond.code yX8_dotsOf cX8_dotsOf 1 (some .int), Cond.methodLink RX8 51 yX8_has, Cond.static yX8_has, Cond.code yX8_has cX8_has 3 (some .boolean), Cond.methodLink RX8 88 yX8_head, Cond.static yX8_head, Cond.code yX8_head cX8_head 5 (some .int), Cond.methodLink RX8 81 yX8_part, Cond.static yX8_part, Cond.code yX8_part cX8_part 3 (some .long), Cond.constantLong RX8 67 (-1), Cond.methodLink RX8 73 yX8_bright, Cond.static yX8_bright, Cond.code yX8_bright cX8_bright 7 (some .long), Cond.methodLink RX8 77 yX8_spread]
def wsX8_layGrown_r2 : List Cond := [Cond.static yX8_spread, Cond.code yX8_spread cX8_spread 10 (some .long), Cond.methodLink RX8 69 yX8_around, Cond.static yX8_around, Cond.code yX8_around cX8_around 6 (some .long), Cond.methodLink RX8 63 yX8_isBeside, Cond.static yX8_isBeside, Cond.code yX8_isBeside cX8_isBeside 7 (some .boolean), Cond.methodLink RX8 129 yX8_many, Cond.static yX8_many, Cond.code yX8_many cX8_many 4 (some .int)]
def wsX8_layGrown : List Cond := .code yX8_layGrown cX8_layGrown 5 none :: ((wsX8_layGrown_r1 ++ wsX8_layGrown_r2) ++ wsX80)
def wsX8_grows_r1 : List Cond := [Cond.fieldLink RX8 47 "ShadeTreeModel" "thrown" "I", Cond.constantLong RX8 117 (9), Cond.fieldLink RX8 16 "ShadeTreeModel" "page" "[I", Cond.fieldLink RX8 191 "ShadeTreeModel" "grown" "I", Cond.fieldLink RX8 194 "ShadeTreeModel" "grownBy" "I", Cond.methodLink RX8 148 yX8_noDot, Cond.instanceMethod yX8_noDot, Cond.selects RX8 yX8_noDot yX8_noDot, Cond.initialized RX8, Cond.code yX8_noDot cX8_noDot 2 (some .boolean), Cond.methodLink RX8 55 yX8_dotsOf, Cond.static yX8_dotsOf, Cond.code yX8_dotsOf cX8_dotsOf 1 (some .int), Cond.methodLink RX8 59 yX8_in, Cond.static yX8_in, Cond.code yX8_in cX8_in 6 (some .boolean), Cond.methodLink RX8 91 yX8_nodeOf, Cond.static yX8_nodeOf, Cond.code yX8_nodeOf cX8_nodeOf 2 (some .long), Cond.methodLink RX8 81 yX8_part, Cond.static yX8_part, Cond.code yX8_part cX8_part 3 (some .long), Cond.constantLong RX8 67 (-1), Cond.methodLink RX8 73 yX8_bright]
def wsX8_grows_r2 : List Cond := [Cond.static yX8_bright, Cond.code yX8_bright cX8_bright 7 (some .long), Cond.methodLink RX8 51 yX8_has, Cond.static yX8_has, Cond.code yX8_has cX8_has 3 (some .boolean), Cond.methodLink RX8 77 yX8_spread, Cond.static yX8_spread, Cond.code yX8_spread cX8_spread 10 (some .long), Cond.methodLink RX8 69 yX8_around, Cond.static yX8_around, Cond.code yX8_around cX8_around 6 (some .long), Cond.methodLink RX8 63 yX8_isBeside, Cond.static yX8_isBeside, Cond.code yX8_isBeside cX8_isBeside 7 (some .boolean), Cond.methodLink RX8 197 yX8_layGrown, Cond.instanceMethod yX8_layGrown, Cond.selects RX8 yX8_layGrown yX8_layGrown, Cond.code yX8_layGrown cX8_layGrown 5 none, Cond.methodLink RX8 84 yX8_level, Cond.static yX8_level, Cond.code yX8_level cX8_level 5 (some .int), Cond.methodLink RX8 88 yX8_head, Cond.static yX8_head, Cond.code yX8_head cX8_head 5 (some .int)]
def wsX8_grows_r3 : List Cond := [Cond.methodLink RX8 129 yX8_many, Cond.static yX8_many, Cond.code yX8_many cX8_many 4 (some .int), Cond.methodLink RX8 201 yX8_fraction, Cond.static yX8_fraction, Cond.code yX8_fraction cX8_fraction 4 (some .int), Cond.methodLink RX8 187 yX8_divisor, Cond.static yX8_divisor, Cond.code yX8_divisor cX8_divisor 5 (some .int)]
def wsX8_grows : List Cond := .code yX8_grows cX8_grows 4 (some .int) :: ((wsX8_grows_r1 ++ (wsX8_grows_r2 ++ wsX8_grows_r3)) ++ wsX80)
def wsX8_growsLess_r1 : List Cond := [Cond.fieldLink RX8 191 "ShadeTreeModel" "grown" "I", Cond.fieldLink RX8 194 "ShadeTreeModel" "grownBy" "I", Cond.methodLink RX8 197 yX8_layGrown, Cond.instanceMethod yX8_layGrown, Cond.selects RX8 yX8_layGrown yX8_layGrown, Cond.initialized RX8, Cond.code yX8_layGrown cX8_layGrown 5 none, Cond.fieldLink RX8 16 "ShadeTreeModel" "page" "[I", Cond.methodLink RX8 84 yX8_level, Cond.static yX8_level, Cond.code yX8_level cX8_level 5 (some .int), Cond.methodLink RX8 55 yX8_dotsOf, Cond.static yX8_dotsOf, Cond.code yX8_dotsOf cX8_dotsOf 1 (some .int), Cond.methodLink RX8 51 yX8_has, Cond.static yX8_has, Cond.code yX8_has cX8_has 3 (some .boolean), Cond.methodLink RX8 88 yX8_head, Cond.static yX8_head, Cond.code yX8_head cX8_head 5 (some .int), Cond.methodLink RX8 81 yX8_part, Cond.static yX8_part, Cond.code yX8_part cX8_part 3 (some .long), Cond.constantLong RX8 67 (-1)]
def wsX8_growsLess_r2 : List Cond := [Cond.methodLink RX8 73 yX8_bright, Cond.static yX8_bright, Cond.code yX8_bright cX8_bright 7 (some .long), Cond.methodLink RX8 77 yX8_spread, Cond.static yX8_spread, Cond.code yX8_spread cX8_spread 10 (some .long), Cond.methodLink RX8 69 yX8_around, Cond.static yX8_around, Cond.code yX8_around cX8_around 6 (some .long), Cond.methodLink RX8 63 yX8_isBeside, Cond.static yX8_isBeside, Cond.code yX8_isBeside cX8_isBeside 7 (some .boolean), Cond.methodLink RX8 129 yX8_many, Cond.static yX8_many, Cond.code yX8_many cX8_many 4 (some .int)]
def wsX8_growsLess : List Cond := .code yX8_growsLess cX8_growsLess 8 (some .boolean) :: ((wsX8_growsLess_r1 ++ wsX8_growsLess_r2) ++ wsX80)
def wsX8_isSteady_r1 : List Cond := [Cond.fieldLink RX8 16 "ShadeTreeModel" "page" "[I", Cond.methodLink RX8 99 yX8_parent, Cond.static yX8_parent, Cond.initialized RX8, Cond.code yX8_parent cX8_parent 7 (some .long), Cond.methodLink RX8 88 yX8_head, Cond.static yX8_head, Cond.code yX8_head cX8_head 5 (some .int), Cond.methodLink RX8 84 yX8_level, Cond.static yX8_level, Cond.code yX8_level cX8_level 5 (some .int), Cond.methodLink RX8 55 yX8_dotsOf, Cond.static yX8_dotsOf, Cond.code yX8_dotsOf cX8_dotsOf 1 (some .int), Cond.methodLink RX8 51 yX8_has, Cond.static yX8_has, Cond.code yX8_has cX8_has 3 (some .boolean), Cond.methodLink RX8 81 yX8_part, Cond.static yX8_part, Cond.code yX8_part cX8_part 3 (some .long), Cond.constantLong RX8 67 (-1), Cond.methodLink RX8 73 yX8_bright, Cond.static yX8_bright, Cond.code yX8_bright cX8_bright 7 (some .long)]
def wsX8_isSteady_r2 : List Cond := [Cond.methodLink RX8 77 yX8_spread, Cond.static yX8_spread, Cond.code yX8_spread cX8_spread 10 (some .long), Cond.methodLink RX8 69 yX8_around, Cond.static yX8_around, Cond.code yX8_around cX8_around 6 (some .long), Cond.methodLink RX8 63 yX8_isBeside, Cond.static yX8_isBeside, Cond.code yX8_isBeside cX8_isBeside 7 (some .boolean), Cond.methodLink RX8 205 yX8_growsLess, Cond.instanceMethod yX8_growsLess, Cond.selects RX8 yX8_growsLess yX8_growsLess, Cond.code yX8_growsLess cX8_growsLess 8 (some .boolean), Cond.fieldLink RX8 191 "ShadeTreeModel" "grown" "I", Cond.fieldLink RX8 194 "ShadeTreeModel" "grownBy" "I", Cond.methodLink RX8 197 yX8_layGrown, Cond.instanceMethod yX8_layGrown, Cond.selects RX8 yX8_layGrown yX8_layGrown, Cond.code yX8_layGrown cX8_layGrown 5 none, Cond.methodLink RX8 129 yX8_many, Cond.static yX8_many, Cond.code yX8_many cX8_many 4 (some .int), Cond.methodLink RX8 95 yX8_isHead, Cond.static yX8_isHead]
def wsX8_isSteady_r3 : List Cond := [Cond.code yX8_isHead cX8_isHead 2 (some .boolean), Cond.methodLink RX8 91 yX8_nodeOf, Cond.static yX8_nodeOf, Cond.code yX8_nodeOf cX8_nodeOf 2 (some .long)]
def wsX8_isSteady : List Cond := .code yX8_isSteady cX8_isSteady 10 (some .boolean) :: ((wsX8_isSteady_r1 ++ (wsX8_isSteady_r2 ++ wsX8_isSteady_r3)) ++ wsX80)
def wsX8_steady_r1 : List Cond := [Cond.fieldLink RX8 47 "ShadeTreeModel" "thrown" "I", Cond.constantLong RX8 117 (9), Cond.fieldLink RX8 16 "ShadeTreeModel" "page" "[I", Cond.methodLink RX8 148 yX8_noDot, Cond.instanceMethod yX8_noDot, Cond.selects RX8 yX8_noDot yX8_noDot, Cond.initialized RX8, Cond.code yX8_noDot cX8_noDot 2 (some .boolean), Cond.methodLink RX8 55 yX8_dotsOf, Cond.static yX8_dotsOf, Cond.code yX8_dotsOf cX8_dotsOf 1 (some .int), Cond.methodLink RX8 59 yX8_in, Cond.static yX8_in, Cond.code yX8_in cX8_in 6 (some .boolean), Cond.methodLink RX8 91 yX8_nodeOf, Cond.static yX8_nodeOf, Cond.code yX8_nodeOf cX8_nodeOf 2 (some .long), Cond.methodLink RX8 81 yX8_part, Cond.static yX8_part, Cond.code yX8_part cX8_part 3 (some .long), Cond.constantLong RX8 67 (-1), Cond.methodLink RX8 73 yX8_bright, Cond.static yX8_bright, Cond.code yX8_bright cX8_bright 7 (some .long)]
def wsX8_steady_r2 : List Cond := [Cond.methodLink RX8 51 yX8_has, Cond.static yX8_has, Cond.code yX8_has cX8_has 3 (some .boolean), Cond.methodLink RX8 77 yX8_spread, Cond.static yX8_spread, Cond.code yX8_spread cX8_spread 10 (some .long), Cond.methodLink RX8 69 yX8_around, Cond.static yX8_around, Cond.code yX8_around cX8_around 6 (some .long), Cond.methodLink RX8 63 yX8_isBeside, Cond.static yX8_isBeside, Cond.code yX8_isBeside cX8_isBeside 7 (some .boolean), Cond.methodLink RX8 209 yX8_isSteady, Cond.instanceMethod yX8_isSteady, Cond.selects RX8 yX8_isSteady yX8_isSteady, Cond.code yX8_isSteady cX8_isSteady 10 (some .boolean), Cond.methodLink RX8 99 yX8_parent, Cond.static yX8_parent, Cond.code yX8_parent cX8_parent 7 (some .long), Cond.methodLink RX8 88 yX8_head, Cond.static yX8_head, Cond.code yX8_head cX8_head 5 (some .int), Cond.methodLink RX8 84 yX8_level, Cond.static yX8_level]
def wsX8_steady_r3 : List Cond := [Cond.code yX8_level cX8_level 5 (some .int), Cond.methodLink RX8 205 yX8_growsLess, Cond.instanceMethod yX8_growsLess, Cond.selects RX8 yX8_growsLess yX8_growsLess, Cond.code yX8_growsLess cX8_growsLess 8 (some .boolean), Cond.fieldLink RX8 191 "ShadeTreeModel" "grown" "I", Cond.fieldLink RX8 194 "ShadeTreeModel" "grownBy" "I", Cond.methodLink RX8 197 yX8_layGrown, Cond.instanceMethod yX8_layGrown, Cond.selects RX8 yX8_layGrown yX8_layGrown, Cond.code yX8_layGrown cX8_layGrown 5 none, Cond.methodLink RX8 129 yX8_many, Cond.static yX8_many, Cond.code yX8_many cX8_many 4 (some .int), Cond.methodLink RX8 95 yX8_isHead, Cond.static yX8_isHead, Cond.code yX8_isHead cX8_isHead 2 (some .boolean)]
def wsX8_steady : List Cond := .code yX8_steady cX8_steady 3 (some .int) :: ((wsX8_steady_r1 ++ (wsX8_steady_r2 ++ wsX8_steady_r3)) ++ wsX80)
def wsX8_begin : List Cond := .code yX8_begin cX8_begin 2 none :: ([.fieldLink RX8 19 "ShadeTreeModel" "trial" "[I", .fieldLink RX8 16 "ShadeTreeModel" "page" "[I"] ++ wsX80)
def wsX8_longPower : List Cond := .code yX8_longPower cX8_longPower 6 (some .long) :: ([])
def wsX8_isSo_r1 : List Cond := [Cond.fieldLink RX8 19 "ShadeTreeModel" "trial" "[I", Cond.constantLong RX8 67 (-1), Cond.methodLink RX8 162 yX8_partsOf, Cond.static yX8_partsOf, Cond.initialized RX8, Cond.code yX8_partsOf cX8_partsOf 8 (some .int), Cond.methodLink RX8 73 yX8_bright, Cond.static yX8_bright, Cond.code yX8_bright cX8_bright 7 (some .long), Cond.methodLink RX8 55 yX8_dotsOf, Cond.static yX8_dotsOf, Cond.code yX8_dotsOf cX8_dotsOf 1 (some .int), Cond.methodLink RX8 51 yX8_has, Cond.static yX8_has, Cond.code yX8_has cX8_has 3 (some .boolean), Cond.methodLink RX8 77 yX8_spread, Cond.static yX8_spread, Cond.code yX8_spread cX8_spread 10 (some .long), Cond.methodLink RX8 69 yX8_around, Cond.static yX8_around, Cond.code yX8_around cX8_around 6 (some .long), Cond.methodLink RX8 63 yX8_isBeside, Cond.static yX8_isBeside, Cond.code yX8_isBeside cX8_isBeside 7 (some .boolean)]
def wsX8_isSo_r2 : List Cond := [Cond.methodLink RX8 91 yX8_nodeOf, Cond.static yX8_nodeOf, Cond.code yX8_nodeOf cX8_nodeOf 2 (some .long), Cond.methodLink RX8 81 yX8_part, Cond.static yX8_part, Cond.code yX8_part cX8_part 3 (some .long), Cond.methodLink RX8 99 yX8_parent, Cond.static yX8_parent, Cond.code yX8_parent cX8_parent 7 (some .long), Cond.methodLink RX8 88 yX8_head, Cond.static yX8_head, Cond.code yX8_head cX8_head 5 (some .int), Cond.methodLink RX8 84 yX8_level, Cond.static yX8_level, Cond.code yX8_level cX8_level 5 (some .int), Cond.methodLink RX8 159 yX8_rise, Cond.static yX8_rise, Cond.code yX8_rise cX8_rise 7 (some .int), Cond.methodLink RX8 103 yX8_brightest, Cond.static yX8_brightest, Cond.code yX8_brightest cX8_brightest 5 (some .int)]
def wsX8_isSo : List Cond := .code yX8_isSo cX8_isSo 8 (some .boolean) :: ((wsX8_isSo_r1 ++ wsX8_isSo_r2) ++ wsX80)
def wsX8_does_r1 : List Cond := [Cond.fieldLink RX8 19 "ShadeTreeModel" "trial" "[I", Cond.constantLong RX8 181 (36), Cond.constantLong RX8 115 (6), Cond.methodLink RX8 55 yX8_dotsOf, Cond.static yX8_dotsOf, Cond.initialized RX8, Cond.code yX8_dotsOf cX8_dotsOf 1 (some .int), Cond.methodLink RX8 169 yX8_goNegative, Cond.static yX8_goNegative, Cond.code yX8_goNegative cX8_goNegative 2 none, Cond.methodLink RX8 59 yX8_in, Cond.static yX8_in, Cond.code yX8_in cX8_in 6 (some .boolean), Cond.methodLink RX8 183 yX8_goSift, Cond.instanceMethod yX8_goSift, Cond.selects RX8 yX8_goSift yX8_goSift, Cond.code yX8_goSift cX8_goSift 6 (some .int), Cond.fieldLink RX8 22 "ShadeTreeModel" "changed" "[I", Cond.methodLink RX8 177 yX8_sifted, Cond.static yX8_sifted, Cond.code yX8_sifted cX8_sifted 7 (some .int), Cond.constantLong RX8 67 (-1), Cond.methodLink RX8 81 yX8_part, Cond.static yX8_part]
def wsX8_does_r2 : List Cond := [Cond.code yX8_part cX8_part 3 (some .long), Cond.methodLink RX8 73 yX8_bright, Cond.static yX8_bright, Cond.code yX8_bright cX8_bright 7 (some .long), Cond.methodLink RX8 51 yX8_has, Cond.static yX8_has, Cond.code yX8_has cX8_has 3 (some .boolean), Cond.methodLink RX8 77 yX8_spread, Cond.static yX8_spread, Cond.code yX8_spread cX8_spread 10 (some .long), Cond.methodLink RX8 69 yX8_around, Cond.static yX8_around, Cond.code yX8_around cX8_around 6 (some .long), Cond.methodLink RX8 63 yX8_isBeside, Cond.static yX8_isBeside, Cond.code yX8_isBeside cX8_isBeside 7 (some .boolean), Cond.methodLink RX8 173 yX8_stays, Cond.static yX8_stays, Cond.code yX8_stays cX8_stays 5 (some .boolean), Cond.methodLink RX8 129 yX8_many, Cond.static yX8_many, Cond.code yX8_many cX8_many 4 (some .int), Cond.methodLink RX8 155 yX8_box, Cond.static yX8_box]
def wsX8_does_r3 : List Cond := [Cond.code yX8_box cX8_box 8 (some .int), Cond.methodLink RX8 84 yX8_level, Cond.static yX8_level, Cond.code yX8_level cX8_level 5 (some .int), Cond.methodLink RX8 212 yX8_isSo, Cond.instanceMethod yX8_isSo, Cond.selects RX8 yX8_isSo yX8_isSo, Cond.code yX8_isSo cX8_isSo 8 (some .boolean), Cond.methodLink RX8 162 yX8_partsOf, Cond.static yX8_partsOf, Cond.code yX8_partsOf cX8_partsOf 8 (some .int), Cond.methodLink RX8 91 yX8_nodeOf, Cond.static yX8_nodeOf, Cond.code yX8_nodeOf cX8_nodeOf 2 (some .long), Cond.methodLink RX8 99 yX8_parent, Cond.static yX8_parent, Cond.code yX8_parent cX8_parent 7 (some .long), Cond.methodLink RX8 88 yX8_head, Cond.static yX8_head, Cond.code yX8_head cX8_head 5 (some .int), Cond.methodLink RX8 159 yX8_rise, Cond.static yX8_rise, Cond.code yX8_rise cX8_rise 7 (some .int), Cond.methodLink RX8 103 yX8_brightest]
def wsX8_does_r4 : List Cond := [Cond.static yX8_brightest, Cond.code yX8_brightest cX8_brightest 5 (some .int)]
def wsX8_does : List Cond := .code yX8_does cX8_does 6 (some .boolean) :: ((wsX8_does_r1 ++ (wsX8_does_r2 ++ (wsX8_does_r3 ++ wsX8_does_r4))) ++ wsX80)
def wsX8_judge_r1 : List Cond := [Cond.fieldLink RX8 47 "ShadeTreeModel" "thrown" "I", Cond.constantLong RX8 216 (4), Cond.constantLong RX8 218 (10000), Cond.methodLink RX8 59 yX8_in, Cond.static yX8_in, Cond.initialized RX8, Cond.code yX8_in cX8_in 6 (some .boolean), Cond.methodLink RX8 220 yX8_longPower, Cond.static yX8_longPower, Cond.code yX8_longPower cX8_longPower 6 (some .long), Cond.methodLink RX8 224 yX8_begin, Cond.instanceMethod yX8_begin, Cond.selects RX8 yX8_begin yX8_begin, Cond.code yX8_begin cX8_begin 2 none, Cond.fieldLink RX8 19 "ShadeTreeModel" "trial" "[I", Cond.fieldLink RX8 16 "ShadeTreeModel" "page" "[I", Cond.methodLink RX8 227 yX8_does, Cond.instanceMethod yX8_does, Cond.selects RX8 yX8_does yX8_does, Cond.code yX8_does cX8_does 6 (some .boolean), Cond.constantLong RX8 181 (36), Cond.constantLong RX8 115 (6), Cond.methodLink RX8 55 yX8_dotsOf, Cond.static yX8_dotsOf]
def wsX8_judge_r2 : List Cond := [Cond.code yX8_dotsOf cX8_dotsOf 1 (some .int), Cond.methodLink RX8 169 yX8_goNegative, Cond.static yX8_goNegative, Cond.code yX8_goNegative cX8_goNegative 2 none, Cond.methodLink RX8 183 yX8_goSift, Cond.instanceMethod yX8_goSift, Cond.selects RX8 yX8_goSift yX8_goSift, Cond.code yX8_goSift cX8_goSift 6 (some .int), Cond.fieldLink RX8 22 "ShadeTreeModel" "changed" "[I", Cond.methodLink RX8 177 yX8_sifted, Cond.static yX8_sifted, Cond.code yX8_sifted cX8_sifted 7 (some .int), Cond.constantLong RX8 67 (-1), Cond.methodLink RX8 81 yX8_part, Cond.static yX8_part, Cond.code yX8_part cX8_part 3 (some .long), Cond.methodLink RX8 73 yX8_bright, Cond.static yX8_bright, Cond.code yX8_bright cX8_bright 7 (some .long), Cond.methodLink RX8 51 yX8_has, Cond.static yX8_has, Cond.code yX8_has cX8_has 3 (some .boolean), Cond.methodLink RX8 77 yX8_spread, Cond.static yX8_spread]
def wsX8_judge_r3 : List Cond := [Cond.code yX8_spread cX8_spread 10 (some .long), Cond.methodLink RX8 69 yX8_around, Cond.static yX8_around, Cond.code yX8_around cX8_around 6 (some .long), Cond.methodLink RX8 63 yX8_isBeside, Cond.static yX8_isBeside, Cond.code yX8_isBeside cX8_isBeside 7 (some .boolean), Cond.methodLink RX8 173 yX8_stays, Cond.static yX8_stays, Cond.code yX8_stays cX8_stays 5 (some .boolean), Cond.methodLink RX8 129 yX8_many, Cond.static yX8_many, Cond.code yX8_many cX8_many 4 (some .int), Cond.methodLink RX8 155 yX8_box, Cond.static yX8_box, Cond.code yX8_box cX8_box 8 (some .int), Cond.methodLink RX8 84 yX8_level, Cond.static yX8_level, Cond.code yX8_level cX8_level 5 (some .int), Cond.methodLink RX8 212 yX8_isSo, Cond.instanceMethod yX8_isSo, Cond.selects RX8 yX8_isSo yX8_isSo, Cond.code yX8_isSo cX8_isSo 8 (some .boolean), Cond.methodLink RX8 162 yX8_partsOf]
def wsX8_judge_r4 : List Cond := [Cond.static yX8_partsOf, Cond.code yX8_partsOf cX8_partsOf 8 (some .int), Cond.methodLink RX8 91 yX8_nodeOf, Cond.static yX8_nodeOf, Cond.code yX8_nodeOf cX8_nodeOf 2 (some .long), Cond.methodLink RX8 99 yX8_parent, Cond.static yX8_parent, Cond.code yX8_parent cX8_parent 7 (some .long), Cond.methodLink RX8 88 yX8_head, Cond.static yX8_head, Cond.code yX8_head cX8_head 5 (some .int), Cond.methodLink RX8 159 yX8_rise, Cond.static yX8_rise, Cond.code yX8_rise cX8_rise 7 (some .int), Cond.methodLink RX8 103 yX8_brightest, Cond.static yX8_brightest, Cond.code yX8_brightest cX8_brightest 5 (some .int)]
def wsX8_judge : List Cond := .code yX8_judge cX8_judge 5 (some .int) :: ((wsX8_judge_r1 ++ (wsX8_judge_r2 ++ (wsX8_judge_r3 ++ wsX8_judge_r4))) ++ wsX80)
def wsX8_orders : List Cond := .code yX8_orders cX8_orders 4 (some .int) :: ([])
def wsX8_rows : List Cond := .code yX8_rows cX8_rows 5 (some .long) :: ([.fieldLink RX8 16 "ShadeTreeModel" "page" "[I", .methodLink RX8 55 yX8_dotsOf, .static yX8_dotsOf, .initialized RX8, .code yX8_dotsOf cX8_dotsOf 1 (some .int), .methodLink RX8 51 yX8_has, .static yX8_has, .code yX8_has cX8_has 3 (some .boolean)] ++ wsX80)
def wsX8_share_r1 : List Cond := [Cond.fieldLink RX8 47 "ShadeTreeModel" "thrown" "I", Cond.fieldLink RX8 16 "ShadeTreeModel" "page" "[I", Cond.constantLong RX8 117 (9), Cond.fieldLink RX8 44 "ShadeTreeModel" "value" "[I", Cond.methodLink RX8 59 yX8_in, Cond.static yX8_in, Cond.initialized RX8, Cond.code yX8_in cX8_in 6 (some .boolean), Cond.methodLink RX8 230 yX8_rows, Cond.instanceMethod yX8_rows, Cond.selects RX8 yX8_rows yX8_rows, Cond.code yX8_rows cX8_rows 5 (some .long), Cond.methodLink RX8 55 yX8_dotsOf, Cond.static yX8_dotsOf, Cond.code yX8_dotsOf cX8_dotsOf 1 (some .int), Cond.methodLink RX8 51 yX8_has, Cond.static yX8_has, Cond.code yX8_has cX8_has 3 (some .boolean), Cond.methodLink RX8 162 yX8_partsOf, Cond.static yX8_partsOf, Cond.code yX8_partsOf cX8_partsOf 8 (some .int), Cond.constantLong RX8 67 (-1), Cond.methodLink RX8 73 yX8_bright, Cond.static yX8_bright]
def wsX8_share_r2 : List Cond := [Cond.code yX8_bright cX8_bright 7 (some .long), Cond.methodLink RX8 77 yX8_spread, Cond.static yX8_spread, Cond.code yX8_spread cX8_spread 10 (some .long), Cond.methodLink RX8 69 yX8_around, Cond.static yX8_around, Cond.code yX8_around cX8_around 6 (some .long), Cond.methodLink RX8 63 yX8_isBeside, Cond.static yX8_isBeside, Cond.code yX8_isBeside cX8_isBeside 7 (some .boolean), Cond.methodLink RX8 129 yX8_many, Cond.static yX8_many, Cond.code yX8_many cX8_many 4 (some .int), Cond.methodLink RX8 234 yX8_orders, Cond.static yX8_orders, Cond.code yX8_orders cX8_orders 4 (some .int), Cond.methodLink RX8 201 yX8_fraction, Cond.static yX8_fraction, Cond.code yX8_fraction cX8_fraction 4 (some .int), Cond.methodLink RX8 187 yX8_divisor, Cond.static yX8_divisor, Cond.code yX8_divisor cX8_divisor 5 (some .int)]
def wsX8_share : List Cond := .code yX8_share cX8_share 9 (some .int) :: ((wsX8_share_r1 ++ wsX8_share_r2) ++ wsX80)
def wsX8_see : List Cond := .code yX8_see cX8_see 4 (some .int) :: ([.fieldLink RX8 47 "ShadeTreeModel" "thrown" "I", .fieldLink RX8 145 "ShadeTreeModel" "seen" "I", .fieldLink RX8 35 "ShadeTreeModel" "seenOne" "[I", .fieldLink RX8 38 "ShadeTreeModel" "seenOther" "[I", .fieldLink RX8 41 "ShadeTreeModel" "seenIs" "[I", .methodLink RX8 148 yX8_noDot, .instanceMethod yX8_noDot, .selects RX8 yX8_noDot yX8_noDot, .initialized RX8, .code yX8_noDot cX8_noDot 2 (some .boolean), .fieldLink RX8 16 "ShadeTreeModel" "page" "[I", .methodLink RX8 55 yX8_dotsOf, .static yX8_dotsOf, .code yX8_dotsOf cX8_dotsOf 1 (some .int), .methodLink RX8 59 yX8_in, .static yX8_in, .code yX8_in cX8_in 6 (some .boolean)] ++ wsX80)
def wsX8_unsee : List Cond := .code yX8_unsee cX8_unsee 2 (some .int) :: ([.fieldLink RX8 47 "ShadeTreeModel" "thrown" "I", .fieldLink RX8 145 "ShadeTreeModel" "seen" "I"] ++ wsX80)
def wsX8_explains_r1 : List Cond := [Cond.fieldLink RX8 16 "ShadeTreeModel" "page" "[I", Cond.constantLong RX8 67 (-1), Cond.fieldLink RX8 145 "ShadeTreeModel" "seen" "I", Cond.fieldLink RX8 35 "ShadeTreeModel" "seenOne" "[I", Cond.fieldLink RX8 38 "ShadeTreeModel" "seenOther" "[I", Cond.fieldLink RX8 41 "ShadeTreeModel" "seenIs" "[I", Cond.methodLink RX8 73 yX8_bright, Cond.static yX8_bright, Cond.initialized RX8, Cond.code yX8_bright cX8_bright 7 (some .long), Cond.methodLink RX8 55 yX8_dotsOf, Cond.static yX8_dotsOf, Cond.code yX8_dotsOf cX8_dotsOf 1 (some .int), Cond.methodLink RX8 51 yX8_has, Cond.static yX8_has, Cond.code yX8_has cX8_has 3 (some .boolean), Cond.methodLink RX8 77 yX8_spread, Cond.static yX8_spread, Cond.code yX8_spread cX8_spread 10 (some .long), Cond.methodLink RX8 69 yX8_around, Cond.static yX8_around, Cond.code yX8_around cX8_around 6 (some .long), Cond.methodLink RX8 63 yX8_isBeside, Cond.static yX8_isBeside]
def wsX8_explains_r2 : List Cond := [Cond.code yX8_isBeside cX8_isBeside 7 (some .boolean)]
def wsX8_explains : List Cond := .code yX8_explains cX8_explains 8 (some .boolean) :: ((wsX8_explains_r1 ++ wsX8_explains_r2) ++ wsX80)
def wsX8_ways_r1 : List Cond := [Cond.fieldLink RX8 47 "ShadeTreeModel" "thrown" "I", Cond.fieldLink RX8 237 "ShadeTreeModel" "wayMany" "I", Cond.fieldLink RX8 240 "ShadeTreeModel" "wayFirst" "I", Cond.methodLink RX8 59 yX8_in, Cond.static yX8_in, Cond.initialized RX8, Cond.code yX8_in cX8_in 6 (some .boolean), Cond.methodLink RX8 243 yX8_explains, Cond.instanceMethod yX8_explains, Cond.selects RX8 yX8_explains yX8_explains, Cond.code yX8_explains cX8_explains 8 (some .boolean), Cond.fieldLink RX8 16 "ShadeTreeModel" "page" "[I", Cond.constantLong RX8 67 (-1), Cond.fieldLink RX8 145 "ShadeTreeModel" "seen" "I", Cond.fieldLink RX8 35 "ShadeTreeModel" "seenOne" "[I", Cond.fieldLink RX8 38 "ShadeTreeModel" "seenOther" "[I", Cond.fieldLink RX8 41 "ShadeTreeModel" "seenIs" "[I", Cond.methodLink RX8 73 yX8_bright, Cond.static yX8_bright, Cond.code yX8_bright cX8_bright 7 (some .long), Cond.methodLink RX8 55 yX8_dotsOf, Cond.static yX8_dotsOf, Cond.code yX8_dotsOf cX8_dotsOf 1 (some .int), Cond.methodLink RX8 51 yX8_has]
def wsX8_ways_r2 : List Cond := [Cond.static yX8_has, Cond.code yX8_has cX8_has 3 (some .boolean), Cond.methodLink RX8 77 yX8_spread, Cond.static yX8_spread, Cond.code yX8_spread cX8_spread 10 (some .long), Cond.methodLink RX8 69 yX8_around, Cond.static yX8_around, Cond.code yX8_around cX8_around 6 (some .long), Cond.methodLink RX8 63 yX8_isBeside, Cond.static yX8_isBeside, Cond.code yX8_isBeside cX8_isBeside 7 (some .boolean)]
def wsX8_ways : List Cond := .code yX8_ways cX8_ways 5 (some .int) :: ((wsX8_ways_r1 ++ wsX8_ways_r2) ++ wsX80)
def wsX8_fades_r1 : List Cond := [Cond.fieldLink RX8 47 "ShadeTreeModel" "thrown" "I", Cond.fieldLink RX8 16 "ShadeTreeModel" "page" "[I", Cond.constantLong RX8 117 (9), Cond.constantLong RX8 181 (36), Cond.constantLong RX8 247 (10), Cond.fieldLink RX8 19 "ShadeTreeModel" "trial" "[I", Cond.constantLong RX8 67 (-1), Cond.methodLink RX8 59 yX8_in, Cond.static yX8_in, Cond.initialized RX8, Cond.code yX8_in cX8_in 6 (some .boolean), Cond.methodLink RX8 224 yX8_begin, Cond.instanceMethod yX8_begin, Cond.selects RX8 yX8_begin yX8_begin, Cond.code yX8_begin cX8_begin 2 none, Cond.methodLink RX8 51 yX8_has, Cond.static yX8_has, Cond.code yX8_has cX8_has 3 (some .boolean), Cond.methodLink RX8 129 yX8_many, Cond.static yX8_many, Cond.code yX8_many cX8_many 4 (some .int), Cond.methodLink RX8 162 yX8_partsOf, Cond.static yX8_partsOf, Cond.code yX8_partsOf cX8_partsOf 8 (some .int)]
def wsX8_fades_r2 : List Cond := [Cond.methodLink RX8 73 yX8_bright, Cond.static yX8_bright, Cond.code yX8_bright cX8_bright 7 (some .long), Cond.methodLink RX8 55 yX8_dotsOf, Cond.static yX8_dotsOf, Cond.code yX8_dotsOf cX8_dotsOf 1 (some .int), Cond.methodLink RX8 77 yX8_spread, Cond.static yX8_spread, Cond.code yX8_spread cX8_spread 10 (some .long), Cond.methodLink RX8 69 yX8_around, Cond.static yX8_around, Cond.code yX8_around cX8_around 6 (some .long), Cond.methodLink RX8 63 yX8_isBeside, Cond.static yX8_isBeside, Cond.code yX8_isBeside cX8_isBeside 7 (some .boolean), Cond.methodLink RX8 249 yX8_power, Cond.static yX8_power, Cond.code yX8_power cX8_power 4 (some .int), Cond.methodLink RX8 201 yX8_fraction, Cond.static yX8_fraction, Cond.code yX8_fraction cX8_fraction 4 (some .int), Cond.methodLink RX8 187 yX8_divisor, Cond.static yX8_divisor, Cond.code yX8_divisor cX8_divisor 5 (some .int)]
def wsX8_fades : List Cond := .code yX8_fades cX8_fades 11 (some .int) :: ((wsX8_fades_r1 ++ wsX8_fades_r2) ++ wsX80)
def wsX8_seed : List Cond := .code yX8_seed cX8_seed 5 (some .long) :: ([.fieldLink RX8 47 "ShadeTreeModel" "thrown" "I", .fieldLink RX8 252 "ShadeTreeModel" "seed" "J"] ++ wsX80)
def wsX8_goDraw_r1 : List Cond := [Cond.fieldLink RX8 19 "ShadeTreeModel" "trial" "[I", Cond.methodLink RX8 169 yX8_goNegative, Cond.static yX8_goNegative, Cond.initialized RX8, Cond.code yX8_goNegative cX8_goNegative 2 none, Cond.methodLink RX8 55 yX8_dotsOf, Cond.static yX8_dotsOf, Cond.code yX8_dotsOf cX8_dotsOf 1 (some .int), Cond.methodLink RX8 183 yX8_goSift, Cond.instanceMethod yX8_goSift, Cond.selects RX8 yX8_goSift yX8_goSift, Cond.code yX8_goSift cX8_goSift 6 (some .int), Cond.fieldLink RX8 22 "ShadeTreeModel" "changed" "[I", Cond.methodLink RX8 177 yX8_sifted, Cond.static yX8_sifted, Cond.code yX8_sifted cX8_sifted 7 (some .int), Cond.constantLong RX8 67 (-1), Cond.methodLink RX8 81 yX8_part, Cond.static yX8_part, Cond.code yX8_part cX8_part 3 (some .long), Cond.methodLink RX8 73 yX8_bright, Cond.static yX8_bright, Cond.code yX8_bright cX8_bright 7 (some .long), Cond.methodLink RX8 51 yX8_has]
def wsX8_goDraw_r2 : List Cond := [Cond.static yX8_has, Cond.code yX8_has cX8_has 3 (some .boolean), Cond.methodLink RX8 77 yX8_spread, Cond.static yX8_spread, Cond.code yX8_spread cX8_spread 10 (some .long), Cond.methodLink RX8 69 yX8_around, Cond.static yX8_around, Cond.code yX8_around cX8_around 6 (some .long), Cond.methodLink RX8 63 yX8_isBeside, Cond.static yX8_isBeside, Cond.code yX8_isBeside cX8_isBeside 7 (some .boolean), Cond.methodLink RX8 173 yX8_stays, Cond.static yX8_stays, Cond.code yX8_stays cX8_stays 5 (some .boolean), Cond.methodLink RX8 129 yX8_many, Cond.static yX8_many, Cond.code yX8_many cX8_many 4 (some .int), Cond.methodLink RX8 155 yX8_box, Cond.static yX8_box, Cond.code yX8_box cX8_box 8 (some .int), Cond.methodLink RX8 84 yX8_level, Cond.static yX8_level, Cond.code yX8_level cX8_level 5 (some .int)]
def wsX8_goDraw : List Cond := .code yX8_goDraw cX8_goDraw 3 none :: ((wsX8_goDraw_r1 ++ wsX8_goDraw_r2) ++ wsX80)
def wsX8_drawn_r1 : List Cond := [Cond.fieldLink RX8 47 "ShadeTreeModel" "thrown" "I", Cond.constantLong RX8 256 (20), Cond.fieldLink RX8 252 "ShadeTreeModel" "seed" "J", Cond.constantLong RX8 258 (6364136223846793005), Cond.constantLong RX8 260 (1442695040888963407), Cond.fieldLink RX8 19 "ShadeTreeModel" "trial" "[I", Cond.methodLink RX8 59 yX8_in, Cond.static yX8_in, Cond.initialized RX8, Cond.code yX8_in cX8_in 6 (some .boolean), Cond.methodLink RX8 224 yX8_begin, Cond.instanceMethod yX8_begin, Cond.selects RX8 yX8_begin yX8_begin, Cond.code yX8_begin cX8_begin 2 none, Cond.fieldLink RX8 16 "ShadeTreeModel" "page" "[I", Cond.methodLink RX8 55 yX8_dotsOf, Cond.static yX8_dotsOf, Cond.code yX8_dotsOf cX8_dotsOf 1 (some .int), Cond.methodLink RX8 262 yX8_goDraw, Cond.instanceMethod yX8_goDraw, Cond.selects RX8 yX8_goDraw yX8_goDraw, Cond.code yX8_goDraw cX8_goDraw 3 none, Cond.methodLink RX8 169 yX8_goNegative, Cond.static yX8_goNegative]
def wsX8_drawn_r2 : List Cond := [Cond.code yX8_goNegative cX8_goNegative 2 none, Cond.methodLink RX8 183 yX8_goSift, Cond.instanceMethod yX8_goSift, Cond.selects RX8 yX8_goSift yX8_goSift, Cond.code yX8_goSift cX8_goSift 6 (some .int), Cond.fieldLink RX8 22 "ShadeTreeModel" "changed" "[I", Cond.methodLink RX8 177 yX8_sifted, Cond.static yX8_sifted, Cond.code yX8_sifted cX8_sifted 7 (some .int), Cond.constantLong RX8 67 (-1), Cond.methodLink RX8 81 yX8_part, Cond.static yX8_part, Cond.code yX8_part cX8_part 3 (some .long), Cond.methodLink RX8 73 yX8_bright, Cond.static yX8_bright, Cond.code yX8_bright cX8_bright 7 (some .long), Cond.methodLink RX8 51 yX8_has, Cond.static yX8_has, Cond.code yX8_has cX8_has 3 (some .boolean), Cond.methodLink RX8 77 yX8_spread, Cond.static yX8_spread, Cond.code yX8_spread cX8_spread 10 (some .long), Cond.methodLink RX8 69 yX8_around, Cond.static yX8_around]
def wsX8_drawn_r3 : List Cond := [Cond.code yX8_around cX8_around 6 (some .long), Cond.methodLink RX8 63 yX8_isBeside, Cond.static yX8_isBeside, Cond.code yX8_isBeside cX8_isBeside 7 (some .boolean), Cond.methodLink RX8 173 yX8_stays, Cond.static yX8_stays, Cond.code yX8_stays cX8_stays 5 (some .boolean), Cond.methodLink RX8 129 yX8_many, Cond.static yX8_many, Cond.code yX8_many cX8_many 4 (some .int), Cond.methodLink RX8 155 yX8_box, Cond.static yX8_box, Cond.code yX8_box cX8_box 8 (some .int), Cond.methodLink RX8 84 yX8_level, Cond.static yX8_level, Cond.code yX8_level cX8_level 5 (some .int), Cond.methodLink RX8 126 yX8_nodes, Cond.static yX8_nodes, Cond.code yX8_nodes cX8_nodes 3 (some .int), Cond.methodLink RX8 95 yX8_isHead, Cond.static yX8_isHead, Cond.code yX8_isHead cX8_isHead 2 (some .boolean), Cond.methodLink RX8 91 yX8_nodeOf, Cond.static yX8_nodeOf]
def wsX8_drawn_r4 : List Cond := [Cond.code yX8_nodeOf cX8_nodeOf 2 (some .long), Cond.methodLink RX8 88 yX8_head, Cond.static yX8_head, Cond.code yX8_head cX8_head 5 (some .int)]
def wsX8_drawn : List Cond := .code yX8_drawn cX8_drawn 5 (some .int) :: ((wsX8_drawn_r1 ++ (wsX8_drawn_r2 ++ (wsX8_drawn_r3 ++ wsX8_drawn_r4))) ++ wsX80)
def wsX8_keep_r1 : List Cond := [Cond.fieldLink RX8 47 "ShadeTreeModel" "thrown" "I", Cond.fieldLink RX8 31 "ShadeTreeModel" "isKept" "[Z", Cond.fieldLink RX8 28 "ShadeTreeModel" "kept" "[I", Cond.fieldLink RX8 16 "ShadeTreeModel" "page" "[I", Cond.methodLink RX8 59 yX8_in, Cond.static yX8_in, Cond.initialized RX8, Cond.code yX8_in cX8_in 6 (some .boolean), Cond.methodLink RX8 126 yX8_nodes, Cond.static yX8_nodes, Cond.code yX8_nodes cX8_nodes 3 (some .int), Cond.methodLink RX8 55 yX8_dotsOf, Cond.static yX8_dotsOf, Cond.code yX8_dotsOf cX8_dotsOf 1 (some .int), Cond.methodLink RX8 95 yX8_isHead, Cond.static yX8_isHead, Cond.code yX8_isHead cX8_isHead 2 (some .boolean), Cond.methodLink RX8 91 yX8_nodeOf, Cond.static yX8_nodeOf, Cond.code yX8_nodeOf cX8_nodeOf 2 (some .long), Cond.methodLink RX8 81 yX8_part, Cond.static yX8_part, Cond.code yX8_part cX8_part 3 (some .long), Cond.constantLong RX8 67 (-1)]
def wsX8_keep_r2 : List Cond := [Cond.methodLink RX8 73 yX8_bright, Cond.static yX8_bright, Cond.code yX8_bright cX8_bright 7 (some .long), Cond.methodLink RX8 51 yX8_has, Cond.static yX8_has, Cond.code yX8_has cX8_has 3 (some .boolean), Cond.methodLink RX8 77 yX8_spread, Cond.static yX8_spread, Cond.code yX8_spread cX8_spread 10 (some .long), Cond.methodLink RX8 69 yX8_around, Cond.static yX8_around, Cond.code yX8_around cX8_around 6 (some .long), Cond.methodLink RX8 63 yX8_isBeside, Cond.static yX8_isBeside, Cond.code yX8_isBeside cX8_isBeside 7 (some .boolean), Cond.methodLink RX8 88 yX8_head, Cond.static yX8_head, Cond.code yX8_head cX8_head 5 (some .int), Cond.methodLink RX8 84 yX8_level, Cond.static yX8_level, Cond.code yX8_level cX8_level 5 (some .int)]
def wsX8_keep : List Cond := .code yX8_keep cX8_keep 3 (some .int) :: ((wsX8_keep_r1 ++ wsX8_keep_r2) ++ wsX80)
def wsX8_again_r1 : List Cond := [Cond.fieldLink RX8 47 "ShadeTreeModel" "thrown" "I", Cond.fieldLink RX8 31 "ShadeTreeModel" "isKept" "[Z", Cond.fieldLink RX8 16 "ShadeTreeModel" "page" "[I", Cond.fieldLink RX8 28 "ShadeTreeModel" "kept" "[I", Cond.fieldLink RX8 123 "ShadeTreeModel" "doings" "I", Cond.methodLink RX8 59 yX8_in, Cond.static yX8_in, Cond.initialized RX8, Cond.code yX8_in cX8_in 6 (some .boolean), Cond.methodLink RX8 126 yX8_nodes, Cond.static yX8_nodes, Cond.code yX8_nodes cX8_nodes 3 (some .int), Cond.methodLink RX8 55 yX8_dotsOf, Cond.static yX8_dotsOf, Cond.code yX8_dotsOf cX8_dotsOf 1 (some .int), Cond.methodLink RX8 95 yX8_isHead, Cond.static yX8_isHead, Cond.code yX8_isHead cX8_isHead 2 (some .boolean), Cond.methodLink RX8 91 yX8_nodeOf, Cond.static yX8_nodeOf, Cond.code yX8_nodeOf cX8_nodeOf 2 (some .long), Cond.methodLink RX8 81 yX8_part, Cond.static yX8_part, Cond.code yX8_part cX8_part 3 (some .long)]
def wsX8_again_r2 : List Cond := [Cond.constantLong RX8 67 (-1), Cond.methodLink RX8 73 yX8_bright, Cond.static yX8_bright, Cond.code yX8_bright cX8_bright 7 (some .long), Cond.methodLink RX8 51 yX8_has, Cond.static yX8_has, Cond.code yX8_has cX8_has 3 (some .boolean), Cond.methodLink RX8 77 yX8_spread, Cond.static yX8_spread, Cond.code yX8_spread cX8_spread 10 (some .long), Cond.methodLink RX8 69 yX8_around, Cond.static yX8_around, Cond.code yX8_around cX8_around 6 (some .long), Cond.methodLink RX8 63 yX8_isBeside, Cond.static yX8_isBeside, Cond.code yX8_isBeside cX8_isBeside 7 (some .boolean), Cond.methodLink RX8 88 yX8_head, Cond.static yX8_head, Cond.code yX8_head cX8_head 5 (some .int), Cond.methodLink RX8 84 yX8_level, Cond.static yX8_level, Cond.code yX8_level cX8_level 5 (some .int)]
def wsX8_again : List Cond := .code yX8_again cX8_again 3 (some .int) :: ((wsX8_again_r1 ++ wsX8_again_r2) ++ wsX80)
def wsJ9_abs_0f7a4 : List Cond := .code yJ9_abs_0f7a4 cJ9_abs_0f7a4 1 (some .int) :: ([])
def wsJ9_max_7cf53 : List Cond := .code yJ9_max_7cf53 cJ9_max_7cf53 2 (some .int) :: ([])
theorem dX0_init_0 : decode cX0_init 0 = .ok (.aload_n 0, 1) := by decide +kernel
theorem dX0_init_1 : decode cX0_init 1 = .ok (.invokespecial 3, 3) := by decide +kernel
theorem dX0_init_4 : decode cX0_init 4 = .ok (.aload_n 0, 1) := by decide +kernel
theorem dX0_init_5 : decode cX0_init 5 = .ok (.sipush 140, 3) := by decide +kernel
theorem dX0_init_8 : decode cX0_init 8 = .ok (.newarray .long, 2) := by decide +kernel
theorem dX0_init_10 : decode cX0_init 10 = .ok (.putfield 11, 3) := by decide +kernel
theorem dX0_init_13 : decode cX0_init 13 = .ok (.return_, 1) := by decide +kernel
theorem dX0_size_0 : decode cX0_size 0 = .ok (.aload_n 0, 1) := by decide +kernel
theorem dX0_size_1 : decode cX0_size 1 = .ok (.getfield 15, 3) := by decide +kernel
theorem dX0_size_4 : decode cX0_size 4 = .ok (.ireturn, 1) := by decide +kernel
theorem dX0_clear_0 : decode cX0_clear 0 = .ok (.aload_n 0, 1) := by decide +kernel
theorem dX0_clear_1 : decode cX0_clear 1 = .ok (.iconst 0, 1) := by decide +kernel
theorem dX0_clear_2 : decode cX0_clear 2 = .ok (.putfield 15, 3) := by decide +kernel
theorem dX0_clear_5 : decode cX0_clear 5 = .ok (.return_, 1) := by decide +kernel
set_option maxRecDepth 20000 in
theorem ggX0_add_X2_store : GoodIn wsX0_add wsX2_store := goodIn_r _ [11, 12, 13, 4, 5, 6, 16, 17] (by decide +kernel) (by decide +kernel)
set_option maxRecDepth 20000 in
theorem gX0_add_X2_store : GoodIn wsX0_add (wsV RX0 25 RX2 yX2_store wsX2_store) := goodIn_app (goodIn_of _ (by decide +kernel)) ggX0_add_X2_store
theorem dX0_add_0 : decode cX0_add 0 = .ok (.aload_n 1, 1) := by decide +kernel
theorem dX0_add_1 : decode cX0_add 1 = .ok (.ifnonnull 4, 3) := by decide +kernel
theorem dX0_add_4 : decode cX0_add 4 = .ok (.return_, 1) := by decide +kernel
theorem dX0_add_5 : decode cX0_add 5 = .ok (.aload_n 0, 1) := by decide +kernel
theorem dX0_add_6 : decode cX0_add 6 = .ok (.getfield 15, 3) := by decide +kernel
theorem dX0_add_9 : decode cX0_add 9 = .ok (.bipush 14, 2) := by decide +kernel
theorem dX0_add_11 : decode cX0_add 11 = .ok (.if_icmp .lt 31, 3) := by decide +kernel
theorem dX0_add_14 : decode cX0_add 14 = .ok (.aload_n 0, 1) := by decide +kernel
theorem dX0_add_15 : decode cX0_add 15 = .ok (.getfield 11, 3) := by decide +kernel
theorem dX0_add_18 : decode cX0_add 18 = .ok (.bipush 10, 2) := by decide +kernel
theorem dX0_add_20 : decode cX0_add 20 = .ok (.aload_n 0, 1) := by decide +kernel
theorem dX0_add_21 : decode cX0_add 21 = .ok (.getfield 11, 3) := by decide +kernel
theorem dX0_add_24 : decode cX0_add 24 = .ok (.iconst 0, 1) := by decide +kernel
theorem dX0_add_25 : decode cX0_add 25 = .ok (.aload_n 0, 1) := by decide +kernel
theorem dX0_add_26 : decode cX0_add 26 = .ok (.getfield 11, 3) := by decide +kernel
theorem dX0_add_29 : decode cX0_add 29 = .ok (.arraylength, 1) := by decide +kernel
theorem dX0_add_30 : decode cX0_add 30 = .ok (.bipush 10, 2) := by decide +kernel
theorem dX0_add_32 : decode cX0_add 32 = .ok (.isub, 1) := by decide +kernel
theorem dX0_add_33 : decode cX0_add 33 = .ok (.invokestatic 19, 3) := by decide +kernel
theorem dX0_add_36 : decode cX0_add 36 = .ok (.aload_n 0, 1) := by decide +kernel
theorem dX0_add_37 : decode cX0_add 37 = .ok (.bipush 13, 2) := by decide +kernel
theorem dX0_add_39 : decode cX0_add 39 = .ok (.putfield 15, 3) := by decide +kernel
theorem dX0_add_42 : decode cX0_add 42 = .ok (.aload_n 1, 1) := by decide +kernel
theorem dX0_add_43 : decode cX0_add 43 = .ok (.aload_n 0, 1) := by decide +kernel
theorem dX0_add_44 : decode cX0_add 44 = .ok (.getfield 11, 3) := by decide +kernel
theorem dX0_add_47 : decode cX0_add 47 = .ok (.aload_n 0, 1) := by decide +kernel
theorem dX0_add_48 : decode cX0_add 48 = .ok (.getfield 15, 3) := by decide +kernel
theorem dX0_add_51 : decode cX0_add 51 = .ok (.bipush 10, 2) := by decide +kernel
theorem dX0_add_53 : decode cX0_add 53 = .ok (.imul, 1) := by decide +kernel
theorem dX0_add_54 : decode cX0_add 54 = .ok (.invokevirtual 25, 3) := by decide +kernel
theorem dX0_add_57 : decode cX0_add 57 = .ok (.aload_n 0, 1) := by decide +kernel
theorem dX0_add_58 : decode cX0_add 58 = .ok (.dup, 1) := by decide +kernel
theorem dX0_add_59 : decode cX0_add 59 = .ok (.getfield 15, 3) := by decide +kernel
theorem dX0_add_62 : decode cX0_add 62 = .ok (.iconst 1, 1) := by decide +kernel
theorem dX0_add_63 : decode cX0_add 63 = .ok (.iadd, 1) := by decide +kernel
theorem dX0_add_64 : decode cX0_add 64 = .ok (.putfield 15, 3) := by decide +kernel
theorem dX0_add_67 : decode cX0_add 67 = .ok (.return_, 1) := by decide +kernel
set_option maxRecDepth 20000 in
theorem ggX0_takeBack_X2_load : GoodIn wsX0_takeBack wsX2_load := goodIn_r _ [7, 8, 9, 10, 11, 12, 15, 16] (by decide +kernel) (by decide +kernel)
set_option maxRecDepth 20000 in
theorem gX0_takeBack_X2_load : GoodIn wsX0_takeBack (wsV RX0 31 RX2 yX2_load wsX2_load) := goodIn_app (goodIn_of _ (by decide +kernel)) ggX0_takeBack_X2_load
theorem dX0_takeBack_0 : decode cX0_takeBack 0 = .ok (.aload_n 1, 1) := by decide +kernel
theorem dX0_takeBack_1 : decode cX0_takeBack 1 = .ok (.ifnull 11, 3) := by decide +kernel
theorem dX0_takeBack_4 : decode cX0_takeBack 4 = .ok (.aload_n 0, 1) := by decide +kernel
theorem dX0_takeBack_5 : decode cX0_takeBack 5 = .ok (.getfield 15, 3) := by decide +kernel
theorem dX0_takeBack_8 : decode cX0_takeBack 8 = .ok (.iconst 1, 1) := by decide +kernel
theorem dX0_takeBack_9 : decode cX0_takeBack 9 = .ok (.if_icmp .ge 5, 3) := by decide +kernel
theorem dX0_takeBack_12 : decode cX0_takeBack 12 = .ok (.iconst 0, 1) := by decide +kernel
theorem dX0_takeBack_13 : decode cX0_takeBack 13 = .ok (.ireturn, 1) := by decide +kernel
theorem dX0_takeBack_14 : decode cX0_takeBack 14 = .ok (.aload_n 0, 1) := by decide +kernel
theorem dX0_takeBack_15 : decode cX0_takeBack 15 = .ok (.dup, 1) := by decide +kernel
theorem dX0_takeBack_16 : decode cX0_takeBack 16 = .ok (.getfield 15, 3) := by decide +kernel
theorem dX0_takeBack_19 : decode cX0_takeBack 19 = .ok (.iconst 1, 1) := by decide +kernel
theorem dX0_takeBack_20 : decode cX0_takeBack 20 = .ok (.isub, 1) := by decide +kernel
theorem dX0_takeBack_21 : decode cX0_takeBack 21 = .ok (.putfield 15, 3) := by decide +kernel
theorem dX0_takeBack_24 : decode cX0_takeBack 24 = .ok (.aload_n 1, 1) := by decide +kernel
theorem dX0_takeBack_25 : decode cX0_takeBack 25 = .ok (.aload_n 0, 1) := by decide +kernel
theorem dX0_takeBack_26 : decode cX0_takeBack 26 = .ok (.getfield 11, 3) := by decide +kernel
theorem dX0_takeBack_29 : decode cX0_takeBack 29 = .ok (.aload_n 0, 1) := by decide +kernel
theorem dX0_takeBack_30 : decode cX0_takeBack 30 = .ok (.getfield 15, 3) := by decide +kernel
theorem dX0_takeBack_33 : decode cX0_takeBack 33 = .ok (.bipush 10, 2) := by decide +kernel
theorem dX0_takeBack_35 : decode cX0_takeBack 35 = .ok (.imul, 1) := by decide +kernel
theorem dX0_takeBack_36 : decode cX0_takeBack 36 = .ok (.invokevirtual 31, 3) := by decide +kernel
theorem dX0_takeBack_39 : decode cX0_takeBack 39 = .ok (.iconst 1, 1) := by decide +kernel
theorem dX0_takeBack_40 : decode cX0_takeBack 40 = .ok (.ireturn, 1) := by decide +kernel
set_option maxRecDepth 20000 in
theorem ggX1_init_X1_lay : GoodIn wsX1_init wsX1_lay := goodIn_r _ [8, 9, 10, 11, 12, 13, 14, 15, 16, 17, 18, 19, 20] (by decide +kernel) (by decide +kernel)
set_option maxRecDepth 20000 in
theorem gX1_init_X1_lay : GoodIn wsX1_init (wsV RX1 9 RX1 yX1_lay wsX1_lay) := goodIn_app (goodIn_of _ (by decide +kernel)) ggX1_init_X1_lay
theorem dX1_init_0 : decode cX1_init 0 = .ok (.aload_n 0, 1) := by decide +kernel
theorem dX1_init_1 : decode cX1_init 1 = .ok (.invokespecial 3, 3) := by decide +kernel
theorem dX1_init_4 : decode cX1_init 4 = .ok (.aload_n 0, 1) := by decide +kernel
theorem dX1_init_5 : decode cX1_init 5 = .ok (.iconst 4, 1) := by decide +kernel
theorem dX1_init_6 : decode cX1_init 6 = .ok (.iconst 1, 1) := by decide +kernel
theorem dX1_init_7 : decode cX1_init 7 = .ok (.iconst 1, 1) := by decide +kernel
theorem dX1_init_8 : decode cX1_init 8 = .ok (.invokevirtual 9, 3) := by decide +kernel
theorem dX1_init_11 : decode cX1_init 11 = .ok (.return_, 1) := by decide +kernel
theorem dX1_lay_0 : decode cX1_lay 0 = .ok (.aload_n 0, 1) := by decide +kernel
theorem dX1_lay_1 : decode cX1_lay 1 = .ok (.iload_n 1, 1) := by decide +kernel
theorem dX1_lay_2 : decode cX1_lay 2 = .ok (.putfield 15, 3) := by decide +kernel
theorem dX1_lay_5 : decode cX1_lay 5 = .ok (.aload_n 0, 1) := by decide +kernel
theorem dX1_lay_6 : decode cX1_lay 6 = .ok (.iload_n 2, 1) := by decide +kernel
theorem dX1_lay_7 : decode cX1_lay 7 = .ok (.putfield 19, 3) := by decide +kernel
theorem dX1_lay_10 : decode cX1_lay 10 = .ok (.aload_n 0, 1) := by decide +kernel
theorem dX1_lay_11 : decode cX1_lay 11 = .ok (.iload_n 3, 1) := by decide +kernel
theorem dX1_lay_12 : decode cX1_lay 12 = .ok (.putfield 22, 3) := by decide +kernel
theorem dX1_lay_15 : decode cX1_lay 15 = .ok (.aload_n 0, 1) := by decide +kernel
theorem dX1_lay_16 : decode cX1_lay 16 = .ok (.lconst 1, 1) := by decide +kernel
theorem dX1_lay_17 : decode cX1_lay 17 = .ok (.aload_n 0, 1) := by decide +kernel
theorem dX1_lay_18 : decode cX1_lay 18 = .ok (.getfield 19, 3) := by decide +kernel
theorem dX1_lay_21 : decode cX1_lay 21 = .ok (.aload_n 0, 1) := by decide +kernel
theorem dX1_lay_22 : decode cX1_lay 22 = .ok (.getfield 22, 3) := by decide +kernel
theorem dX1_lay_25 : decode cX1_lay 25 = .ok (.imul, 1) := by decide +kernel
theorem dX1_lay_26 : decode cX1_lay 26 = .ok (.lshl, 1) := by decide +kernel
theorem dX1_lay_27 : decode cX1_lay 27 = .ok (.lconst 1, 1) := by decide +kernel
theorem dX1_lay_28 : decode cX1_lay 28 = .ok (.lsub, 1) := by decide +kernel
theorem dX1_lay_29 : decode cX1_lay 29 = .ok (.putfield 25, 3) := by decide +kernel
theorem dX1_lay_32 : decode cX1_lay 32 = .ok (.aload_n 0, 1) := by decide +kernel
theorem dX1_lay_33 : decode cX1_lay 33 = .ok (.lconst 0, 1) := by decide +kernel
theorem dX1_lay_34 : decode cX1_lay 34 = .ok (.putfield 29, 3) := by decide +kernel
theorem dX1_lay_37 : decode cX1_lay 37 = .ok (.iconst 0, 1) := by decide +kernel
theorem dX1_lay_38 : decode cX1_lay 38 = .ok (.istore 4, 2) := by decide +kernel
theorem dX1_lay_40 : decode cX1_lay 40 = .ok (.iload 4, 2) := by decide +kernel
theorem dX1_lay_42 : decode cX1_lay 42 = .ok (.aload_n 0, 1) := by decide +kernel
theorem dX1_lay_43 : decode cX1_lay 43 = .ok (.getfield 22, 3) := by decide +kernel
theorem dX1_lay_46 : decode cX1_lay 46 = .ok (.if_icmp .ge 27, 3) := by decide +kernel
theorem dX1_lay_49 : decode cX1_lay 49 = .ok (.aload_n 0, 1) := by decide +kernel
theorem dX1_lay_50 : decode cX1_lay 50 = .ok (.dup, 1) := by decide +kernel
theorem dX1_lay_51 : decode cX1_lay 51 = .ok (.getfield 29, 3) := by decide +kernel
theorem dX1_lay_54 : decode cX1_lay 54 = .ok (.lconst 1, 1) := by decide +kernel
theorem dX1_lay_55 : decode cX1_lay 55 = .ok (.iload 4, 2) := by decide +kernel
theorem dX1_lay_57 : decode cX1_lay 57 = .ok (.aload_n 0, 1) := by decide +kernel
theorem dX1_lay_58 : decode cX1_lay 58 = .ok (.getfield 19, 3) := by decide +kernel
theorem dX1_lay_61 : decode cX1_lay 61 = .ok (.imul, 1) := by decide +kernel
theorem dX1_lay_62 : decode cX1_lay 62 = .ok (.lshl, 1) := by decide +kernel
theorem dX1_lay_63 : decode cX1_lay 63 = .ok (.lor, 1) := by decide +kernel
theorem dX1_lay_64 : decode cX1_lay 64 = .ok (.putfield 29, 3) := by decide +kernel
theorem dX1_lay_67 : decode cX1_lay 67 = .ok (.iinc 4 1, 3) := by decide +kernel
theorem dX1_lay_70 : decode cX1_lay 70 = .ok (.goto (-30), 3) := by decide +kernel
theorem dX1_lay_73 : decode cX1_lay 73 = .ok (.aload_n 0, 1) := by decide +kernel
theorem dX1_lay_74 : decode cX1_lay 74 = .ok (.aload_n 0, 1) := by decide +kernel
theorem dX1_lay_75 : decode cX1_lay 75 = .ok (.getfield 29, 3) := by decide +kernel
theorem dX1_lay_78 : decode cX1_lay 78 = .ok (.aload_n 0, 1) := by decide +kernel
theorem dX1_lay_79 : decode cX1_lay 79 = .ok (.getfield 19, 3) := by decide +kernel
theorem dX1_lay_82 : decode cX1_lay 82 = .ok (.iconst 1, 1) := by decide +kernel
theorem dX1_lay_83 : decode cX1_lay 83 = .ok (.isub, 1) := by decide +kernel
theorem dX1_lay_84 : decode cX1_lay 84 = .ok (.lshl, 1) := by decide +kernel
theorem dX1_lay_85 : decode cX1_lay 85 = .ok (.putfield 32, 3) := by decide +kernel
theorem dX1_lay_88 : decode cX1_lay 88 = .ok (.return_, 1) := by decide +kernel
theorem dX1_way_0 : decode cX1_way 0 = .ok (.aload_n 0, 1) := by decide +kernel
theorem dX1_way_1 : decode cX1_way 1 = .ok (.getfield 15, 3) := by decide +kernel
theorem dX1_way_4 : decode cX1_way 4 = .ok (.ireturn, 1) := by decide +kernel
theorem dX1_wide_0 : decode cX1_wide 0 = .ok (.aload_n 0, 1) := by decide +kernel
theorem dX1_wide_1 : decode cX1_wide 1 = .ok (.getfield 19, 3) := by decide +kernel
theorem dX1_wide_4 : decode cX1_wide 4 = .ok (.ireturn, 1) := by decide +kernel
theorem dX1_high_0 : decode cX1_high 0 = .ok (.aload_n 0, 1) := by decide +kernel
theorem dX1_high_1 : decode cX1_high 1 = .ok (.getfield 22, 3) := by decide +kernel
theorem dX1_high_4 : decode cX1_high 4 = .ok (.ireturn, 1) := by decide +kernel
theorem dX1_size_0 : decode cX1_size 0 = .ok (.aload_n 0, 1) := by decide +kernel
theorem dX1_size_1 : decode cX1_size 1 = .ok (.getfield 19, 3) := by decide +kernel
theorem dX1_size_4 : decode cX1_size 4 = .ok (.aload_n 0, 1) := by decide +kernel
theorem dX1_size_5 : decode cX1_size 5 = .ok (.getfield 22, 3) := by decide +kernel
theorem dX1_size_8 : decode cX1_size 8 = .ok (.imul, 1) := by decide +kernel
theorem dX1_size_9 : decode cX1_size 9 = .ok (.ireturn, 1) := by decide +kernel
theorem dX1_all_0 : decode cX1_all 0 = .ok (.aload_n 0, 1) := by decide +kernel
theorem dX1_all_1 : decode cX1_all 1 = .ok (.getfield 25, 3) := by decide +kernel
theorem dX1_all_4 : decode cX1_all 4 = .ok (.lreturn, 1) := by decide +kernel
set_option maxRecDepth 20000 in
theorem ggX1_hasDot_X1_size : GoodIn wsX1_hasDot wsX1_size := goodIn_r _ [5, 6, 7, 8, 9, 10, 11, 12, 13] (by decide +kernel) (by decide +kernel)
set_option maxRecDepth 20000 in
theorem gX1_hasDot_X1_size : GoodIn wsX1_hasDot (wsV RX1 35 RX1 yX1_size wsX1_size) := goodIn_app (goodIn_of _ (by decide +kernel)) ggX1_hasDot_X1_size
theorem dX1_hasDot_0 : decode cX1_hasDot 0 = .ok (.iload_n 1, 1) := by decide +kernel
theorem dX1_hasDot_1 : decode cX1_hasDot 1 = .ok (.ifCond .lt 15, 3) := by decide +kernel
theorem dX1_hasDot_4 : decode cX1_hasDot 4 = .ok (.iload_n 1, 1) := by decide +kernel
theorem dX1_hasDot_5 : decode cX1_hasDot 5 = .ok (.aload_n 0, 1) := by decide +kernel
theorem dX1_hasDot_6 : decode cX1_hasDot 6 = .ok (.invokevirtual 35, 3) := by decide +kernel
theorem dX1_hasDot_9 : decode cX1_hasDot 9 = .ok (.if_icmp .ge 7, 3) := by decide +kernel
theorem dX1_hasDot_12 : decode cX1_hasDot 12 = .ok (.iconst 1, 1) := by decide +kernel
theorem dX1_hasDot_13 : decode cX1_hasDot 13 = .ok (.goto 4, 3) := by decide +kernel
theorem dX1_hasDot_16 : decode cX1_hasDot 16 = .ok (.iconst 0, 1) := by decide +kernel
theorem dX1_hasDot_17 : decode cX1_hasDot 17 = .ok (.ireturn, 1) := by decide +kernel
theorem dX1_hasRow_0 : decode cX1_hasRow 0 = .ok (.iload_n 1, 1) := by decide +kernel
theorem dX1_hasRow_1 : decode cX1_hasRow 1 = .ok (.ifCond .lt 15, 3) := by decide +kernel
theorem dX1_hasRow_4 : decode cX1_hasRow 4 = .ok (.iload_n 1, 1) := by decide +kernel
theorem dX1_hasRow_5 : decode cX1_hasRow 5 = .ok (.aload_n 0, 1) := by decide +kernel
theorem dX1_hasRow_6 : decode cX1_hasRow 6 = .ok (.getfield 22, 3) := by decide +kernel
theorem dX1_hasRow_9 : decode cX1_hasRow 9 = .ok (.if_icmp .ge 7, 3) := by decide +kernel
theorem dX1_hasRow_12 : decode cX1_hasRow 12 = .ok (.iconst 1, 1) := by decide +kernel
theorem dX1_hasRow_13 : decode cX1_hasRow 13 = .ok (.goto 4, 3) := by decide +kernel
theorem dX1_hasRow_16 : decode cX1_hasRow 16 = .ok (.iconst 0, 1) := by decide +kernel
theorem dX1_hasRow_17 : decode cX1_hasRow 17 = .ok (.ireturn, 1) := by decide +kernel
theorem dX1_row_0 : decode cX1_row 0 = .ok (.lconst 1, 1) := by decide +kernel
theorem dX1_row_1 : decode cX1_row 1 = .ok (.aload_n 0, 1) := by decide +kernel
theorem dX1_row_2 : decode cX1_row 2 = .ok (.getfield 19, 3) := by decide +kernel
theorem dX1_row_5 : decode cX1_row 5 = .ok (.lshl, 1) := by decide +kernel
theorem dX1_row_6 : decode cX1_row 6 = .ok (.lconst 1, 1) := by decide +kernel
theorem dX1_row_7 : decode cX1_row 7 = .ok (.lsub, 1) := by decide +kernel
theorem dX1_row_8 : decode cX1_row 8 = .ok (.iload_n 1, 1) := by decide +kernel
theorem dX1_row_9 : decode cX1_row 9 = .ok (.aload_n 0, 1) := by decide +kernel
theorem dX1_row_10 : decode cX1_row 10 = .ok (.getfield 19, 3) := by decide +kernel
theorem dX1_row_13 : decode cX1_row 13 = .ok (.imul, 1) := by decide +kernel
theorem dX1_row_14 : decode cX1_row 14 = .ok (.lshl, 1) := by decide +kernel
theorem dX1_row_15 : decode cX1_row 15 = .ok (.lreturn, 1) := by decide +kernel
set_option maxRecDepth 20000 in
theorem ggX1_rows_X1_row : GoodIn wsX1_rows wsX1_row := goodIn_r _ [6, 7, 8, 9, 10, 11, 12, 13] (by decide +kernel) (by decide +kernel)
set_option maxRecDepth 20000 in
theorem gX1_rows_X1_row : GoodIn wsX1_rows (wsV RX1 39 RX1 yX1_row wsX1_row) := goodIn_app (goodIn_of _ (by decide +kernel)) ggX1_rows_X1_row
theorem dX1_rows_0 : decode cX1_rows 0 = .ok (.lconst 0, 1) := by decide +kernel
theorem dX1_rows_1 : decode cX1_rows 1 = .ok (.lstore_n 2, 1) := by decide +kernel
theorem dX1_rows_2 : decode cX1_rows 2 = .ok (.iconst 0, 1) := by decide +kernel
theorem dX1_rows_3 : decode cX1_rows 3 = .ok (.istore 4, 2) := by decide +kernel
theorem dX1_rows_5 : decode cX1_rows 5 = .ok (.iload 4, 2) := by decide +kernel
theorem dX1_rows_7 : decode cX1_rows 7 = .ok (.aload_n 0, 1) := by decide +kernel
theorem dX1_rows_8 : decode cX1_rows 8 = .ok (.getfield 22, 3) := by decide +kernel
theorem dX1_rows_11 : decode cX1_rows 11 = .ok (.if_icmp .ge 27, 3) := by decide +kernel
theorem dX1_rows_14 : decode cX1_rows 14 = .ok (.iload_n 1, 1) := by decide +kernel
theorem dX1_rows_15 : decode cX1_rows 15 = .ok (.iload 4, 2) := by decide +kernel
theorem dX1_rows_17 : decode cX1_rows 17 = .ok (.ishr, 1) := by decide +kernel
theorem dX1_rows_18 : decode cX1_rows 18 = .ok (.iconst 1, 1) := by decide +kernel
theorem dX1_rows_19 : decode cX1_rows 19 = .ok (.iand, 1) := by decide +kernel
theorem dX1_rows_20 : decode cX1_rows 20 = .ok (.ifCond .eq 12, 3) := by decide +kernel
theorem dX1_rows_23 : decode cX1_rows 23 = .ok (.lload_n 2, 1) := by decide +kernel
theorem dX1_rows_24 : decode cX1_rows 24 = .ok (.aload_n 0, 1) := by decide +kernel
theorem dX1_rows_25 : decode cX1_rows 25 = .ok (.iload 4, 2) := by decide +kernel
theorem dX1_rows_27 : decode cX1_rows 27 = .ok (.invokevirtual 39, 3) := by decide +kernel
theorem dX1_rows_30 : decode cX1_rows 30 = .ok (.lor, 1) := by decide +kernel
theorem dX1_rows_31 : decode cX1_rows 31 = .ok (.lstore_n 2, 1) := by decide +kernel
theorem dX1_rows_32 : decode cX1_rows 32 = .ok (.iinc 4 1, 3) := by decide +kernel
theorem dX1_rows_35 : decode cX1_rows 35 = .ok (.goto (-30), 3) := by decide +kernel
theorem dX1_rows_38 : decode cX1_rows 38 = .ok (.lload_n 2, 1) := by decide +kernel
theorem dX1_rows_39 : decode cX1_rows 39 = .ok (.lreturn, 1) := by decide +kernel
theorem dX1_columnsOf_0 : decode cX1_columnsOf 0 = .ok (.iconst 0, 1) := by decide +kernel
theorem dX1_columnsOf_1 : decode cX1_columnsOf 1 = .ok (.istore_n 3, 1) := by decide +kernel
theorem dX1_columnsOf_2 : decode cX1_columnsOf 2 = .ok (.iconst 0, 1) := by decide +kernel
theorem dX1_columnsOf_3 : decode cX1_columnsOf 3 = .ok (.istore 4, 2) := by decide +kernel
theorem dX1_columnsOf_5 : decode cX1_columnsOf 5 = .ok (.iload 4, 2) := by decide +kernel
theorem dX1_columnsOf_7 : decode cX1_columnsOf 7 = .ok (.aload_n 0, 1) := by decide +kernel
theorem dX1_columnsOf_8 : decode cX1_columnsOf 8 = .ok (.getfield 19, 3) := by decide +kernel
theorem dX1_columnsOf_11 : decode cX1_columnsOf 11 = .ok (.if_icmp .ge 26, 3) := by decide +kernel
theorem dX1_columnsOf_14 : decode cX1_columnsOf 14 = .ok (.lload_n 1, 1) := by decide +kernel
theorem dX1_columnsOf_15 : decode cX1_columnsOf 15 = .ok (.aload_n 0, 1) := by decide +kernel
theorem dX1_columnsOf_16 : decode cX1_columnsOf 16 = .ok (.getfield 29, 3) := by decide +kernel
theorem dX1_columnsOf_19 : decode cX1_columnsOf 19 = .ok (.iload 4, 2) := by decide +kernel
theorem dX1_columnsOf_21 : decode cX1_columnsOf 21 = .ok (.lshl, 1) := by decide +kernel
theorem dX1_columnsOf_22 : decode cX1_columnsOf 22 = .ok (.land, 1) := by decide +kernel
theorem dX1_columnsOf_23 : decode cX1_columnsOf 23 = .ok (.lconst 0, 1) := by decide +kernel
theorem dX1_columnsOf_24 : decode cX1_columnsOf 24 = .ok (.lcmp, 1) := by decide +kernel
theorem dX1_columnsOf_25 : decode cX1_columnsOf 25 = .ok (.ifCond .eq 6, 3) := by decide +kernel
theorem dX1_columnsOf_28 : decode cX1_columnsOf 28 = .ok (.iinc 3 1, 3) := by decide +kernel
theorem dX1_columnsOf_31 : decode cX1_columnsOf 31 = .ok (.iinc 4 1, 3) := by decide +kernel
theorem dX1_columnsOf_34 : decode cX1_columnsOf 34 = .ok (.goto (-29), 3) := by decide +kernel
theorem dX1_columnsOf_37 : decode cX1_columnsOf 37 = .ok (.iload_n 3, 1) := by decide +kernel
theorem dX1_columnsOf_38 : decode cX1_columnsOf 38 = .ok (.ireturn, 1) := by decide +kernel
set_option maxRecDepth 20000 in
theorem ggX1_rowsOf_X1_row : GoodIn wsX1_rowsOf wsX1_row := goodIn_r _ [6, 7, 8, 9, 10, 11, 12, 13] (by decide +kernel) (by decide +kernel)
set_option maxRecDepth 20000 in
theorem gX1_rowsOf_X1_row : GoodIn wsX1_rowsOf (wsV RX1 39 RX1 yX1_row wsX1_row) := goodIn_app (goodIn_of _ (by decide +kernel)) ggX1_rowsOf_X1_row
theorem dX1_rowsOf_0 : decode cX1_rowsOf 0 = .ok (.iconst 0, 1) := by decide +kernel
theorem dX1_rowsOf_1 : decode cX1_rowsOf 1 = .ok (.istore_n 3, 1) := by decide +kernel
theorem dX1_rowsOf_2 : decode cX1_rowsOf 2 = .ok (.iconst 0, 1) := by decide +kernel
theorem dX1_rowsOf_3 : decode cX1_rowsOf 3 = .ok (.istore 4, 2) := by decide +kernel
theorem dX1_rowsOf_5 : decode cX1_rowsOf 5 = .ok (.iload 4, 2) := by decide +kernel
theorem dX1_rowsOf_7 : decode cX1_rowsOf 7 = .ok (.aload_n 0, 1) := by decide +kernel
theorem dX1_rowsOf_8 : decode cX1_rowsOf 8 = .ok (.getfield 22, 3) := by decide +kernel
theorem dX1_rowsOf_11 : decode cX1_rowsOf 11 = .ok (.if_icmp .ge 25, 3) := by decide +kernel
theorem dX1_rowsOf_14 : decode cX1_rowsOf 14 = .ok (.lload_n 1, 1) := by decide +kernel
theorem dX1_rowsOf_15 : decode cX1_rowsOf 15 = .ok (.aload_n 0, 1) := by decide +kernel
theorem dX1_rowsOf_16 : decode cX1_rowsOf 16 = .ok (.iload 4, 2) := by decide +kernel
theorem dX1_rowsOf_18 : decode cX1_rowsOf 18 = .ok (.invokevirtual 39, 3) := by decide +kernel
theorem dX1_rowsOf_21 : decode cX1_rowsOf 21 = .ok (.land, 1) := by decide +kernel
theorem dX1_rowsOf_22 : decode cX1_rowsOf 22 = .ok (.lconst 0, 1) := by decide +kernel
theorem dX1_rowsOf_23 : decode cX1_rowsOf 23 = .ok (.lcmp, 1) := by decide +kernel
theorem dX1_rowsOf_24 : decode cX1_rowsOf 24 = .ok (.ifCond .eq 6, 3) := by decide +kernel
theorem dX1_rowsOf_27 : decode cX1_rowsOf 27 = .ok (.iinc 3 1, 3) := by decide +kernel
theorem dX1_rowsOf_30 : decode cX1_rowsOf 30 = .ok (.iinc 4 1, 3) := by decide +kernel
theorem dX1_rowsOf_33 : decode cX1_rowsOf 33 = .ok (.goto (-28), 3) := by decide +kernel
theorem dX1_rowsOf_36 : decode cX1_rowsOf 36 = .ok (.iload_n 3, 1) := by decide +kernel
theorem dX1_rowsOf_37 : decode cX1_rowsOf 37 = .ok (.ireturn, 1) := by decide +kernel
set_option maxRecDepth 20000 in
theorem ggX1_partAround_X1_spread : GoodIn wsX1_partAround wsX1_spread := goodIn_r _ [5, 6, 7, 8, 9, 10, 11, 12, 13, 14, 15] (by decide +kernel) (by decide +kernel)
set_option maxRecDepth 20000 in
theorem gX1_partAround_X1_spread : GoodIn wsX1_partAround (wsV RX1 43 RX1 yX1_spread wsX1_spread) := goodIn_app (goodIn_of _ (by decide +kernel)) ggX1_partAround_X1_spread
theorem dX1_partAround_0 : decode cX1_partAround 0 = .ok (.lload_n 3, 1) := by decide +kernel
theorem dX1_partAround_1 : decode cX1_partAround 1 = .ok (.lload_n 1, 1) := by decide +kernel
theorem dX1_partAround_2 : decode cX1_partAround 2 = .ok (.land, 1) := by decide +kernel
theorem dX1_partAround_3 : decode cX1_partAround 3 = .ok (.lstore 6, 2) := by decide +kernel
theorem dX1_partAround_5 : decode cX1_partAround 5 = .ok (.iconst 0, 1) := by decide +kernel
theorem dX1_partAround_6 : decode cX1_partAround 6 = .ok (.istore 8, 2) := by decide +kernel
theorem dX1_partAround_8 : decode cX1_partAround 8 = .ok (.iload 8, 2) := by decide +kernel
theorem dX1_partAround_10 : decode cX1_partAround 10 = .ok (.bipush 36, 2) := by decide +kernel
theorem dX1_partAround_12 : decode cX1_partAround 12 = .ok (.if_icmp .ge 36, 3) := by decide +kernel
theorem dX1_partAround_15 : decode cX1_partAround 15 = .ok (.aload_n 0, 1) := by decide +kernel
theorem dX1_partAround_16 : decode cX1_partAround 16 = .ok (.lload 6, 2) := by decide +kernel
theorem dX1_partAround_18 : decode cX1_partAround 18 = .ok (.iload 5, 2) := by decide +kernel
theorem dX1_partAround_20 : decode cX1_partAround 20 = .ok (.invokevirtual 43, 3) := by decide +kernel
theorem dX1_partAround_23 : decode cX1_partAround 23 = .ok (.lload_n 1, 1) := by decide +kernel
theorem dX1_partAround_24 : decode cX1_partAround 24 = .ok (.land, 1) := by decide +kernel
theorem dX1_partAround_25 : decode cX1_partAround 25 = .ok (.lstore 9, 2) := by decide +kernel
theorem dX1_partAround_27 : decode cX1_partAround 27 = .ok (.lload 9, 2) := by decide +kernel
theorem dX1_partAround_29 : decode cX1_partAround 29 = .ok (.lload 6, 2) := by decide +kernel
theorem dX1_partAround_31 : decode cX1_partAround 31 = .ok (.lcmp, 1) := by decide +kernel
theorem dX1_partAround_32 : decode cX1_partAround 32 = .ok (.ifCond .ne 6, 3) := by decide +kernel
theorem dX1_partAround_35 : decode cX1_partAround 35 = .ok (.goto 13, 3) := by decide +kernel
theorem dX1_partAround_38 : decode cX1_partAround 38 = .ok (.lload 9, 2) := by decide +kernel
theorem dX1_partAround_40 : decode cX1_partAround 40 = .ok (.lstore 6, 2) := by decide +kernel
theorem dX1_partAround_42 : decode cX1_partAround 42 = .ok (.iinc 8 1, 3) := by decide +kernel
theorem dX1_partAround_45 : decode cX1_partAround 45 = .ok (.goto (-37), 3) := by decide +kernel
theorem dX1_partAround_48 : decode cX1_partAround 48 = .ok (.lload 6, 2) := by decide +kernel
theorem dX1_partAround_50 : decode cX1_partAround 50 = .ok (.lreturn, 1) := by decide +kernel
theorem dX1_spread_0 : decode cX1_spread 0 = .ok (.lload_n 1, 1) := by decide +kernel
theorem dX1_spread_1 : decode cX1_spread 1 = .ok (.lload_n 1, 1) := by decide +kernel
theorem dX1_spread_2 : decode cX1_spread 2 = .ok (.aload_n 0, 1) := by decide +kernel
theorem dX1_spread_3 : decode cX1_spread 3 = .ok (.getfield 32, 3) := by decide +kernel
theorem dX1_spread_6 : decode cX1_spread 6 = .ok (.ldc2_w 47, 3) := by decide +kernel
theorem dX1_spread_9 : decode cX1_spread 9 = .ok (.lxor, 1) := by decide +kernel
theorem dX1_spread_10 : decode cX1_spread 10 = .ok (.land, 1) := by decide +kernel
theorem dX1_spread_11 : decode cX1_spread 11 = .ok (.iconst 1, 1) := by decide +kernel
theorem dX1_spread_12 : decode cX1_spread 12 = .ok (.lshl, 1) := by decide +kernel
theorem dX1_spread_13 : decode cX1_spread 13 = .ok (.lor, 1) := by decide +kernel
theorem dX1_spread_14 : decode cX1_spread 14 = .ok (.lload_n 1, 1) := by decide +kernel
theorem dX1_spread_15 : decode cX1_spread 15 = .ok (.aload_n 0, 1) := by decide +kernel
theorem dX1_spread_16 : decode cX1_spread 16 = .ok (.getfield 29, 3) := by decide +kernel
theorem dX1_spread_19 : decode cX1_spread 19 = .ok (.ldc2_w 47, 3) := by decide +kernel
theorem dX1_spread_22 : decode cX1_spread 22 = .ok (.lxor, 1) := by decide +kernel
theorem dX1_spread_23 : decode cX1_spread 23 = .ok (.land, 1) := by decide +kernel
theorem dX1_spread_24 : decode cX1_spread 24 = .ok (.iconst 1, 1) := by decide +kernel
theorem dX1_spread_25 : decode cX1_spread 25 = .ok (.lushr, 1) := by decide +kernel
theorem dX1_spread_26 : decode cX1_spread 26 = .ok (.lor, 1) := by decide +kernel
theorem dX1_spread_27 : decode cX1_spread 27 = .ok (.lstore 4, 2) := by decide +kernel
theorem dX1_spread_29 : decode cX1_spread 29 = .ok (.iload_n 3, 1) := by decide +kernel
theorem dX1_spread_30 : decode cX1_spread 30 = .ok (.bipush 8, 2) := by decide +kernel
theorem dX1_spread_32 : decode cX1_spread 32 = .ok (.if_icmp .ne 8, 3) := by decide +kernel
theorem dX1_spread_35 : decode cX1_spread 35 = .ok (.lload 4, 2) := by decide +kernel
theorem dX1_spread_37 : decode cX1_spread 37 = .ok (.goto 4, 3) := by decide +kernel
theorem dX1_spread_40 : decode cX1_spread 40 = .ok (.lload_n 1, 1) := by decide +kernel
theorem dX1_spread_41 : decode cX1_spread 41 = .ok (.lstore 6, 2) := by decide +kernel
theorem dX1_spread_43 : decode cX1_spread 43 = .ok (.lload 4, 2) := by decide +kernel
theorem dX1_spread_45 : decode cX1_spread 45 = .ok (.lload 6, 2) := by decide +kernel
theorem dX1_spread_47 : decode cX1_spread 47 = .ok (.aload_n 0, 1) := by decide +kernel
theorem dX1_spread_48 : decode cX1_spread 48 = .ok (.getfield 19, 3) := by decide +kernel
theorem dX1_spread_51 : decode cX1_spread 51 = .ok (.lshl, 1) := by decide +kernel
theorem dX1_spread_52 : decode cX1_spread 52 = .ok (.lor, 1) := by decide +kernel
theorem dX1_spread_53 : decode cX1_spread 53 = .ok (.lload 6, 2) := by decide +kernel
theorem dX1_spread_55 : decode cX1_spread 55 = .ok (.aload_n 0, 1) := by decide +kernel
theorem dX1_spread_56 : decode cX1_spread 56 = .ok (.getfield 19, 3) := by decide +kernel
theorem dX1_spread_59 : decode cX1_spread 59 = .ok (.lushr, 1) := by decide +kernel
theorem dX1_spread_60 : decode cX1_spread 60 = .ok (.lor, 1) := by decide +kernel
theorem dX1_spread_61 : decode cX1_spread 61 = .ok (.lreturn, 1) := by decide +kernel
set_option maxRecDepth 20000 in
theorem ggX1_joined_X1_hasDot : GoodIn wsX1_joined wsX1_hasDot := goodIn_r _ [5, 6, 7, 8, 4, 9, 10, 11, 23, 24, 25, 26, 27, 28] (by decide +kernel) (by decide +kernel)
set_option maxRecDepth 20000 in
theorem gX1_joined_X1_hasDot : GoodIn wsX1_joined (wsV RX1 49 RX1 yX1_hasDot wsX1_hasDot) := goodIn_app (goodIn_of _ (by decide +kernel)) ggX1_joined_X1_hasDot
set_option maxRecDepth 20000 in
theorem ggX1_joined_X1_partAround : GoodIn wsX1_joined wsX1_partAround := goodIn_r _ [15, 16, 17, 18, 4, 19, 20, 21, 22, 10, 23, 24, 25, 26, 27, 28] (by decide +kernel) (by decide +kernel)
set_option maxRecDepth 20000 in
theorem gX1_joined_X1_partAround : GoodIn wsX1_joined (wsV RX1 53 RX1 yX1_partAround wsX1_partAround) := goodIn_app (goodIn_of _ (by decide +kernel)) ggX1_joined_X1_partAround
theorem dX1_joined_0 : decode cX1_joined 0 = .ok (.aload_n 0, 1) := by decide +kernel
theorem dX1_joined_1 : decode cX1_joined 1 = .ok (.iload_n 3, 1) := by decide +kernel
theorem dX1_joined_2 : decode cX1_joined 2 = .ok (.invokevirtual 49, 3) := by decide +kernel
theorem dX1_joined_5 : decode cX1_joined 5 = .ok (.ifCond .eq 12, 3) := by decide +kernel
theorem dX1_joined_8 : decode cX1_joined 8 = .ok (.aload_n 0, 1) := by decide +kernel
theorem dX1_joined_9 : decode cX1_joined 9 = .ok (.iload 4, 2) := by decide +kernel
theorem dX1_joined_11 : decode cX1_joined 11 = .ok (.invokevirtual 49, 3) := by decide +kernel
theorem dX1_joined_14 : decode cX1_joined 14 = .ok (.ifCond .ne 5, 3) := by decide +kernel
theorem dX1_joined_17 : decode cX1_joined 17 = .ok (.iconst 0, 1) := by decide +kernel
theorem dX1_joined_18 : decode cX1_joined 18 = .ok (.ireturn, 1) := by decide +kernel
theorem dX1_joined_19 : decode cX1_joined 19 = .ok (.aload_n 0, 1) := by decide +kernel
theorem dX1_joined_20 : decode cX1_joined 20 = .ok (.lload_n 1, 1) := by decide +kernel
theorem dX1_joined_21 : decode cX1_joined 21 = .ok (.lconst 1, 1) := by decide +kernel
theorem dX1_joined_22 : decode cX1_joined 22 = .ok (.iload_n 3, 1) := by decide +kernel
theorem dX1_joined_23 : decode cX1_joined 23 = .ok (.lshl, 1) := by decide +kernel
theorem dX1_joined_24 : decode cX1_joined 24 = .ok (.iload 5, 2) := by decide +kernel
theorem dX1_joined_26 : decode cX1_joined 26 = .ok (.invokevirtual 53, 3) := by decide +kernel
theorem dX1_joined_29 : decode cX1_joined 29 = .ok (.lconst 1, 1) := by decide +kernel
theorem dX1_joined_30 : decode cX1_joined 30 = .ok (.iload 4, 2) := by decide +kernel
theorem dX1_joined_32 : decode cX1_joined 32 = .ok (.lshl, 1) := by decide +kernel
theorem dX1_joined_33 : decode cX1_joined 33 = .ok (.land, 1) := by decide +kernel
theorem dX1_joined_34 : decode cX1_joined 34 = .ok (.lconst 0, 1) := by decide +kernel
theorem dX1_joined_35 : decode cX1_joined 35 = .ok (.lcmp, 1) := by decide +kernel
theorem dX1_joined_36 : decode cX1_joined 36 = .ok (.ifCond .eq 7, 3) := by decide +kernel
theorem dX1_joined_39 : decode cX1_joined 39 = .ok (.iconst 1, 1) := by decide +kernel
theorem dX1_joined_40 : decode cX1_joined 40 = .ok (.goto 4, 3) := by decide +kernel
theorem dX1_joined_43 : decode cX1_joined 43 = .ok (.iconst 0, 1) := by decide +kernel
theorem dX1_joined_44 : decode cX1_joined 44 = .ok (.ireturn, 1) := by decide +kernel
set_option maxRecDepth 20000 in
theorem ggX1_countParts_X1_partAround : GoodIn wsX1_countParts wsX1_partAround := goodIn_r _ [6, 7, 8, 9, 5, 10, 11, 1, 12, 13, 14, 15, 16, 17, 18, 19] (by decide +kernel) (by decide +kernel)
set_option maxRecDepth 20000 in
theorem gX1_countParts_X1_partAround : GoodIn wsX1_countParts (wsV RX1 53 RX1 yX1_partAround wsX1_partAround) := goodIn_app (goodIn_of _ (by decide +kernel)) ggX1_countParts_X1_partAround
theorem dX1_countParts_0 : decode cX1_countParts 0 = .ok (.lload_n 1, 1) := by decide +kernel
theorem dX1_countParts_1 : decode cX1_countParts 1 = .ok (.lstore 4, 2) := by decide +kernel
theorem dX1_countParts_3 : decode cX1_countParts 3 = .ok (.iconst 0, 1) := by decide +kernel
theorem dX1_countParts_4 : decode cX1_countParts 4 = .ok (.istore 6, 2) := by decide +kernel
theorem dX1_countParts_6 : decode cX1_countParts 6 = .ok (.iload 6, 2) := by decide +kernel
theorem dX1_countParts_8 : decode cX1_countParts 8 = .ok (.bipush 36, 2) := by decide +kernel
theorem dX1_countParts_10 : decode cX1_countParts 10 = .ok (.if_icmp .ge 37, 3) := by decide +kernel
theorem dX1_countParts_13 : decode cX1_countParts 13 = .ok (.lload 4, 2) := by decide +kernel
theorem dX1_countParts_15 : decode cX1_countParts 15 = .ok (.lconst 0, 1) := by decide +kernel
theorem dX1_countParts_16 : decode cX1_countParts 16 = .ok (.lcmp, 1) := by decide +kernel
theorem dX1_countParts_17 : decode cX1_countParts 17 = .ok (.ifCond .eq 30, 3) := by decide +kernel
theorem dX1_countParts_20 : decode cX1_countParts 20 = .ok (.lload 4, 2) := by decide +kernel
theorem dX1_countParts_22 : decode cX1_countParts 22 = .ok (.aload_n 0, 1) := by decide +kernel
theorem dX1_countParts_23 : decode cX1_countParts 23 = .ok (.lload_n 1, 1) := by decide +kernel
theorem dX1_countParts_24 : decode cX1_countParts 24 = .ok (.lload 4, 2) := by decide +kernel
theorem dX1_countParts_26 : decode cX1_countParts 26 = .ok (.lload 4, 2) := by decide +kernel
theorem dX1_countParts_28 : decode cX1_countParts 28 = .ok (.lneg, 1) := by decide +kernel
theorem dX1_countParts_29 : decode cX1_countParts 29 = .ok (.land, 1) := by decide +kernel
theorem dX1_countParts_30 : decode cX1_countParts 30 = .ok (.iload_n 3, 1) := by decide +kernel
theorem dX1_countParts_31 : decode cX1_countParts 31 = .ok (.invokevirtual 53, 3) := by decide +kernel
theorem dX1_countParts_34 : decode cX1_countParts 34 = .ok (.ldc2_w 47, 3) := by decide +kernel
theorem dX1_countParts_37 : decode cX1_countParts 37 = .ok (.lxor, 1) := by decide +kernel
theorem dX1_countParts_38 : decode cX1_countParts 38 = .ok (.land, 1) := by decide +kernel
theorem dX1_countParts_39 : decode cX1_countParts 39 = .ok (.lstore 4, 2) := by decide +kernel
theorem dX1_countParts_41 : decode cX1_countParts 41 = .ok (.iinc 6 1, 3) := by decide +kernel
theorem dX1_countParts_44 : decode cX1_countParts 44 = .ok (.goto (-38), 3) := by decide +kernel
theorem dX1_countParts_47 : decode cX1_countParts 47 = .ok (.iload 6, 2) := by decide +kernel
theorem dX1_countParts_49 : decode cX1_countParts 49 = .ok (.ireturn, 1) := by decide +kernel
set_option maxRecDepth 20000 in
theorem ggX2_init_X2_darken : GoodIn wsX2_init wsX2_darken := goodIn_r _ [11, 5, 6, 12, 13, 14, 15, 16, 17, 18, 19, 20, 21, 22, 23, 24, 25] (by decide +kernel) (by decide +kernel)
set_option maxRecDepth 20000 in
theorem gX2_init_X2_darken : GoodIn wsX2_init (wsV RX2 19 RX2 yX2_darken wsX2_darken) := goodIn_app (goodIn_of _ (by decide +kernel)) ggX2_init_X2_darken
theorem dX2_init_0 : decode cX2_init 0 = .ok (.aload_n 0, 1) := by decide +kernel
theorem dX2_init_1 : decode cX2_init 1 = .ok (.invokespecial 3, 3) := by decide +kernel
theorem dX2_init_4 : decode cX2_init 4 = .ok (.aload_n 0, 1) := by decide +kernel
theorem dX2_init_5 : decode cX2_init 5 = .ok (.bipush 10, 2) := by decide +kernel
theorem dX2_init_7 : decode cX2_init 7 = .ok (.newarray .long, 2) := by decide +kernel
theorem dX2_init_9 : decode cX2_init 9 = .ok (.putfield 9, 3) := by decide +kernel
theorem dX2_init_12 : decode cX2_init 12 = .ok (.aload_n 0, 1) := by decide +kernel
theorem dX2_init_13 : decode cX2_init 13 = .ok (.aload_n 1, 1) := by decide +kernel
theorem dX2_init_14 : decode cX2_init 14 = .ok (.putfield 15, 3) := by decide +kernel
theorem dX2_init_17 : decode cX2_init 17 = .ok (.aload_n 0, 1) := by decide +kernel
theorem dX2_init_18 : decode cX2_init 18 = .ok (.invokevirtual 19, 3) := by decide +kernel
theorem dX2_init_21 : decode cX2_init 21 = .ok (.return_, 1) := by decide +kernel
set_option maxRecDepth 20000 in
theorem ggX2_darken_X1_all : GoodIn wsX2_darken wsX1_all := goodIn_r _ [7, 8, 11, 12, 13, 14, 15, 16] (by decide +kernel) (by decide +kernel)
set_option maxRecDepth 20000 in
theorem gX2_darken_X1_all : GoodIn wsX2_darken (wsV RX2 22 RX1 yX1_all wsX1_all) := goodIn_app (goodIn_of _ (by decide +kernel)) ggX2_darken_X1_all
theorem dX2_darken_0 : decode cX2_darken 0 = .ok (.iconst 0, 1) := by decide +kernel
theorem dX2_darken_1 : decode cX2_darken 1 = .ok (.istore_n 1, 1) := by decide +kernel
theorem dX2_darken_2 : decode cX2_darken 2 = .ok (.iload_n 1, 1) := by decide +kernel
theorem dX2_darken_3 : decode cX2_darken 3 = .ok (.aload_n 0, 1) := by decide +kernel
theorem dX2_darken_4 : decode cX2_darken 4 = .ok (.getfield 9, 3) := by decide +kernel
theorem dX2_darken_7 : decode cX2_darken 7 = .ok (.arraylength, 1) := by decide +kernel
theorem dX2_darken_8 : decode cX2_darken 8 = .ok (.if_icmp .ge 30, 3) := by decide +kernel
theorem dX2_darken_11 : decode cX2_darken 11 = .ok (.aload_n 0, 1) := by decide +kernel
theorem dX2_darken_12 : decode cX2_darken 12 = .ok (.getfield 9, 3) := by decide +kernel
theorem dX2_darken_15 : decode cX2_darken 15 = .ok (.iload_n 1, 1) := by decide +kernel
theorem dX2_darken_16 : decode cX2_darken 16 = .ok (.iload_n 1, 1) := by decide +kernel
theorem dX2_darken_17 : decode cX2_darken 17 = .ok (.ifCond .ne 13, 3) := by decide +kernel
theorem dX2_darken_20 : decode cX2_darken 20 = .ok (.aload_n 0, 1) := by decide +kernel
theorem dX2_darken_21 : decode cX2_darken 21 = .ok (.getfield 15, 3) := by decide +kernel
theorem dX2_darken_24 : decode cX2_darken 24 = .ok (.invokevirtual 22, 3) := by decide +kernel
theorem dX2_darken_27 : decode cX2_darken 27 = .ok (.goto 4, 3) := by decide +kernel
theorem dX2_darken_30 : decode cX2_darken 30 = .ok (.lconst 0, 1) := by decide +kernel
theorem dX2_darken_31 : decode cX2_darken 31 = .ok (.lastore, 1) := by decide +kernel
theorem dX2_darken_32 : decode cX2_darken 32 = .ok (.iinc 1 1, 3) := by decide +kernel
theorem dX2_darken_35 : decode cX2_darken 35 = .ok (.goto (-33), 3) := by decide +kernel
theorem dX2_darken_38 : decode cX2_darken 38 = .ok (.return_, 1) := by decide +kernel
theorem dX2_atLeast_0 : decode cX2_atLeast 0 = .ok (.iload_n 1, 1) := by decide +kernel
theorem dX2_atLeast_1 : decode cX2_atLeast 1 = .ok (.ifCond .lt 21, 3) := by decide +kernel
theorem dX2_atLeast_4 : decode cX2_atLeast 4 = .ok (.iload_n 1, 1) := by decide +kernel
theorem dX2_atLeast_5 : decode cX2_atLeast 5 = .ok (.aload_n 0, 1) := by decide +kernel
theorem dX2_atLeast_6 : decode cX2_atLeast 6 = .ok (.getfield 9, 3) := by decide +kernel
theorem dX2_atLeast_9 : decode cX2_atLeast 9 = .ok (.arraylength, 1) := by decide +kernel
theorem dX2_atLeast_10 : decode cX2_atLeast 10 = .ok (.if_icmp .ge 12, 3) := by decide +kernel
theorem dX2_atLeast_13 : decode cX2_atLeast 13 = .ok (.aload_n 0, 1) := by decide +kernel
theorem dX2_atLeast_14 : decode cX2_atLeast 14 = .ok (.getfield 9, 3) := by decide +kernel
theorem dX2_atLeast_17 : decode cX2_atLeast 17 = .ok (.iload_n 1, 1) := by decide +kernel
theorem dX2_atLeast_18 : decode cX2_atLeast 18 = .ok (.laload, 1) := by decide +kernel
theorem dX2_atLeast_19 : decode cX2_atLeast 19 = .ok (.goto 4, 3) := by decide +kernel
theorem dX2_atLeast_22 : decode cX2_atLeast 22 = .ok (.lconst 0, 1) := by decide +kernel
theorem dX2_atLeast_23 : decode cX2_atLeast 23 = .ok (.lreturn, 1) := by decide +kernel
theorem dX2_of_0 : decode cX2_of 0 = .ok (.iconst 0, 1) := by decide +kernel
theorem dX2_of_1 : decode cX2_of 1 = .ok (.istore_n 2, 1) := by decide +kernel
theorem dX2_of_2 : decode cX2_of 2 = .ok (.iconst 1, 1) := by decide +kernel
theorem dX2_of_3 : decode cX2_of 3 = .ok (.istore_n 3, 1) := by decide +kernel
theorem dX2_of_4 : decode cX2_of 4 = .ok (.iload_n 3, 1) := by decide +kernel
theorem dX2_of_5 : decode cX2_of 5 = .ok (.aload_n 0, 1) := by decide +kernel
theorem dX2_of_6 : decode cX2_of 6 = .ok (.getfield 9, 3) := by decide +kernel
theorem dX2_of_9 : decode cX2_of 9 = .ok (.arraylength, 1) := by decide +kernel
theorem dX2_of_10 : decode cX2_of 10 = .ok (.if_icmp .ge 23, 3) := by decide +kernel
theorem dX2_of_13 : decode cX2_of 13 = .ok (.iload_n 2, 1) := by decide +kernel
theorem dX2_of_14 : decode cX2_of 14 = .ok (.aload_n 0, 1) := by decide +kernel
theorem dX2_of_15 : decode cX2_of 15 = .ok (.getfield 9, 3) := by decide +kernel
theorem dX2_of_18 : decode cX2_of 18 = .ok (.iload_n 3, 1) := by decide +kernel
theorem dX2_of_19 : decode cX2_of 19 = .ok (.laload, 1) := by decide +kernel
theorem dX2_of_20 : decode cX2_of 20 = .ok (.iload_n 1, 1) := by decide +kernel
theorem dX2_of_21 : decode cX2_of 21 = .ok (.lushr, 1) := by decide +kernel
theorem dX2_of_22 : decode cX2_of 22 = .ok (.lconst 1, 1) := by decide +kernel
theorem dX2_of_23 : decode cX2_of 23 = .ok (.land, 1) := by decide +kernel
theorem dX2_of_24 : decode cX2_of 24 = .ok (.l2i, 1) := by decide +kernel
theorem dX2_of_25 : decode cX2_of 25 = .ok (.iadd, 1) := by decide +kernel
theorem dX2_of_26 : decode cX2_of 26 = .ok (.istore_n 2, 1) := by decide +kernel
theorem dX2_of_27 : decode cX2_of 27 = .ok (.iinc 3 1, 3) := by decide +kernel
theorem dX2_of_30 : decode cX2_of 30 = .ok (.goto (-26), 3) := by decide +kernel
theorem dX2_of_33 : decode cX2_of 33 = .ok (.iload_n 2, 1) := by decide +kernel
theorem dX2_of_34 : decode cX2_of 34 = .ok (.ireturn, 1) := by decide +kernel
set_option maxRecDepth 20000 in
theorem ggX2_light_J13_bitCount_95d88 : GoodIn wsX2_light wsJ13_bitCount_95d88 := goodIn_r _ [5, 6, 7, 8] (by decide +kernel) (by decide +kernel)
set_option maxRecDepth 20000 in
theorem gX2_light_J13_bitCount_95d88 : GoodIn wsX2_light (va_wsS RX2 28 yJ13_bitCount_95d88 wsJ13_bitCount_95d88) := goodIn_app (goodIn_of _ (by decide +kernel)) ggX2_light_J13_bitCount_95d88
theorem dX2_light_0 : decode cX2_light 0 = .ok (.iconst 0, 1) := by decide +kernel
theorem dX2_light_1 : decode cX2_light 1 = .ok (.istore_n 3, 1) := by decide +kernel
theorem dX2_light_2 : decode cX2_light 2 = .ok (.iconst 1, 1) := by decide +kernel
theorem dX2_light_3 : decode cX2_light 3 = .ok (.istore 4, 2) := by decide +kernel
theorem dX2_light_5 : decode cX2_light 5 = .ok (.iload 4, 2) := by decide +kernel
theorem dX2_light_7 : decode cX2_light 7 = .ok (.aload_n 0, 1) := by decide +kernel
theorem dX2_light_8 : decode cX2_light 8 = .ok (.getfield 9, 3) := by decide +kernel
theorem dX2_light_11 : decode cX2_light 11 = .ok (.arraylength, 1) := by decide +kernel
theorem dX2_light_12 : decode cX2_light 12 = .ok (.if_icmp .ge 24, 3) := by decide +kernel
theorem dX2_light_15 : decode cX2_light 15 = .ok (.iload_n 3, 1) := by decide +kernel
theorem dX2_light_16 : decode cX2_light 16 = .ok (.aload_n 0, 1) := by decide +kernel
theorem dX2_light_17 : decode cX2_light 17 = .ok (.getfield 9, 3) := by decide +kernel
theorem dX2_light_20 : decode cX2_light 20 = .ok (.iload 4, 2) := by decide +kernel
theorem dX2_light_22 : decode cX2_light 22 = .ok (.laload, 1) := by decide +kernel
theorem dX2_light_23 : decode cX2_light 23 = .ok (.lload_n 1, 1) := by decide +kernel
theorem dX2_light_24 : decode cX2_light 24 = .ok (.land, 1) := by decide +kernel
theorem dX2_light_25 : decode cX2_light 25 = .ok (.invokestatic 28, 3) := by decide +kernel
theorem dX2_light_28 : decode cX2_light 28 = .ok (.iadd, 1) := by decide +kernel
theorem dX2_light_29 : decode cX2_light 29 = .ok (.istore_n 3, 1) := by decide +kernel
theorem dX2_light_30 : decode cX2_light 30 = .ok (.iinc 4 1, 3) := by decide +kernel
theorem dX2_light_33 : decode cX2_light 33 = .ok (.goto (-28), 3) := by decide +kernel
theorem dX2_light_36 : decode cX2_light 36 = .ok (.iload_n 3, 1) := by decide +kernel
theorem dX2_light_37 : decode cX2_light 37 = .ok (.ireturn, 1) := by decide +kernel
set_option maxRecDepth 20000 in
theorem ggX2_brightest_X2_atLeast : GoodIn wsX2_brightest wsX2_atLeast := goodIn_r _ [5, 6, 7, 8] (by decide +kernel) (by decide +kernel)
set_option maxRecDepth 20000 in
theorem gX2_brightest_X2_atLeast : GoodIn wsX2_brightest (wsV RX2 34 RX2 yX2_atLeast wsX2_atLeast) := goodIn_app (goodIn_of _ (by decide +kernel)) ggX2_brightest_X2_atLeast
theorem dX2_brightest_0 : decode cX2_brightest 0 = .ok (.bipush 9, 2) := by decide +kernel
theorem dX2_brightest_2 : decode cX2_brightest 2 = .ok (.istore_n 3, 1) := by decide +kernel
theorem dX2_brightest_3 : decode cX2_brightest 3 = .ok (.iload_n 3, 1) := by decide +kernel
theorem dX2_brightest_4 : decode cX2_brightest 4 = .ok (.ifCond .le 23, 3) := by decide +kernel
theorem dX2_brightest_7 : decode cX2_brightest 7 = .ok (.aload_n 0, 1) := by decide +kernel
theorem dX2_brightest_8 : decode cX2_brightest 8 = .ok (.iload_n 3, 1) := by decide +kernel
theorem dX2_brightest_9 : decode cX2_brightest 9 = .ok (.invokevirtual 34, 3) := by decide +kernel
theorem dX2_brightest_12 : decode cX2_brightest 12 = .ok (.lload_n 1, 1) := by decide +kernel
theorem dX2_brightest_13 : decode cX2_brightest 13 = .ok (.land, 1) := by decide +kernel
theorem dX2_brightest_14 : decode cX2_brightest 14 = .ok (.lconst 0, 1) := by decide +kernel
theorem dX2_brightest_15 : decode cX2_brightest 15 = .ok (.lcmp, 1) := by decide +kernel
theorem dX2_brightest_16 : decode cX2_brightest 16 = .ok (.ifCond .eq 5, 3) := by decide +kernel
theorem dX2_brightest_19 : decode cX2_brightest 19 = .ok (.iload_n 3, 1) := by decide +kernel
theorem dX2_brightest_20 : decode cX2_brightest 20 = .ok (.ireturn, 1) := by decide +kernel
theorem dX2_brightest_21 : decode cX2_brightest 21 = .ok (.iinc 3 (-1), 3) := by decide +kernel
theorem dX2_brightest_24 : decode cX2_brightest 24 = .ok (.goto (-21), 3) := by decide +kernel
theorem dX2_brightest_27 : decode cX2_brightest 27 = .ok (.iconst 0, 1) := by decide +kernel
theorem dX2_brightest_28 : decode cX2_brightest 28 = .ok (.ireturn, 1) := by decide +kernel
theorem dX2_set_0 : decode cX2_set 0 = .ok (.lconst 1, 1) := by decide +kernel
theorem dX2_set_1 : decode cX2_set 1 = .ok (.iload_n 1, 1) := by decide +kernel
theorem dX2_set_2 : decode cX2_set 2 = .ok (.lshl, 1) := by decide +kernel
theorem dX2_set_3 : decode cX2_set 3 = .ok (.lstore_n 3, 1) := by decide +kernel
theorem dX2_set_4 : decode cX2_set 4 = .ok (.iconst 1, 1) := by decide +kernel
theorem dX2_set_5 : decode cX2_set 5 = .ok (.istore 5, 2) := by decide +kernel
theorem dX2_set_7 : decode cX2_set 7 = .ok (.iload 5, 2) := by decide +kernel
theorem dX2_set_9 : decode cX2_set 9 = .ok (.aload_n 0, 1) := by decide +kernel
theorem dX2_set_10 : decode cX2_set 10 = .ok (.getfield 9, 3) := by decide +kernel
theorem dX2_set_13 : decode cX2_set 13 = .ok (.arraylength, 1) := by decide +kernel
theorem dX2_set_14 : decode cX2_set 14 = .ok (.if_icmp .ge 47, 3) := by decide +kernel
theorem dX2_set_17 : decode cX2_set 17 = .ok (.aload_n 0, 1) := by decide +kernel
theorem dX2_set_18 : decode cX2_set 18 = .ok (.getfield 9, 3) := by decide +kernel
theorem dX2_set_21 : decode cX2_set 21 = .ok (.iload 5, 2) := by decide +kernel
theorem dX2_set_23 : decode cX2_set 23 = .ok (.iload 5, 2) := by decide +kernel
theorem dX2_set_25 : decode cX2_set 25 = .ok (.iload_n 2, 1) := by decide +kernel
theorem dX2_set_26 : decode cX2_set 26 = .ok (.if_icmp .gt 15, 3) := by decide +kernel
theorem dX2_set_29 : decode cX2_set 29 = .ok (.aload_n 0, 1) := by decide +kernel
theorem dX2_set_30 : decode cX2_set 30 = .ok (.getfield 9, 3) := by decide +kernel
theorem dX2_set_33 : decode cX2_set 33 = .ok (.iload 5, 2) := by decide +kernel
theorem dX2_set_35 : decode cX2_set 35 = .ok (.laload, 1) := by decide +kernel
theorem dX2_set_36 : decode cX2_set 36 = .ok (.lload_n 3, 1) := by decide +kernel
theorem dX2_set_37 : decode cX2_set 37 = .ok (.lor, 1) := by decide +kernel
theorem dX2_set_38 : decode cX2_set 38 = .ok (.goto 16, 3) := by decide +kernel
theorem dX2_set_41 : decode cX2_set 41 = .ok (.aload_n 0, 1) := by decide +kernel
theorem dX2_set_42 : decode cX2_set 42 = .ok (.getfield 9, 3) := by decide +kernel
theorem dX2_set_45 : decode cX2_set 45 = .ok (.iload 5, 2) := by decide +kernel
theorem dX2_set_47 : decode cX2_set 47 = .ok (.laload, 1) := by decide +kernel
theorem dX2_set_48 : decode cX2_set 48 = .ok (.lload_n 3, 1) := by decide +kernel
theorem dX2_set_49 : decode cX2_set 49 = .ok (.ldc2_w 38, 3) := by decide +kernel
theorem dX2_set_52 : decode cX2_set 52 = .ok (.lxor, 1) := by decide +kernel
theorem dX2_set_53 : decode cX2_set 53 = .ok (.land, 1) := by decide +kernel
theorem dX2_set_54 : decode cX2_set 54 = .ok (.lastore, 1) := by decide +kernel
theorem dX2_set_55 : decode cX2_set 55 = .ok (.iinc 5 1, 3) := by decide +kernel
theorem dX2_set_58 : decode cX2_set 58 = .ok (.goto (-51), 3) := by decide +kernel
theorem dX2_set_61 : decode cX2_set 61 = .ok (.return_, 1) := by decide +kernel
set_option maxRecDepth 20000 in
theorem ggX2_turn_X1_all : GoodIn wsX2_turn wsX1_all := goodIn_r _ [7, 8, 21, 22, 23, 24, 25, 26] (by decide +kernel) (by decide +kernel)
set_option maxRecDepth 20000 in
theorem gX2_turn_X1_all : GoodIn wsX2_turn (wsV RX2 22 RX1 yX1_all wsX1_all) := goodIn_app (goodIn_of _ (by decide +kernel)) ggX2_turn_X1_all
set_option maxRecDepth 20000 in
theorem ggX2_turn_X2_atLeast : GoodIn wsX2_turn wsX2_atLeast := goodIn_r _ [13, 14, 19, 20] (by decide +kernel) (by decide +kernel)
set_option maxRecDepth 20000 in
theorem gX2_turn_X2_atLeast : GoodIn wsX2_turn (wsV RX2 34 RX2 yX2_atLeast wsX2_atLeast) := goodIn_app (goodIn_of _ (by decide +kernel)) ggX2_turn_X2_atLeast
set_option maxRecDepth 20000 in
theorem ggX2_turn_X2_put : GoodIn wsX2_turn wsX2_put := goodIn_r _ [18, 14, 19, 20] (by decide +kernel) (by decide +kernel)
set_option maxRecDepth 20000 in
theorem gX2_turn_X2_put : GoodIn wsX2_turn (wsV RX2 40 RX2 yX2_put wsX2_put) := goodIn_app (goodIn_of _ (by decide +kernel)) ggX2_turn_X2_put
theorem dX2_turn_0 : decode cX2_turn 0 = .ok (.iconst 1, 1) := by decide +kernel
theorem dX2_turn_1 : decode cX2_turn 1 = .ok (.istore_n 1, 1) := by decide +kernel
theorem dX2_turn_2 : decode cX2_turn 2 = .ok (.iload_n 1, 1) := by decide +kernel
theorem dX2_turn_3 : decode cX2_turn 3 = .ok (.iconst 5, 1) := by decide +kernel
theorem dX2_turn_4 : decode cX2_turn 4 = .ok (.if_icmp .gt 61, 3) := by decide +kernel
theorem dX2_turn_7 : decode cX2_turn 7 = .ok (.aload_n 0, 1) := by decide +kernel
theorem dX2_turn_8 : decode cX2_turn 8 = .ok (.getfield 15, 3) := by decide +kernel
theorem dX2_turn_11 : decode cX2_turn 11 = .ok (.invokevirtual 22, 3) := by decide +kernel
theorem dX2_turn_14 : decode cX2_turn 14 = .ok (.aload_n 0, 1) := by decide +kernel
theorem dX2_turn_15 : decode cX2_turn 15 = .ok (.iload_n 1, 1) := by decide +kernel
theorem dX2_turn_16 : decode cX2_turn 16 = .ok (.invokevirtual 34, 3) := by decide +kernel
theorem dX2_turn_19 : decode cX2_turn 19 = .ok (.ldc2_w 38, 3) := by decide +kernel
theorem dX2_turn_22 : decode cX2_turn 22 = .ok (.lxor, 1) := by decide +kernel
theorem dX2_turn_23 : decode cX2_turn 23 = .ok (.land, 1) := by decide +kernel
theorem dX2_turn_24 : decode cX2_turn 24 = .ok (.lstore_n 2, 1) := by decide +kernel
theorem dX2_turn_25 : decode cX2_turn 25 = .ok (.aload_n 0, 1) := by decide +kernel
theorem dX2_turn_26 : decode cX2_turn 26 = .ok (.iload_n 1, 1) := by decide +kernel
theorem dX2_turn_27 : decode cX2_turn 27 = .ok (.aload_n 0, 1) := by decide +kernel
theorem dX2_turn_28 : decode cX2_turn 28 = .ok (.getfield 15, 3) := by decide +kernel
theorem dX2_turn_31 : decode cX2_turn 31 = .ok (.invokevirtual 22, 3) := by decide +kernel
theorem dX2_turn_34 : decode cX2_turn 34 = .ok (.aload_n 0, 1) := by decide +kernel
theorem dX2_turn_35 : decode cX2_turn 35 = .ok (.bipush 10, 2) := by decide +kernel
theorem dX2_turn_37 : decode cX2_turn 37 = .ok (.iload_n 1, 1) := by decide +kernel
theorem dX2_turn_38 : decode cX2_turn 38 = .ok (.isub, 1) := by decide +kernel
theorem dX2_turn_39 : decode cX2_turn 39 = .ok (.invokevirtual 34, 3) := by decide +kernel
theorem dX2_turn_42 : decode cX2_turn 42 = .ok (.ldc2_w 38, 3) := by decide +kernel
theorem dX2_turn_45 : decode cX2_turn 45 = .ok (.lxor, 1) := by decide +kernel
theorem dX2_turn_46 : decode cX2_turn 46 = .ok (.land, 1) := by decide +kernel
theorem dX2_turn_47 : decode cX2_turn 47 = .ok (.invokevirtual 40, 3) := by decide +kernel
theorem dX2_turn_50 : decode cX2_turn 50 = .ok (.aload_n 0, 1) := by decide +kernel
theorem dX2_turn_51 : decode cX2_turn 51 = .ok (.bipush 10, 2) := by decide +kernel
theorem dX2_turn_53 : decode cX2_turn 53 = .ok (.iload_n 1, 1) := by decide +kernel
theorem dX2_turn_54 : decode cX2_turn 54 = .ok (.isub, 1) := by decide +kernel
theorem dX2_turn_55 : decode cX2_turn 55 = .ok (.lload_n 2, 1) := by decide +kernel
theorem dX2_turn_56 : decode cX2_turn 56 = .ok (.invokevirtual 40, 3) := by decide +kernel
theorem dX2_turn_59 : decode cX2_turn 59 = .ok (.iinc 1 1, 3) := by decide +kernel
theorem dX2_turn_62 : decode cX2_turn 62 = .ok (.goto (-60), 3) := by decide +kernel
theorem dX2_turn_65 : decode cX2_turn 65 = .ok (.return_, 1) := by decide +kernel
theorem dX2_put_0 : decode cX2_put 0 = .ok (.iload_n 1, 1) := by decide +kernel
theorem dX2_put_1 : decode cX2_put 1 = .ok (.ifCond .lt 19, 3) := by decide +kernel
theorem dX2_put_4 : decode cX2_put 4 = .ok (.iload_n 1, 1) := by decide +kernel
theorem dX2_put_5 : decode cX2_put 5 = .ok (.aload_n 0, 1) := by decide +kernel
theorem dX2_put_6 : decode cX2_put 6 = .ok (.getfield 9, 3) := by decide +kernel
theorem dX2_put_9 : decode cX2_put 9 = .ok (.arraylength, 1) := by decide +kernel
theorem dX2_put_10 : decode cX2_put 10 = .ok (.if_icmp .ge 10, 3) := by decide +kernel
theorem dX2_put_13 : decode cX2_put 13 = .ok (.aload_n 0, 1) := by decide +kernel
theorem dX2_put_14 : decode cX2_put 14 = .ok (.getfield 9, 3) := by decide +kernel
theorem dX2_put_17 : decode cX2_put 17 = .ok (.iload_n 1, 1) := by decide +kernel
theorem dX2_put_18 : decode cX2_put 18 = .ok (.lload_n 2, 1) := by decide +kernel
theorem dX2_put_19 : decode cX2_put 19 = .ok (.lastore, 1) := by decide +kernel
theorem dX2_put_20 : decode cX2_put 20 = .ok (.return_, 1) := by decide +kernel
set_option maxRecDepth 20000 in
theorem ggX2_thin_X2_bigParts : GoodIn wsX2_thin wsX2_bigParts := goodIn_r _ [7, 8, 2, 9, 10, 11, 12, 13, 14, 15, 16, 17, 18, 19, 20, 21, 22, 23, 24, 25, 26, 27, 28, 29, 30, 31, 32, 33, 34, 6, 35, 36, 37, 38, 39, 40, 41, 42, 43, 44, 45, 46, 47, 48, 49, 50, 51, 52, 53, 54, 55, 56, 57, 58, 59, 60, 61, 62, 63] (by decide +kernel) (by decide +kernel)
set_option maxRecDepth 20000 in
theorem gX2_thin_X2_bigParts : GoodIn wsX2_thin (wsV RX2 44 RX2 yX2_bigParts wsX2_bigParts) := goodIn_app (goodIn_of _ (by decide +kernel)) ggX2_thin_X2_bigParts
set_option maxRecDepth 20000 in
theorem ggX2_thin_J13_bitCount_95d88 : GoodIn wsX2_thin wsJ13_bitCount_95d88 := goodIn_r _ [39, 40, 41, 42] (by decide +kernel) (by decide +kernel)
set_option maxRecDepth 20000 in
theorem gX2_thin_J13_bitCount_95d88 : GoodIn wsX2_thin (va_wsS RX2 28 yJ13_bitCount_95d88 wsJ13_bitCount_95d88) := goodIn_app (goodIn_of _ (by decide +kernel)) ggX2_thin_J13_bitCount_95d88
theorem dX2_thin_0 : decode cX2_thin 0 = .ok (.lconst 0, 1) := by decide +kernel
theorem dX2_thin_1 : decode cX2_thin 1 = .ok (.lstore_n 3, 1) := by decide +kernel
theorem dX2_thin_2 : decode cX2_thin 2 = .ok (.iconst 1, 1) := by decide +kernel
theorem dX2_thin_3 : decode cX2_thin 3 = .ok (.istore 5, 2) := by decide +kernel
theorem dX2_thin_5 : decode cX2_thin 5 = .ok (.iload 5, 2) := by decide +kernel
theorem dX2_thin_7 : decode cX2_thin 7 = .ok (.aload_n 0, 1) := by decide +kernel
theorem dX2_thin_8 : decode cX2_thin 8 = .ok (.getfield 9, 3) := by decide +kernel
theorem dX2_thin_11 : decode cX2_thin 11 = .ok (.arraylength, 1) := by decide +kernel
theorem dX2_thin_12 : decode cX2_thin 12 = .ok (.if_icmp .ge 50, 3) := by decide +kernel
theorem dX2_thin_15 : decode cX2_thin 15 = .ok (.aload_n 0, 1) := by decide +kernel
theorem dX2_thin_16 : decode cX2_thin 16 = .ok (.aload_n 0, 1) := by decide +kernel
theorem dX2_thin_17 : decode cX2_thin 17 = .ok (.getfield 9, 3) := by decide +kernel
theorem dX2_thin_20 : decode cX2_thin 20 = .ok (.iload 5, 2) := by decide +kernel
theorem dX2_thin_22 : decode cX2_thin 22 = .ok (.laload, 1) := by decide +kernel
theorem dX2_thin_23 : decode cX2_thin 23 = .ok (.iload_n 1, 1) := by decide +kernel
theorem dX2_thin_24 : decode cX2_thin 24 = .ok (.iload_n 2, 1) := by decide +kernel
theorem dX2_thin_25 : decode cX2_thin 25 = .ok (.invokevirtual 44, 3) := by decide +kernel
theorem dX2_thin_28 : decode cX2_thin 28 = .ok (.lstore 6, 2) := by decide +kernel
theorem dX2_thin_30 : decode cX2_thin 30 = .ok (.lload_n 3, 1) := by decide +kernel
theorem dX2_thin_31 : decode cX2_thin 31 = .ok (.aload_n 0, 1) := by decide +kernel
theorem dX2_thin_32 : decode cX2_thin 32 = .ok (.getfield 9, 3) := by decide +kernel
theorem dX2_thin_35 : decode cX2_thin 35 = .ok (.iload 5, 2) := by decide +kernel
theorem dX2_thin_37 : decode cX2_thin 37 = .ok (.laload, 1) := by decide +kernel
theorem dX2_thin_38 : decode cX2_thin 38 = .ok (.lload 6, 2) := by decide +kernel
theorem dX2_thin_40 : decode cX2_thin 40 = .ok (.ldc2_w 38, 3) := by decide +kernel
theorem dX2_thin_43 : decode cX2_thin 43 = .ok (.lxor, 1) := by decide +kernel
theorem dX2_thin_44 : decode cX2_thin 44 = .ok (.land, 1) := by decide +kernel
theorem dX2_thin_45 : decode cX2_thin 45 = .ok (.lor, 1) := by decide +kernel
theorem dX2_thin_46 : decode cX2_thin 46 = .ok (.lstore_n 3, 1) := by decide +kernel
theorem dX2_thin_47 : decode cX2_thin 47 = .ok (.aload_n 0, 1) := by decide +kernel
theorem dX2_thin_48 : decode cX2_thin 48 = .ok (.getfield 9, 3) := by decide +kernel
theorem dX2_thin_51 : decode cX2_thin 51 = .ok (.iload 5, 2) := by decide +kernel
theorem dX2_thin_53 : decode cX2_thin 53 = .ok (.lload 6, 2) := by decide +kernel
theorem dX2_thin_55 : decode cX2_thin 55 = .ok (.lastore, 1) := by decide +kernel
theorem dX2_thin_56 : decode cX2_thin 56 = .ok (.iinc 5 1, 3) := by decide +kernel
theorem dX2_thin_59 : decode cX2_thin 59 = .ok (.goto (-54), 3) := by decide +kernel
theorem dX2_thin_62 : decode cX2_thin 62 = .ok (.lload_n 3, 1) := by decide +kernel
theorem dX2_thin_63 : decode cX2_thin 63 = .ok (.invokestatic 28, 3) := by decide +kernel
theorem dX2_thin_66 : decode cX2_thin 66 = .ok (.ireturn, 1) := by decide +kernel
set_option maxRecDepth 20000 in
theorem ggX2_bigParts_X1_all : GoodIn wsX2_bigParts wsX1_all := goodIn_r _ [7, 8, 53, 54, 55, 56, 57, 58] (by decide +kernel) (by decide +kernel)
set_option maxRecDepth 20000 in
theorem gX2_bigParts_X1_all : GoodIn wsX2_bigParts (wsV RX2 22 RX1 yX1_all wsX1_all) := goodIn_app (goodIn_of _ (by decide +kernel)) ggX2_bigParts_X1_all
set_option maxRecDepth 20000 in
theorem ggX2_bigParts_X1_way : GoodIn wsX2_bigParts wsX1_way := goodIn_r _ [12, 13, 53, 54, 55, 56, 57, 58] (by decide +kernel) (by decide +kernel)
set_option maxRecDepth 20000 in
theorem gX2_bigParts_X1_way : GoodIn wsX2_bigParts (wsV RX2 48 RX1 yX1_way wsX1_way) := goodIn_app (goodIn_of _ (by decide +kernel)) ggX2_bigParts_X1_way
set_option maxRecDepth 20000 in
theorem ggX2_bigParts_X1_partAround : GoodIn wsX2_bigParts wsX1_partAround := goodIn_r _ [17, 18, 19, 20, 6, 21, 22, 23, 24, 25, 53, 54, 55, 56, 57, 58] (by decide +kernel) (by decide +kernel)
set_option maxRecDepth 20000 in
theorem gX2_bigParts_X1_partAround : GoodIn wsX2_bigParts (wsV RX2 52 RX1 yX1_partAround wsX1_partAround) := goodIn_app (goodIn_of _ (by decide +kernel)) ggX2_bigParts_X1_partAround
set_option maxRecDepth 20000 in
theorem ggX2_bigParts_X2_isBig : GoodIn wsX2_bigParts wsX2_isBig := goodIn_r _ [30, 1, 31, 32, 33, 34, 35, 36, 37, 38, 39, 40, 6, 41, 25, 24, 42, 43, 44, 45, 46, 47, 48, 49, 50, 51, 52, 53, 54, 55, 56, 57, 58] (by decide +kernel) (by decide +kernel)
set_option maxRecDepth 20000 in
theorem gX2_bigParts_X2_isBig : GoodIn wsX2_bigParts (wsV RX2 56 RX2 yX2_isBig wsX2_isBig) := goodIn_app (goodIn_of _ (by decide +kernel)) ggX2_bigParts_X2_isBig
theorem dX2_bigParts_0 : decode cX2_bigParts 0 = .ok (.lload_n 1, 1) := by decide +kernel
theorem dX2_bigParts_1 : decode cX2_bigParts 1 = .ok (.aload_n 0, 1) := by decide +kernel
theorem dX2_bigParts_2 : decode cX2_bigParts 2 = .ok (.getfield 15, 3) := by decide +kernel
theorem dX2_bigParts_5 : decode cX2_bigParts 5 = .ok (.invokevirtual 22, 3) := by decide +kernel
theorem dX2_bigParts_8 : decode cX2_bigParts 8 = .ok (.lcmp, 1) := by decide +kernel
theorem dX2_bigParts_9 : decode cX2_bigParts 9 = .ok (.ifCond .ne 5, 3) := by decide +kernel
theorem dX2_bigParts_12 : decode cX2_bigParts 12 = .ok (.lload_n 1, 1) := by decide +kernel
theorem dX2_bigParts_13 : decode cX2_bigParts 13 = .ok (.lreturn, 1) := by decide +kernel
theorem dX2_bigParts_14 : decode cX2_bigParts 14 = .ok (.lconst 0, 1) := by decide +kernel
theorem dX2_bigParts_15 : decode cX2_bigParts 15 = .ok (.lstore 5, 2) := by decide +kernel
theorem dX2_bigParts_17 : decode cX2_bigParts 17 = .ok (.lload_n 1, 1) := by decide +kernel
theorem dX2_bigParts_18 : decode cX2_bigParts 18 = .ok (.lstore 7, 2) := by decide +kernel
theorem dX2_bigParts_20 : decode cX2_bigParts 20 = .ok (.iconst 0, 1) := by decide +kernel
theorem dX2_bigParts_21 : decode cX2_bigParts 21 = .ok (.istore 9, 2) := by decide +kernel
theorem dX2_bigParts_23 : decode cX2_bigParts 23 = .ok (.iload 9, 2) := by decide +kernel
theorem dX2_bigParts_25 : decode cX2_bigParts 25 = .ok (.bipush 36, 2) := by decide +kernel
theorem dX2_bigParts_27 : decode cX2_bigParts 27 = .ok (.if_icmp .ge 69, 3) := by decide +kernel
theorem dX2_bigParts_30 : decode cX2_bigParts 30 = .ok (.lload 7, 2) := by decide +kernel
theorem dX2_bigParts_32 : decode cX2_bigParts 32 = .ok (.lconst 0, 1) := by decide +kernel
theorem dX2_bigParts_33 : decode cX2_bigParts 33 = .ok (.lcmp, 1) := by decide +kernel
theorem dX2_bigParts_34 : decode cX2_bigParts 34 = .ok (.ifCond .eq 62, 3) := by decide +kernel
theorem dX2_bigParts_37 : decode cX2_bigParts 37 = .ok (.aload_n 0, 1) := by decide +kernel
theorem dX2_bigParts_38 : decode cX2_bigParts 38 = .ok (.getfield 15, 3) := by decide +kernel
theorem dX2_bigParts_41 : decode cX2_bigParts 41 = .ok (.lload_n 1, 1) := by decide +kernel
theorem dX2_bigParts_42 : decode cX2_bigParts 42 = .ok (.lload 7, 2) := by decide +kernel
theorem dX2_bigParts_44 : decode cX2_bigParts 44 = .ok (.lload 7, 2) := by decide +kernel
theorem dX2_bigParts_46 : decode cX2_bigParts 46 = .ok (.lneg, 1) := by decide +kernel
theorem dX2_bigParts_47 : decode cX2_bigParts 47 = .ok (.land, 1) := by decide +kernel
theorem dX2_bigParts_48 : decode cX2_bigParts 48 = .ok (.aload_n 0, 1) := by decide +kernel
theorem dX2_bigParts_49 : decode cX2_bigParts 49 = .ok (.getfield 15, 3) := by decide +kernel
theorem dX2_bigParts_52 : decode cX2_bigParts 52 = .ok (.invokevirtual 48, 3) := by decide +kernel
theorem dX2_bigParts_55 : decode cX2_bigParts 55 = .ok (.invokevirtual 52, 3) := by decide +kernel
theorem dX2_bigParts_58 : decode cX2_bigParts 58 = .ok (.lstore 10, 2) := by decide +kernel
theorem dX2_bigParts_60 : decode cX2_bigParts 60 = .ok (.aload_n 0, 1) := by decide +kernel
theorem dX2_bigParts_61 : decode cX2_bigParts 61 = .ok (.lload 10, 2) := by decide +kernel
theorem dX2_bigParts_63 : decode cX2_bigParts 63 = .ok (.iload_n 3, 1) := by decide +kernel
theorem dX2_bigParts_64 : decode cX2_bigParts 64 = .ok (.iload 4, 2) := by decide +kernel
theorem dX2_bigParts_66 : decode cX2_bigParts 66 = .ok (.invokevirtual 56, 3) := by decide +kernel
theorem dX2_bigParts_69 : decode cX2_bigParts 69 = .ok (.ifCond .eq 10, 3) := by decide +kernel
theorem dX2_bigParts_72 : decode cX2_bigParts 72 = .ok (.lload 5, 2) := by decide +kernel
theorem dX2_bigParts_74 : decode cX2_bigParts 74 = .ok (.lload 10, 2) := by decide +kernel
theorem dX2_bigParts_76 : decode cX2_bigParts 76 = .ok (.lor, 1) := by decide +kernel
theorem dX2_bigParts_77 : decode cX2_bigParts 77 = .ok (.lstore 5, 2) := by decide +kernel
theorem dX2_bigParts_79 : decode cX2_bigParts 79 = .ok (.lload 7, 2) := by decide +kernel
theorem dX2_bigParts_81 : decode cX2_bigParts 81 = .ok (.lload 10, 2) := by decide +kernel
theorem dX2_bigParts_83 : decode cX2_bigParts 83 = .ok (.ldc2_w 38, 3) := by decide +kernel
theorem dX2_bigParts_86 : decode cX2_bigParts 86 = .ok (.lxor, 1) := by decide +kernel
theorem dX2_bigParts_87 : decode cX2_bigParts 87 = .ok (.land, 1) := by decide +kernel
theorem dX2_bigParts_88 : decode cX2_bigParts 88 = .ok (.lstore 7, 2) := by decide +kernel
theorem dX2_bigParts_90 : decode cX2_bigParts 90 = .ok (.iinc 9 1, 3) := by decide +kernel
theorem dX2_bigParts_93 : decode cX2_bigParts 93 = .ok (.goto (-70), 3) := by decide +kernel
theorem dX2_bigParts_96 : decode cX2_bigParts 96 = .ok (.lload 5, 2) := by decide +kernel
theorem dX2_bigParts_98 : decode cX2_bigParts 98 = .ok (.lreturn, 1) := by decide +kernel
set_option maxRecDepth 20000 in
theorem ggX2_isBig_J13_bitCount_95d88 : GoodIn wsX2_isBig wsJ13_bitCount_95d88 := goodIn_r _ [5, 6, 7, 8] (by decide +kernel) (by decide +kernel)
set_option maxRecDepth 20000 in
theorem gX2_isBig_J13_bitCount_95d88 : GoodIn wsX2_isBig (va_wsS RX2 28 yJ13_bitCount_95d88 wsJ13_bitCount_95d88) := goodIn_app (goodIn_of _ (by decide +kernel)) ggX2_isBig_J13_bitCount_95d88
set_option maxRecDepth 20000 in
theorem ggX2_isBig_X1_columnsOf : GoodIn wsX2_isBig wsX1_columnsOf := goodIn_r _ [13, 14, 15, 27, 28, 29, 30, 31, 32] (by decide +kernel) (by decide +kernel)
set_option maxRecDepth 20000 in
theorem gX2_isBig_X1_columnsOf : GoodIn wsX2_isBig (wsV RX2 60 RX1 yX1_columnsOf wsX1_columnsOf) := goodIn_app (goodIn_of _ (by decide +kernel)) ggX2_isBig_X1_columnsOf
set_option maxRecDepth 20000 in
theorem ggX2_isBig_X1_rowsOf : GoodIn wsX2_isBig wsX1_rowsOf := goodIn_r _ [19, 20, 21, 22, 23, 12, 24, 14, 27, 28, 29, 30, 31, 32] (by decide +kernel) (by decide +kernel)
set_option maxRecDepth 20000 in
theorem gX2_isBig_X1_rowsOf : GoodIn wsX2_isBig (wsV RX2 63 RX1 yX1_rowsOf wsX1_rowsOf) := goodIn_app (goodIn_of _ (by decide +kernel)) ggX2_isBig_X1_rowsOf
theorem dX2_isBig_0 : decode cX2_isBig 0 = .ok (.iload_n 3, 1) := by decide +kernel
theorem dX2_isBig_1 : decode cX2_isBig 1 = .ok (.ifCond .ne 18, 3) := by decide +kernel
theorem dX2_isBig_4 : decode cX2_isBig 4 = .ok (.lload_n 1, 1) := by decide +kernel
theorem dX2_isBig_5 : decode cX2_isBig 5 = .ok (.invokestatic 28, 3) := by decide +kernel
theorem dX2_isBig_8 : decode cX2_isBig 8 = .ok (.iload 4, 2) := by decide +kernel
theorem dX2_isBig_10 : decode cX2_isBig 10 = .ok (.if_icmp .lt 7, 3) := by decide +kernel
theorem dX2_isBig_13 : decode cX2_isBig 13 = .ok (.iconst 1, 1) := by decide +kernel
theorem dX2_isBig_14 : decode cX2_isBig 14 = .ok (.goto 4, 3) := by decide +kernel
theorem dX2_isBig_17 : decode cX2_isBig 17 = .ok (.iconst 0, 1) := by decide +kernel
theorem dX2_isBig_18 : decode cX2_isBig 18 = .ok (.ireturn, 1) := by decide +kernel
theorem dX2_isBig_19 : decode cX2_isBig 19 = .ok (.aload_n 0, 1) := by decide +kernel
theorem dX2_isBig_20 : decode cX2_isBig 20 = .ok (.getfield 15, 3) := by decide +kernel
theorem dX2_isBig_23 : decode cX2_isBig 23 = .ok (.lload_n 1, 1) := by decide +kernel
theorem dX2_isBig_24 : decode cX2_isBig 24 = .ok (.invokevirtual 60, 3) := by decide +kernel
theorem dX2_isBig_27 : decode cX2_isBig 27 = .ok (.iload 4, 2) := by decide +kernel
theorem dX2_isBig_29 : decode cX2_isBig 29 = .ok (.if_icmp .ge 16, 3) := by decide +kernel
theorem dX2_isBig_32 : decode cX2_isBig 32 = .ok (.aload_n 0, 1) := by decide +kernel
theorem dX2_isBig_33 : decode cX2_isBig 33 = .ok (.getfield 15, 3) := by decide +kernel
theorem dX2_isBig_36 : decode cX2_isBig 36 = .ok (.lload_n 1, 1) := by decide +kernel
theorem dX2_isBig_37 : decode cX2_isBig 37 = .ok (.invokevirtual 63, 3) := by decide +kernel
theorem dX2_isBig_40 : decode cX2_isBig 40 = .ok (.iload 4, 2) := by decide +kernel
theorem dX2_isBig_42 : decode cX2_isBig 42 = .ok (.if_icmp .lt 7, 3) := by decide +kernel
theorem dX2_isBig_45 : decode cX2_isBig 45 = .ok (.iconst 1, 1) := by decide +kernel
theorem dX2_isBig_46 : decode cX2_isBig 46 = .ok (.goto 4, 3) := by decide +kernel
theorem dX2_isBig_49 : decode cX2_isBig 49 = .ok (.iconst 0, 1) := by decide +kernel
theorem dX2_isBig_50 : decode cX2_isBig 50 = .ok (.ireturn, 1) := by decide +kernel
set_option maxRecDepth 20000 in
theorem ggX2_copy_X2_store : GoodIn wsX2_copy wsX2_store := goodIn_r _ [6, 1, 7, 8, 9, 10, 11, 12] (by decide +kernel) (by decide +kernel)
set_option maxRecDepth 20000 in
theorem gX2_copy_X2_store : GoodIn wsX2_copy (wsV RX2 66 RX2 yX2_store wsX2_store) := goodIn_app (goodIn_of _ (by decide +kernel)) ggX2_copy_X2_store
theorem dX2_copy_0 : decode cX2_copy 0 = .ok (.aload_n 1, 1) := by decide +kernel
theorem dX2_copy_1 : decode cX2_copy 1 = .ok (.ifnull 12, 3) := by decide +kernel
theorem dX2_copy_4 : decode cX2_copy 4 = .ok (.aload_n 1, 1) := by decide +kernel
theorem dX2_copy_5 : decode cX2_copy 5 = .ok (.aload_n 0, 1) := by decide +kernel
theorem dX2_copy_6 : decode cX2_copy 6 = .ok (.getfield 9, 3) := by decide +kernel
theorem dX2_copy_9 : decode cX2_copy 9 = .ok (.iconst 0, 1) := by decide +kernel
theorem dX2_copy_10 : decode cX2_copy 10 = .ok (.invokevirtual 66, 3) := by decide +kernel
theorem dX2_copy_13 : decode cX2_copy 13 = .ok (.return_, 1) := by decide +kernel
theorem dX2_store_0 : decode cX2_store 0 = .ok (.aload_n 1, 1) := by decide +kernel
theorem dX2_store_1 : decode cX2_store 1 = .ok (.ifnull 34, 3) := by decide +kernel
theorem dX2_store_4 : decode cX2_store 4 = .ok (.iload_n 2, 1) := by decide +kernel
theorem dX2_store_5 : decode cX2_store 5 = .ok (.ifCond .lt 30, 3) := by decide +kernel
theorem dX2_store_8 : decode cX2_store 8 = .ok (.iload_n 2, 1) := by decide +kernel
theorem dX2_store_9 : decode cX2_store 9 = .ok (.aload_n 1, 1) := by decide +kernel
theorem dX2_store_10 : decode cX2_store 10 = .ok (.arraylength, 1) := by decide +kernel
theorem dX2_store_11 : decode cX2_store 11 = .ok (.aload_n 0, 1) := by decide +kernel
theorem dX2_store_12 : decode cX2_store 12 = .ok (.getfield 9, 3) := by decide +kernel
theorem dX2_store_15 : decode cX2_store 15 = .ok (.arraylength, 1) := by decide +kernel
theorem dX2_store_16 : decode cX2_store 16 = .ok (.isub, 1) := by decide +kernel
theorem dX2_store_17 : decode cX2_store 17 = .ok (.if_icmp .gt 18, 3) := by decide +kernel
theorem dX2_store_20 : decode cX2_store 20 = .ok (.aload_n 0, 1) := by decide +kernel
theorem dX2_store_21 : decode cX2_store 21 = .ok (.getfield 9, 3) := by decide +kernel
theorem dX2_store_24 : decode cX2_store 24 = .ok (.iconst 0, 1) := by decide +kernel
theorem dX2_store_25 : decode cX2_store 25 = .ok (.aload_n 1, 1) := by decide +kernel
theorem dX2_store_26 : decode cX2_store 26 = .ok (.iload_n 2, 1) := by decide +kernel
theorem dX2_store_27 : decode cX2_store 27 = .ok (.aload_n 0, 1) := by decide +kernel
theorem dX2_store_28 : decode cX2_store 28 = .ok (.getfield 9, 3) := by decide +kernel
theorem dX2_store_31 : decode cX2_store 31 = .ok (.arraylength, 1) := by decide +kernel
theorem dX2_store_32 : decode cX2_store 32 = .ok (.invokestatic 70, 3) := by decide +kernel
theorem dX2_store_35 : decode cX2_store 35 = .ok (.return_, 1) := by decide +kernel
theorem dX2_load_0 : decode cX2_load 0 = .ok (.aload_n 1, 1) := by decide +kernel
theorem dX2_load_1 : decode cX2_load 1 = .ok (.ifnull 34, 3) := by decide +kernel
theorem dX2_load_4 : decode cX2_load 4 = .ok (.iload_n 2, 1) := by decide +kernel
theorem dX2_load_5 : decode cX2_load 5 = .ok (.ifCond .lt 30, 3) := by decide +kernel
theorem dX2_load_8 : decode cX2_load 8 = .ok (.iload_n 2, 1) := by decide +kernel
theorem dX2_load_9 : decode cX2_load 9 = .ok (.aload_n 1, 1) := by decide +kernel
theorem dX2_load_10 : decode cX2_load 10 = .ok (.arraylength, 1) := by decide +kernel
theorem dX2_load_11 : decode cX2_load 11 = .ok (.aload_n 0, 1) := by decide +kernel
theorem dX2_load_12 : decode cX2_load 12 = .ok (.getfield 9, 3) := by decide +kernel
theorem dX2_load_15 : decode cX2_load 15 = .ok (.arraylength, 1) := by decide +kernel
theorem dX2_load_16 : decode cX2_load 16 = .ok (.isub, 1) := by decide +kernel
theorem dX2_load_17 : decode cX2_load 17 = .ok (.if_icmp .gt 18, 3) := by decide +kernel
theorem dX2_load_20 : decode cX2_load 20 = .ok (.aload_n 1, 1) := by decide +kernel
theorem dX2_load_21 : decode cX2_load 21 = .ok (.iload_n 2, 1) := by decide +kernel
theorem dX2_load_22 : decode cX2_load 22 = .ok (.aload_n 0, 1) := by decide +kernel
theorem dX2_load_23 : decode cX2_load 23 = .ok (.getfield 9, 3) := by decide +kernel
theorem dX2_load_26 : decode cX2_load 26 = .ok (.iconst 0, 1) := by decide +kernel
theorem dX2_load_27 : decode cX2_load 27 = .ok (.aload_n 0, 1) := by decide +kernel
theorem dX2_load_28 : decode cX2_load 28 = .ok (.getfield 9, 3) := by decide +kernel
theorem dX2_load_31 : decode cX2_load 31 = .ok (.arraylength, 1) := by decide +kernel
theorem dX2_load_32 : decode cX2_load 32 = .ok (.invokestatic 70, 3) := by decide +kernel
theorem dX2_load_35 : decode cX2_load 35 = .ok (.return_, 1) := by decide +kernel
theorem dX3_init_0 : decode cX3_init 0 = .ok (.aload_n 0, 1) := by decide +kernel
theorem dX3_init_1 : decode cX3_init 1 = .ok (.invokespecial 1, 3) := by decide +kernel
theorem dX3_init_4 : decode cX3_init 4 = .ok (.aload_n 0, 1) := by decide +kernel
theorem dX3_init_5 : decode cX3_init 5 = .ok (.bipush 6, 2) := by decide +kernel
theorem dX3_init_7 : decode cX3_init 7 = .ok (.newarray .int, 2) := by decide +kernel
theorem dX3_init_9 : decode cX3_init 9 = .ok (.putfield 9, 3) := by decide +kernel
theorem dX3_init_12 : decode cX3_init 12 = .ok (.aload_n 0, 1) := by decide +kernel
theorem dX3_init_13 : decode cX3_init 13 = .ok (.bipush 6, 2) := by decide +kernel
theorem dX3_init_15 : decode cX3_init 15 = .ok (.newarray .int, 2) := by decide +kernel
theorem dX3_init_17 : decode cX3_init 17 = .ok (.putfield 13, 3) := by decide +kernel
theorem dX3_init_20 : decode cX3_init 20 = .ok (.aload_n 0, 1) := by decide +kernel
theorem dX3_init_21 : decode cX3_init 21 = .ok (.bipush 6, 2) := by decide +kernel
theorem dX3_init_23 : decode cX3_init 23 = .ok (.newarray .boolean, 2) := by decide +kernel
theorem dX3_init_25 : decode cX3_init 25 = .ok (.putfield 16, 3) := by decide +kernel
theorem dX3_init_28 : decode cX3_init 28 = .ok (.return_, 1) := by decide +kernel
theorem dX3_size_0 : decode cX3_size 0 = .ok (.aload_n 0, 1) := by decide +kernel
theorem dX3_size_1 : decode cX3_size 1 = .ok (.getfield 20, 3) := by decide +kernel
theorem dX3_size_4 : decode cX3_size 4 = .ok (.ireturn, 1) := by decide +kernel
theorem dX3_clear_0 : decode cX3_clear 0 = .ok (.aload_n 0, 1) := by decide +kernel
theorem dX3_clear_1 : decode cX3_clear 1 = .ok (.iconst 0, 1) := by decide +kernel
theorem dX3_clear_2 : decode cX3_clear 2 = .ok (.putfield 20, 3) := by decide +kernel
theorem dX3_clear_5 : decode cX3_clear 5 = .ok (.return_, 1) := by decide +kernel
theorem dX3_add_0 : decode cX3_add 0 = .ok (.aload_n 0, 1) := by decide +kernel
theorem dX3_add_1 : decode cX3_add 1 = .ok (.getfield 20, 3) := by decide +kernel
theorem dX3_add_4 : decode cX3_add 4 = .ok (.ifCond .lt 12, 3) := by decide +kernel
theorem dX3_add_7 : decode cX3_add 7 = .ok (.aload_n 0, 1) := by decide +kernel
theorem dX3_add_8 : decode cX3_add 8 = .ok (.getfield 20, 3) := by decide +kernel
theorem dX3_add_11 : decode cX3_add 11 = .ok (.bipush 6, 2) := by decide +kernel
theorem dX3_add_13 : decode cX3_add 13 = .ok (.if_icmp .lt 5, 3) := by decide +kernel
theorem dX3_add_16 : decode cX3_add 16 = .ok (.iconst 0, 1) := by decide +kernel
theorem dX3_add_17 : decode cX3_add 17 = .ok (.ireturn, 1) := by decide +kernel
theorem dX3_add_18 : decode cX3_add 18 = .ok (.aload_n 0, 1) := by decide +kernel
theorem dX3_add_19 : decode cX3_add 19 = .ok (.getfield 9, 3) := by decide +kernel
theorem dX3_add_22 : decode cX3_add 22 = .ok (.aload_n 0, 1) := by decide +kernel
theorem dX3_add_23 : decode cX3_add 23 = .ok (.getfield 20, 3) := by decide +kernel
theorem dX3_add_26 : decode cX3_add 26 = .ok (.iload_n 1, 1) := by decide +kernel
theorem dX3_add_27 : decode cX3_add 27 = .ok (.iastore, 1) := by decide +kernel
theorem dX3_add_28 : decode cX3_add 28 = .ok (.aload_n 0, 1) := by decide +kernel
theorem dX3_add_29 : decode cX3_add 29 = .ok (.getfield 13, 3) := by decide +kernel
theorem dX3_add_32 : decode cX3_add 32 = .ok (.aload_n 0, 1) := by decide +kernel
theorem dX3_add_33 : decode cX3_add 33 = .ok (.getfield 20, 3) := by decide +kernel
theorem dX3_add_36 : decode cX3_add 36 = .ok (.iload_n 2, 1) := by decide +kernel
theorem dX3_add_37 : decode cX3_add 37 = .ok (.iastore, 1) := by decide +kernel
theorem dX3_add_38 : decode cX3_add 38 = .ok (.aload_n 0, 1) := by decide +kernel
theorem dX3_add_39 : decode cX3_add 39 = .ok (.getfield 16, 3) := by decide +kernel
theorem dX3_add_42 : decode cX3_add 42 = .ok (.aload_n 0, 1) := by decide +kernel
theorem dX3_add_43 : decode cX3_add 43 = .ok (.getfield 20, 3) := by decide +kernel
theorem dX3_add_46 : decode cX3_add 46 = .ok (.iload_n 3, 1) := by decide +kernel
theorem dX3_add_47 : decode cX3_add 47 = .ok (.bastore, 1) := by decide +kernel
theorem dX3_add_48 : decode cX3_add 48 = .ok (.aload_n 0, 1) := by decide +kernel
theorem dX3_add_49 : decode cX3_add 49 = .ok (.dup, 1) := by decide +kernel
theorem dX3_add_50 : decode cX3_add 50 = .ok (.getfield 20, 3) := by decide +kernel
theorem dX3_add_53 : decode cX3_add 53 = .ok (.iconst 1, 1) := by decide +kernel
theorem dX3_add_54 : decode cX3_add 54 = .ok (.iadd, 1) := by decide +kernel
theorem dX3_add_55 : decode cX3_add 55 = .ok (.putfield 20, 3) := by decide +kernel
theorem dX3_add_58 : decode cX3_add 58 = .ok (.iconst 1, 1) := by decide +kernel
theorem dX3_add_59 : decode cX3_add 59 = .ok (.ireturn, 1) := by decide +kernel
set_option maxRecDepth 20000 in
theorem ggX3_hold_X1_joined : GoodIn wsX3_hold wsX1_joined := goodIn_r _ [9, 10, 11, 12, 8, 13, 14, 15, 16, 17, 18, 19, 20, 21, 22, 23, 24, 25, 26, 27, 28, 29, 30, 35, 36, 37, 38, 39, 40] (by decide +kernel) (by decide +kernel)
set_option maxRecDepth 20000 in
theorem gX3_hold_X1_joined : GoodIn wsX3_hold (wsV RX3 24 RX1 yX1_joined wsX1_joined) := goodIn_app (goodIn_of _ (by decide +kernel)) ggX3_hold_X1_joined
theorem dX3_hold_0 : decode cX3_hold 0 = .ok (.aload_n 1, 1) := by decide +kernel
theorem dX3_hold_1 : decode cX3_hold 1 = .ok (.ifnonnull 5, 3) := by decide +kernel
theorem dX3_hold_4 : decode cX3_hold 4 = .ok (.iconst 0, 1) := by decide +kernel
theorem dX3_hold_5 : decode cX3_hold 5 = .ok (.ireturn, 1) := by decide +kernel
theorem dX3_hold_6 : decode cX3_hold 6 = .ok (.iconst 0, 1) := by decide +kernel
theorem dX3_hold_7 : decode cX3_hold 7 = .ok (.istore 5, 2) := by decide +kernel
theorem dX3_hold_9 : decode cX3_hold 9 = .ok (.iload 5, 2) := by decide +kernel
theorem dX3_hold_11 : decode cX3_hold 11 = .ok (.aload_n 0, 1) := by decide +kernel
theorem dX3_hold_12 : decode cX3_hold 12 = .ok (.getfield 20, 3) := by decide +kernel
theorem dX3_hold_15 : decode cX3_hold 15 = .ok (.if_icmp .ge 49, 3) := by decide +kernel
theorem dX3_hold_18 : decode cX3_hold 18 = .ok (.iload 5, 2) := by decide +kernel
theorem dX3_hold_20 : decode cX3_hold 20 = .ok (.bipush 6, 2) := by decide +kernel
theorem dX3_hold_22 : decode cX3_hold 22 = .ok (.if_icmp .ge 42, 3) := by decide +kernel
theorem dX3_hold_25 : decode cX3_hold 25 = .ok (.aload_n 1, 1) := by decide +kernel
theorem dX3_hold_26 : decode cX3_hold 26 = .ok (.lload_n 2, 1) := by decide +kernel
theorem dX3_hold_27 : decode cX3_hold 27 = .ok (.aload_n 0, 1) := by decide +kernel
theorem dX3_hold_28 : decode cX3_hold 28 = .ok (.getfield 9, 3) := by decide +kernel
theorem dX3_hold_31 : decode cX3_hold 31 = .ok (.iload 5, 2) := by decide +kernel
theorem dX3_hold_33 : decode cX3_hold 33 = .ok (.iaload, 1) := by decide +kernel
theorem dX3_hold_34 : decode cX3_hold 34 = .ok (.aload_n 0, 1) := by decide +kernel
theorem dX3_hold_35 : decode cX3_hold 35 = .ok (.getfield 13, 3) := by decide +kernel
theorem dX3_hold_38 : decode cX3_hold 38 = .ok (.iload 5, 2) := by decide +kernel
theorem dX3_hold_40 : decode cX3_hold 40 = .ok (.iaload, 1) := by decide +kernel
theorem dX3_hold_41 : decode cX3_hold 41 = .ok (.iload 4, 2) := by decide +kernel
theorem dX3_hold_43 : decode cX3_hold 43 = .ok (.invokevirtual 24, 3) := by decide +kernel
theorem dX3_hold_46 : decode cX3_hold 46 = .ok (.aload_n 0, 1) := by decide +kernel
theorem dX3_hold_47 : decode cX3_hold 47 = .ok (.getfield 16, 3) := by decide +kernel
theorem dX3_hold_50 : decode cX3_hold 50 = .ok (.iload 5, 2) := by decide +kernel
theorem dX3_hold_52 : decode cX3_hold 52 = .ok (.baload, 1) := by decide +kernel
theorem dX3_hold_53 : decode cX3_hold 53 = .ok (.if_icmp .eq 5, 3) := by decide +kernel
theorem dX3_hold_56 : decode cX3_hold 56 = .ok (.iconst 0, 1) := by decide +kernel
theorem dX3_hold_57 : decode cX3_hold 57 = .ok (.ireturn, 1) := by decide +kernel
theorem dX3_hold_58 : decode cX3_hold 58 = .ok (.iinc 5 1, 3) := by decide +kernel
theorem dX3_hold_61 : decode cX3_hold 61 = .ok (.goto (-52), 3) := by decide +kernel
theorem dX3_hold_64 : decode cX3_hold 64 = .ok (.iconst 1, 1) := by decide +kernel
theorem dX3_hold_65 : decode cX3_hold 65 = .ok (.ireturn, 1) := by decide +kernel
theorem dX4_init_0 : decode cX4_init 0 = .ok (.aload_n 0, 1) := by decide +kernel
theorem dX4_init_1 : decode cX4_init 1 = .ok (.invokespecial 3, 3) := by decide +kernel
theorem dX4_init_4 : decode cX4_init 4 = .ok (.aload_n 0, 1) := by decide +kernel
theorem dX4_init_5 : decode cX4_init 5 = .ok (.bipush 20, 2) := by decide +kernel
theorem dX4_init_7 : decode cX4_init 7 = .ok (.newarray .long, 2) := by decide +kernel
theorem dX4_init_9 : decode cX4_init 9 = .ok (.putfield 11, 3) := by decide +kernel
theorem dX4_init_12 : decode cX4_init 12 = .ok (.aload_n 0, 1) := by decide +kernel
theorem dX4_init_13 : decode cX4_init 13 = .ok (.iconst 2, 1) := by decide +kernel
theorem dX4_init_14 : decode cX4_init 14 = .ok (.newarray .boolean, 2) := by decide +kernel
theorem dX4_init_16 : decode cX4_init 16 = .ok (.putfield 15, 3) := by decide +kernel
theorem dX4_init_19 : decode cX4_init 19 = .ok (.return_, 1) := by decide +kernel
theorem dX4_clear_0 : decode cX4_clear 0 = .ok (.iconst 0, 1) := by decide +kernel
theorem dX4_clear_1 : decode cX4_clear 1 = .ok (.istore_n 1, 1) := by decide +kernel
theorem dX4_clear_2 : decode cX4_clear 2 = .ok (.iload_n 1, 1) := by decide +kernel
theorem dX4_clear_3 : decode cX4_clear 3 = .ok (.aload_n 0, 1) := by decide +kernel
theorem dX4_clear_4 : decode cX4_clear 4 = .ok (.getfield 15, 3) := by decide +kernel
theorem dX4_clear_7 : decode cX4_clear 7 = .ok (.arraylength, 1) := by decide +kernel
theorem dX4_clear_8 : decode cX4_clear 8 = .ok (.if_icmp .ge 16, 3) := by decide +kernel
theorem dX4_clear_11 : decode cX4_clear 11 = .ok (.aload_n 0, 1) := by decide +kernel
theorem dX4_clear_12 : decode cX4_clear 12 = .ok (.getfield 15, 3) := by decide +kernel
theorem dX4_clear_15 : decode cX4_clear 15 = .ok (.iload_n 1, 1) := by decide +kernel
theorem dX4_clear_16 : decode cX4_clear 16 = .ok (.iconst 0, 1) := by decide +kernel
theorem dX4_clear_17 : decode cX4_clear 17 = .ok (.bastore, 1) := by decide +kernel
theorem dX4_clear_18 : decode cX4_clear 18 = .ok (.iinc 1 1, 3) := by decide +kernel
theorem dX4_clear_21 : decode cX4_clear 21 = .ok (.goto (-19), 3) := by decide +kernel
theorem dX4_clear_24 : decode cX4_clear 24 = .ok (.return_, 1) := by decide +kernel
theorem dX4_has_0 : decode cX4_has 0 = .ok (.iload_n 1, 1) := by decide +kernel
theorem dX4_has_1 : decode cX4_has 1 = .ok (.ifCond .lt 16, 3) := by decide +kernel
theorem dX4_has_4 : decode cX4_has 4 = .ok (.iload_n 1, 1) := by decide +kernel
theorem dX4_has_5 : decode cX4_has 5 = .ok (.aload_n 0, 1) := by decide +kernel
theorem dX4_has_6 : decode cX4_has 6 = .ok (.getfield 15, 3) := by decide +kernel
theorem dX4_has_9 : decode cX4_has 9 = .ok (.arraylength, 1) := by decide +kernel
theorem dX4_has_10 : decode cX4_has 10 = .ok (.if_icmp .ge 7, 3) := by decide +kernel
theorem dX4_has_13 : decode cX4_has 13 = .ok (.iconst 1, 1) := by decide +kernel
theorem dX4_has_14 : decode cX4_has 14 = .ok (.goto 4, 3) := by decide +kernel
theorem dX4_has_17 : decode cX4_has 17 = .ok (.iconst 0, 1) := by decide +kernel
theorem dX4_has_18 : decode cX4_has 18 = .ok (.ireturn, 1) := by decide +kernel
set_option maxRecDepth 20000 in
theorem ggX4_put_X2_store : GoodIn wsX4_put wsX2_store := goodIn_r _ [7, 8, 9, 10, 11, 12, 15, 16] (by decide +kernel) (by decide +kernel)
set_option maxRecDepth 20000 in
theorem gX4_put_X2_store : GoodIn wsX4_put (wsV RX4 19 RX2 yX2_store wsX2_store) := goodIn_app (goodIn_of _ (by decide +kernel)) ggX4_put_X2_store
theorem dX4_put_0 : decode cX4_put 0 = .ok (.aload_n 2, 1) := by decide +kernel
theorem dX4_put_1 : decode cX4_put 1 = .ok (.ifnull 16, 3) := by decide +kernel
theorem dX4_put_4 : decode cX4_put 4 = .ok (.iload_n 1, 1) := by decide +kernel
theorem dX4_put_5 : decode cX4_put 5 = .ok (.ifCond .lt 12, 3) := by decide +kernel
theorem dX4_put_8 : decode cX4_put 8 = .ok (.iload_n 1, 1) := by decide +kernel
theorem dX4_put_9 : decode cX4_put 9 = .ok (.aload_n 0, 1) := by decide +kernel
theorem dX4_put_10 : decode cX4_put 10 = .ok (.getfield 15, 3) := by decide +kernel
theorem dX4_put_13 : decode cX4_put 13 = .ok (.arraylength, 1) := by decide +kernel
theorem dX4_put_14 : decode cX4_put 14 = .ok (.if_icmp .lt 5, 3) := by decide +kernel
theorem dX4_put_17 : decode cX4_put 17 = .ok (.iconst 0, 1) := by decide +kernel
theorem dX4_put_18 : decode cX4_put 18 = .ok (.ireturn, 1) := by decide +kernel
theorem dX4_put_19 : decode cX4_put 19 = .ok (.aload_n 2, 1) := by decide +kernel
theorem dX4_put_20 : decode cX4_put 20 = .ok (.aload_n 0, 1) := by decide +kernel
theorem dX4_put_21 : decode cX4_put 21 = .ok (.getfield 11, 3) := by decide +kernel
theorem dX4_put_24 : decode cX4_put 24 = .ok (.iload_n 1, 1) := by decide +kernel
theorem dX4_put_25 : decode cX4_put 25 = .ok (.bipush 10, 2) := by decide +kernel
theorem dX4_put_27 : decode cX4_put 27 = .ok (.imul, 1) := by decide +kernel
theorem dX4_put_28 : decode cX4_put 28 = .ok (.invokevirtual 19, 3) := by decide +kernel
theorem dX4_put_31 : decode cX4_put 31 = .ok (.aload_n 0, 1) := by decide +kernel
theorem dX4_put_32 : decode cX4_put 32 = .ok (.getfield 15, 3) := by decide +kernel
theorem dX4_put_35 : decode cX4_put 35 = .ok (.iload_n 1, 1) := by decide +kernel
theorem dX4_put_36 : decode cX4_put 36 = .ok (.iconst 1, 1) := by decide +kernel
theorem dX4_put_37 : decode cX4_put 37 = .ok (.bastore, 1) := by decide +kernel
theorem dX4_put_38 : decode cX4_put 38 = .ok (.iconst 1, 1) := by decide +kernel
theorem dX4_put_39 : decode cX4_put 39 = .ok (.ireturn, 1) := by decide +kernel
set_option maxRecDepth 20000 in
theorem ggX4_bringBack_X2_load : GoodIn wsX4_bringBack wsX2_load := goodIn_r _ [7, 8, 9, 10, 11, 12, 15, 16] (by decide +kernel) (by decide +kernel)
set_option maxRecDepth 20000 in
theorem gX4_bringBack_X2_load : GoodIn wsX4_bringBack (wsV RX4 25 RX2 yX2_load wsX2_load) := goodIn_app (goodIn_of _ (by decide +kernel)) ggX4_bringBack_X2_load
theorem dX4_bringBack_0 : decode cX4_bringBack 0 = .ok (.aload_n 2, 1) := by decide +kernel
theorem dX4_bringBack_1 : decode cX4_bringBack 1 = .ok (.ifnull 25, 3) := by decide +kernel
theorem dX4_bringBack_4 : decode cX4_bringBack 4 = .ok (.iload_n 1, 1) := by decide +kernel
theorem dX4_bringBack_5 : decode cX4_bringBack 5 = .ok (.ifCond .lt 21, 3) := by decide +kernel
theorem dX4_bringBack_8 : decode cX4_bringBack 8 = .ok (.iload_n 1, 1) := by decide +kernel
theorem dX4_bringBack_9 : decode cX4_bringBack 9 = .ok (.aload_n 0, 1) := by decide +kernel
theorem dX4_bringBack_10 : decode cX4_bringBack 10 = .ok (.getfield 15, 3) := by decide +kernel
theorem dX4_bringBack_13 : decode cX4_bringBack 13 = .ok (.arraylength, 1) := by decide +kernel
theorem dX4_bringBack_14 : decode cX4_bringBack 14 = .ok (.if_icmp .ge 12, 3) := by decide +kernel
theorem dX4_bringBack_17 : decode cX4_bringBack 17 = .ok (.aload_n 0, 1) := by decide +kernel
theorem dX4_bringBack_18 : decode cX4_bringBack 18 = .ok (.getfield 15, 3) := by decide +kernel
theorem dX4_bringBack_21 : decode cX4_bringBack 21 = .ok (.iload_n 1, 1) := by decide +kernel
theorem dX4_bringBack_22 : decode cX4_bringBack 22 = .ok (.baload, 1) := by decide +kernel
theorem dX4_bringBack_23 : decode cX4_bringBack 23 = .ok (.ifCond .ne 5, 3) := by decide +kernel
theorem dX4_bringBack_26 : decode cX4_bringBack 26 = .ok (.iconst 0, 1) := by decide +kernel
theorem dX4_bringBack_27 : decode cX4_bringBack 27 = .ok (.ireturn, 1) := by decide +kernel
theorem dX4_bringBack_28 : decode cX4_bringBack 28 = .ok (.aload_n 2, 1) := by decide +kernel
theorem dX4_bringBack_29 : decode cX4_bringBack 29 = .ok (.aload_n 0, 1) := by decide +kernel
theorem dX4_bringBack_30 : decode cX4_bringBack 30 = .ok (.getfield 11, 3) := by decide +kernel
theorem dX4_bringBack_33 : decode cX4_bringBack 33 = .ok (.iload_n 1, 1) := by decide +kernel
theorem dX4_bringBack_34 : decode cX4_bringBack 34 = .ok (.bipush 10, 2) := by decide +kernel
theorem dX4_bringBack_36 : decode cX4_bringBack 36 = .ok (.imul, 1) := by decide +kernel
theorem dX4_bringBack_37 : decode cX4_bringBack 37 = .ok (.invokevirtual 25, 3) := by decide +kernel
theorem dX4_bringBack_40 : decode cX4_bringBack 40 = .ok (.iconst 1, 1) := by decide +kernel
theorem dX4_bringBack_41 : decode cX4_bringBack 41 = .ok (.ireturn, 1) := by decide +kernel
theorem dX5_init_0 : decode cX5_init 0 = .ok (.aload_n 0, 1) := by decide +kernel
theorem dX5_init_1 : decode cX5_init 1 = .ok (.invokespecial 3, 3) := by decide +kernel
theorem dX5_init_4 : decode cX5_init 4 = .ok (.aload_n 0, 1) := by decide +kernel
theorem dX5_init_5 : decode cX5_init 5 = .ok (.bipush 40, 2) := by decide +kernel
theorem dX5_init_7 : decode cX5_init 7 = .ok (.newarray .int, 2) := by decide +kernel
theorem dX5_init_9 : decode cX5_init 9 = .ok (.putfield 11, 3) := by decide +kernel
theorem dX5_init_12 : decode cX5_init 12 = .ok (.return_, 1) := by decide +kernel
theorem dX5_size_0 : decode cX5_size 0 = .ok (.aload_n 0, 1) := by decide +kernel
theorem dX5_size_1 : decode cX5_size 1 = .ok (.getfield 15, 3) := by decide +kernel
theorem dX5_size_4 : decode cX5_size 4 = .ok (.ireturn, 1) := by decide +kernel
theorem dX5_clear_0 : decode cX5_clear 0 = .ok (.aload_n 0, 1) := by decide +kernel
theorem dX5_clear_1 : decode cX5_clear 1 = .ok (.iconst 0, 1) := by decide +kernel
theorem dX5_clear_2 : decode cX5_clear 2 = .ok (.putfield 15, 3) := by decide +kernel
theorem dX5_clear_5 : decode cX5_clear 5 = .ok (.return_, 1) := by decide +kernel
theorem dX5_add_0 : decode cX5_add 0 = .ok (.aload_n 0, 1) := by decide +kernel
theorem dX5_add_1 : decode cX5_add 1 = .ok (.getfield 15, 3) := by decide +kernel
theorem dX5_add_4 : decode cX5_add 4 = .ok (.ifCond .lt 15, 3) := by decide +kernel
theorem dX5_add_7 : decode cX5_add 7 = .ok (.aload_n 0, 1) := by decide +kernel
theorem dX5_add_8 : decode cX5_add 8 = .ok (.getfield 15, 3) := by decide +kernel
theorem dX5_add_11 : decode cX5_add 11 = .ok (.aload_n 0, 1) := by decide +kernel
theorem dX5_add_12 : decode cX5_add 12 = .ok (.getfield 11, 3) := by decide +kernel
theorem dX5_add_15 : decode cX5_add 15 = .ok (.arraylength, 1) := by decide +kernel
theorem dX5_add_16 : decode cX5_add 16 = .ok (.if_icmp .lt 5, 3) := by decide +kernel
theorem dX5_add_19 : decode cX5_add 19 = .ok (.iconst 0, 1) := by decide +kernel
theorem dX5_add_20 : decode cX5_add 20 = .ok (.ireturn, 1) := by decide +kernel
theorem dX5_add_21 : decode cX5_add 21 = .ok (.aload_n 0, 1) := by decide +kernel
theorem dX5_add_22 : decode cX5_add 22 = .ok (.getfield 11, 3) := by decide +kernel
theorem dX5_add_25 : decode cX5_add 25 = .ok (.aload_n 0, 1) := by decide +kernel
theorem dX5_add_26 : decode cX5_add 26 = .ok (.getfield 15, 3) := by decide +kernel
theorem dX5_add_29 : decode cX5_add 29 = .ok (.iload_n 1, 1) := by decide +kernel
theorem dX5_add_30 : decode cX5_add 30 = .ok (.iastore, 1) := by decide +kernel
theorem dX5_add_31 : decode cX5_add 31 = .ok (.aload_n 0, 1) := by decide +kernel
theorem dX5_add_32 : decode cX5_add 32 = .ok (.dup, 1) := by decide +kernel
theorem dX5_add_33 : decode cX5_add 33 = .ok (.getfield 15, 3) := by decide +kernel
theorem dX5_add_36 : decode cX5_add 36 = .ok (.iconst 1, 1) := by decide +kernel
theorem dX5_add_37 : decode cX5_add 37 = .ok (.iadd, 1) := by decide +kernel
theorem dX5_add_38 : decode cX5_add 38 = .ok (.putfield 15, 3) := by decide +kernel
theorem dX5_add_41 : decode cX5_add 41 = .ok (.iconst 1, 1) := by decide +kernel
theorem dX5_add_42 : decode cX5_add 42 = .ok (.ireturn, 1) := by decide +kernel
theorem dX5_figure_0 : decode cX5_figure 0 = .ok (.iload_n 1, 1) := by decide +kernel
theorem dX5_figure_1 : decode cX5_figure 1 = .ok (.ifCond .lt 24, 3) := by decide +kernel
theorem dX5_figure_4 : decode cX5_figure 4 = .ok (.iload_n 1, 1) := by decide +kernel
theorem dX5_figure_5 : decode cX5_figure 5 = .ok (.aload_n 0, 1) := by decide +kernel
theorem dX5_figure_6 : decode cX5_figure 6 = .ok (.getfield 11, 3) := by decide +kernel
theorem dX5_figure_9 : decode cX5_figure 9 = .ok (.arraylength, 1) := by decide +kernel
theorem dX5_figure_10 : decode cX5_figure 10 = .ok (.if_icmp .ge 15, 3) := by decide +kernel
theorem dX5_figure_13 : decode cX5_figure 13 = .ok (.aload_n 0, 1) := by decide +kernel
theorem dX5_figure_14 : decode cX5_figure 14 = .ok (.getfield 11, 3) := by decide +kernel
theorem dX5_figure_17 : decode cX5_figure 17 = .ok (.iload_n 1, 1) := by decide +kernel
theorem dX5_figure_18 : decode cX5_figure 18 = .ok (.iaload, 1) := by decide +kernel
theorem dX5_figure_19 : decode cX5_figure 19 = .ok (.bipush 48, 2) := by decide +kernel
theorem dX5_figure_21 : decode cX5_figure 21 = .ok (.isub, 1) := by decide +kernel
theorem dX5_figure_22 : decode cX5_figure 22 = .ok (.goto 4, 3) := by decide +kernel
theorem dX5_figure_25 : decode cX5_figure 25 = .ok (.iconst 0, 1) := by decide +kernel
theorem dX5_figure_26 : decode cX5_figure 26 = .ok (.ireturn, 1) := by decide +kernel
set_option maxRecDepth 20000 in
theorem ggX5_firstFault_X5_fits : GoodIn wsX5_firstFault wsX5_fits := goodIn_r _ [6, 7, 8, 9, 5, 10, 11, 12, 13, 14, 15, 16, 17, 18, 19, 20] (by decide +kernel) (by decide +kernel)
set_option maxRecDepth 20000 in
theorem gX5_firstFault_X5_fits : GoodIn wsX5_firstFault (wsV RX5 19 RX5 yX5_fits wsX5_fits) := goodIn_app (goodIn_of _ (by decide +kernel)) ggX5_firstFault_X5_fits
set_option maxRecDepth 20000 in
theorem ggX5_firstFault_X5_wholeSize : GoodIn wsX5_firstFault wsX5_wholeSize := goodIn_r _ [15, 7, 8, 9, 5, 10, 11, 19, 20] (by decide +kernel) (by decide +kernel)
set_option maxRecDepth 20000 in
theorem gX5_firstFault_X5_wholeSize : GoodIn wsX5_firstFault (wsV RX5 23 RX5 yX5_wholeSize wsX5_wholeSize) := goodIn_app (goodIn_of _ (by decide +kernel)) ggX5_firstFault_X5_wholeSize
theorem dX5_firstFault_0 : decode cX5_firstFault 0 = .ok (.iconst 0, 1) := by decide +kernel
theorem dX5_firstFault_1 : decode cX5_firstFault 1 = .ok (.istore_n 1, 1) := by decide +kernel
theorem dX5_firstFault_2 : decode cX5_firstFault 2 = .ok (.iload_n 1, 1) := by decide +kernel
theorem dX5_firstFault_3 : decode cX5_firstFault 3 = .ok (.aload_n 0, 1) := by decide +kernel
theorem dX5_firstFault_4 : decode cX5_firstFault 4 = .ok (.getfield 15, 3) := by decide +kernel
theorem dX5_firstFault_7 : decode cX5_firstFault 7 = .ok (.if_icmp .ge 19, 3) := by decide +kernel
theorem dX5_firstFault_10 : decode cX5_firstFault 10 = .ok (.aload_n 0, 1) := by decide +kernel
theorem dX5_firstFault_11 : decode cX5_firstFault 11 = .ok (.iload_n 1, 1) := by decide +kernel
theorem dX5_firstFault_12 : decode cX5_firstFault 12 = .ok (.invokevirtual 19, 3) := by decide +kernel
theorem dX5_firstFault_15 : decode cX5_firstFault 15 = .ok (.ifCond .ne 5, 3) := by decide +kernel
theorem dX5_firstFault_18 : decode cX5_firstFault 18 = .ok (.iload_n 1, 1) := by decide +kernel
theorem dX5_firstFault_19 : decode cX5_firstFault 19 = .ok (.ireturn, 1) := by decide +kernel
theorem dX5_firstFault_20 : decode cX5_firstFault 20 = .ok (.iinc 1 1, 3) := by decide +kernel
theorem dX5_firstFault_23 : decode cX5_firstFault 23 = .ok (.goto (-21), 3) := by decide +kernel
theorem dX5_firstFault_26 : decode cX5_firstFault 26 = .ok (.aload_n 0, 1) := by decide +kernel
theorem dX5_firstFault_27 : decode cX5_firstFault 27 = .ok (.getfield 15, 3) := by decide +kernel
theorem dX5_firstFault_30 : decode cX5_firstFault 30 = .ok (.iconst 4, 1) := by decide +kernel
theorem dX5_firstFault_31 : decode cX5_firstFault 31 = .ok (.if_icmp .lt 19, 3) := by decide +kernel
theorem dX5_firstFault_34 : decode cX5_firstFault 34 = .ok (.aload_n 0, 1) := by decide +kernel
theorem dX5_firstFault_35 : decode cX5_firstFault 35 = .ok (.getfield 15, 3) := by decide +kernel
theorem dX5_firstFault_38 : decode cX5_firstFault 38 = .ok (.aload_n 0, 1) := by decide +kernel
theorem dX5_firstFault_39 : decode cX5_firstFault 39 = .ok (.invokevirtual 23, 3) := by decide +kernel
theorem dX5_firstFault_42 : decode cX5_firstFault 42 = .ok (.if_icmp .ne 8, 3) := by decide +kernel
theorem dX5_firstFault_45 : decode cX5_firstFault 45 = .ok (.bipush (-9), 2) := by decide +kernel
theorem dX5_firstFault_47 : decode cX5_firstFault 47 = .ok (.goto 7, 3) := by decide +kernel
theorem dX5_firstFault_50 : decode cX5_firstFault 50 = .ok (.aload_n 0, 1) := by decide +kernel
theorem dX5_firstFault_51 : decode cX5_firstFault 51 = .ok (.getfield 15, 3) := by decide +kernel
theorem dX5_firstFault_54 : decode cX5_firstFault 54 = .ok (.ireturn, 1) := by decide +kernel
set_option maxRecDepth 20000 in
theorem ggX5_fits_X5_figure : GoodIn wsX5_fits wsX5_figure := goodIn_r _ [5, 6, 14, 15] (by decide +kernel) (by decide +kernel)
set_option maxRecDepth 20000 in
theorem gX5_fits_X5_figure : GoodIn wsX5_fits (wsV RX5 27 RX5 yX5_figure wsX5_figure) := goodIn_app (goodIn_of _ (by decide +kernel)) ggX5_fits_X5_figure
set_option maxRecDepth 20000 in
theorem ggX5_fits_X5_wholeSize : GoodIn wsX5_fits wsX5_wholeSize := goodIn_r _ [10, 1, 2, 3, 4, 5, 6, 14, 15] (by decide +kernel) (by decide +kernel)
set_option maxRecDepth 20000 in
theorem gX5_fits_X5_wholeSize : GoodIn wsX5_fits (wsV RX5 23 RX5 yX5_wholeSize wsX5_wholeSize) := goodIn_app (goodIn_of _ (by decide +kernel)) ggX5_fits_X5_wholeSize
set_option maxRecDepth 20000 in
theorem ggX5_fits_X7_isShade : GoodIn wsX5_fits wsX7_isShade := goodIn_r _ [13] (by decide +kernel) (by decide +kernel)
set_option maxRecDepth 20000 in
theorem gX5_fits_X7_isShade_n31 : GoodIn wsX5_fits (wsX7_isShade) := ggX5_fits_X7_isShade
theorem dX5_fits_0 : decode cX5_fits 0 = .ok (.aload_n 0, 1) := by decide +kernel
theorem dX5_fits_1 : decode cX5_fits 1 = .ok (.iload_n 1, 1) := by decide +kernel
theorem dX5_fits_2 : decode cX5_fits 2 = .ok (.invokevirtual 27, 3) := by decide +kernel
theorem dX5_fits_5 : decode cX5_fits 5 = .ok (.istore_n 2, 1) := by decide +kernel
theorem dX5_fits_6 : decode cX5_fits 6 = .ok (.iload_n 1, 1) := by decide +kernel
theorem dX5_fits_7 : decode cX5_fits 7 = .ok (.tableswitch 75 0 3 #[29, 41, 58, 58], 29) := by decide +kernel
theorem dX5_fits_36 : decode cX5_fits 36 = .ok (.iload_n 2, 1) := by decide +kernel
theorem dX5_fits_37 : decode cX5_fits 37 = .ok (.bipush 32, 2) := by decide +kernel
theorem dX5_fits_39 : decode cX5_fits 39 = .ok (.if_icmp .ne 7, 3) := by decide +kernel
theorem dX5_fits_42 : decode cX5_fits 42 = .ok (.iconst 1, 1) := by decide +kernel
theorem dX5_fits_43 : decode cX5_fits 43 = .ok (.goto 4, 3) := by decide +kernel
theorem dX5_fits_46 : decode cX5_fits 46 = .ok (.iconst 0, 1) := by decide +kernel
theorem dX5_fits_47 : decode cX5_fits 47 = .ok (.ireturn, 1) := by decide +kernel
theorem dX5_fits_48 : decode cX5_fits 48 = .ok (.iload_n 2, 1) := by decide +kernel
theorem dX5_fits_49 : decode cX5_fits 49 = .ok (.iconst 4, 1) := by decide +kernel
theorem dX5_fits_50 : decode cX5_fits 50 = .ok (.if_icmp .eq 9, 3) := by decide +kernel
theorem dX5_fits_53 : decode cX5_fits 53 = .ok (.iload_n 2, 1) := by decide +kernel
theorem dX5_fits_54 : decode cX5_fits 54 = .ok (.bipush 8, 2) := by decide +kernel
theorem dX5_fits_56 : decode cX5_fits 56 = .ok (.if_icmp .ne 7, 3) := by decide +kernel
theorem dX5_fits_59 : decode cX5_fits 59 = .ok (.iconst 1, 1) := by decide +kernel
theorem dX5_fits_60 : decode cX5_fits 60 = .ok (.goto 4, 3) := by decide +kernel
theorem dX5_fits_63 : decode cX5_fits 63 = .ok (.iconst 0, 1) := by decide +kernel
theorem dX5_fits_64 : decode cX5_fits 64 = .ok (.ireturn, 1) := by decide +kernel
theorem dX5_fits_65 : decode cX5_fits 65 = .ok (.iload_n 2, 1) := by decide +kernel
theorem dX5_fits_66 : decode cX5_fits 66 = .ok (.iconst 1, 1) := by decide +kernel
theorem dX5_fits_67 : decode cX5_fits 67 = .ok (.if_icmp .lt 13, 3) := by decide +kernel
theorem dX5_fits_70 : decode cX5_fits 70 = .ok (.iload_n 2, 1) := by decide +kernel
theorem dX5_fits_71 : decode cX5_fits 71 = .ok (.bipush 6, 2) := by decide +kernel
theorem dX5_fits_73 : decode cX5_fits 73 = .ok (.if_icmp .gt 7, 3) := by decide +kernel
theorem dX5_fits_76 : decode cX5_fits 76 = .ok (.iconst 1, 1) := by decide +kernel
theorem dX5_fits_77 : decode cX5_fits 77 = .ok (.goto 4, 3) := by decide +kernel
theorem dX5_fits_80 : decode cX5_fits 80 = .ok (.iconst 0, 1) := by decide +kernel
theorem dX5_fits_81 : decode cX5_fits 81 = .ok (.ireturn, 1) := by decide +kernel
theorem dX5_fits_82 : decode cX5_fits 82 = .ok (.iload_n 1, 1) := by decide +kernel
theorem dX5_fits_83 : decode cX5_fits 83 = .ok (.aload_n 0, 1) := by decide +kernel
theorem dX5_fits_84 : decode cX5_fits 84 = .ok (.invokevirtual 23, 3) := by decide +kernel
theorem dX5_fits_87 : decode cX5_fits 87 = .ok (.if_icmp .ge 14, 3) := by decide +kernel
theorem dX5_fits_90 : decode cX5_fits 90 = .ok (.iload_n 2, 1) := by decide +kernel
theorem dX5_fits_91 : decode cX5_fits 91 = .ok (.invokestatic 31, 3) := by decide +kernel
theorem dX5_fits_94 : decode cX5_fits 94 = .ok (.ifCond .eq 7, 3) := by decide +kernel
theorem dX5_fits_97 : decode cX5_fits 97 = .ok (.iconst 1, 1) := by decide +kernel
theorem dX5_fits_98 : decode cX5_fits 98 = .ok (.goto 4, 3) := by decide +kernel
theorem dX5_fits_101 : decode cX5_fits 101 = .ok (.iconst 0, 1) := by decide +kernel
theorem dX5_fits_102 : decode cX5_fits 102 = .ok (.ireturn, 1) := by decide +kernel
set_option maxRecDepth 20000 in
theorem ggX5_wholeSize_X5_figure : GoodIn wsX5_wholeSize wsX5_figure := goodIn_r _ [5, 6, 7, 8] (by decide +kernel) (by decide +kernel)
set_option maxRecDepth 20000 in
theorem gX5_wholeSize_X5_figure : GoodIn wsX5_wholeSize (wsV RX5 27 RX5 yX5_figure wsX5_figure) := goodIn_app (goodIn_of _ (by decide +kernel)) ggX5_wholeSize_X5_figure
theorem dX5_wholeSize_0 : decode cX5_wholeSize 0 = .ok (.iconst 4, 1) := by decide +kernel
theorem dX5_wholeSize_1 : decode cX5_wholeSize 1 = .ok (.aload_n 0, 1) := by decide +kernel
theorem dX5_wholeSize_2 : decode cX5_wholeSize 2 = .ok (.iconst 2, 1) := by decide +kernel
theorem dX5_wholeSize_3 : decode cX5_wholeSize 3 = .ok (.invokevirtual 27, 3) := by decide +kernel
theorem dX5_wholeSize_6 : decode cX5_wholeSize 6 = .ok (.aload_n 0, 1) := by decide +kernel
theorem dX5_wholeSize_7 : decode cX5_wholeSize 7 = .ok (.iconst 3, 1) := by decide +kernel
theorem dX5_wholeSize_8 : decode cX5_wholeSize 8 = .ok (.invokevirtual 27, 3) := by decide +kernel
theorem dX5_wholeSize_11 : decode cX5_wholeSize 11 = .ok (.imul, 1) := by decide +kernel
theorem dX5_wholeSize_12 : decode cX5_wholeSize 12 = .ok (.iadd, 1) := by decide +kernel
theorem dX5_wholeSize_13 : decode cX5_wholeSize 13 = .ok (.ireturn, 1) := by decide +kernel
theorem dX6_init_0 : decode cX6_init 0 = .ok (.aload_n 0, 1) := by decide +kernel
theorem dX6_init_1 : decode cX6_init 1 = .ok (.invokespecial 3, 3) := by decide +kernel
theorem dX6_init_4 : decode cX6_init 4 = .ok (.aload_n 0, 1) := by decide +kernel
theorem dX6_init_5 : decode cX6_init 5 = .ok (.bipush 36, 2) := by decide +kernel
theorem dX6_init_7 : decode cX6_init 7 = .ok (.newarray .long, 2) := by decide +kernel
theorem dX6_init_9 : decode cX6_init 9 = .ok (.putfield 9, 3) := by decide +kernel
theorem dX6_init_12 : decode cX6_init 12 = .ok (.aload_n 0, 1) := by decide +kernel
theorem dX6_init_13 : decode cX6_init 13 = .ok (.bipush 36, 2) := by decide +kernel
theorem dX6_init_15 : decode cX6_init 15 = .ok (.newarray .int, 2) := by decide +kernel
theorem dX6_init_17 : decode cX6_init 17 = .ok (.putfield 15, 3) := by decide +kernel
theorem dX6_init_20 : decode cX6_init 20 = .ok (.aload_n 0, 1) := by decide +kernel
theorem dX6_init_21 : decode cX6_init 21 = .ok (.aload_n 1, 1) := by decide +kernel
theorem dX6_init_22 : decode cX6_init 22 = .ok (.putfield 19, 3) := by decide +kernel
theorem dX6_init_25 : decode cX6_init 25 = .ok (.aload_n 0, 1) := by decide +kernel
theorem dX6_init_26 : decode cX6_init 26 = .ok (.aload_n 2, 1) := by decide +kernel
theorem dX6_init_27 : decode cX6_init 27 = .ok (.putfield 23, 3) := by decide +kernel
theorem dX6_init_30 : decode cX6_init 30 = .ok (.return_, 1) := by decide +kernel
set_option maxRecDepth 20000 in
theorem ggX6_partAt_X2_atLeast : GoodIn wsX6_partAt wsX2_atLeast := goodIn_r _ [7, 8, 32, 33] (by decide +kernel) (by decide +kernel)
set_option maxRecDepth 20000 in
theorem gX6_partAt_X2_atLeast : GoodIn wsX6_partAt (wsV RX6 27 RX2 yX2_atLeast wsX2_atLeast) := goodIn_app (goodIn_of _ (by decide +kernel)) ggX6_partAt_X2_atLeast
set_option maxRecDepth 20000 in
theorem ggX6_partAt_X1_way : GoodIn wsX6_partAt wsX1_way := goodIn_r _ [13, 14, 34, 35, 36, 37, 38, 39] (by decide +kernel) (by decide +kernel)
set_option maxRecDepth 20000 in
theorem gX6_partAt_X1_way : GoodIn wsX6_partAt (wsV RX6 33 RX1 yX1_way wsX1_way) := goodIn_app (goodIn_of _ (by decide +kernel)) ggX6_partAt_X1_way
set_option maxRecDepth 20000 in
theorem ggX6_partAt_X1_partAround : GoodIn wsX6_partAt wsX1_partAround := goodIn_r _ [18, 19, 20, 21, 12, 22, 23, 24, 25, 26, 34, 35, 36, 37, 38, 39] (by decide +kernel) (by decide +kernel)
set_option maxRecDepth 20000 in
theorem gX6_partAt_X1_partAround : GoodIn wsX6_partAt (wsV RX6 39 RX1 yX1_partAround wsX1_partAround) := goodIn_app (goodIn_of _ (by decide +kernel)) ggX6_partAt_X1_partAround
theorem dX6_partAt_0 : decode cX6_partAt 0 = .ok (.aload_n 0, 1) := by decide +kernel
theorem dX6_partAt_1 : decode cX6_partAt 1 = .ok (.getfield 19, 3) := by decide +kernel
theorem dX6_partAt_4 : decode cX6_partAt 4 = .ok (.aload_n 0, 1) := by decide +kernel
theorem dX6_partAt_5 : decode cX6_partAt 5 = .ok (.getfield 23, 3) := by decide +kernel
theorem dX6_partAt_8 : decode cX6_partAt 8 = .ok (.iload_n 1, 1) := by decide +kernel
theorem dX6_partAt_9 : decode cX6_partAt 9 = .ok (.invokevirtual 27, 3) := by decide +kernel
theorem dX6_partAt_12 : decode cX6_partAt 12 = .ok (.lload_n 2, 1) := by decide +kernel
theorem dX6_partAt_13 : decode cX6_partAt 13 = .ok (.aload_n 0, 1) := by decide +kernel
theorem dX6_partAt_14 : decode cX6_partAt 14 = .ok (.getfield 19, 3) := by decide +kernel
theorem dX6_partAt_17 : decode cX6_partAt 17 = .ok (.invokevirtual 33, 3) := by decide +kernel
theorem dX6_partAt_20 : decode cX6_partAt 20 = .ok (.invokevirtual 39, 3) := by decide +kernel
theorem dX6_partAt_23 : decode cX6_partAt 23 = .ok (.lreturn, 1) := by decide +kernel
set_option maxRecDepth 20000 in
theorem ggX6_ofLevel_X2_atLeast : GoodIn wsX6_ofLevel wsX2_atLeast := goodIn_r _ [7, 8, 14, 15] (by decide +kernel) (by decide +kernel)
set_option maxRecDepth 20000 in
theorem gX6_ofLevel_X2_atLeast : GoodIn wsX6_ofLevel (wsV RX6 27 RX2 yX2_atLeast wsX2_atLeast) := goodIn_app (goodIn_of _ (by decide +kernel)) ggX6_ofLevel_X2_atLeast
theorem dX6_ofLevel_0 : decode cX6_ofLevel 0 = .ok (.aload_n 0, 1) := by decide +kernel
theorem dX6_ofLevel_1 : decode cX6_ofLevel 1 = .ok (.getfield 23, 3) := by decide +kernel
theorem dX6_ofLevel_4 : decode cX6_ofLevel 4 = .ok (.iload_n 1, 1) := by decide +kernel
theorem dX6_ofLevel_5 : decode cX6_ofLevel 5 = .ok (.invokevirtual 27, 3) := by decide +kernel
theorem dX6_ofLevel_8 : decode cX6_ofLevel 8 = .ok (.aload_n 0, 1) := by decide +kernel
theorem dX6_ofLevel_9 : decode cX6_ofLevel 9 = .ok (.getfield 23, 3) := by decide +kernel
theorem dX6_ofLevel_12 : decode cX6_ofLevel 12 = .ok (.iload_n 1, 1) := by decide +kernel
theorem dX6_ofLevel_13 : decode cX6_ofLevel 13 = .ok (.iconst 1, 1) := by decide +kernel
theorem dX6_ofLevel_14 : decode cX6_ofLevel 14 = .ok (.iadd, 1) := by decide +kernel
theorem dX6_ofLevel_15 : decode cX6_ofLevel 15 = .ok (.invokevirtual 27, 3) := by decide +kernel
theorem dX6_ofLevel_18 : decode cX6_ofLevel 18 = .ok (.ldc2_w 43, 3) := by decide +kernel
theorem dX6_ofLevel_21 : decode cX6_ofLevel 21 = .ok (.lxor, 1) := by decide +kernel
theorem dX6_ofLevel_22 : decode cX6_ofLevel 22 = .ok (.land, 1) := by decide +kernel
theorem dX6_ofLevel_23 : decode cX6_ofLevel 23 = .ok (.lreturn, 1) := by decide +kernel
set_option maxRecDepth 20000 in
theorem ggX6_nodeOf_X1_hasDot : GoodIn wsX6_nodeOf wsX1_hasDot := goodIn_r _ [7, 8, 9, 10, 6, 11, 12, 13, 50, 51, 52, 53, 54, 55] (by decide +kernel) (by decide +kernel)
set_option maxRecDepth 20000 in
theorem gX6_nodeOf_X1_hasDot : GoodIn wsX6_nodeOf (wsV RX6 45 RX1 yX1_hasDot wsX1_hasDot) := goodIn_app (goodIn_of _ (by decide +kernel)) ggX6_nodeOf_X1_hasDot
set_option maxRecDepth 20000 in
theorem ggX6_nodeOf_X2_of : GoodIn wsX6_nodeOf wsX2_of := goodIn_r _ [18, 19, 56, 57] (by decide +kernel) (by decide +kernel)
set_option maxRecDepth 20000 in
theorem gX6_nodeOf_X2_of : GoodIn wsX6_nodeOf (wsV RX6 49 RX2 yX2_of wsX2_of) := goodIn_app (goodIn_of _ (by decide +kernel)) ggX6_nodeOf_X2_of
set_option maxRecDepth 20000 in
theorem ggX6_nodeOf_X6_partAt : GoodIn wsX6_nodeOf wsX6_partAt := goodIn_r _ [24, 1, 2, 25, 26, 27, 17, 28, 19, 29, 30, 31, 6, 32, 33, 34, 35, 36, 37, 38, 39, 40, 41, 42, 43, 44, 12, 45, 46, 47, 48, 49, 56, 57, 50, 51, 52, 53, 54, 55] (by decide +kernel) (by decide +kernel)
set_option maxRecDepth 20000 in
theorem gX6_nodeOf_X6_partAt : GoodIn wsX6_nodeOf (wsV RX6 53 RX6 yX6_partAt wsX6_partAt) := goodIn_app (goodIn_of _ (by decide +kernel)) ggX6_nodeOf_X6_partAt
theorem dX6_nodeOf_0 : decode cX6_nodeOf 0 = .ok (.aload_n 0, 1) := by decide +kernel
theorem dX6_nodeOf_1 : decode cX6_nodeOf 1 = .ok (.getfield 19, 3) := by decide +kernel
theorem dX6_nodeOf_4 : decode cX6_nodeOf 4 = .ok (.iload_n 1, 1) := by decide +kernel
theorem dX6_nodeOf_5 : decode cX6_nodeOf 5 = .ok (.invokevirtual 45, 3) := by decide +kernel
theorem dX6_nodeOf_8 : decode cX6_nodeOf 8 = .ok (.ifCond .eq 21, 3) := by decide +kernel
theorem dX6_nodeOf_11 : decode cX6_nodeOf 11 = .ok (.aload_n 0, 1) := by decide +kernel
theorem dX6_nodeOf_12 : decode cX6_nodeOf 12 = .ok (.aload_n 0, 1) := by decide +kernel
theorem dX6_nodeOf_13 : decode cX6_nodeOf 13 = .ok (.getfield 23, 3) := by decide +kernel
theorem dX6_nodeOf_16 : decode cX6_nodeOf 16 = .ok (.iload_n 1, 1) := by decide +kernel
theorem dX6_nodeOf_17 : decode cX6_nodeOf 17 = .ok (.invokevirtual 49, 3) := by decide +kernel
theorem dX6_nodeOf_20 : decode cX6_nodeOf 20 = .ok (.lconst 1, 1) := by decide +kernel
theorem dX6_nodeOf_21 : decode cX6_nodeOf 21 = .ok (.iload_n 1, 1) := by decide +kernel
theorem dX6_nodeOf_22 : decode cX6_nodeOf 22 = .ok (.lshl, 1) := by decide +kernel
theorem dX6_nodeOf_23 : decode cX6_nodeOf 23 = .ok (.invokevirtual 53, 3) := by decide +kernel
theorem dX6_nodeOf_26 : decode cX6_nodeOf 26 = .ok (.goto 4, 3) := by decide +kernel
theorem dX6_nodeOf_29 : decode cX6_nodeOf 29 = .ok (.lconst 0, 1) := by decide +kernel
theorem dX6_nodeOf_30 : decode cX6_nodeOf 30 = .ok (.lreturn, 1) := by decide +kernel
set_option maxRecDepth 20000 in
theorem ggX6_head_X6_ofLevel : GoodIn wsX6_head wsX6_ofLevel := goodIn_r _ [5, 6, 7, 8, 9, 10, 11, 12, 13, 21, 22, 23, 24, 25, 26, 27] (by decide +kernel) (by decide +kernel)
set_option maxRecDepth 20000 in
theorem gX6_head_X6_ofLevel : GoodIn wsX6_head (wsV RX6 57 RX6 yX6_ofLevel wsX6_ofLevel) := goodIn_app (goodIn_of _ (by decide +kernel)) ggX6_head_X6_ofLevel
set_option maxRecDepth 20000 in
theorem ggX6_head_J13_bitCount_95d88 : GoodIn wsX6_head wsJ13_bitCount_95d88 := goodIn_r _ [17, 18, 19, 20] (by decide +kernel) (by decide +kernel)
set_option maxRecDepth 20000 in
theorem gX6_head_J13_bitCount_95d88 : GoodIn wsX6_head (va_wsS RX6 60 yJ13_bitCount_95d88 wsJ13_bitCount_95d88) := goodIn_app (goodIn_of _ (by decide +kernel)) ggX6_head_J13_bitCount_95d88
theorem dX6_head_0 : decode cX6_head 0 = .ok (.lload_n 1, 1) := by decide +kernel
theorem dX6_head_1 : decode cX6_head 1 = .ok (.aload_n 0, 1) := by decide +kernel
theorem dX6_head_2 : decode cX6_head 2 = .ok (.iload_n 3, 1) := by decide +kernel
theorem dX6_head_3 : decode cX6_head 3 = .ok (.invokevirtual 57, 3) := by decide +kernel
theorem dX6_head_6 : decode cX6_head 6 = .ok (.land, 1) := by decide +kernel
theorem dX6_head_7 : decode cX6_head 7 = .ok (.lstore 4, 2) := by decide +kernel
theorem dX6_head_9 : decode cX6_head 9 = .ok (.lload 4, 2) := by decide +kernel
theorem dX6_head_11 : decode cX6_head 11 = .ok (.lload 4, 2) := by decide +kernel
theorem dX6_head_13 : decode cX6_head 13 = .ok (.lneg, 1) := by decide +kernel
theorem dX6_head_14 : decode cX6_head 14 = .ok (.land, 1) := by decide +kernel
theorem dX6_head_15 : decode cX6_head 15 = .ok (.lconst 1, 1) := by decide +kernel
theorem dX6_head_16 : decode cX6_head 16 = .ok (.lsub, 1) := by decide +kernel
theorem dX6_head_17 : decode cX6_head 17 = .ok (.invokestatic 60, 3) := by decide +kernel
theorem dX6_head_20 : decode cX6_head 20 = .ok (.ireturn, 1) := by decide +kernel
set_option maxRecDepth 20000 in
theorem ggX6_parentLevel_X6_partAt : GoodIn wsX6_parentLevel wsX6_partAt := goodIn_r _ [5, 6, 7, 8, 9, 10, 11, 12, 13, 14, 15, 16, 17, 18, 19, 20, 21, 22, 23, 24, 25, 26, 27, 28, 29, 30, 31, 32, 33, 34, 35, 36, 37, 38, 39, 40, 41, 42, 43, 44] (by decide +kernel) (by decide +kernel)
set_option maxRecDepth 20000 in
theorem gX6_parentLevel_X6_partAt : GoodIn wsX6_parentLevel (wsV RX6 53 RX6 yX6_partAt wsX6_partAt) := goodIn_app (goodIn_of _ (by decide +kernel)) ggX6_parentLevel_X6_partAt
theorem dX6_parentLevel_0 : decode cX6_parentLevel 0 = .ok (.iload_n 3, 1) := by decide +kernel
theorem dX6_parentLevel_1 : decode cX6_parentLevel 1 = .ok (.iconst 1, 1) := by decide +kernel
theorem dX6_parentLevel_2 : decode cX6_parentLevel 2 = .ok (.isub, 1) := by decide +kernel
theorem dX6_parentLevel_3 : decode cX6_parentLevel 3 = .ok (.istore 4, 2) := by decide +kernel
theorem dX6_parentLevel_5 : decode cX6_parentLevel 5 = .ok (.iload 4, 2) := by decide +kernel
theorem dX6_parentLevel_7 : decode cX6_parentLevel 7 = .ok (.ifCond .lt 24, 3) := by decide +kernel
theorem dX6_parentLevel_10 : decode cX6_parentLevel 10 = .ok (.aload_n 0, 1) := by decide +kernel
theorem dX6_parentLevel_11 : decode cX6_parentLevel 11 = .ok (.iload 4, 2) := by decide +kernel
theorem dX6_parentLevel_13 : decode cX6_parentLevel 13 = .ok (.lload_n 1, 1) := by decide +kernel
theorem dX6_parentLevel_14 : decode cX6_parentLevel 14 = .ok (.invokevirtual 53, 3) := by decide +kernel
theorem dX6_parentLevel_17 : decode cX6_parentLevel 17 = .ok (.lload_n 1, 1) := by decide +kernel
theorem dX6_parentLevel_18 : decode cX6_parentLevel 18 = .ok (.lcmp, 1) := by decide +kernel
theorem dX6_parentLevel_19 : decode cX6_parentLevel 19 = .ok (.ifCond .eq 6, 3) := by decide +kernel
theorem dX6_parentLevel_22 : decode cX6_parentLevel 22 = .ok (.iload 4, 2) := by decide +kernel
theorem dX6_parentLevel_24 : decode cX6_parentLevel 24 = .ok (.ireturn, 1) := by decide +kernel
theorem dX6_parentLevel_25 : decode cX6_parentLevel 25 = .ok (.iinc 4 (-1), 3) := by decide +kernel
theorem dX6_parentLevel_28 : decode cX6_parentLevel 28 = .ok (.goto (-23), 3) := by decide +kernel
theorem dX6_parentLevel_31 : decode cX6_parentLevel 31 = .ok (.bipush (-9), 2) := by decide +kernel
end
section
theorem dX6_parentLevel_33 : decode cX6_parentLevel 33 = .ok (.ireturn, 1) := by decide +kernel
set_option maxRecDepth 20000 in
theorem ggX6_parentHead_X6_parentLevel : GoodIn wsX6_parentHead wsX6_parentLevel := goodIn_r _ [5, 6, 7, 8, 4, 9, 10, 11, 12, 13, 14, 15, 16, 17, 18, 19, 20, 21, 22, 23, 24, 25, 26, 27, 28, 29, 30, 31, 32, 33, 34, 35, 52, 53, 54, 55, 56, 57, 58, 59, 60, 61, 62, 63, 64] (by decide +kernel) (by decide +kernel)
set_option maxRecDepth 20000 in
theorem gX6_parentHead_X6_parentLevel : GoodIn wsX6_parentHead (wsV RX6 66 RX6 yX6_parentLevel wsX6_parentLevel) := goodIn_app (goodIn_of _ (by decide +kernel)) ggX6_parentHead_X6_parentLevel
set_option maxRecDepth 20000 in
theorem ggX6_parentHead_X6_partAt : GoodIn wsX6_parentHead wsX6_partAt := goodIn_r _ [9, 10, 11, 12, 13, 14, 15, 16, 17, 18, 19, 20, 21, 22, 23, 24, 25, 26, 27, 28, 29, 30, 31, 32, 33, 34, 35, 52, 53, 54, 55, 56, 57, 58, 59, 60, 61, 62, 63, 64] (by decide +kernel) (by decide +kernel)
set_option maxRecDepth 20000 in
theorem gX6_parentHead_X6_partAt : GoodIn wsX6_parentHead (wsV RX6 53 RX6 yX6_partAt wsX6_partAt) := goodIn_app (goodIn_of _ (by decide +kernel)) ggX6_parentHead_X6_partAt
set_option maxRecDepth 20000 in
theorem ggX6_parentHead_X6_head : GoodIn wsX6_parentHead wsX6_head := goodIn_r _ [39, 40, 41, 42, 4, 43, 11, 44, 12, 13, 14, 15, 16, 17, 45, 46, 47, 48, 49, 50, 51, 52, 53, 54, 55, 56, 57, 58] (by decide +kernel) (by decide +kernel)
set_option maxRecDepth 20000 in
theorem gX6_parentHead_X6_head : GoodIn wsX6_parentHead (wsV RX6 70 RX6 yX6_head wsX6_head) := goodIn_app (goodIn_of _ (by decide +kernel)) ggX6_parentHead_X6_head
theorem dX6_parentHead_0 : decode cX6_parentHead 0 = .ok (.aload_n 0, 1) := by decide +kernel
theorem dX6_parentHead_1 : decode cX6_parentHead 1 = .ok (.lload_n 1, 1) := by decide +kernel
theorem dX6_parentHead_2 : decode cX6_parentHead 2 = .ok (.iload_n 3, 1) := by decide +kernel
theorem dX6_parentHead_3 : decode cX6_parentHead 3 = .ok (.invokevirtual 66, 3) := by decide +kernel
theorem dX6_parentHead_6 : decode cX6_parentHead 6 = .ok (.istore 4, 2) := by decide +kernel
theorem dX6_parentHead_8 : decode cX6_parentHead 8 = .ok (.iload 4, 2) := by decide +kernel
theorem dX6_parentHead_10 : decode cX6_parentHead 10 = .ok (.bipush (-9), 2) := by decide +kernel
theorem dX6_parentHead_12 : decode cX6_parentHead 12 = .ok (.if_icmp .ne 8, 3) := by decide +kernel
theorem dX6_parentHead_15 : decode cX6_parentHead 15 = .ok (.bipush (-9), 2) := by decide +kernel
theorem dX6_parentHead_17 : decode cX6_parentHead 17 = .ok (.goto 16, 3) := by decide +kernel
theorem dX6_parentHead_20 : decode cX6_parentHead 20 = .ok (.aload_n 0, 1) := by decide +kernel
theorem dX6_parentHead_21 : decode cX6_parentHead 21 = .ok (.aload_n 0, 1) := by decide +kernel
theorem dX6_parentHead_22 : decode cX6_parentHead 22 = .ok (.iload 4, 2) := by decide +kernel
theorem dX6_parentHead_24 : decode cX6_parentHead 24 = .ok (.lload_n 1, 1) := by decide +kernel
theorem dX6_parentHead_25 : decode cX6_parentHead 25 = .ok (.invokevirtual 53, 3) := by decide +kernel
theorem dX6_parentHead_28 : decode cX6_parentHead 28 = .ok (.iload 4, 2) := by decide +kernel
theorem dX6_parentHead_30 : decode cX6_parentHead 30 = .ok (.invokevirtual 70, 3) := by decide +kernel
theorem dX6_parentHead_33 : decode cX6_parentHead 33 = .ok (.ireturn, 1) := by decide +kernel
set_option maxRecDepth 20000 in
theorem ggX6_countChildren_X2_atLeast : GoodIn wsX6_countChildren wsX2_atLeast := goodIn_r _ [7, 8, 36, 37] (by decide +kernel) (by decide +kernel)
set_option maxRecDepth 20000 in
theorem gX6_countChildren_X2_atLeast : GoodIn wsX6_countChildren (wsV RX6 27 RX2 yX2_atLeast wsX2_atLeast) := goodIn_app (goodIn_of _ (by decide +kernel)) ggX6_countChildren_X2_atLeast
set_option maxRecDepth 20000 in
theorem ggX6_countChildren_X1_way : GoodIn wsX6_countChildren wsX1_way := goodIn_r _ [13, 14, 38, 39, 40, 41, 42, 43] (by decide +kernel) (by decide +kernel)
set_option maxRecDepth 20000 in
theorem gX6_countChildren_X1_way : GoodIn wsX6_countChildren (wsV RX6 33 RX1 yX1_way wsX1_way) := goodIn_app (goodIn_of _ (by decide +kernel)) ggX6_countChildren_X1_way
set_option maxRecDepth 20000 in
theorem ggX6_countChildren_X1_countParts : GoodIn wsX6_countChildren wsX1_countParts := goodIn_r _ [18, 19, 20, 21, 22, 12, 23, 24, 25, 26, 27, 28, 29, 30, 38, 39, 40, 41, 42, 43] (by decide +kernel) (by decide +kernel)
set_option maxRecDepth 20000 in
theorem gX6_countChildren_X1_countParts : GoodIn wsX6_countChildren (wsV RX6 73 RX1 yX1_countParts wsX1_countParts) := goodIn_app (goodIn_of _ (by decide +kernel)) ggX6_countChildren_X1_countParts
theorem dX6_countChildren_0 : decode cX6_countChildren 0 = .ok (.aload_n 0, 1) := by decide +kernel
theorem dX6_countChildren_1 : decode cX6_countChildren 1 = .ok (.getfield 19, 3) := by decide +kernel
theorem dX6_countChildren_4 : decode cX6_countChildren 4 = .ok (.lload_n 1, 1) := by decide +kernel
theorem dX6_countChildren_5 : decode cX6_countChildren 5 = .ok (.aload_n 0, 1) := by decide +kernel
theorem dX6_countChildren_6 : decode cX6_countChildren 6 = .ok (.getfield 23, 3) := by decide +kernel
theorem dX6_countChildren_9 : decode cX6_countChildren 9 = .ok (.iload_n 3, 1) := by decide +kernel
theorem dX6_countChildren_10 : decode cX6_countChildren 10 = .ok (.iconst 1, 1) := by decide +kernel
theorem dX6_countChildren_11 : decode cX6_countChildren 11 = .ok (.iadd, 1) := by decide +kernel
theorem dX6_countChildren_12 : decode cX6_countChildren 12 = .ok (.invokevirtual 27, 3) := by decide +kernel
theorem dX6_countChildren_15 : decode cX6_countChildren 15 = .ok (.land, 1) := by decide +kernel
theorem dX6_countChildren_16 : decode cX6_countChildren 16 = .ok (.aload_n 0, 1) := by decide +kernel
theorem dX6_countChildren_17 : decode cX6_countChildren 17 = .ok (.getfield 19, 3) := by decide +kernel
theorem dX6_countChildren_20 : decode cX6_countChildren 20 = .ok (.invokevirtual 33, 3) := by decide +kernel
theorem dX6_countChildren_23 : decode cX6_countChildren 23 = .ok (.invokevirtual 73, 3) := by decide +kernel
theorem dX6_countChildren_26 : decode cX6_countChildren 26 = .ok (.ireturn, 1) := by decide +kernel
set_option maxRecDepth 20000 in
theorem ggX6_depth_X6_partAt : GoodIn wsX6_depth wsX6_partAt := goodIn_r _ [5, 6, 7, 8, 9, 10, 11, 12, 13, 14, 15, 16, 17, 18, 19, 20, 21, 22, 23, 24, 25, 26, 27, 28, 29, 30, 31, 32, 33, 34, 35, 36, 37, 38, 39, 40, 41, 42, 43, 44] (by decide +kernel) (by decide +kernel)
set_option maxRecDepth 20000 in
theorem gX6_depth_X6_partAt : GoodIn wsX6_depth (wsV RX6 53 RX6 yX6_partAt wsX6_partAt) := goodIn_app (goodIn_of _ (by decide +kernel)) ggX6_depth_X6_partAt
theorem dX6_depth_0 : decode cX6_depth 0 = .ok (.iconst 0, 1) := by decide +kernel
theorem dX6_depth_1 : decode cX6_depth 1 = .ok (.istore 4, 2) := by decide +kernel
theorem dX6_depth_3 : decode cX6_depth 3 = .ok (.lload_n 1, 1) := by decide +kernel
theorem dX6_depth_4 : decode cX6_depth 4 = .ok (.lstore 5, 2) := by decide +kernel
theorem dX6_depth_6 : decode cX6_depth 6 = .ok (.iload_n 3, 1) := by decide +kernel
theorem dX6_depth_7 : decode cX6_depth 7 = .ok (.iconst 1, 1) := by decide +kernel
theorem dX6_depth_8 : decode cX6_depth 8 = .ok (.isub, 1) := by decide +kernel
theorem dX6_depth_9 : decode cX6_depth 9 = .ok (.istore 7, 2) := by decide +kernel
theorem dX6_depth_11 : decode cX6_depth 11 = .ok (.iload 7, 2) := by decide +kernel
theorem dX6_depth_13 : decode cX6_depth 13 = .ok (.ifCond .lt 34, 3) := by decide +kernel
theorem dX6_depth_16 : decode cX6_depth 16 = .ok (.aload_n 0, 1) := by decide +kernel
theorem dX6_depth_17 : decode cX6_depth 17 = .ok (.iload 7, 2) := by decide +kernel
theorem dX6_depth_19 : decode cX6_depth 19 = .ok (.lload 5, 2) := by decide +kernel
theorem dX6_depth_21 : decode cX6_depth 21 = .ok (.invokevirtual 53, 3) := by decide +kernel
theorem dX6_depth_24 : decode cX6_depth 24 = .ok (.lstore 8, 2) := by decide +kernel
theorem dX6_depth_26 : decode cX6_depth 26 = .ok (.lload 8, 2) := by decide +kernel
theorem dX6_depth_28 : decode cX6_depth 28 = .ok (.lload 5, 2) := by decide +kernel
theorem dX6_depth_30 : decode cX6_depth 30 = .ok (.lcmp, 1) := by decide +kernel
theorem dX6_depth_31 : decode cX6_depth 31 = .ok (.ifCond .eq 10, 3) := by decide +kernel
theorem dX6_depth_34 : decode cX6_depth 34 = .ok (.iinc 4 1, 3) := by decide +kernel
theorem dX6_depth_37 : decode cX6_depth 37 = .ok (.lload 8, 2) := by decide +kernel
theorem dX6_depth_39 : decode cX6_depth 39 = .ok (.lstore 5, 2) := by decide +kernel
theorem dX6_depth_41 : decode cX6_depth 41 = .ok (.iinc 7 (-1), 3) := by decide +kernel
theorem dX6_depth_44 : decode cX6_depth 44 = .ok (.goto (-33), 3) := by decide +kernel
theorem dX6_depth_47 : decode cX6_depth 47 = .ok (.iload 4, 2) := by decide +kernel
theorem dX6_depth_49 : decode cX6_depth 49 = .ok (.ireturn, 1) := by decide +kernel
set_option maxRecDepth 20000 in
theorem ggX6_rise_X2_brightest : GoodIn wsX6_rise wsX2_brightest := goodIn_r _ [6, 7, 8, 9, 5, 10, 11, 42, 43] (by decide +kernel) (by decide +kernel)
set_option maxRecDepth 20000 in
theorem gX6_rise_X2_brightest : GoodIn wsX6_rise (wsV RX6 76 RX2 yX2_brightest wsX2_brightest) := goodIn_app (goodIn_of _ (by decide +kernel)) ggX6_rise_X2_brightest
set_option maxRecDepth 20000 in
theorem ggX6_rise_X2_atLeast : GoodIn wsX6_rise wsX2_atLeast := goodIn_r _ [10, 11, 42, 43] (by decide +kernel) (by decide +kernel)
set_option maxRecDepth 20000 in
theorem gX6_rise_X2_atLeast : GoodIn wsX6_rise (wsV RX6 27 RX2 yX2_atLeast wsX2_atLeast) := goodIn_app (goodIn_of _ (by decide +kernel)) ggX6_rise_X2_atLeast
set_option maxRecDepth 20000 in
theorem ggX6_rise_X6_partAt : GoodIn wsX6_rise wsX6_partAt := goodIn_r _ [17, 18, 1, 12, 8, 9, 5, 10, 11, 19, 20, 21, 22, 23, 24, 25, 26, 27, 28, 29, 30, 31, 32, 33, 34, 35, 36, 37, 38, 39, 40, 41, 42, 43, 44, 45, 46, 47, 48, 49] (by decide +kernel) (by decide +kernel)
set_option maxRecDepth 20000 in
theorem gX6_rise_X6_partAt : GoodIn wsX6_rise (wsV RX6 53 RX6 yX6_partAt wsX6_partAt) := goodIn_app (goodIn_of _ (by decide +kernel)) ggX6_rise_X6_partAt
theorem dX6_rise_0 : decode cX6_rise 0 = .ok (.aload_n 0, 1) := by decide +kernel
theorem dX6_rise_1 : decode cX6_rise 1 = .ok (.getfield 23, 3) := by decide +kernel
theorem dX6_rise_4 : decode cX6_rise 4 = .ok (.aload_n 0, 1) := by decide +kernel
theorem dX6_rise_5 : decode cX6_rise 5 = .ok (.getfield 23, 3) := by decide +kernel
theorem dX6_rise_8 : decode cX6_rise 8 = .ok (.lload_n 1, 1) := by decide +kernel
theorem dX6_rise_9 : decode cX6_rise 9 = .ok (.invokevirtual 76, 3) := by decide +kernel
theorem dX6_rise_12 : decode cX6_rise 12 = .ok (.iconst 1, 1) := by decide +kernel
theorem dX6_rise_13 : decode cX6_rise 13 = .ok (.iadd, 1) := by decide +kernel
theorem dX6_rise_14 : decode cX6_rise 14 = .ok (.invokevirtual 27, 3) := by decide +kernel
theorem dX6_rise_17 : decode cX6_rise 17 = .ok (.lstore 4, 2) := by decide +kernel
theorem dX6_rise_19 : decode cX6_rise 19 = .ok (.lload 4, 2) := by decide +kernel
theorem dX6_rise_21 : decode cX6_rise 21 = .ok (.lconst 0, 1) := by decide +kernel
theorem dX6_rise_22 : decode cX6_rise 22 = .ok (.lcmp, 1) := by decide +kernel
theorem dX6_rise_23 : decode cX6_rise 23 = .ok (.ifCond .ne 6, 3) := by decide +kernel
theorem dX6_rise_26 : decode cX6_rise 26 = .ok (.bipush (-9), 2) := by decide +kernel
theorem dX6_rise_28 : decode cX6_rise 28 = .ok (.ireturn, 1) := by decide +kernel
theorem dX6_rise_29 : decode cX6_rise 29 = .ok (.iload_n 3, 1) := by decide +kernel
theorem dX6_rise_30 : decode cX6_rise 30 = .ok (.iconst 1, 1) := by decide +kernel
theorem dX6_rise_31 : decode cX6_rise 31 = .ok (.isub, 1) := by decide +kernel
theorem dX6_rise_32 : decode cX6_rise 32 = .ok (.istore 6, 2) := by decide +kernel
theorem dX6_rise_34 : decode cX6_rise 34 = .ok (.iload 6, 2) := by decide +kernel
theorem dX6_rise_36 : decode cX6_rise 36 = .ok (.ifCond .lt 29, 3) := by decide +kernel
theorem dX6_rise_39 : decode cX6_rise 39 = .ok (.aload_n 0, 1) := by decide +kernel
theorem dX6_rise_40 : decode cX6_rise 40 = .ok (.iload 6, 2) := by decide +kernel
theorem dX6_rise_42 : decode cX6_rise 42 = .ok (.lload_n 1, 1) := by decide +kernel
theorem dX6_rise_43 : decode cX6_rise 43 = .ok (.invokevirtual 53, 3) := by decide +kernel
theorem dX6_rise_46 : decode cX6_rise 46 = .ok (.lload 4, 2) := by decide +kernel
theorem dX6_rise_48 : decode cX6_rise 48 = .ok (.land, 1) := by decide +kernel
theorem dX6_rise_49 : decode cX6_rise 49 = .ok (.lconst 0, 1) := by decide +kernel
theorem dX6_rise_50 : decode cX6_rise 50 = .ok (.lcmp, 1) := by decide +kernel
theorem dX6_rise_51 : decode cX6_rise 51 = .ok (.ifCond .eq 8, 3) := by decide +kernel
theorem dX6_rise_54 : decode cX6_rise 54 = .ok (.iload_n 3, 1) := by decide +kernel
theorem dX6_rise_55 : decode cX6_rise 55 = .ok (.iload 6, 2) := by decide +kernel
theorem dX6_rise_57 : decode cX6_rise 57 = .ok (.isub, 1) := by decide +kernel
theorem dX6_rise_58 : decode cX6_rise 58 = .ok (.ireturn, 1) := by decide +kernel
theorem dX6_rise_59 : decode cX6_rise 59 = .ok (.iinc 6 (-1), 3) := by decide +kernel
theorem dX6_rise_62 : decode cX6_rise 62 = .ok (.goto (-28), 3) := by decide +kernel
theorem dX6_rise_65 : decode cX6_rise 65 = .ok (.bipush (-9), 2) := by decide +kernel
theorem dX6_rise_67 : decode cX6_rise 67 = .ok (.ireturn, 1) := by decide +kernel
set_option maxRecDepth 20000 in
theorem ggX6_gain_X6_partAt : GoodIn wsX6_gain wsX6_partAt := goodIn_r _ [10, 11, 12, 13, 14, 15, 16, 17, 18, 19, 20, 21, 22, 23, 24, 25, 26, 27, 28, 29, 30, 31, 32, 33, 34, 35, 36, 44, 45, 46, 47, 48, 49, 50, 51, 52, 53, 54, 55, 56] (by decide +kernel) (by decide +kernel)
set_option maxRecDepth 20000 in
theorem gX6_gain_X6_partAt : GoodIn wsX6_gain (wsV RX6 53 RX6 yX6_partAt wsX6_partAt) := goodIn_app (goodIn_of _ (by decide +kernel)) ggX6_gain_X6_partAt
set_option maxRecDepth 20000 in
theorem ggX6_gain_J13_bitCount_95d88 : GoodIn wsX6_gain wsJ13_bitCount_95d88 := goodIn_r _ [40, 41, 42, 43] (by decide +kernel) (by decide +kernel)
set_option maxRecDepth 20000 in
theorem gX6_gain_J13_bitCount_95d88 : GoodIn wsX6_gain (va_wsS RX6 60 yJ13_bitCount_95d88 wsJ13_bitCount_95d88) := goodIn_app (goodIn_of _ (by decide +kernel)) ggX6_gain_J13_bitCount_95d88
theorem dX6_gain_0 : decode cX6_gain 0 = .ok (.aload_n 0, 1) := by decide +kernel
theorem dX6_gain_1 : decode cX6_gain 1 = .ok (.iload_n 3, 1) := by decide +kernel
theorem dX6_gain_2 : decode cX6_gain 2 = .ok (.iload 4, 2) := by decide +kernel
theorem dX6_gain_4 : decode cX6_gain 4 = .ok (.isub, 1) := by decide +kernel
theorem dX6_gain_5 : decode cX6_gain 5 = .ok (.iconst 0, 1) := by decide +kernel
theorem dX6_gain_6 : decode cX6_gain 6 = .ok (.invokestatic 79, 3) := by decide +kernel
theorem dX6_gain_9 : decode cX6_gain 9 = .ok (.lload_n 1, 1) := by decide +kernel
theorem dX6_gain_10 : decode cX6_gain 10 = .ok (.invokevirtual 53, 3) := by decide +kernel
theorem dX6_gain_13 : decode cX6_gain 13 = .ok (.lload_n 1, 1) := by decide +kernel
theorem dX6_gain_14 : decode cX6_gain 14 = .ok (.ldc2_w 43, 3) := by decide +kernel
theorem dX6_gain_17 : decode cX6_gain 17 = .ok (.lxor, 1) := by decide +kernel
theorem dX6_gain_18 : decode cX6_gain 18 = .ok (.land, 1) := by decide +kernel
theorem dX6_gain_19 : decode cX6_gain 19 = .ok (.invokestatic 60, 3) := by decide +kernel
theorem dX6_gain_22 : decode cX6_gain 22 = .ok (.ireturn, 1) := by decide +kernel
set_option maxRecDepth 20000 in
theorem ggX6_isSteady_X6_gain : GoodIn wsX6_isSteady wsX6_gain := goodIn_r _ [7, 8, 9, 10, 11, 2, 12, 13, 14, 6, 15, 16, 1, 17, 18, 19, 20, 21, 22, 23, 24, 25, 26, 27, 28, 29, 30, 31, 32, 33, 34, 35, 36, 37, 38, 39, 40, 41, 42, 43, 44, 45, 46, 47, 56, 57, 58, 59, 60, 61, 62, 63, 64, 65, 66, 67, 68] (by decide +kernel) (by decide +kernel)
set_option maxRecDepth 20000 in
theorem gX6_isSteady_X6_gain : GoodIn wsX6_isSteady (wsV RX6 85 RX6 yX6_gain wsX6_gain) := goodIn_app (goodIn_of _ (by decide +kernel)) ggX6_isSteady_X6_gain
set_option maxRecDepth 20000 in
theorem ggX6_isSteady_J13_bitCount_95d88 : GoodIn wsX6_isSteady wsJ13_bitCount_95d88 := goodIn_r _ [44, 45, 46, 47] (by decide +kernel) (by decide +kernel)
set_option maxRecDepth 20000 in
theorem gX6_isSteady_J13_bitCount_95d88 : GoodIn wsX6_isSteady (va_wsS RX6 60 yJ13_bitCount_95d88 wsJ13_bitCount_95d88) := goodIn_app (goodIn_of _ (by decide +kernel)) ggX6_isSteady_J13_bitCount_95d88
set_option maxRecDepth 20000 in
theorem ggX6_isSteady_X6_parentLevel : GoodIn wsX6_isSteady wsX6_parentLevel := goodIn_r _ [51, 12, 13, 14, 6, 15, 16, 1, 17, 18, 19, 20, 21, 22, 23, 24, 25, 26, 27, 28, 29, 30, 31, 32, 33, 34, 35, 36, 37, 38, 39, 40, 56, 57, 58, 59, 60, 61, 62, 63, 64, 65, 66, 67, 68] (by decide +kernel) (by decide +kernel)
set_option maxRecDepth 20000 in
theorem gX6_isSteady_X6_parentLevel : GoodIn wsX6_isSteady (wsV RX6 66 RX6 yX6_parentLevel wsX6_parentLevel) := goodIn_app (goodIn_of _ (by decide +kernel)) ggX6_isSteady_X6_parentLevel
set_option maxRecDepth 20000 in
theorem ggX6_isSteady_X6_partAt : GoodIn wsX6_isSteady wsX6_partAt := goodIn_r _ [15, 16, 1, 17, 18, 19, 20, 21, 22, 23, 24, 25, 26, 27, 28, 29, 30, 31, 32, 33, 34, 35, 36, 37, 38, 39, 40, 56, 57, 58, 59, 60, 61, 62, 63, 64, 65, 66, 67, 68] (by decide +kernel) (by decide +kernel)
set_option maxRecDepth 20000 in
theorem gX6_isSteady_X6_partAt : GoodIn wsX6_isSteady (wsV RX6 53 RX6 yX6_partAt wsX6_partAt) := goodIn_app (goodIn_of _ (by decide +kernel)) ggX6_isSteady_X6_partAt
set_option maxRecDepth 20000 in
theorem ggX6_isSteady_X2_atLeast : GoodIn wsX6_isSteady wsX2_atLeast := goodIn_r _ [21, 22, 61, 62] (by decide +kernel) (by decide +kernel)
set_option maxRecDepth 20000 in
theorem gX6_isSteady_X2_atLeast : GoodIn wsX6_isSteady (wsV RX6 27 RX2 yX2_atLeast wsX2_atLeast) := goodIn_app (goodIn_of _ (by decide +kernel)) ggX6_isSteady_X2_atLeast
set_option maxRecDepth 20000 in
theorem ggX6_isSteady_X6_darkest : GoodIn wsX6_isSteady wsX6_darkest := goodIn_r _ [55, 1, 2, 17, 18, 19, 20, 21, 22, 56, 57, 58, 59, 60, 61, 62] (by decide +kernel) (by decide +kernel)
set_option maxRecDepth 20000 in
theorem gX6_isSteady_X6_darkest : GoodIn wsX6_isSteady (wsV RX6 89 RX6 yX6_darkest wsX6_darkest) := goodIn_app (goodIn_of _ (by decide +kernel)) ggX6_isSteady_X6_darkest
theorem dX6_isSteady_0 : decode cX6_isSteady 0 = .ok (.aload_n 0, 1) := by decide +kernel
theorem dX6_isSteady_1 : decode cX6_isSteady 1 = .ok (.lload_n 1, 1) := by decide +kernel
theorem dX6_isSteady_2 : decode cX6_isSteady 2 = .ok (.iload_n 3, 1) := by decide +kernel
theorem dX6_isSteady_3 : decode cX6_isSteady 3 = .ok (.iload 4, 2) := by decide +kernel
theorem dX6_isSteady_5 : decode cX6_isSteady 5 = .ok (.invokevirtual 85, 3) := by decide +kernel
theorem dX6_isSteady_8 : decode cX6_isSteady 8 = .ok (.istore 5, 2) := by decide +kernel
theorem dX6_isSteady_10 : decode cX6_isSteady 10 = .ok (.lload_n 1, 1) := by decide +kernel
theorem dX6_isSteady_11 : decode cX6_isSteady 11 = .ok (.invokestatic 60, 3) := by decide +kernel
theorem dX6_isSteady_14 : decode cX6_isSteady 14 = .ok (.istore 6, 2) := by decide +kernel
theorem dX6_isSteady_16 : decode cX6_isSteady 16 = .ok (.aload_n 0, 1) := by decide +kernel
theorem dX6_isSteady_17 : decode cX6_isSteady 17 = .ok (.lload_n 1, 1) := by decide +kernel
theorem dX6_isSteady_18 : decode cX6_isSteady 18 = .ok (.iload_n 3, 1) := by decide +kernel
theorem dX6_isSteady_19 : decode cX6_isSteady 19 = .ok (.invokevirtual 66, 3) := by decide +kernel
theorem dX6_isSteady_22 : decode cX6_isSteady 22 = .ok (.istore 7, 2) := by decide +kernel
theorem dX6_isSteady_24 : decode cX6_isSteady 24 = .ok (.iload 7, 2) := by decide +kernel
theorem dX6_isSteady_26 : decode cX6_isSteady 26 = .ok (.bipush (-9), 2) := by decide +kernel
theorem dX6_isSteady_28 : decode cX6_isSteady 28 = .ok (.if_icmp .eq 38, 3) := by decide +kernel
theorem dX6_isSteady_31 : decode cX6_isSteady 31 = .ok (.aload_n 0, 1) := by decide +kernel
theorem dX6_isSteady_32 : decode cX6_isSteady 32 = .ok (.iload 7, 2) := by decide +kernel
theorem dX6_isSteady_34 : decode cX6_isSteady 34 = .ok (.lload_n 1, 1) := by decide +kernel
theorem dX6_isSteady_35 : decode cX6_isSteady 35 = .ok (.invokevirtual 53, 3) := by decide +kernel
theorem dX6_isSteady_38 : decode cX6_isSteady 38 = .ok (.lstore 8, 2) := by decide +kernel
theorem dX6_isSteady_40 : decode cX6_isSteady 40 = .ok (.iload 5, 2) := by decide +kernel
theorem dX6_isSteady_42 : decode cX6_isSteady 42 = .ok (.lload 8, 2) := by decide +kernel
theorem dX6_isSteady_44 : decode cX6_isSteady 44 = .ok (.invokestatic 60, 3) := by decide +kernel
theorem dX6_isSteady_47 : decode cX6_isSteady 47 = .ok (.imul, 1) := by decide +kernel
theorem dX6_isSteady_48 : decode cX6_isSteady 48 = .ok (.aload_n 0, 1) := by decide +kernel
theorem dX6_isSteady_49 : decode cX6_isSteady 49 = .ok (.lload 8, 2) := by decide +kernel
theorem dX6_isSteady_51 : decode cX6_isSteady 51 = .ok (.iload 7, 2) := by decide +kernel
theorem dX6_isSteady_53 : decode cX6_isSteady 53 = .ok (.iload 4, 2) := by decide +kernel
theorem dX6_isSteady_55 : decode cX6_isSteady 55 = .ok (.invokevirtual 85, 3) := by decide +kernel
theorem dX6_isSteady_58 : decode cX6_isSteady 58 = .ok (.iload 6, 2) := by decide +kernel
theorem dX6_isSteady_60 : decode cX6_isSteady 60 = .ok (.imul, 1) := by decide +kernel
theorem dX6_isSteady_61 : decode cX6_isSteady 61 = .ok (.if_icmp .le 5, 3) := by decide +kernel
theorem dX6_isSteady_64 : decode cX6_isSteady 64 = .ok (.iconst 0, 1) := by decide +kernel
theorem dX6_isSteady_65 : decode cX6_isSteady 65 = .ok (.ireturn, 1) := by decide +kernel
theorem dX6_isSteady_66 : decode cX6_isSteady 66 = .ok (.lload_n 1, 1) := by decide +kernel
theorem dX6_isSteady_67 : decode cX6_isSteady 67 = .ok (.aload_n 0, 1) := by decide +kernel
theorem dX6_isSteady_68 : decode cX6_isSteady 68 = .ok (.getfield 23, 3) := by decide +kernel
theorem dX6_isSteady_71 : decode cX6_isSteady 71 = .ok (.iload_n 3, 1) := by decide +kernel
theorem dX6_isSteady_72 : decode cX6_isSteady 72 = .ok (.iconst 1, 1) := by decide +kernel
theorem dX6_isSteady_73 : decode cX6_isSteady 73 = .ok (.iadd, 1) := by decide +kernel
theorem dX6_isSteady_74 : decode cX6_isSteady 74 = .ok (.invokevirtual 27, 3) := by decide +kernel
theorem dX6_isSteady_77 : decode cX6_isSteady 77 = .ok (.land, 1) := by decide +kernel
theorem dX6_isSteady_78 : decode cX6_isSteady 78 = .ok (.lstore 8, 2) := by decide +kernel
theorem dX6_isSteady_80 : decode cX6_isSteady 80 = .ok (.iconst 0, 1) := by decide +kernel
theorem dX6_isSteady_81 : decode cX6_isSteady 81 = .ok (.istore 10, 2) := by decide +kernel
theorem dX6_isSteady_83 : decode cX6_isSteady 83 = .ok (.iload 10, 2) := by decide +kernel
theorem dX6_isSteady_85 : decode cX6_isSteady 85 = .ok (.bipush 36, 2) := by decide +kernel
theorem dX6_isSteady_87 : decode cX6_isSteady 87 = .ok (.if_icmp .ge 72, 3) := by decide +kernel
theorem dX6_isSteady_90 : decode cX6_isSteady 90 = .ok (.lload 8, 2) := by decide +kernel
theorem dX6_isSteady_92 : decode cX6_isSteady 92 = .ok (.lconst 0, 1) := by decide +kernel
theorem dX6_isSteady_93 : decode cX6_isSteady 93 = .ok (.lcmp, 1) := by decide +kernel
theorem dX6_isSteady_94 : decode cX6_isSteady 94 = .ok (.ifCond .eq 65, 3) := by decide +kernel
theorem dX6_isSteady_97 : decode cX6_isSteady 97 = .ok (.aload_n 0, 1) := by decide +kernel
theorem dX6_isSteady_98 : decode cX6_isSteady 98 = .ok (.iload_n 3, 1) := by decide +kernel
theorem dX6_isSteady_99 : decode cX6_isSteady 99 = .ok (.iconst 1, 1) := by decide +kernel
theorem dX6_isSteady_100 : decode cX6_isSteady 100 = .ok (.iadd, 1) := by decide +kernel
theorem dX6_isSteady_101 : decode cX6_isSteady 101 = .ok (.lload 8, 2) := by decide +kernel
theorem dX6_isSteady_103 : decode cX6_isSteady 103 = .ok (.lload 8, 2) := by decide +kernel
theorem dX6_isSteady_105 : decode cX6_isSteady 105 = .ok (.lneg, 1) := by decide +kernel
theorem dX6_isSteady_106 : decode cX6_isSteady 106 = .ok (.land, 1) := by decide +kernel
theorem dX6_isSteady_107 : decode cX6_isSteady 107 = .ok (.invokevirtual 53, 3) := by decide +kernel
theorem dX6_isSteady_110 : decode cX6_isSteady 110 = .ok (.lstore 11, 2) := by decide +kernel
theorem dX6_isSteady_112 : decode cX6_isSteady 112 = .ok (.iload 5, 2) := by decide +kernel
theorem dX6_isSteady_114 : decode cX6_isSteady 114 = .ok (.lload 11, 2) := by decide +kernel
theorem dX6_isSteady_116 : decode cX6_isSteady 116 = .ok (.invokestatic 60, 3) := by decide +kernel
theorem dX6_isSteady_119 : decode cX6_isSteady 119 = .ok (.imul, 1) := by decide +kernel
theorem dX6_isSteady_120 : decode cX6_isSteady 120 = .ok (.aload_n 0, 1) := by decide +kernel
theorem dX6_isSteady_121 : decode cX6_isSteady 121 = .ok (.lload 11, 2) := by decide +kernel
theorem dX6_isSteady_123 : decode cX6_isSteady 123 = .ok (.aload_n 0, 1) := by decide +kernel
theorem dX6_isSteady_124 : decode cX6_isSteady 124 = .ok (.lload 11, 2) := by decide +kernel
theorem dX6_isSteady_126 : decode cX6_isSteady 126 = .ok (.invokevirtual 89, 3) := by decide +kernel
theorem dX6_isSteady_129 : decode cX6_isSteady 129 = .ok (.iload 4, 2) := by decide +kernel
theorem dX6_isSteady_131 : decode cX6_isSteady 131 = .ok (.invokevirtual 85, 3) := by decide +kernel
theorem dX6_isSteady_134 : decode cX6_isSteady 134 = .ok (.iload 6, 2) := by decide +kernel
theorem dX6_isSteady_136 : decode cX6_isSteady 136 = .ok (.imul, 1) := by decide +kernel
theorem dX6_isSteady_137 : decode cX6_isSteady 137 = .ok (.if_icmp .le 5, 3) := by decide +kernel
theorem dX6_isSteady_140 : decode cX6_isSteady 140 = .ok (.iconst 0, 1) := by decide +kernel
theorem dX6_isSteady_141 : decode cX6_isSteady 141 = .ok (.ireturn, 1) := by decide +kernel
theorem dX6_isSteady_142 : decode cX6_isSteady 142 = .ok (.lload 8, 2) := by decide +kernel
theorem dX6_isSteady_144 : decode cX6_isSteady 144 = .ok (.lload 11, 2) := by decide +kernel
theorem dX6_isSteady_146 : decode cX6_isSteady 146 = .ok (.ldc2_w 43, 3) := by decide +kernel
theorem dX6_isSteady_149 : decode cX6_isSteady 149 = .ok (.lxor, 1) := by decide +kernel
theorem dX6_isSteady_150 : decode cX6_isSteady 150 = .ok (.land, 1) := by decide +kernel
theorem dX6_isSteady_151 : decode cX6_isSteady 151 = .ok (.lstore 8, 2) := by decide +kernel
theorem dX6_isSteady_153 : decode cX6_isSteady 153 = .ok (.iinc 10 1, 3) := by decide +kernel
theorem dX6_isSteady_156 : decode cX6_isSteady 156 = .ok (.goto (-73), 3) := by decide +kernel
theorem dX6_isSteady_159 : decode cX6_isSteady 159 = .ok (.iconst 1, 1) := by decide +kernel
theorem dX6_isSteady_160 : decode cX6_isSteady 160 = .ok (.ireturn, 1) := by decide +kernel
set_option maxRecDepth 20000 in
theorem ggX6_darkest_X2_atLeast : GoodIn wsX6_darkest wsX2_atLeast := goodIn_r _ [7, 8, 14, 15] (by decide +kernel) (by decide +kernel)
set_option maxRecDepth 20000 in
theorem gX6_darkest_X2_atLeast : GoodIn wsX6_darkest (wsV RX6 27 RX2 yX2_atLeast wsX2_atLeast) := goodIn_app (goodIn_of _ (by decide +kernel)) ggX6_darkest_X2_atLeast
theorem dX6_darkest_0 : decode cX6_darkest 0 = .ok (.bipush 9, 2) := by decide +kernel
theorem dX6_darkest_2 : decode cX6_darkest 2 = .ok (.istore_n 3, 1) := by decide +kernel
theorem dX6_darkest_3 : decode cX6_darkest 3 = .ok (.iload_n 3, 1) := by decide +kernel
theorem dX6_darkest_4 : decode cX6_darkest 4 = .ok (.ifCond .le 30, 3) := by decide +kernel
theorem dX6_darkest_7 : decode cX6_darkest 7 = .ok (.lload_n 1, 1) := by decide +kernel
theorem dX6_darkest_8 : decode cX6_darkest 8 = .ok (.aload_n 0, 1) := by decide +kernel
theorem dX6_darkest_9 : decode cX6_darkest 9 = .ok (.getfield 23, 3) := by decide +kernel
theorem dX6_darkest_12 : decode cX6_darkest 12 = .ok (.iload_n 3, 1) := by decide +kernel
theorem dX6_darkest_13 : decode cX6_darkest 13 = .ok (.invokevirtual 27, 3) := by decide +kernel
theorem dX6_darkest_16 : decode cX6_darkest 16 = .ok (.ldc2_w 43, 3) := by decide +kernel
theorem dX6_darkest_19 : decode cX6_darkest 19 = .ok (.lxor, 1) := by decide +kernel
theorem dX6_darkest_20 : decode cX6_darkest 20 = .ok (.land, 1) := by decide +kernel
theorem dX6_darkest_21 : decode cX6_darkest 21 = .ok (.lconst 0, 1) := by decide +kernel
theorem dX6_darkest_22 : decode cX6_darkest 22 = .ok (.lcmp, 1) := by decide +kernel
theorem dX6_darkest_23 : decode cX6_darkest 23 = .ok (.ifCond .ne 5, 3) := by decide +kernel
theorem dX6_darkest_26 : decode cX6_darkest 26 = .ok (.iload_n 3, 1) := by decide +kernel
theorem dX6_darkest_27 : decode cX6_darkest 27 = .ok (.ireturn, 1) := by decide +kernel
theorem dX6_darkest_28 : decode cX6_darkest 28 = .ok (.iinc 3 (-1), 3) := by decide +kernel
theorem dX6_darkest_31 : decode cX6_darkest 31 = .ok (.goto (-28), 3) := by decide +kernel
theorem dX6_darkest_34 : decode cX6_darkest 34 = .ok (.iconst 0, 1) := by decide +kernel
theorem dX6_darkest_35 : decode cX6_darkest 35 = .ok (.ireturn, 1) := by decide +kernel
set_option maxRecDepth 20000 in
theorem ggX6_countNodes_X6_gather : GoodIn wsX6_countNodes wsX6_gather := goodIn_r _ [6, 1, 7, 8, 9, 10, 11, 12, 5, 13, 14, 15, 16, 17, 18, 19, 20, 21, 22, 23, 24, 25, 26, 27, 28, 29, 30, 31, 32, 33, 34, 35, 36, 37, 38, 39, 40, 41, 42, 43, 44, 45, 46, 47, 48, 49, 50, 51, 52, 53, 54, 55, 56] (by decide +kernel) (by decide +kernel)
set_option maxRecDepth 20000 in
theorem gX6_countNodes_X6_gather : GoodIn wsX6_countNodes (wsV RX6 92 RX6 yX6_gather wsX6_gather) := goodIn_app (goodIn_of _ (by decide +kernel)) ggX6_countNodes_X6_gather
theorem dX6_countNodes_0 : decode cX6_countNodes 0 = .ok (.aload_n 0, 1) := by decide +kernel
theorem dX6_countNodes_1 : decode cX6_countNodes 1 = .ok (.invokevirtual 92, 3) := by decide +kernel
theorem dX6_countNodes_4 : decode cX6_countNodes 4 = .ok (.aload_n 0, 1) := by decide +kernel
theorem dX6_countNodes_5 : decode cX6_countNodes 5 = .ok (.getfield 95, 3) := by decide +kernel
theorem dX6_countNodes_8 : decode cX6_countNodes 8 = .ok (.ireturn, 1) := by decide +kernel
set_option maxRecDepth 20000 in
theorem ggX6_countLeaves_X6_gather : GoodIn wsX6_countLeaves wsX6_gather := goodIn_r _ [9, 1, 2, 4, 10, 11, 12, 13, 8, 14, 3, 15, 16, 17, 18, 19, 20, 21, 22, 23, 24, 25, 26, 27, 28, 29, 30, 31, 32, 33, 34, 35, 36, 37, 38, 39, 40, 41, 42, 43, 44, 45, 46, 47, 48, 49, 50, 51, 52, 53, 54, 55, 56] (by decide +kernel) (by decide +kernel)
set_option maxRecDepth 20000 in
theorem gX6_countLeaves_X6_gather : GoodIn wsX6_countLeaves (wsV RX6 92 RX6 yX6_gather wsX6_gather) := goodIn_app (goodIn_of _ (by decide +kernel)) ggX6_countLeaves_X6_gather
set_option maxRecDepth 20000 in
theorem ggX6_countLeaves_X2_atLeast : GoodIn wsX6_countLeaves wsX2_atLeast := goodIn_r _ [19, 20, 49, 50] (by decide +kernel) (by decide +kernel)
set_option maxRecDepth 20000 in
theorem gX6_countLeaves_X2_atLeast : GoodIn wsX6_countLeaves (wsV RX6 27 RX2 yX2_atLeast wsX2_atLeast) := goodIn_app (goodIn_of _ (by decide +kernel)) ggX6_countLeaves_X2_atLeast
theorem dX6_countLeaves_0 : decode cX6_countLeaves 0 = .ok (.aload_n 0, 1) := by decide +kernel
theorem dX6_countLeaves_1 : decode cX6_countLeaves 1 = .ok (.invokevirtual 92, 3) := by decide +kernel
theorem dX6_countLeaves_4 : decode cX6_countLeaves 4 = .ok (.iconst 0, 1) := by decide +kernel
theorem dX6_countLeaves_5 : decode cX6_countLeaves 5 = .ok (.istore_n 1, 1) := by decide +kernel
theorem dX6_countLeaves_6 : decode cX6_countLeaves 6 = .ok (.iconst 0, 1) := by decide +kernel
theorem dX6_countLeaves_7 : decode cX6_countLeaves 7 = .ok (.istore_n 2, 1) := by decide +kernel
theorem dX6_countLeaves_8 : decode cX6_countLeaves 8 = .ok (.iload_n 2, 1) := by decide +kernel
theorem dX6_countLeaves_9 : decode cX6_countLeaves 9 = .ok (.aload_n 0, 1) := by decide +kernel
theorem dX6_countLeaves_10 : decode cX6_countLeaves 10 = .ok (.getfield 95, 3) := by decide +kernel
theorem dX6_countLeaves_13 : decode cX6_countLeaves 13 = .ok (.if_icmp .ge 45, 3) := by decide +kernel
theorem dX6_countLeaves_16 : decode cX6_countLeaves 16 = .ok (.iload_n 2, 1) := by decide +kernel
theorem dX6_countLeaves_17 : decode cX6_countLeaves 17 = .ok (.bipush 36, 2) := by decide +kernel
theorem dX6_countLeaves_19 : decode cX6_countLeaves 19 = .ok (.if_icmp .ge 39, 3) := by decide +kernel
theorem dX6_countLeaves_22 : decode cX6_countLeaves 22 = .ok (.aload_n 0, 1) := by decide +kernel
theorem dX6_countLeaves_23 : decode cX6_countLeaves 23 = .ok (.getfield 9, 3) := by decide +kernel
theorem dX6_countLeaves_26 : decode cX6_countLeaves 26 = .ok (.iload_n 2, 1) := by decide +kernel
theorem dX6_countLeaves_27 : decode cX6_countLeaves 27 = .ok (.laload, 1) := by decide +kernel
theorem dX6_countLeaves_28 : decode cX6_countLeaves 28 = .ok (.aload_n 0, 1) := by decide +kernel
theorem dX6_countLeaves_29 : decode cX6_countLeaves 29 = .ok (.getfield 23, 3) := by decide +kernel
theorem dX6_countLeaves_32 : decode cX6_countLeaves 32 = .ok (.aload_n 0, 1) := by decide +kernel
theorem dX6_countLeaves_33 : decode cX6_countLeaves 33 = .ok (.getfield 15, 3) := by decide +kernel
theorem dX6_countLeaves_36 : decode cX6_countLeaves 36 = .ok (.iload_n 2, 1) := by decide +kernel
theorem dX6_countLeaves_37 : decode cX6_countLeaves 37 = .ok (.iaload, 1) := by decide +kernel
theorem dX6_countLeaves_38 : decode cX6_countLeaves 38 = .ok (.iconst 1, 1) := by decide +kernel
theorem dX6_countLeaves_39 : decode cX6_countLeaves 39 = .ok (.iadd, 1) := by decide +kernel
theorem dX6_countLeaves_40 : decode cX6_countLeaves 40 = .ok (.invokevirtual 27, 3) := by decide +kernel
theorem dX6_countLeaves_43 : decode cX6_countLeaves 43 = .ok (.land, 1) := by decide +kernel
theorem dX6_countLeaves_44 : decode cX6_countLeaves 44 = .ok (.lconst 0, 1) := by decide +kernel
theorem dX6_countLeaves_45 : decode cX6_countLeaves 45 = .ok (.lcmp, 1) := by decide +kernel
theorem dX6_countLeaves_46 : decode cX6_countLeaves 46 = .ok (.ifCond .ne 6, 3) := by decide +kernel
theorem dX6_countLeaves_49 : decode cX6_countLeaves 49 = .ok (.iinc 1 1, 3) := by decide +kernel
theorem dX6_countLeaves_52 : decode cX6_countLeaves 52 = .ok (.iinc 2 1, 3) := by decide +kernel
theorem dX6_countLeaves_55 : decode cX6_countLeaves 55 = .ok (.goto (-47), 3) := by decide +kernel
theorem dX6_countLeaves_58 : decode cX6_countLeaves 58 = .ok (.iload_n 1, 1) := by decide +kernel
theorem dX6_countLeaves_59 : decode cX6_countLeaves 59 = .ok (.ireturn, 1) := by decide +kernel
set_option maxRecDepth 20000 in
theorem ggX6_greatestDepth_X6_gather : GoodIn wsX6_greatestDepth wsX6_gather := goodIn_r _ [12, 1, 2, 3, 13, 14, 15, 16, 11, 17, 18, 19, 20, 21, 22, 23, 24, 25, 26, 27, 28, 29, 30, 31, 32, 33, 34, 35, 36, 37, 38, 39, 40, 41, 42, 43, 44, 45, 46, 47, 52, 53, 54, 55, 56, 57, 58, 59, 60, 61, 62, 63, 64] (by decide +kernel) (by decide +kernel)
set_option maxRecDepth 20000 in
theorem gX6_greatestDepth_X6_gather : GoodIn wsX6_greatestDepth (wsV RX6 92 RX6 yX6_gather wsX6_gather) := goodIn_app (goodIn_of _ (by decide +kernel)) ggX6_greatestDepth_X6_gather
set_option maxRecDepth 20000 in
theorem ggX6_greatestDepth_X6_depth : GoodIn wsX6_greatestDepth wsX6_depth := goodIn_r _ [51, 25, 26, 27, 11, 28, 29, 18, 19, 20, 21, 22, 23, 24, 30, 31, 32, 33, 34, 35, 36, 37, 38, 39, 40, 41, 42, 43, 44, 45, 46, 47, 52, 53, 54, 55, 56, 57, 58, 59, 60, 61, 62, 63, 64] (by decide +kernel) (by decide +kernel)
set_option maxRecDepth 20000 in
theorem gX6_greatestDepth_X6_depth : GoodIn wsX6_greatestDepth (wsV RX6 99 RX6 yX6_depth wsX6_depth) := goodIn_app (goodIn_of _ (by decide +kernel)) ggX6_greatestDepth_X6_depth
theorem dX6_greatestDepth_0 : decode cX6_greatestDepth 0 = .ok (.aload_n 0, 1) := by decide +kernel
theorem dX6_greatestDepth_1 : decode cX6_greatestDepth 1 = .ok (.invokevirtual 92, 3) := by decide +kernel
theorem dX6_greatestDepth_4 : decode cX6_greatestDepth 4 = .ok (.iconst 0, 1) := by decide +kernel
theorem dX6_greatestDepth_5 : decode cX6_greatestDepth 5 = .ok (.istore_n 1, 1) := by decide +kernel
theorem dX6_greatestDepth_6 : decode cX6_greatestDepth 6 = .ok (.iconst 0, 1) := by decide +kernel
theorem dX6_greatestDepth_7 : decode cX6_greatestDepth 7 = .ok (.istore_n 2, 1) := by decide +kernel
theorem dX6_greatestDepth_8 : decode cX6_greatestDepth 8 = .ok (.iload_n 2, 1) := by decide +kernel
theorem dX6_greatestDepth_9 : decode cX6_greatestDepth 9 = .ok (.aload_n 0, 1) := by decide +kernel
theorem dX6_greatestDepth_10 : decode cX6_greatestDepth 10 = .ok (.getfield 95, 3) := by decide +kernel
theorem dX6_greatestDepth_13 : decode cX6_greatestDepth 13 = .ok (.if_icmp .ge 36, 3) := by decide +kernel
theorem dX6_greatestDepth_16 : decode cX6_greatestDepth 16 = .ok (.iload_n 2, 1) := by decide +kernel
theorem dX6_greatestDepth_17 : decode cX6_greatestDepth 17 = .ok (.bipush 36, 2) := by decide +kernel
theorem dX6_greatestDepth_19 : decode cX6_greatestDepth 19 = .ok (.if_icmp .ge 30, 3) := by decide +kernel
theorem dX6_greatestDepth_22 : decode cX6_greatestDepth 22 = .ok (.iload_n 1, 1) := by decide +kernel
theorem dX6_greatestDepth_23 : decode cX6_greatestDepth 23 = .ok (.aload_n 0, 1) := by decide +kernel
theorem dX6_greatestDepth_24 : decode cX6_greatestDepth 24 = .ok (.aload_n 0, 1) := by decide +kernel
theorem dX6_greatestDepth_25 : decode cX6_greatestDepth 25 = .ok (.getfield 9, 3) := by decide +kernel
theorem dX6_greatestDepth_28 : decode cX6_greatestDepth 28 = .ok (.iload_n 2, 1) := by decide +kernel
theorem dX6_greatestDepth_29 : decode cX6_greatestDepth 29 = .ok (.laload, 1) := by decide +kernel
theorem dX6_greatestDepth_30 : decode cX6_greatestDepth 30 = .ok (.aload_n 0, 1) := by decide +kernel
theorem dX6_greatestDepth_31 : decode cX6_greatestDepth 31 = .ok (.getfield 15, 3) := by decide +kernel
theorem dX6_greatestDepth_34 : decode cX6_greatestDepth 34 = .ok (.iload_n 2, 1) := by decide +kernel
theorem dX6_greatestDepth_35 : decode cX6_greatestDepth 35 = .ok (.iaload, 1) := by decide +kernel
theorem dX6_greatestDepth_36 : decode cX6_greatestDepth 36 = .ok (.invokevirtual 99, 3) := by decide +kernel
theorem dX6_greatestDepth_39 : decode cX6_greatestDepth 39 = .ok (.invokestatic 79, 3) := by decide +kernel
theorem dX6_greatestDepth_42 : decode cX6_greatestDepth 42 = .ok (.istore_n 1, 1) := by decide +kernel
theorem dX6_greatestDepth_43 : decode cX6_greatestDepth 43 = .ok (.iinc 2 1, 3) := by decide +kernel
theorem dX6_greatestDepth_46 : decode cX6_greatestDepth 46 = .ok (.goto (-38), 3) := by decide +kernel
theorem dX6_greatestDepth_49 : decode cX6_greatestDepth 49 = .ok (.iload_n 1, 1) := by decide +kernel
theorem dX6_greatestDepth_50 : decode cX6_greatestDepth 50 = .ok (.ireturn, 1) := by decide +kernel
set_option maxRecDepth 20000 in
theorem ggX6_gather_X6_ofLevel : GoodIn wsX6_gather wsX6_ofLevel := goodIn_r _ [9, 10, 4, 11, 12, 13, 14, 15, 16, 40, 41, 42, 43, 44, 45, 46] (by decide +kernel) (by decide +kernel)
set_option maxRecDepth 20000 in
theorem gX6_gather_X6_ofLevel : GoodIn wsX6_gather (wsV RX6 57 RX6 yX6_ofLevel wsX6_ofLevel) := goodIn_app (goodIn_of _ (by decide +kernel)) ggX6_gather_X6_ofLevel
set_option maxRecDepth 20000 in
theorem ggX6_gather_X6_partAt : GoodIn wsX6_gather wsX6_partAt := goodIn_r _ [20, 21, 10, 11, 12, 13, 14, 15, 16, 22, 23, 24, 25, 26, 27, 28, 29, 30, 31, 32, 33, 34, 35, 36, 37, 38, 39, 40, 41, 42, 43, 44, 45, 46, 47, 48, 49, 50, 51, 52] (by decide +kernel) (by decide +kernel)
set_option maxRecDepth 20000 in
theorem gX6_gather_X6_partAt : GoodIn wsX6_gather (wsV RX6 53 RX6 yX6_partAt wsX6_partAt) := goodIn_app (goodIn_of _ (by decide +kernel)) ggX6_gather_X6_partAt
theorem dX6_gather_0 : decode cX6_gather 0 = .ok (.aload_n 0, 1) := by decide +kernel
theorem dX6_gather_1 : decode cX6_gather 1 = .ok (.iconst 0, 1) := by decide +kernel
theorem dX6_gather_2 : decode cX6_gather 2 = .ok (.putfield 95, 3) := by decide +kernel
theorem dX6_gather_5 : decode cX6_gather 5 = .ok (.bipush 9, 2) := by decide +kernel
theorem dX6_gather_7 : decode cX6_gather 7 = .ok (.istore_n 1, 1) := by decide +kernel
theorem dX6_gather_8 : decode cX6_gather 8 = .ok (.iload_n 1, 1) := by decide +kernel
theorem dX6_gather_9 : decode cX6_gather 9 = .ok (.ifCond .lt 91, 3) := by decide +kernel
theorem dX6_gather_12 : decode cX6_gather 12 = .ok (.aload_n 0, 1) := by decide +kernel
theorem dX6_gather_13 : decode cX6_gather 13 = .ok (.iload_n 1, 1) := by decide +kernel
theorem dX6_gather_14 : decode cX6_gather 14 = .ok (.invokevirtual 57, 3) := by decide +kernel
theorem dX6_gather_17 : decode cX6_gather 17 = .ok (.lstore_n 2, 1) := by decide +kernel
theorem dX6_gather_18 : decode cX6_gather 18 = .ok (.lload_n 2, 1) := by decide +kernel
theorem dX6_gather_19 : decode cX6_gather 19 = .ok (.lconst 0, 1) := by decide +kernel
theorem dX6_gather_20 : decode cX6_gather 20 = .ok (.lcmp, 1) := by decide +kernel
theorem dX6_gather_21 : decode cX6_gather 21 = .ok (.ifCond .eq 73, 3) := by decide +kernel
theorem dX6_gather_24 : decode cX6_gather 24 = .ok (.aload_n 0, 1) := by decide +kernel
theorem dX6_gather_25 : decode cX6_gather 25 = .ok (.getfield 95, 3) := by decide +kernel
theorem dX6_gather_28 : decode cX6_gather 28 = .ok (.ifCond .lt 66, 3) := by decide +kernel
theorem dX6_gather_31 : decode cX6_gather 31 = .ok (.aload_n 0, 1) := by decide +kernel
theorem dX6_gather_32 : decode cX6_gather 32 = .ok (.getfield 95, 3) := by decide +kernel
theorem dX6_gather_35 : decode cX6_gather 35 = .ok (.bipush 36, 2) := by decide +kernel
theorem dX6_gather_37 : decode cX6_gather 37 = .ok (.if_icmp .ge 57, 3) := by decide +kernel
theorem dX6_gather_40 : decode cX6_gather 40 = .ok (.aload_n 0, 1) := by decide +kernel
theorem dX6_gather_41 : decode cX6_gather 41 = .ok (.iload_n 1, 1) := by decide +kernel
theorem dX6_gather_42 : decode cX6_gather 42 = .ok (.lload_n 2, 1) := by decide +kernel
theorem dX6_gather_43 : decode cX6_gather 43 = .ok (.lload_n 2, 1) := by decide +kernel
theorem dX6_gather_44 : decode cX6_gather 44 = .ok (.lneg, 1) := by decide +kernel
theorem dX6_gather_45 : decode cX6_gather 45 = .ok (.land, 1) := by decide +kernel
theorem dX6_gather_46 : decode cX6_gather 46 = .ok (.invokevirtual 53, 3) := by decide +kernel
theorem dX6_gather_49 : decode cX6_gather 49 = .ok (.lstore 4, 2) := by decide +kernel
theorem dX6_gather_51 : decode cX6_gather 51 = .ok (.aload_n 0, 1) := by decide +kernel
theorem dX6_gather_52 : decode cX6_gather 52 = .ok (.getfield 9, 3) := by decide +kernel
theorem dX6_gather_55 : decode cX6_gather 55 = .ok (.aload_n 0, 1) := by decide +kernel
theorem dX6_gather_56 : decode cX6_gather 56 = .ok (.getfield 95, 3) := by decide +kernel
theorem dX6_gather_59 : decode cX6_gather 59 = .ok (.lload 4, 2) := by decide +kernel
theorem dX6_gather_61 : decode cX6_gather 61 = .ok (.lastore, 1) := by decide +kernel
theorem dX6_gather_62 : decode cX6_gather 62 = .ok (.aload_n 0, 1) := by decide +kernel
theorem dX6_gather_63 : decode cX6_gather 63 = .ok (.getfield 15, 3) := by decide +kernel
theorem dX6_gather_66 : decode cX6_gather 66 = .ok (.aload_n 0, 1) := by decide +kernel
theorem dX6_gather_67 : decode cX6_gather 67 = .ok (.getfield 95, 3) := by decide +kernel
theorem dX6_gather_70 : decode cX6_gather 70 = .ok (.iload_n 1, 1) := by decide +kernel
theorem dX6_gather_71 : decode cX6_gather 71 = .ok (.iastore, 1) := by decide +kernel
theorem dX6_gather_72 : decode cX6_gather 72 = .ok (.aload_n 0, 1) := by decide +kernel
theorem dX6_gather_73 : decode cX6_gather 73 = .ok (.dup, 1) := by decide +kernel
theorem dX6_gather_74 : decode cX6_gather 74 = .ok (.getfield 95, 3) := by decide +kernel
theorem dX6_gather_77 : decode cX6_gather 77 = .ok (.iconst 1, 1) := by decide +kernel
theorem dX6_gather_78 : decode cX6_gather 78 = .ok (.iadd, 1) := by decide +kernel
theorem dX6_gather_79 : decode cX6_gather 79 = .ok (.putfield 95, 3) := by decide +kernel
theorem dX6_gather_82 : decode cX6_gather 82 = .ok (.lload_n 2, 1) := by decide +kernel
theorem dX6_gather_83 : decode cX6_gather 83 = .ok (.lload 4, 2) := by decide +kernel
theorem dX6_gather_85 : decode cX6_gather 85 = .ok (.ldc2_w 43, 3) := by decide +kernel
theorem dX6_gather_88 : decode cX6_gather 88 = .ok (.lxor, 1) := by decide +kernel
theorem dX6_gather_89 : decode cX6_gather 89 = .ok (.land, 1) := by decide +kernel
theorem dX6_gather_90 : decode cX6_gather 90 = .ok (.lstore_n 2, 1) := by decide +kernel
theorem dX6_gather_91 : decode cX6_gather 91 = .ok (.goto (-73), 3) := by decide +kernel
theorem dX6_gather_94 : decode cX6_gather 94 = .ok (.iinc 1 (-1), 3) := by decide +kernel
theorem dX6_gather_97 : decode cX6_gather 97 = .ok (.goto (-89), 3) := by decide +kernel
theorem dX6_gather_100 : decode cX6_gather 100 = .ok (.return_, 1) := by decide +kernel
set_option maxRecDepth 20000 in
theorem ggX7_init_X5_init : GoodIn wsX7_init wsX5_init := goodIn_r _ [36, 37, 2, 3, 38, 39, 93, 94] (by decide +kernel) (by decide +kernel)
set_option maxRecDepth 20000 in
theorem gX7_init_X5_init_n9 : GoodIn wsX7_init (wsX5_init) := ggX7_init_X5_init
set_option maxRecDepth 20000 in
theorem ggX7_init_X1_init : GoodIn wsX7_init wsX1_init := goodIn_r _ [42, 43, 2, 3, 44, 45, 46, 10, 47, 48, 49, 50, 51, 52, 53, 105, 106, 107, 108, 109, 110] (by decide +kernel) (by decide +kernel)
set_option maxRecDepth 20000 in
theorem gX7_init_X1_init : GoodIn wsX7_init (wsX1_init) := ggX7_init_X1_init
set_option maxRecDepth 20000 in
theorem ggX7_init_X2_init : GoodIn wsX7_init wsX2_init := goodIn_r _ [56, 57, 2, 3, 58, 59, 60, 61, 62, 63, 14, 64, 65, 66, 67, 10, 68, 51, 111, 112, 105, 106, 107, 108, 109, 110] (by decide +kernel) (by decide +kernel)
set_option maxRecDepth 20000 in
theorem gX7_init_X2_init : GoodIn wsX7_init (wsX2_init) := ggX7_init_X2_init
set_option maxRecDepth 20000 in
theorem ggX7_init_X6_init : GoodIn wsX7_init wsX6_init := goodIn_r _ [71, 72, 2, 3, 58, 73, 38, 74, 75, 76, 113, 114, 115, 116, 117] (by decide +kernel) (by decide +kernel)
set_option maxRecDepth 20000 in
theorem gX7_init_X6_init : GoodIn wsX7_init (wsX6_init) := ggX7_init_X6_init
set_option maxRecDepth 20000 in
theorem ggX7_init_X0_init : GoodIn wsX7_init wsX0_init := goodIn_r _ [78, 79, 2, 3, 58, 80, 118, 119] (by decide +kernel) (by decide +kernel)
set_option maxRecDepth 20000 in
theorem gX7_init_X0_init_n49 : GoodIn wsX7_init (wsX0_init) := ggX7_init_X0_init
set_option maxRecDepth 20000 in
theorem ggX7_init_X4_init : GoodIn wsX7_init wsX4_init := goodIn_r _ [82, 83, 2, 3, 58, 84, 85, 86, 120, 121] (by decide +kernel) (by decide +kernel)
set_option maxRecDepth 20000 in
theorem gX7_init_X4_init_n56 : GoodIn wsX7_init (wsX4_init) := ggX7_init_X4_init
set_option maxRecDepth 20000 in
theorem ggX7_init_X3_init : GoodIn wsX7_init wsX3_init := goodIn_r _ [88, 89, 2, 3, 38, 90, 91, 85, 92, 122, 123, 124, 125] (by decide +kernel) (by decide +kernel)
set_option maxRecDepth 20000 in
theorem gX7_init_X3_init_n63 : GoodIn wsX7_init (wsX3_init) := ggX7_init_X3_init
theorem dX7_init_0 : decode cX7_init 0 = .ok (.aload_n 0, 1) := by decide +kernel
theorem dX7_init_1 : decode cX7_init 1 = .ok (.invokespecial 1, 3) := by decide +kernel
theorem dX7_init_4 : decode cX7_init 4 = .ok (.aload_n 0, 1) := by decide +kernel
theorem dX7_init_5 : decode cX7_init 5 = .ok (.new 7, 3) := by decide +kernel
theorem dX7_init_8 : decode cX7_init 8 = .ok (.dup, 1) := by decide +kernel
theorem dX7_init_9 : decode cX7_init 9 = .ok (.invokespecial 9, 3) := by decide +kernel
theorem dX7_init_12 : decode cX7_init 12 = .ok (.putfield 10, 3) := by decide +kernel
theorem dX7_init_15 : decode cX7_init 15 = .ok (.aload_n 0, 1) := by decide +kernel
theorem dX7_init_16 : decode cX7_init 16 = .ok (.new 16, 3) := by decide +kernel
theorem dX7_init_19 : decode cX7_init 19 = .ok (.dup, 1) := by decide +kernel
theorem dX7_init_20 : decode cX7_init 20 = .ok (.invokespecial 18, 3) := by decide +kernel
theorem dX7_init_23 : decode cX7_init 23 = .ok (.putfield 19, 3) := by decide +kernel
theorem dX7_init_26 : decode cX7_init 26 = .ok (.aload_n 0, 1) := by decide +kernel
theorem dX7_init_27 : decode cX7_init 27 = .ok (.new 23, 3) := by decide +kernel
theorem dX7_init_30 : decode cX7_init 30 = .ok (.dup, 1) := by decide +kernel
theorem dX7_init_31 : decode cX7_init 31 = .ok (.aload_n 0, 1) := by decide +kernel
theorem dX7_init_32 : decode cX7_init 32 = .ok (.getfield 19, 3) := by decide +kernel
theorem dX7_init_35 : decode cX7_init 35 = .ok (.invokespecial 25, 3) := by decide +kernel
theorem dX7_init_38 : decode cX7_init 38 = .ok (.putfield 28, 3) := by decide +kernel
theorem dX7_init_41 : decode cX7_init 41 = .ok (.aload_n 0, 1) := by decide +kernel
theorem dX7_init_42 : decode cX7_init 42 = .ok (.new 32, 3) := by decide +kernel
theorem dX7_init_45 : decode cX7_init 45 = .ok (.dup, 1) := by decide +kernel
theorem dX7_init_46 : decode cX7_init 46 = .ok (.aload_n 0, 1) := by decide +kernel
theorem dX7_init_47 : decode cX7_init 47 = .ok (.getfield 19, 3) := by decide +kernel
theorem dX7_init_50 : decode cX7_init 50 = .ok (.aload_n 0, 1) := by decide +kernel
theorem dX7_init_51 : decode cX7_init 51 = .ok (.getfield 28, 3) := by decide +kernel
theorem dX7_init_54 : decode cX7_init 54 = .ok (.invokespecial 34, 3) := by decide +kernel
theorem dX7_init_57 : decode cX7_init 57 = .ok (.putfield 37, 3) := by decide +kernel
theorem dX7_init_60 : decode cX7_init 60 = .ok (.aload_n 0, 1) := by decide +kernel
theorem dX7_init_61 : decode cX7_init 61 = .ok (.new 23, 3) := by decide +kernel
theorem dX7_init_64 : decode cX7_init 64 = .ok (.dup, 1) := by decide +kernel
theorem dX7_init_65 : decode cX7_init 65 = .ok (.aload_n 0, 1) := by decide +kernel
theorem dX7_init_66 : decode cX7_init 66 = .ok (.getfield 19, 3) := by decide +kernel
theorem dX7_init_69 : decode cX7_init 69 = .ok (.invokespecial 25, 3) := by decide +kernel
theorem dX7_init_72 : decode cX7_init 72 = .ok (.putfield 41, 3) := by decide +kernel
theorem dX7_init_75 : decode cX7_init 75 = .ok (.aload_n 0, 1) := by decide +kernel
theorem dX7_init_76 : decode cX7_init 76 = .ok (.new 32, 3) := by decide +kernel
theorem dX7_init_79 : decode cX7_init 79 = .ok (.dup, 1) := by decide +kernel
theorem dX7_init_80 : decode cX7_init 80 = .ok (.aload_n 0, 1) := by decide +kernel
theorem dX7_init_81 : decode cX7_init 81 = .ok (.getfield 19, 3) := by decide +kernel
theorem dX7_init_84 : decode cX7_init 84 = .ok (.aload_n 0, 1) := by decide +kernel
theorem dX7_init_85 : decode cX7_init 85 = .ok (.getfield 41, 3) := by decide +kernel
theorem dX7_init_88 : decode cX7_init 88 = .ok (.invokespecial 34, 3) := by decide +kernel
theorem dX7_init_91 : decode cX7_init 91 = .ok (.putfield 44, 3) := by decide +kernel
theorem dX7_init_94 : decode cX7_init 94 = .ok (.aload_n 0, 1) := by decide +kernel
theorem dX7_init_95 : decode cX7_init 95 = .ok (.new 47, 3) := by decide +kernel
theorem dX7_init_98 : decode cX7_init 98 = .ok (.dup, 1) := by decide +kernel
theorem dX7_init_99 : decode cX7_init 99 = .ok (.invokespecial 49, 3) := by decide +kernel
theorem dX7_init_102 : decode cX7_init 102 = .ok (.putfield 50, 3) := by decide +kernel
theorem dX7_init_105 : decode cX7_init 105 = .ok (.aload_n 0, 1) := by decide +kernel
theorem dX7_init_106 : decode cX7_init 106 = .ok (.new 54, 3) := by decide +kernel
theorem dX7_init_109 : decode cX7_init 109 = .ok (.dup, 1) := by decide +kernel
theorem dX7_init_110 : decode cX7_init 110 = .ok (.invokespecial 56, 3) := by decide +kernel
theorem dX7_init_113 : decode cX7_init 113 = .ok (.putfield 57, 3) := by decide +kernel
theorem dX7_init_116 : decode cX7_init 116 = .ok (.aload_n 0, 1) := by decide +kernel
theorem dX7_init_117 : decode cX7_init 117 = .ok (.new 61, 3) := by decide +kernel
theorem dX7_init_120 : decode cX7_init 120 = .ok (.dup, 1) := by decide +kernel
theorem dX7_init_121 : decode cX7_init 121 = .ok (.invokespecial 63, 3) := by decide +kernel
theorem dX7_init_124 : decode cX7_init 124 = .ok (.putfield 64, 3) := by decide +kernel
theorem dX7_init_127 : decode cX7_init 127 = .ok (.aload_n 0, 1) := by decide +kernel
theorem dX7_init_128 : decode cX7_init 128 = .ok (.lconst 0, 1) := by decide +kernel
theorem dX7_init_129 : decode cX7_init 129 = .ok (.putfield 68, 3) := by decide +kernel
theorem dX7_init_132 : decode cX7_init 132 = .ok (.return_, 1) := by decide +kernel
set_option maxRecDepth 20000 in
theorem ggX7_write_X5_add : GoodIn wsX7_write wsX5_add := goodIn_r _ [6, 7, 8, 23, 24] (by decide +kernel) (by decide +kernel)
set_option maxRecDepth 20000 in
theorem gX7_write_X5_add : GoodIn wsX7_write (wsV RX7 72 RX5 yX5_add wsX5_add) := goodIn_app (goodIn_of _ (by decide +kernel)) ggX7_write_X5_add
set_option maxRecDepth 20000 in
theorem ggX7_write_X5_size : GoodIn wsX7_write wsX5_size := goodIn_r _ [12, 7, 23, 24] (by decide +kernel) (by decide +kernel)
set_option maxRecDepth 20000 in
theorem gX7_write_X5_size : GoodIn wsX7_write (wsV RX7 76 RX5 yX5_size wsX5_size) := goodIn_app (goodIn_of _ (by decide +kernel)) ggX7_write_X5_size
theorem dX7_write_0 : decode cX7_write 0 = .ok (.iload_n 1, 1) := by decide +kernel
theorem dX7_write_1 : decode cX7_write 1 = .ok (.ifCond .lt 10, 3) := by decide +kernel
theorem dX7_write_4 : decode cX7_write 4 = .ok (.iload_n 1, 1) := by decide +kernel
theorem dX7_write_5 : decode cX7_write 5 = .ok (.sipush 255, 3) := by decide +kernel
theorem dX7_write_8 : decode cX7_write 8 = .ok (.if_icmp .le 6, 3) := by decide +kernel
theorem dX7_write_11 : decode cX7_write 11 = .ok (.bipush (-2), 2) := by decide +kernel
theorem dX7_write_13 : decode cX7_write 13 = .ok (.ireturn, 1) := by decide +kernel
theorem dX7_write_14 : decode cX7_write 14 = .ok (.aload_n 0, 1) := by decide +kernel
theorem dX7_write_15 : decode cX7_write 15 = .ok (.getfield 10, 3) := by decide +kernel
theorem dX7_write_18 : decode cX7_write 18 = .ok (.iload_n 1, 1) := by decide +kernel
theorem dX7_write_19 : decode cX7_write 19 = .ok (.invokevirtual 72, 3) := by decide +kernel
theorem dX7_write_22 : decode cX7_write 22 = .ok (.ifCond .eq 13, 3) := by decide +kernel
theorem dX7_write_25 : decode cX7_write 25 = .ok (.aload_n 0, 1) := by decide +kernel
theorem dX7_write_26 : decode cX7_write 26 = .ok (.getfield 10, 3) := by decide +kernel
theorem dX7_write_29 : decode cX7_write 29 = .ok (.invokevirtual 76, 3) := by decide +kernel
theorem dX7_write_32 : decode cX7_write 32 = .ok (.goto 5, 3) := by decide +kernel
theorem dX7_write_35 : decode cX7_write 35 = .ok (.bipush (-4), 2) := by decide +kernel
theorem dX7_write_37 : decode cX7_write 37 = .ok (.ireturn, 1) := by decide +kernel
set_option maxRecDepth 20000 in
theorem ggX7_wipe_X5_size : GoodIn wsX7_wipe wsX5_size := goodIn_r _ [6, 7, 22, 23] (by decide +kernel) (by decide +kernel)
set_option maxRecDepth 20000 in
theorem gX7_wipe_X5_size : GoodIn wsX7_wipe (wsV RX7 76 RX5 yX5_size wsX5_size) := goodIn_app (goodIn_of _ (by decide +kernel)) ggX7_wipe_X5_size
set_option maxRecDepth 20000 in
theorem ggX7_wipe_X5_clear : GoodIn wsX7_wipe wsX5_clear := goodIn_r _ [11, 7, 22, 23] (by decide +kernel) (by decide +kernel)
set_option maxRecDepth 20000 in
theorem gX7_wipe_X5_clear : GoodIn wsX7_wipe (wsV RX7 80 RX5 yX5_clear wsX5_clear) := goodIn_app (goodIn_of _ (by decide +kernel)) ggX7_wipe_X5_clear
theorem dX7_wipe_0 : decode cX7_wipe 0 = .ok (.aload_n 0, 1) := by decide +kernel
theorem dX7_wipe_1 : decode cX7_wipe 1 = .ok (.getfield 10, 3) := by decide +kernel
theorem dX7_wipe_4 : decode cX7_wipe 4 = .ok (.invokevirtual 76, 3) := by decide +kernel
theorem dX7_wipe_7 : decode cX7_wipe 7 = .ok (.istore_n 1, 1) := by decide +kernel
theorem dX7_wipe_8 : decode cX7_wipe 8 = .ok (.aload_n 0, 1) := by decide +kernel
theorem dX7_wipe_9 : decode cX7_wipe 9 = .ok (.getfield 10, 3) := by decide +kernel
theorem dX7_wipe_12 : decode cX7_wipe 12 = .ok (.invokevirtual 80, 3) := by decide +kernel
theorem dX7_wipe_15 : decode cX7_wipe 15 = .ok (.iload_n 1, 1) := by decide +kernel
theorem dX7_wipe_16 : decode cX7_wipe 16 = .ok (.ireturn, 1) := by decide +kernel
set_option maxRecDepth 20000 in
theorem ggX7_fault_X5_firstFault : GoodIn wsX7_fault wsX5_firstFault := goodIn_r _ [6, 7, 8, 9, 10, 5, 11, 12, 13, 14, 15, 16, 17, 18, 19, 20, 21, 22, 23, 34, 35] (by decide +kernel) (by decide +kernel)
set_option maxRecDepth 20000 in
theorem gX7_fault_X5_firstFault : GoodIn wsX7_fault (wsV RX7 83 RX5 yX5_firstFault wsX5_firstFault) := goodIn_app (goodIn_of _ (by decide +kernel)) ggX7_fault_X5_firstFault
theorem dX7_fault_0 : decode cX7_fault 0 = .ok (.aload_n 0, 1) := by decide +kernel
theorem dX7_fault_1 : decode cX7_fault 1 = .ok (.getfield 10, 3) := by decide +kernel
theorem dX7_fault_4 : decode cX7_fault 4 = .ok (.invokevirtual 83, 3) := by decide +kernel
theorem dX7_fault_7 : decode cX7_fault 7 = .ok (.ireturn, 1) := by decide +kernel
set_option maxRecDepth 20000 in
theorem ggX7_picture_X5_firstFault : GoodIn wsX7_picture wsX5_firstFault := goodIn_r _ [11, 12, 13, 14, 15, 10, 16, 17, 18, 19, 20, 21, 22, 23, 24, 25, 26, 27, 28, 123, 124] (by decide +kernel) (by decide +kernel)
set_option maxRecDepth 20000 in
theorem gX7_picture_X5_firstFault : GoodIn wsX7_picture (wsV RX7 83 RX5 yX5_firstFault wsX5_firstFault) := goodIn_app (goodIn_of _ (by decide +kernel)) ggX7_picture_X5_firstFault
set_option maxRecDepth 20000 in
theorem ggX7_picture_X5_figure : GoodIn wsX7_picture wsX5_figure := goodIn_r _ [20, 21, 123, 124] (by decide +kernel) (by decide +kernel)
set_option maxRecDepth 20000 in
theorem gX7_picture_X5_figure : GoodIn wsX7_picture (wsV RX7 86 RX5 yX5_figure wsX5_figure) := goodIn_app (goodIn_of _ (by decide +kernel)) ggX7_picture_X5_figure
set_option maxRecDepth 20000 in
theorem ggX7_picture_X1_lay : GoodIn wsX7_picture wsX1_lay := goodIn_r _ [34, 35, 36, 37, 38, 39, 40, 125, 126, 127, 128, 129, 130] (by decide +kernel) (by decide +kernel)
set_option maxRecDepth 20000 in
theorem gX7_picture_X1_lay : GoodIn wsX7_picture (wsV RX7 90 RX1 yX1_lay wsX1_lay) := goodIn_app (goodIn_of _ (by decide +kernel)) ggX7_picture_X1_lay
set_option maxRecDepth 20000 in
theorem ggX7_picture_X2_darken : GoodIn wsX7_picture wsX2_darken := goodIn_r _ [45, 46, 47, 48, 49, 50, 33, 51, 38, 131, 132, 125, 126, 127, 128, 129, 130] (by decide +kernel) (by decide +kernel)
set_option maxRecDepth 20000 in
theorem gX7_picture_X2_darken : GoodIn wsX7_picture (wsV RX7 94 RX2 yX2_darken wsX2_darken) := goodIn_app (goodIn_of _ (by decide +kernel)) ggX7_picture_X2_darken
set_option maxRecDepth 20000 in
theorem ggX7_picture_X1_size : GoodIn wsX7_picture wsX1_size := goodIn_r _ [55, 36, 37, 125, 126, 127, 128, 129, 130] (by decide +kernel) (by decide +kernel)
set_option maxRecDepth 20000 in
theorem gX7_picture_X1_size : GoodIn wsX7_picture (wsV RX7 97 RX1 yX1_size wsX1_size) := goodIn_app (goodIn_of _ (by decide +kernel)) ggX7_picture_X1_size
set_option maxRecDepth 20000 in
theorem ggX7_picture_X2_set : GoodIn wsX7_picture wsX2_set := goodIn_r _ [59, 46, 60, 131, 132] (by decide +kernel) (by decide +kernel)
set_option maxRecDepth 20000 in
theorem gX7_picture_X2_set : GoodIn wsX7_picture (wsV RX7 98 RX2 yX2_set wsX2_set) := goodIn_app (goodIn_of _ (by decide +kernel)) ggX7_picture_X2_set
set_option maxRecDepth 20000 in
theorem ggX7_picture_X0_clear : GoodIn wsX7_picture wsX0_clear := goodIn_r _ [65, 66, 133, 134] (by decide +kernel) (by decide +kernel)
set_option maxRecDepth 20000 in
theorem gX7_picture_X0_clear : GoodIn wsX7_picture (wsV RX7 102 RX0 yX0_clear wsX0_clear) := goodIn_app (goodIn_of _ (by decide +kernel)) ggX7_picture_X0_clear
set_option maxRecDepth 20000 in
theorem ggX7_picture_X4_clear : GoodIn wsX7_picture wsX4_clear := goodIn_r _ [71, 72, 135, 136] (by decide +kernel) (by decide +kernel)
set_option maxRecDepth 20000 in
theorem gX7_picture_X4_clear : GoodIn wsX7_picture (wsV RX7 103 RX4 yX4_clear wsX4_clear) := goodIn_app (goodIn_of _ (by decide +kernel)) ggX7_picture_X4_clear
set_option maxRecDepth 20000 in
theorem ggX7_picture_X6_countNodes : GoodIn wsX7_picture wsX6_countNodes := goodIn_r _ [77, 78, 79, 80, 81, 76, 82, 83, 84, 85, 86, 87, 88, 89, 90, 91, 92, 93, 44, 94, 46, 95, 96, 97, 98, 99, 100, 101, 102, 33, 103, 35, 104, 105, 106, 107, 108, 109, 110, 111, 40, 112, 39, 36, 137, 138, 139, 140, 141, 131, 132, 125, 126, 127, 128, 129, 130] (by decide +kernel) (by decide +kernel)
set_option maxRecDepth 20000 in
theorem gX7_picture_X6_countNodes : GoodIn wsX7_picture (wsV RX7 104 RX6 yX6_countNodes wsX6_countNodes) := goodIn_app (goodIn_of _ (by decide +kernel)) ggX7_picture_X6_countNodes
theorem dX7_picture_0 : decode cX7_picture 0 = .ok (.aload_n 0, 1) := by decide +kernel
theorem dX7_picture_1 : decode cX7_picture 1 = .ok (.getfield 10, 3) := by decide +kernel
theorem dX7_picture_4 : decode cX7_picture 4 = .ok (.invokevirtual 83, 3) := by decide +kernel
theorem dX7_picture_7 : decode cX7_picture 7 = .ok (.bipush (-9), 2) := by decide +kernel
theorem dX7_picture_9 : decode cX7_picture 9 = .ok (.if_icmp .eq 6, 3) := by decide +kernel
theorem dX7_picture_12 : decode cX7_picture 12 = .ok (.bipush (-3), 2) := by decide +kernel
theorem dX7_picture_14 : decode cX7_picture 14 = .ok (.ireturn, 1) := by decide +kernel
theorem dX7_picture_15 : decode cX7_picture 15 = .ok (.aload_n 0, 1) := by decide +kernel
theorem dX7_picture_16 : decode cX7_picture 16 = .ok (.getfield 19, 3) := by decide +kernel
theorem dX7_picture_19 : decode cX7_picture 19 = .ok (.aload_n 0, 1) := by decide +kernel
theorem dX7_picture_20 : decode cX7_picture 20 = .ok (.getfield 10, 3) := by decide +kernel
theorem dX7_picture_23 : decode cX7_picture 23 = .ok (.iconst 1, 1) := by decide +kernel
theorem dX7_picture_24 : decode cX7_picture 24 = .ok (.invokevirtual 86, 3) := by decide +kernel
theorem dX7_picture_27 : decode cX7_picture 27 = .ok (.aload_n 0, 1) := by decide +kernel
theorem dX7_picture_28 : decode cX7_picture 28 = .ok (.getfield 10, 3) := by decide +kernel
theorem dX7_picture_31 : decode cX7_picture 31 = .ok (.iconst 2, 1) := by decide +kernel
theorem dX7_picture_32 : decode cX7_picture 32 = .ok (.invokevirtual 86, 3) := by decide +kernel
theorem dX7_picture_35 : decode cX7_picture 35 = .ok (.aload_n 0, 1) := by decide +kernel
theorem dX7_picture_36 : decode cX7_picture 36 = .ok (.getfield 10, 3) := by decide +kernel
theorem dX7_picture_39 : decode cX7_picture 39 = .ok (.iconst 3, 1) := by decide +kernel
theorem dX7_picture_40 : decode cX7_picture 40 = .ok (.invokevirtual 86, 3) := by decide +kernel
theorem dX7_picture_43 : decode cX7_picture 43 = .ok (.invokevirtual 90, 3) := by decide +kernel
theorem dX7_picture_46 : decode cX7_picture 46 = .ok (.aload_n 0, 1) := by decide +kernel
theorem dX7_picture_47 : decode cX7_picture 47 = .ok (.getfield 28, 3) := by decide +kernel
theorem dX7_picture_50 : decode cX7_picture 50 = .ok (.invokevirtual 94, 3) := by decide +kernel
theorem dX7_picture_53 : decode cX7_picture 53 = .ok (.iconst 0, 1) := by decide +kernel
theorem dX7_picture_54 : decode cX7_picture 54 = .ok (.istore_n 1, 1) := by decide +kernel
theorem dX7_picture_55 : decode cX7_picture 55 = .ok (.iload_n 1, 1) := by decide +kernel
theorem dX7_picture_56 : decode cX7_picture 56 = .ok (.aload_n 0, 1) := by decide +kernel
theorem dX7_picture_57 : decode cX7_picture 57 = .ok (.getfield 19, 3) := by decide +kernel
theorem dX7_picture_60 : decode cX7_picture 60 = .ok (.invokevirtual 97, 3) := by decide +kernel
theorem dX7_picture_63 : decode cX7_picture 63 = .ok (.if_icmp .ge 27, 3) := by decide +kernel
theorem dX7_picture_66 : decode cX7_picture 66 = .ok (.aload_n 0, 1) := by decide +kernel
theorem dX7_picture_67 : decode cX7_picture 67 = .ok (.getfield 28, 3) := by decide +kernel
theorem dX7_picture_70 : decode cX7_picture 70 = .ok (.iload_n 1, 1) := by decide +kernel
theorem dX7_picture_71 : decode cX7_picture 71 = .ok (.aload_n 0, 1) := by decide +kernel
theorem dX7_picture_72 : decode cX7_picture 72 = .ok (.getfield 10, 3) := by decide +kernel
theorem dX7_picture_75 : decode cX7_picture 75 = .ok (.iconst 4, 1) := by decide +kernel
theorem dX7_picture_76 : decode cX7_picture 76 = .ok (.iload_n 1, 1) := by decide +kernel
theorem dX7_picture_77 : decode cX7_picture 77 = .ok (.iadd, 1) := by decide +kernel
theorem dX7_picture_78 : decode cX7_picture 78 = .ok (.invokevirtual 86, 3) := by decide +kernel
theorem dX7_picture_81 : decode cX7_picture 81 = .ok (.invokevirtual 98, 3) := by decide +kernel
theorem dX7_picture_84 : decode cX7_picture 84 = .ok (.iinc 1 1, 3) := by decide +kernel
theorem dX7_picture_87 : decode cX7_picture 87 = .ok (.goto (-32), 3) := by decide +kernel
theorem dX7_picture_90 : decode cX7_picture 90 = .ok (.aload_n 0, 1) := by decide +kernel
theorem dX7_picture_91 : decode cX7_picture 91 = .ok (.getfield 50, 3) := by decide +kernel
theorem dX7_picture_94 : decode cX7_picture 94 = .ok (.invokevirtual 102, 3) := by decide +kernel
theorem dX7_picture_97 : decode cX7_picture 97 = .ok (.aload_n 0, 1) := by decide +kernel
theorem dX7_picture_98 : decode cX7_picture 98 = .ok (.getfield 57, 3) := by decide +kernel
theorem dX7_picture_101 : decode cX7_picture 101 = .ok (.invokevirtual 103, 3) := by decide +kernel
theorem dX7_picture_104 : decode cX7_picture 104 = .ok (.aload_n 0, 1) := by decide +kernel
theorem dX7_picture_105 : decode cX7_picture 105 = .ok (.getfield 37, 3) := by decide +kernel
theorem dX7_picture_108 : decode cX7_picture 108 = .ok (.invokevirtual 104, 3) := by decide +kernel
theorem dX7_picture_111 : decode cX7_picture 111 = .ok (.ireturn, 1) := by decide +kernel
set_option maxRecDepth 20000 in
theorem ggX7_about_X1_way : GoodIn wsX7_about wsX1_way := goodIn_r _ [11, 12, 124, 125, 126, 127, 128, 129] (by decide +kernel) (by decide +kernel)
set_option maxRecDepth 20000 in
theorem gX7_about_X1_way : GoodIn wsX7_about (wsV RX7 107 RX1 yX1_way wsX1_way) := goodIn_app (goodIn_of _ (by decide +kernel)) ggX7_about_X1_way
set_option maxRecDepth 20000 in
theorem ggX7_about_X1_wide : GoodIn wsX7_about wsX1_wide := goodIn_r _ [16, 17, 124, 125, 126, 127, 128, 129] (by decide +kernel) (by decide +kernel)
set_option maxRecDepth 20000 in
theorem gX7_about_X1_wide : GoodIn wsX7_about (wsV RX7 110 RX1 yX1_wide wsX1_wide) := goodIn_app (goodIn_of _ (by decide +kernel)) ggX7_about_X1_wide
set_option maxRecDepth 20000 in
theorem ggX7_about_X1_high : GoodIn wsX7_about wsX1_high := goodIn_r _ [21, 22, 124, 125, 126, 127, 128, 129] (by decide +kernel) (by decide +kernel)
set_option maxRecDepth 20000 in
theorem gX7_about_X1_high : GoodIn wsX7_about (wsV RX7 113 RX1 yX1_high wsX1_high) := goodIn_app (goodIn_of _ (by decide +kernel)) ggX7_about_X1_high
set_option maxRecDepth 20000 in
theorem ggX7_about_X6_countNodes : GoodIn wsX7_about wsX6_countNodes := goodIn_r _ [27, 28, 29, 30, 31, 26, 32, 33, 34, 35, 36, 37, 38, 39, 40, 41, 42, 43, 44, 45, 46, 47, 48, 49, 50, 51, 52, 8, 9, 10, 11, 12, 53, 54, 55, 56, 57, 58, 59, 60, 61, 62, 63, 17, 130, 131, 132, 133, 134, 135, 136, 124, 125, 126, 127, 128, 129] (by decide +kernel) (by decide +kernel)
set_option maxRecDepth 20000 in
theorem gX7_about_X6_countNodes : GoodIn wsX7_about (wsV RX7 104 RX6 yX6_countNodes wsX6_countNodes) := goodIn_app (goodIn_of _ (by decide +kernel)) ggX7_about_X6_countNodes
set_option maxRecDepth 20000 in
theorem ggX7_about_X6_countLeaves : GoodIn wsX7_about wsX6_countLeaves := goodIn_r _ [67, 28, 33, 40, 34, 29, 30, 31, 26, 32, 35, 36, 37, 38, 39, 41, 42, 43, 44, 45, 46, 47, 48, 49, 50, 51, 52, 8, 9, 10, 11, 12, 53, 54, 55, 56, 57, 58, 59, 60, 61, 62, 63, 17, 130, 131, 132, 133, 134, 135, 136, 124, 125, 126, 127, 128, 129] (by decide +kernel) (by decide +kernel)
set_option maxRecDepth 20000 in
theorem gX7_about_X6_countLeaves : GoodIn wsX7_about (wsV RX7 116 RX6 yX6_countLeaves wsX6_countLeaves) := goodIn_app (goodIn_of _ (by decide +kernel)) ggX7_about_X6_countLeaves
set_option maxRecDepth 20000 in
theorem ggX7_about_X6_greatestDepth : GoodIn wsX7_about wsX6_greatestDepth := goodIn_r _ [71, 28, 33, 34, 72, 73, 74, 75, 29, 30, 31, 26, 32, 35, 36, 37, 38, 39, 40, 41, 42, 43, 44, 45, 46, 47, 48, 49, 50, 51, 52, 8, 9, 10, 11, 12, 53, 54, 55, 56, 57, 58, 59, 60, 61, 62, 63, 17, 76, 77, 78, 79, 130, 131, 132, 133, 134, 135, 136, 124, 125, 126, 127, 128, 129] (by decide +kernel) (by decide +kernel)
set_option maxRecDepth 20000 in
theorem gX7_about_X6_greatestDepth : GoodIn wsX7_about (wsV RX7 119 RX6 yX6_greatestDepth wsX6_greatestDepth) := goodIn_app (goodIn_of _ (by decide +kernel)) ggX7_about_X6_greatestDepth
set_option maxRecDepth 20000 in
theorem ggX7_about_X1_all : GoodIn wsX7_about wsX1_all := goodIn_r _ [83, 84, 124, 125, 126, 127, 128, 129] (by decide +kernel) (by decide +kernel)
set_option maxRecDepth 20000 in
theorem gX7_about_X1_all : GoodIn wsX7_about (wsV RX7 122 RX1 yX1_all wsX1_all) := goodIn_app (goodIn_of _ (by decide +kernel)) ggX7_about_X1_all
set_option maxRecDepth 20000 in
theorem ggX7_about_X2_light : GoodIn wsX7_about wsX2_light := goodIn_r _ [88, 46, 89, 90, 91, 92, 93, 94, 95, 135, 136] (by decide +kernel) (by decide +kernel)
set_option maxRecDepth 20000 in
theorem gX7_about_X2_light : GoodIn wsX7_about (wsV RX7 126 RX2 yX2_light wsX2_light) := goodIn_app (goodIn_of _ (by decide +kernel)) ggX7_about_X2_light
set_option maxRecDepth 20000 in
theorem ggX7_about_X0_size : GoodIn wsX7_about wsX0_size := goodIn_r _ [100, 101, 137, 138] (by decide +kernel) (by decide +kernel)
set_option maxRecDepth 20000 in
theorem gX7_about_X0_size : GoodIn wsX7_about (wsV RX7 130 RX0 yX0_size wsX0_size) := goodIn_app (goodIn_of _ (by decide +kernel)) ggX7_about_X0_size
set_option maxRecDepth 20000 in
theorem ggX7_about_X3_size : GoodIn wsX7_about wsX3_size := goodIn_r _ [106, 107, 139, 140, 141, 142] (by decide +kernel) (by decide +kernel)
set_option maxRecDepth 20000 in
theorem gX7_about_X3_size : GoodIn wsX7_about (wsV RX7 131 RX3 yX3_size wsX3_size) := goodIn_app (goodIn_of _ (by decide +kernel)) ggX7_about_X3_size
set_option maxRecDepth 20000 in
theorem ggX7_about_X5_size : GoodIn wsX7_about wsX5_size := goodIn_r _ [112, 113, 143, 144] (by decide +kernel) (by decide +kernel)
set_option maxRecDepth 20000 in
theorem gX7_about_X5_size : GoodIn wsX7_about (wsV RX7 76 RX5 yX5_size wsX5_size) := goodIn_app (goodIn_of _ (by decide +kernel)) ggX7_about_X5_size
theorem dX7_about_0 : decode cX7_about 0 = .ok (.iload_n 1, 1) := by decide +kernel
theorem dX7_about_1 : decode cX7_about 1 = .ok (.tableswitch 142 0 9 #[55, 63, 71, 79, 87, 95, 103, 118, 126, 134], 55) := by decide +kernel
theorem dX7_about_56 : decode cX7_about 56 = .ok (.aload_n 0, 1) := by decide +kernel
theorem dX7_about_57 : decode cX7_about 57 = .ok (.getfield 19, 3) := by decide +kernel
theorem dX7_about_60 : decode cX7_about 60 = .ok (.invokevirtual 107, 3) := by decide +kernel
theorem dX7_about_63 : decode cX7_about 63 = .ok (.ireturn, 1) := by decide +kernel
theorem dX7_about_64 : decode cX7_about 64 = .ok (.aload_n 0, 1) := by decide +kernel
theorem dX7_about_65 : decode cX7_about 65 = .ok (.getfield 19, 3) := by decide +kernel
theorem dX7_about_68 : decode cX7_about 68 = .ok (.invokevirtual 110, 3) := by decide +kernel
theorem dX7_about_71 : decode cX7_about 71 = .ok (.ireturn, 1) := by decide +kernel
theorem dX7_about_72 : decode cX7_about 72 = .ok (.aload_n 0, 1) := by decide +kernel
theorem dX7_about_73 : decode cX7_about 73 = .ok (.getfield 19, 3) := by decide +kernel
theorem dX7_about_76 : decode cX7_about 76 = .ok (.invokevirtual 113, 3) := by decide +kernel
theorem dX7_about_79 : decode cX7_about 79 = .ok (.ireturn, 1) := by decide +kernel
theorem dX7_about_80 : decode cX7_about 80 = .ok (.aload_n 0, 1) := by decide +kernel
theorem dX7_about_81 : decode cX7_about 81 = .ok (.getfield 37, 3) := by decide +kernel
theorem dX7_about_84 : decode cX7_about 84 = .ok (.invokevirtual 104, 3) := by decide +kernel
theorem dX7_about_87 : decode cX7_about 87 = .ok (.ireturn, 1) := by decide +kernel
theorem dX7_about_88 : decode cX7_about 88 = .ok (.aload_n 0, 1) := by decide +kernel
theorem dX7_about_89 : decode cX7_about 89 = .ok (.getfield 37, 3) := by decide +kernel
theorem dX7_about_92 : decode cX7_about 92 = .ok (.invokevirtual 116, 3) := by decide +kernel
theorem dX7_about_95 : decode cX7_about 95 = .ok (.ireturn, 1) := by decide +kernel
theorem dX7_about_96 : decode cX7_about 96 = .ok (.aload_n 0, 1) := by decide +kernel
theorem dX7_about_97 : decode cX7_about 97 = .ok (.getfield 37, 3) := by decide +kernel
theorem dX7_about_100 : decode cX7_about 100 = .ok (.invokevirtual 119, 3) := by decide +kernel
theorem dX7_about_103 : decode cX7_about 103 = .ok (.ireturn, 1) := by decide +kernel
theorem dX7_about_104 : decode cX7_about 104 = .ok (.aload_n 0, 1) := by decide +kernel
theorem dX7_about_105 : decode cX7_about 105 = .ok (.getfield 28, 3) := by decide +kernel
theorem dX7_about_108 : decode cX7_about 108 = .ok (.aload_n 0, 1) := by decide +kernel
theorem dX7_about_109 : decode cX7_about 109 = .ok (.getfield 19, 3) := by decide +kernel
theorem dX7_about_112 : decode cX7_about 112 = .ok (.invokevirtual 122, 3) := by decide +kernel
theorem dX7_about_115 : decode cX7_about 115 = .ok (.invokevirtual 126, 3) := by decide +kernel
theorem dX7_about_118 : decode cX7_about 118 = .ok (.ireturn, 1) := by decide +kernel
theorem dX7_about_119 : decode cX7_about 119 = .ok (.aload_n 0, 1) := by decide +kernel
theorem dX7_about_120 : decode cX7_about 120 = .ok (.getfield 50, 3) := by decide +kernel
theorem dX7_about_123 : decode cX7_about 123 = .ok (.invokevirtual 130, 3) := by decide +kernel
theorem dX7_about_126 : decode cX7_about 126 = .ok (.ireturn, 1) := by decide +kernel
theorem dX7_about_127 : decode cX7_about 127 = .ok (.aload_n 0, 1) := by decide +kernel
theorem dX7_about_128 : decode cX7_about 128 = .ok (.getfield 64, 3) := by decide +kernel
theorem dX7_about_131 : decode cX7_about 131 = .ok (.invokevirtual 131, 3) := by decide +kernel
theorem dX7_about_134 : decode cX7_about 134 = .ok (.ireturn, 1) := by decide +kernel
theorem dX7_about_135 : decode cX7_about 135 = .ok (.aload_n 0, 1) := by decide +kernel
theorem dX7_about_136 : decode cX7_about 136 = .ok (.getfield 10, 3) := by decide +kernel
theorem dX7_about_139 : decode cX7_about 139 = .ok (.invokevirtual 76, 3) := by decide +kernel
theorem dX7_about_142 : decode cX7_about 142 = .ok (.ireturn, 1) := by decide +kernel
theorem dX7_about_143 : decode cX7_about 143 = .ok (.bipush (-2), 2) := by decide +kernel
theorem dX7_about_145 : decode cX7_about 145 = .ok (.ireturn, 1) := by decide +kernel
set_option maxRecDepth 20000 in
theorem ggX7_shade_X1_hasDot : GoodIn wsX7_shade wsX1_hasDot := goodIn_r _ [7, 8, 9, 10, 6, 11, 12, 13, 30, 31, 32, 33, 34, 35] (by decide +kernel) (by decide +kernel)
set_option maxRecDepth 20000 in
theorem gX7_shade_X1_hasDot : GoodIn wsX7_shade (wsV RX7 132 RX1 yX1_hasDot wsX1_hasDot) := goodIn_app (goodIn_of _ (by decide +kernel)) ggX7_shade_X1_hasDot
set_option maxRecDepth 20000 in
theorem ggX7_shade_X2_of : GoodIn wsX7_shade wsX2_of := goodIn_r _ [18, 19, 36, 37] (by decide +kernel) (by decide +kernel)
set_option maxRecDepth 20000 in
theorem gX7_shade_X2_of : GoodIn wsX7_shade (wsV RX7 135 RX2 yX2_of wsX2_of) := goodIn_app (goodIn_of _ (by decide +kernel)) ggX7_shade_X2_of
theorem dX7_shade_0 : decode cX7_shade 0 = .ok (.aload_n 0, 1) := by decide +kernel
theorem dX7_shade_1 : decode cX7_shade 1 = .ok (.getfield 19, 3) := by decide +kernel
theorem dX7_shade_4 : decode cX7_shade 4 = .ok (.iload_n 1, 1) := by decide +kernel
theorem dX7_shade_5 : decode cX7_shade 5 = .ok (.invokevirtual 132, 3) := by decide +kernel
theorem dX7_shade_8 : decode cX7_shade 8 = .ok (.ifCond .eq 14, 3) := by decide +kernel
theorem dX7_shade_11 : decode cX7_shade 11 = .ok (.aload_n 0, 1) := by decide +kernel
theorem dX7_shade_12 : decode cX7_shade 12 = .ok (.getfield 28, 3) := by decide +kernel
theorem dX7_shade_15 : decode cX7_shade 15 = .ok (.iload_n 1, 1) := by decide +kernel
theorem dX7_shade_16 : decode cX7_shade 16 = .ok (.invokevirtual 135, 3) := by decide +kernel
theorem dX7_shade_19 : decode cX7_shade 19 = .ok (.goto 4, 3) := by decide +kernel
theorem dX7_shade_22 : decode cX7_shade 22 = .ok (.iconst (-1), 1) := by decide +kernel
theorem dX7_shade_23 : decode cX7_shade 23 = .ok (.ireturn, 1) := by decide +kernel
set_option maxRecDepth 20000 in
theorem ggX7_node_X1_hasDot : GoodIn wsX7_node wsX1_hasDot := goodIn_r _ [8, 9, 10, 11, 7, 12, 13, 14, 129, 130, 131, 132, 133, 134] (by decide +kernel) (by decide +kernel)
set_option maxRecDepth 20000 in
theorem gX7_node_X1_hasDot : GoodIn wsX7_node (wsV RX7 132 RX1 yX1_hasDot wsX1_hasDot) := goodIn_app (goodIn_of _ (by decide +kernel)) ggX7_node_X1_hasDot
set_option maxRecDepth 20000 in
theorem ggX7_node_X2_of : GoodIn wsX7_node wsX2_of := goodIn_r _ [19, 20, 135, 136] (by decide +kernel) (by decide +kernel)
set_option maxRecDepth 20000 in
theorem gX7_node_X2_of : GoodIn wsX7_node (wsV RX7 135 RX2 yX2_of wsX2_of) := goodIn_app (goodIn_of _ (by decide +kernel)) ggX7_node_X2_of
set_option maxRecDepth 20000 in
theorem ggX7_node_X6_nodeOf : GoodIn wsX7_node wsX6_nodeOf := goodIn_r _ [25, 26, 27, 28, 5, 6, 7, 8, 9, 10, 11, 12, 13, 14, 29, 16, 17, 18, 19, 20, 30, 31, 32, 24, 33, 34, 35, 36, 37, 38, 39, 40, 41, 42, 43, 44, 45, 46, 47, 48, 49, 50, 51, 52, 53, 137, 138, 139, 140, 141, 129, 130, 131, 132, 133, 134, 135, 136] (by decide +kernel) (by decide +kernel)
set_option maxRecDepth 20000 in
theorem gX7_node_X6_nodeOf : GoodIn wsX7_node (wsV RX7 138 RX6 yX6_nodeOf wsX6_nodeOf) := goodIn_app (goodIn_of _ (by decide +kernel)) ggX7_node_X6_nodeOf
set_option maxRecDepth 20000 in
theorem ggX7_node_X6_head : GoodIn wsX7_node wsX6_head := goodIn_r _ [57, 58, 59, 60, 24, 61, 27, 62, 34, 35, 36, 18, 37, 20, 63, 64, 65, 66, 67, 68, 69, 137, 138, 139, 140, 141, 135, 136] (by decide +kernel) (by decide +kernel)
set_option maxRecDepth 20000 in
theorem gX7_node_X6_head : GoodIn wsX7_node (wsV RX7 142 RX6 yX6_head wsX6_head) := goodIn_app (goodIn_of _ (by decide +kernel)) ggX7_node_X6_head
set_option maxRecDepth 20000 in
theorem ggX7_node_J13_bitCount_95d88 : GoodIn wsX7_node wsJ13_bitCount_95d88 := goodIn_r _ [66, 67, 68, 69] (by decide +kernel) (by decide +kernel)
set_option maxRecDepth 20000 in
theorem gX7_node_J13_bitCount_95d88 : GoodIn wsX7_node (va_wsS RX7 146 yJ13_bitCount_95d88 wsJ13_bitCount_95d88) := goodIn_app (goodIn_of _ (by decide +kernel)) ggX7_node_J13_bitCount_95d88
set_option maxRecDepth 20000 in
theorem ggX7_node_X2_light : GoodIn wsX7_node wsX2_light := goodIn_r _ [74, 20, 75, 64, 65, 66, 67, 68, 69, 135, 136] (by decide +kernel) (by decide +kernel)
set_option maxRecDepth 20000 in
theorem gX7_node_X2_light : GoodIn wsX7_node (wsV RX7 126 RX2 yX2_light wsX2_light) := goodIn_app (goodIn_of _ (by decide +kernel)) ggX7_node_X2_light
set_option maxRecDepth 20000 in
theorem ggX7_node_X6_parentHead : GoodIn wsX7_node wsX6_parentHead := goodIn_r _ [79, 80, 81, 82, 24, 83, 30, 31, 32, 33, 26, 27, 34, 35, 36, 18, 37, 20, 38, 39, 40, 7, 41, 42, 43, 44, 45, 46, 47, 48, 49, 50, 51, 52, 53, 13, 84, 55, 56, 57, 58, 59, 60, 61, 62, 63, 64, 65, 66, 67, 68, 69, 137, 138, 139, 140, 141, 135, 136, 129, 130, 131, 132, 133, 134] (by decide +kernel) (by decide +kernel)
set_option maxRecDepth 20000 in
theorem gX7_node_X6_parentHead : GoodIn wsX7_node (wsV RX7 151 RX6 yX6_parentHead wsX6_parentHead) := goodIn_app (goodIn_of _ (by decide +kernel)) ggX7_node_X6_parentHead
set_option maxRecDepth 20000 in
theorem ggX7_node_X6_countChildren : GoodIn wsX7_node wsX6_countChildren := goodIn_r _ [88, 26, 27, 34, 35, 36, 18, 37, 20, 38, 39, 40, 7, 41, 42, 89, 90, 91, 92, 52, 93, 44, 45, 46, 47, 48, 49, 50, 51, 53, 13, 137, 138, 139, 140, 141, 135, 136, 129, 130, 131, 132, 133, 134] (by decide +kernel) (by decide +kernel)
set_option maxRecDepth 20000 in
theorem gX7_node_X6_countChildren : GoodIn wsX7_node (wsV RX7 154 RX6 yX6_countChildren wsX6_countChildren) := goodIn_app (goodIn_of _ (by decide +kernel)) ggX7_node_X6_countChildren
set_option maxRecDepth 20000 in
theorem ggX7_node_X6_depth : GoodIn wsX7_node wsX6_depth := goodIn_r _ [97, 30, 31, 32, 24, 33, 26, 27, 34, 35, 36, 18, 37, 20, 38, 39, 40, 7, 41, 42, 43, 44, 45, 46, 47, 48, 49, 50, 51, 52, 53, 13, 137, 138, 139, 140, 141, 135, 136, 129, 130, 131, 132, 133, 134] (by decide +kernel) (by decide +kernel)
set_option maxRecDepth 20000 in
theorem gX7_node_X6_depth : GoodIn wsX7_node (wsV RX7 157 RX6 yX6_depth wsX6_depth) := goodIn_app (goodIn_of _ (by decide +kernel)) ggX7_node_X6_depth
set_option maxRecDepth 20000 in
theorem ggX7_node_X1_columnsOf : GoodIn wsX7_node wsX1_columnsOf := goodIn_r _ [101, 13, 53, 129, 130, 131, 132, 133, 134] (by decide +kernel) (by decide +kernel)
set_option maxRecDepth 20000 in
theorem gX7_node_X1_columnsOf : GoodIn wsX7_node (wsV RX7 160 RX1 yX1_columnsOf wsX1_columnsOf) := goodIn_app (goodIn_of _ (by decide +kernel)) ggX7_node_X1_columnsOf
set_option maxRecDepth 20000 in
theorem ggX7_node_X1_rowsOf : GoodIn wsX7_node wsX1_rowsOf := goodIn_r _ [105, 14, 106, 107, 108, 7, 109, 13, 129, 130, 131, 132, 133, 134] (by decide +kernel) (by decide +kernel)
set_option maxRecDepth 20000 in
theorem gX7_node_X1_rowsOf : GoodIn wsX7_node (wsV RX7 163 RX1 yX1_rowsOf wsX1_rowsOf) := goodIn_app (goodIn_of _ (by decide +kernel)) ggX7_node_X1_rowsOf
set_option maxRecDepth 20000 in
theorem ggX7_node_X6_rise : GoodIn wsX7_node wsX6_rise := goodIn_r _ [113, 27, 114, 115, 116, 18, 117, 118, 35, 36, 37, 20, 34, 30, 31, 32, 24, 33, 26, 38, 39, 40, 7, 41, 42, 43, 44, 45, 46, 47, 48, 49, 50, 51, 52, 53, 13, 137, 138, 139, 140, 141, 135, 136, 129, 130, 131, 132, 133, 134] (by decide +kernel) (by decide +kernel)
set_option maxRecDepth 20000 in
theorem gX7_node_X6_rise : GoodIn wsX7_node (wsV RX7 166 RX6 yX6_rise wsX6_rise) := goodIn_app (goodIn_of _ (by decide +kernel)) ggX7_node_X6_rise
theorem dX7_node_0 : decode cX7_node 0 = .ok (.aload_n 0, 1) := by decide +kernel
theorem dX7_node_1 : decode cX7_node 1 = .ok (.getfield 19, 3) := by decide +kernel
theorem dX7_node_4 : decode cX7_node 4 = .ok (.iload_n 1, 1) := by decide +kernel
theorem dX7_node_5 : decode cX7_node 5 = .ok (.invokevirtual 132, 3) := by decide +kernel
theorem dX7_node_8 : decode cX7_node 8 = .ok (.ifCond .ne 5, 3) := by decide +kernel
theorem dX7_node_11 : decode cX7_node 11 = .ok (.iconst (-1), 1) := by decide +kernel
theorem dX7_node_12 : decode cX7_node 12 = .ok (.ireturn, 1) := by decide +kernel
theorem dX7_node_13 : decode cX7_node 13 = .ok (.aload_n 0, 1) := by decide +kernel
theorem dX7_node_14 : decode cX7_node 14 = .ok (.getfield 28, 3) := by decide +kernel
theorem dX7_node_17 : decode cX7_node 17 = .ok (.iload_n 1, 1) := by decide +kernel
theorem dX7_node_18 : decode cX7_node 18 = .ok (.invokevirtual 135, 3) := by decide +kernel
theorem dX7_node_21 : decode cX7_node 21 = .ok (.istore_n 3, 1) := by decide +kernel
theorem dX7_node_22 : decode cX7_node 22 = .ok (.aload_n 0, 1) := by decide +kernel
theorem dX7_node_23 : decode cX7_node 23 = .ok (.getfield 37, 3) := by decide +kernel
theorem dX7_node_26 : decode cX7_node 26 = .ok (.iload_n 1, 1) := by decide +kernel
theorem dX7_node_27 : decode cX7_node 27 = .ok (.invokevirtual 138, 3) := by decide +kernel
theorem dX7_node_30 : decode cX7_node 30 = .ok (.lstore 4, 2) := by decide +kernel
theorem dX7_node_32 : decode cX7_node 32 = .ok (.iload_n 2, 1) := by decide +kernel
theorem dX7_node_33 : decode cX7_node 33 = .ok (.tableswitch 148 0 9 #[55, 66, 68, 74, 84, 95, 106, 117, 127, 137], 55) := by decide +kernel
theorem dX7_node_88 : decode cX7_node 88 = .ok (.aload_n 0, 1) := by decide +kernel
theorem dX7_node_89 : decode cX7_node 89 = .ok (.getfield 37, 3) := by decide +kernel
theorem dX7_node_92 : decode cX7_node 92 = .ok (.lload 4, 2) := by decide +kernel
theorem dX7_node_94 : decode cX7_node 94 = .ok (.iload_n 3, 1) := by decide +kernel
theorem dX7_node_95 : decode cX7_node 95 = .ok (.invokevirtual 142, 3) := by decide +kernel
theorem dX7_node_98 : decode cX7_node 98 = .ok (.ireturn, 1) := by decide +kernel
theorem dX7_node_99 : decode cX7_node 99 = .ok (.iload_n 3, 1) := by decide +kernel
theorem dX7_node_100 : decode cX7_node 100 = .ok (.ireturn, 1) := by decide +kernel
theorem dX7_node_101 : decode cX7_node 101 = .ok (.lload 4, 2) := by decide +kernel
theorem dX7_node_103 : decode cX7_node 103 = .ok (.invokestatic 146, 3) := by decide +kernel
theorem dX7_node_106 : decode cX7_node 106 = .ok (.ireturn, 1) := by decide +kernel
theorem dX7_node_107 : decode cX7_node 107 = .ok (.aload_n 0, 1) := by decide +kernel
theorem dX7_node_108 : decode cX7_node 108 = .ok (.getfield 28, 3) := by decide +kernel
theorem dX7_node_111 : decode cX7_node 111 = .ok (.lload 4, 2) := by decide +kernel
theorem dX7_node_113 : decode cX7_node 113 = .ok (.invokevirtual 126, 3) := by decide +kernel
theorem dX7_node_116 : decode cX7_node 116 = .ok (.ireturn, 1) := by decide +kernel
theorem dX7_node_117 : decode cX7_node 117 = .ok (.aload_n 0, 1) := by decide +kernel
theorem dX7_node_118 : decode cX7_node 118 = .ok (.getfield 37, 3) := by decide +kernel
theorem dX7_node_121 : decode cX7_node 121 = .ok (.lload 4, 2) := by decide +kernel
theorem dX7_node_123 : decode cX7_node 123 = .ok (.iload_n 3, 1) := by decide +kernel
theorem dX7_node_124 : decode cX7_node 124 = .ok (.invokevirtual 151, 3) := by decide +kernel
theorem dX7_node_127 : decode cX7_node 127 = .ok (.ireturn, 1) := by decide +kernel
theorem dX7_node_128 : decode cX7_node 128 = .ok (.aload_n 0, 1) := by decide +kernel
theorem dX7_node_129 : decode cX7_node 129 = .ok (.getfield 37, 3) := by decide +kernel
theorem dX7_node_132 : decode cX7_node 132 = .ok (.lload 4, 2) := by decide +kernel
theorem dX7_node_134 : decode cX7_node 134 = .ok (.iload_n 3, 1) := by decide +kernel
theorem dX7_node_135 : decode cX7_node 135 = .ok (.invokevirtual 154, 3) := by decide +kernel
theorem dX7_node_138 : decode cX7_node 138 = .ok (.ireturn, 1) := by decide +kernel
theorem dX7_node_139 : decode cX7_node 139 = .ok (.aload_n 0, 1) := by decide +kernel
theorem dX7_node_140 : decode cX7_node 140 = .ok (.getfield 37, 3) := by decide +kernel
theorem dX7_node_143 : decode cX7_node 143 = .ok (.lload 4, 2) := by decide +kernel
theorem dX7_node_145 : decode cX7_node 145 = .ok (.iload_n 3, 1) := by decide +kernel
theorem dX7_node_146 : decode cX7_node 146 = .ok (.invokevirtual 157, 3) := by decide +kernel
theorem dX7_node_149 : decode cX7_node 149 = .ok (.ireturn, 1) := by decide +kernel
theorem dX7_node_150 : decode cX7_node 150 = .ok (.aload_n 0, 1) := by decide +kernel
theorem dX7_node_151 : decode cX7_node 151 = .ok (.getfield 19, 3) := by decide +kernel
theorem dX7_node_154 : decode cX7_node 154 = .ok (.lload 4, 2) := by decide +kernel
theorem dX7_node_156 : decode cX7_node 156 = .ok (.invokevirtual 160, 3) := by decide +kernel
theorem dX7_node_159 : decode cX7_node 159 = .ok (.ireturn, 1) := by decide +kernel
theorem dX7_node_160 : decode cX7_node 160 = .ok (.aload_n 0, 1) := by decide +kernel
theorem dX7_node_161 : decode cX7_node 161 = .ok (.getfield 19, 3) := by decide +kernel
theorem dX7_node_164 : decode cX7_node 164 = .ok (.lload 4, 2) := by decide +kernel
theorem dX7_node_166 : decode cX7_node 166 = .ok (.invokevirtual 163, 3) := by decide +kernel
theorem dX7_node_169 : decode cX7_node 169 = .ok (.ireturn, 1) := by decide +kernel
theorem dX7_node_170 : decode cX7_node 170 = .ok (.aload_n 0, 1) := by decide +kernel
theorem dX7_node_171 : decode cX7_node 171 = .ok (.getfield 37, 3) := by decide +kernel
theorem dX7_node_174 : decode cX7_node 174 = .ok (.lload 4, 2) := by decide +kernel
theorem dX7_node_176 : decode cX7_node 176 = .ok (.iload_n 3, 1) := by decide +kernel
theorem dX7_node_177 : decode cX7_node 177 = .ok (.invokevirtual 166, 3) := by decide +kernel
theorem dX7_node_180 : decode cX7_node 180 = .ok (.ireturn, 1) := by decide +kernel
theorem dX7_node_181 : decode cX7_node 181 = .ok (.bipush (-2), 2) := by decide +kernel
theorem dX7_node_183 : decode cX7_node 183 = .ok (.ireturn, 1) := by decide +kernel
set_option maxRecDepth 20000 in
theorem ggX7_dots_X1_hasDot : GoodIn wsX7_dots wsX1_hasDot := goodIn_r _ [8, 9, 10, 11, 7, 12, 13, 14, 63, 64, 65, 66, 67, 68] (by decide +kernel) (by decide +kernel)
set_option maxRecDepth 20000 in
theorem gX7_dots_X1_hasDot : GoodIn wsX7_dots (wsV RX7 132 RX1 yX1_hasDot wsX1_hasDot) := goodIn_app (goodIn_of _ (by decide +kernel)) ggX7_dots_X1_hasDot
set_option maxRecDepth 20000 in
theorem ggX7_dots_X6_nodeOf : GoodIn wsX7_dots wsX6_nodeOf := goodIn_r _ [19, 20, 21, 22, 5, 6, 7, 8, 9, 10, 11, 12, 13, 14, 23, 24, 25, 26, 27, 28, 29, 30, 31, 18, 32, 33, 34, 35, 36, 37, 38, 39, 40, 41, 42, 43, 44, 45, 46, 47, 48, 49, 50, 51, 52, 69, 70, 71, 72, 73, 63, 64, 65, 66, 67, 68, 74, 75] (by decide +kernel) (by decide +kernel)
set_option maxRecDepth 20000 in
theorem gX7_dots_X6_nodeOf : GoodIn wsX7_dots (wsV RX7 138 RX6 yX6_nodeOf wsX6_nodeOf) := goodIn_app (goodIn_of _ (by decide +kernel)) ggX7_dots_X6_nodeOf
theorem dX7_dots_0 : decode cX7_dots 0 = .ok (.aload_n 0, 1) := by decide +kernel
theorem dX7_dots_1 : decode cX7_dots 1 = .ok (.getfield 19, 3) := by decide +kernel
theorem dX7_dots_4 : decode cX7_dots 4 = .ok (.iload_n 1, 1) := by decide +kernel
theorem dX7_dots_5 : decode cX7_dots 5 = .ok (.invokevirtual 132, 3) := by decide +kernel
theorem dX7_dots_8 : decode cX7_dots 8 = .ok (.ifCond .eq 14, 3) := by decide +kernel
theorem dX7_dots_11 : decode cX7_dots 11 = .ok (.aload_n 0, 1) := by decide +kernel
theorem dX7_dots_12 : decode cX7_dots 12 = .ok (.getfield 37, 3) := by decide +kernel
theorem dX7_dots_15 : decode cX7_dots 15 = .ok (.iload_n 1, 1) := by decide +kernel
theorem dX7_dots_16 : decode cX7_dots 16 = .ok (.invokevirtual 138, 3) := by decide +kernel
theorem dX7_dots_19 : decode cX7_dots 19 = .ok (.goto 6, 3) := by decide +kernel
theorem dX7_dots_22 : decode cX7_dots 22 = .ok (.ldc2_w 169, 3) := by decide +kernel
theorem dX7_dots_25 : decode cX7_dots 25 = .ok (.lreturn, 1) := by decide +kernel
set_option maxRecDepth 20000 in
theorem ggX7_parts_X7_isShade : GoodIn wsX7_parts wsX7_isShade := goodIn_r _ [6] (by decide +kernel) (by decide +kernel)
set_option maxRecDepth 20000 in
theorem gX7_parts_X7_isShade : GoodIn wsX7_parts (va_wsS RX7 171 yX7_isShade wsX7_isShade) := goodIn_app (goodIn_of _ (by decide +kernel)) ggX7_parts_X7_isShade
set_option maxRecDepth 20000 in
theorem ggX7_parts_X2_atLeast : GoodIn wsX7_parts wsX2_atLeast := goodIn_r _ [11, 12, 45, 46] (by decide +kernel) (by decide +kernel)
set_option maxRecDepth 20000 in
theorem gX7_parts_X2_atLeast : GoodIn wsX7_parts (wsV RX7 174 RX2 yX2_atLeast wsX2_atLeast) := goodIn_app (goodIn_of _ (by decide +kernel)) ggX7_parts_X2_atLeast
set_option maxRecDepth 20000 in
theorem ggX7_parts_X1_way : GoodIn wsX7_parts wsX1_way := goodIn_r _ [17, 18, 47, 48, 49, 50, 51, 52] (by decide +kernel) (by decide +kernel)
set_option maxRecDepth 20000 in
theorem gX7_parts_X1_way : GoodIn wsX7_parts (wsV RX7 107 RX1 yX1_way wsX1_way) := goodIn_app (goodIn_of _ (by decide +kernel)) ggX7_parts_X1_way
set_option maxRecDepth 20000 in
theorem ggX7_parts_X1_countParts : GoodIn wsX7_parts wsX1_countParts := goodIn_r _ [22, 23, 24, 25, 26, 16, 27, 28, 29, 30, 31, 32, 33, 34, 47, 48, 49, 50, 51, 52] (by decide +kernel) (by decide +kernel)
set_option maxRecDepth 20000 in
theorem gX7_parts_X1_countParts : GoodIn wsX7_parts (wsV RX7 177 RX1 yX1_countParts wsX1_countParts) := goodIn_app (goodIn_of _ (by decide +kernel)) ggX7_parts_X1_countParts
theorem dX7_parts_0 : decode cX7_parts 0 = .ok (.iload_n 1, 1) := by decide +kernel
theorem dX7_parts_1 : decode cX7_parts 1 = .ok (.invokestatic 171, 3) := by decide +kernel
theorem dX7_parts_4 : decode cX7_parts 4 = .ok (.ifCond .eq 28, 3) := by decide +kernel
theorem dX7_parts_7 : decode cX7_parts 7 = .ok (.aload_n 0, 1) := by decide +kernel
theorem dX7_parts_8 : decode cX7_parts 8 = .ok (.getfield 19, 3) := by decide +kernel
theorem dX7_parts_11 : decode cX7_parts 11 = .ok (.aload_n 0, 1) := by decide +kernel
theorem dX7_parts_12 : decode cX7_parts 12 = .ok (.getfield 28, 3) := by decide +kernel
theorem dX7_parts_15 : decode cX7_parts 15 = .ok (.iload_n 1, 1) := by decide +kernel
theorem dX7_parts_16 : decode cX7_parts 16 = .ok (.invokevirtual 174, 3) := by decide +kernel
theorem dX7_parts_19 : decode cX7_parts 19 = .ok (.aload_n 0, 1) := by decide +kernel
theorem dX7_parts_20 : decode cX7_parts 20 = .ok (.getfield 19, 3) := by decide +kernel
theorem dX7_parts_23 : decode cX7_parts 23 = .ok (.invokevirtual 107, 3) := by decide +kernel
theorem dX7_parts_26 : decode cX7_parts 26 = .ok (.invokevirtual 177, 3) := by decide +kernel
theorem dX7_parts_29 : decode cX7_parts 29 = .ok (.goto 5, 3) := by decide +kernel
theorem dX7_parts_32 : decode cX7_parts 32 = .ok (.bipush (-2), 2) := by decide +kernel
theorem dX7_parts_34 : decode cX7_parts 34 = .ok (.ireturn, 1) := by decide +kernel
set_option maxRecDepth 20000 in
theorem ggX7_paint_X1_hasDot : GoodIn wsX7_paint wsX1_hasDot := goodIn_r _ [8, 9, 10, 11, 7, 12, 13, 14, 56, 57, 58, 59, 60, 61] (by decide +kernel) (by decide +kernel)
set_option maxRecDepth 20000 in
theorem gX7_paint_X1_hasDot : GoodIn wsX7_paint (wsV RX7 132 RX1 yX1_hasDot wsX1_hasDot) := goodIn_app (goodIn_of _ (by decide +kernel)) ggX7_paint_X1_hasDot
set_option maxRecDepth 20000 in
theorem ggX7_paint_X7_isShade : GoodIn wsX7_paint wsX7_isShade := goodIn_r _ [18] (by decide +kernel) (by decide +kernel)
set_option maxRecDepth 20000 in
theorem gX7_paint_X7_isShade : GoodIn wsX7_paint (va_wsS RX7 171 yX7_isShade wsX7_isShade) := goodIn_app (goodIn_of _ (by decide +kernel)) ggX7_paint_X7_isShade
set_option maxRecDepth 20000 in
theorem ggX7_paint_X2_of : GoodIn wsX7_paint wsX2_of := goodIn_r _ [23, 24, 62, 63] (by decide +kernel) (by decide +kernel)
set_option maxRecDepth 20000 in
theorem gX7_paint_X2_of : GoodIn wsX7_paint (wsV RX7 135 RX2 yX2_of wsX2_of) := goodIn_app (goodIn_of _ (by decide +kernel)) ggX7_paint_X2_of
set_option maxRecDepth 20000 in
theorem ggX7_paint_X0_add : GoodIn wsX7_paint wsX0_add := goodIn_r _ [29, 30, 31, 32, 33, 34, 35, 36, 37, 38, 22, 39, 24, 40, 64, 65, 62, 63] (by decide +kernel) (by decide +kernel)
set_option maxRecDepth 20000 in
theorem gX7_paint_X0_add : GoodIn wsX7_paint (wsV RX7 180 RX0 yX0_add wsX0_add) := goodIn_app (goodIn_of _ (by decide +kernel)) ggX7_paint_X0_add
set_option maxRecDepth 20000 in
theorem ggX7_paint_X2_set : GoodIn wsX7_paint wsX2_set := goodIn_r _ [44, 24, 45, 62, 63] (by decide +kernel) (by decide +kernel)
set_option maxRecDepth 20000 in
theorem gX7_paint_X2_set : GoodIn wsX7_paint (wsV RX7 98 RX2 yX2_set wsX2_set) := goodIn_app (goodIn_of _ (by decide +kernel)) ggX7_paint_X2_set
theorem dX7_paint_0 : decode cX7_paint 0 = .ok (.aload_n 0, 1) := by decide +kernel
theorem dX7_paint_1 : decode cX7_paint 1 = .ok (.getfield 19, 3) := by decide +kernel
theorem dX7_paint_4 : decode cX7_paint 4 = .ok (.iload_n 1, 1) := by decide +kernel
theorem dX7_paint_5 : decode cX7_paint 5 = .ok (.invokevirtual 132, 3) := by decide +kernel
theorem dX7_paint_8 : decode cX7_paint 8 = .ok (.ifCond .ne 5, 3) := by decide +kernel
theorem dX7_paint_11 : decode cX7_paint 11 = .ok (.iconst (-1), 1) := by decide +kernel
theorem dX7_paint_12 : decode cX7_paint 12 = .ok (.ireturn, 1) := by decide +kernel
theorem dX7_paint_13 : decode cX7_paint 13 = .ok (.iload_n 2, 1) := by decide +kernel
theorem dX7_paint_14 : decode cX7_paint 14 = .ok (.invokestatic 171, 3) := by decide +kernel
theorem dX7_paint_17 : decode cX7_paint 17 = .ok (.ifCond .ne 6, 3) := by decide +kernel
theorem dX7_paint_20 : decode cX7_paint 20 = .ok (.bipush (-2), 2) := by decide +kernel
theorem dX7_paint_22 : decode cX7_paint 22 = .ok (.ireturn, 1) := by decide +kernel
theorem dX7_paint_23 : decode cX7_paint 23 = .ok (.aload_n 0, 1) := by decide +kernel
theorem dX7_paint_24 : decode cX7_paint 24 = .ok (.getfield 28, 3) := by decide +kernel
theorem dX7_paint_27 : decode cX7_paint 27 = .ok (.iload_n 1, 1) := by decide +kernel
theorem dX7_paint_28 : decode cX7_paint 28 = .ok (.invokevirtual 135, 3) := by decide +kernel
theorem dX7_paint_31 : decode cX7_paint 31 = .ok (.istore_n 3, 1) := by decide +kernel
theorem dX7_paint_32 : decode cX7_paint 32 = .ok (.aload_n 0, 1) := by decide +kernel
theorem dX7_paint_33 : decode cX7_paint 33 = .ok (.getfield 50, 3) := by decide +kernel
theorem dX7_paint_36 : decode cX7_paint 36 = .ok (.aload_n 0, 1) := by decide +kernel
theorem dX7_paint_37 : decode cX7_paint 37 = .ok (.getfield 28, 3) := by decide +kernel
theorem dX7_paint_40 : decode cX7_paint 40 = .ok (.invokevirtual 180, 3) := by decide +kernel
theorem dX7_paint_43 : decode cX7_paint 43 = .ok (.aload_n 0, 1) := by decide +kernel
theorem dX7_paint_44 : decode cX7_paint 44 = .ok (.getfield 28, 3) := by decide +kernel
theorem dX7_paint_47 : decode cX7_paint 47 = .ok (.iload_n 1, 1) := by decide +kernel
theorem dX7_paint_48 : decode cX7_paint 48 = .ok (.iload_n 2, 1) := by decide +kernel
theorem dX7_paint_49 : decode cX7_paint 49 = .ok (.invokevirtual 98, 3) := by decide +kernel
theorem dX7_paint_52 : decode cX7_paint 52 = .ok (.iload_n 3, 1) := by decide +kernel
theorem dX7_paint_53 : decode cX7_paint 53 = .ok (.ireturn, 1) := by decide +kernel
set_option maxRecDepth 20000 in
theorem ggX7_negative_X0_add : GoodIn wsX7_negative wsX0_add := goodIn_r _ [8, 9, 10, 11, 12, 13, 14, 15, 16, 17, 18, 19, 20, 21, 93, 94, 95, 96] (by decide +kernel) (by decide +kernel)
set_option maxRecDepth 20000 in
theorem gX7_negative_X0_add : GoodIn wsX7_negative (wsV RX7 180 RX0 yX0_add wsX0_add) := goodIn_app (goodIn_of _ (by decide +kernel)) ggX7_negative_X0_add
set_option maxRecDepth 20000 in
theorem ggX7_negative_X2_turn : GoodIn wsX7_negative wsX2_turn := goodIn_r _ [25, 26, 27, 28, 29, 30, 31, 32, 33, 34, 35, 36, 18, 37, 20, 38, 39, 40, 41, 95, 96, 97, 98, 99, 100, 101, 102] (by decide +kernel) (by decide +kernel)
set_option maxRecDepth 20000 in
theorem gX7_negative_X2_turn : GoodIn wsX7_negative (wsV RX7 183 RX2 yX2_turn wsX2_turn) := goodIn_app (goodIn_of _ (by decide +kernel)) ggX7_negative_X2_turn
set_option maxRecDepth 20000 in
theorem ggX7_negative_X6_countNodes : GoodIn wsX7_negative wsX6_countNodes := goodIn_r _ [46, 47, 48, 49, 50, 45, 51, 52, 53, 54, 55, 56, 57, 58, 59, 60, 35, 36, 18, 37, 20, 61, 62, 63, 64, 65, 66, 67, 68, 31, 69, 70, 71, 72, 73, 74, 75, 76, 77, 78, 79, 80, 81, 82, 103, 104, 105, 106, 107, 95, 96, 97, 98, 99, 100, 101, 102] (by decide +kernel) (by decide +kernel)
set_option maxRecDepth 20000 in
theorem gX7_negative_X6_countNodes : GoodIn wsX7_negative (wsV RX7 104 RX6 yX6_countNodes wsX6_countNodes) := goodIn_app (goodIn_of _ (by decide +kernel)) ggX7_negative_X6_countNodes
theorem dX7_negative_0 : decode cX7_negative 0 = .ok (.aload_n 0, 1) := by decide +kernel
theorem dX7_negative_1 : decode cX7_negative 1 = .ok (.getfield 50, 3) := by decide +kernel
theorem dX7_negative_4 : decode cX7_negative 4 = .ok (.aload_n 0, 1) := by decide +kernel
theorem dX7_negative_5 : decode cX7_negative 5 = .ok (.getfield 28, 3) := by decide +kernel
theorem dX7_negative_8 : decode cX7_negative 8 = .ok (.invokevirtual 180, 3) := by decide +kernel
theorem dX7_negative_11 : decode cX7_negative 11 = .ok (.aload_n 0, 1) := by decide +kernel
theorem dX7_negative_12 : decode cX7_negative 12 = .ok (.getfield 28, 3) := by decide +kernel
theorem dX7_negative_15 : decode cX7_negative 15 = .ok (.invokevirtual 183, 3) := by decide +kernel
theorem dX7_negative_18 : decode cX7_negative 18 = .ok (.aload_n 0, 1) := by decide +kernel
theorem dX7_negative_19 : decode cX7_negative 19 = .ok (.getfield 37, 3) := by decide +kernel
theorem dX7_negative_22 : decode cX7_negative 22 = .ok (.invokevirtual 104, 3) := by decide +kernel
theorem dX7_negative_25 : decode cX7_negative 25 = .ok (.ireturn, 1) := by decide +kernel
set_option maxRecDepth 20000 in
theorem ggX7_sift_X7_isSieve : GoodIn wsX7_sift wsX7_isSieve := goodIn_r _ [6] (by decide +kernel) (by decide +kernel)
set_option maxRecDepth 20000 in
theorem gX7_sift_X7_isSieve : GoodIn wsX7_sift (va_wsS RX7 186 yX7_isSieve wsX7_isSieve) := goodIn_app (goodIn_of _ (by decide +kernel)) ggX7_sift_X7_isSieve
set_option maxRecDepth 20000 in
theorem ggX7_sift_X0_add : GoodIn wsX7_sift wsX0_add := goodIn_r _ [11, 12, 13, 14, 15, 16, 17, 18, 19, 20, 21, 22, 23, 24, 92, 93, 94, 95] (by decide +kernel) (by decide +kernel)
set_option maxRecDepth 20000 in
theorem gX7_sift_X0_add : GoodIn wsX7_sift (wsV RX7 180 RX0 yX0_add wsX0_add) := goodIn_app (goodIn_of _ (by decide +kernel)) ggX7_sift_X0_add
set_option maxRecDepth 20000 in
theorem ggX7_sift_X2_thin : GoodIn wsX7_sift wsX2_thin := goodIn_r _ [28, 23, 29, 30, 31, 32, 21, 33, 34, 35, 36, 37, 38, 39, 40, 41, 42, 43, 44, 45, 46, 47, 48, 49, 50, 51, 52, 53, 54, 55, 56, 57, 58, 59, 60, 61, 62, 63, 64, 65, 66, 67, 68, 69, 70, 71, 72, 73, 74, 75, 76, 77, 78, 79, 80, 81, 94, 95, 96, 97, 98, 99, 100, 101] (by decide +kernel) (by decide +kernel)
set_option maxRecDepth 20000 in
theorem gX7_sift_X2_thin : GoodIn wsX7_sift (wsV RX7 190 RX2 yX2_thin wsX2_thin) := goodIn_app (goodIn_of _ (by decide +kernel)) ggX7_sift_X2_thin
theorem dX7_sift_0 : decode cX7_sift 0 = .ok (.iload_n 1, 1) := by decide +kernel
theorem dX7_sift_1 : decode cX7_sift 1 = .ok (.iload_n 2, 1) := by decide +kernel
theorem dX7_sift_2 : decode cX7_sift 2 = .ok (.invokestatic 186, 3) := by decide +kernel
theorem dX7_sift_5 : decode cX7_sift 5 = .ok (.ifCond .ne 6, 3) := by decide +kernel
theorem dX7_sift_8 : decode cX7_sift 8 = .ok (.bipush (-2), 2) := by decide +kernel
theorem dX7_sift_10 : decode cX7_sift 10 = .ok (.ireturn, 1) := by decide +kernel
theorem dX7_sift_11 : decode cX7_sift 11 = .ok (.aload_n 0, 1) := by decide +kernel
theorem dX7_sift_12 : decode cX7_sift 12 = .ok (.getfield 50, 3) := by decide +kernel
theorem dX7_sift_15 : decode cX7_sift 15 = .ok (.aload_n 0, 1) := by decide +kernel
theorem dX7_sift_16 : decode cX7_sift 16 = .ok (.getfield 28, 3) := by decide +kernel
theorem dX7_sift_19 : decode cX7_sift 19 = .ok (.invokevirtual 180, 3) := by decide +kernel
theorem dX7_sift_22 : decode cX7_sift 22 = .ok (.aload_n 0, 1) := by decide +kernel
theorem dX7_sift_23 : decode cX7_sift 23 = .ok (.getfield 28, 3) := by decide +kernel
theorem dX7_sift_26 : decode cX7_sift 26 = .ok (.iload_n 1, 1) := by decide +kernel
theorem dX7_sift_27 : decode cX7_sift 27 = .ok (.iload_n 2, 1) := by decide +kernel
theorem dX7_sift_28 : decode cX7_sift 28 = .ok (.invokevirtual 190, 3) := by decide +kernel
theorem dX7_sift_31 : decode cX7_sift 31 = .ok (.ireturn, 1) := by decide +kernel
set_option maxRecDepth 20000 in
theorem ggX7_undo_X0_takeBack : GoodIn wsX7_undo wsX0_takeBack := goodIn_r _ [7, 8, 9, 10, 11, 12, 13, 14, 15, 16, 17, 18, 19, 34, 35, 36, 37] (by decide +kernel) (by decide +kernel)
set_option maxRecDepth 20000 in
theorem gX7_undo_X0_takeBack : GoodIn wsX7_undo (wsV RX7 194 RX0 yX0_takeBack wsX0_takeBack) := goodIn_app (goodIn_of _ (by decide +kernel)) ggX7_undo_X0_takeBack
set_option maxRecDepth 20000 in
theorem ggX7_undo_X0_size : GoodIn wsX7_undo wsX0_size := goodIn_r _ [23, 8, 34, 35] (by decide +kernel) (by decide +kernel)
set_option maxRecDepth 20000 in
theorem gX7_undo_X0_size : GoodIn wsX7_undo (wsV RX7 130 RX0 yX0_size wsX0_size) := goodIn_app (goodIn_of _ (by decide +kernel)) ggX7_undo_X0_size
theorem dX7_undo_0 : decode cX7_undo 0 = .ok (.aload_n 0, 1) := by decide +kernel
theorem dX7_undo_1 : decode cX7_undo 1 = .ok (.getfield 50, 3) := by decide +kernel
theorem dX7_undo_4 : decode cX7_undo 4 = .ok (.aload_n 0, 1) := by decide +kernel
theorem dX7_undo_5 : decode cX7_undo 5 = .ok (.getfield 28, 3) := by decide +kernel
theorem dX7_undo_8 : decode cX7_undo 8 = .ok (.invokevirtual 194, 3) := by decide +kernel
theorem dX7_undo_11 : decode cX7_undo 11 = .ok (.ifCond .eq 13, 3) := by decide +kernel
theorem dX7_undo_14 : decode cX7_undo 14 = .ok (.aload_n 0, 1) := by decide +kernel
theorem dX7_undo_15 : decode cX7_undo 15 = .ok (.getfield 50, 3) := by decide +kernel
theorem dX7_undo_18 : decode cX7_undo 18 = .ok (.invokevirtual 130, 3) := by decide +kernel
theorem dX7_undo_21 : decode cX7_undo 21 = .ok (.goto 5, 3) := by decide +kernel
theorem dX7_undo_24 : decode cX7_undo 24 = .ok (.bipush (-3), 2) := by decide +kernel
theorem dX7_undo_26 : decode cX7_undo 26 = .ok (.ireturn, 1) := by decide +kernel
set_option maxRecDepth 20000 in
theorem ggX7_pass_X1_hasDot : GoodIn wsX7_pass wsX1_hasDot := goodIn_r _ [7, 8, 9, 10, 6, 11, 12, 13, 51, 52, 53, 54, 55, 56] (by decide +kernel) (by decide +kernel)
set_option maxRecDepth 20000 in
theorem gX7_pass_X1_hasDot : GoodIn wsX7_pass (wsV RX7 132 RX1 yX1_hasDot wsX1_hasDot) := goodIn_app (goodIn_of _ (by decide +kernel)) ggX7_pass_X1_hasDot
set_option maxRecDepth 20000 in
theorem ggX7_pass_X2_atLeast : GoodIn wsX7_pass wsX2_atLeast := goodIn_r _ [18, 19, 57, 58] (by decide +kernel) (by decide +kernel)
set_option maxRecDepth 20000 in
theorem gX7_pass_X2_atLeast : GoodIn wsX7_pass (wsV RX7 174 RX2 yX2_atLeast wsX2_atLeast) := goodIn_app (goodIn_of _ (by decide +kernel)) ggX7_pass_X2_atLeast
set_option maxRecDepth 20000 in
theorem ggX7_pass_X1_way : GoodIn wsX7_pass wsX1_way := goodIn_r _ [23, 24, 51, 52, 53, 54, 55, 56] (by decide +kernel) (by decide +kernel)
set_option maxRecDepth 20000 in
theorem gX7_pass_X1_way : GoodIn wsX7_pass (wsV RX7 107 RX1 yX1_way wsX1_way) := goodIn_app (goodIn_of _ (by decide +kernel)) ggX7_pass_X1_way
set_option maxRecDepth 20000 in
theorem ggX7_pass_X1_joined : GoodIn wsX7_pass wsX1_joined := goodIn_r _ [28, 29, 4, 5, 6, 7, 8, 9, 10, 11, 12, 13, 30, 31, 32, 33, 34, 35, 36, 37, 38, 39, 40, 51, 52, 53, 54, 55, 56] (by decide +kernel) (by decide +kernel)
set_option maxRecDepth 20000 in
theorem gX7_pass_X1_joined : GoodIn wsX7_pass (wsV RX7 198 RX1 yX1_joined wsX1_joined) := goodIn_app (goodIn_of _ (by decide +kernel)) ggX7_pass_X1_joined
theorem dX7_pass_0 : decode cX7_pass 0 = .ok (.aload_n 0, 1) := by decide +kernel
theorem dX7_pass_1 : decode cX7_pass 1 = .ok (.getfield 19, 3) := by decide +kernel
theorem dX7_pass_4 : decode cX7_pass 4 = .ok (.iload_n 1, 1) := by decide +kernel
theorem dX7_pass_5 : decode cX7_pass 5 = .ok (.invokevirtual 132, 3) := by decide +kernel
theorem dX7_pass_8 : decode cX7_pass 8 = .ok (.ifCond .eq 14, 3) := by decide +kernel
theorem dX7_pass_11 : decode cX7_pass 11 = .ok (.aload_n 0, 1) := by decide +kernel
theorem dX7_pass_12 : decode cX7_pass 12 = .ok (.getfield 19, 3) := by decide +kernel
theorem dX7_pass_15 : decode cX7_pass 15 = .ok (.iload_n 2, 1) := by decide +kernel
theorem dX7_pass_16 : decode cX7_pass 16 = .ok (.invokevirtual 132, 3) := by decide +kernel
theorem dX7_pass_19 : decode cX7_pass 19 = .ok (.ifCond .ne 5, 3) := by decide +kernel
theorem dX7_pass_22 : decode cX7_pass 22 = .ok (.iconst (-1), 1) := by decide +kernel
theorem dX7_pass_23 : decode cX7_pass 23 = .ok (.ireturn, 1) := by decide +kernel
theorem dX7_pass_24 : decode cX7_pass 24 = .ok (.bipush 9, 2) := by decide +kernel
theorem dX7_pass_26 : decode cX7_pass 26 = .ok (.istore_n 3, 1) := by decide +kernel
theorem dX7_pass_27 : decode cX7_pass 27 = .ok (.iload_n 3, 1) := by decide +kernel
theorem dX7_pass_28 : decode cX7_pass 28 = .ok (.ifCond .le 38, 3) := by decide +kernel
theorem dX7_pass_31 : decode cX7_pass 31 = .ok (.aload_n 0, 1) := by decide +kernel
theorem dX7_pass_32 : decode cX7_pass 32 = .ok (.getfield 19, 3) := by decide +kernel
theorem dX7_pass_35 : decode cX7_pass 35 = .ok (.aload_n 0, 1) := by decide +kernel
theorem dX7_pass_36 : decode cX7_pass 36 = .ok (.getfield 28, 3) := by decide +kernel
theorem dX7_pass_39 : decode cX7_pass 39 = .ok (.iload_n 3, 1) := by decide +kernel
theorem dX7_pass_40 : decode cX7_pass 40 = .ok (.invokevirtual 174, 3) := by decide +kernel
theorem dX7_pass_43 : decode cX7_pass 43 = .ok (.iload_n 1, 1) := by decide +kernel
theorem dX7_pass_44 : decode cX7_pass 44 = .ok (.iload_n 2, 1) := by decide +kernel
theorem dX7_pass_45 : decode cX7_pass 45 = .ok (.aload_n 0, 1) := by decide +kernel
theorem dX7_pass_46 : decode cX7_pass 46 = .ok (.getfield 19, 3) := by decide +kernel
theorem dX7_pass_49 : decode cX7_pass 49 = .ok (.invokevirtual 107, 3) := by decide +kernel
theorem dX7_pass_52 : decode cX7_pass 52 = .ok (.invokevirtual 198, 3) := by decide +kernel
theorem dX7_pass_55 : decode cX7_pass 55 = .ok (.ifCond .eq 5, 3) := by decide +kernel
theorem dX7_pass_58 : decode cX7_pass 58 = .ok (.iload_n 3, 1) := by decide +kernel
theorem dX7_pass_59 : decode cX7_pass 59 = .ok (.ireturn, 1) := by decide +kernel
theorem dX7_pass_60 : decode cX7_pass 60 = .ok (.iinc 3 (-1), 3) := by decide +kernel
theorem dX7_pass_63 : decode cX7_pass 63 = .ok (.goto (-36), 3) := by decide +kernel
theorem dX7_pass_66 : decode cX7_pass 66 = .ok (.iconst 0, 1) := by decide +kernel
theorem dX7_pass_67 : decode cX7_pass 67 = .ok (.ireturn, 1) := by decide +kernel
set_option maxRecDepth 20000 in
theorem ggX7_grows_X1_hasDot : GoodIn wsX7_grows wsX1_hasDot := goodIn_r _ [8, 9, 10, 11, 7, 12, 13, 14, 94, 95, 96, 97, 98, 99] (by decide +kernel) (by decide +kernel)
set_option maxRecDepth 20000 in
theorem gX7_grows_X1_hasDot : GoodIn wsX7_grows (wsV RX7 132 RX1 yX1_hasDot wsX1_hasDot) := goodIn_app (goodIn_of _ (by decide +kernel)) ggX7_grows_X1_hasDot
set_option maxRecDepth 20000 in
theorem ggX7_grows_X7_isStep : GoodIn wsX7_grows wsX7_isStep := goodIn_r _ [18] (by decide +kernel) (by decide +kernel)
set_option maxRecDepth 20000 in
theorem gX7_grows_X7_isStep : GoodIn wsX7_grows (va_wsS RX7 202 yX7_isStep wsX7_isStep) := goodIn_app (goodIn_of _ (by decide +kernel)) ggX7_grows_X7_isStep
set_option maxRecDepth 20000 in
theorem ggX7_grows_X6_nodeOf : GoodIn wsX7_grows wsX6_nodeOf := goodIn_r _ [23, 24, 25, 26, 5, 6, 7, 8, 9, 10, 11, 12, 13, 14, 27, 28, 29, 30, 31, 32, 33, 34, 35, 22, 36, 37, 38, 39, 40, 41, 42, 43, 44, 45, 46, 47, 48, 49, 50, 51, 52, 53, 54, 55, 56, 100, 101, 102, 103, 104, 94, 95, 96, 97, 98, 99, 105, 106] (by decide +kernel) (by decide +kernel)
set_option maxRecDepth 20000 in
theorem gX7_grows_X6_nodeOf : GoodIn wsX7_grows (wsV RX7 138 RX6 yX6_nodeOf wsX6_nodeOf) := goodIn_app (goodIn_of _ (by decide +kernel)) ggX7_grows_X6_nodeOf
set_option maxRecDepth 20000 in
theorem ggX7_grows_X2_of : GoodIn wsX7_grows wsX2_of := goodIn_r _ [31, 32, 105, 106] (by decide +kernel) (by decide +kernel)
set_option maxRecDepth 20000 in
theorem gX7_grows_X2_of : GoodIn wsX7_grows (wsV RX7 135 RX2 yX2_of wsX2_of) := goodIn_app (goodIn_of _ (by decide +kernel)) ggX7_grows_X2_of
set_option maxRecDepth 20000 in
theorem ggX7_grows_X6_gain : GoodIn wsX7_grows wsX6_gain := goodIn_r _ [61, 62, 63, 64, 65, 66, 33, 34, 35, 22, 36, 24, 25, 37, 38, 39, 30, 40, 32, 41, 42, 43, 7, 44, 45, 46, 47, 48, 49, 50, 51, 52, 53, 54, 55, 56, 13, 67, 68, 69, 70, 71, 72, 73, 100, 101, 102, 103, 104, 105, 106, 94, 95, 96, 97, 98, 99] (by decide +kernel) (by decide +kernel)
set_option maxRecDepth 20000 in
theorem gX7_grows_X6_gain : GoodIn wsX7_grows (wsV RX7 205 RX6 yX6_gain wsX6_gain) := goodIn_app (goodIn_of _ (by decide +kernel)) ggX7_grows_X6_gain
set_option maxRecDepth 20000 in
theorem ggX7_grows_J13_bitCount_95d88 : GoodIn wsX7_grows wsJ13_bitCount_95d88 := goodIn_r _ [70, 71, 72, 73] (by decide +kernel) (by decide +kernel)
set_option maxRecDepth 20000 in
theorem gX7_grows_J13_bitCount_95d88 : GoodIn wsX7_grows (va_wsS RX7 146 yJ13_bitCount_95d88 wsJ13_bitCount_95d88) := goodIn_app (goodIn_of _ (by decide +kernel)) ggX7_grows_J13_bitCount_95d88
set_option maxRecDepth 20000 in
theorem ggX7_grows_X7_fraction : GoodIn wsX7_grows wsX7_fraction := goodIn_r _ [77, 78, 79, 64, 80, 81, 82, 17, 83] (by decide +kernel) (by decide +kernel)
set_option maxRecDepth 20000 in
theorem gX7_grows_X7_fraction : GoodIn wsX7_grows (va_wsS RX7 209 yX7_fraction wsX7_fraction) := goodIn_app (goodIn_of _ (by decide +kernel)) ggX7_grows_X7_fraction
theorem dX7_grows_0 : decode cX7_grows 0 = .ok (.aload_n 0, 1) := by decide +kernel
theorem dX7_grows_1 : decode cX7_grows 1 = .ok (.getfield 19, 3) := by decide +kernel
theorem dX7_grows_4 : decode cX7_grows 4 = .ok (.iload_n 1, 1) := by decide +kernel
theorem dX7_grows_5 : decode cX7_grows 5 = .ok (.invokevirtual 132, 3) := by decide +kernel
theorem dX7_grows_8 : decode cX7_grows 8 = .ok (.ifCond .ne 5, 3) := by decide +kernel
theorem dX7_grows_11 : decode cX7_grows 11 = .ok (.iconst (-1), 1) := by decide +kernel
theorem dX7_grows_12 : decode cX7_grows 12 = .ok (.ireturn, 1) := by decide +kernel
theorem dX7_grows_13 : decode cX7_grows 13 = .ok (.iload_n 2, 1) := by decide +kernel
theorem dX7_grows_14 : decode cX7_grows 14 = .ok (.invokestatic 202, 3) := by decide +kernel
theorem dX7_grows_17 : decode cX7_grows 17 = .ok (.ifCond .ne 6, 3) := by decide +kernel
theorem dX7_grows_20 : decode cX7_grows 20 = .ok (.bipush (-2), 2) := by decide +kernel
theorem dX7_grows_22 : decode cX7_grows 22 = .ok (.ireturn, 1) := by decide +kernel
theorem dX7_grows_23 : decode cX7_grows 23 = .ok (.aload_n 0, 1) := by decide +kernel
theorem dX7_grows_24 : decode cX7_grows 24 = .ok (.getfield 37, 3) := by decide +kernel
theorem dX7_grows_27 : decode cX7_grows 27 = .ok (.iload_n 1, 1) := by decide +kernel
theorem dX7_grows_28 : decode cX7_grows 28 = .ok (.invokevirtual 138, 3) := by decide +kernel
theorem dX7_grows_31 : decode cX7_grows 31 = .ok (.lstore 4, 2) := by decide +kernel
theorem dX7_grows_33 : decode cX7_grows 33 = .ok (.aload_n 0, 1) := by decide +kernel
theorem dX7_grows_34 : decode cX7_grows 34 = .ok (.getfield 37, 3) := by decide +kernel
theorem dX7_grows_37 : decode cX7_grows 37 = .ok (.lload 4, 2) := by decide +kernel
theorem dX7_grows_39 : decode cX7_grows 39 = .ok (.aload_n 0, 1) := by decide +kernel
theorem dX7_grows_40 : decode cX7_grows 40 = .ok (.getfield 28, 3) := by decide +kernel
theorem dX7_grows_43 : decode cX7_grows 43 = .ok (.iload_n 1, 1) := by decide +kernel
theorem dX7_grows_44 : decode cX7_grows 44 = .ok (.invokevirtual 135, 3) := by decide +kernel
theorem dX7_grows_47 : decode cX7_grows 47 = .ok (.iload_n 2, 1) := by decide +kernel
theorem dX7_grows_48 : decode cX7_grows 48 = .ok (.invokevirtual 205, 3) := by decide +kernel
theorem dX7_grows_51 : decode cX7_grows 51 = .ok (.lload 4, 2) := by decide +kernel
theorem dX7_grows_53 : decode cX7_grows 53 = .ok (.invokestatic 146, 3) := by decide +kernel
theorem dX7_grows_56 : decode cX7_grows 56 = .ok (.iload_n 3, 1) := by decide +kernel
theorem dX7_grows_57 : decode cX7_grows 57 = .ok (.invokestatic 209, 3) := by decide +kernel
theorem dX7_grows_60 : decode cX7_grows 60 = .ok (.ireturn, 1) := by decide +kernel
set_option maxRecDepth 20000 in
theorem ggX7_steady_X1_hasDot : GoodIn wsX7_steady wsX1_hasDot := goodIn_r _ [8, 9, 10, 11, 7, 12, 13, 14, 96, 97, 98, 99, 100, 101] (by decide +kernel) (by decide +kernel)
set_option maxRecDepth 20000 in
theorem gX7_steady_X1_hasDot : GoodIn wsX7_steady (wsV RX7 132 RX1 yX1_hasDot wsX1_hasDot) := goodIn_app (goodIn_of _ (by decide +kernel)) ggX7_steady_X1_hasDot
set_option maxRecDepth 20000 in
theorem ggX7_steady_X7_isStep : GoodIn wsX7_steady wsX7_isStep := goodIn_r _ [18] (by decide +kernel) (by decide +kernel)
set_option maxRecDepth 20000 in
theorem gX7_steady_X7_isStep : GoodIn wsX7_steady (va_wsS RX7 202 yX7_isStep wsX7_isStep) := goodIn_app (goodIn_of _ (by decide +kernel)) ggX7_steady_X7_isStep
set_option maxRecDepth 20000 in
theorem ggX7_steady_X6_nodeOf : GoodIn wsX7_steady wsX6_nodeOf := goodIn_r _ [23, 24, 25, 26, 5, 6, 7, 8, 9, 10, 11, 12, 13, 14, 27, 28, 29, 30, 31, 32, 33, 34, 35, 22, 36, 37, 38, 39, 40, 41, 42, 43, 44, 45, 46, 47, 48, 49, 50, 51, 52, 53, 54, 55, 56, 102, 103, 104, 105, 106, 96, 97, 98, 99, 100, 101, 107, 108] (by decide +kernel) (by decide +kernel)
set_option maxRecDepth 20000 in
theorem gX7_steady_X6_nodeOf : GoodIn wsX7_steady (wsV RX7 138 RX6 yX6_nodeOf wsX6_nodeOf) := goodIn_app (goodIn_of _ (by decide +kernel)) ggX7_steady_X6_nodeOf
set_option maxRecDepth 20000 in
theorem ggX7_steady_X2_of : GoodIn wsX7_steady wsX2_of := goodIn_r _ [31, 32, 107, 108] (by decide +kernel) (by decide +kernel)
set_option maxRecDepth 20000 in
theorem gX7_steady_X2_of : GoodIn wsX7_steady (wsV RX7 135 RX2 yX2_of wsX2_of) := goodIn_app (goodIn_of _ (by decide +kernel)) ggX7_steady_X2_of
set_option maxRecDepth 20000 in
theorem ggX7_steady_X6_isSteady : GoodIn wsX7_steady wsX6_isSteady := goodIn_r _ [61, 25, 62, 63, 64, 65, 22, 66, 67, 68, 69, 70, 33, 34, 35, 36, 24, 37, 38, 39, 30, 40, 32, 41, 42, 43, 7, 44, 45, 46, 47, 48, 49, 50, 51, 52, 53, 54, 55, 56, 13, 71, 72, 73, 74, 75, 76, 77, 78, 79, 80, 81, 82, 83, 84, 85, 102, 103, 104, 105, 106, 107, 108, 96, 97, 98, 99, 100, 101] (by decide +kernel) (by decide +kernel)
set_option maxRecDepth 20000 in
theorem gX7_steady_X6_isSteady : GoodIn wsX7_steady (wsV RX7 213 RX6 yX6_isSteady wsX6_isSteady) := goodIn_app (goodIn_of _ (by decide +kernel)) ggX7_steady_X6_isSteady
theorem dX7_steady_0 : decode cX7_steady 0 = .ok (.aload_n 0, 1) := by decide +kernel
theorem dX7_steady_1 : decode cX7_steady 1 = .ok (.getfield 19, 3) := by decide +kernel
theorem dX7_steady_4 : decode cX7_steady 4 = .ok (.iload_n 1, 1) := by decide +kernel
theorem dX7_steady_5 : decode cX7_steady 5 = .ok (.invokevirtual 132, 3) := by decide +kernel
theorem dX7_steady_8 : decode cX7_steady 8 = .ok (.ifCond .ne 5, 3) := by decide +kernel
theorem dX7_steady_11 : decode cX7_steady 11 = .ok (.iconst (-1), 1) := by decide +kernel
theorem dX7_steady_12 : decode cX7_steady 12 = .ok (.ireturn, 1) := by decide +kernel
theorem dX7_steady_13 : decode cX7_steady 13 = .ok (.iload_n 2, 1) := by decide +kernel
theorem dX7_steady_14 : decode cX7_steady 14 = .ok (.invokestatic 202, 3) := by decide +kernel
theorem dX7_steady_17 : decode cX7_steady 17 = .ok (.ifCond .ne 6, 3) := by decide +kernel
theorem dX7_steady_20 : decode cX7_steady 20 = .ok (.bipush (-2), 2) := by decide +kernel
theorem dX7_steady_22 : decode cX7_steady 22 = .ok (.ireturn, 1) := by decide +kernel
theorem dX7_steady_23 : decode cX7_steady 23 = .ok (.aload_n 0, 1) := by decide +kernel
theorem dX7_steady_24 : decode cX7_steady 24 = .ok (.getfield 37, 3) := by decide +kernel
theorem dX7_steady_27 : decode cX7_steady 27 = .ok (.aload_n 0, 1) := by decide +kernel
theorem dX7_steady_28 : decode cX7_steady 28 = .ok (.getfield 37, 3) := by decide +kernel
theorem dX7_steady_31 : decode cX7_steady 31 = .ok (.iload_n 1, 1) := by decide +kernel
theorem dX7_steady_32 : decode cX7_steady 32 = .ok (.invokevirtual 138, 3) := by decide +kernel
theorem dX7_steady_35 : decode cX7_steady 35 = .ok (.aload_n 0, 1) := by decide +kernel
theorem dX7_steady_36 : decode cX7_steady 36 = .ok (.getfield 28, 3) := by decide +kernel
theorem dX7_steady_39 : decode cX7_steady 39 = .ok (.iload_n 1, 1) := by decide +kernel
theorem dX7_steady_40 : decode cX7_steady 40 = .ok (.invokevirtual 135, 3) := by decide +kernel
theorem dX7_steady_43 : decode cX7_steady 43 = .ok (.iload_n 2, 1) := by decide +kernel
theorem dX7_steady_44 : decode cX7_steady 44 = .ok (.invokevirtual 213, 3) := by decide +kernel
theorem dX7_steady_47 : decode cX7_steady 47 = .ok (.ifCond .eq 7, 3) := by decide +kernel
theorem dX7_steady_50 : decode cX7_steady 50 = .ok (.iconst 1, 1) := by decide +kernel
theorem dX7_steady_51 : decode cX7_steady 51 = .ok (.goto 4, 3) := by decide +kernel
theorem dX7_steady_54 : decode cX7_steady 54 = .ok (.iconst 0, 1) := by decide +kernel
theorem dX7_steady_55 : decode cX7_steady 55 = .ok (.ireturn, 1) := by decide +kernel
set_option maxRecDepth 20000 in
theorem ggX7_judge_X7_withoutLast : GoodIn wsX7_judge wsX7_withoutLast := goodIn_r _ [7, 3] (by decide +kernel) (by decide +kernel)
set_option maxRecDepth 20000 in
theorem gX7_judge_X7_withoutLast : GoodIn wsX7_judge (va_wsS RX7 217 yX7_withoutLast wsX7_withoutLast) := goodIn_app (goodIn_of _ (by decide +kernel)) ggX7_judge_X7_withoutLast
set_option maxRecDepth 20000 in
theorem ggX7_judge_X2_copy : GoodIn wsX7_judge wsX2_copy := goodIn_r _ [12, 13, 14, 15, 16, 11, 17, 18, 19, 20, 21, 173, 174] (by decide +kernel) (by decide +kernel)
set_option maxRecDepth 20000 in
theorem gX7_judge_X2_copy : GoodIn wsX7_judge (wsV RX7 221 RX2 yX2_copy wsX2_copy) := goodIn_app (goodIn_of _ (by decide +kernel)) ggX7_judge_X2_copy
set_option maxRecDepth 20000 in
theorem ggX7_judge_X7_comesTrue : GoodIn wsX7_judge wsX7_comesTrue := goodIn_r _ [25, 26, 27, 1, 28, 29, 30, 6, 31, 32, 33, 34, 35, 36, 37, 38, 39, 40, 41, 42, 43, 44, 45, 11, 46, 13, 47, 48, 49, 50, 51, 52, 53, 54, 55, 56, 57, 58, 59, 60, 61, 62, 63, 64, 65, 66, 67, 68, 69, 70, 71, 72, 73, 74, 75, 76, 77, 78, 79, 80, 81, 82, 83, 84, 85, 86, 87, 88, 89, 90, 91, 92, 93, 94, 95, 96, 97, 98, 99, 100, 101, 102, 103, 104, 105, 106, 107, 108, 109, 110, 111, 112, 113, 114, 115, 116, 117, 118, 119, 120, 121, 122, 123, 124, 125, 126, 127, 128, 129, 130, 131, 132, 133, 134, 135, 136, 137, 138, 139, 140, 141, 142, 143, 144, 145, 146, 147, 148, 149, 150, 151, 152, 153, 154, 155, 156, 157, 158, 159, 160, 161, 162, 163, 164, 165, 166, 167, 168, 169, 170, 171, 172, 175, 176, 177, 178, 179, 180, 173, 174, 181, 182, 183, 184, 185] (by decide +kernel) (by decide +kernel)
set_option maxRecDepth 20000 in
theorem gX7_judge_X7_comesTrue : GoodIn wsX7_judge (wsV RX7 226 RX7 yX7_comesTrue wsX7_comesTrue) := goodIn_app (goodIn_of _ (by decide +kernel)) ggX7_judge_X7_comesTrue
theorem dX7_judge_0 : decode cX7_judge 0 = .ok (.iload_n 1, 1) := by decide +kernel
theorem dX7_judge_1 : decode cX7_judge 1 = .ok (.iconst 1, 1) := by decide +kernel
theorem dX7_judge_2 : decode cX7_judge 2 = .ok (.if_icmp .lt 24, 3) := by decide +kernel
theorem dX7_judge_5 : decode cX7_judge 5 = .ok (.iload_n 1, 1) := by decide +kernel
theorem dX7_judge_6 : decode cX7_judge 6 = .ok (.iconst 4, 1) := by decide +kernel
theorem dX7_judge_7 : decode cX7_judge 7 = .ok (.if_icmp .gt 19, 3) := by decide +kernel
theorem dX7_judge_10 : decode cX7_judge 10 = .ok (.lload_n 2, 1) := by decide +kernel
theorem dX7_judge_11 : decode cX7_judge 11 = .ok (.lconst 0, 1) := by decide +kernel
theorem dX7_judge_12 : decode cX7_judge 12 = .ok (.lcmp, 1) := by decide +kernel
theorem dX7_judge_13 : decode cX7_judge 13 = .ok (.ifCond .lt 13, 3) := by decide +kernel
theorem dX7_judge_16 : decode cX7_judge 16 = .ok (.lload_n 2, 1) := by decide +kernel
theorem dX7_judge_17 : decode cX7_judge 17 = .ok (.iload_n 1, 1) := by decide +kernel
theorem dX7_judge_18 : decode cX7_judge 18 = .ok (.invokestatic 217, 3) := by decide +kernel
theorem dX7_judge_21 : decode cX7_judge 21 = .ok (.lconst 0, 1) := by decide +kernel
theorem dX7_judge_22 : decode cX7_judge 22 = .ok (.lcmp, 1) := by decide +kernel
theorem dX7_judge_23 : decode cX7_judge 23 = .ok (.ifCond .eq 6, 3) := by decide +kernel
theorem dX7_judge_26 : decode cX7_judge 26 = .ok (.bipush (-2), 2) := by decide +kernel
theorem dX7_judge_28 : decode cX7_judge 28 = .ok (.ireturn, 1) := by decide +kernel
theorem dX7_judge_29 : decode cX7_judge 29 = .ok (.aload_n 0, 1) := by decide +kernel
theorem dX7_judge_30 : decode cX7_judge 30 = .ok (.getfield 41, 3) := by decide +kernel
theorem dX7_judge_33 : decode cX7_judge 33 = .ok (.aload_n 0, 1) := by decide +kernel
theorem dX7_judge_34 : decode cX7_judge 34 = .ok (.getfield 28, 3) := by decide +kernel
theorem dX7_judge_37 : decode cX7_judge 37 = .ok (.invokevirtual 221, 3) := by decide +kernel
theorem dX7_judge_40 : decode cX7_judge 40 = .ok (.iconst 0, 1) := by decide +kernel
theorem dX7_judge_41 : decode cX7_judge 41 = .ok (.istore 4, 2) := by decide +kernel
theorem dX7_judge_43 : decode cX7_judge 43 = .ok (.iload 4, 2) := by decide +kernel
theorem dX7_judge_45 : decode cX7_judge 45 = .ok (.iload_n 1, 1) := by decide +kernel
theorem dX7_judge_46 : decode cX7_judge 46 = .ok (.if_icmp .ge 55, 3) := by decide +kernel
theorem dX7_judge_49 : decode cX7_judge 49 = .ok (.lload_n 2, 1) := by decide +kernel
theorem dX7_judge_50 : decode cX7_judge 50 = .ok (.iload_n 1, 1) := by decide +kernel
theorem dX7_judge_51 : decode cX7_judge 51 = .ok (.iconst 1, 1) := by decide +kernel
theorem dX7_judge_52 : decode cX7_judge 52 = .ok (.isub, 1) := by decide +kernel
theorem dX7_judge_53 : decode cX7_judge 53 = .ok (.iload 4, 2) := by decide +kernel
theorem dX7_judge_55 : decode cX7_judge 55 = .ok (.isub, 1) := by decide +kernel
theorem dX7_judge_56 : decode cX7_judge 56 = .ok (.invokestatic 217, 3) := by decide +kernel
theorem dX7_judge_59 : decode cX7_judge 59 = .ok (.ldc2_w 224, 3) := by decide +kernel
theorem dX7_judge_62 : decode cX7_judge 62 = .ok (.lrem, 1) := by decide +kernel
theorem dX7_judge_63 : decode cX7_judge 63 = .ok (.l2i, 1) := by decide +kernel
theorem dX7_judge_64 : decode cX7_judge 64 = .ok (.istore 5, 2) := by decide +kernel
theorem dX7_judge_66 : decode cX7_judge 66 = .ok (.aload_n 0, 1) := by decide +kernel
theorem dX7_judge_67 : decode cX7_judge 67 = .ok (.iload 5, 2) := by decide +kernel
theorem dX7_judge_69 : decode cX7_judge 69 = .ok (.sipush 1000, 3) := by decide +kernel
theorem dX7_judge_72 : decode cX7_judge 72 = .ok (.idiv, 1) := by decide +kernel
theorem dX7_judge_73 : decode cX7_judge 73 = .ok (.iload 5, 2) := by decide +kernel
theorem dX7_judge_75 : decode cX7_judge 75 = .ok (.bipush 10, 2) := by decide +kernel
theorem dX7_judge_77 : decode cX7_judge 77 = .ok (.idiv, 1) := by decide +kernel
theorem dX7_judge_78 : decode cX7_judge 78 = .ok (.bipush 100, 2) := by decide +kernel
theorem dX7_judge_80 : decode cX7_judge 80 = .ok (.irem, 1) := by decide +kernel
theorem dX7_judge_81 : decode cX7_judge 81 = .ok (.iload 5, 2) := by decide +kernel
theorem dX7_judge_83 : decode cX7_judge 83 = .ok (.bipush 10, 2) := by decide +kernel
theorem dX7_judge_85 : decode cX7_judge 85 = .ok (.irem, 1) := by decide +kernel
theorem dX7_judge_86 : decode cX7_judge 86 = .ok (.invokevirtual 226, 3) := by decide +kernel
theorem dX7_judge_89 : decode cX7_judge 89 = .ok (.ifCond .ne 6, 3) := by decide +kernel
theorem dX7_judge_92 : decode cX7_judge 92 = .ok (.iload 4, 2) := by decide +kernel
theorem dX7_judge_94 : decode cX7_judge 94 = .ok (.ireturn, 1) := by decide +kernel
theorem dX7_judge_95 : decode cX7_judge 95 = .ok (.iinc 4 1, 3) := by decide +kernel
theorem dX7_judge_98 : decode cX7_judge 98 = .ok (.goto (-55), 3) := by decide +kernel
theorem dX7_judge_101 : decode cX7_judge 101 = .ok (.bipush (-9), 2) := by decide +kernel
theorem dX7_judge_103 : decode cX7_judge 103 = .ok (.ireturn, 1) := by decide +kernel
set_option maxRecDepth 20000 in
theorem ggX7_share_X1_hasRow : GoodIn wsX7_share wsX1_hasRow := goodIn_r _ [7, 8, 90, 91, 92, 93, 94, 95] (by decide +kernel) (by decide +kernel)
set_option maxRecDepth 20000 in
theorem gX7_share_X1_hasRow : GoodIn wsX7_share (wsV RX7 230 RX1 yX1_hasRow wsX1_hasRow) := goodIn_app (goodIn_of _ (by decide +kernel)) ggX7_share_X1_hasRow
set_option maxRecDepth 20000 in
theorem ggX7_share_X7_isShade : GoodIn wsX7_share wsX7_isShade := goodIn_r _ [12] (by decide +kernel) (by decide +kernel)
set_option maxRecDepth 20000 in
theorem gX7_share_X7_isShade : GoodIn wsX7_share (va_wsS RX7 171 yX7_isShade wsX7_isShade) := goodIn_app (goodIn_of _ (by decide +kernel)) ggX7_share_X7_isShade
set_option maxRecDepth 20000 in
theorem ggX7_share_X2_atLeast : GoodIn wsX7_share wsX2_atLeast := goodIn_r _ [17, 18, 96, 97] (by decide +kernel) (by decide +kernel)
set_option maxRecDepth 20000 in
theorem gX7_share_X2_atLeast : GoodIn wsX7_share (wsV RX7 174 RX2 yX2_atLeast wsX2_atLeast) := goodIn_app (goodIn_of _ (by decide +kernel)) ggX7_share_X2_atLeast
set_option maxRecDepth 20000 in
theorem ggX7_share_X7_sharedOut : GoodIn wsX7_share wsX7_sharedOut := goodIn_r _ [22, 1, 23, 24, 25, 6, 26, 8, 27, 28, 29, 30, 31, 32, 33, 34, 35, 11, 36, 37, 38, 39, 40, 41, 42, 43, 44, 45, 46, 47, 48, 49, 50, 51, 52, 53, 54, 55, 56, 57, 58, 59, 60, 61, 62, 63, 64, 65, 66, 67, 68, 69, 80, 81, 82, 83, 84, 85, 86, 87, 88, 89, 90, 91, 92, 93, 94, 95] (by decide +kernel) (by decide +kernel)
set_option maxRecDepth 20000 in
theorem gX7_share_X7_sharedOut : GoodIn wsX7_share (wsV RX7 233 RX7 yX7_sharedOut wsX7_sharedOut) := goodIn_app (goodIn_of _ (by decide +kernel)) ggX7_share_X7_sharedOut
set_option maxRecDepth 20000 in
theorem ggX7_share_X1_high : GoodIn wsX7_share wsX1_high := goodIn_r _ [26, 8, 90, 91, 92, 93, 94, 95] (by decide +kernel) (by decide +kernel)
set_option maxRecDepth 20000 in
theorem gX7_share_X1_high : GoodIn wsX7_share (wsV RX7 113 RX1 yX1_high wsX1_high) := goodIn_app (goodIn_of _ (by decide +kernel)) ggX7_share_X1_high
set_option maxRecDepth 20000 in
theorem ggX7_share_X7_factorial : GoodIn wsX7_share wsX7_factorial := goodIn_r _ [36] (by decide +kernel) (by decide +kernel)
set_option maxRecDepth 20000 in
theorem gX7_share_X7_factorial : GoodIn wsX7_share (va_wsS RX7 236 yX7_factorial wsX7_factorial) := goodIn_app (goodIn_of _ (by decide +kernel)) ggX7_share_X7_factorial
set_option maxRecDepth 20000 in
theorem ggX7_share_X7_fraction : GoodIn wsX7_share wsX7_fraction := goodIn_r _ [72, 73, 74, 75, 76, 77, 78, 11, 79] (by decide +kernel) (by decide +kernel)
set_option maxRecDepth 20000 in
theorem gX7_share_X7_fraction : GoodIn wsX7_share (va_wsS RX7 209 yX7_fraction wsX7_fraction) := goodIn_app (goodIn_of _ (by decide +kernel)) ggX7_share_X7_fraction
theorem dX7_share_0 : decode cX7_share 0 = .ok (.aload_n 0, 1) := by decide +kernel
theorem dX7_share_1 : decode cX7_share 1 = .ok (.getfield 19, 3) := by decide +kernel
theorem dX7_share_4 : decode cX7_share 4 = .ok (.iload_n 1, 1) := by decide +kernel
theorem dX7_share_5 : decode cX7_share 5 = .ok (.invokevirtual 230, 3) := by decide +kernel
theorem dX7_share_8 : decode cX7_share 8 = .ok (.ifCond .ne 5, 3) := by decide +kernel
theorem dX7_share_11 : decode cX7_share 11 = .ok (.iconst (-1), 1) := by decide +kernel
theorem dX7_share_12 : decode cX7_share 12 = .ok (.ireturn, 1) := by decide +kernel
theorem dX7_share_13 : decode cX7_share 13 = .ok (.iload_n 2, 1) := by decide +kernel
theorem dX7_share_14 : decode cX7_share 14 = .ok (.invokestatic 171, 3) := by decide +kernel
theorem dX7_share_17 : decode cX7_share 17 = .ok (.ifCond .ne 6, 3) := by decide +kernel
theorem dX7_share_20 : decode cX7_share 20 = .ok (.bipush (-2), 2) := by decide +kernel
theorem dX7_share_22 : decode cX7_share 22 = .ok (.ireturn, 1) := by decide +kernel
theorem dX7_share_23 : decode cX7_share 23 = .ok (.aload_n 0, 1) := by decide +kernel
theorem dX7_share_24 : decode cX7_share 24 = .ok (.aload_n 0, 1) := by decide +kernel
theorem dX7_share_25 : decode cX7_share 25 = .ok (.getfield 28, 3) := by decide +kernel
theorem dX7_share_28 : decode cX7_share 28 = .ok (.iload_n 2, 1) := by decide +kernel
theorem dX7_share_29 : decode cX7_share 29 = .ok (.invokevirtual 174, 3) := by decide +kernel
theorem dX7_share_32 : decode cX7_share 32 = .ok (.iload_n 1, 1) := by decide +kernel
theorem dX7_share_33 : decode cX7_share 33 = .ok (.invokevirtual 233, 3) := by decide +kernel
theorem dX7_share_36 : decode cX7_share 36 = .ok (.aload_n 0, 1) := by decide +kernel
theorem dX7_share_37 : decode cX7_share 37 = .ok (.getfield 19, 3) := by decide +kernel
theorem dX7_share_40 : decode cX7_share 40 = .ok (.invokevirtual 113, 3) := by decide +kernel
theorem dX7_share_43 : decode cX7_share 43 = .ok (.invokestatic 236, 3) := by decide +kernel
theorem dX7_share_46 : decode cX7_share 46 = .ok (.iload_n 3, 1) := by decide +kernel
theorem dX7_share_47 : decode cX7_share 47 = .ok (.invokestatic 209, 3) := by decide +kernel
theorem dX7_share_50 : decode cX7_share 50 = .ok (.ireturn, 1) := by decide +kernel
set_option maxRecDepth 20000 in
theorem ggX7_see_X1_hasDot : GoodIn wsX7_see wsX1_hasDot := goodIn_r _ [7, 8, 9, 10, 6, 11, 12, 13, 37, 38, 39, 40, 41, 42] (by decide +kernel) (by decide +kernel)
set_option maxRecDepth 20000 in
theorem gX7_see_X1_hasDot : GoodIn wsX7_see (wsV RX7 132 RX1 yX1_hasDot wsX1_hasDot) := goodIn_app (goodIn_of _ (by decide +kernel)) ggX7_see_X1_hasDot
set_option maxRecDepth 20000 in
theorem ggX7_see_X3_add : GoodIn wsX7_see wsX3_add := goodIn_r _ [18, 19, 20, 21, 22, 43, 44, 45, 46] (by decide +kernel) (by decide +kernel)
set_option maxRecDepth 20000 in
theorem gX7_see_X3_add : GoodIn wsX7_see (wsV RX7 239 RX3 yX3_add wsX3_add) := goodIn_app (goodIn_of _ (by decide +kernel)) ggX7_see_X3_add
set_option maxRecDepth 20000 in
theorem ggX7_see_X3_size : GoodIn wsX7_see wsX3_size := goodIn_r _ [26, 19, 43, 44, 45, 46] (by decide +kernel) (by decide +kernel)
set_option maxRecDepth 20000 in
theorem gX7_see_X3_size : GoodIn wsX7_see (wsV RX7 131 RX3 yX3_size wsX3_size) := goodIn_app (goodIn_of _ (by decide +kernel)) ggX7_see_X3_size
theorem dX7_see_0 : decode cX7_see 0 = .ok (.aload_n 0, 1) := by decide +kernel
theorem dX7_see_1 : decode cX7_see 1 = .ok (.getfield 19, 3) := by decide +kernel
theorem dX7_see_4 : decode cX7_see 4 = .ok (.iload_n 1, 1) := by decide +kernel
theorem dX7_see_5 : decode cX7_see 5 = .ok (.invokevirtual 132, 3) := by decide +kernel
theorem dX7_see_8 : decode cX7_see 8 = .ok (.ifCond .eq 14, 3) := by decide +kernel
theorem dX7_see_11 : decode cX7_see 11 = .ok (.aload_n 0, 1) := by decide +kernel
theorem dX7_see_12 : decode cX7_see 12 = .ok (.getfield 19, 3) := by decide +kernel
theorem dX7_see_15 : decode cX7_see 15 = .ok (.iload_n 2, 1) := by decide +kernel
theorem dX7_see_16 : decode cX7_see 16 = .ok (.invokevirtual 132, 3) := by decide +kernel
theorem dX7_see_19 : decode cX7_see 19 = .ok (.ifCond .ne 5, 3) := by decide +kernel
theorem dX7_see_22 : decode cX7_see 22 = .ok (.iconst (-1), 1) := by decide +kernel
theorem dX7_see_23 : decode cX7_see 23 = .ok (.ireturn, 1) := by decide +kernel
theorem dX7_see_24 : decode cX7_see 24 = .ok (.iload_n 3, 1) := by decide +kernel
theorem dX7_see_25 : decode cX7_see 25 = .ok (.ifCond .eq 11, 3) := by decide +kernel
theorem dX7_see_28 : decode cX7_see 28 = .ok (.iload_n 3, 1) := by decide +kernel
theorem dX7_see_29 : decode cX7_see 29 = .ok (.iconst 1, 1) := by decide +kernel
theorem dX7_see_30 : decode cX7_see 30 = .ok (.if_icmp .eq 6, 3) := by decide +kernel
theorem dX7_see_33 : decode cX7_see 33 = .ok (.bipush (-2), 2) := by decide +kernel
theorem dX7_see_35 : decode cX7_see 35 = .ok (.ireturn, 1) := by decide +kernel
theorem dX7_see_36 : decode cX7_see 36 = .ok (.aload_n 0, 1) := by decide +kernel
theorem dX7_see_37 : decode cX7_see 37 = .ok (.getfield 64, 3) := by decide +kernel
theorem dX7_see_40 : decode cX7_see 40 = .ok (.iload_n 1, 1) := by decide +kernel
theorem dX7_see_41 : decode cX7_see 41 = .ok (.iload_n 2, 1) := by decide +kernel
theorem dX7_see_42 : decode cX7_see 42 = .ok (.iload_n 3, 1) := by decide +kernel
theorem dX7_see_43 : decode cX7_see 43 = .ok (.iconst 1, 1) := by decide +kernel
theorem dX7_see_44 : decode cX7_see 44 = .ok (.if_icmp .ne 7, 3) := by decide +kernel
theorem dX7_see_47 : decode cX7_see 47 = .ok (.iconst 1, 1) := by decide +kernel
theorem dX7_see_48 : decode cX7_see 48 = .ok (.goto 4, 3) := by decide +kernel
theorem dX7_see_51 : decode cX7_see 51 = .ok (.iconst 0, 1) := by decide +kernel
theorem dX7_see_52 : decode cX7_see 52 = .ok (.invokevirtual 239, 3) := by decide +kernel
theorem dX7_see_55 : decode cX7_see 55 = .ok (.ifCond .eq 13, 3) := by decide +kernel
theorem dX7_see_58 : decode cX7_see 58 = .ok (.aload_n 0, 1) := by decide +kernel
theorem dX7_see_59 : decode cX7_see 59 = .ok (.getfield 64, 3) := by decide +kernel
theorem dX7_see_62 : decode cX7_see 62 = .ok (.invokevirtual 131, 3) := by decide +kernel
theorem dX7_see_65 : decode cX7_see 65 = .ok (.goto 5, 3) := by decide +kernel
theorem dX7_see_68 : decode cX7_see 68 = .ok (.bipush (-4), 2) := by decide +kernel
theorem dX7_see_70 : decode cX7_see 70 = .ok (.ireturn, 1) := by decide +kernel
set_option maxRecDepth 20000 in
theorem ggX7_unsee_X3_size : GoodIn wsX7_unsee wsX3_size := goodIn_r _ [6, 7, 22, 23, 24, 25] (by decide +kernel) (by decide +kernel)
set_option maxRecDepth 20000 in
theorem gX7_unsee_X3_size : GoodIn wsX7_unsee (wsV RX7 131 RX3 yX3_size wsX3_size) := goodIn_app (goodIn_of _ (by decide +kernel)) ggX7_unsee_X3_size
set_option maxRecDepth 20000 in
theorem ggX7_unsee_X3_clear : GoodIn wsX7_unsee wsX3_clear := goodIn_r _ [11, 7, 22, 23, 24, 25] (by decide +kernel) (by decide +kernel)
set_option maxRecDepth 20000 in
theorem gX7_unsee_X3_clear : GoodIn wsX7_unsee (wsV RX7 242 RX3 yX3_clear wsX3_clear) := goodIn_app (goodIn_of _ (by decide +kernel)) ggX7_unsee_X3_clear
theorem dX7_unsee_0 : decode cX7_unsee 0 = .ok (.aload_n 0, 1) := by decide +kernel
theorem dX7_unsee_1 : decode cX7_unsee 1 = .ok (.getfield 64, 3) := by decide +kernel
theorem dX7_unsee_4 : decode cX7_unsee 4 = .ok (.invokevirtual 131, 3) := by decide +kernel
theorem dX7_unsee_7 : decode cX7_unsee 7 = .ok (.istore_n 1, 1) := by decide +kernel
theorem dX7_unsee_8 : decode cX7_unsee 8 = .ok (.aload_n 0, 1) := by decide +kernel
theorem dX7_unsee_9 : decode cX7_unsee 9 = .ok (.getfield 64, 3) := by decide +kernel
theorem dX7_unsee_12 : decode cX7_unsee 12 = .ok (.invokevirtual 242, 3) := by decide +kernel
theorem dX7_unsee_15 : decode cX7_unsee 15 = .ok (.iload_n 1, 1) := by decide +kernel
theorem dX7_unsee_16 : decode cX7_unsee 16 = .ok (.ireturn, 1) := by decide +kernel
set_option maxRecDepth 20000 in
theorem ggX7_ways_X2_atLeast : GoodIn wsX7_ways wsX2_atLeast := goodIn_r _ [8, 9, 55, 56] (by decide +kernel) (by decide +kernel)
set_option maxRecDepth 20000 in
theorem gX7_ways_X2_atLeast : GoodIn wsX7_ways (wsV RX7 174 RX2 yX2_atLeast wsX2_atLeast) := goodIn_app (goodIn_of _ (by decide +kernel)) ggX7_ways_X2_atLeast
set_option maxRecDepth 20000 in
theorem ggX7_ways_X3_hold : GoodIn wsX7_ways wsX3_hold := goodIn_r _ [14, 15, 16, 17, 18, 19, 20, 21, 22, 23, 24, 25, 26, 27, 28, 29, 30, 31, 32, 33, 34, 35, 36, 37, 38, 39, 40, 41, 42, 43, 44, 57, 58, 59, 60, 61, 62, 63, 64, 65, 66] (by decide +kernel) (by decide +kernel)
set_option maxRecDepth 20000 in
theorem gX7_ways_X3_hold : GoodIn wsX7_ways (wsV RX7 243 RX3 yX3_hold wsX3_hold) := goodIn_app (goodIn_of _ (by decide +kernel)) ggX7_ways_X3_hold
theorem dX7_ways_0 : decode cX7_ways 0 = .ok (.iload_n 1, 1) := by decide +kernel
theorem dX7_ways_1 : decode cX7_ways 1 = .ok (.ifCond .eq 11, 3) := by decide +kernel
theorem dX7_ways_4 : decode cX7_ways 4 = .ok (.iload_n 1, 1) := by decide +kernel
theorem dX7_ways_5 : decode cX7_ways 5 = .ok (.iconst 1, 1) := by decide +kernel
theorem dX7_ways_6 : decode cX7_ways 6 = .ok (.if_icmp .eq 6, 3) := by decide +kernel
theorem dX7_ways_9 : decode cX7_ways 9 = .ok (.bipush (-2), 2) := by decide +kernel
theorem dX7_ways_11 : decode cX7_ways 11 = .ok (.ireturn, 1) := by decide +kernel
theorem dX7_ways_12 : decode cX7_ways 12 = .ok (.iconst 0, 1) := by decide +kernel
theorem dX7_ways_13 : decode cX7_ways 13 = .ok (.istore_n 2, 1) := by decide +kernel
theorem dX7_ways_14 : decode cX7_ways 14 = .ok (.bipush (-9), 2) := by decide +kernel
theorem dX7_ways_16 : decode cX7_ways 16 = .ok (.istore_n 3, 1) := by decide +kernel
theorem dX7_ways_17 : decode cX7_ways 17 = .ok (.iconst 0, 1) := by decide +kernel
theorem dX7_ways_18 : decode cX7_ways 18 = .ok (.istore 4, 2) := by decide +kernel
theorem dX7_ways_20 : decode cX7_ways 20 = .ok (.iload 4, 2) := by decide +kernel
theorem dX7_ways_22 : decode cX7_ways 22 = .ok (.bipush 9, 2) := by decide +kernel
theorem dX7_ways_24 : decode cX7_ways 24 = .ok (.if_icmp .gt 72, 3) := by decide +kernel
theorem dX7_ways_27 : decode cX7_ways 27 = .ok (.iconst 4, 1) := by decide +kernel
theorem dX7_ways_28 : decode cX7_ways 28 = .ok (.istore 5, 2) := by decide +kernel
theorem dX7_ways_30 : decode cX7_ways 30 = .ok (.iload 5, 2) := by decide +kernel
theorem dX7_ways_32 : decode cX7_ways 32 = .ok (.bipush 8, 2) := by decide +kernel
theorem dX7_ways_34 : decode cX7_ways 34 = .ok (.if_icmp .gt 56, 3) := by decide +kernel
theorem dX7_ways_37 : decode cX7_ways 37 = .ok (.aload_n 0, 1) := by decide +kernel
theorem dX7_ways_38 : decode cX7_ways 38 = .ok (.getfield 64, 3) := by decide +kernel
theorem dX7_ways_41 : decode cX7_ways 41 = .ok (.aload_n 0, 1) := by decide +kernel
theorem dX7_ways_42 : decode cX7_ways 42 = .ok (.getfield 19, 3) := by decide +kernel
theorem dX7_ways_45 : decode cX7_ways 45 = .ok (.aload_n 0, 1) := by decide +kernel
theorem dX7_ways_46 : decode cX7_ways 46 = .ok (.getfield 28, 3) := by decide +kernel
theorem dX7_ways_49 : decode cX7_ways 49 = .ok (.iload 4, 2) := by decide +kernel
theorem dX7_ways_51 : decode cX7_ways 51 = .ok (.invokevirtual 174, 3) := by decide +kernel
theorem dX7_ways_54 : decode cX7_ways 54 = .ok (.iload 5, 2) := by decide +kernel
theorem dX7_ways_56 : decode cX7_ways 56 = .ok (.invokevirtual 243, 3) := by decide +kernel
theorem dX7_ways_59 : decode cX7_ways 59 = .ok (.ifCond .eq 25, 3) := by decide +kernel
theorem dX7_ways_62 : decode cX7_ways 62 = .ok (.iinc 2 1, 3) := by decide +kernel
theorem dX7_ways_65 : decode cX7_ways 65 = .ok (.iload_n 3, 1) := by decide +kernel
theorem dX7_ways_66 : decode cX7_ways 66 = .ok (.bipush (-9), 2) := by decide +kernel
theorem dX7_ways_68 : decode cX7_ways 68 = .ok (.if_icmp .ne 14, 3) := by decide +kernel
theorem dX7_ways_71 : decode cX7_ways 71 = .ok (.bipush 10, 2) := by decide +kernel
theorem dX7_ways_73 : decode cX7_ways 73 = .ok (.iload 4, 2) := by decide +kernel
theorem dX7_ways_75 : decode cX7_ways 75 = .ok (.imul, 1) := by decide +kernel
theorem dX7_ways_76 : decode cX7_ways 76 = .ok (.iload 5, 2) := by decide +kernel
theorem dX7_ways_78 : decode cX7_ways 78 = .ok (.iadd, 1) := by decide +kernel
theorem dX7_ways_79 : decode cX7_ways 79 = .ok (.goto 4, 3) := by decide +kernel
theorem dX7_ways_82 : decode cX7_ways 82 = .ok (.iload_n 3, 1) := by decide +kernel
theorem dX7_ways_83 : decode cX7_ways 83 = .ok (.istore_n 3, 1) := by decide +kernel
theorem dX7_ways_84 : decode cX7_ways 84 = .ok (.iinc 5 4, 3) := by decide +kernel
theorem dX7_ways_87 : decode cX7_ways 87 = .ok (.goto (-57), 3) := by decide +kernel
theorem dX7_ways_90 : decode cX7_ways 90 = .ok (.iinc 4 1, 3) := by decide +kernel
theorem dX7_ways_93 : decode cX7_ways 93 = .ok (.goto (-73), 3) := by decide +kernel
theorem dX7_ways_96 : decode cX7_ways 96 = .ok (.iload_n 1, 1) := by decide +kernel
theorem dX7_ways_97 : decode cX7_ways 97 = .ok (.ifCond .ne 7, 3) := by decide +kernel
theorem dX7_ways_100 : decode cX7_ways 100 = .ok (.iload_n 2, 1) := by decide +kernel
theorem dX7_ways_101 : decode cX7_ways 101 = .ok (.goto 4, 3) := by decide +kernel
theorem dX7_ways_104 : decode cX7_ways 104 = .ok (.iload_n 3, 1) := by decide +kernel
theorem dX7_ways_105 : decode cX7_ways 105 = .ok (.ireturn, 1) := by decide +kernel
set_option maxRecDepth 20000 in
theorem ggX7_fades_X1_hasRow : GoodIn wsX7_fades wsX1_hasRow := goodIn_r _ [7, 8, 76, 77, 78, 79, 80, 81] (by decide +kernel) (by decide +kernel)
set_option maxRecDepth 20000 in
theorem gX7_fades_X1_hasRow : GoodIn wsX7_fades (wsV RX7 230 RX1 yX1_hasRow wsX1_hasRow) := goodIn_app (goodIn_of _ (by decide +kernel)) ggX7_fades_X1_hasRow
set_option maxRecDepth 20000 in
theorem ggX7_fades_X2_atLeast : GoodIn wsX7_fades wsX2_atLeast := goodIn_r _ [13, 14, 82, 83] (by decide +kernel) (by decide +kernel)
set_option maxRecDepth 20000 in
theorem gX7_fades_X2_atLeast : GoodIn wsX7_fades (wsV RX7 174 RX2 yX2_atLeast wsX2_atLeast) := goodIn_app (goodIn_of _ (by decide +kernel)) ggX7_fades_X2_atLeast
set_option maxRecDepth 20000 in
theorem ggX7_fades_X1_row : GoodIn wsX7_fades wsX1_row := goodIn_r _ [18, 19, 76, 77, 78, 79, 80, 81] (by decide +kernel) (by decide +kernel)
set_option maxRecDepth 20000 in
theorem gX7_fades_X1_row : GoodIn wsX7_fades (wsV RX7 247 RX1 yX1_row wsX1_row) := goodIn_app (goodIn_of _ (by decide +kernel)) ggX7_fades_X1_row
set_option maxRecDepth 20000 in
theorem ggX7_fades_X7_fadedOut : GoodIn wsX7_fades wsX7_fadedOut := goodIn_r _ [24, 1, 25, 26, 27, 28, 6, 29, 30, 31, 32, 33, 34, 35, 36, 37, 38, 39, 40, 41, 42, 43, 44, 45, 19, 46, 47, 48, 49, 50, 51, 52, 53, 54, 23, 55, 66, 67, 68, 69, 70, 71, 72, 73, 74, 75, 76, 77, 78, 79, 80, 81] (by decide +kernel) (by decide +kernel)
set_option maxRecDepth 20000 in
theorem gX7_fades_X7_fadedOut : GoodIn wsX7_fades (wsV RX7 250 RX7 yX7_fadedOut wsX7_fadedOut) := goodIn_app (goodIn_of _ (by decide +kernel)) ggX7_fades_X7_fadedOut
set_option maxRecDepth 20000 in
theorem ggX7_fades_J13_bitCount_95d88 : GoodIn wsX7_fades wsJ13_bitCount_95d88 := goodIn_r _ [49, 50, 51, 52] (by decide +kernel) (by decide +kernel)
set_option maxRecDepth 20000 in
theorem gX7_fades_J13_bitCount_95d88 : GoodIn wsX7_fades (va_wsS RX7 146 yJ13_bitCount_95d88 wsJ13_bitCount_95d88) := goodIn_app (goodIn_of _ (by decide +kernel)) ggX7_fades_J13_bitCount_95d88
set_option maxRecDepth 20000 in
theorem ggX7_fades_X7_power : GoodIn wsX7_fades wsX7_power := goodIn_r _ [55] (by decide +kernel) (by decide +kernel)
set_option maxRecDepth 20000 in
theorem gX7_fades_X7_power : GoodIn wsX7_fades (va_wsS RX7 254 yX7_power wsX7_power) := goodIn_app (goodIn_of _ (by decide +kernel)) ggX7_fades_X7_power
set_option maxRecDepth 20000 in
theorem ggX7_fades_X7_fraction : GoodIn wsX7_fades wsX7_fraction := goodIn_r _ [58, 59, 60, 61, 62, 63, 64, 23, 65] (by decide +kernel) (by decide +kernel)
set_option maxRecDepth 20000 in
theorem gX7_fades_X7_fraction : GoodIn wsX7_fades (va_wsS RX7 209 yX7_fraction wsX7_fraction) := goodIn_app (goodIn_of _ (by decide +kernel)) ggX7_fades_X7_fraction
theorem dX7_fades_0 : decode cX7_fades 0 = .ok (.aload_n 0, 1) := by decide +kernel
theorem dX7_fades_1 : decode cX7_fades 1 = .ok (.getfield 19, 3) := by decide +kernel
theorem dX7_fades_4 : decode cX7_fades 4 = .ok (.iload_n 1, 1) := by decide +kernel
theorem dX7_fades_5 : decode cX7_fades 5 = .ok (.invokevirtual 230, 3) := by decide +kernel
theorem dX7_fades_8 : decode cX7_fades 8 = .ok (.ifCond .ne 5, 3) := by decide +kernel
theorem dX7_fades_11 : decode cX7_fades 11 = .ok (.iconst (-1), 1) := by decide +kernel
theorem dX7_fades_12 : decode cX7_fades 12 = .ok (.ireturn, 1) := by decide +kernel
theorem dX7_fades_13 : decode cX7_fades 13 = .ok (.iload_n 2, 1) := by decide +kernel
theorem dX7_fades_14 : decode cX7_fades 14 = .ok (.iconst 1, 1) := by decide +kernel
theorem dX7_fades_15 : decode cX7_fades 15 = .ok (.if_icmp .lt 31, 3) := by decide +kernel
theorem dX7_fades_18 : decode cX7_fades 18 = .ok (.iload_n 2, 1) := by decide +kernel
theorem dX7_fades_19 : decode cX7_fades 19 = .ok (.bipush 9, 2) := by decide +kernel
theorem dX7_fades_21 : decode cX7_fades 21 = .ok (.if_icmp .gt 25, 3) := by decide +kernel
theorem dX7_fades_24 : decode cX7_fades 24 = .ok (.iload_n 3, 1) := by decide +kernel
theorem dX7_fades_25 : decode cX7_fades 25 = .ok (.ifCond .lt 21, 3) := by decide +kernel
theorem dX7_fades_28 : decode cX7_fades 28 = .ok (.iload_n 3, 1) := by decide +kernel
theorem dX7_fades_29 : decode cX7_fades 29 = .ok (.bipush 36, 2) := by decide +kernel
theorem dX7_fades_31 : decode cX7_fades 31 = .ok (.if_icmp .gt 15, 3) := by decide +kernel
theorem dX7_fades_34 : decode cX7_fades 34 = .ok (.iload 4, 2) := by decide +kernel
theorem dX7_fades_36 : decode cX7_fades 36 = .ok (.ifCond .lt 10, 3) := by decide +kernel
theorem dX7_fades_39 : decode cX7_fades 39 = .ok (.iload 4, 2) := by decide +kernel
theorem dX7_fades_41 : decode cX7_fades 41 = .ok (.bipush 10, 2) := by decide +kernel
theorem dX7_fades_43 : decode cX7_fades 43 = .ok (.if_icmp .le 6, 3) := by decide +kernel
theorem dX7_fades_46 : decode cX7_fades 46 = .ok (.bipush (-2), 2) := by decide +kernel
theorem dX7_fades_48 : decode cX7_fades 48 = .ok (.ireturn, 1) := by decide +kernel
theorem dX7_fades_49 : decode cX7_fades 49 = .ok (.aload_n 0, 1) := by decide +kernel
theorem dX7_fades_50 : decode cX7_fades 50 = .ok (.getfield 28, 3) := by decide +kernel
theorem dX7_fades_53 : decode cX7_fades 53 = .ok (.iload_n 2, 1) := by decide +kernel
theorem dX7_fades_54 : decode cX7_fades 54 = .ok (.invokevirtual 174, 3) := by decide +kernel
theorem dX7_fades_57 : decode cX7_fades 57 = .ok (.lstore 6, 2) := by decide +kernel
theorem dX7_fades_59 : decode cX7_fades 59 = .ok (.lload 6, 2) := by decide +kernel
theorem dX7_fades_61 : decode cX7_fades 61 = .ok (.aload_n 0, 1) := by decide +kernel
theorem dX7_fades_62 : decode cX7_fades 62 = .ok (.getfield 19, 3) := by decide +kernel
theorem dX7_fades_65 : decode cX7_fades 65 = .ok (.iload_n 1, 1) := by decide +kernel
theorem dX7_fades_66 : decode cX7_fades 66 = .ok (.invokevirtual 247, 3) := by decide +kernel
theorem dX7_fades_69 : decode cX7_fades 69 = .ok (.land, 1) := by decide +kernel
theorem dX7_fades_70 : decode cX7_fades 70 = .ok (.lstore 8, 2) := by decide +kernel
theorem dX7_fades_72 : decode cX7_fades 72 = .ok (.aload_n 0, 1) := by decide +kernel
theorem dX7_fades_73 : decode cX7_fades 73 = .ok (.lload 6, 2) := by decide +kernel
theorem dX7_fades_75 : decode cX7_fades 75 = .ok (.lload 8, 2) := by decide +kernel
theorem dX7_fades_77 : decode cX7_fades 77 = .ok (.iload_n 3, 1) := by decide +kernel
theorem dX7_fades_78 : decode cX7_fades 78 = .ok (.iload 4, 2) := by decide +kernel
theorem dX7_fades_80 : decode cX7_fades 80 = .ok (.invokevirtual 250, 3) := by decide +kernel
theorem dX7_fades_83 : decode cX7_fades 83 = .ok (.bipush 10, 2) := by decide +kernel
theorem dX7_fades_85 : decode cX7_fades 85 = .ok (.lload 8, 2) := by decide +kernel
theorem dX7_fades_87 : decode cX7_fades 87 = .ok (.invokestatic 146, 3) := by decide +kernel
theorem dX7_fades_90 : decode cX7_fades 90 = .ok (.invokestatic 254, 3) := by decide +kernel
theorem dX7_fades_93 : decode cX7_fades 93 = .ok (.iload 5, 2) := by decide +kernel
theorem dX7_fades_95 : decode cX7_fades 95 = .ok (.invokestatic 209, 3) := by decide +kernel
theorem dX7_fades_98 : decode cX7_fades 98 = .ok (.ireturn, 1) := by decide +kernel
theorem dX7_seed_0 : decode cX7_seed 0 = .ok (.aload_n 0, 1) := by decide +kernel
theorem dX7_seed_1 : decode cX7_seed 1 = .ok (.getfield 68, 3) := by decide +kernel
theorem dX7_seed_4 : decode cX7_seed 4 = .ok (.lstore_n 3, 1) := by decide +kernel
theorem dX7_seed_5 : decode cX7_seed 5 = .ok (.aload_n 0, 1) := by decide +kernel
theorem dX7_seed_6 : decode cX7_seed 6 = .ok (.lload_n 1, 1) := by decide +kernel
theorem dX7_seed_7 : decode cX7_seed 7 = .ok (.putfield 68, 3) := by decide +kernel
theorem dX7_seed_10 : decode cX7_seed 10 = .ok (.lload_n 3, 1) := by decide +kernel
theorem dX7_seed_11 : decode cX7_seed 11 = .ok (.lreturn, 1) := by decide +kernel
set_option maxRecDepth 20000 in
theorem ggX7_drawn_X2_copy : GoodIn wsX7_drawn wsX2_copy := goodIn_r _ [11, 12, 13, 14, 15, 10, 16, 17, 18, 19, 20, 142, 143] (by decide +kernel) (by decide +kernel)
set_option maxRecDepth 20000 in
theorem gX7_drawn_X2_copy : GoodIn wsX7_drawn (wsV RX7 221 RX2 yX2_copy wsX2_copy) := goodIn_app (goodIn_of _ (by decide +kernel)) ggX7_drawn_X2_copy
set_option maxRecDepth 20000 in
theorem ggX7_drawn_X7_change : GoodIn wsX7_drawn wsX7_change := goodIn_r _ [25, 26, 27, 28, 1, 29, 30, 31, 32, 33, 34, 35, 36, 37, 38, 10, 39, 12, 40, 41, 42, 43, 44, 45, 46, 47, 48, 49, 50, 51, 52, 53, 54, 55, 56, 57, 58, 59, 60, 61, 62, 63, 64, 65, 66, 67, 68, 69, 70, 71, 72, 73, 74, 75, 76, 77, 78, 79, 80, 81, 82, 83, 84, 85, 86, 87, 88, 89, 90, 91, 92, 93, 94, 95, 96, 97, 98, 99, 100, 101, 102, 103, 104, 105, 132, 133, 134, 135, 136, 137, 138, 139, 140, 141, 144, 145, 146, 147, 148, 149, 142, 143] (by decide +kernel) (by decide +kernel)
set_option maxRecDepth 20000 in
theorem gX7_drawn_X7_change : GoodIn wsX7_drawn (wsV RX7 261 RX7 yX7_change wsX7_change) := goodIn_app (goodIn_of _ (by decide +kernel)) ggX7_drawn_X7_change
set_option maxRecDepth 20000 in
theorem ggX7_drawn_X6_countNodes : GoodIn wsX7_drawn wsX6_countNodes := goodIn_r _ [110, 111, 112, 113, 114, 109, 115, 116, 117, 118, 119, 120, 121, 122, 123, 124, 52, 53, 10, 54, 12, 125, 126, 127, 128, 129, 130, 68, 69, 32, 70, 71, 131, 73, 74, 75, 76, 77, 78, 79, 80, 81, 82, 34, 150, 151, 152, 153, 154, 142, 143, 144, 145, 146, 147, 148, 149] (by decide +kernel) (by decide +kernel)
set_option maxRecDepth 20000 in
theorem gX7_drawn_X6_countNodes : GoodIn wsX7_drawn (wsV RX7 104 RX6 yX6_countNodes wsX6_countNodes) := goodIn_app (goodIn_of _ (by decide +kernel)) ggX7_drawn_X6_countNodes
theorem dX7_drawn_0 : decode cX7_drawn 0 = .ok (.iload_n 1, 1) := by decide +kernel
theorem dX7_drawn_1 : decode cX7_drawn 1 = .ok (.iconst 1, 1) := by decide +kernel
theorem dX7_drawn_2 : decode cX7_drawn 2 = .ok (.if_icmp .lt 9, 3) := by decide +kernel
theorem dX7_drawn_5 : decode cX7_drawn 5 = .ok (.iload_n 1, 1) := by decide +kernel
theorem dX7_drawn_6 : decode cX7_drawn 6 = .ok (.bipush 20, 2) := by decide +kernel
theorem dX7_drawn_8 : decode cX7_drawn 8 = .ok (.if_icmp .le 6, 3) := by decide +kernel
theorem dX7_drawn_11 : decode cX7_drawn 11 = .ok (.bipush (-2), 2) := by decide +kernel
theorem dX7_drawn_13 : decode cX7_drawn 13 = .ok (.ireturn, 1) := by decide +kernel
theorem dX7_drawn_14 : decode cX7_drawn 14 = .ok (.aload_n 0, 1) := by decide +kernel
theorem dX7_drawn_15 : decode cX7_drawn 15 = .ok (.getfield 41, 3) := by decide +kernel
theorem dX7_drawn_18 : decode cX7_drawn 18 = .ok (.aload_n 0, 1) := by decide +kernel
theorem dX7_drawn_19 : decode cX7_drawn 19 = .ok (.getfield 28, 3) := by decide +kernel
theorem dX7_drawn_22 : decode cX7_drawn 22 = .ok (.invokevirtual 221, 3) := by decide +kernel
theorem dX7_drawn_25 : decode cX7_drawn 25 = .ok (.iconst 0, 1) := by decide +kernel
theorem dX7_drawn_26 : decode cX7_drawn 26 = .ok (.istore_n 2, 1) := by decide +kernel
theorem dX7_drawn_27 : decode cX7_drawn 27 = .ok (.iconst 0, 1) := by decide +kernel
theorem dX7_drawn_28 : decode cX7_drawn 28 = .ok (.istore_n 3, 1) := by decide +kernel
theorem dX7_drawn_29 : decode cX7_drawn 29 = .ok (.iload_n 3, 1) := by decide +kernel
theorem dX7_drawn_30 : decode cX7_drawn 30 = .ok (.iload_n 1, 1) := by decide +kernel
theorem dX7_drawn_31 : decode cX7_drawn 31 = .ok (.if_icmp .ge 46, 3) := by decide +kernel
theorem dX7_drawn_34 : decode cX7_drawn 34 = .ok (.aload_n 0, 1) := by decide +kernel
theorem dX7_drawn_35 : decode cX7_drawn 35 = .ok (.aload_n 0, 1) := by decide +kernel
theorem dX7_drawn_36 : decode cX7_drawn 36 = .ok (.getfield 68, 3) := by decide +kernel
theorem dX7_drawn_39 : decode cX7_drawn 39 = .ok (.ldc2_w 257, 3) := by decide +kernel
theorem dX7_drawn_42 : decode cX7_drawn 42 = .ok (.lmul, 1) := by decide +kernel
theorem dX7_drawn_43 : decode cX7_drawn 43 = .ok (.ldc2_w 259, 3) := by decide +kernel
theorem dX7_drawn_46 : decode cX7_drawn 46 = .ok (.ladd, 1) := by decide +kernel
theorem dX7_drawn_47 : decode cX7_drawn 47 = .ok (.putfield 68, 3) := by decide +kernel
theorem dX7_drawn_50 : decode cX7_drawn 50 = .ok (.aload_n 0, 1) := by decide +kernel
theorem dX7_drawn_51 : decode cX7_drawn 51 = .ok (.aload_n 0, 1) := by decide +kernel
theorem dX7_drawn_52 : decode cX7_drawn 52 = .ok (.getfield 68, 3) := by decide +kernel
theorem dX7_drawn_55 : decode cX7_drawn 55 = .ok (.bipush 33, 2) := by decide +kernel
theorem dX7_drawn_57 : decode cX7_drawn 57 = .ok (.lushr, 1) := by decide +kernel
theorem dX7_drawn_58 : decode cX7_drawn 58 = .ok (.invokevirtual 261, 3) := by decide +kernel
theorem dX7_drawn_61 : decode cX7_drawn 61 = .ok (.iload_n 2, 1) := by decide +kernel
theorem dX7_drawn_62 : decode cX7_drawn 62 = .ok (.aload_n 0, 1) := by decide +kernel
theorem dX7_drawn_63 : decode cX7_drawn 63 = .ok (.getfield 44, 3) := by decide +kernel
theorem dX7_drawn_66 : decode cX7_drawn 66 = .ok (.invokevirtual 104, 3) := by decide +kernel
theorem dX7_drawn_69 : decode cX7_drawn 69 = .ok (.iadd, 1) := by decide +kernel
theorem dX7_drawn_70 : decode cX7_drawn 70 = .ok (.istore_n 2, 1) := by decide +kernel
theorem dX7_drawn_71 : decode cX7_drawn 71 = .ok (.iinc 3 1, 3) := by decide +kernel
theorem dX7_drawn_74 : decode cX7_drawn 74 = .ok (.goto (-45), 3) := by decide +kernel
theorem dX7_drawn_77 : decode cX7_drawn 77 = .ok (.iload_n 2, 1) := by decide +kernel
theorem dX7_drawn_78 : decode cX7_drawn 78 = .ok (.ireturn, 1) := by decide +kernel
set_option maxRecDepth 20000 in
theorem ggX7_keep_X4_put : GoodIn wsX7_keep wsX4_put := goodIn_r _ [8, 9, 10, 11, 12, 13, 14, 15, 16, 17, 18, 19, 20, 76, 77, 78, 79] (by decide +kernel) (by decide +kernel)
set_option maxRecDepth 20000 in
theorem gX7_keep_X4_put : GoodIn wsX7_keep (wsV RX7 265 RX4 yX4_put wsX4_put) := goodIn_app (goodIn_of _ (by decide +kernel)) ggX7_keep_X4_put
set_option maxRecDepth 20000 in
theorem ggX7_keep_X6_countNodes : GoodIn wsX7_keep wsX6_countNodes := goodIn_r _ [25, 26, 27, 28, 29, 24, 30, 31, 32, 33, 34, 35, 36, 37, 38, 39, 40, 41, 14, 42, 16, 43, 44, 45, 46, 47, 48, 49, 50, 51, 52, 53, 54, 55, 56, 57, 58, 59, 60, 61, 62, 63, 64, 65, 80, 81, 82, 83, 84, 78, 79, 85, 86, 87, 88, 89, 90] (by decide +kernel) (by decide +kernel)
set_option maxRecDepth 20000 in
theorem gX7_keep_X6_countNodes : GoodIn wsX7_keep (wsV RX7 104 RX6 yX6_countNodes wsX6_countNodes) := goodIn_app (goodIn_of _ (by decide +kernel)) ggX7_keep_X6_countNodes
theorem dX7_keep_0 : decode cX7_keep 0 = .ok (.aload_n 0, 1) := by decide +kernel
theorem dX7_keep_1 : decode cX7_keep 1 = .ok (.getfield 57, 3) := by decide +kernel
theorem dX7_keep_4 : decode cX7_keep 4 = .ok (.iload_n 1, 1) := by decide +kernel
theorem dX7_keep_5 : decode cX7_keep 5 = .ok (.aload_n 0, 1) := by decide +kernel
theorem dX7_keep_6 : decode cX7_keep 6 = .ok (.getfield 28, 3) := by decide +kernel
theorem dX7_keep_9 : decode cX7_keep 9 = .ok (.invokevirtual 265, 3) := by decide +kernel
theorem dX7_keep_12 : decode cX7_keep 12 = .ok (.ifCond .eq 13, 3) := by decide +kernel
theorem dX7_keep_15 : decode cX7_keep 15 = .ok (.aload_n 0, 1) := by decide +kernel
theorem dX7_keep_16 : decode cX7_keep 16 = .ok (.getfield 37, 3) := by decide +kernel
theorem dX7_keep_19 : decode cX7_keep 19 = .ok (.invokevirtual 104, 3) := by decide +kernel
theorem dX7_keep_22 : decode cX7_keep 22 = .ok (.goto 4, 3) := by decide +kernel
theorem dX7_keep_25 : decode cX7_keep 25 = .ok (.iconst (-1), 1) := by decide +kernel
theorem dX7_keep_26 : decode cX7_keep 26 = .ok (.ireturn, 1) := by decide +kernel
set_option maxRecDepth 20000 in
theorem ggX7_again_X4_has : GoodIn wsX7_again wsX4_has := goodIn_r _ [9, 10, 87, 88] (by decide +kernel) (by decide +kernel)
set_option maxRecDepth 20000 in
theorem gX7_again_X4_has : GoodIn wsX7_again (wsV RX7 269 RX4 yX4_has wsX4_has) := goodIn_app (goodIn_of _ (by decide +kernel)) ggX7_again_X4_has
set_option maxRecDepth 20000 in
theorem ggX7_again_X4_bringBack : GoodIn wsX7_again wsX4_bringBack := goodIn_r _ [14, 10, 15, 16, 17, 18, 19, 20, 21, 22, 23, 24, 25, 87, 88, 89, 90] (by decide +kernel) (by decide +kernel)
set_option maxRecDepth 20000 in
theorem gX7_again_X4_bringBack : GoodIn wsX7_again (wsV RX7 272 RX4 yX4_bringBack wsX4_bringBack) := goodIn_app (goodIn_of _ (by decide +kernel)) ggX7_again_X4_bringBack
set_option maxRecDepth 20000 in
theorem ggX7_again_X0_clear : GoodIn wsX7_again wsX0_clear := goodIn_r _ [30, 31, 91, 92] (by decide +kernel) (by decide +kernel)
set_option maxRecDepth 20000 in
theorem gX7_again_X0_clear : GoodIn wsX7_again (wsV RX7 102 RX0 yX0_clear wsX0_clear) := goodIn_app (goodIn_of _ (by decide +kernel)) ggX7_again_X0_clear
set_option maxRecDepth 20000 in
theorem ggX7_again_X6_countNodes : GoodIn wsX7_again wsX6_countNodes := goodIn_r _ [36, 37, 38, 39, 40, 35, 41, 42, 43, 44, 45, 46, 47, 48, 49, 50, 51, 52, 19, 53, 21, 54, 55, 56, 57, 58, 59, 60, 61, 62, 63, 64, 65, 66, 67, 68, 69, 70, 71, 72, 73, 74, 75, 76, 93, 94, 95, 96, 97, 89, 90, 98, 99, 100, 101, 102, 103] (by decide +kernel) (by decide +kernel)
set_option maxRecDepth 20000 in
theorem gX7_again_X6_countNodes : GoodIn wsX7_again (wsV RX7 104 RX6 yX6_countNodes wsX6_countNodes) := goodIn_app (goodIn_of _ (by decide +kernel)) ggX7_again_X6_countNodes
theorem dX7_again_0 : decode cX7_again 0 = .ok (.aload_n 0, 1) := by decide +kernel
theorem dX7_again_1 : decode cX7_again 1 = .ok (.getfield 57, 3) := by decide +kernel
theorem dX7_again_4 : decode cX7_again 4 = .ok (.iload_n 1, 1) := by decide +kernel
theorem dX7_again_5 : decode cX7_again 5 = .ok (.invokevirtual 269, 3) := by decide +kernel
theorem dX7_again_8 : decode cX7_again 8 = .ok (.ifCond .ne 5, 3) := by decide +kernel
theorem dX7_again_11 : decode cX7_again 11 = .ok (.iconst (-1), 1) := by decide +kernel
theorem dX7_again_12 : decode cX7_again 12 = .ok (.ireturn, 1) := by decide +kernel
theorem dX7_again_13 : decode cX7_again 13 = .ok (.aload_n 0, 1) := by decide +kernel
theorem dX7_again_14 : decode cX7_again 14 = .ok (.getfield 57, 3) := by decide +kernel
theorem dX7_again_17 : decode cX7_again 17 = .ok (.iload_n 1, 1) := by decide +kernel
theorem dX7_again_18 : decode cX7_again 18 = .ok (.aload_n 0, 1) := by decide +kernel
theorem dX7_again_19 : decode cX7_again 19 = .ok (.getfield 28, 3) := by decide +kernel
theorem dX7_again_22 : decode cX7_again 22 = .ok (.invokevirtual 272, 3) := by decide +kernel
theorem dX7_again_25 : decode cX7_again 25 = .ok (.ifCond .ne 6, 3) := by decide +kernel
theorem dX7_again_28 : decode cX7_again 28 = .ok (.bipush (-3), 2) := by decide +kernel
theorem dX7_again_30 : decode cX7_again 30 = .ok (.ireturn, 1) := by decide +kernel
theorem dX7_again_31 : decode cX7_again 31 = .ok (.aload_n 0, 1) := by decide +kernel
theorem dX7_again_32 : decode cX7_again 32 = .ok (.getfield 50, 3) := by decide +kernel
theorem dX7_again_35 : decode cX7_again 35 = .ok (.invokevirtual 102, 3) := by decide +kernel
theorem dX7_again_38 : decode cX7_again 38 = .ok (.aload_n 0, 1) := by decide +kernel
theorem dX7_again_39 : decode cX7_again 39 = .ok (.getfield 37, 3) := by decide +kernel
theorem dX7_again_42 : decode cX7_again 42 = .ok (.invokevirtual 104, 3) := by decide +kernel
theorem dX7_again_45 : decode cX7_again 45 = .ok (.ireturn, 1) := by decide +kernel
theorem dX7_isShade_0 : decode cX7_isShade 0 = .ok (.iload_n 0, 1) := by decide +kernel
theorem dX7_isShade_1 : decode cX7_isShade 1 = .ok (.ifCond .lt 13, 3) := by decide +kernel
theorem dX7_isShade_4 : decode cX7_isShade 4 = .ok (.iload_n 0, 1) := by decide +kernel
theorem dX7_isShade_5 : decode cX7_isShade 5 = .ok (.bipush 9, 2) := by decide +kernel
theorem dX7_isShade_7 : decode cX7_isShade 7 = .ok (.if_icmp .gt 7, 3) := by decide +kernel
theorem dX7_isShade_10 : decode cX7_isShade 10 = .ok (.iconst 1, 1) := by decide +kernel
theorem dX7_isShade_11 : decode cX7_isShade 11 = .ok (.goto 4, 3) := by decide +kernel
theorem dX7_isShade_14 : decode cX7_isShade 14 = .ok (.iconst 0, 1) := by decide +kernel
theorem dX7_isShade_15 : decode cX7_isShade 15 = .ok (.ireturn, 1) := by decide +kernel
theorem dX7_isStep_0 : decode cX7_isStep 0 = .ok (.iload_n 0, 1) := by decide +kernel
theorem dX7_isStep_1 : decode cX7_isStep 1 = .ok (.iconst 1, 1) := by decide +kernel
theorem dX7_isStep_2 : decode cX7_isStep 2 = .ok (.if_icmp .lt 13, 3) := by decide +kernel
theorem dX7_isStep_5 : decode cX7_isStep 5 = .ok (.iload_n 0, 1) := by decide +kernel
theorem dX7_isStep_6 : decode cX7_isStep 6 = .ok (.bipush 9, 2) := by decide +kernel
theorem dX7_isStep_8 : decode cX7_isStep 8 = .ok (.if_icmp .gt 7, 3) := by decide +kernel
theorem dX7_isStep_11 : decode cX7_isStep 11 = .ok (.iconst 1, 1) := by decide +kernel
theorem dX7_isStep_12 : decode cX7_isStep 12 = .ok (.goto 4, 3) := by decide +kernel
theorem dX7_isStep_15 : decode cX7_isStep 15 = .ok (.iconst 0, 1) := by decide +kernel
theorem dX7_isStep_16 : decode cX7_isStep 16 = .ok (.ireturn, 1) := by decide +kernel
theorem dX7_isSieve_0 : decode cX7_isSieve 0 = .ok (.iload_n 0, 1) := by decide +kernel
theorem dX7_isSieve_1 : decode cX7_isSieve 1 = .ok (.ifCond .ne 20, 3) := by decide +kernel
theorem dX7_isSieve_4 : decode cX7_isSieve 4 = .ok (.iload_n 1, 1) := by decide +kernel
theorem dX7_isSieve_5 : decode cX7_isSieve 5 = .ok (.iconst 1, 1) := by decide +kernel
theorem dX7_isSieve_6 : decode cX7_isSieve 6 = .ok (.if_icmp .lt 13, 3) := by decide +kernel
theorem dX7_isSieve_9 : decode cX7_isSieve 9 = .ok (.iload_n 1, 1) := by decide +kernel
theorem dX7_isSieve_10 : decode cX7_isSieve 10 = .ok (.bipush 36, 2) := by decide +kernel
theorem dX7_isSieve_12 : decode cX7_isSieve 12 = .ok (.if_icmp .gt 7, 3) := by decide +kernel
theorem dX7_isSieve_15 : decode cX7_isSieve 15 = .ok (.iconst 1, 1) := by decide +kernel
theorem dX7_isSieve_16 : decode cX7_isSieve 16 = .ok (.goto 4, 3) := by decide +kernel
theorem dX7_isSieve_19 : decode cX7_isSieve 19 = .ok (.iconst 0, 1) := by decide +kernel
theorem dX7_isSieve_20 : decode cX7_isSieve 20 = .ok (.ireturn, 1) := by decide +kernel
theorem dX7_isSieve_21 : decode cX7_isSieve 21 = .ok (.iload_n 0, 1) := by decide +kernel
theorem dX7_isSieve_22 : decode cX7_isSieve 22 = .ok (.iconst 1, 1) := by decide +kernel
theorem dX7_isSieve_23 : decode cX7_isSieve 23 = .ok (.if_icmp .ne 18, 3) := by decide +kernel
theorem dX7_isSieve_26 : decode cX7_isSieve 26 = .ok (.iload_n 1, 1) := by decide +kernel
theorem dX7_isSieve_27 : decode cX7_isSieve 27 = .ok (.iconst 1, 1) := by decide +kernel
theorem dX7_isSieve_28 : decode cX7_isSieve 28 = .ok (.if_icmp .lt 13, 3) := by decide +kernel
theorem dX7_isSieve_31 : decode cX7_isSieve 31 = .ok (.iload_n 1, 1) := by decide +kernel
theorem dX7_isSieve_32 : decode cX7_isSieve 32 = .ok (.bipush 6, 2) := by decide +kernel
theorem dX7_isSieve_34 : decode cX7_isSieve 34 = .ok (.if_icmp .gt 7, 3) := by decide +kernel
theorem dX7_isSieve_37 : decode cX7_isSieve 37 = .ok (.iconst 1, 1) := by decide +kernel
theorem dX7_isSieve_38 : decode cX7_isSieve 38 = .ok (.goto 4, 3) := by decide +kernel
theorem dX7_isSieve_41 : decode cX7_isSieve 41 = .ok (.iconst 0, 1) := by decide +kernel
theorem dX7_isSieve_42 : decode cX7_isSieve 42 = .ok (.ireturn, 1) := by decide +kernel
theorem dX7_withoutLast_0 : decode cX7_withoutLast 0 = .ok (.lload_n 0, 1) := by decide +kernel
theorem dX7_withoutLast_1 : decode cX7_withoutLast 1 = .ok (.lstore_n 3, 1) := by decide +kernel
theorem dX7_withoutLast_2 : decode cX7_withoutLast 2 = .ok (.iconst 0, 1) := by decide +kernel
theorem dX7_withoutLast_3 : decode cX7_withoutLast 3 = .ok (.istore 5, 2) := by decide +kernel
theorem dX7_withoutLast_5 : decode cX7_withoutLast 5 = .ok (.iload 5, 2) := by decide +kernel
theorem dX7_withoutLast_7 : decode cX7_withoutLast 7 = .ok (.iload_n 2, 1) := by decide +kernel
theorem dX7_withoutLast_8 : decode cX7_withoutLast 8 = .ok (.if_icmp .ge 21, 3) := by decide +kernel
theorem dX7_withoutLast_11 : decode cX7_withoutLast 11 = .ok (.iload 5, 2) := by decide +kernel
theorem dX7_withoutLast_13 : decode cX7_withoutLast 13 = .ok (.iconst 4, 1) := by decide +kernel
theorem dX7_withoutLast_14 : decode cX7_withoutLast 14 = .ok (.if_icmp .ge 15, 3) := by decide +kernel
theorem dX7_withoutLast_17 : decode cX7_withoutLast 17 = .ok (.lload_n 3, 1) := by decide +kernel
theorem dX7_withoutLast_18 : decode cX7_withoutLast 18 = .ok (.ldc2_w 224, 3) := by decide +kernel
theorem dX7_withoutLast_21 : decode cX7_withoutLast 21 = .ok (.ldiv, 1) := by decide +kernel
theorem dX7_withoutLast_22 : decode cX7_withoutLast 22 = .ok (.lstore_n 3, 1) := by decide +kernel
theorem dX7_withoutLast_23 : decode cX7_withoutLast 23 = .ok (.iinc 5 1, 3) := by decide +kernel
theorem dX7_withoutLast_26 : decode cX7_withoutLast 26 = .ok (.goto (-21), 3) := by decide +kernel
theorem dX7_withoutLast_29 : decode cX7_withoutLast 29 = .ok (.lload_n 3, 1) := by decide +kernel
theorem dX7_withoutLast_30 : decode cX7_withoutLast 30 = .ok (.lreturn, 1) := by decide +kernel
set_option maxRecDepth 20000 in
theorem ggX7_comesTrue_X7_trialPainted : GoodIn wsX7_comesTrue wsX7_trialPainted := goodIn_r _ [8, 1, 3, 9, 10, 11, 12, 13, 14, 15, 16, 17, 18, 19, 20, 21, 22, 23, 24, 25, 26, 142, 143, 144, 145, 146, 147, 148, 149, 150, 151, 152, 153, 154, 155, 156, 157, 158, 159] (by decide +kernel) (by decide +kernel)
set_option maxRecDepth 20000 in
theorem gX7_comesTrue_X7_trialPainted : GoodIn wsX7_comesTrue (wsV RX7 275 RX7 yX7_trialPainted wsX7_trialPainted) := goodIn_app (goodIn_of _ (by decide +kernel)) ggX7_comesTrue_X7_trialPainted
set_option maxRecDepth 20000 in
theorem ggX7_comesTrue_X7_trialTurned : GoodIn wsX7_comesTrue wsX7_trialTurned := goodIn_r _ [30, 3, 31, 32, 33, 23, 34, 35, 26, 36, 37, 38, 12, 39, 40, 41, 42, 43, 44, 25, 45, 46, 47, 48, 142, 143, 144, 145, 146, 147, 148, 149, 150, 151, 158, 159, 152, 153, 154, 155, 156, 157] (by decide +kernel) (by decide +kernel)
set_option maxRecDepth 20000 in
theorem gX7_comesTrue_X7_trialTurned : GoodIn wsX7_comesTrue (wsV RX7 278 RX7 yX7_trialTurned wsX7_trialTurned) := goodIn_app (goodIn_of _ (by decide +kernel)) ggX7_comesTrue_X7_trialTurned
set_option maxRecDepth 20000 in
theorem ggX7_comesTrue_X7_trialThinned : GoodIn wsX7_comesTrue wsX7_trialThinned := goodIn_r _ [52, 3, 53, 54, 7, 55, 56, 57, 58, 23, 59, 25, 26, 60, 61, 62, 63, 35, 36, 37, 38, 12, 39, 40, 64, 65, 66, 67, 68, 69, 70, 71, 72, 73, 74, 75, 76, 77, 78, 79, 18, 80, 81, 82, 83, 84, 85, 86, 87, 88, 89, 90, 91, 92, 93, 94, 95, 96, 97, 98, 19, 99, 100, 101, 102, 142, 143, 144, 145, 146, 147, 148, 149, 150, 151, 158, 159, 152, 153, 154, 155, 156, 157] (by decide +kernel) (by decide +kernel)
set_option maxRecDepth 20000 in
theorem gX7_comesTrue_X7_trialThinned : GoodIn wsX7_comesTrue (wsV RX7 282 RX7 yX7_trialThinned wsX7_trialThinned) := goodIn_app (goodIn_of _ (by decide +kernel)) ggX7_comesTrue_X7_trialThinned
set_option maxRecDepth 20000 in
theorem ggX7_comesTrue_X1_hasDot : GoodIn wsX7_comesTrue wsX1_hasDot := goodIn_r _ [13, 14, 15, 16, 12, 17, 18, 19, 152, 153, 154, 155, 156, 157] (by decide +kernel) (by decide +kernel)
set_option maxRecDepth 20000 in
theorem gX7_comesTrue_X1_hasDot : GoodIn wsX7_comesTrue (wsV RX7 132 RX1 yX1_hasDot wsX1_hasDot) := goodIn_app (goodIn_of _ (by decide +kernel)) ggX7_comesTrue_X1_hasDot
set_option maxRecDepth 20000 in
theorem ggX7_comesTrue_X6_nodeOf : GoodIn wsX7_comesTrue wsX6_nodeOf := goodIn_r _ [107, 108, 109, 110, 10, 11, 12, 13, 14, 15, 16, 17, 18, 19, 111, 112, 113, 23, 114, 25, 115, 116, 117, 106, 118, 119, 42, 43, 44, 120, 65, 66, 67, 68, 121, 70, 71, 72, 73, 74, 75, 76, 77, 78, 79, 160, 161, 162, 163, 164, 152, 153, 154, 155, 156, 157, 158, 159] (by decide +kernel) (by decide +kernel)
set_option maxRecDepth 20000 in
theorem gX7_comesTrue_X6_nodeOf : GoodIn wsX7_comesTrue (wsV RX7 138 RX6 yX6_nodeOf wsX6_nodeOf) := goodIn_app (goodIn_of _ (by decide +kernel)) ggX7_comesTrue_X6_nodeOf
set_option maxRecDepth 20000 in
theorem ggX7_comesTrue_X2_of : GoodIn wsX7_comesTrue wsX2_of := goodIn_r _ [114, 25, 158, 159] (by decide +kernel) (by decide +kernel)
set_option maxRecDepth 20000 in
theorem gX7_comesTrue_X2_of : GoodIn wsX7_comesTrue (wsV RX7 135 RX2 yX2_of wsX2_of) := goodIn_app (goodIn_of _ (by decide +kernel)) ggX7_comesTrue_X2_of
set_option maxRecDepth 20000 in
theorem ggX7_comesTrue_X6_parentLevel : GoodIn wsX7_comesTrue wsX6_parentLevel := goodIn_r _ [126, 115, 116, 117, 106, 118, 108, 109, 119, 42, 43, 23, 44, 25, 120, 65, 66, 12, 67, 68, 121, 70, 71, 72, 73, 74, 75, 76, 77, 78, 79, 18, 160, 161, 162, 163, 164, 158, 159, 152, 153, 154, 155, 156, 157] (by decide +kernel) (by decide +kernel)
set_option maxRecDepth 20000 in
theorem gX7_comesTrue_X6_parentLevel : GoodIn wsX7_comesTrue (wsV RX7 285 RX6 yX6_parentLevel wsX6_parentLevel) := goodIn_app (goodIn_of _ (by decide +kernel)) ggX7_comesTrue_X6_parentLevel
set_option maxRecDepth 20000 in
theorem ggX7_comesTrue_X2_atLeast : GoodIn wsX7_comesTrue wsX2_atLeast := goodIn_r _ [44, 25, 158, 159] (by decide +kernel) (by decide +kernel)
set_option maxRecDepth 20000 in
theorem gX7_comesTrue_X2_atLeast : GoodIn wsX7_comesTrue (wsV RX7 174 RX2 yX2_atLeast wsX2_atLeast) := goodIn_app (goodIn_of _ (by decide +kernel)) ggX7_comesTrue_X2_atLeast
set_option maxRecDepth 20000 in
theorem ggX7_comesTrue_X1_way : GoodIn wsX7_comesTrue wsX1_way := goodIn_r _ [67, 68, 152, 153, 154, 155, 156, 157] (by decide +kernel) (by decide +kernel)
set_option maxRecDepth 20000 in
theorem gX7_comesTrue_X1_way : GoodIn wsX7_comesTrue (wsV RX7 107 RX1 yX1_way wsX1_way) := goodIn_app (goodIn_of _ (by decide +kernel)) ggX7_comesTrue_X1_way
set_option maxRecDepth 20000 in
theorem ggX7_comesTrue_X1_countParts : GoodIn wsX7_comesTrue wsX1_countParts := goodIn_r _ [132, 78, 133, 70, 71, 12, 72, 73, 74, 75, 76, 77, 79, 18, 152, 153, 154, 155, 156, 157] (by decide +kernel) (by decide +kernel)
set_option maxRecDepth 20000 in
theorem gX7_comesTrue_X1_countParts : GoodIn wsX7_comesTrue (wsV RX7 177 RX1 yX1_countParts wsX1_countParts) := goodIn_app (goodIn_of _ (by decide +kernel)) ggX7_comesTrue_X1_countParts
set_option maxRecDepth 20000 in
theorem ggX7_comesTrue_X6_rise : GoodIn wsX7_comesTrue wsX6_rise := goodIn_r _ [137, 109, 138, 139, 140, 23, 141, 41, 42, 43, 44, 25, 119, 115, 116, 117, 106, 118, 108, 120, 65, 66, 12, 67, 68, 121, 70, 71, 72, 73, 74, 75, 76, 77, 78, 79, 18, 160, 161, 162, 163, 164, 158, 159, 152, 153, 154, 155, 156, 157] (by decide +kernel) (by decide +kernel)
set_option maxRecDepth 20000 in
theorem gX7_comesTrue_X6_rise : GoodIn wsX7_comesTrue (wsV RX7 166 RX6 yX6_rise wsX6_rise) := goodIn_app (goodIn_of _ (by decide +kernel)) ggX7_comesTrue_X6_rise
theorem dX7_comesTrue_0 : decode cX7_comesTrue 0 = .ok (.iload_n 1, 1) := by decide +kernel
theorem dX7_comesTrue_1 : decode cX7_comesTrue 1 = .ok (.tableswitch 229 1 7 #[43, 50, 71, 90, 109, 153, 185], 43) := by decide +kernel
theorem dX7_comesTrue_44 : decode cX7_comesTrue 44 = .ok (.aload_n 0, 1) := by decide +kernel
theorem dX7_comesTrue_45 : decode cX7_comesTrue 45 = .ok (.iload_n 2, 1) := by decide +kernel
theorem dX7_comesTrue_46 : decode cX7_comesTrue 46 = .ok (.iload_n 3, 1) := by decide +kernel
theorem dX7_comesTrue_47 : decode cX7_comesTrue 47 = .ok (.invokevirtual 275, 3) := by decide +kernel
theorem dX7_comesTrue_50 : decode cX7_comesTrue 50 = .ok (.ireturn, 1) := by decide +kernel
theorem dX7_comesTrue_51 : decode cX7_comesTrue 51 = .ok (.iload_n 2, 1) := by decide +kernel
theorem dX7_comesTrue_52 : decode cX7_comesTrue 52 = .ok (.ifCond .ne 18, 3) := by decide +kernel
theorem dX7_comesTrue_55 : decode cX7_comesTrue 55 = .ok (.iload_n 3, 1) := by decide +kernel
theorem dX7_comesTrue_56 : decode cX7_comesTrue 56 = .ok (.ifCond .ne 14, 3) := by decide +kernel
theorem dX7_comesTrue_59 : decode cX7_comesTrue 59 = .ok (.aload_n 0, 1) := by decide +kernel
theorem dX7_comesTrue_60 : decode cX7_comesTrue 60 = .ok (.invokevirtual 278, 3) := by decide +kernel
theorem dX7_comesTrue_63 : decode cX7_comesTrue 63 = .ok (.ifCond .eq 7, 3) := by decide +kernel
theorem dX7_comesTrue_66 : decode cX7_comesTrue 66 = .ok (.iconst 1, 1) := by decide +kernel
theorem dX7_comesTrue_67 : decode cX7_comesTrue 67 = .ok (.goto 4, 3) := by decide +kernel
theorem dX7_comesTrue_70 : decode cX7_comesTrue 70 = .ok (.iconst 0, 1) := by decide +kernel
theorem dX7_comesTrue_71 : decode cX7_comesTrue 71 = .ok (.ireturn, 1) := by decide +kernel
theorem dX7_comesTrue_72 : decode cX7_comesTrue 72 = .ok (.iload_n 3, 1) := by decide +kernel
theorem dX7_comesTrue_73 : decode cX7_comesTrue 73 = .ok (.ifCond .ne 16, 3) := by decide +kernel
theorem dX7_comesTrue_76 : decode cX7_comesTrue 76 = .ok (.aload_n 0, 1) := by decide +kernel
theorem dX7_comesTrue_77 : decode cX7_comesTrue 77 = .ok (.iconst 0, 1) := by decide +kernel
theorem dX7_comesTrue_78 : decode cX7_comesTrue 78 = .ok (.iload_n 2, 1) := by decide +kernel
theorem dX7_comesTrue_79 : decode cX7_comesTrue 79 = .ok (.invokevirtual 282, 3) := by decide +kernel
theorem dX7_comesTrue_82 : decode cX7_comesTrue 82 = .ok (.ifCond .eq 7, 3) := by decide +kernel
theorem dX7_comesTrue_85 : decode cX7_comesTrue 85 = .ok (.iconst 1, 1) := by decide +kernel
theorem dX7_comesTrue_86 : decode cX7_comesTrue 86 = .ok (.goto 4, 3) := by decide +kernel
theorem dX7_comesTrue_89 : decode cX7_comesTrue 89 = .ok (.iconst 0, 1) := by decide +kernel
theorem dX7_comesTrue_90 : decode cX7_comesTrue 90 = .ok (.ireturn, 1) := by decide +kernel
theorem dX7_comesTrue_91 : decode cX7_comesTrue 91 = .ok (.iload_n 3, 1) := by decide +kernel
theorem dX7_comesTrue_92 : decode cX7_comesTrue 92 = .ok (.ifCond .ne 16, 3) := by decide +kernel
theorem dX7_comesTrue_95 : decode cX7_comesTrue 95 = .ok (.aload_n 0, 1) := by decide +kernel
theorem dX7_comesTrue_96 : decode cX7_comesTrue 96 = .ok (.iconst 1, 1) := by decide +kernel
theorem dX7_comesTrue_97 : decode cX7_comesTrue 97 = .ok (.iload_n 2, 1) := by decide +kernel
theorem dX7_comesTrue_98 : decode cX7_comesTrue 98 = .ok (.invokevirtual 282, 3) := by decide +kernel
theorem dX7_comesTrue_101 : decode cX7_comesTrue 101 = .ok (.ifCond .eq 7, 3) := by decide +kernel
theorem dX7_comesTrue_104 : decode cX7_comesTrue 104 = .ok (.iconst 1, 1) := by decide +kernel
theorem dX7_comesTrue_105 : decode cX7_comesTrue 105 = .ok (.goto 4, 3) := by decide +kernel
theorem dX7_comesTrue_108 : decode cX7_comesTrue 108 = .ok (.iconst 0, 1) := by decide +kernel
theorem dX7_comesTrue_109 : decode cX7_comesTrue 109 = .ok (.ireturn, 1) := by decide +kernel
theorem dX7_comesTrue_110 : decode cX7_comesTrue 110 = .ok (.aload_n 0, 1) := by decide +kernel
theorem dX7_comesTrue_111 : decode cX7_comesTrue 111 = .ok (.getfield 19, 3) := by decide +kernel
theorem dX7_comesTrue_114 : decode cX7_comesTrue 114 = .ok (.iload_n 2, 1) := by decide +kernel
theorem dX7_comesTrue_115 : decode cX7_comesTrue 115 = .ok (.invokevirtual 132, 3) := by decide +kernel
theorem dX7_comesTrue_118 : decode cX7_comesTrue 118 = .ok (.ifCond .eq 34, 3) := by decide +kernel
theorem dX7_comesTrue_121 : decode cX7_comesTrue 121 = .ok (.aload_n 0, 1) := by decide +kernel
theorem dX7_comesTrue_122 : decode cX7_comesTrue 122 = .ok (.getfield 44, 3) := by decide +kernel
theorem dX7_comesTrue_125 : decode cX7_comesTrue 125 = .ok (.aload_n 0, 1) := by decide +kernel
theorem dX7_comesTrue_126 : decode cX7_comesTrue 126 = .ok (.getfield 44, 3) := by decide +kernel
theorem dX7_comesTrue_129 : decode cX7_comesTrue 129 = .ok (.iload_n 2, 1) := by decide +kernel
theorem dX7_comesTrue_130 : decode cX7_comesTrue 130 = .ok (.invokevirtual 138, 3) := by decide +kernel
theorem dX7_comesTrue_133 : decode cX7_comesTrue 133 = .ok (.aload_n 0, 1) := by decide +kernel
theorem dX7_comesTrue_134 : decode cX7_comesTrue 134 = .ok (.getfield 41, 3) := by decide +kernel
theorem dX7_comesTrue_137 : decode cX7_comesTrue 137 = .ok (.iload_n 2, 1) := by decide +kernel
theorem dX7_comesTrue_138 : decode cX7_comesTrue 138 = .ok (.invokevirtual 135, 3) := by decide +kernel
theorem dX7_comesTrue_141 : decode cX7_comesTrue 141 = .ok (.invokevirtual 285, 3) := by decide +kernel
theorem dX7_comesTrue_144 : decode cX7_comesTrue 144 = .ok (.iload_n 3, 1) := by decide +kernel
theorem dX7_comesTrue_145 : decode cX7_comesTrue 145 = .ok (.if_icmp .ne 7, 3) := by decide +kernel
theorem dX7_comesTrue_148 : decode cX7_comesTrue 148 = .ok (.iconst 1, 1) := by decide +kernel
theorem dX7_comesTrue_149 : decode cX7_comesTrue 149 = .ok (.goto 4, 3) := by decide +kernel
theorem dX7_comesTrue_152 : decode cX7_comesTrue 152 = .ok (.iconst 0, 1) := by decide +kernel
theorem dX7_comesTrue_153 : decode cX7_comesTrue 153 = .ok (.ireturn, 1) := by decide +kernel
theorem dX7_comesTrue_154 : decode cX7_comesTrue 154 = .ok (.aload_n 0, 1) := by decide +kernel
theorem dX7_comesTrue_155 : decode cX7_comesTrue 155 = .ok (.getfield 19, 3) := by decide +kernel
theorem dX7_comesTrue_158 : decode cX7_comesTrue 158 = .ok (.aload_n 0, 1) := by decide +kernel
theorem dX7_comesTrue_159 : decode cX7_comesTrue 159 = .ok (.getfield 41, 3) := by decide +kernel
theorem dX7_comesTrue_162 : decode cX7_comesTrue 162 = .ok (.iload_n 3, 1) := by decide +kernel
theorem dX7_comesTrue_163 : decode cX7_comesTrue 163 = .ok (.invokevirtual 174, 3) := by decide +kernel
theorem dX7_comesTrue_166 : decode cX7_comesTrue 166 = .ok (.aload_n 0, 1) := by decide +kernel
theorem dX7_comesTrue_167 : decode cX7_comesTrue 167 = .ok (.getfield 19, 3) := by decide +kernel
theorem dX7_comesTrue_170 : decode cX7_comesTrue 170 = .ok (.invokevirtual 107, 3) := by decide +kernel
theorem dX7_comesTrue_173 : decode cX7_comesTrue 173 = .ok (.invokevirtual 177, 3) := by decide +kernel
theorem dX7_comesTrue_176 : decode cX7_comesTrue 176 = .ok (.iload_n 2, 1) := by decide +kernel
theorem dX7_comesTrue_177 : decode cX7_comesTrue 177 = .ok (.if_icmp .lt 7, 3) := by decide +kernel
theorem dX7_comesTrue_180 : decode cX7_comesTrue 180 = .ok (.iconst 1, 1) := by decide +kernel
theorem dX7_comesTrue_181 : decode cX7_comesTrue 181 = .ok (.goto 4, 3) := by decide +kernel
theorem dX7_comesTrue_184 : decode cX7_comesTrue 184 = .ok (.iconst 0, 1) := by decide +kernel
theorem dX7_comesTrue_185 : decode cX7_comesTrue 185 = .ok (.ireturn, 1) := by decide +kernel
theorem dX7_comesTrue_186 : decode cX7_comesTrue 186 = .ok (.aload_n 0, 1) := by decide +kernel
theorem dX7_comesTrue_187 : decode cX7_comesTrue 187 = .ok (.getfield 19, 3) := by decide +kernel
theorem dX7_comesTrue_190 : decode cX7_comesTrue 190 = .ok (.iload_n 2, 1) := by decide +kernel
theorem dX7_comesTrue_191 : decode cX7_comesTrue 191 = .ok (.invokevirtual 132, 3) := by decide +kernel
theorem dX7_comesTrue_194 : decode cX7_comesTrue 194 = .ok (.ifCond .eq 34, 3) := by decide +kernel
theorem dX7_comesTrue_197 : decode cX7_comesTrue 197 = .ok (.aload_n 0, 1) := by decide +kernel
theorem dX7_comesTrue_198 : decode cX7_comesTrue 198 = .ok (.getfield 44, 3) := by decide +kernel
theorem dX7_comesTrue_201 : decode cX7_comesTrue 201 = .ok (.aload_n 0, 1) := by decide +kernel
theorem dX7_comesTrue_202 : decode cX7_comesTrue 202 = .ok (.getfield 44, 3) := by decide +kernel
theorem dX7_comesTrue_205 : decode cX7_comesTrue 205 = .ok (.iload_n 2, 1) := by decide +kernel
theorem dX7_comesTrue_206 : decode cX7_comesTrue 206 = .ok (.invokevirtual 138, 3) := by decide +kernel
theorem dX7_comesTrue_209 : decode cX7_comesTrue 209 = .ok (.aload_n 0, 1) := by decide +kernel
theorem dX7_comesTrue_210 : decode cX7_comesTrue 210 = .ok (.getfield 41, 3) := by decide +kernel
theorem dX7_comesTrue_213 : decode cX7_comesTrue 213 = .ok (.iload_n 2, 1) := by decide +kernel
theorem dX7_comesTrue_214 : decode cX7_comesTrue 214 = .ok (.invokevirtual 135, 3) := by decide +kernel
theorem dX7_comesTrue_217 : decode cX7_comesTrue 217 = .ok (.invokevirtual 166, 3) := by decide +kernel
theorem dX7_comesTrue_220 : decode cX7_comesTrue 220 = .ok (.iload_n 3, 1) := by decide +kernel
theorem dX7_comesTrue_221 : decode cX7_comesTrue 221 = .ok (.if_icmp .ne 7, 3) := by decide +kernel
theorem dX7_comesTrue_224 : decode cX7_comesTrue 224 = .ok (.iconst 1, 1) := by decide +kernel
theorem dX7_comesTrue_225 : decode cX7_comesTrue 225 = .ok (.goto 4, 3) := by decide +kernel
theorem dX7_comesTrue_228 : decode cX7_comesTrue 228 = .ok (.iconst 0, 1) := by decide +kernel
theorem dX7_comesTrue_229 : decode cX7_comesTrue 229 = .ok (.ireturn, 1) := by decide +kernel
theorem dX7_comesTrue_230 : decode cX7_comesTrue 230 = .ok (.iconst 0, 1) := by decide +kernel
theorem dX7_comesTrue_231 : decode cX7_comesTrue 231 = .ok (.ireturn, 1) := by decide +kernel
set_option maxRecDepth 20000 in
theorem ggX7_trialPainted_X1_hasDot : GoodIn wsX7_trialPainted wsX1_hasDot := goodIn_r _ [7, 8, 9, 10, 6, 11, 12, 13, 31, 32, 33, 34, 35, 36] (by decide +kernel) (by decide +kernel)
set_option maxRecDepth 20000 in
theorem gX7_trialPainted_X1_hasDot : GoodIn wsX7_trialPainted (wsV RX7 132 RX1 yX1_hasDot wsX1_hasDot) := goodIn_app (goodIn_of _ (by decide +kernel)) ggX7_trialPainted_X1_hasDot
set_option maxRecDepth 20000 in
theorem ggX7_trialPainted_X2_set : GoodIn wsX7_trialPainted wsX2_set := goodIn_r _ [18, 19, 20, 37, 38] (by decide +kernel) (by decide +kernel)
set_option maxRecDepth 20000 in
theorem gX7_trialPainted_X2_set : GoodIn wsX7_trialPainted (wsV RX7 98 RX2 yX2_set wsX2_set) := goodIn_app (goodIn_of _ (by decide +kernel)) ggX7_trialPainted_X2_set
theorem dX7_trialPainted_0 : decode cX7_trialPainted 0 = .ok (.aload_n 0, 1) := by decide +kernel
theorem dX7_trialPainted_1 : decode cX7_trialPainted 1 = .ok (.getfield 19, 3) := by decide +kernel
theorem dX7_trialPainted_4 : decode cX7_trialPainted 4 = .ok (.iload_n 1, 1) := by decide +kernel
theorem dX7_trialPainted_5 : decode cX7_trialPainted 5 = .ok (.invokevirtual 132, 3) := by decide +kernel
theorem dX7_trialPainted_8 : decode cX7_trialPainted 8 = .ok (.ifCond .ne 5, 3) := by decide +kernel
theorem dX7_trialPainted_11 : decode cX7_trialPainted 11 = .ok (.iconst 0, 1) := by decide +kernel
theorem dX7_trialPainted_12 : decode cX7_trialPainted 12 = .ok (.ireturn, 1) := by decide +kernel
theorem dX7_trialPainted_13 : decode cX7_trialPainted 13 = .ok (.aload_n 0, 1) := by decide +kernel
theorem dX7_trialPainted_14 : decode cX7_trialPainted 14 = .ok (.getfield 41, 3) := by decide +kernel
theorem dX7_trialPainted_17 : decode cX7_trialPainted 17 = .ok (.iload_n 1, 1) := by decide +kernel
theorem dX7_trialPainted_18 : decode cX7_trialPainted 18 = .ok (.iload_n 2, 1) := by decide +kernel
theorem dX7_trialPainted_19 : decode cX7_trialPainted 19 = .ok (.invokevirtual 98, 3) := by decide +kernel
theorem dX7_trialPainted_22 : decode cX7_trialPainted 22 = .ok (.iconst 1, 1) := by decide +kernel
theorem dX7_trialPainted_23 : decode cX7_trialPainted 23 = .ok (.ireturn, 1) := by decide +kernel
set_option maxRecDepth 20000 in
theorem ggX7_trialTurned_X2_turn : GoodIn wsX7_trialTurned wsX2_turn := goodIn_r _ [6, 7, 8, 9, 10, 11, 12, 13, 14, 15, 16, 17, 5, 18, 19, 20, 21, 22, 23, 34, 35, 36, 37, 38, 39, 40, 41] (by decide +kernel) (by decide +kernel)
set_option maxRecDepth 20000 in
theorem gX7_trialTurned_X2_turn : GoodIn wsX7_trialTurned (wsV RX7 183 RX2 yX2_turn wsX2_turn) := goodIn_app (goodIn_of _ (by decide +kernel)) ggX7_trialTurned_X2_turn
theorem dX7_trialTurned_0 : decode cX7_trialTurned 0 = .ok (.aload_n 0, 1) := by decide +kernel
theorem dX7_trialTurned_1 : decode cX7_trialTurned 1 = .ok (.getfield 41, 3) := by decide +kernel
theorem dX7_trialTurned_4 : decode cX7_trialTurned 4 = .ok (.invokevirtual 183, 3) := by decide +kernel
theorem dX7_trialTurned_7 : decode cX7_trialTurned 7 = .ok (.iconst 1, 1) := by decide +kernel
theorem dX7_trialTurned_8 : decode cX7_trialTurned 8 = .ok (.ireturn, 1) := by decide +kernel
set_option maxRecDepth 20000 in
theorem ggX7_trialThinned_X7_isSieve : GoodIn wsX7_trialThinned wsX7_isSieve := goodIn_r _ [5] (by decide +kernel) (by decide +kernel)
set_option maxRecDepth 20000 in
theorem gX7_trialThinned_X7_isSieve : GoodIn wsX7_trialThinned (va_wsS RX7 186 yX7_isSieve wsX7_isSieve) := goodIn_app (goodIn_of _ (by decide +kernel)) ggX7_trialThinned_X7_isSieve
set_option maxRecDepth 20000 in
theorem ggX7_trialThinned_X2_thin : GoodIn wsX7_trialThinned wsX2_thin := goodIn_r _ [10, 11, 12, 13, 14, 15, 9, 16, 17, 18, 19, 20, 21, 22, 23, 24, 25, 26, 27, 28, 29, 30, 31, 32, 33, 34, 35, 36, 37, 38, 39, 40, 41, 42, 43, 44, 45, 46, 47, 48, 49, 50, 51, 52, 53, 54, 55, 56, 57, 58, 59, 60, 61, 62, 63, 64, 75, 76, 77, 78, 79, 80, 81, 82] (by decide +kernel) (by decide +kernel)
set_option maxRecDepth 20000 in
theorem gX7_trialThinned_X2_thin : GoodIn wsX7_trialThinned (wsV RX7 190 RX2 yX2_thin wsX2_thin) := goodIn_app (goodIn_of _ (by decide +kernel)) ggX7_trialThinned_X2_thin
theorem dX7_trialThinned_0 : decode cX7_trialThinned 0 = .ok (.iload_n 1, 1) := by decide +kernel
theorem dX7_trialThinned_1 : decode cX7_trialThinned 1 = .ok (.iload_n 2, 1) := by decide +kernel
theorem dX7_trialThinned_2 : decode cX7_trialThinned 2 = .ok (.invokestatic 186, 3) := by decide +kernel
theorem dX7_trialThinned_5 : decode cX7_trialThinned 5 = .ok (.ifCond .ne 5, 3) := by decide +kernel
theorem dX7_trialThinned_8 : decode cX7_trialThinned 8 = .ok (.iconst 0, 1) := by decide +kernel
theorem dX7_trialThinned_9 : decode cX7_trialThinned 9 = .ok (.ireturn, 1) := by decide +kernel
theorem dX7_trialThinned_10 : decode cX7_trialThinned 10 = .ok (.aload_n 0, 1) := by decide +kernel
theorem dX7_trialThinned_11 : decode cX7_trialThinned 11 = .ok (.getfield 41, 3) := by decide +kernel
theorem dX7_trialThinned_14 : decode cX7_trialThinned 14 = .ok (.iload_n 1, 1) := by decide +kernel
theorem dX7_trialThinned_15 : decode cX7_trialThinned 15 = .ok (.iload_n 2, 1) := by decide +kernel
theorem dX7_trialThinned_16 : decode cX7_trialThinned 16 = .ok (.invokevirtual 190, 3) := by decide +kernel
theorem dX7_trialThinned_19 : decode cX7_trialThinned 19 = .ok (.pop, 1) := by decide +kernel
theorem dX7_trialThinned_20 : decode cX7_trialThinned 20 = .ok (.iconst 1, 1) := by decide +kernel
theorem dX7_trialThinned_21 : decode cX7_trialThinned 21 = .ok (.ireturn, 1) := by decide +kernel
set_option maxRecDepth 20000 in
theorem ggX7_change_X1_size : GoodIn wsX7_change wsX1_size := goodIn_r _ [9, 10, 11, 94, 95, 96, 97, 98, 99] (by decide +kernel) (by decide +kernel)
set_option maxRecDepth 20000 in
theorem gX7_change_X1_size : GoodIn wsX7_change (wsV RX7 97 RX1 yX1_size wsX1_size) := goodIn_app (goodIn_of _ (by decide +kernel)) ggX7_change_X1_size
set_option maxRecDepth 20000 in
theorem ggX7_change_X2_set : GoodIn wsX7_change wsX2_set := goodIn_r _ [16, 17, 18, 100, 101] (by decide +kernel) (by decide +kernel)
set_option maxRecDepth 20000 in
theorem gX7_change_X2_set : GoodIn wsX7_change (wsV RX7 98 RX2 yX2_set wsX2_set) := goodIn_app (goodIn_of _ (by decide +kernel)) ggX7_change_X2_set
set_option maxRecDepth 20000 in
theorem ggX7_change_X2_turn : GoodIn wsX7_change wsX2_turn := goodIn_r _ [22, 23, 18, 24, 25, 26, 8, 27, 28, 29, 30, 31, 15, 32, 17, 33, 34, 35, 36, 100, 101, 94, 95, 96, 97, 98, 99] (by decide +kernel) (by decide +kernel)
set_option maxRecDepth 20000 in
theorem gX7_change_X2_turn : GoodIn wsX7_change (wsV RX7 183 RX2 yX2_turn wsX2_turn) := goodIn_app (goodIn_of _ (by decide +kernel)) ggX7_change_X2_turn
set_option maxRecDepth 20000 in
theorem ggX7_change_X2_thin : GoodIn wsX7_change wsX2_thin := goodIn_r _ [40, 17, 18, 41, 42, 43, 15, 44, 23, 24, 25, 26, 8, 27, 28, 45, 46, 47, 48, 49, 50, 51, 52, 53, 54, 55, 56, 57, 58, 59, 60, 10, 61, 62, 63, 64, 65, 66, 67, 68, 69, 70, 71, 72, 73, 74, 75, 76, 77, 78, 79, 11, 80, 81, 82, 83, 100, 101, 94, 95, 96, 97, 98, 99] (by decide +kernel) (by decide +kernel)
set_option maxRecDepth 20000 in
theorem gX7_change_X2_thin : GoodIn wsX7_change (wsV RX7 190 RX2 yX2_thin wsX2_thin) := goodIn_app (goodIn_of _ (by decide +kernel)) ggX7_change_X2_thin
theorem dX7_change_0 : decode cX7_change 0 = .ok (.aload_n 0, 1) := by decide +kernel
theorem dX7_change_1 : decode cX7_change 1 = .ok (.getfield 19, 3) := by decide +kernel
theorem dX7_change_4 : decode cX7_change 4 = .ok (.invokevirtual 97, 3) := by decide +kernel
theorem dX7_change_7 : decode cX7_change 7 = .ok (.istore_n 3, 1) := by decide +kernel
theorem dX7_change_8 : decode cX7_change 8 = .ok (.iload_n 3, 1) := by decide +kernel
theorem dX7_change_9 : decode cX7_change 9 = .ok (.iconst 1, 1) := by decide +kernel
theorem dX7_change_10 : decode cX7_change 10 = .ok (.if_icmp .ge 4, 3) := by decide +kernel
theorem dX7_change_13 : decode cX7_change 13 = .ok (.return_, 1) := by decide +kernel
theorem dX7_change_14 : decode cX7_change 14 = .ok (.lload_n 1, 1) := by decide +kernel
theorem dX7_change_15 : decode cX7_change 15 = .ok (.iload_n 3, 1) := by decide +kernel
theorem dX7_change_16 : decode cX7_change 16 = .ok (.i2l, 1) := by decide +kernel
theorem dX7_change_17 : decode cX7_change 17 = .ok (.lrem, 1) := by decide +kernel
theorem dX7_change_18 : decode cX7_change 18 = .ok (.l2i, 1) := by decide +kernel
theorem dX7_change_19 : decode cX7_change 19 = .ok (.istore 4, 2) := by decide +kernel
theorem dX7_change_21 : decode cX7_change 21 = .ok (.lload_n 1, 1) := by decide +kernel
theorem dX7_change_22 : decode cX7_change 22 = .ok (.ldc2_w 288, 3) := by decide +kernel
theorem dX7_change_25 : decode cX7_change 25 = .ok (.ldiv, 1) := by decide +kernel
theorem dX7_change_26 : decode cX7_change 26 = .ok (.ldc2_w 290, 3) := by decide +kernel
theorem dX7_change_29 : decode cX7_change 29 = .ok (.lrem, 1) := by decide +kernel
theorem dX7_change_30 : decode cX7_change 30 = .ok (.l2i, 1) := by decide +kernel
theorem dX7_change_31 : decode cX7_change 31 = .ok (.istore 5, 2) := by decide +kernel
theorem dX7_change_33 : decode cX7_change 33 = .ok (.iload 5, 2) := by decide +kernel
theorem dX7_change_35 : decode cX7_change 35 = .ok (.bipush 9, 2) := by decide +kernel
theorem dX7_change_37 : decode cX7_change 37 = .ok (.if_icmp .gt 17, 3) := by decide +kernel
theorem dX7_change_40 : decode cX7_change 40 = .ok (.aload_n 0, 1) := by decide +kernel
theorem dX7_change_41 : decode cX7_change 41 = .ok (.getfield 41, 3) := by decide +kernel
theorem dX7_change_44 : decode cX7_change 44 = .ok (.iload 4, 2) := by decide +kernel
theorem dX7_change_46 : decode cX7_change 46 = .ok (.iload 5, 2) := by decide +kernel
theorem dX7_change_48 : decode cX7_change 48 = .ok (.invokevirtual 98, 3) := by decide +kernel
theorem dX7_change_51 : decode cX7_change 51 = .ok (.goto 30, 3) := by decide +kernel
theorem dX7_change_54 : decode cX7_change 54 = .ok (.iload 5, 2) := by decide +kernel
theorem dX7_change_56 : decode cX7_change 56 = .ok (.bipush 10, 2) := by decide +kernel
theorem dX7_change_58 : decode cX7_change 58 = .ok (.if_icmp .ne 13, 3) := by decide +kernel
theorem dX7_change_61 : decode cX7_change 61 = .ok (.aload_n 0, 1) := by decide +kernel
theorem dX7_change_62 : decode cX7_change 62 = .ok (.getfield 41, 3) := by decide +kernel
theorem dX7_change_65 : decode cX7_change 65 = .ok (.invokevirtual 183, 3) := by decide +kernel
theorem dX7_change_68 : decode cX7_change 68 = .ok (.goto 13, 3) := by decide +kernel
theorem dX7_change_71 : decode cX7_change 71 = .ok (.aload_n 0, 1) := by decide +kernel
theorem dX7_change_72 : decode cX7_change 72 = .ok (.getfield 41, 3) := by decide +kernel
theorem dX7_change_75 : decode cX7_change 75 = .ok (.iconst 0, 1) := by decide +kernel
theorem dX7_change_76 : decode cX7_change 76 = .ok (.iconst 2, 1) := by decide +kernel
theorem dX7_change_77 : decode cX7_change 77 = .ok (.invokevirtual 190, 3) := by decide +kernel
theorem dX7_change_80 : decode cX7_change 80 = .ok (.pop, 1) := by decide +kernel
theorem dX7_change_81 : decode cX7_change 81 = .ok (.return_, 1) := by decide +kernel
set_option maxRecDepth 20000 in
theorem ggX7_sharedOut_X1_high : GoodIn wsX7_sharedOut wsX1_high := goodIn_r _ [6, 7, 62, 63, 64, 65, 66, 67] (by decide +kernel) (by decide +kernel)
set_option maxRecDepth 20000 in
theorem gX7_sharedOut_X1_high : GoodIn wsX7_sharedOut (wsV RX7 113 RX1 yX1_high wsX1_high) := goodIn_app (goodIn_of _ (by decide +kernel)) ggX7_sharedOut_X1_high
set_option maxRecDepth 20000 in
theorem ggX7_sharedOut_J6_bitCount_0f7a4 : GoodIn wsX7_sharedOut wsJ6_bitCount_0f7a4 := goodIn_r _ [11, 12, 13, 14] (by decide +kernel) (by decide +kernel)
set_option maxRecDepth 20000 in
theorem gX7_sharedOut_J6_bitCount_0f7a4 : GoodIn wsX7_sharedOut (va_wsS RX7 292 yJ6_bitCount_0f7a4 wsJ6_bitCount_0f7a4) := goodIn_app (goodIn_of _ (by decide +kernel)) ggX7_sharedOut_J6_bitCount_0f7a4
set_option maxRecDepth 20000 in
theorem ggX7_sharedOut_X7_factorial : GoodIn wsX7_sharedOut wsX7_factorial := goodIn_r _ [18] (by decide +kernel) (by decide +kernel)
set_option maxRecDepth 20000 in
theorem gX7_sharedOut_X7_factorial : GoodIn wsX7_sharedOut (va_wsS RX7 236 yX7_factorial wsX7_factorial) := goodIn_app (goodIn_of _ (by decide +kernel)) ggX7_sharedOut_X7_factorial
set_option maxRecDepth 20000 in
theorem ggX7_sharedOut_X7_partsOfRows : GoodIn wsX7_sharedOut wsX7_partsOfRows := goodIn_r _ [22, 1, 23, 24, 25, 5, 26, 7, 27, 28, 29, 30, 31, 32, 33, 34, 35, 36, 37, 38, 39, 40, 41, 42, 43, 44, 45, 46, 47, 48, 49, 50, 51, 52, 53, 54, 55, 56, 57, 58, 59, 60, 61, 62, 63, 64, 65, 66, 67] (by decide +kernel) (by decide +kernel)
set_option maxRecDepth 20000 in
theorem gX7_sharedOut_X7_partsOfRows : GoodIn wsX7_sharedOut (wsV RX7 296 RX7 yX7_partsOfRows wsX7_partsOfRows) := goodIn_app (goodIn_of _ (by decide +kernel)) ggX7_sharedOut_X7_partsOfRows
theorem dX7_sharedOut_0 : decode cX7_sharedOut 0 = .ok (.aload_n 0, 1) := by decide +kernel
theorem dX7_sharedOut_1 : decode cX7_sharedOut 1 = .ok (.getfield 19, 3) := by decide +kernel
theorem dX7_sharedOut_4 : decode cX7_sharedOut 4 = .ok (.invokevirtual 113, 3) := by decide +kernel
theorem dX7_sharedOut_7 : decode cX7_sharedOut 7 = .ok (.istore 4, 2) := by decide +kernel
theorem dX7_sharedOut_9 : decode cX7_sharedOut 9 = .ok (.iconst 0, 1) := by decide +kernel
theorem dX7_sharedOut_10 : decode cX7_sharedOut 10 = .ok (.istore 5, 2) := by decide +kernel
theorem dX7_sharedOut_12 : decode cX7_sharedOut 12 = .ok (.iconst 0, 1) := by decide +kernel
theorem dX7_sharedOut_13 : decode cX7_sharedOut 13 = .ok (.istore 6, 2) := by decide +kernel
theorem dX7_sharedOut_15 : decode cX7_sharedOut 15 = .ok (.iload 6, 2) := by decide +kernel
theorem dX7_sharedOut_17 : decode cX7_sharedOut 17 = .ok (.iconst 1, 1) := by decide +kernel
theorem dX7_sharedOut_18 : decode cX7_sharedOut 18 = .ok (.iload 4, 2) := by decide +kernel
theorem dX7_sharedOut_20 : decode cX7_sharedOut 20 = .ok (.ishl, 1) := by decide +kernel
theorem dX7_sharedOut_21 : decode cX7_sharedOut 21 = .ok (.if_icmp .ge 74, 3) := by decide +kernel
theorem dX7_sharedOut_24 : decode cX7_sharedOut 24 = .ok (.iload 6, 2) := by decide +kernel
theorem dX7_sharedOut_26 : decode cX7_sharedOut 26 = .ok (.iload_n 3, 1) := by decide +kernel
theorem dX7_sharedOut_27 : decode cX7_sharedOut 27 = .ok (.ishr, 1) := by decide +kernel
theorem dX7_sharedOut_28 : decode cX7_sharedOut 28 = .ok (.iconst 1, 1) := by decide +kernel
theorem dX7_sharedOut_29 : decode cX7_sharedOut 29 = .ok (.iand, 1) := by decide +kernel
theorem dX7_sharedOut_30 : decode cX7_sharedOut 30 = .ok (.ifCond .ne 59, 3) := by decide +kernel
theorem dX7_sharedOut_33 : decode cX7_sharedOut 33 = .ok (.iload 6, 2) := by decide +kernel
theorem dX7_sharedOut_35 : decode cX7_sharedOut 35 = .ok (.invokestatic 292, 3) := by decide +kernel
theorem dX7_sharedOut_38 : decode cX7_sharedOut 38 = .ok (.istore 7, 2) := by decide +kernel
theorem dX7_sharedOut_40 : decode cX7_sharedOut 40 = .ok (.iload 7, 2) := by decide +kernel
theorem dX7_sharedOut_42 : decode cX7_sharedOut 42 = .ok (.invokestatic 236, 3) := by decide +kernel
theorem dX7_sharedOut_45 : decode cX7_sharedOut 45 = .ok (.iload 4, 2) := by decide +kernel
theorem dX7_sharedOut_47 : decode cX7_sharedOut 47 = .ok (.iconst 1, 1) := by decide +kernel
theorem dX7_sharedOut_48 : decode cX7_sharedOut 48 = .ok (.isub, 1) := by decide +kernel
theorem dX7_sharedOut_49 : decode cX7_sharedOut 49 = .ok (.iload 7, 2) := by decide +kernel
theorem dX7_sharedOut_51 : decode cX7_sharedOut 51 = .ok (.isub, 1) := by decide +kernel
theorem dX7_sharedOut_52 : decode cX7_sharedOut 52 = .ok (.invokestatic 236, 3) := by decide +kernel
theorem dX7_sharedOut_55 : decode cX7_sharedOut 55 = .ok (.imul, 1) := by decide +kernel
theorem dX7_sharedOut_56 : decode cX7_sharedOut 56 = .ok (.istore 8, 2) := by decide +kernel
theorem dX7_sharedOut_58 : decode cX7_sharedOut 58 = .ok (.aload_n 0, 1) := by decide +kernel
theorem dX7_sharedOut_59 : decode cX7_sharedOut 59 = .ok (.lload_n 1, 1) := by decide +kernel
theorem dX7_sharedOut_60 : decode cX7_sharedOut 60 = .ok (.iload 6, 2) := by decide +kernel
theorem dX7_sharedOut_62 : decode cX7_sharedOut 62 = .ok (.iconst 1, 1) := by decide +kernel
theorem dX7_sharedOut_63 : decode cX7_sharedOut 63 = .ok (.iload_n 3, 1) := by decide +kernel
theorem dX7_sharedOut_64 : decode cX7_sharedOut 64 = .ok (.ishl, 1) := by decide +kernel
theorem dX7_sharedOut_65 : decode cX7_sharedOut 65 = .ok (.ior, 1) := by decide +kernel
theorem dX7_sharedOut_66 : decode cX7_sharedOut 66 = .ok (.invokevirtual 296, 3) := by decide +kernel
theorem dX7_sharedOut_69 : decode cX7_sharedOut 69 = .ok (.aload_n 0, 1) := by decide +kernel
theorem dX7_sharedOut_70 : decode cX7_sharedOut 70 = .ok (.lload_n 1, 1) := by decide +kernel
theorem dX7_sharedOut_71 : decode cX7_sharedOut 71 = .ok (.iload 6, 2) := by decide +kernel
theorem dX7_sharedOut_73 : decode cX7_sharedOut 73 = .ok (.invokevirtual 296, 3) := by decide +kernel
theorem dX7_sharedOut_76 : decode cX7_sharedOut 76 = .ok (.isub, 1) := by decide +kernel
theorem dX7_sharedOut_77 : decode cX7_sharedOut 77 = .ok (.istore 9, 2) := by decide +kernel
theorem dX7_sharedOut_79 : decode cX7_sharedOut 79 = .ok (.iload 5, 2) := by decide +kernel
theorem dX7_sharedOut_81 : decode cX7_sharedOut 81 = .ok (.iload 8, 2) := by decide +kernel
theorem dX7_sharedOut_83 : decode cX7_sharedOut 83 = .ok (.iload 9, 2) := by decide +kernel
theorem dX7_sharedOut_85 : decode cX7_sharedOut 85 = .ok (.imul, 1) := by decide +kernel
theorem dX7_sharedOut_86 : decode cX7_sharedOut 86 = .ok (.iadd, 1) := by decide +kernel
theorem dX7_sharedOut_87 : decode cX7_sharedOut 87 = .ok (.istore 5, 2) := by decide +kernel
theorem dX7_sharedOut_89 : decode cX7_sharedOut 89 = .ok (.iinc 6 1, 3) := by decide +kernel
theorem dX7_sharedOut_92 : decode cX7_sharedOut 92 = .ok (.goto (-77), 3) := by decide +kernel
theorem dX7_sharedOut_95 : decode cX7_sharedOut 95 = .ok (.iload 5, 2) := by decide +kernel
theorem dX7_sharedOut_97 : decode cX7_sharedOut 97 = .ok (.ireturn, 1) := by decide +kernel
set_option maxRecDepth 20000 in
theorem ggX7_partsOfRows_X1_rows : GoodIn wsX7_partsOfRows wsX1_rows := goodIn_r _ [6, 7, 8, 9, 10, 5, 11, 12, 43, 44, 45, 46, 47, 48] (by decide +kernel) (by decide +kernel)
set_option maxRecDepth 20000 in
theorem gX7_partsOfRows_X1_rows : GoodIn wsX7_partsOfRows (wsV RX7 299 RX1 yX1_rows wsX1_rows) := goodIn_app (goodIn_of _ (by decide +kernel)) ggX7_partsOfRows_X1_rows
set_option maxRecDepth 20000 in
theorem ggX7_partsOfRows_X1_way : GoodIn wsX7_partsOfRows wsX1_way := goodIn_r _ [16, 17, 43, 44, 45, 46, 47, 48] (by decide +kernel) (by decide +kernel)
set_option maxRecDepth 20000 in
theorem gX7_partsOfRows_X1_way : GoodIn wsX7_partsOfRows (wsV RX7 107 RX1 yX1_way wsX1_way) := goodIn_app (goodIn_of _ (by decide +kernel)) ggX7_partsOfRows_X1_way
set_option maxRecDepth 20000 in
theorem ggX7_partsOfRows_X1_countParts : GoodIn wsX7_partsOfRows wsX1_countParts := goodIn_r _ [21, 22, 23, 24, 25, 5, 26, 27, 28, 29, 30, 31, 32, 12, 43, 44, 45, 46, 47, 48] (by decide +kernel) (by decide +kernel)
set_option maxRecDepth 20000 in
theorem gX7_partsOfRows_X1_countParts : GoodIn wsX7_partsOfRows (wsV RX7 177 RX1 yX1_countParts wsX1_countParts) := goodIn_app (goodIn_of _ (by decide +kernel)) ggX7_partsOfRows_X1_countParts
theorem dX7_partsOfRows_0 : decode cX7_partsOfRows 0 = .ok (.aload_n 0, 1) := by decide +kernel
theorem dX7_partsOfRows_1 : decode cX7_partsOfRows 1 = .ok (.getfield 19, 3) := by decide +kernel
theorem dX7_partsOfRows_4 : decode cX7_partsOfRows 4 = .ok (.lload_n 1, 1) := by decide +kernel
theorem dX7_partsOfRows_5 : decode cX7_partsOfRows 5 = .ok (.aload_n 0, 1) := by decide +kernel
theorem dX7_partsOfRows_6 : decode cX7_partsOfRows 6 = .ok (.getfield 19, 3) := by decide +kernel
theorem dX7_partsOfRows_9 : decode cX7_partsOfRows 9 = .ok (.iload_n 3, 1) := by decide +kernel
theorem dX7_partsOfRows_10 : decode cX7_partsOfRows 10 = .ok (.invokevirtual 299, 3) := by decide +kernel
theorem dX7_partsOfRows_13 : decode cX7_partsOfRows 13 = .ok (.land, 1) := by decide +kernel
theorem dX7_partsOfRows_14 : decode cX7_partsOfRows 14 = .ok (.aload_n 0, 1) := by decide +kernel
theorem dX7_partsOfRows_15 : decode cX7_partsOfRows 15 = .ok (.getfield 19, 3) := by decide +kernel
theorem dX7_partsOfRows_18 : decode cX7_partsOfRows 18 = .ok (.invokevirtual 107, 3) := by decide +kernel
theorem dX7_partsOfRows_21 : decode cX7_partsOfRows 21 = .ok (.invokevirtual 177, 3) := by decide +kernel
theorem dX7_partsOfRows_24 : decode cX7_partsOfRows 24 = .ok (.ireturn, 1) := by decide +kernel
set_option maxRecDepth 20000 in
theorem ggX7_fadedOut_X1_way : GoodIn wsX7_fadedOut wsX1_way := goodIn_r _ [7, 8, 46, 47, 48, 49, 50, 51] (by decide +kernel) (by decide +kernel)
set_option maxRecDepth 20000 in
theorem gX7_fadedOut_X1_way : GoodIn wsX7_fadedOut (wsV RX7 107 RX1 yX1_way wsX1_way) := goodIn_app (goodIn_of _ (by decide +kernel)) ggX7_fadedOut_X1_way
set_option maxRecDepth 20000 in
theorem ggX7_fadedOut_X1_countParts : GoodIn wsX7_fadedOut wsX1_countParts := goodIn_r _ [12, 13, 14, 15, 16, 6, 17, 18, 19, 20, 21, 22, 23, 24, 46, 47, 48, 49, 50, 51] (by decide +kernel) (by decide +kernel)
set_option maxRecDepth 20000 in
theorem gX7_fadedOut_X1_countParts : GoodIn wsX7_fadedOut (wsV RX7 177 RX1 yX1_countParts wsX1_countParts) := goodIn_app (goodIn_of _ (by decide +kernel)) ggX7_fadedOut_X1_countParts
set_option maxRecDepth 20000 in
theorem ggX7_fadedOut_J13_bitCount_95d88 : GoodIn wsX7_fadedOut wsJ13_bitCount_95d88 := goodIn_r _ [28, 29, 30, 31] (by decide +kernel) (by decide +kernel)
set_option maxRecDepth 20000 in
theorem gX7_fadedOut_J13_bitCount_95d88 : GoodIn wsX7_fadedOut (va_wsS RX7 146 yJ13_bitCount_95d88 wsJ13_bitCount_95d88) := goodIn_app (goodIn_of _ (by decide +kernel)) ggX7_fadedOut_J13_bitCount_95d88
set_option maxRecDepth 20000 in
theorem ggX7_fadedOut_X7_power : GoodIn wsX7_fadedOut wsX7_power := goodIn_r _ [35] (by decide +kernel) (by decide +kernel)
set_option maxRecDepth 20000 in
theorem gX7_fadedOut_X7_power : GoodIn wsX7_fadedOut (va_wsS RX7 254 yX7_power wsX7_power) := goodIn_app (goodIn_of _ (by decide +kernel)) ggX7_fadedOut_X7_power
theorem dX7_fadedOut_0 : decode cX7_fadedOut 0 = .ok (.iconst 0, 1) := by decide +kernel
theorem dX7_fadedOut_1 : decode cX7_fadedOut 1 = .ok (.istore 7, 2) := by decide +kernel
theorem dX7_fadedOut_3 : decode cX7_fadedOut 3 = .ok (.lload_n 3, 1) := by decide +kernel
theorem dX7_fadedOut_4 : decode cX7_fadedOut 4 = .ok (.lstore 8, 2) := by decide +kernel
theorem dX7_fadedOut_6 : decode cX7_fadedOut 6 = .ok (.iconst 0, 1) := by decide +kernel
theorem dX7_fadedOut_7 : decode cX7_fadedOut 7 = .ok (.istore 10, 2) := by decide +kernel
theorem dX7_fadedOut_9 : decode cX7_fadedOut 9 = .ok (.iload 10, 2) := by decide +kernel
theorem dX7_fadedOut_11 : decode cX7_fadedOut 11 = .ok (.bipush 64, 2) := by decide +kernel
theorem dX7_fadedOut_13 : decode cX7_fadedOut 13 = .ok (.if_icmp .ge 89, 3) := by decide +kernel
theorem dX7_fadedOut_16 : decode cX7_fadedOut 16 = .ok (.aload_n 0, 1) := by decide +kernel
theorem dX7_fadedOut_17 : decode cX7_fadedOut 17 = .ok (.getfield 19, 3) := by decide +kernel
theorem dX7_fadedOut_20 : decode cX7_fadedOut 20 = .ok (.lload_n 1, 1) := by decide +kernel
theorem dX7_fadedOut_21 : decode cX7_fadedOut 21 = .ok (.lload 8, 2) := by decide +kernel
theorem dX7_fadedOut_23 : decode cX7_fadedOut 23 = .ok (.ldc2_w 169, 3) := by decide +kernel
theorem dX7_fadedOut_26 : decode cX7_fadedOut 26 = .ok (.lxor, 1) := by decide +kernel
theorem dX7_fadedOut_27 : decode cX7_fadedOut 27 = .ok (.land, 1) := by decide +kernel
theorem dX7_fadedOut_28 : decode cX7_fadedOut 28 = .ok (.aload_n 0, 1) := by decide +kernel
theorem dX7_fadedOut_29 : decode cX7_fadedOut 29 = .ok (.getfield 19, 3) := by decide +kernel
theorem dX7_fadedOut_32 : decode cX7_fadedOut 32 = .ok (.invokevirtual 107, 3) := by decide +kernel
theorem dX7_fadedOut_35 : decode cX7_fadedOut 35 = .ok (.invokevirtual 177, 3) := by decide +kernel
theorem dX7_fadedOut_38 : decode cX7_fadedOut 38 = .ok (.iload 5, 2) := by decide +kernel
theorem dX7_fadedOut_40 : decode cX7_fadedOut 40 = .ok (.if_icmp .lt 38, 3) := by decide +kernel
theorem dX7_fadedOut_43 : decode cX7_fadedOut 43 = .ok (.iload 7, 2) := by decide +kernel
theorem dX7_fadedOut_45 : decode cX7_fadedOut 45 = .ok (.iload 6, 2) := by decide +kernel
theorem dX7_fadedOut_47 : decode cX7_fadedOut 47 = .ok (.lload 8, 2) := by decide +kernel
theorem dX7_fadedOut_49 : decode cX7_fadedOut 49 = .ok (.invokestatic 146, 3) := by decide +kernel
theorem dX7_fadedOut_52 : decode cX7_fadedOut 52 = .ok (.invokestatic 254, 3) := by decide +kernel
theorem dX7_fadedOut_55 : decode cX7_fadedOut 55 = .ok (.bipush 10, 2) := by decide +kernel
theorem dX7_fadedOut_57 : decode cX7_fadedOut 57 = .ok (.iload 6, 2) := by decide +kernel
theorem dX7_fadedOut_59 : decode cX7_fadedOut 59 = .ok (.isub, 1) := by decide +kernel
theorem dX7_fadedOut_60 : decode cX7_fadedOut 60 = .ok (.lload_n 3, 1) := by decide +kernel
theorem dX7_fadedOut_61 : decode cX7_fadedOut 61 = .ok (.lload 8, 2) := by decide +kernel
theorem dX7_fadedOut_63 : decode cX7_fadedOut 63 = .ok (.ldc2_w 169, 3) := by decide +kernel
theorem dX7_fadedOut_66 : decode cX7_fadedOut 66 = .ok (.lxor, 1) := by decide +kernel
theorem dX7_fadedOut_67 : decode cX7_fadedOut 67 = .ok (.land, 1) := by decide +kernel
theorem dX7_fadedOut_68 : decode cX7_fadedOut 68 = .ok (.invokestatic 146, 3) := by decide +kernel
theorem dX7_fadedOut_71 : decode cX7_fadedOut 71 = .ok (.invokestatic 254, 3) := by decide +kernel
theorem dX7_fadedOut_74 : decode cX7_fadedOut 74 = .ok (.imul, 1) := by decide +kernel
theorem dX7_fadedOut_75 : decode cX7_fadedOut 75 = .ok (.iadd, 1) := by decide +kernel
theorem dX7_fadedOut_76 : decode cX7_fadedOut 76 = .ok (.istore 7, 2) := by decide +kernel
theorem dX7_fadedOut_78 : decode cX7_fadedOut 78 = .ok (.lload 8, 2) := by decide +kernel
theorem dX7_fadedOut_80 : decode cX7_fadedOut 80 = .ok (.lconst 0, 1) := by decide +kernel
theorem dX7_fadedOut_81 : decode cX7_fadedOut 81 = .ok (.lcmp, 1) := by decide +kernel
theorem dX7_fadedOut_82 : decode cX7_fadedOut 82 = .ok (.ifCond .ne 6, 3) := by decide +kernel
theorem dX7_fadedOut_85 : decode cX7_fadedOut 85 = .ok (.goto 17, 3) := by decide +kernel
theorem dX7_fadedOut_88 : decode cX7_fadedOut 88 = .ok (.lload 8, 2) := by decide +kernel
theorem dX7_fadedOut_90 : decode cX7_fadedOut 90 = .ok (.lconst 1, 1) := by decide +kernel
theorem dX7_fadedOut_91 : decode cX7_fadedOut 91 = .ok (.lsub, 1) := by decide +kernel
theorem dX7_fadedOut_92 : decode cX7_fadedOut 92 = .ok (.lload_n 3, 1) := by decide +kernel
theorem dX7_fadedOut_93 : decode cX7_fadedOut 93 = .ok (.land, 1) := by decide +kernel
theorem dX7_fadedOut_94 : decode cX7_fadedOut 94 = .ok (.lstore 8, 2) := by decide +kernel
theorem dX7_fadedOut_96 : decode cX7_fadedOut 96 = .ok (.iinc 10 1, 3) := by decide +kernel
theorem dX7_fadedOut_99 : decode cX7_fadedOut 99 = .ok (.goto (-90), 3) := by decide +kernel
theorem dX7_fadedOut_102 : decode cX7_fadedOut 102 = .ok (.iload 7, 2) := by decide +kernel
theorem dX7_fadedOut_104 : decode cX7_fadedOut 104 = .ok (.ireturn, 1) := by decide +kernel
theorem dX7_factorial_0 : decode cX7_factorial 0 = .ok (.iconst 1, 1) := by decide +kernel
theorem dX7_factorial_1 : decode cX7_factorial 1 = .ok (.istore_n 1, 1) := by decide +kernel
theorem dX7_factorial_2 : decode cX7_factorial 2 = .ok (.iconst 2, 1) := by decide +kernel
theorem dX7_factorial_3 : decode cX7_factorial 3 = .ok (.istore_n 2, 1) := by decide +kernel
theorem dX7_factorial_4 : decode cX7_factorial 4 = .ok (.iload_n 2, 1) := by decide +kernel
theorem dX7_factorial_5 : decode cX7_factorial 5 = .ok (.iload_n 0, 1) := by decide +kernel
theorem dX7_factorial_6 : decode cX7_factorial 6 = .ok (.if_icmp .gt 19, 3) := by decide +kernel
theorem dX7_factorial_9 : decode cX7_factorial 9 = .ok (.iload_n 2, 1) := by decide +kernel
theorem dX7_factorial_10 : decode cX7_factorial 10 = .ok (.bipush 6, 2) := by decide +kernel
theorem dX7_factorial_12 : decode cX7_factorial 12 = .ok (.if_icmp .gt 13, 3) := by decide +kernel
theorem dX7_factorial_15 : decode cX7_factorial 15 = .ok (.iload_n 1, 1) := by decide +kernel
theorem dX7_factorial_16 : decode cX7_factorial 16 = .ok (.iload_n 2, 1) := by decide +kernel
theorem dX7_factorial_17 : decode cX7_factorial 17 = .ok (.imul, 1) := by decide +kernel
theorem dX7_factorial_18 : decode cX7_factorial 18 = .ok (.istore_n 1, 1) := by decide +kernel
theorem dX7_factorial_19 : decode cX7_factorial 19 = .ok (.iinc 2 1, 3) := by decide +kernel
theorem dX7_factorial_22 : decode cX7_factorial 22 = .ok (.goto (-18), 3) := by decide +kernel
theorem dX7_factorial_25 : decode cX7_factorial 25 = .ok (.iload_n 1, 1) := by decide +kernel
theorem dX7_factorial_26 : decode cX7_factorial 26 = .ok (.ireturn, 1) := by decide +kernel
theorem dX7_power_0 : decode cX7_power 0 = .ok (.iconst 1, 1) := by decide +kernel
theorem dX7_power_1 : decode cX7_power 1 = .ok (.istore_n 2, 1) := by decide +kernel
theorem dX7_power_2 : decode cX7_power 2 = .ok (.iconst 0, 1) := by decide +kernel
theorem dX7_power_3 : decode cX7_power 3 = .ok (.istore_n 3, 1) := by decide +kernel
theorem dX7_power_4 : decode cX7_power 4 = .ok (.iload_n 3, 1) := by decide +kernel
theorem dX7_power_5 : decode cX7_power 5 = .ok (.iload_n 1, 1) := by decide +kernel
theorem dX7_power_6 : decode cX7_power 6 = .ok (.if_icmp .ge 19, 3) := by decide +kernel
theorem dX7_power_9 : decode cX7_power 9 = .ok (.iload_n 3, 1) := by decide +kernel
theorem dX7_power_10 : decode cX7_power 10 = .ok (.bipush 6, 2) := by decide +kernel
theorem dX7_power_12 : decode cX7_power 12 = .ok (.if_icmp .ge 13, 3) := by decide +kernel
theorem dX7_power_15 : decode cX7_power 15 = .ok (.iload_n 2, 1) := by decide +kernel
theorem dX7_power_16 : decode cX7_power 16 = .ok (.iload_n 0, 1) := by decide +kernel
theorem dX7_power_17 : decode cX7_power 17 = .ok (.imul, 1) := by decide +kernel
theorem dX7_power_18 : decode cX7_power 18 = .ok (.istore_n 2, 1) := by decide +kernel
theorem dX7_power_19 : decode cX7_power 19 = .ok (.iinc 3 1, 3) := by decide +kernel
theorem dX7_power_22 : decode cX7_power 22 = .ok (.goto (-18), 3) := by decide +kernel
theorem dX7_power_25 : decode cX7_power 25 = .ok (.iload_n 2, 1) := by decide +kernel
theorem dX7_power_26 : decode cX7_power 26 = .ok (.ireturn, 1) := by decide +kernel
set_option maxRecDepth 20000 in
theorem ggX7_fraction_X7_commonDivisor : GoodIn wsX7_fraction wsX7_commonDivisor := goodIn_r _ [8] (by decide +kernel) (by decide +kernel)
set_option maxRecDepth 20000 in
theorem gX7_fraction_X7_commonDivisor : GoodIn wsX7_fraction (va_wsS RX7 307 yX7_commonDivisor wsX7_commonDivisor) := goodIn_app (goodIn_of _ (by decide +kernel)) ggX7_fraction_X7_commonDivisor
theorem dX7_fraction_0 : decode cX7_fraction 0 = .ok (.iload_n 0, 1) := by decide +kernel
theorem dX7_fraction_1 : decode cX7_fraction 1 = .ok (.invokestatic 302, 3) := by decide +kernel
theorem dX7_fraction_4 : decode cX7_fraction 4 = .ok (.iload_n 1, 1) := by decide +kernel
theorem dX7_fraction_5 : decode cX7_fraction 5 = .ok (.invokestatic 307, 3) := by decide +kernel
theorem dX7_fraction_8 : decode cX7_fraction 8 = .ok (.istore_n 3, 1) := by decide +kernel
theorem dX7_fraction_9 : decode cX7_fraction 9 = .ok (.iload_n 3, 1) := by decide +kernel
theorem dX7_fraction_10 : decode cX7_fraction 10 = .ok (.ifCond .ne 5, 3) := by decide +kernel
theorem dX7_fraction_13 : decode cX7_fraction 13 = .ok (.iconst 0, 1) := by decide +kernel
theorem dX7_fraction_14 : decode cX7_fraction 14 = .ok (.ireturn, 1) := by decide +kernel
theorem dX7_fraction_15 : decode cX7_fraction 15 = .ok (.iload_n 2, 1) := by decide +kernel
theorem dX7_fraction_16 : decode cX7_fraction 16 = .ok (.ifCond .eq 7, 3) := by decide +kernel
theorem dX7_fraction_19 : decode cX7_fraction 19 = .ok (.iload_n 0, 1) := by decide +kernel
theorem dX7_fraction_20 : decode cX7_fraction 20 = .ok (.goto 4, 3) := by decide +kernel
theorem dX7_fraction_23 : decode cX7_fraction 23 = .ok (.iload_n 1, 1) := by decide +kernel
theorem dX7_fraction_24 : decode cX7_fraction 24 = .ok (.iload_n 3, 1) := by decide +kernel
theorem dX7_fraction_25 : decode cX7_fraction 25 = .ok (.idiv, 1) := by decide +kernel
theorem dX7_fraction_26 : decode cX7_fraction 26 = .ok (.ireturn, 1) := by decide +kernel
theorem dX7_commonDivisor_0 : decode cX7_commonDivisor 0 = .ok (.iload_n 0, 1) := by decide +kernel
theorem dX7_commonDivisor_1 : decode cX7_commonDivisor 1 = .ok (.istore_n 2, 1) := by decide +kernel
theorem dX7_commonDivisor_2 : decode cX7_commonDivisor 2 = .ok (.iload_n 1, 1) := by decide +kernel
theorem dX7_commonDivisor_3 : decode cX7_commonDivisor 3 = .ok (.istore_n 3, 1) := by decide +kernel
theorem dX7_commonDivisor_4 : decode cX7_commonDivisor 4 = .ok (.iconst 0, 1) := by decide +kernel
theorem dX7_commonDivisor_5 : decode cX7_commonDivisor 5 = .ok (.istore 4, 2) := by decide +kernel
theorem dX7_commonDivisor_7 : decode cX7_commonDivisor 7 = .ok (.iload 4, 2) := by decide +kernel
theorem dX7_commonDivisor_9 : decode cX7_commonDivisor 9 = .ok (.bipush 64, 2) := by decide +kernel
theorem dX7_commonDivisor_11 : decode cX7_commonDivisor 11 = .ok (.if_icmp .ge 23, 3) := by decide +kernel
theorem dX7_commonDivisor_14 : decode cX7_commonDivisor 14 = .ok (.iload_n 3, 1) := by decide +kernel
theorem dX7_commonDivisor_15 : decode cX7_commonDivisor 15 = .ok (.ifCond .eq 19, 3) := by decide +kernel
theorem dX7_commonDivisor_18 : decode cX7_commonDivisor 18 = .ok (.iload_n 2, 1) := by decide +kernel
theorem dX7_commonDivisor_19 : decode cX7_commonDivisor 19 = .ok (.iload_n 3, 1) := by decide +kernel
theorem dX7_commonDivisor_20 : decode cX7_commonDivisor 20 = .ok (.irem, 1) := by decide +kernel
theorem dX7_commonDivisor_21 : decode cX7_commonDivisor 21 = .ok (.istore 5, 2) := by decide +kernel
theorem dX7_commonDivisor_23 : decode cX7_commonDivisor 23 = .ok (.iload_n 3, 1) := by decide +kernel
theorem dX7_commonDivisor_24 : decode cX7_commonDivisor 24 = .ok (.istore_n 2, 1) := by decide +kernel
theorem dX7_commonDivisor_25 : decode cX7_commonDivisor 25 = .ok (.iload 5, 2) := by decide +kernel
theorem dX7_commonDivisor_27 : decode cX7_commonDivisor 27 = .ok (.istore_n 3, 1) := by decide +kernel
theorem dX7_commonDivisor_28 : decode cX7_commonDivisor 28 = .ok (.iinc 4 1, 3) := by decide +kernel
theorem dX7_commonDivisor_31 : decode cX7_commonDivisor 31 = .ok (.goto (-24), 3) := by decide +kernel
theorem dX7_commonDivisor_34 : decode cX7_commonDivisor 34 = .ok (.iload_n 2, 1) := by decide +kernel
theorem dX7_commonDivisor_35 : decode cX7_commonDivisor 35 = .ok (.ireturn, 1) := by decide +kernel
theorem dX8_init_0 : decode cX8_init 0 = .ok (.aload_n 0, 1) := by decide +kernel
theorem dX8_init_1 : decode cX8_init 1 = .ok (.invokespecial 1, 3) := by decide +kernel
theorem dX8_init_4 : decode cX8_init 4 = .ok (.aload_n 0, 1) := by decide +kernel
theorem dX8_init_5 : decode cX8_init 5 = .ok (.bipush 40, 2) := by decide +kernel
theorem dX8_init_7 : decode cX8_init 7 = .ok (.newarray .int, 2) := by decide +kernel
theorem dX8_init_9 : decode cX8_init 9 = .ok (.putfield 7, 3) := by decide +kernel
theorem dX8_init_12 : decode cX8_init 12 = .ok (.aload_n 0, 1) := by decide +kernel
theorem dX8_init_13 : decode cX8_init 13 = .ok (.bipush 39, 2) := by decide +kernel
theorem dX8_init_15 : decode cX8_init 15 = .ok (.newarray .int, 2) := by decide +kernel
theorem dX8_init_17 : decode cX8_init 17 = .ok (.putfield 13, 3) := by decide +kernel
theorem dX8_init_20 : decode cX8_init 20 = .ok (.aload_n 0, 1) := by decide +kernel
theorem dX8_init_21 : decode cX8_init 21 = .ok (.bipush 39, 2) := by decide +kernel
theorem dX8_init_23 : decode cX8_init 23 = .ok (.newarray .int, 2) := by decide +kernel
theorem dX8_init_25 : decode cX8_init 25 = .ok (.putfield 16, 3) := by decide +kernel
theorem dX8_init_28 : decode cX8_init 28 = .ok (.aload_n 0, 1) := by decide +kernel
theorem dX8_init_29 : decode cX8_init 29 = .ok (.bipush 39, 2) := by decide +kernel
theorem dX8_init_31 : decode cX8_init 31 = .ok (.newarray .int, 2) := by decide +kernel
theorem dX8_init_33 : decode cX8_init 33 = .ok (.putfield 19, 3) := by decide +kernel
theorem dX8_init_36 : decode cX8_init 36 = .ok (.aload_n 0, 1) := by decide +kernel
theorem dX8_init_37 : decode cX8_init 37 = .ok (.bipush 39, 2) := by decide +kernel
theorem dX8_init_39 : decode cX8_init 39 = .ok (.newarray .int, 2) := by decide +kernel
theorem dX8_init_41 : decode cX8_init 41 = .ok (.putfield 22, 3) := by decide +kernel
theorem dX8_init_44 : decode cX8_init 44 = .ok (.aload_n 0, 1) := by decide +kernel
theorem dX8_init_45 : decode cX8_init 45 = .ok (.sipush 546, 3) := by decide +kernel
theorem dX8_init_48 : decode cX8_init 48 = .ok (.newarray .int, 2) := by decide +kernel
theorem dX8_init_50 : decode cX8_init 50 = .ok (.putfield 25, 3) := by decide +kernel
theorem dX8_init_53 : decode cX8_init 53 = .ok (.aload_n 0, 1) := by decide +kernel
theorem dX8_init_54 : decode cX8_init 54 = .ok (.bipush 78, 2) := by decide +kernel
theorem dX8_init_56 : decode cX8_init 56 = .ok (.newarray .int, 2) := by decide +kernel
theorem dX8_init_58 : decode cX8_init 58 = .ok (.putfield 28, 3) := by decide +kernel
theorem dX8_init_61 : decode cX8_init 61 = .ok (.aload_n 0, 1) := by decide +kernel
theorem dX8_init_62 : decode cX8_init 62 = .ok (.iconst 2, 1) := by decide +kernel
theorem dX8_init_63 : decode cX8_init 63 = .ok (.newarray .boolean, 2) := by decide +kernel
theorem dX8_init_65 : decode cX8_init 65 = .ok (.putfield 31, 3) := by decide +kernel
theorem dX8_init_68 : decode cX8_init 68 = .ok (.aload_n 0, 1) := by decide +kernel
theorem dX8_init_69 : decode cX8_init 69 = .ok (.bipush 6, 2) := by decide +kernel
theorem dX8_init_71 : decode cX8_init 71 = .ok (.newarray .int, 2) := by decide +kernel
theorem dX8_init_73 : decode cX8_init 73 = .ok (.putfield 35, 3) := by decide +kernel
theorem dX8_init_76 : decode cX8_init 76 = .ok (.aload_n 0, 1) := by decide +kernel
theorem dX8_init_77 : decode cX8_init 77 = .ok (.bipush 6, 2) := by decide +kernel
theorem dX8_init_79 : decode cX8_init 79 = .ok (.newarray .int, 2) := by decide +kernel
theorem dX8_init_81 : decode cX8_init 81 = .ok (.putfield 38, 3) := by decide +kernel
theorem dX8_init_84 : decode cX8_init 84 = .ok (.aload_n 0, 1) := by decide +kernel
theorem dX8_init_85 : decode cX8_init 85 = .ok (.bipush 6, 2) := by decide +kernel
theorem dX8_init_87 : decode cX8_init 87 = .ok (.newarray .int, 2) := by decide +kernel
theorem dX8_init_89 : decode cX8_init 89 = .ok (.putfield 41, 3) := by decide +kernel
theorem dX8_init_92 : decode cX8_init 92 = .ok (.aload_n 0, 1) := by decide +kernel
theorem dX8_init_93 : decode cX8_init 93 = .ok (.bipush 64, 2) := by decide +kernel
theorem dX8_init_95 : decode cX8_init 95 = .ok (.newarray .int, 2) := by decide +kernel
theorem dX8_init_97 : decode cX8_init 97 = .ok (.putfield 44, 3) := by decide +kernel
theorem dX8_init_100 : decode cX8_init 100 = .ok (.aload_n 0, 1) := by decide +kernel
theorem dX8_init_101 : decode cX8_init 101 = .ok (.getfield 16, 3) := by decide +kernel
theorem dX8_init_104 : decode cX8_init 104 = .ok (.iconst 0, 1) := by decide +kernel
theorem dX8_init_105 : decode cX8_init 105 = .ok (.iconst 4, 1) := by decide +kernel
theorem dX8_init_106 : decode cX8_init 106 = .ok (.iastore, 1) := by decide +kernel
theorem dX8_init_107 : decode cX8_init 107 = .ok (.aload_n 0, 1) := by decide +kernel
theorem dX8_init_108 : decode cX8_init 108 = .ok (.getfield 16, 3) := by decide +kernel
theorem dX8_init_111 : decode cX8_init 111 = .ok (.iconst 1, 1) := by decide +kernel
theorem dX8_init_112 : decode cX8_init 112 = .ok (.iconst 1, 1) := by decide +kernel
theorem dX8_init_113 : decode cX8_init 113 = .ok (.iastore, 1) := by decide +kernel
theorem dX8_init_114 : decode cX8_init 114 = .ok (.aload_n 0, 1) := by decide +kernel
theorem dX8_init_115 : decode cX8_init 115 = .ok (.getfield 16, 3) := by decide +kernel
theorem dX8_init_118 : decode cX8_init 118 = .ok (.iconst 2, 1) := by decide +kernel
theorem dX8_init_119 : decode cX8_init 119 = .ok (.iconst 1, 1) := by decide +kernel
theorem dX8_init_120 : decode cX8_init 120 = .ok (.iastore, 1) := by decide +kernel
theorem dX8_init_121 : decode cX8_init 121 = .ok (.return_, 1) := by decide +kernel
theorem dX8_in_0 : decode cX8_in 0 = .ok (.lload_n 0, 1) := by decide +kernel
theorem dX8_in_1 : decode cX8_in 1 = .ok (.lload_n 2, 1) := by decide +kernel
theorem dX8_in_2 : decode cX8_in 2 = .ok (.lcmp, 1) := by decide +kernel
theorem dX8_in_3 : decode cX8_in 3 = .ok (.ifCond .lt 14, 3) := by decide +kernel
theorem dX8_in_6 : decode cX8_in 6 = .ok (.lload_n 0, 1) := by decide +kernel
theorem dX8_in_7 : decode cX8_in 7 = .ok (.lload 4, 2) := by decide +kernel
theorem dX8_in_9 : decode cX8_in 9 = .ok (.lcmp, 1) := by decide +kernel
theorem dX8_in_10 : decode cX8_in 10 = .ok (.ifCond .gt 7, 3) := by decide +kernel
theorem dX8_in_13 : decode cX8_in 13 = .ok (.iconst 1, 1) := by decide +kernel
theorem dX8_in_14 : decode cX8_in 14 = .ok (.goto 4, 3) := by decide +kernel
theorem dX8_in_17 : decode cX8_in 17 = .ok (.iconst 0, 1) := by decide +kernel
theorem dX8_in_18 : decode cX8_in 18 = .ok (.ireturn, 1) := by decide +kernel
theorem dX8_has_0 : decode cX8_has 0 = .ok (.lload_n 0, 1) := by decide +kernel
theorem dX8_has_1 : decode cX8_has 1 = .ok (.iload_n 2, 1) := by decide +kernel
theorem dX8_has_2 : decode cX8_has 2 = .ok (.lushr, 1) := by decide +kernel
theorem dX8_has_3 : decode cX8_has 3 = .ok (.lconst 1, 1) := by decide +kernel
theorem dX8_has_4 : decode cX8_has 4 = .ok (.land, 1) := by decide +kernel
theorem dX8_has_5 : decode cX8_has 5 = .ok (.lconst 1, 1) := by decide +kernel
theorem dX8_has_6 : decode cX8_has 6 = .ok (.lcmp, 1) := by decide +kernel
theorem dX8_has_7 : decode cX8_has 7 = .ok (.ifCond .ne 7, 3) := by decide +kernel
theorem dX8_has_10 : decode cX8_has 10 = .ok (.iconst 1, 1) := by decide +kernel
theorem dX8_has_11 : decode cX8_has 11 = .ok (.goto 4, 3) := by decide +kernel
theorem dX8_has_14 : decode cX8_has 14 = .ok (.iconst 0, 1) := by decide +kernel
theorem dX8_has_15 : decode cX8_has 15 = .ok (.ireturn, 1) := by decide +kernel
set_option maxRecDepth 20000 in
theorem ggX8_many_X8_has : GoodIn wsX8_many wsX8_has := goodIn_r _ [4] (by decide +kernel) (by decide +kernel)
set_option maxRecDepth 20000 in
theorem gX8_many_X8_has : GoodIn wsX8_many (va_wsS RX8 51 yX8_has wsX8_has) := goodIn_app (goodIn_of _ (by decide +kernel)) ggX8_many_X8_has
theorem dX8_many_0 : decode cX8_many 0 = .ok (.iconst 0, 1) := by decide +kernel
theorem dX8_many_1 : decode cX8_many 1 = .ok (.istore_n 2, 1) := by decide +kernel
theorem dX8_many_2 : decode cX8_many 2 = .ok (.iconst 0, 1) := by decide +kernel
theorem dX8_many_3 : decode cX8_many 3 = .ok (.istore_n 3, 1) := by decide +kernel
theorem dX8_many_4 : decode cX8_many 4 = .ok (.iload_n 3, 1) := by decide +kernel
theorem dX8_many_5 : decode cX8_many 5 = .ok (.bipush 36, 2) := by decide +kernel
theorem dX8_many_7 : decode cX8_many 7 = .ok (.if_icmp .ge 25, 3) := by decide +kernel
theorem dX8_many_10 : decode cX8_many 10 = .ok (.iload_n 2, 1) := by decide +kernel
theorem dX8_many_11 : decode cX8_many 11 = .ok (.lload_n 0, 1) := by decide +kernel
theorem dX8_many_12 : decode cX8_many 12 = .ok (.iload_n 3, 1) := by decide +kernel
theorem dX8_many_13 : decode cX8_many 13 = .ok (.invokestatic 51, 3) := by decide +kernel
theorem dX8_many_16 : decode cX8_many 16 = .ok (.ifCond .eq 7, 3) := by decide +kernel
theorem dX8_many_19 : decode cX8_many 19 = .ok (.iconst 1, 1) := by decide +kernel
theorem dX8_many_20 : decode cX8_many 20 = .ok (.goto 4, 3) := by decide +kernel
theorem dX8_many_23 : decode cX8_many 23 = .ok (.iconst 0, 1) := by decide +kernel
theorem dX8_many_24 : decode cX8_many 24 = .ok (.iadd, 1) := by decide +kernel
theorem dX8_many_25 : decode cX8_many 25 = .ok (.istore_n 2, 1) := by decide +kernel
theorem dX8_many_26 : decode cX8_many 26 = .ok (.iinc 3 1, 3) := by decide +kernel
theorem dX8_many_29 : decode cX8_many 29 = .ok (.goto (-25), 3) := by decide +kernel
theorem dX8_many_32 : decode cX8_many 32 = .ok (.iload_n 2, 1) := by decide +kernel
theorem dX8_many_33 : decode cX8_many 33 = .ok (.ireturn, 1) := by decide +kernel
theorem dX8_power_0 : decode cX8_power 0 = .ok (.iconst 1, 1) := by decide +kernel
theorem dX8_power_1 : decode cX8_power 1 = .ok (.istore_n 2, 1) := by decide +kernel
theorem dX8_power_2 : decode cX8_power 2 = .ok (.iconst 0, 1) := by decide +kernel
theorem dX8_power_3 : decode cX8_power 3 = .ok (.istore_n 3, 1) := by decide +kernel
theorem dX8_power_4 : decode cX8_power 4 = .ok (.iload_n 3, 1) := by decide +kernel
theorem dX8_power_5 : decode cX8_power 5 = .ok (.iload_n 1, 1) := by decide +kernel
theorem dX8_power_6 : decode cX8_power 6 = .ok (.if_icmp .ge 13, 3) := by decide +kernel
theorem dX8_power_9 : decode cX8_power 9 = .ok (.iload_n 2, 1) := by decide +kernel
theorem dX8_power_10 : decode cX8_power 10 = .ok (.iload_n 0, 1) := by decide +kernel
theorem dX8_power_11 : decode cX8_power 11 = .ok (.imul, 1) := by decide +kernel
end
section
theorem dX8_power_12 : decode cX8_power 12 = .ok (.istore_n 2, 1) := by decide +kernel
theorem dX8_power_13 : decode cX8_power 13 = .ok (.iinc 3 1, 3) := by decide +kernel
theorem dX8_power_16 : decode cX8_power 16 = .ok (.goto (-12), 3) := by decide +kernel
theorem dX8_power_19 : decode cX8_power 19 = .ok (.iload_n 2, 1) := by decide +kernel
theorem dX8_power_20 : decode cX8_power 20 = .ok (.ireturn, 1) := by decide +kernel
theorem dX8_dotsOf_0 : decode cX8_dotsOf 0 = .ok (.aload_n 0, 1) := by decide +kernel
theorem dX8_dotsOf_1 : decode cX8_dotsOf 1 = .ok (.iconst 1, 1) := by decide +kernel
theorem dX8_dotsOf_2 : decode cX8_dotsOf 2 = .ok (.iaload, 1) := by decide +kernel
theorem dX8_dotsOf_3 : decode cX8_dotsOf 3 = .ok (.aload_n 0, 1) := by decide +kernel
theorem dX8_dotsOf_4 : decode cX8_dotsOf 4 = .ok (.iconst 2, 1) := by decide +kernel
theorem dX8_dotsOf_5 : decode cX8_dotsOf 5 = .ok (.iaload, 1) := by decide +kernel
theorem dX8_dotsOf_6 : decode cX8_dotsOf 6 = .ok (.imul, 1) := by decide +kernel
theorem dX8_dotsOf_7 : decode cX8_dotsOf 7 = .ok (.ireturn, 1) := by decide +kernel
set_option maxRecDepth 20000 in
theorem ggX8_noDot_X8_dotsOf : GoodIn wsX8_noDot wsX8_dotsOf := goodIn_r _ [5] (by decide +kernel) (by decide +kernel)
set_option maxRecDepth 20000 in
theorem gX8_noDot_X8_dotsOf : GoodIn wsX8_noDot (va_wsS RX8 55 yX8_dotsOf wsX8_dotsOf) := goodIn_app (goodIn_of _ (by decide +kernel)) ggX8_noDot_X8_dotsOf
set_option maxRecDepth 20000 in
theorem ggX8_noDot_X8_in : GoodIn wsX8_noDot wsX8_in := goodIn_r _ [8] (by decide +kernel) (by decide +kernel)
set_option maxRecDepth 20000 in
theorem gX8_noDot_X8_in : GoodIn wsX8_noDot (va_wsS RX8 59 yX8_in wsX8_in) := goodIn_app (goodIn_of _ (by decide +kernel)) ggX8_noDot_X8_in
theorem dX8_noDot_0 : decode cX8_noDot 0 = .ok (.iload_n 1, 1) := by decide +kernel
theorem dX8_noDot_1 : decode cX8_noDot 1 = .ok (.i2l, 1) := by decide +kernel
theorem dX8_noDot_2 : decode cX8_noDot 2 = .ok (.lconst 0, 1) := by decide +kernel
theorem dX8_noDot_3 : decode cX8_noDot 3 = .ok (.aload_n 0, 1) := by decide +kernel
theorem dX8_noDot_4 : decode cX8_noDot 4 = .ok (.getfield 16, 3) := by decide +kernel
theorem dX8_noDot_7 : decode cX8_noDot 7 = .ok (.invokestatic 55, 3) := by decide +kernel
theorem dX8_noDot_10 : decode cX8_noDot 10 = .ok (.iconst 1, 1) := by decide +kernel
theorem dX8_noDot_11 : decode cX8_noDot 11 = .ok (.isub, 1) := by decide +kernel
theorem dX8_noDot_12 : decode cX8_noDot 12 = .ok (.i2l, 1) := by decide +kernel
theorem dX8_noDot_13 : decode cX8_noDot 13 = .ok (.invokestatic 59, 3) := by decide +kernel
theorem dX8_noDot_16 : decode cX8_noDot 16 = .ok (.ifCond .ne 7, 3) := by decide +kernel
theorem dX8_noDot_19 : decode cX8_noDot 19 = .ok (.iconst 1, 1) := by decide +kernel
theorem dX8_noDot_20 : decode cX8_noDot 20 = .ok (.goto 4, 3) := by decide +kernel
theorem dX8_noDot_23 : decode cX8_noDot 23 = .ok (.iconst 0, 1) := by decide +kernel
theorem dX8_noDot_24 : decode cX8_noDot 24 = .ok (.ireturn, 1) := by decide +kernel
theorem dX8_isBeside_0 : decode cX8_isBeside 0 = .ok (.iload_n 1, 1) := by decide +kernel
theorem dX8_isBeside_1 : decode cX8_isBeside 1 = .ok (.aload_n 0, 1) := by decide +kernel
theorem dX8_isBeside_2 : decode cX8_isBeside 2 = .ok (.iconst 1, 1) := by decide +kernel
theorem dX8_isBeside_3 : decode cX8_isBeside 3 = .ok (.iaload, 1) := by decide +kernel
theorem dX8_isBeside_4 : decode cX8_isBeside 4 = .ok (.idiv, 1) := by decide +kernel
theorem dX8_isBeside_5 : decode cX8_isBeside 5 = .ok (.iload_n 2, 1) := by decide +kernel
theorem dX8_isBeside_6 : decode cX8_isBeside 6 = .ok (.aload_n 0, 1) := by decide +kernel
theorem dX8_isBeside_7 : decode cX8_isBeside 7 = .ok (.iconst 1, 1) := by decide +kernel
theorem dX8_isBeside_8 : decode cX8_isBeside 8 = .ok (.iaload, 1) := by decide +kernel
theorem dX8_isBeside_9 : decode cX8_isBeside 9 = .ok (.idiv, 1) := by decide +kernel
theorem dX8_isBeside_10 : decode cX8_isBeside 10 = .ok (.isub, 1) := by decide +kernel
theorem dX8_isBeside_11 : decode cX8_isBeside 11 = .ok (.istore 4, 2) := by decide +kernel
theorem dX8_isBeside_13 : decode cX8_isBeside 13 = .ok (.iload_n 1, 1) := by decide +kernel
theorem dX8_isBeside_14 : decode cX8_isBeside 14 = .ok (.aload_n 0, 1) := by decide +kernel
theorem dX8_isBeside_15 : decode cX8_isBeside 15 = .ok (.iconst 1, 1) := by decide +kernel
theorem dX8_isBeside_16 : decode cX8_isBeside 16 = .ok (.iaload, 1) := by decide +kernel
theorem dX8_isBeside_17 : decode cX8_isBeside 17 = .ok (.irem, 1) := by decide +kernel
theorem dX8_isBeside_18 : decode cX8_isBeside 18 = .ok (.iload_n 2, 1) := by decide +kernel
theorem dX8_isBeside_19 : decode cX8_isBeside 19 = .ok (.aload_n 0, 1) := by decide +kernel
theorem dX8_isBeside_20 : decode cX8_isBeside 20 = .ok (.iconst 1, 1) := by decide +kernel
theorem dX8_isBeside_21 : decode cX8_isBeside 21 = .ok (.iaload, 1) := by decide +kernel
theorem dX8_isBeside_22 : decode cX8_isBeside 22 = .ok (.irem, 1) := by decide +kernel
theorem dX8_isBeside_23 : decode cX8_isBeside 23 = .ok (.isub, 1) := by decide +kernel
theorem dX8_isBeside_24 : decode cX8_isBeside 24 = .ok (.istore 5, 2) := by decide +kernel
theorem dX8_isBeside_26 : decode cX8_isBeside 26 = .ok (.iload 4, 2) := by decide +kernel
theorem dX8_isBeside_28 : decode cX8_isBeside 28 = .ok (.iload 4, 2) := by decide +kernel
theorem dX8_isBeside_30 : decode cX8_isBeside 30 = .ok (.imul, 1) := by decide +kernel
theorem dX8_isBeside_31 : decode cX8_isBeside 31 = .ok (.iload 5, 2) := by decide +kernel
theorem dX8_isBeside_33 : decode cX8_isBeside 33 = .ok (.iload 5, 2) := by decide +kernel
theorem dX8_isBeside_35 : decode cX8_isBeside 35 = .ok (.imul, 1) := by decide +kernel
theorem dX8_isBeside_36 : decode cX8_isBeside 36 = .ok (.iadd, 1) := by decide +kernel
theorem dX8_isBeside_37 : decode cX8_isBeside 37 = .ok (.istore 6, 2) := by decide +kernel
theorem dX8_isBeside_39 : decode cX8_isBeside 39 = .ok (.iload 6, 2) := by decide +kernel
theorem dX8_isBeside_41 : decode cX8_isBeside 41 = .ok (.iconst 1, 1) := by decide +kernel
theorem dX8_isBeside_42 : decode cX8_isBeside 42 = .ok (.if_icmp .eq 15, 3) := by decide +kernel
theorem dX8_isBeside_45 : decode cX8_isBeside 45 = .ok (.iload 6, 2) := by decide +kernel
theorem dX8_isBeside_47 : decode cX8_isBeside 47 = .ok (.iconst 2, 1) := by decide +kernel
theorem dX8_isBeside_48 : decode cX8_isBeside 48 = .ok (.if_icmp .ne 13, 3) := by decide +kernel
theorem dX8_isBeside_51 : decode cX8_isBeside 51 = .ok (.iload_n 3, 1) := by decide +kernel
theorem dX8_isBeside_52 : decode cX8_isBeside 52 = .ok (.bipush 8, 2) := by decide +kernel
theorem dX8_isBeside_54 : decode cX8_isBeside 54 = .ok (.if_icmp .ne 7, 3) := by decide +kernel
theorem dX8_isBeside_57 : decode cX8_isBeside 57 = .ok (.iconst 1, 1) := by decide +kernel
theorem dX8_isBeside_58 : decode cX8_isBeside 58 = .ok (.goto 4, 3) := by decide +kernel
theorem dX8_isBeside_61 : decode cX8_isBeside 61 = .ok (.iconst 0, 1) := by decide +kernel
theorem dX8_isBeside_62 : decode cX8_isBeside 62 = .ok (.ireturn, 1) := by decide +kernel
set_option maxRecDepth 20000 in
theorem ggX8_bright_X8_dotsOf : GoodIn wsX8_bright wsX8_dotsOf := goodIn_r _ [4] (by decide +kernel) (by decide +kernel)
set_option maxRecDepth 20000 in
theorem gX8_bright_X8_dotsOf : GoodIn wsX8_bright (va_wsS RX8 55 yX8_dotsOf wsX8_dotsOf) := goodIn_app (goodIn_of _ (by decide +kernel)) ggX8_bright_X8_dotsOf
set_option maxRecDepth 20000 in
theorem ggX8_bright_X8_has : GoodIn wsX8_bright wsX8_has := goodIn_r _ [7] (by decide +kernel) (by decide +kernel)
set_option maxRecDepth 20000 in
theorem gX8_bright_X8_has : GoodIn wsX8_bright (va_wsS RX8 51 yX8_has wsX8_has) := goodIn_app (goodIn_of _ (by decide +kernel)) ggX8_bright_X8_has
theorem dX8_bright_0 : decode cX8_bright 0 = .ok (.lconst 0, 1) := by decide +kernel
theorem dX8_bright_1 : decode cX8_bright 1 = .ok (.lstore 4, 2) := by decide +kernel
theorem dX8_bright_3 : decode cX8_bright 3 = .ok (.iconst 0, 1) := by decide +kernel
theorem dX8_bright_4 : decode cX8_bright 4 = .ok (.istore 6, 2) := by decide +kernel
theorem dX8_bright_6 : decode cX8_bright 6 = .ok (.iload 6, 2) := by decide +kernel
theorem dX8_bright_8 : decode cX8_bright 8 = .ok (.aload_n 0, 1) := by decide +kernel
theorem dX8_bright_9 : decode cX8_bright 9 = .ok (.invokestatic 55, 3) := by decide +kernel
theorem dX8_bright_12 : decode cX8_bright 12 = .ok (.if_icmp .ge 41, 3) := by decide +kernel
theorem dX8_bright_15 : decode cX8_bright 15 = .ok (.lload 4, 2) := by decide +kernel
theorem dX8_bright_17 : decode cX8_bright 17 = .ok (.lload_n 2, 1) := by decide +kernel
theorem dX8_bright_18 : decode cX8_bright 18 = .ok (.iload 6, 2) := by decide +kernel
theorem dX8_bright_20 : decode cX8_bright 20 = .ok (.invokestatic 51, 3) := by decide +kernel
theorem dX8_bright_23 : decode cX8_bright 23 = .ok (.ifCond .eq 20, 3) := by decide +kernel
theorem dX8_bright_26 : decode cX8_bright 26 = .ok (.aload_n 0, 1) := by decide +kernel
theorem dX8_bright_27 : decode cX8_bright 27 = .ok (.iconst 3, 1) := by decide +kernel
theorem dX8_bright_28 : decode cX8_bright 28 = .ok (.iload 6, 2) := by decide +kernel
theorem dX8_bright_30 : decode cX8_bright 30 = .ok (.iadd, 1) := by decide +kernel
theorem dX8_bright_31 : decode cX8_bright 31 = .ok (.iaload, 1) := by decide +kernel
theorem dX8_bright_32 : decode cX8_bright 32 = .ok (.iload_n 1, 1) := by decide +kernel
theorem dX8_bright_33 : decode cX8_bright 33 = .ok (.if_icmp .lt 10, 3) := by decide +kernel
theorem dX8_bright_36 : decode cX8_bright 36 = .ok (.lconst 1, 1) := by decide +kernel
theorem dX8_bright_37 : decode cX8_bright 37 = .ok (.iload 6, 2) := by decide +kernel
theorem dX8_bright_39 : decode cX8_bright 39 = .ok (.lshl, 1) := by decide +kernel
theorem dX8_bright_40 : decode cX8_bright 40 = .ok (.goto 4, 3) := by decide +kernel
theorem dX8_bright_43 : decode cX8_bright 43 = .ok (.lconst 0, 1) := by decide +kernel
theorem dX8_bright_44 : decode cX8_bright 44 = .ok (.lor, 1) := by decide +kernel
theorem dX8_bright_45 : decode cX8_bright 45 = .ok (.lstore 4, 2) := by decide +kernel
theorem dX8_bright_47 : decode cX8_bright 47 = .ok (.iinc 6 1, 3) := by decide +kernel
theorem dX8_bright_50 : decode cX8_bright 50 = .ok (.goto (-44), 3) := by decide +kernel
theorem dX8_bright_53 : decode cX8_bright 53 = .ok (.lload 4, 2) := by decide +kernel
theorem dX8_bright_55 : decode cX8_bright 55 = .ok (.lreturn, 1) := by decide +kernel
set_option maxRecDepth 20000 in
theorem ggX8_around_X8_dotsOf : GoodIn wsX8_around wsX8_dotsOf := goodIn_r _ [4] (by decide +kernel) (by decide +kernel)
set_option maxRecDepth 20000 in
theorem gX8_around_X8_dotsOf : GoodIn wsX8_around (va_wsS RX8 55 yX8_dotsOf wsX8_dotsOf) := goodIn_app (goodIn_of _ (by decide +kernel)) ggX8_around_X8_dotsOf
set_option maxRecDepth 20000 in
theorem ggX8_around_X8_isBeside : GoodIn wsX8_around wsX8_isBeside := goodIn_r _ [7] (by decide +kernel) (by decide +kernel)
set_option maxRecDepth 20000 in
theorem gX8_around_X8_isBeside : GoodIn wsX8_around (va_wsS RX8 63 yX8_isBeside wsX8_isBeside) := goodIn_app (goodIn_of _ (by decide +kernel)) ggX8_around_X8_isBeside
theorem dX8_around_0 : decode cX8_around 0 = .ok (.lconst 0, 1) := by decide +kernel
theorem dX8_around_1 : decode cX8_around 1 = .ok (.lstore_n 3, 1) := by decide +kernel
theorem dX8_around_2 : decode cX8_around 2 = .ok (.iconst 0, 1) := by decide +kernel
theorem dX8_around_3 : decode cX8_around 3 = .ok (.istore 5, 2) := by decide +kernel
theorem dX8_around_5 : decode cX8_around 5 = .ok (.iload 5, 2) := by decide +kernel
theorem dX8_around_7 : decode cX8_around 7 = .ok (.aload_n 0, 1) := by decide +kernel
theorem dX8_around_8 : decode cX8_around 8 = .ok (.invokestatic 55, 3) := by decide +kernel
theorem dX8_around_11 : decode cX8_around 11 = .ok (.if_icmp .ge 31, 3) := by decide +kernel
theorem dX8_around_14 : decode cX8_around 14 = .ok (.lload_n 3, 1) := by decide +kernel
theorem dX8_around_15 : decode cX8_around 15 = .ok (.aload_n 0, 1) := by decide +kernel
theorem dX8_around_16 : decode cX8_around 16 = .ok (.iload_n 1, 1) := by decide +kernel
theorem dX8_around_17 : decode cX8_around 17 = .ok (.iload 5, 2) := by decide +kernel
theorem dX8_around_19 : decode cX8_around 19 = .ok (.iload_n 2, 1) := by decide +kernel
theorem dX8_around_20 : decode cX8_around 20 = .ok (.invokestatic 63, 3) := by decide +kernel
theorem dX8_around_23 : decode cX8_around 23 = .ok (.ifCond .eq 10, 3) := by decide +kernel
theorem dX8_around_26 : decode cX8_around 26 = .ok (.lconst 1, 1) := by decide +kernel
theorem dX8_around_27 : decode cX8_around 27 = .ok (.iload 5, 2) := by decide +kernel
theorem dX8_around_29 : decode cX8_around 29 = .ok (.lshl, 1) := by decide +kernel
theorem dX8_around_30 : decode cX8_around 30 = .ok (.goto 4, 3) := by decide +kernel
theorem dX8_around_33 : decode cX8_around 33 = .ok (.lconst 0, 1) := by decide +kernel
theorem dX8_around_34 : decode cX8_around 34 = .ok (.lor, 1) := by decide +kernel
theorem dX8_around_35 : decode cX8_around 35 = .ok (.lstore_n 3, 1) := by decide +kernel
theorem dX8_around_36 : decode cX8_around 36 = .ok (.iinc 5 1, 3) := by decide +kernel
theorem dX8_around_39 : decode cX8_around 39 = .ok (.goto (-34), 3) := by decide +kernel
theorem dX8_around_42 : decode cX8_around 42 = .ok (.lload_n 3, 1) := by decide +kernel
theorem dX8_around_43 : decode cX8_around 43 = .ok (.lreturn, 1) := by decide +kernel
set_option maxRecDepth 20000 in
theorem ggX8_spread_X8_has : GoodIn wsX8_spread wsX8_has := goodIn_r _ [5] (by decide +kernel) (by decide +kernel)
set_option maxRecDepth 20000 in
theorem gX8_spread_X8_has : GoodIn wsX8_spread (va_wsS RX8 51 yX8_has wsX8_has) := goodIn_app (goodIn_of _ (by decide +kernel)) ggX8_spread_X8_has
set_option maxRecDepth 20000 in
theorem ggX8_spread_X8_around : GoodIn wsX8_spread wsX8_around := goodIn_r _ [8, 9, 10, 4, 11, 12, 13, 14] (by decide +kernel) (by decide +kernel)
set_option maxRecDepth 20000 in
theorem gX8_spread_X8_around : GoodIn wsX8_spread (va_wsS RX8 69 yX8_around wsX8_around) := goodIn_app (goodIn_of _ (by decide +kernel)) ggX8_spread_X8_around
theorem dX8_spread_0 : decode cX8_spread 0 = .ok (.lload_n 2, 1) := by decide +kernel
theorem dX8_spread_1 : decode cX8_spread 1 = .ok (.lconst 1, 1) := by decide +kernel
theorem dX8_spread_2 : decode cX8_spread 2 = .ok (.iload_n 1, 1) := by decide +kernel
theorem dX8_spread_3 : decode cX8_spread 3 = .ok (.lshl, 1) := by decide +kernel
theorem dX8_spread_4 : decode cX8_spread 4 = .ok (.land, 1) := by decide +kernel
theorem dX8_spread_5 : decode cX8_spread 5 = .ok (.lstore 5, 2) := by decide +kernel
theorem dX8_spread_7 : decode cX8_spread 7 = .ok (.lconst 0, 1) := by decide +kernel
theorem dX8_spread_8 : decode cX8_spread 8 = .ok (.lstore 7, 2) := by decide +kernel
theorem dX8_spread_10 : decode cX8_spread 10 = .ok (.lload 5, 2) := by decide +kernel
theorem dX8_spread_12 : decode cX8_spread 12 = .ok (.lload 7, 2) := by decide +kernel
theorem dX8_spread_14 : decode cX8_spread 14 = .ok (.lcmp, 1) := by decide +kernel
theorem dX8_spread_15 : decode cX8_spread 15 = .ok (.ifCond .eq 56, 3) := by decide +kernel
theorem dX8_spread_18 : decode cX8_spread 18 = .ok (.iconst 0, 1) := by decide +kernel
theorem dX8_spread_19 : decode cX8_spread 19 = .ok (.istore 9, 2) := by decide +kernel
theorem dX8_spread_21 : decode cX8_spread 21 = .ok (.lload 5, 2) := by decide +kernel
theorem dX8_spread_23 : decode cX8_spread 23 = .ok (.lload 7, 2) := by decide +kernel
theorem dX8_spread_25 : decode cX8_spread 25 = .ok (.ldc2_w 67, 3) := by decide +kernel
theorem dX8_spread_28 : decode cX8_spread 28 = .ok (.lxor, 1) := by decide +kernel
theorem dX8_spread_29 : decode cX8_spread 29 = .ok (.land, 1) := by decide +kernel
theorem dX8_spread_30 : decode cX8_spread 30 = .ok (.iload 9, 2) := by decide +kernel
theorem dX8_spread_32 : decode cX8_spread 32 = .ok (.invokestatic 51, 3) := by decide +kernel
theorem dX8_spread_35 : decode cX8_spread 35 = .ok (.ifCond .ne 9, 3) := by decide +kernel
theorem dX8_spread_38 : decode cX8_spread 38 = .ok (.iinc 9 1, 3) := by decide +kernel
theorem dX8_spread_41 : decode cX8_spread 41 = .ok (.goto (-20), 3) := by decide +kernel
theorem dX8_spread_44 : decode cX8_spread 44 = .ok (.lload 7, 2) := by decide +kernel
theorem dX8_spread_46 : decode cX8_spread 46 = .ok (.lconst 1, 1) := by decide +kernel
theorem dX8_spread_47 : decode cX8_spread 47 = .ok (.iload 9, 2) := by decide +kernel
theorem dX8_spread_49 : decode cX8_spread 49 = .ok (.lshl, 1) := by decide +kernel
theorem dX8_spread_50 : decode cX8_spread 50 = .ok (.lor, 1) := by decide +kernel
theorem dX8_spread_51 : decode cX8_spread 51 = .ok (.lstore 7, 2) := by decide +kernel
theorem dX8_spread_53 : decode cX8_spread 53 = .ok (.lload 5, 2) := by decide +kernel
theorem dX8_spread_55 : decode cX8_spread 55 = .ok (.lload_n 2, 1) := by decide +kernel
theorem dX8_spread_56 : decode cX8_spread 56 = .ok (.aload_n 0, 1) := by decide +kernel
theorem dX8_spread_57 : decode cX8_spread 57 = .ok (.iload 9, 2) := by decide +kernel
theorem dX8_spread_59 : decode cX8_spread 59 = .ok (.iload 4, 2) := by decide +kernel
theorem dX8_spread_61 : decode cX8_spread 61 = .ok (.invokestatic 69, 3) := by decide +kernel
theorem dX8_spread_64 : decode cX8_spread 64 = .ok (.land, 1) := by decide +kernel
theorem dX8_spread_65 : decode cX8_spread 65 = .ok (.lor, 1) := by decide +kernel
theorem dX8_spread_66 : decode cX8_spread 66 = .ok (.lstore 5, 2) := by decide +kernel
theorem dX8_spread_68 : decode cX8_spread 68 = .ok (.goto (-58), 3) := by decide +kernel
theorem dX8_spread_71 : decode cX8_spread 71 = .ok (.lload 5, 2) := by decide +kernel
theorem dX8_spread_73 : decode cX8_spread 73 = .ok (.lreturn, 1) := by decide +kernel
set_option maxRecDepth 20000 in
theorem ggX8_part_X8_bright : GoodIn wsX8_part wsX8_bright := goodIn_r _ [5, 6, 7, 4, 8, 9, 10, 11] (by decide +kernel) (by decide +kernel)
set_option maxRecDepth 20000 in
theorem gX8_part_X8_bright : GoodIn wsX8_part (va_wsS RX8 73 yX8_bright wsX8_bright) := goodIn_app (goodIn_of _ (by decide +kernel)) ggX8_part_X8_bright
set_option maxRecDepth 20000 in
theorem ggX8_part_X8_spread : GoodIn wsX8_part wsX8_spread := goodIn_r _ [14, 1, 9, 10, 4, 11, 15, 16, 17, 6, 7, 8, 18, 19, 20] (by decide +kernel) (by decide +kernel)
set_option maxRecDepth 20000 in
theorem gX8_part_X8_spread : GoodIn wsX8_part (va_wsS RX8 77 yX8_spread wsX8_spread) := goodIn_app (goodIn_of _ (by decide +kernel)) ggX8_part_X8_spread
theorem dX8_part_0 : decode cX8_part 0 = .ok (.aload_n 0, 1) := by decide +kernel
theorem dX8_part_1 : decode cX8_part 1 = .ok (.iload_n 1, 1) := by decide +kernel
theorem dX8_part_2 : decode cX8_part 2 = .ok (.aload_n 0, 1) := by decide +kernel
theorem dX8_part_3 : decode cX8_part 3 = .ok (.iload_n 2, 1) := by decide +kernel
theorem dX8_part_4 : decode cX8_part 4 = .ok (.ldc2_w 67, 3) := by decide +kernel
theorem dX8_part_7 : decode cX8_part 7 = .ok (.invokestatic 73, 3) := by decide +kernel
theorem dX8_part_10 : decode cX8_part 10 = .ok (.aload_n 0, 1) := by decide +kernel
theorem dX8_part_11 : decode cX8_part 11 = .ok (.iconst 0, 1) := by decide +kernel
theorem dX8_part_12 : decode cX8_part 12 = .ok (.iaload, 1) := by decide +kernel
theorem dX8_part_13 : decode cX8_part 13 = .ok (.invokestatic 77, 3) := by decide +kernel
theorem dX8_part_16 : decode cX8_part 16 = .ok (.lreturn, 1) := by decide +kernel
set_option maxRecDepth 20000 in
theorem ggX8_partsOf_X8_bright : GoodIn wsX8_partsOf wsX8_bright := goodIn_r _ [5, 6, 7, 4, 8, 9, 10, 11] (by decide +kernel) (by decide +kernel)
set_option maxRecDepth 20000 in
theorem gX8_partsOf_X8_bright : GoodIn wsX8_partsOf (va_wsS RX8 73 yX8_bright wsX8_bright) := goodIn_app (goodIn_of _ (by decide +kernel)) ggX8_partsOf_X8_bright
set_option maxRecDepth 20000 in
theorem ggX8_partsOf_X8_dotsOf : GoodIn wsX8_partsOf wsX8_dotsOf := goodIn_r _ [8] (by decide +kernel) (by decide +kernel)
set_option maxRecDepth 20000 in
theorem gX8_partsOf_X8_dotsOf : GoodIn wsX8_partsOf (va_wsS RX8 55 yX8_dotsOf wsX8_dotsOf) := goodIn_app (goodIn_of _ (by decide +kernel)) ggX8_partsOf_X8_dotsOf
set_option maxRecDepth 20000 in
theorem ggX8_partsOf_X8_has : GoodIn wsX8_partsOf wsX8_has := goodIn_r _ [11] (by decide +kernel) (by decide +kernel)
set_option maxRecDepth 20000 in
theorem gX8_partsOf_X8_has : GoodIn wsX8_partsOf (va_wsS RX8 51 yX8_has wsX8_has) := goodIn_app (goodIn_of _ (by decide +kernel)) ggX8_partsOf_X8_has
set_option maxRecDepth 20000 in
theorem ggX8_partsOf_X8_spread : GoodIn wsX8_partsOf wsX8_spread := goodIn_r _ [14, 1, 9, 10, 4, 11, 15, 16, 17, 6, 7, 8, 18, 19, 20] (by decide +kernel) (by decide +kernel)
set_option maxRecDepth 20000 in
theorem gX8_partsOf_X8_spread : GoodIn wsX8_partsOf (va_wsS RX8 77 yX8_spread wsX8_spread) := goodIn_app (goodIn_of _ (by decide +kernel)) ggX8_partsOf_X8_spread
theorem dX8_partsOf_0 : decode cX8_partsOf 0 = .ok (.aload_n 0, 1) := by decide +kernel
theorem dX8_partsOf_1 : decode cX8_partsOf 1 = .ok (.iload_n 1, 1) := by decide +kernel
theorem dX8_partsOf_2 : decode cX8_partsOf 2 = .ok (.lload_n 2, 1) := by decide +kernel
theorem dX8_partsOf_3 : decode cX8_partsOf 3 = .ok (.invokestatic 73, 3) := by decide +kernel
theorem dX8_partsOf_6 : decode cX8_partsOf 6 = .ok (.lstore 4, 2) := by decide +kernel
theorem dX8_partsOf_8 : decode cX8_partsOf 8 = .ok (.iconst 0, 1) := by decide +kernel
theorem dX8_partsOf_9 : decode cX8_partsOf 9 = .ok (.istore 6, 2) := by decide +kernel
theorem dX8_partsOf_11 : decode cX8_partsOf 11 = .ok (.iconst 0, 1) := by decide +kernel
theorem dX8_partsOf_12 : decode cX8_partsOf 12 = .ok (.istore 7, 2) := by decide +kernel
theorem dX8_partsOf_14 : decode cX8_partsOf 14 = .ok (.iload 7, 2) := by decide +kernel
theorem dX8_partsOf_16 : decode cX8_partsOf 16 = .ok (.aload_n 0, 1) := by decide +kernel
theorem dX8_partsOf_17 : decode cX8_partsOf 17 = .ok (.invokestatic 55, 3) := by decide +kernel
theorem dX8_partsOf_20 : decode cX8_partsOf 20 = .ok (.if_icmp .ge 42, 3) := by decide +kernel
theorem dX8_partsOf_23 : decode cX8_partsOf 23 = .ok (.lload 4, 2) := by decide +kernel
theorem dX8_partsOf_25 : decode cX8_partsOf 25 = .ok (.iload 7, 2) := by decide +kernel
theorem dX8_partsOf_27 : decode cX8_partsOf 27 = .ok (.invokestatic 51, 3) := by decide +kernel
theorem dX8_partsOf_30 : decode cX8_partsOf 30 = .ok (.ifCond .eq 26, 3) := by decide +kernel
theorem dX8_partsOf_33 : decode cX8_partsOf 33 = .ok (.lload 4, 2) := by decide +kernel
theorem dX8_partsOf_35 : decode cX8_partsOf 35 = .ok (.aload_n 0, 1) := by decide +kernel
theorem dX8_partsOf_36 : decode cX8_partsOf 36 = .ok (.iload 7, 2) := by decide +kernel
theorem dX8_partsOf_38 : decode cX8_partsOf 38 = .ok (.lload 4, 2) := by decide +kernel
theorem dX8_partsOf_40 : decode cX8_partsOf 40 = .ok (.aload_n 0, 1) := by decide +kernel
theorem dX8_partsOf_41 : decode cX8_partsOf 41 = .ok (.iconst 0, 1) := by decide +kernel
theorem dX8_partsOf_42 : decode cX8_partsOf 42 = .ok (.iaload, 1) := by decide +kernel
theorem dX8_partsOf_43 : decode cX8_partsOf 43 = .ok (.invokestatic 77, 3) := by decide +kernel
theorem dX8_partsOf_46 : decode cX8_partsOf 46 = .ok (.ldc2_w 67, 3) := by decide +kernel
theorem dX8_partsOf_49 : decode cX8_partsOf 49 = .ok (.lxor, 1) := by decide +kernel
theorem dX8_partsOf_50 : decode cX8_partsOf 50 = .ok (.land, 1) := by decide +kernel
theorem dX8_partsOf_51 : decode cX8_partsOf 51 = .ok (.lstore 4, 2) := by decide +kernel
theorem dX8_partsOf_53 : decode cX8_partsOf 53 = .ok (.iinc 6 1, 3) := by decide +kernel
theorem dX8_partsOf_56 : decode cX8_partsOf 56 = .ok (.iinc 7 1, 3) := by decide +kernel
theorem dX8_partsOf_59 : decode cX8_partsOf 59 = .ok (.goto (-45), 3) := by decide +kernel
theorem dX8_partsOf_62 : decode cX8_partsOf 62 = .ok (.iload 6, 2) := by decide +kernel
theorem dX8_partsOf_64 : decode cX8_partsOf 64 = .ok (.ireturn, 1) := by decide +kernel
set_option maxRecDepth 20000 in
theorem ggX8_nodeOf_X8_part : GoodIn wsX8_nodeOf wsX8_part := goodIn_r _ [4, 5, 6, 7, 3, 8, 9, 10, 11, 12, 13, 14, 15, 16, 17, 18, 19, 20, 21, 22, 23] (by decide +kernel) (by decide +kernel)
set_option maxRecDepth 20000 in
theorem gX8_nodeOf_X8_part : GoodIn wsX8_nodeOf (va_wsS RX8 81 yX8_part wsX8_part) := goodIn_app (goodIn_of _ (by decide +kernel)) ggX8_nodeOf_X8_part
theorem dX8_nodeOf_0 : decode cX8_nodeOf 0 = .ok (.aload_n 0, 1) := by decide +kernel
theorem dX8_nodeOf_1 : decode cX8_nodeOf 1 = .ok (.iload_n 1, 1) := by decide +kernel
theorem dX8_nodeOf_2 : decode cX8_nodeOf 2 = .ok (.aload_n 0, 1) := by decide +kernel
theorem dX8_nodeOf_3 : decode cX8_nodeOf 3 = .ok (.iconst 3, 1) := by decide +kernel
theorem dX8_nodeOf_4 : decode cX8_nodeOf 4 = .ok (.iload_n 1, 1) := by decide +kernel
theorem dX8_nodeOf_5 : decode cX8_nodeOf 5 = .ok (.iadd, 1) := by decide +kernel
theorem dX8_nodeOf_6 : decode cX8_nodeOf 6 = .ok (.iaload, 1) := by decide +kernel
theorem dX8_nodeOf_7 : decode cX8_nodeOf 7 = .ok (.invokestatic 81, 3) := by decide +kernel
theorem dX8_nodeOf_10 : decode cX8_nodeOf 10 = .ok (.lreturn, 1) := by decide +kernel
set_option maxRecDepth 20000 in
theorem ggX8_level_X8_dotsOf : GoodIn wsX8_level wsX8_dotsOf := goodIn_r _ [4] (by decide +kernel) (by decide +kernel)
set_option maxRecDepth 20000 in
theorem gX8_level_X8_dotsOf : GoodIn wsX8_level (va_wsS RX8 55 yX8_dotsOf wsX8_dotsOf) := goodIn_app (goodIn_of _ (by decide +kernel)) ggX8_level_X8_dotsOf
set_option maxRecDepth 20000 in
theorem ggX8_level_X8_has : GoodIn wsX8_level wsX8_has := goodIn_r _ [7] (by decide +kernel) (by decide +kernel)
set_option maxRecDepth 20000 in
theorem gX8_level_X8_has : GoodIn wsX8_level (va_wsS RX8 51 yX8_has wsX8_has) := goodIn_app (goodIn_of _ (by decide +kernel)) ggX8_level_X8_has
theorem dX8_level_0 : decode cX8_level 0 = .ok (.bipush 10, 2) := by decide +kernel
theorem dX8_level_2 : decode cX8_level 2 = .ok (.istore_n 3, 1) := by decide +kernel
theorem dX8_level_3 : decode cX8_level 3 = .ok (.iconst 0, 1) := by decide +kernel
theorem dX8_level_4 : decode cX8_level 4 = .ok (.istore 4, 2) := by decide +kernel
theorem dX8_level_6 : decode cX8_level 6 = .ok (.iload 4, 2) := by decide +kernel
theorem dX8_level_8 : decode cX8_level 8 = .ok (.aload_n 0, 1) := by decide +kernel
theorem dX8_level_9 : decode cX8_level 9 = .ok (.invokestatic 55, 3) := by decide +kernel
theorem dX8_level_12 : decode cX8_level 12 = .ok (.if_icmp .ge 39, 3) := by decide +kernel
theorem dX8_level_15 : decode cX8_level 15 = .ok (.lload_n 1, 1) := by decide +kernel
theorem dX8_level_16 : decode cX8_level 16 = .ok (.iload 4, 2) := by decide +kernel
theorem dX8_level_18 : decode cX8_level 18 = .ok (.invokestatic 51, 3) := by decide +kernel
theorem dX8_level_21 : decode cX8_level 21 = .ok (.ifCond .eq 22, 3) := by decide +kernel
theorem dX8_level_24 : decode cX8_level 24 = .ok (.aload_n 0, 1) := by decide +kernel
theorem dX8_level_25 : decode cX8_level 25 = .ok (.iconst 3, 1) := by decide +kernel
theorem dX8_level_26 : decode cX8_level 26 = .ok (.iload 4, 2) := by decide +kernel
theorem dX8_level_28 : decode cX8_level 28 = .ok (.iadd, 1) := by decide +kernel
theorem dX8_level_29 : decode cX8_level 29 = .ok (.iaload, 1) := by decide +kernel
theorem dX8_level_30 : decode cX8_level 30 = .ok (.iload_n 3, 1) := by decide +kernel
theorem dX8_level_31 : decode cX8_level 31 = .ok (.if_icmp .ge 12, 3) := by decide +kernel
theorem dX8_level_34 : decode cX8_level 34 = .ok (.aload_n 0, 1) := by decide +kernel
theorem dX8_level_35 : decode cX8_level 35 = .ok (.iconst 3, 1) := by decide +kernel
theorem dX8_level_36 : decode cX8_level 36 = .ok (.iload 4, 2) := by decide +kernel
theorem dX8_level_38 : decode cX8_level 38 = .ok (.iadd, 1) := by decide +kernel
theorem dX8_level_39 : decode cX8_level 39 = .ok (.iaload, 1) := by decide +kernel
theorem dX8_level_40 : decode cX8_level 40 = .ok (.goto 4, 3) := by decide +kernel
theorem dX8_level_43 : decode cX8_level 43 = .ok (.iload_n 3, 1) := by decide +kernel
theorem dX8_level_44 : decode cX8_level 44 = .ok (.istore_n 3, 1) := by decide +kernel
theorem dX8_level_45 : decode cX8_level 45 = .ok (.iinc 4 1, 3) := by decide +kernel
theorem dX8_level_48 : decode cX8_level 48 = .ok (.goto (-42), 3) := by decide +kernel
theorem dX8_level_51 : decode cX8_level 51 = .ok (.iload_n 3, 1) := by decide +kernel
theorem dX8_level_52 : decode cX8_level 52 = .ok (.ireturn, 1) := by decide +kernel
set_option maxRecDepth 20000 in
theorem ggX8_brightest_X8_dotsOf : GoodIn wsX8_brightest wsX8_dotsOf := goodIn_r _ [4] (by decide +kernel) (by decide +kernel)
set_option maxRecDepth 20000 in
theorem gX8_brightest_X8_dotsOf : GoodIn wsX8_brightest (va_wsS RX8 55 yX8_dotsOf wsX8_dotsOf) := goodIn_app (goodIn_of _ (by decide +kernel)) ggX8_brightest_X8_dotsOf
set_option maxRecDepth 20000 in
theorem ggX8_brightest_X8_has : GoodIn wsX8_brightest wsX8_has := goodIn_r _ [7] (by decide +kernel) (by decide +kernel)
set_option maxRecDepth 20000 in
theorem gX8_brightest_X8_has : GoodIn wsX8_brightest (va_wsS RX8 51 yX8_has wsX8_has) := goodIn_app (goodIn_of _ (by decide +kernel)) ggX8_brightest_X8_has
theorem dX8_brightest_0 : decode cX8_brightest 0 = .ok (.bipush (-9), 2) := by decide +kernel
theorem dX8_brightest_2 : decode cX8_brightest 2 = .ok (.istore_n 3, 1) := by decide +kernel
theorem dX8_brightest_3 : decode cX8_brightest 3 = .ok (.iconst 0, 1) := by decide +kernel
theorem dX8_brightest_4 : decode cX8_brightest 4 = .ok (.istore 4, 2) := by decide +kernel
theorem dX8_brightest_6 : decode cX8_brightest 6 = .ok (.iload 4, 2) := by decide +kernel
theorem dX8_brightest_8 : decode cX8_brightest 8 = .ok (.aload_n 0, 1) := by decide +kernel
theorem dX8_brightest_9 : decode cX8_brightest 9 = .ok (.invokestatic 55, 3) := by decide +kernel
theorem dX8_brightest_12 : decode cX8_brightest 12 = .ok (.if_icmp .ge 39, 3) := by decide +kernel
theorem dX8_brightest_15 : decode cX8_brightest 15 = .ok (.lload_n 1, 1) := by decide +kernel
theorem dX8_brightest_16 : decode cX8_brightest 16 = .ok (.iload 4, 2) := by decide +kernel
theorem dX8_brightest_18 : decode cX8_brightest 18 = .ok (.invokestatic 51, 3) := by decide +kernel
theorem dX8_brightest_21 : decode cX8_brightest 21 = .ok (.ifCond .eq 22, 3) := by decide +kernel
theorem dX8_brightest_24 : decode cX8_brightest 24 = .ok (.aload_n 0, 1) := by decide +kernel
theorem dX8_brightest_25 : decode cX8_brightest 25 = .ok (.iconst 3, 1) := by decide +kernel
theorem dX8_brightest_26 : decode cX8_brightest 26 = .ok (.iload 4, 2) := by decide +kernel
theorem dX8_brightest_28 : decode cX8_brightest 28 = .ok (.iadd, 1) := by decide +kernel
theorem dX8_brightest_29 : decode cX8_brightest 29 = .ok (.iaload, 1) := by decide +kernel
theorem dX8_brightest_30 : decode cX8_brightest 30 = .ok (.iload_n 3, 1) := by decide +kernel
theorem dX8_brightest_31 : decode cX8_brightest 31 = .ok (.if_icmp .le 12, 3) := by decide +kernel
theorem dX8_brightest_34 : decode cX8_brightest 34 = .ok (.aload_n 0, 1) := by decide +kernel
theorem dX8_brightest_35 : decode cX8_brightest 35 = .ok (.iconst 3, 1) := by decide +kernel
theorem dX8_brightest_36 : decode cX8_brightest 36 = .ok (.iload 4, 2) := by decide +kernel
theorem dX8_brightest_38 : decode cX8_brightest 38 = .ok (.iadd, 1) := by decide +kernel
theorem dX8_brightest_39 : decode cX8_brightest 39 = .ok (.iaload, 1) := by decide +kernel
theorem dX8_brightest_40 : decode cX8_brightest 40 = .ok (.goto 4, 3) := by decide +kernel
theorem dX8_brightest_43 : decode cX8_brightest 43 = .ok (.iload_n 3, 1) := by decide +kernel
theorem dX8_brightest_44 : decode cX8_brightest 44 = .ok (.istore_n 3, 1) := by decide +kernel
theorem dX8_brightest_45 : decode cX8_brightest 45 = .ok (.iinc 4 1, 3) := by decide +kernel
theorem dX8_brightest_48 : decode cX8_brightest 48 = .ok (.goto (-42), 3) := by decide +kernel
theorem dX8_brightest_51 : decode cX8_brightest 51 = .ok (.iload_n 3, 1) := by decide +kernel
theorem dX8_brightest_52 : decode cX8_brightest 52 = .ok (.ireturn, 1) := by decide +kernel
set_option maxRecDepth 20000 in
theorem ggX8_head_X8_level : GoodIn wsX8_head wsX8_level := goodIn_r _ [4, 5, 6, 3, 7, 8, 9, 10] (by decide +kernel) (by decide +kernel)
set_option maxRecDepth 20000 in
theorem gX8_head_X8_level : GoodIn wsX8_head (va_wsS RX8 84 yX8_level wsX8_level) := goodIn_app (goodIn_of _ (by decide +kernel)) ggX8_head_X8_level
set_option maxRecDepth 20000 in
theorem ggX8_head_X8_has : GoodIn wsX8_head wsX8_has := goodIn_r _ [10] (by decide +kernel) (by decide +kernel)
set_option maxRecDepth 20000 in
theorem gX8_head_X8_has : GoodIn wsX8_head (va_wsS RX8 51 yX8_has wsX8_has) := goodIn_app (goodIn_of _ (by decide +kernel)) ggX8_head_X8_has
theorem dX8_head_0 : decode cX8_head 0 = .ok (.aload_n 0, 1) := by decide +kernel
theorem dX8_head_1 : decode cX8_head 1 = .ok (.lload_n 1, 1) := by decide +kernel
theorem dX8_head_2 : decode cX8_head 2 = .ok (.invokestatic 84, 3) := by decide +kernel
theorem dX8_head_5 : decode cX8_head 5 = .ok (.istore_n 3, 1) := by decide +kernel
theorem dX8_head_6 : decode cX8_head 6 = .ok (.iconst 0, 1) := by decide +kernel
theorem dX8_head_7 : decode cX8_head 7 = .ok (.istore 4, 2) := by decide +kernel
theorem dX8_head_9 : decode cX8_head 9 = .ok (.lload_n 1, 1) := by decide +kernel
theorem dX8_head_10 : decode cX8_head 10 = .ok (.iload 4, 2) := by decide +kernel
theorem dX8_head_12 : decode cX8_head 12 = .ok (.invokestatic 51, 3) := by decide +kernel
theorem dX8_head_15 : decode cX8_head 15 = .ok (.ifCond .eq 13, 3) := by decide +kernel
theorem dX8_head_18 : decode cX8_head 18 = .ok (.aload_n 0, 1) := by decide +kernel
theorem dX8_head_19 : decode cX8_head 19 = .ok (.iconst 3, 1) := by decide +kernel
theorem dX8_head_20 : decode cX8_head 20 = .ok (.iload 4, 2) := by decide +kernel
theorem dX8_head_22 : decode cX8_head 22 = .ok (.iadd, 1) := by decide +kernel
theorem dX8_head_23 : decode cX8_head 23 = .ok (.iaload, 1) := by decide +kernel
theorem dX8_head_24 : decode cX8_head 24 = .ok (.iload_n 3, 1) := by decide +kernel
theorem dX8_head_25 : decode cX8_head 25 = .ok (.if_icmp .eq 9, 3) := by decide +kernel
theorem dX8_head_28 : decode cX8_head 28 = .ok (.iinc 4 1, 3) := by decide +kernel
theorem dX8_head_31 : decode cX8_head 31 = .ok (.goto (-22), 3) := by decide +kernel
theorem dX8_head_34 : decode cX8_head 34 = .ok (.iload 4, 2) := by decide +kernel
theorem dX8_head_36 : decode cX8_head 36 = .ok (.ireturn, 1) := by decide +kernel
set_option maxRecDepth 20000 in
theorem ggX8_parent_X8_head : GoodIn wsX8_parent wsX8_head := goodIn_r _ [4, 5, 6, 3, 7, 8, 9, 10, 11, 12, 13] (by decide +kernel) (by decide +kernel)
set_option maxRecDepth 20000 in
theorem gX8_parent_X8_head : GoodIn wsX8_parent (va_wsS RX8 88 yX8_head wsX8_head) := goodIn_app (goodIn_of _ (by decide +kernel)) ggX8_parent_X8_head
set_option maxRecDepth 20000 in
theorem ggX8_parent_X8_level : GoodIn wsX8_parent wsX8_level := goodIn_r _ [7, 8, 9, 3, 10, 11, 12, 13] (by decide +kernel) (by decide +kernel)
set_option maxRecDepth 20000 in
theorem gX8_parent_X8_level : GoodIn wsX8_parent (va_wsS RX8 84 yX8_level wsX8_level) := goodIn_app (goodIn_of _ (by decide +kernel)) ggX8_parent_X8_level
set_option maxRecDepth 20000 in
theorem ggX8_parent_X8_part : GoodIn wsX8_parent wsX8_part := goodIn_r _ [16, 17, 18, 19, 3, 20, 8, 9, 10, 11, 12, 13, 21, 22, 23, 24, 25, 26, 27, 28, 29] (by decide +kernel) (by decide +kernel)
set_option maxRecDepth 20000 in
theorem gX8_parent_X8_part : GoodIn wsX8_parent (va_wsS RX8 81 yX8_part wsX8_part) := goodIn_app (goodIn_of _ (by decide +kernel)) ggX8_parent_X8_part
theorem dX8_parent_0 : decode cX8_parent 0 = .ok (.aload_n 0, 1) := by decide +kernel
theorem dX8_parent_1 : decode cX8_parent 1 = .ok (.lload_n 1, 1) := by decide +kernel
theorem dX8_parent_2 : decode cX8_parent 2 = .ok (.invokestatic 88, 3) := by decide +kernel
theorem dX8_parent_5 : decode cX8_parent 5 = .ok (.istore_n 3, 1) := by decide +kernel
theorem dX8_parent_6 : decode cX8_parent 6 = .ok (.lload_n 1, 1) := by decide +kernel
theorem dX8_parent_7 : decode cX8_parent 7 = .ok (.lstore 4, 2) := by decide +kernel
theorem dX8_parent_9 : decode cX8_parent 9 = .ok (.aload_n 0, 1) := by decide +kernel
theorem dX8_parent_10 : decode cX8_parent 10 = .ok (.lload_n 1, 1) := by decide +kernel
theorem dX8_parent_11 : decode cX8_parent 11 = .ok (.invokestatic 84, 3) := by decide +kernel
theorem dX8_parent_14 : decode cX8_parent 14 = .ok (.iconst 1, 1) := by decide +kernel
theorem dX8_parent_15 : decode cX8_parent 15 = .ok (.isub, 1) := by decide +kernel
theorem dX8_parent_16 : decode cX8_parent 16 = .ok (.istore 6, 2) := by decide +kernel
theorem dX8_parent_18 : decode cX8_parent 18 = .ok (.iload 6, 2) := by decide +kernel
theorem dX8_parent_20 : decode cX8_parent 20 = .ok (.ifCond .lt 25, 3) := by decide +kernel
theorem dX8_parent_23 : decode cX8_parent 23 = .ok (.lload 4, 2) := by decide +kernel
theorem dX8_parent_25 : decode cX8_parent 25 = .ok (.lload_n 1, 1) := by decide +kernel
theorem dX8_parent_26 : decode cX8_parent 26 = .ok (.lcmp, 1) := by decide +kernel
theorem dX8_parent_27 : decode cX8_parent 27 = .ok (.ifCond .ne 18, 3) := by decide +kernel
theorem dX8_parent_30 : decode cX8_parent 30 = .ok (.aload_n 0, 1) := by decide +kernel
theorem dX8_parent_31 : decode cX8_parent 31 = .ok (.iload_n 3, 1) := by decide +kernel
theorem dX8_parent_32 : decode cX8_parent 32 = .ok (.iload 6, 2) := by decide +kernel
theorem dX8_parent_34 : decode cX8_parent 34 = .ok (.invokestatic 81, 3) := by decide +kernel
theorem dX8_parent_37 : decode cX8_parent 37 = .ok (.lstore 4, 2) := by decide +kernel
theorem dX8_parent_39 : decode cX8_parent 39 = .ok (.iinc 6 (-1), 3) := by decide +kernel
theorem dX8_parent_42 : decode cX8_parent 42 = .ok (.goto (-24), 3) := by decide +kernel
theorem dX8_parent_45 : decode cX8_parent 45 = .ok (.lload 4, 2) := by decide +kernel
theorem dX8_parent_47 : decode cX8_parent 47 = .ok (.lreturn, 1) := by decide +kernel
set_option maxRecDepth 20000 in
theorem ggX8_isHead_X8_nodeOf : GoodIn wsX8_isHead wsX8_nodeOf := goodIn_r _ [4, 5, 6, 3, 7, 8, 9, 10, 11, 12, 13, 14, 15, 16, 17, 18, 19, 20, 21, 22, 23, 24, 25, 26] (by decide +kernel) (by decide +kernel)
set_option maxRecDepth 20000 in
theorem gX8_isHead_X8_nodeOf : GoodIn wsX8_isHead (va_wsS RX8 91 yX8_nodeOf wsX8_nodeOf) := goodIn_app (goodIn_of _ (by decide +kernel)) ggX8_isHead_X8_nodeOf
set_option maxRecDepth 20000 in
theorem ggX8_isHead_X8_head : GoodIn wsX8_isHead wsX8_head := goodIn_r _ [29, 30, 31, 3, 32, 12, 13, 14, 15, 16, 17] (by decide +kernel) (by decide +kernel)
set_option maxRecDepth 20000 in
theorem gX8_isHead_X8_head : GoodIn wsX8_isHead (va_wsS RX8 88 yX8_head wsX8_head) := goodIn_app (goodIn_of _ (by decide +kernel)) ggX8_isHead_X8_head
theorem dX8_isHead_0 : decode cX8_isHead 0 = .ok (.aload_n 0, 1) := by decide +kernel
theorem dX8_isHead_1 : decode cX8_isHead 1 = .ok (.aload_n 0, 1) := by decide +kernel
theorem dX8_isHead_2 : decode cX8_isHead 2 = .ok (.iload_n 1, 1) := by decide +kernel
theorem dX8_isHead_3 : decode cX8_isHead 3 = .ok (.invokestatic 91, 3) := by decide +kernel
theorem dX8_isHead_6 : decode cX8_isHead 6 = .ok (.invokestatic 88, 3) := by decide +kernel
theorem dX8_isHead_9 : decode cX8_isHead 9 = .ok (.iload_n 1, 1) := by decide +kernel
theorem dX8_isHead_10 : decode cX8_isHead 10 = .ok (.if_icmp .ne 7, 3) := by decide +kernel
theorem dX8_isHead_13 : decode cX8_isHead 13 = .ok (.iconst 1, 1) := by decide +kernel
theorem dX8_isHead_14 : decode cX8_isHead 14 = .ok (.goto 4, 3) := by decide +kernel
theorem dX8_isHead_17 : decode cX8_isHead 17 = .ok (.iconst 0, 1) := by decide +kernel
theorem dX8_isHead_18 : decode cX8_isHead 18 = .ok (.ireturn, 1) := by decide +kernel
set_option maxRecDepth 20000 in
theorem ggX8_nodes_X8_dotsOf : GoodIn wsX8_nodes wsX8_dotsOf := goodIn_r _ [4] (by decide +kernel) (by decide +kernel)
set_option maxRecDepth 20000 in
theorem gX8_nodes_X8_dotsOf : GoodIn wsX8_nodes (va_wsS RX8 55 yX8_dotsOf wsX8_dotsOf) := goodIn_app (goodIn_of _ (by decide +kernel)) ggX8_nodes_X8_dotsOf
set_option maxRecDepth 20000 in
theorem ggX8_nodes_X8_isHead : GoodIn wsX8_nodes wsX8_isHead := goodIn_r _ [7, 8, 9, 3, 10, 11, 12, 13, 14, 15, 16, 17, 1, 2, 4, 18, 19, 20, 21, 22, 23, 24, 25, 26, 27, 28, 29, 30, 31, 32, 33, 34, 35] (by decide +kernel) (by decide +kernel)
set_option maxRecDepth 20000 in
theorem gX8_nodes_X8_isHead : GoodIn wsX8_nodes (va_wsS RX8 95 yX8_isHead wsX8_isHead) := goodIn_app (goodIn_of _ (by decide +kernel)) ggX8_nodes_X8_isHead
theorem dX8_nodes_0 : decode cX8_nodes 0 = .ok (.iconst 0, 1) := by decide +kernel
theorem dX8_nodes_1 : decode cX8_nodes 1 = .ok (.istore_n 1, 1) := by decide +kernel
theorem dX8_nodes_2 : decode cX8_nodes 2 = .ok (.iconst 0, 1) := by decide +kernel
theorem dX8_nodes_3 : decode cX8_nodes 3 = .ok (.istore_n 2, 1) := by decide +kernel
theorem dX8_nodes_4 : decode cX8_nodes 4 = .ok (.iload_n 2, 1) := by decide +kernel
theorem dX8_nodes_5 : decode cX8_nodes 5 = .ok (.aload_n 0, 1) := by decide +kernel
theorem dX8_nodes_6 : decode cX8_nodes 6 = .ok (.invokestatic 55, 3) := by decide +kernel
theorem dX8_nodes_9 : decode cX8_nodes 9 = .ok (.if_icmp .ge 25, 3) := by decide +kernel
theorem dX8_nodes_12 : decode cX8_nodes 12 = .ok (.iload_n 1, 1) := by decide +kernel
theorem dX8_nodes_13 : decode cX8_nodes 13 = .ok (.aload_n 0, 1) := by decide +kernel
theorem dX8_nodes_14 : decode cX8_nodes 14 = .ok (.iload_n 2, 1) := by decide +kernel
theorem dX8_nodes_15 : decode cX8_nodes 15 = .ok (.invokestatic 95, 3) := by decide +kernel
theorem dX8_nodes_18 : decode cX8_nodes 18 = .ok (.ifCond .eq 7, 3) := by decide +kernel
theorem dX8_nodes_21 : decode cX8_nodes 21 = .ok (.iconst 1, 1) := by decide +kernel
theorem dX8_nodes_22 : decode cX8_nodes 22 = .ok (.goto 4, 3) := by decide +kernel
theorem dX8_nodes_25 : decode cX8_nodes 25 = .ok (.iconst 0, 1) := by decide +kernel
theorem dX8_nodes_26 : decode cX8_nodes 26 = .ok (.iadd, 1) := by decide +kernel
theorem dX8_nodes_27 : decode cX8_nodes 27 = .ok (.istore_n 1, 1) := by decide +kernel
theorem dX8_nodes_28 : decode cX8_nodes 28 = .ok (.iinc 2 1, 3) := by decide +kernel
theorem dX8_nodes_31 : decode cX8_nodes 31 = .ok (.goto (-27), 3) := by decide +kernel
theorem dX8_nodes_34 : decode cX8_nodes 34 = .ok (.iload_n 1, 1) := by decide +kernel
theorem dX8_nodes_35 : decode cX8_nodes 35 = .ok (.ireturn, 1) := by decide +kernel
set_option maxRecDepth 20000 in
theorem ggX8_children_X8_dotsOf : GoodIn wsX8_children wsX8_dotsOf := goodIn_r _ [4] (by decide +kernel) (by decide +kernel)
set_option maxRecDepth 20000 in
theorem gX8_children_X8_dotsOf : GoodIn wsX8_children (va_wsS RX8 55 yX8_dotsOf wsX8_dotsOf) := goodIn_app (goodIn_of _ (by decide +kernel)) ggX8_children_X8_dotsOf
set_option maxRecDepth 20000 in
theorem ggX8_children_X8_has : GoodIn wsX8_children wsX8_has := goodIn_r _ [7] (by decide +kernel) (by decide +kernel)
set_option maxRecDepth 20000 in
theorem gX8_children_X8_has : GoodIn wsX8_children (va_wsS RX8 51 yX8_has wsX8_has) := goodIn_app (goodIn_of _ (by decide +kernel)) ggX8_children_X8_has
set_option maxRecDepth 20000 in
theorem ggX8_children_X8_isHead : GoodIn wsX8_children wsX8_isHead := goodIn_r _ [10, 11, 12, 3, 13, 14, 15, 16, 17, 18, 19, 20, 1, 2, 4, 5, 6, 7, 21, 22, 23, 24, 25, 26, 27, 28, 29, 30, 31, 32, 33, 34, 35] (by decide +kernel) (by decide +kernel)
set_option maxRecDepth 20000 in
theorem gX8_children_X8_isHead : GoodIn wsX8_children (va_wsS RX8 95 yX8_isHead wsX8_isHead) := goodIn_app (goodIn_of _ (by decide +kernel)) ggX8_children_X8_isHead
set_option maxRecDepth 20000 in
theorem ggX8_children_X8_nodeOf : GoodIn wsX8_children wsX8_nodeOf := goodIn_r _ [13, 14, 15, 3, 16, 17, 18, 19, 20, 1, 2, 4, 5, 6, 7, 21, 22, 23, 24, 25, 26, 27, 28, 29] (by decide +kernel) (by decide +kernel)
set_option maxRecDepth 20000 in
theorem gX8_children_X8_nodeOf : GoodIn wsX8_children (va_wsS RX8 91 yX8_nodeOf wsX8_nodeOf) := goodIn_app (goodIn_of _ (by decide +kernel)) ggX8_children_X8_nodeOf
set_option maxRecDepth 20000 in
theorem ggX8_children_X8_parent : GoodIn wsX8_children wsX8_parent := goodIn_r _ [38, 30, 31, 3, 32, 33, 34, 35, 1, 2, 4, 5, 6, 7, 14, 15, 16, 17, 18, 19, 20, 21, 22, 23, 24, 25, 26, 27, 28, 29] (by decide +kernel) (by decide +kernel)
set_option maxRecDepth 20000 in
theorem gX8_children_X8_parent : GoodIn wsX8_children (va_wsS RX8 99 yX8_parent wsX8_parent) := goodIn_app (goodIn_of _ (by decide +kernel)) ggX8_children_X8_parent
theorem dX8_children_0 : decode cX8_children 0 = .ok (.iconst 0, 1) := by decide +kernel
theorem dX8_children_1 : decode cX8_children 1 = .ok (.istore_n 3, 1) := by decide +kernel
theorem dX8_children_2 : decode cX8_children 2 = .ok (.iconst 0, 1) := by decide +kernel
theorem dX8_children_3 : decode cX8_children 3 = .ok (.istore 4, 2) := by decide +kernel
theorem dX8_children_5 : decode cX8_children 5 = .ok (.iload 4, 2) := by decide +kernel
theorem dX8_children_7 : decode cX8_children 7 = .ok (.aload_n 0, 1) := by decide +kernel
theorem dX8_children_8 : decode cX8_children 8 = .ok (.invokestatic 55, 3) := by decide +kernel
theorem dX8_children_11 : decode cX8_children 11 = .ok (.if_icmp .ge 61, 3) := by decide +kernel
theorem dX8_children_14 : decode cX8_children 14 = .ok (.lload_n 1, 1) := by decide +kernel
theorem dX8_children_15 : decode cX8_children 15 = .ok (.iload 4, 2) := by decide +kernel
theorem dX8_children_17 : decode cX8_children 17 = .ok (.invokestatic 51, 3) := by decide +kernel
theorem dX8_children_20 : decode cX8_children 20 = .ok (.ifCond .eq 46, 3) := by decide +kernel
theorem dX8_children_23 : decode cX8_children 23 = .ok (.aload_n 0, 1) := by decide +kernel
theorem dX8_children_24 : decode cX8_children 24 = .ok (.iload 4, 2) := by decide +kernel
theorem dX8_children_26 : decode cX8_children 26 = .ok (.invokestatic 95, 3) := by decide +kernel
theorem dX8_children_29 : decode cX8_children 29 = .ok (.ifCond .eq 37, 3) := by decide +kernel
theorem dX8_children_32 : decode cX8_children 32 = .ok (.aload_n 0, 1) := by decide +kernel
theorem dX8_children_33 : decode cX8_children 33 = .ok (.iload 4, 2) := by decide +kernel
theorem dX8_children_35 : decode cX8_children 35 = .ok (.invokestatic 91, 3) := by decide +kernel
theorem dX8_children_38 : decode cX8_children 38 = .ok (.lstore 5, 2) := by decide +kernel
theorem dX8_children_40 : decode cX8_children 40 = .ok (.iload_n 3, 1) := by decide +kernel
theorem dX8_children_41 : decode cX8_children 41 = .ok (.lload 5, 2) := by decide +kernel
theorem dX8_children_43 : decode cX8_children 43 = .ok (.lload_n 1, 1) := by decide +kernel
theorem dX8_children_44 : decode cX8_children 44 = .ok (.lcmp, 1) := by decide +kernel
theorem dX8_children_45 : decode cX8_children 45 = .ok (.ifCond .eq 18, 3) := by decide +kernel
theorem dX8_children_48 : decode cX8_children 48 = .ok (.aload_n 0, 1) := by decide +kernel
theorem dX8_children_49 : decode cX8_children 49 = .ok (.lload 5, 2) := by decide +kernel
theorem dX8_children_51 : decode cX8_children 51 = .ok (.invokestatic 99, 3) := by decide +kernel
theorem dX8_children_54 : decode cX8_children 54 = .ok (.lload_n 1, 1) := by decide +kernel
theorem dX8_children_55 : decode cX8_children 55 = .ok (.lcmp, 1) := by decide +kernel
theorem dX8_children_56 : decode cX8_children 56 = .ok (.ifCond .ne 7, 3) := by decide +kernel
theorem dX8_children_59 : decode cX8_children 59 = .ok (.iconst 1, 1) := by decide +kernel
theorem dX8_children_60 : decode cX8_children 60 = .ok (.goto 4, 3) := by decide +kernel
theorem dX8_children_63 : decode cX8_children 63 = .ok (.iconst 0, 1) := by decide +kernel
theorem dX8_children_64 : decode cX8_children 64 = .ok (.iadd, 1) := by decide +kernel
theorem dX8_children_65 : decode cX8_children 65 = .ok (.istore_n 3, 1) := by decide +kernel
theorem dX8_children_66 : decode cX8_children 66 = .ok (.iinc 4 1, 3) := by decide +kernel
theorem dX8_children_69 : decode cX8_children 69 = .ok (.goto (-64), 3) := by decide +kernel
theorem dX8_children_72 : decode cX8_children 72 = .ok (.iload_n 3, 1) := by decide +kernel
theorem dX8_children_73 : decode cX8_children 73 = .ok (.ireturn, 1) := by decide +kernel
set_option maxRecDepth 20000 in
theorem ggX8_depth_X8_parent : GoodIn wsX8_depth wsX8_parent := goodIn_r _ [4, 5, 6, 3, 7, 8, 9, 10, 11, 12, 13, 14, 15, 16, 17, 18, 19, 20, 21, 22, 23, 24, 25, 26, 27, 28, 29, 30, 31, 32] (by decide +kernel) (by decide +kernel)
set_option maxRecDepth 20000 in
theorem gX8_depth_X8_parent : GoodIn wsX8_depth (va_wsS RX8 99 yX8_parent wsX8_parent) := goodIn_app (goodIn_of _ (by decide +kernel)) ggX8_depth_X8_parent
theorem dX8_depth_0 : decode cX8_depth 0 = .ok (.iconst 0, 1) := by decide +kernel
theorem dX8_depth_1 : decode cX8_depth 1 = .ok (.istore_n 3, 1) := by decide +kernel
theorem dX8_depth_2 : decode cX8_depth 2 = .ok (.lload_n 1, 1) := by decide +kernel
theorem dX8_depth_3 : decode cX8_depth 3 = .ok (.lstore 4, 2) := by decide +kernel
theorem dX8_depth_5 : decode cX8_depth 5 = .ok (.aload_n 0, 1) := by decide +kernel
theorem dX8_depth_6 : decode cX8_depth 6 = .ok (.lload 4, 2) := by decide +kernel
theorem dX8_depth_8 : decode cX8_depth 8 = .ok (.invokestatic 99, 3) := by decide +kernel
theorem dX8_depth_11 : decode cX8_depth 11 = .ok (.lstore 6, 2) := by decide +kernel
theorem dX8_depth_13 : decode cX8_depth 13 = .ok (.lload 6, 2) := by decide +kernel
theorem dX8_depth_15 : decode cX8_depth 15 = .ok (.lload 4, 2) := by decide +kernel
theorem dX8_depth_17 : decode cX8_depth 17 = .ok (.lcmp, 1) := by decide +kernel
theorem dX8_depth_18 : decode cX8_depth 18 = .ok (.ifCond .eq 21, 3) := by decide +kernel
theorem dX8_depth_21 : decode cX8_depth 21 = .ok (.iinc 3 1, 3) := by decide +kernel
theorem dX8_depth_24 : decode cX8_depth 24 = .ok (.lload 6, 2) := by decide +kernel
theorem dX8_depth_26 : decode cX8_depth 26 = .ok (.lstore 4, 2) := by decide +kernel
theorem dX8_depth_28 : decode cX8_depth 28 = .ok (.aload_n 0, 1) := by decide +kernel
theorem dX8_depth_29 : decode cX8_depth 29 = .ok (.lload 4, 2) := by decide +kernel
theorem dX8_depth_31 : decode cX8_depth 31 = .ok (.invokestatic 99, 3) := by decide +kernel
theorem dX8_depth_34 : decode cX8_depth 34 = .ok (.lstore 6, 2) := by decide +kernel
theorem dX8_depth_36 : decode cX8_depth 36 = .ok (.goto (-23), 3) := by decide +kernel
theorem dX8_depth_39 : decode cX8_depth 39 = .ok (.iload_n 3, 1) := by decide +kernel
theorem dX8_depth_40 : decode cX8_depth 40 = .ok (.ireturn, 1) := by decide +kernel
set_option maxRecDepth 20000 in
theorem ggX8_light_X8_dotsOf : GoodIn wsX8_light wsX8_dotsOf := goodIn_r _ [4] (by decide +kernel) (by decide +kernel)
set_option maxRecDepth 20000 in
theorem gX8_light_X8_dotsOf : GoodIn wsX8_light (va_wsS RX8 55 yX8_dotsOf wsX8_dotsOf) := goodIn_app (goodIn_of _ (by decide +kernel)) ggX8_light_X8_dotsOf
set_option maxRecDepth 20000 in
theorem ggX8_light_X8_has : GoodIn wsX8_light wsX8_has := goodIn_r _ [7] (by decide +kernel) (by decide +kernel)
set_option maxRecDepth 20000 in
theorem gX8_light_X8_has : GoodIn wsX8_light (va_wsS RX8 51 yX8_has wsX8_has) := goodIn_app (goodIn_of _ (by decide +kernel)) ggX8_light_X8_has
theorem dX8_light_0 : decode cX8_light 0 = .ok (.iconst 0, 1) := by decide +kernel
theorem dX8_light_1 : decode cX8_light 1 = .ok (.istore_n 3, 1) := by decide +kernel
theorem dX8_light_2 : decode cX8_light 2 = .ok (.iconst 0, 1) := by decide +kernel
theorem dX8_light_3 : decode cX8_light 3 = .ok (.istore 4, 2) := by decide +kernel
theorem dX8_light_5 : decode cX8_light 5 = .ok (.iload 4, 2) := by decide +kernel
theorem dX8_light_7 : decode cX8_light 7 = .ok (.aload_n 0, 1) := by decide +kernel
theorem dX8_light_8 : decode cX8_light 8 = .ok (.invokestatic 55, 3) := by decide +kernel
theorem dX8_light_11 : decode cX8_light 11 = .ok (.if_icmp .ge 31, 3) := by decide +kernel
theorem dX8_light_14 : decode cX8_light 14 = .ok (.iload_n 3, 1) := by decide +kernel
theorem dX8_light_15 : decode cX8_light 15 = .ok (.lload_n 1, 1) := by decide +kernel
theorem dX8_light_16 : decode cX8_light 16 = .ok (.iload 4, 2) := by decide +kernel
theorem dX8_light_18 : decode cX8_light 18 = .ok (.invokestatic 51, 3) := by decide +kernel
theorem dX8_light_21 : decode cX8_light 21 = .ok (.ifCond .eq 12, 3) := by decide +kernel
theorem dX8_light_24 : decode cX8_light 24 = .ok (.aload_n 0, 1) := by decide +kernel
theorem dX8_light_25 : decode cX8_light 25 = .ok (.iconst 3, 1) := by decide +kernel
theorem dX8_light_26 : decode cX8_light 26 = .ok (.iload 4, 2) := by decide +kernel
theorem dX8_light_28 : decode cX8_light 28 = .ok (.iadd, 1) := by decide +kernel
theorem dX8_light_29 : decode cX8_light 29 = .ok (.iaload, 1) := by decide +kernel
theorem dX8_light_30 : decode cX8_light 30 = .ok (.goto 4, 3) := by decide +kernel
theorem dX8_light_33 : decode cX8_light 33 = .ok (.iconst 0, 1) := by decide +kernel
theorem dX8_light_34 : decode cX8_light 34 = .ok (.iadd, 1) := by decide +kernel
theorem dX8_light_35 : decode cX8_light 35 = .ok (.istore_n 3, 1) := by decide +kernel
theorem dX8_light_36 : decode cX8_light 36 = .ok (.iinc 4 1, 3) := by decide +kernel
theorem dX8_light_39 : decode cX8_light 39 = .ok (.goto (-34), 3) := by decide +kernel
theorem dX8_light_42 : decode cX8_light 42 = .ok (.iload_n 3, 1) := by decide +kernel
theorem dX8_light_43 : decode cX8_light 43 = .ok (.ireturn, 1) := by decide +kernel
set_option maxRecDepth 20000 in
theorem ggX8_box_X8_dotsOf : GoodIn wsX8_box wsX8_dotsOf := goodIn_r _ [4] (by decide +kernel) (by decide +kernel)
set_option maxRecDepth 20000 in
theorem gX8_box_X8_dotsOf : GoodIn wsX8_box (va_wsS RX8 55 yX8_dotsOf wsX8_dotsOf) := goodIn_app (goodIn_of _ (by decide +kernel)) ggX8_box_X8_dotsOf
set_option maxRecDepth 20000 in
theorem ggX8_box_X8_has : GoodIn wsX8_box wsX8_has := goodIn_r _ [7] (by decide +kernel) (by decide +kernel)
set_option maxRecDepth 20000 in
theorem gX8_box_X8_has : GoodIn wsX8_box (va_wsS RX8 51 yX8_has wsX8_has) := goodIn_app (goodIn_of _ (by decide +kernel)) ggX8_box_X8_has
theorem dX8_box_0 : decode cX8_box 0 = .ok (.bipush 6, 2) := by decide +kernel
theorem dX8_box_2 : decode cX8_box 2 = .ok (.istore 4, 2) := by decide +kernel
theorem dX8_box_4 : decode cX8_box 4 = .ok (.iconst (-1), 1) := by decide +kernel
theorem dX8_box_5 : decode cX8_box 5 = .ok (.istore 5, 2) := by decide +kernel
theorem dX8_box_7 : decode cX8_box 7 = .ok (.iconst 0, 1) := by decide +kernel
theorem dX8_box_8 : decode cX8_box 8 = .ok (.istore 6, 2) := by decide +kernel
theorem dX8_box_10 : decode cX8_box 10 = .ok (.iload 6, 2) := by decide +kernel
theorem dX8_box_12 : decode cX8_box 12 = .ok (.aload_n 0, 1) := by decide +kernel
theorem dX8_box_13 : decode cX8_box 13 = .ok (.invokestatic 55, 3) := by decide +kernel
theorem dX8_box_16 : decode cX8_box 16 = .ok (.if_icmp .ge 71, 3) := by decide +kernel
theorem dX8_box_19 : decode cX8_box 19 = .ok (.lload_n 1, 1) := by decide +kernel
theorem dX8_box_20 : decode cX8_box 20 = .ok (.iload 6, 2) := by decide +kernel
theorem dX8_box_22 : decode cX8_box 22 = .ok (.invokestatic 51, 3) := by decide +kernel
theorem dX8_box_25 : decode cX8_box 25 = .ok (.ifCond .eq 56, 3) := by decide +kernel
theorem dX8_box_28 : decode cX8_box 28 = .ok (.iload_n 3, 1) := by decide +kernel
theorem dX8_box_29 : decode cX8_box 29 = .ok (.ifCond .eq 12, 3) := by decide +kernel
theorem dX8_box_32 : decode cX8_box 32 = .ok (.iload 6, 2) := by decide +kernel
theorem dX8_box_34 : decode cX8_box 34 = .ok (.aload_n 0, 1) := by decide +kernel
theorem dX8_box_35 : decode cX8_box 35 = .ok (.iconst 1, 1) := by decide +kernel
theorem dX8_box_36 : decode cX8_box 36 = .ok (.iaload, 1) := by decide +kernel
theorem dX8_box_37 : decode cX8_box 37 = .ok (.irem, 1) := by decide +kernel
theorem dX8_box_38 : decode cX8_box 38 = .ok (.goto 9, 3) := by decide +kernel
theorem dX8_box_41 : decode cX8_box 41 = .ok (.iload 6, 2) := by decide +kernel
theorem dX8_box_43 : decode cX8_box 43 = .ok (.aload_n 0, 1) := by decide +kernel
theorem dX8_box_44 : decode cX8_box 44 = .ok (.iconst 1, 1) := by decide +kernel
theorem dX8_box_45 : decode cX8_box 45 = .ok (.iaload, 1) := by decide +kernel
theorem dX8_box_46 : decode cX8_box 46 = .ok (.idiv, 1) := by decide +kernel
theorem dX8_box_47 : decode cX8_box 47 = .ok (.istore 7, 2) := by decide +kernel
theorem dX8_box_49 : decode cX8_box 49 = .ok (.iload 7, 2) := by decide +kernel
theorem dX8_box_51 : decode cX8_box 51 = .ok (.iload 4, 2) := by decide +kernel
theorem dX8_box_53 : decode cX8_box 53 = .ok (.if_icmp .ge 8, 3) := by decide +kernel
theorem dX8_box_56 : decode cX8_box 56 = .ok (.iload 7, 2) := by decide +kernel
theorem dX8_box_58 : decode cX8_box 58 = .ok (.goto 5, 3) := by decide +kernel
theorem dX8_box_61 : decode cX8_box 61 = .ok (.iload 4, 2) := by decide +kernel
theorem dX8_box_63 : decode cX8_box 63 = .ok (.istore 4, 2) := by decide +kernel
theorem dX8_box_65 : decode cX8_box 65 = .ok (.iload 7, 2) := by decide +kernel
theorem dX8_box_67 : decode cX8_box 67 = .ok (.iload 5, 2) := by decide +kernel
theorem dX8_box_69 : decode cX8_box 69 = .ok (.if_icmp .le 8, 3) := by decide +kernel
theorem dX8_box_72 : decode cX8_box 72 = .ok (.iload 7, 2) := by decide +kernel
theorem dX8_box_74 : decode cX8_box 74 = .ok (.goto 5, 3) := by decide +kernel
theorem dX8_box_77 : decode cX8_box 77 = .ok (.iload 5, 2) := by decide +kernel
theorem dX8_box_79 : decode cX8_box 79 = .ok (.istore 5, 2) := by decide +kernel
theorem dX8_box_81 : decode cX8_box 81 = .ok (.iinc 6 1, 3) := by decide +kernel
theorem dX8_box_84 : decode cX8_box 84 = .ok (.goto (-74), 3) := by decide +kernel
theorem dX8_box_87 : decode cX8_box 87 = .ok (.iload 5, 2) := by decide +kernel
theorem dX8_box_89 : decode cX8_box 89 = .ok (.iload 4, 2) := by decide +kernel
theorem dX8_box_91 : decode cX8_box 91 = .ok (.isub, 1) := by decide +kernel
theorem dX8_box_92 : decode cX8_box 92 = .ok (.iconst 1, 1) := by decide +kernel
theorem dX8_box_93 : decode cX8_box 93 = .ok (.iadd, 1) := by decide +kernel
theorem dX8_box_94 : decode cX8_box 94 = .ok (.ireturn, 1) := by decide +kernel
set_option maxRecDepth 20000 in
theorem ggX8_rise_X8_level : GoodIn wsX8_rise wsX8_level := goodIn_r _ [4, 5, 6, 3, 7, 8, 9, 10] (by decide +kernel) (by decide +kernel)
set_option maxRecDepth 20000 in
theorem gX8_rise_X8_level : GoodIn wsX8_rise (va_wsS RX8 84 yX8_level wsX8_level) := goodIn_app (goodIn_of _ (by decide +kernel)) ggX8_rise_X8_level
set_option maxRecDepth 20000 in
theorem ggX8_rise_X8_brightest : GoodIn wsX8_rise wsX8_brightest := goodIn_r _ [13, 5, 6, 3, 7, 8, 9, 10] (by decide +kernel) (by decide +kernel)
set_option maxRecDepth 20000 in
theorem gX8_rise_X8_brightest : GoodIn wsX8_rise (va_wsS RX8 103 yX8_brightest wsX8_brightest) := goodIn_app (goodIn_of _ (by decide +kernel)) ggX8_rise_X8_brightest
set_option maxRecDepth 20000 in
theorem ggX8_rise_X8_head : GoodIn wsX8_rise wsX8_head := goodIn_r _ [16, 1, 2, 3, 4, 5, 6, 7, 8, 9, 10] (by decide +kernel) (by decide +kernel)
set_option maxRecDepth 20000 in
theorem gX8_rise_X8_head : GoodIn wsX8_rise (va_wsS RX8 88 yX8_head wsX8_head) := goodIn_app (goodIn_of _ (by decide +kernel)) ggX8_rise_X8_head
set_option maxRecDepth 20000 in
theorem ggX8_rise_X8_part : GoodIn wsX8_rise wsX8_part := goodIn_r _ [19, 20, 21, 22, 3, 23, 5, 6, 7, 8, 9, 10, 24, 25, 26, 27, 28, 29, 30, 31, 32] (by decide +kernel) (by decide +kernel)
set_option maxRecDepth 20000 in
theorem gX8_rise_X8_part : GoodIn wsX8_rise (va_wsS RX8 81 yX8_part wsX8_part) := goodIn_app (goodIn_of _ (by decide +kernel)) ggX8_rise_X8_part
theorem dX8_rise_0 : decode cX8_rise 0 = .ok (.aload_n 0, 1) := by decide +kernel
theorem dX8_rise_1 : decode cX8_rise 1 = .ok (.lload_n 1, 1) := by decide +kernel
theorem dX8_rise_2 : decode cX8_rise 2 = .ok (.invokestatic 84, 3) := by decide +kernel
theorem dX8_rise_5 : decode cX8_rise 5 = .ok (.istore_n 3, 1) := by decide +kernel
theorem dX8_rise_6 : decode cX8_rise 6 = .ok (.aload_n 0, 1) := by decide +kernel
theorem dX8_rise_7 : decode cX8_rise 7 = .ok (.lload_n 1, 1) := by decide +kernel
theorem dX8_rise_8 : decode cX8_rise 8 = .ok (.invokestatic 103, 3) := by decide +kernel
theorem dX8_rise_11 : decode cX8_rise 11 = .ok (.istore 4, 2) := by decide +kernel
theorem dX8_rise_13 : decode cX8_rise 13 = .ok (.aload_n 0, 1) := by decide +kernel
theorem dX8_rise_14 : decode cX8_rise 14 = .ok (.lload_n 1, 1) := by decide +kernel
theorem dX8_rise_15 : decode cX8_rise 15 = .ok (.invokestatic 88, 3) := by decide +kernel
theorem dX8_rise_18 : decode cX8_rise 18 = .ok (.istore 5, 2) := by decide +kernel
theorem dX8_rise_20 : decode cX8_rise 20 = .ok (.iload_n 3, 1) := by decide +kernel
theorem dX8_rise_21 : decode cX8_rise 21 = .ok (.iconst 1, 1) := by decide +kernel
theorem dX8_rise_22 : decode cX8_rise 22 = .ok (.isub, 1) := by decide +kernel
theorem dX8_rise_23 : decode cX8_rise 23 = .ok (.istore 6, 2) := by decide +kernel
theorem dX8_rise_25 : decode cX8_rise 25 = .ok (.iload 6, 2) := by decide +kernel
theorem dX8_rise_27 : decode cX8_rise 27 = .ok (.ifCond .lt 31, 3) := by decide +kernel
theorem dX8_rise_30 : decode cX8_rise 30 = .ok (.aload_n 0, 1) := by decide +kernel
theorem dX8_rise_31 : decode cX8_rise 31 = .ok (.aload_n 0, 1) := by decide +kernel
theorem dX8_rise_32 : decode cX8_rise 32 = .ok (.iload 5, 2) := by decide +kernel
theorem dX8_rise_34 : decode cX8_rise 34 = .ok (.iload 6, 2) := by decide +kernel
theorem dX8_rise_36 : decode cX8_rise 36 = .ok (.invokestatic 81, 3) := by decide +kernel
theorem dX8_rise_39 : decode cX8_rise 39 = .ok (.invokestatic 103, 3) := by decide +kernel
theorem dX8_rise_42 : decode cX8_rise 42 = .ok (.iload 4, 2) := by decide +kernel
theorem dX8_rise_44 : decode cX8_rise 44 = .ok (.if_icmp .le 8, 3) := by decide +kernel
theorem dX8_rise_47 : decode cX8_rise 47 = .ok (.iload_n 3, 1) := by decide +kernel
theorem dX8_rise_48 : decode cX8_rise 48 = .ok (.iload 6, 2) := by decide +kernel
theorem dX8_rise_50 : decode cX8_rise 50 = .ok (.isub, 1) := by decide +kernel
theorem dX8_rise_51 : decode cX8_rise 51 = .ok (.ireturn, 1) := by decide +kernel
theorem dX8_rise_52 : decode cX8_rise 52 = .ok (.iinc 6 (-1), 3) := by decide +kernel
theorem dX8_rise_55 : decode cX8_rise 55 = .ok (.goto (-30), 3) := by decide +kernel
theorem dX8_rise_58 : decode cX8_rise 58 = .ok (.bipush (-9), 2) := by decide +kernel
theorem dX8_rise_60 : decode cX8_rise 60 = .ok (.ireturn, 1) := by decide +kernel
set_option maxRecDepth 20000 in
theorem ggX8_write_X8_in : GoodIn wsX8_write wsX8_in := goodIn_r _ [8] (by decide +kernel) (by decide +kernel)
set_option maxRecDepth 20000 in
theorem gX8_write_X8_in : GoodIn wsX8_write (va_wsS RX8 59 yX8_in wsX8_in) := goodIn_app (goodIn_of _ (by decide +kernel)) ggX8_write_X8_in
theorem dX8_write_0 : decode cX8_write 0 = .ok (.aload_n 0, 1) := by decide +kernel
theorem dX8_write_1 : decode cX8_write 1 = .ok (.iconst 0, 1) := by decide +kernel
theorem dX8_write_2 : decode cX8_write 2 = .ok (.putfield 47, 3) := by decide +kernel
theorem dX8_write_5 : decode cX8_write 5 = .ok (.iload_n 1, 1) := by decide +kernel
theorem dX8_write_6 : decode cX8_write 6 = .ok (.i2l, 1) := by decide +kernel
theorem dX8_write_7 : decode cX8_write 7 = .ok (.lconst 0, 1) := by decide +kernel
theorem dX8_write_8 : decode cX8_write 8 = .ok (.ldc2_w 106, 3) := by decide +kernel
theorem dX8_write_11 : decode cX8_write 11 = .ok (.invokestatic 59, 3) := by decide +kernel
theorem dX8_write_14 : decode cX8_write 14 = .ok (.ifCond .ne 6, 3) := by decide +kernel
theorem dX8_write_17 : decode cX8_write 17 = .ok (.bipush (-2), 2) := by decide +kernel
theorem dX8_write_19 : decode cX8_write 19 = .ok (.ireturn, 1) := by decide +kernel
theorem dX8_write_20 : decode cX8_write 20 = .ok (.aload_n 0, 1) := by decide +kernel
theorem dX8_write_21 : decode cX8_write 21 = .ok (.getfield 108, 3) := by decide +kernel
theorem dX8_write_24 : decode cX8_write 24 = .ok (.bipush 40, 2) := by decide +kernel
theorem dX8_write_26 : decode cX8_write 26 = .ok (.if_icmp .ne 6, 3) := by decide +kernel
theorem dX8_write_29 : decode cX8_write 29 = .ok (.bipush (-4), 2) := by decide +kernel
theorem dX8_write_31 : decode cX8_write 31 = .ok (.ireturn, 1) := by decide +kernel
theorem dX8_write_32 : decode cX8_write 32 = .ok (.aload_n 0, 1) := by decide +kernel
theorem dX8_write_33 : decode cX8_write 33 = .ok (.getfield 7, 3) := by decide +kernel
theorem dX8_write_36 : decode cX8_write 36 = .ok (.aload_n 0, 1) := by decide +kernel
theorem dX8_write_37 : decode cX8_write 37 = .ok (.getfield 108, 3) := by decide +kernel
theorem dX8_write_40 : decode cX8_write 40 = .ok (.iload_n 1, 1) := by decide +kernel
theorem dX8_write_41 : decode cX8_write 41 = .ok (.iastore, 1) := by decide +kernel
theorem dX8_write_42 : decode cX8_write 42 = .ok (.aload_n 0, 1) := by decide +kernel
theorem dX8_write_43 : decode cX8_write 43 = .ok (.dup, 1) := by decide +kernel
theorem dX8_write_44 : decode cX8_write 44 = .ok (.getfield 108, 3) := by decide +kernel
theorem dX8_write_47 : decode cX8_write 47 = .ok (.iconst 1, 1) := by decide +kernel
theorem dX8_write_48 : decode cX8_write 48 = .ok (.iadd, 1) := by decide +kernel
theorem dX8_write_49 : decode cX8_write 49 = .ok (.putfield 108, 3) := by decide +kernel
theorem dX8_write_52 : decode cX8_write 52 = .ok (.aload_n 0, 1) := by decide +kernel
theorem dX8_write_53 : decode cX8_write 53 = .ok (.getfield 108, 3) := by decide +kernel
theorem dX8_write_56 : decode cX8_write 56 = .ok (.ireturn, 1) := by decide +kernel
theorem dX8_wipe_0 : decode cX8_wipe 0 = .ok (.aload_n 0, 1) := by decide +kernel
theorem dX8_wipe_1 : decode cX8_wipe 1 = .ok (.iconst 0, 1) := by decide +kernel
theorem dX8_wipe_2 : decode cX8_wipe 2 = .ok (.putfield 47, 3) := by decide +kernel
theorem dX8_wipe_5 : decode cX8_wipe 5 = .ok (.aload_n 0, 1) := by decide +kernel
theorem dX8_wipe_6 : decode cX8_wipe 6 = .ok (.getfield 108, 3) := by decide +kernel
theorem dX8_wipe_9 : decode cX8_wipe 9 = .ok (.istore_n 1, 1) := by decide +kernel
theorem dX8_wipe_10 : decode cX8_wipe 10 = .ok (.aload_n 0, 1) := by decide +kernel
theorem dX8_wipe_11 : decode cX8_wipe 11 = .ok (.iconst 0, 1) := by decide +kernel
theorem dX8_wipe_12 : decode cX8_wipe 12 = .ok (.putfield 108, 3) := by decide +kernel
theorem dX8_wipe_15 : decode cX8_wipe 15 = .ok (.iload_n 1, 1) := by decide +kernel
theorem dX8_wipe_16 : decode cX8_wipe 16 = .ok (.ireturn, 1) := by decide +kernel
theorem dX8_letterAt_0 : decode cX8_letterAt 0 = .ok (.iload_n 1, 1) := by decide +kernel
theorem dX8_letterAt_1 : decode cX8_letterAt 1 = .ok (.aload_n 0, 1) := by decide +kernel
theorem dX8_letterAt_2 : decode cX8_letterAt 2 = .ok (.getfield 108, 3) := by decide +kernel
theorem dX8_letterAt_5 : decode cX8_letterAt 5 = .ok (.if_icmp .ge 12, 3) := by decide +kernel
theorem dX8_letterAt_8 : decode cX8_letterAt 8 = .ok (.aload_n 0, 1) := by decide +kernel
theorem dX8_letterAt_9 : decode cX8_letterAt 9 = .ok (.getfield 7, 3) := by decide +kernel
theorem dX8_letterAt_12 : decode cX8_letterAt 12 = .ok (.iload_n 1, 1) := by decide +kernel
theorem dX8_letterAt_13 : decode cX8_letterAt 13 = .ok (.iaload, 1) := by decide +kernel
theorem dX8_letterAt_14 : decode cX8_letterAt 14 = .ok (.goto 5, 3) := by decide +kernel
theorem dX8_letterAt_17 : decode cX8_letterAt 17 = .ok (.bipush (-9), 2) := by decide +kernel
theorem dX8_letterAt_19 : decode cX8_letterAt 19 = .ok (.ireturn, 1) := by decide +kernel
set_option maxRecDepth 20000 in
theorem ggX8_readPicture_X8_letterAt : GoodIn wsX8_readPicture wsX8_letterAt := goodIn_r _ [10, 5, 2, 17, 18, 19, 20, 21, 22, 23, 24, 25, 26, 27, 28, 29, 30, 31, 32, 33, 34, 35, 36, 37] (by decide +kernel) (by decide +kernel)
set_option maxRecDepth 20000 in
theorem gX8_readPicture_X8_letterAt : GoodIn wsX8_readPicture (wsV RX8 111 RX8 yX8_letterAt wsX8_letterAt) := goodIn_app (goodIn_of _ (by decide +kernel)) ggX8_readPicture_X8_letterAt
set_option maxRecDepth 20000 in
theorem ggX8_readPicture_X8_in : GoodIn wsX8_readPicture wsX8_in := goodIn_r _ [13] (by decide +kernel) (by decide +kernel)
set_option maxRecDepth 20000 in
theorem gX8_readPicture_X8_in : GoodIn wsX8_readPicture (va_wsS RX8 59 yX8_in wsX8_in) := goodIn_app (goodIn_of _ (by decide +kernel)) ggX8_readPicture_X8_in
set_option maxRecDepth 20000 in
theorem ggX8_readPicture_X8_dotsOf : GoodIn wsX8_readPicture wsX8_dotsOf := goodIn_r _ [16] (by decide +kernel) (by decide +kernel)
set_option maxRecDepth 20000 in
theorem gX8_readPicture_X8_dotsOf : GoodIn wsX8_readPicture (va_wsS RX8 55 yX8_dotsOf wsX8_dotsOf) := goodIn_app (goodIn_of _ (by decide +kernel)) ggX8_readPicture_X8_dotsOf
theorem dX8_readPicture_0 : decode cX8_readPicture 0 = .ok (.iconst 0, 1) := by decide +kernel
theorem dX8_readPicture_1 : decode cX8_readPicture 1 = .ok (.istore_n 1, 1) := by decide +kernel
theorem dX8_readPicture_2 : decode cX8_readPicture 2 = .ok (.iload_n 1, 1) := by decide +kernel
theorem dX8_readPicture_3 : decode cX8_readPicture 3 = .ok (.bipush 39, 2) := by decide +kernel
theorem dX8_readPicture_5 : decode cX8_readPicture 5 = .ok (.if_icmp .ge 16, 3) := by decide +kernel
theorem dX8_readPicture_8 : decode cX8_readPicture 8 = .ok (.aload_n 0, 1) := by decide +kernel
theorem dX8_readPicture_9 : decode cX8_readPicture 9 = .ok (.getfield 13, 3) := by decide +kernel
theorem dX8_readPicture_12 : decode cX8_readPicture 12 = .ok (.iload_n 1, 1) := by decide +kernel
theorem dX8_readPicture_13 : decode cX8_readPicture 13 = .ok (.iconst 0, 1) := by decide +kernel
theorem dX8_readPicture_14 : decode cX8_readPicture 14 = .ok (.iastore, 1) := by decide +kernel
theorem dX8_readPicture_15 : decode cX8_readPicture 15 = .ok (.iinc 1 1, 3) := by decide +kernel
theorem dX8_readPicture_18 : decode cX8_readPicture 18 = .ok (.goto (-16), 3) := by decide +kernel
theorem dX8_readPicture_21 : decode cX8_readPicture 21 = .ok (.aload_n 0, 1) := by decide +kernel
theorem dX8_readPicture_22 : decode cX8_readPicture 22 = .ok (.iconst 0, 1) := by decide +kernel
theorem dX8_readPicture_23 : decode cX8_readPicture 23 = .ok (.invokevirtual 111, 3) := by decide +kernel
theorem dX8_readPicture_26 : decode cX8_readPicture 26 = .ok (.bipush 80, 2) := by decide +kernel
theorem dX8_readPicture_28 : decode cX8_readPicture 28 = .ok (.if_icmp .eq 5, 3) := by decide +kernel
theorem dX8_readPicture_31 : decode cX8_readPicture 31 = .ok (.iconst 0, 1) := by decide +kernel
theorem dX8_readPicture_32 : decode cX8_readPicture 32 = .ok (.ireturn, 1) := by decide +kernel
theorem dX8_readPicture_33 : decode cX8_readPicture 33 = .ok (.aload_n 0, 1) := by decide +kernel
theorem dX8_readPicture_34 : decode cX8_readPicture 34 = .ok (.iconst 1, 1) := by decide +kernel
theorem dX8_readPicture_35 : decode cX8_readPicture 35 = .ok (.invokevirtual 111, 3) := by decide +kernel
theorem dX8_readPicture_38 : decode cX8_readPicture 38 = .ok (.bipush 52, 2) := by decide +kernel
theorem dX8_readPicture_40 : decode cX8_readPicture 40 = .ok (.if_icmp .eq 15, 3) := by decide +kernel
theorem dX8_readPicture_43 : decode cX8_readPicture 43 = .ok (.aload_n 0, 1) := by decide +kernel
theorem dX8_readPicture_44 : decode cX8_readPicture 44 = .ok (.iconst 1, 1) := by decide +kernel
theorem dX8_readPicture_45 : decode cX8_readPicture 45 = .ok (.invokevirtual 111, 3) := by decide +kernel
theorem dX8_readPicture_48 : decode cX8_readPicture 48 = .ok (.bipush 56, 2) := by decide +kernel
theorem dX8_readPicture_50 : decode cX8_readPicture 50 = .ok (.if_icmp .eq 5, 3) := by decide +kernel
theorem dX8_readPicture_53 : decode cX8_readPicture 53 = .ok (.iconst 1, 1) := by decide +kernel
theorem dX8_readPicture_54 : decode cX8_readPicture 54 = .ok (.ireturn, 1) := by decide +kernel
theorem dX8_readPicture_55 : decode cX8_readPicture 55 = .ok (.aload_n 0, 1) := by decide +kernel
theorem dX8_readPicture_56 : decode cX8_readPicture 56 = .ok (.getfield 13, 3) := by decide +kernel
theorem dX8_readPicture_59 : decode cX8_readPicture 59 = .ok (.iconst 0, 1) := by decide +kernel
theorem dX8_readPicture_60 : decode cX8_readPicture 60 = .ok (.aload_n 0, 1) := by decide +kernel
theorem dX8_readPicture_61 : decode cX8_readPicture 61 = .ok (.getfield 7, 3) := by decide +kernel
theorem dX8_readPicture_64 : decode cX8_readPicture 64 = .ok (.iconst 1, 1) := by decide +kernel
theorem dX8_readPicture_65 : decode cX8_readPicture 65 = .ok (.iaload, 1) := by decide +kernel
theorem dX8_readPicture_66 : decode cX8_readPicture 66 = .ok (.bipush 48, 2) := by decide +kernel
theorem dX8_readPicture_68 : decode cX8_readPicture 68 = .ok (.isub, 1) := by decide +kernel
theorem dX8_readPicture_69 : decode cX8_readPicture 69 = .ok (.iastore, 1) := by decide +kernel
theorem dX8_readPicture_70 : decode cX8_readPicture 70 = .ok (.iconst 1, 1) := by decide +kernel
theorem dX8_readPicture_71 : decode cX8_readPicture 71 = .ok (.istore_n 1, 1) := by decide +kernel
theorem dX8_readPicture_72 : decode cX8_readPicture 72 = .ok (.iload_n 1, 1) := by decide +kernel
theorem dX8_readPicture_73 : decode cX8_readPicture 73 = .ok (.iconst 3, 1) := by decide +kernel
theorem dX8_readPicture_74 : decode cX8_readPicture 74 = .ok (.if_icmp .ge 46, 3) := by decide +kernel
theorem dX8_readPicture_77 : decode cX8_readPicture 77 = .ok (.aload_n 0, 1) := by decide +kernel
theorem dX8_readPicture_78 : decode cX8_readPicture 78 = .ok (.getfield 13, 3) := by decide +kernel
theorem dX8_readPicture_81 : decode cX8_readPicture 81 = .ok (.iload_n 1, 1) := by decide +kernel
theorem dX8_readPicture_82 : decode cX8_readPicture 82 = .ok (.aload_n 0, 1) := by decide +kernel
theorem dX8_readPicture_83 : decode cX8_readPicture 83 = .ok (.iload_n 1, 1) := by decide +kernel
theorem dX8_readPicture_84 : decode cX8_readPicture 84 = .ok (.iconst 1, 1) := by decide +kernel
theorem dX8_readPicture_85 : decode cX8_readPicture 85 = .ok (.iadd, 1) := by decide +kernel
theorem dX8_readPicture_86 : decode cX8_readPicture 86 = .ok (.invokevirtual 111, 3) := by decide +kernel
theorem dX8_readPicture_89 : decode cX8_readPicture 89 = .ok (.bipush 48, 2) := by decide +kernel
theorem dX8_readPicture_91 : decode cX8_readPicture 91 = .ok (.isub, 1) := by decide +kernel
theorem dX8_readPicture_92 : decode cX8_readPicture 92 = .ok (.iastore, 1) := by decide +kernel
theorem dX8_readPicture_93 : decode cX8_readPicture 93 = .ok (.aload_n 0, 1) := by decide +kernel
theorem dX8_readPicture_94 : decode cX8_readPicture 94 = .ok (.getfield 13, 3) := by decide +kernel
theorem dX8_readPicture_97 : decode cX8_readPicture 97 = .ok (.iload_n 1, 1) := by decide +kernel
theorem dX8_readPicture_98 : decode cX8_readPicture 98 = .ok (.iaload, 1) := by decide +kernel
theorem dX8_readPicture_99 : decode cX8_readPicture 99 = .ok (.i2l, 1) := by decide +kernel
theorem dX8_readPicture_100 : decode cX8_readPicture 100 = .ok (.lconst 1, 1) := by decide +kernel
theorem dX8_readPicture_101 : decode cX8_readPicture 101 = .ok (.ldc2_w 115, 3) := by decide +kernel
theorem dX8_readPicture_104 : decode cX8_readPicture 104 = .ok (.invokestatic 59, 3) := by decide +kernel
theorem dX8_readPicture_107 : decode cX8_readPicture 107 = .ok (.ifCond .ne 7, 3) := by decide +kernel
theorem dX8_readPicture_110 : decode cX8_readPicture 110 = .ok (.iload_n 1, 1) := by decide +kernel
theorem dX8_readPicture_111 : decode cX8_readPicture 111 = .ok (.iconst 1, 1) := by decide +kernel
theorem dX8_readPicture_112 : decode cX8_readPicture 112 = .ok (.iadd, 1) := by decide +kernel
theorem dX8_readPicture_113 : decode cX8_readPicture 113 = .ok (.ireturn, 1) := by decide +kernel
theorem dX8_readPicture_114 : decode cX8_readPicture 114 = .ok (.iinc 1 1, 3) := by decide +kernel
theorem dX8_readPicture_117 : decode cX8_readPicture 117 = .ok (.goto (-45), 3) := by decide +kernel
theorem dX8_readPicture_120 : decode cX8_readPicture 120 = .ok (.aload_n 0, 1) := by decide +kernel
theorem dX8_readPicture_121 : decode cX8_readPicture 121 = .ok (.getfield 13, 3) := by decide +kernel
theorem dX8_readPicture_124 : decode cX8_readPicture 124 = .ok (.invokestatic 55, 3) := by decide +kernel
theorem dX8_readPicture_127 : decode cX8_readPicture 127 = .ok (.istore_n 1, 1) := by decide +kernel
theorem dX8_readPicture_128 : decode cX8_readPicture 128 = .ok (.iconst 0, 1) := by decide +kernel
theorem dX8_readPicture_129 : decode cX8_readPicture 129 = .ok (.istore_n 2, 1) := by decide +kernel
theorem dX8_readPicture_130 : decode cX8_readPicture 130 = .ok (.iload_n 2, 1) := by decide +kernel
theorem dX8_readPicture_131 : decode cX8_readPicture 131 = .ok (.iload_n 1, 1) := by decide +kernel
theorem dX8_readPicture_132 : decode cX8_readPicture 132 = .ok (.if_icmp .ge 50, 3) := by decide +kernel
theorem dX8_readPicture_135 : decode cX8_readPicture 135 = .ok (.aload_n 0, 1) := by decide +kernel
theorem dX8_readPicture_136 : decode cX8_readPicture 136 = .ok (.getfield 13, 3) := by decide +kernel
theorem dX8_readPicture_139 : decode cX8_readPicture 139 = .ok (.iconst 3, 1) := by decide +kernel
theorem dX8_readPicture_140 : decode cX8_readPicture 140 = .ok (.iload_n 2, 1) := by decide +kernel
theorem dX8_readPicture_141 : decode cX8_readPicture 141 = .ok (.iadd, 1) := by decide +kernel
theorem dX8_readPicture_142 : decode cX8_readPicture 142 = .ok (.aload_n 0, 1) := by decide +kernel
theorem dX8_readPicture_143 : decode cX8_readPicture 143 = .ok (.iconst 4, 1) := by decide +kernel
theorem dX8_readPicture_144 : decode cX8_readPicture 144 = .ok (.iload_n 2, 1) := by decide +kernel
theorem dX8_readPicture_145 : decode cX8_readPicture 145 = .ok (.iadd, 1) := by decide +kernel
theorem dX8_readPicture_146 : decode cX8_readPicture 146 = .ok (.invokevirtual 111, 3) := by decide +kernel
theorem dX8_readPicture_149 : decode cX8_readPicture 149 = .ok (.bipush 48, 2) := by decide +kernel
theorem dX8_readPicture_151 : decode cX8_readPicture 151 = .ok (.isub, 1) := by decide +kernel
theorem dX8_readPicture_152 : decode cX8_readPicture 152 = .ok (.iastore, 1) := by decide +kernel
theorem dX8_readPicture_153 : decode cX8_readPicture 153 = .ok (.aload_n 0, 1) := by decide +kernel
theorem dX8_readPicture_154 : decode cX8_readPicture 154 = .ok (.getfield 13, 3) := by decide +kernel
theorem dX8_readPicture_157 : decode cX8_readPicture 157 = .ok (.iconst 3, 1) := by decide +kernel
theorem dX8_readPicture_158 : decode cX8_readPicture 158 = .ok (.iload_n 2, 1) := by decide +kernel
theorem dX8_readPicture_159 : decode cX8_readPicture 159 = .ok (.iadd, 1) := by decide +kernel
theorem dX8_readPicture_160 : decode cX8_readPicture 160 = .ok (.iaload, 1) := by decide +kernel
theorem dX8_readPicture_161 : decode cX8_readPicture 161 = .ok (.i2l, 1) := by decide +kernel
theorem dX8_readPicture_162 : decode cX8_readPicture 162 = .ok (.lconst 0, 1) := by decide +kernel
theorem dX8_readPicture_163 : decode cX8_readPicture 163 = .ok (.ldc2_w 117, 3) := by decide +kernel
theorem dX8_readPicture_166 : decode cX8_readPicture 166 = .ok (.invokestatic 59, 3) := by decide +kernel
theorem dX8_readPicture_169 : decode cX8_readPicture 169 = .ok (.ifCond .ne 7, 3) := by decide +kernel
theorem dX8_readPicture_172 : decode cX8_readPicture 172 = .ok (.iconst 4, 1) := by decide +kernel
theorem dX8_readPicture_173 : decode cX8_readPicture 173 = .ok (.iload_n 2, 1) := by decide +kernel
theorem dX8_readPicture_174 : decode cX8_readPicture 174 = .ok (.iadd, 1) := by decide +kernel
theorem dX8_readPicture_175 : decode cX8_readPicture 175 = .ok (.ireturn, 1) := by decide +kernel
theorem dX8_readPicture_176 : decode cX8_readPicture 176 = .ok (.iinc 2 1, 3) := by decide +kernel
theorem dX8_readPicture_179 : decode cX8_readPicture 179 = .ok (.goto (-49), 3) := by decide +kernel
theorem dX8_readPicture_182 : decode cX8_readPicture 182 = .ok (.aload_n 0, 1) := by decide +kernel
theorem dX8_readPicture_183 : decode cX8_readPicture 183 = .ok (.getfield 108, 3) := by decide +kernel
theorem dX8_readPicture_186 : decode cX8_readPicture 186 = .ok (.iconst 4, 1) := by decide +kernel
theorem dX8_readPicture_187 : decode cX8_readPicture 187 = .ok (.iload_n 1, 1) := by decide +kernel
theorem dX8_readPicture_188 : decode cX8_readPicture 188 = .ok (.iadd, 1) := by decide +kernel
theorem dX8_readPicture_189 : decode cX8_readPicture 189 = .ok (.if_icmp .ne 8, 3) := by decide +kernel
theorem dX8_readPicture_192 : decode cX8_readPicture 192 = .ok (.bipush (-9), 2) := by decide +kernel
theorem dX8_readPicture_194 : decode cX8_readPicture 194 = .ok (.goto 6, 3) := by decide +kernel
theorem dX8_readPicture_197 : decode cX8_readPicture 197 = .ok (.iconst 4, 1) := by decide +kernel
theorem dX8_readPicture_198 : decode cX8_readPicture 198 = .ok (.iload_n 1, 1) := by decide +kernel
theorem dX8_readPicture_199 : decode cX8_readPicture 199 = .ok (.iadd, 1) := by decide +kernel
theorem dX8_readPicture_200 : decode cX8_readPicture 200 = .ok (.ireturn, 1) := by decide +kernel
set_option maxRecDepth 20000 in
theorem ggX8_fault_X8_readPicture : GoodIn wsX8_fault wsX8_readPicture := goodIn_r _ [6, 7, 8, 9, 10, 11, 12, 13, 14, 5, 15, 16, 17, 18, 19, 20, 21, 22, 23, 24, 25, 26, 27, 28, 29, 30, 31, 32, 33, 34, 35, 36, 37, 38, 39, 40, 41, 42] (by decide +kernel) (by decide +kernel)
set_option maxRecDepth 20000 in
theorem gX8_fault_X8_readPicture : GoodIn wsX8_fault (wsV RX8 119 RX8 yX8_readPicture wsX8_readPicture) := goodIn_app (goodIn_of _ (by decide +kernel)) ggX8_fault_X8_readPicture
theorem dX8_fault_0 : decode cX8_fault 0 = .ok (.aload_n 0, 1) := by decide +kernel
theorem dX8_fault_1 : decode cX8_fault 1 = .ok (.iconst 0, 1) := by decide +kernel
theorem dX8_fault_2 : decode cX8_fault 2 = .ok (.putfield 47, 3) := by decide +kernel
theorem dX8_fault_5 : decode cX8_fault 5 = .ok (.aload_n 0, 1) := by decide +kernel
theorem dX8_fault_6 : decode cX8_fault 6 = .ok (.invokevirtual 119, 3) := by decide +kernel
theorem dX8_fault_9 : decode cX8_fault 9 = .ok (.ireturn, 1) := by decide +kernel
set_option maxRecDepth 20000 in
theorem ggX8_picture_X8_readPicture : GoodIn wsX8_picture wsX8_readPicture := goodIn_r _ [10, 3, 11, 12, 13, 14, 15, 16, 17, 9, 18, 19, 20, 21, 22, 23, 24, 59, 60, 61, 62, 63, 64, 65, 66, 67, 68, 69, 70, 71, 72, 73, 74, 75, 76, 77, 78, 79] (by decide +kernel) (by decide +kernel)
set_option maxRecDepth 20000 in
theorem gX8_picture_X8_readPicture : GoodIn wsX8_picture (wsV RX8 119 RX8 yX8_readPicture wsX8_readPicture) := goodIn_app (goodIn_of _ (by decide +kernel)) ggX8_picture_X8_readPicture
set_option maxRecDepth 20000 in
theorem ggX8_picture_X8_nodes : GoodIn wsX8_picture wsX8_nodes := goodIn_r _ [27, 22, 23, 9, 24, 28, 29, 30, 31, 32, 33, 34, 35, 36, 37, 38, 39, 40, 41, 42, 43, 44, 45, 46, 47, 48, 49, 50, 51, 52, 53, 54, 55, 56, 57, 58] (by decide +kernel) (by decide +kernel)
set_option maxRecDepth 20000 in
theorem gX8_picture_X8_nodes : GoodIn wsX8_picture (va_wsS RX8 126 yX8_nodes wsX8_nodes) := goodIn_app (goodIn_of _ (by decide +kernel)) ggX8_picture_X8_nodes
theorem dX8_picture_0 : decode cX8_picture 0 = .ok (.aload_n 0, 1) := by decide +kernel
theorem dX8_picture_1 : decode cX8_picture 1 = .ok (.iconst 0, 1) := by decide +kernel
theorem dX8_picture_2 : decode cX8_picture 2 = .ok (.putfield 47, 3) := by decide +kernel
theorem dX8_picture_5 : decode cX8_picture 5 = .ok (.aload_n 0, 1) := by decide +kernel
theorem dX8_picture_6 : decode cX8_picture 6 = .ok (.invokevirtual 119, 3) := by decide +kernel
theorem dX8_picture_9 : decode cX8_picture 9 = .ok (.bipush (-9), 2) := by decide +kernel
theorem dX8_picture_11 : decode cX8_picture 11 = .ok (.if_icmp .eq 6, 3) := by decide +kernel
theorem dX8_picture_14 : decode cX8_picture 14 = .ok (.bipush (-3), 2) := by decide +kernel
theorem dX8_picture_16 : decode cX8_picture 16 = .ok (.ireturn, 1) := by decide +kernel
theorem dX8_picture_17 : decode cX8_picture 17 = .ok (.iconst 0, 1) := by decide +kernel
theorem dX8_picture_18 : decode cX8_picture 18 = .ok (.istore_n 1, 1) := by decide +kernel
theorem dX8_picture_19 : decode cX8_picture 19 = .ok (.iload_n 1, 1) := by decide +kernel
theorem dX8_picture_20 : decode cX8_picture 20 = .ok (.bipush 39, 2) := by decide +kernel
theorem dX8_picture_22 : decode cX8_picture 22 = .ok (.if_icmp .ge 21, 3) := by decide +kernel
theorem dX8_picture_25 : decode cX8_picture 25 = .ok (.aload_n 0, 1) := by decide +kernel
theorem dX8_picture_26 : decode cX8_picture 26 = .ok (.getfield 16, 3) := by decide +kernel
theorem dX8_picture_29 : decode cX8_picture 29 = .ok (.iload_n 1, 1) := by decide +kernel
theorem dX8_picture_30 : decode cX8_picture 30 = .ok (.aload_n 0, 1) := by decide +kernel
theorem dX8_picture_31 : decode cX8_picture 31 = .ok (.getfield 13, 3) := by decide +kernel
theorem dX8_picture_34 : decode cX8_picture 34 = .ok (.iload_n 1, 1) := by decide +kernel
theorem dX8_picture_35 : decode cX8_picture 35 = .ok (.iaload, 1) := by decide +kernel
theorem dX8_picture_36 : decode cX8_picture 36 = .ok (.iastore, 1) := by decide +kernel
theorem dX8_picture_37 : decode cX8_picture 37 = .ok (.iinc 1 1, 3) := by decide +kernel
theorem dX8_picture_40 : decode cX8_picture 40 = .ok (.goto (-21), 3) := by decide +kernel
theorem dX8_picture_43 : decode cX8_picture 43 = .ok (.aload_n 0, 1) := by decide +kernel
theorem dX8_picture_44 : decode cX8_picture 44 = .ok (.iconst 0, 1) := by decide +kernel
theorem dX8_picture_45 : decode cX8_picture 45 = .ok (.putfield 123, 3) := by decide +kernel
theorem dX8_picture_48 : decode cX8_picture 48 = .ok (.aload_n 0, 1) := by decide +kernel
theorem dX8_picture_49 : decode cX8_picture 49 = .ok (.getfield 31, 3) := by decide +kernel
theorem dX8_picture_52 : decode cX8_picture 52 = .ok (.iconst 0, 1) := by decide +kernel
theorem dX8_picture_53 : decode cX8_picture 53 = .ok (.iconst 0, 1) := by decide +kernel
theorem dX8_picture_54 : decode cX8_picture 54 = .ok (.bastore, 1) := by decide +kernel
theorem dX8_picture_55 : decode cX8_picture 55 = .ok (.aload_n 0, 1) := by decide +kernel
theorem dX8_picture_56 : decode cX8_picture 56 = .ok (.getfield 31, 3) := by decide +kernel
theorem dX8_picture_59 : decode cX8_picture 59 = .ok (.iconst 1, 1) := by decide +kernel
theorem dX8_picture_60 : decode cX8_picture 60 = .ok (.iconst 0, 1) := by decide +kernel
theorem dX8_picture_61 : decode cX8_picture 61 = .ok (.bastore, 1) := by decide +kernel
theorem dX8_picture_62 : decode cX8_picture 62 = .ok (.aload_n 0, 1) := by decide +kernel
theorem dX8_picture_63 : decode cX8_picture 63 = .ok (.getfield 16, 3) := by decide +kernel
theorem dX8_picture_66 : decode cX8_picture 66 = .ok (.invokestatic 126, 3) := by decide +kernel
theorem dX8_picture_69 : decode cX8_picture 69 = .ok (.ireturn, 1) := by decide +kernel
set_option maxRecDepth 20000 in
theorem ggX8_leaves_X8_dotsOf : GoodIn wsX8_leaves wsX8_dotsOf := goodIn_r _ [6] (by decide +kernel) (by decide +kernel)
set_option maxRecDepth 20000 in
theorem gX8_leaves_X8_dotsOf : GoodIn wsX8_leaves (va_wsS RX8 55 yX8_dotsOf wsX8_dotsOf) := goodIn_app (goodIn_of _ (by decide +kernel)) ggX8_leaves_X8_dotsOf
set_option maxRecDepth 20000 in
theorem ggX8_leaves_X8_isHead : GoodIn wsX8_leaves wsX8_isHead := goodIn_r _ [9, 10, 11, 5, 12, 13, 14, 15, 2, 16, 17, 18, 3, 4, 6, 19, 20, 21, 22, 23, 24, 25, 26, 27, 28, 29, 30, 31, 32, 33, 34, 35, 36] (by decide +kernel) (by decide +kernel)
set_option maxRecDepth 20000 in
theorem gX8_leaves_X8_isHead : GoodIn wsX8_leaves (va_wsS RX8 95 yX8_isHead wsX8_isHead) := goodIn_app (goodIn_of _ (by decide +kernel)) ggX8_leaves_X8_isHead
set_option maxRecDepth 20000 in
theorem ggX8_leaves_X8_nodeOf : GoodIn wsX8_leaves wsX8_nodeOf := goodIn_r _ [12, 13, 14, 5, 15, 2, 16, 17, 18, 3, 4, 6, 19, 20, 21, 22, 23, 24, 25, 26, 27, 28, 29, 30] (by decide +kernel) (by decide +kernel)
set_option maxRecDepth 20000 in
theorem gX8_leaves_X8_nodeOf : GoodIn wsX8_leaves (va_wsS RX8 91 yX8_nodeOf wsX8_nodeOf) := goodIn_app (goodIn_of _ (by decide +kernel)) ggX8_leaves_X8_nodeOf
set_option maxRecDepth 20000 in
theorem ggX8_leaves_X8_parent : GoodIn wsX8_leaves wsX8_parent := goodIn_r _ [39, 31, 32, 5, 33, 34, 35, 36, 3, 4, 6, 19, 20, 21, 13, 14, 15, 2, 16, 17, 18, 22, 23, 24, 25, 26, 27, 28, 29, 30] (by decide +kernel) (by decide +kernel)
set_option maxRecDepth 20000 in
theorem gX8_leaves_X8_parent : GoodIn wsX8_leaves (va_wsS RX8 99 yX8_parent wsX8_parent) := goodIn_app (goodIn_of _ (by decide +kernel)) ggX8_leaves_X8_parent
set_option maxRecDepth 20000 in
theorem ggX8_leaves_X8_head : GoodIn wsX8_leaves wsX8_head := goodIn_r _ [33, 34, 35, 5, 36, 3, 4, 6, 19, 20, 21] (by decide +kernel) (by decide +kernel)
set_option maxRecDepth 20000 in
theorem gX8_leaves_X8_head : GoodIn wsX8_leaves (va_wsS RX8 88 yX8_head wsX8_head) := goodIn_app (goodIn_of _ (by decide +kernel)) ggX8_leaves_X8_head
set_option maxRecDepth 20000 in
theorem ggX8_leaves_X8_many : GoodIn wsX8_leaves wsX8_many := goodIn_r _ [42, 19, 20, 5, 21] (by decide +kernel) (by decide +kernel)
set_option maxRecDepth 20000 in
theorem gX8_leaves_X8_many : GoodIn wsX8_leaves (va_wsS RX8 129 yX8_many wsX8_many) := goodIn_app (goodIn_of _ (by decide +kernel)) ggX8_leaves_X8_many
theorem dX8_leaves_0 : decode cX8_leaves 0 = .ok (.lconst 0, 1) := by decide +kernel
theorem dX8_leaves_1 : decode cX8_leaves 1 = .ok (.lstore_n 1, 1) := by decide +kernel
theorem dX8_leaves_2 : decode cX8_leaves 2 = .ok (.iconst 0, 1) := by decide +kernel
theorem dX8_leaves_3 : decode cX8_leaves 3 = .ok (.istore_n 3, 1) := by decide +kernel
theorem dX8_leaves_4 : decode cX8_leaves 4 = .ok (.iload_n 3, 1) := by decide +kernel
theorem dX8_leaves_5 : decode cX8_leaves 5 = .ok (.aload_n 0, 1) := by decide +kernel
theorem dX8_leaves_6 : decode cX8_leaves 6 = .ok (.getfield 16, 3) := by decide +kernel
theorem dX8_leaves_9 : decode cX8_leaves 9 = .ok (.invokestatic 55, 3) := by decide +kernel
theorem dX8_leaves_12 : decode cX8_leaves 12 = .ok (.if_icmp .ge 30, 3) := by decide +kernel
theorem dX8_leaves_15 : decode cX8_leaves 15 = .ok (.lload_n 1, 1) := by decide +kernel
theorem dX8_leaves_16 : decode cX8_leaves 16 = .ok (.aload_n 0, 1) := by decide +kernel
theorem dX8_leaves_17 : decode cX8_leaves 17 = .ok (.getfield 16, 3) := by decide +kernel
theorem dX8_leaves_20 : decode cX8_leaves 20 = .ok (.iload_n 3, 1) := by decide +kernel
theorem dX8_leaves_21 : decode cX8_leaves 21 = .ok (.invokestatic 95, 3) := by decide +kernel
theorem dX8_leaves_24 : decode cX8_leaves 24 = .ok (.ifCond .eq 9, 3) := by decide +kernel
theorem dX8_leaves_27 : decode cX8_leaves 27 = .ok (.lconst 1, 1) := by decide +kernel
theorem dX8_leaves_28 : decode cX8_leaves 28 = .ok (.iload_n 3, 1) := by decide +kernel
theorem dX8_leaves_29 : decode cX8_leaves 29 = .ok (.lshl, 1) := by decide +kernel
theorem dX8_leaves_30 : decode cX8_leaves 30 = .ok (.goto 4, 3) := by decide +kernel
theorem dX8_leaves_33 : decode cX8_leaves 33 = .ok (.lconst 0, 1) := by decide +kernel
theorem dX8_leaves_34 : decode cX8_leaves 34 = .ok (.lor, 1) := by decide +kernel
theorem dX8_leaves_35 : decode cX8_leaves 35 = .ok (.lstore_n 1, 1) := by decide +kernel
theorem dX8_leaves_36 : decode cX8_leaves 36 = .ok (.iinc 3 1, 3) := by decide +kernel
theorem dX8_leaves_39 : decode cX8_leaves 39 = .ok (.goto (-35), 3) := by decide +kernel
theorem dX8_leaves_42 : decode cX8_leaves 42 = .ok (.iconst 0, 1) := by decide +kernel
theorem dX8_leaves_43 : decode cX8_leaves 43 = .ok (.istore_n 3, 1) := by decide +kernel
theorem dX8_leaves_44 : decode cX8_leaves 44 = .ok (.iload_n 3, 1) := by decide +kernel
theorem dX8_leaves_45 : decode cX8_leaves 45 = .ok (.aload_n 0, 1) := by decide +kernel
theorem dX8_leaves_46 : decode cX8_leaves 46 = .ok (.getfield 16, 3) := by decide +kernel
theorem dX8_leaves_49 : decode cX8_leaves 49 = .ok (.invokestatic 55, 3) := by decide +kernel
theorem dX8_leaves_52 : decode cX8_leaves 52 = .ok (.if_icmp .ge 62, 3) := by decide +kernel
theorem dX8_leaves_55 : decode cX8_leaves 55 = .ok (.aload_n 0, 1) := by decide +kernel
theorem dX8_leaves_56 : decode cX8_leaves 56 = .ok (.getfield 16, 3) := by decide +kernel
theorem dX8_leaves_59 : decode cX8_leaves 59 = .ok (.iload_n 3, 1) := by decide +kernel
theorem dX8_leaves_60 : decode cX8_leaves 60 = .ok (.invokestatic 91, 3) := by decide +kernel
theorem dX8_leaves_63 : decode cX8_leaves 63 = .ok (.lstore 4, 2) := by decide +kernel
theorem dX8_leaves_65 : decode cX8_leaves 65 = .ok (.aload_n 0, 1) := by decide +kernel
theorem dX8_leaves_66 : decode cX8_leaves 66 = .ok (.getfield 16, 3) := by decide +kernel
theorem dX8_leaves_69 : decode cX8_leaves 69 = .ok (.lload 4, 2) := by decide +kernel
theorem dX8_leaves_71 : decode cX8_leaves 71 = .ok (.invokestatic 99, 3) := by decide +kernel
theorem dX8_leaves_74 : decode cX8_leaves 74 = .ok (.lstore 6, 2) := by decide +kernel
theorem dX8_leaves_76 : decode cX8_leaves 76 = .ok (.lload_n 1, 1) := by decide +kernel
theorem dX8_leaves_77 : decode cX8_leaves 77 = .ok (.lload 6, 2) := by decide +kernel
theorem dX8_leaves_79 : decode cX8_leaves 79 = .ok (.lload 4, 2) := by decide +kernel
theorem dX8_leaves_81 : decode cX8_leaves 81 = .ok (.lcmp, 1) := by decide +kernel
theorem dX8_leaves_82 : decode cX8_leaves 82 = .ok (.ifCond .ne 9, 3) := by decide +kernel
theorem dX8_leaves_85 : decode cX8_leaves 85 = .ok (.ldc2_w 67, 3) := by decide +kernel
theorem dX8_leaves_88 : decode cX8_leaves 88 = .ok (.goto 18, 3) := by decide +kernel
theorem dX8_leaves_91 : decode cX8_leaves 91 = .ok (.lconst 1, 1) := by decide +kernel
theorem dX8_leaves_92 : decode cX8_leaves 92 = .ok (.aload_n 0, 1) := by decide +kernel
theorem dX8_leaves_93 : decode cX8_leaves 93 = .ok (.getfield 16, 3) := by decide +kernel
theorem dX8_leaves_96 : decode cX8_leaves 96 = .ok (.lload 6, 2) := by decide +kernel
theorem dX8_leaves_98 : decode cX8_leaves 98 = .ok (.invokestatic 88, 3) := by decide +kernel
theorem dX8_leaves_101 : decode cX8_leaves 101 = .ok (.lshl, 1) := by decide +kernel
theorem dX8_leaves_102 : decode cX8_leaves 102 = .ok (.ldc2_w 67, 3) := by decide +kernel
theorem dX8_leaves_105 : decode cX8_leaves 105 = .ok (.lxor, 1) := by decide +kernel
theorem dX8_leaves_106 : decode cX8_leaves 106 = .ok (.land, 1) := by decide +kernel
theorem dX8_leaves_107 : decode cX8_leaves 107 = .ok (.lstore_n 1, 1) := by decide +kernel
theorem dX8_leaves_108 : decode cX8_leaves 108 = .ok (.iinc 3 1, 3) := by decide +kernel
theorem dX8_leaves_111 : decode cX8_leaves 111 = .ok (.goto (-67), 3) := by decide +kernel
theorem dX8_leaves_114 : decode cX8_leaves 114 = .ok (.lload_n 1, 1) := by decide +kernel
theorem dX8_leaves_115 : decode cX8_leaves 115 = .ok (.invokestatic 129, 3) := by decide +kernel
theorem dX8_leaves_118 : decode cX8_leaves 118 = .ok (.ireturn, 1) := by decide +kernel
set_option maxRecDepth 20000 in
theorem ggX8_deepest_X8_dotsOf : GoodIn wsX8_deepest wsX8_dotsOf := goodIn_r _ [5] (by decide +kernel) (by decide +kernel)
set_option maxRecDepth 20000 in
theorem gX8_deepest_X8_dotsOf : GoodIn wsX8_deepest (va_wsS RX8 55 yX8_dotsOf wsX8_dotsOf) := goodIn_app (goodIn_of _ (by decide +kernel)) ggX8_deepest_X8_dotsOf
set_option maxRecDepth 20000 in
theorem ggX8_deepest_X8_nodeOf : GoodIn wsX8_deepest wsX8_nodeOf := goodIn_r _ [8, 9, 10, 4, 11, 12, 13, 14, 15, 2, 3, 5, 16, 17, 18, 19, 20, 21, 22, 23, 24, 25, 26, 27] (by decide +kernel) (by decide +kernel)
set_option maxRecDepth 20000 in
theorem gX8_deepest_X8_nodeOf : GoodIn wsX8_deepest (va_wsS RX8 91 yX8_nodeOf wsX8_nodeOf) := goodIn_app (goodIn_of _ (by decide +kernel)) ggX8_deepest_X8_nodeOf
set_option maxRecDepth 20000 in
theorem ggX8_deepest_X8_depth : GoodIn wsX8_deepest wsX8_depth := goodIn_r _ [30, 31, 32, 4, 33, 34, 35, 36, 37, 38, 39, 2, 3, 5, 16, 17, 18, 9, 10, 11, 12, 13, 14, 15, 19, 20, 21, 22, 23, 24, 25, 26, 27] (by decide +kernel) (by decide +kernel)
set_option maxRecDepth 20000 in
theorem gX8_deepest_X8_depth : GoodIn wsX8_deepest (va_wsS RX8 133 yX8_depth wsX8_depth) := goodIn_app (goodIn_of _ (by decide +kernel)) ggX8_deepest_X8_depth
theorem dX8_deepest_0 : decode cX8_deepest 0 = .ok (.iconst 0, 1) := by decide +kernel
theorem dX8_deepest_1 : decode cX8_deepest 1 = .ok (.istore_n 1, 1) := by decide +kernel
theorem dX8_deepest_2 : decode cX8_deepest 2 = .ok (.iconst 0, 1) := by decide +kernel
theorem dX8_deepest_3 : decode cX8_deepest 3 = .ok (.istore_n 2, 1) := by decide +kernel
theorem dX8_deepest_4 : decode cX8_deepest 4 = .ok (.iload_n 2, 1) := by decide +kernel
theorem dX8_deepest_5 : decode cX8_deepest 5 = .ok (.aload_n 0, 1) := by decide +kernel
theorem dX8_deepest_6 : decode cX8_deepest 6 = .ok (.getfield 16, 3) := by decide +kernel
theorem dX8_deepest_9 : decode cX8_deepest 9 = .ok (.invokestatic 55, 3) := by decide +kernel
theorem dX8_deepest_12 : decode cX8_deepest 12 = .ok (.if_icmp .ge 36, 3) := by decide +kernel
theorem dX8_deepest_15 : decode cX8_deepest 15 = .ok (.aload_n 0, 1) := by decide +kernel
theorem dX8_deepest_16 : decode cX8_deepest 16 = .ok (.getfield 16, 3) := by decide +kernel
theorem dX8_deepest_19 : decode cX8_deepest 19 = .ok (.aload_n 0, 1) := by decide +kernel
theorem dX8_deepest_20 : decode cX8_deepest 20 = .ok (.getfield 16, 3) := by decide +kernel
theorem dX8_deepest_23 : decode cX8_deepest 23 = .ok (.iload_n 2, 1) := by decide +kernel
theorem dX8_deepest_24 : decode cX8_deepest 24 = .ok (.invokestatic 91, 3) := by decide +kernel
theorem dX8_deepest_27 : decode cX8_deepest 27 = .ok (.invokestatic 133, 3) := by decide +kernel
theorem dX8_deepest_30 : decode cX8_deepest 30 = .ok (.istore_n 3, 1) := by decide +kernel
theorem dX8_deepest_31 : decode cX8_deepest 31 = .ok (.iload_n 3, 1) := by decide +kernel
theorem dX8_deepest_32 : decode cX8_deepest 32 = .ok (.iload_n 1, 1) := by decide +kernel
theorem dX8_deepest_33 : decode cX8_deepest 33 = .ok (.if_icmp .le 7, 3) := by decide +kernel
theorem dX8_deepest_36 : decode cX8_deepest 36 = .ok (.iload_n 3, 1) := by decide +kernel
theorem dX8_deepest_37 : decode cX8_deepest 37 = .ok (.goto 4, 3) := by decide +kernel
theorem dX8_deepest_40 : decode cX8_deepest 40 = .ok (.iload_n 1, 1) := by decide +kernel
theorem dX8_deepest_41 : decode cX8_deepest 41 = .ok (.istore_n 1, 1) := by decide +kernel
theorem dX8_deepest_42 : decode cX8_deepest 42 = .ok (.iinc 2 1, 3) := by decide +kernel
theorem dX8_deepest_45 : decode cX8_deepest 45 = .ok (.goto (-41), 3) := by decide +kernel
theorem dX8_deepest_48 : decode cX8_deepest 48 = .ok (.iload_n 1, 1) := by decide +kernel
theorem dX8_deepest_49 : decode cX8_deepest 49 = .ok (.ireturn, 1) := by decide +kernel
set_option maxRecDepth 20000 in
theorem ggX8_about_X8_nodes : GoodIn wsX8_about wsX8_nodes := goodIn_r _ [10, 11, 12, 9, 13, 14, 15, 16, 17, 18, 19, 20, 21, 22, 3, 23, 24, 25, 26, 27, 28, 29, 30, 31, 32, 33, 34, 35, 36, 37, 38, 39, 40, 41, 42, 43] (by decide +kernel) (by decide +kernel)
set_option maxRecDepth 20000 in
theorem gX8_about_X8_nodes : GoodIn wsX8_about (va_wsS RX8 126 yX8_nodes wsX8_nodes) := goodIn_app (goodIn_of _ (by decide +kernel)) ggX8_about_X8_nodes
set_option maxRecDepth 20000 in
theorem ggX8_about_X8_leaves : GoodIn wsX8_about wsX8_leaves := goodIn_r _ [47, 2, 3, 11, 12, 9, 13, 14, 15, 16, 17, 18, 19, 20, 21, 22, 23, 24, 25, 26, 27, 28, 29, 30, 31, 32, 33, 34, 35, 36, 37, 38, 39, 40, 41, 42, 43, 48, 49, 50, 51, 52, 53, 64, 65, 66, 67, 68, 69, 70, 71, 72, 73, 74, 75, 76, 77, 78, 79, 80, 81, 82, 83, 84] (by decide +kernel) (by decide +kernel)
set_option maxRecDepth 20000 in
theorem gX8_about_X8_leaves : GoodIn wsX8_about (wsV RX8 136 RX8 yX8_leaves wsX8_leaves) := goodIn_app (goodIn_of _ (by decide +kernel)) ggX8_about_X8_leaves
set_option maxRecDepth 20000 in
theorem ggX8_about_X8_deepest : GoodIn wsX8_about wsX8_deepest := goodIn_r _ [57, 2, 11, 12, 9, 13, 17, 18, 19, 20, 21, 22, 3, 23, 24, 25, 26, 27, 28, 29, 30, 31, 32, 33, 34, 35, 36, 37, 58, 59, 60, 48, 49, 50, 38, 39, 40, 41, 42, 43, 64, 65, 66, 67, 68, 69, 70, 71, 72, 73, 74, 75, 76, 77, 78, 79, 80, 81, 82, 83, 84] (by decide +kernel) (by decide +kernel)
set_option maxRecDepth 20000 in
theorem gX8_about_X8_deepest : GoodIn wsX8_about (wsV RX8 139 RX8 yX8_deepest wsX8_deepest) := goodIn_app (goodIn_of _ (by decide +kernel)) ggX8_about_X8_deepest
set_option maxRecDepth 20000 in
theorem ggX8_about_X8_light : GoodIn wsX8_about wsX8_light := goodIn_r _ [63, 11, 12, 9, 13, 26, 27, 28] (by decide +kernel) (by decide +kernel)
set_option maxRecDepth 20000 in
theorem gX8_about_X8_light : GoodIn wsX8_about (va_wsS RX8 142 yX8_light wsX8_light) := goodIn_app (goodIn_of _ (by decide +kernel)) ggX8_about_X8_light
theorem dX8_about_0 : decode cX8_about 0 = .ok (.aload_n 0, 1) := by decide +kernel
theorem dX8_about_1 : decode cX8_about 1 = .ok (.iconst 0, 1) := by decide +kernel
theorem dX8_about_2 : decode cX8_about 2 = .ok (.putfield 47, 3) := by decide +kernel
theorem dX8_about_5 : decode cX8_about 5 = .ok (.iload_n 1, 1) := by decide +kernel
theorem dX8_about_6 : decode cX8_about 6 = .ok (.tableswitch 105 0 9 #[54, 54, 54, 61, 69, 74, 79, 90, 95, 100], 54) := by decide +kernel
theorem dX8_about_60 : decode cX8_about 60 = .ok (.aload_n 0, 1) := by decide +kernel
theorem dX8_about_61 : decode cX8_about 61 = .ok (.getfield 16, 3) := by decide +kernel
theorem dX8_about_64 : decode cX8_about 64 = .ok (.iload_n 1, 1) := by decide +kernel
theorem dX8_about_65 : decode cX8_about 65 = .ok (.iaload, 1) := by decide +kernel
theorem dX8_about_66 : decode cX8_about 66 = .ok (.ireturn, 1) := by decide +kernel
theorem dX8_about_67 : decode cX8_about 67 = .ok (.aload_n 0, 1) := by decide +kernel
theorem dX8_about_68 : decode cX8_about 68 = .ok (.getfield 16, 3) := by decide +kernel
theorem dX8_about_71 : decode cX8_about 71 = .ok (.invokestatic 126, 3) := by decide +kernel
theorem dX8_about_74 : decode cX8_about 74 = .ok (.ireturn, 1) := by decide +kernel
theorem dX8_about_75 : decode cX8_about 75 = .ok (.aload_n 0, 1) := by decide +kernel
theorem dX8_about_76 : decode cX8_about 76 = .ok (.invokevirtual 136, 3) := by decide +kernel
theorem dX8_about_79 : decode cX8_about 79 = .ok (.ireturn, 1) := by decide +kernel
theorem dX8_about_80 : decode cX8_about 80 = .ok (.aload_n 0, 1) := by decide +kernel
theorem dX8_about_81 : decode cX8_about 81 = .ok (.invokevirtual 139, 3) := by decide +kernel
theorem dX8_about_84 : decode cX8_about 84 = .ok (.ireturn, 1) := by decide +kernel
theorem dX8_about_85 : decode cX8_about 85 = .ok (.aload_n 0, 1) := by decide +kernel
theorem dX8_about_86 : decode cX8_about 86 = .ok (.getfield 16, 3) := by decide +kernel
theorem dX8_about_89 : decode cX8_about 89 = .ok (.ldc2_w 67, 3) := by decide +kernel
theorem dX8_about_92 : decode cX8_about 92 = .ok (.invokestatic 142, 3) := by decide +kernel
theorem dX8_about_95 : decode cX8_about 95 = .ok (.ireturn, 1) := by decide +kernel
theorem dX8_about_96 : decode cX8_about 96 = .ok (.aload_n 0, 1) := by decide +kernel
theorem dX8_about_97 : decode cX8_about 97 = .ok (.getfield 123, 3) := by decide +kernel
theorem dX8_about_100 : decode cX8_about 100 = .ok (.ireturn, 1) := by decide +kernel
theorem dX8_about_101 : decode cX8_about 101 = .ok (.aload_n 0, 1) := by decide +kernel
theorem dX8_about_102 : decode cX8_about 102 = .ok (.getfield 145, 3) := by decide +kernel
theorem dX8_about_105 : decode cX8_about 105 = .ok (.ireturn, 1) := by decide +kernel
theorem dX8_about_106 : decode cX8_about 106 = .ok (.aload_n 0, 1) := by decide +kernel
theorem dX8_about_107 : decode cX8_about 107 = .ok (.getfield 108, 3) := by decide +kernel
theorem dX8_about_110 : decode cX8_about 110 = .ok (.ireturn, 1) := by decide +kernel
theorem dX8_about_111 : decode cX8_about 111 = .ok (.bipush (-2), 2) := by decide +kernel
theorem dX8_about_113 : decode cX8_about 113 = .ok (.ireturn, 1) := by decide +kernel
set_option maxRecDepth 20000 in
theorem ggX8_shade_X8_noDot : GoodIn wsX8_shade wsX8_noDot := goodIn_r _ [7, 2, 8, 9, 6, 10, 11, 12, 13, 14, 15, 16, 17, 18, 19, 20, 21, 22, 23, 24, 25, 26, 27, 28, 29, 30, 31, 32, 33, 34] (by decide +kernel) (by decide +kernel)
set_option maxRecDepth 20000 in
theorem gX8_shade_X8_noDot : GoodIn wsX8_shade (wsV RX8 148 RX8 yX8_noDot wsX8_noDot) := goodIn_app (goodIn_of _ (by decide +kernel)) ggX8_shade_X8_noDot
theorem dX8_shade_0 : decode cX8_shade 0 = .ok (.aload_n 0, 1) := by decide +kernel
theorem dX8_shade_1 : decode cX8_shade 1 = .ok (.iconst 0, 1) := by decide +kernel
theorem dX8_shade_2 : decode cX8_shade 2 = .ok (.putfield 47, 3) := by decide +kernel
theorem dX8_shade_5 : decode cX8_shade 5 = .ok (.aload_n 0, 1) := by decide +kernel
theorem dX8_shade_6 : decode cX8_shade 6 = .ok (.iload_n 1, 1) := by decide +kernel
theorem dX8_shade_7 : decode cX8_shade 7 = .ok (.invokevirtual 148, 3) := by decide +kernel
theorem dX8_shade_10 : decode cX8_shade 10 = .ok (.ifCond .eq 7, 3) := by decide +kernel
theorem dX8_shade_13 : decode cX8_shade 13 = .ok (.iconst (-1), 1) := by decide +kernel
theorem dX8_shade_14 : decode cX8_shade 14 = .ok (.goto 11, 3) := by decide +kernel
theorem dX8_shade_17 : decode cX8_shade 17 = .ok (.aload_n 0, 1) := by decide +kernel
theorem dX8_shade_18 : decode cX8_shade 18 = .ok (.getfield 16, 3) := by decide +kernel
theorem dX8_shade_21 : decode cX8_shade 21 = .ok (.iconst 3, 1) := by decide +kernel
theorem dX8_shade_22 : decode cX8_shade 22 = .ok (.iload_n 1, 1) := by decide +kernel
theorem dX8_shade_23 : decode cX8_shade 23 = .ok (.iadd, 1) := by decide +kernel
theorem dX8_shade_24 : decode cX8_shade 24 = .ok (.iaload, 1) := by decide +kernel
theorem dX8_shade_25 : decode cX8_shade 25 = .ok (.ireturn, 1) := by decide +kernel
set_option maxRecDepth 20000 in
theorem ggX8_node_X8_noDot : GoodIn wsX8_node wsX8_noDot := goodIn_r _ [7, 2, 8, 9, 6, 10, 11, 12, 13, 69, 70, 71, 72, 73, 74, 75, 76, 77, 78, 79, 80, 81, 82, 83, 84, 85, 86, 87, 88, 89] (by decide +kernel) (by decide +kernel)
set_option maxRecDepth 20000 in
theorem gX8_node_X8_noDot : GoodIn wsX8_node (wsV RX8 148 RX8 yX8_noDot wsX8_noDot) := goodIn_app (goodIn_of _ (by decide +kernel)) ggX8_node_X8_noDot
set_option maxRecDepth 20000 in
theorem ggX8_node_X8_nodeOf : GoodIn wsX8_node wsX8_nodeOf := goodIn_r _ [16, 17, 18, 6, 19, 20, 21, 22, 23, 8, 9, 10, 24, 25, 26, 27, 28, 29, 30, 31, 32, 33, 34, 35] (by decide +kernel) (by decide +kernel)
set_option maxRecDepth 20000 in
theorem gX8_node_X8_nodeOf : GoodIn wsX8_node (va_wsS RX8 91 yX8_nodeOf wsX8_nodeOf) := goodIn_app (goodIn_of _ (by decide +kernel)) ggX8_node_X8_nodeOf
set_option maxRecDepth 20000 in
theorem ggX8_node_X8_head : GoodIn wsX8_node wsX8_head := goodIn_r _ [38, 39, 40, 6, 41, 8, 9, 10, 24, 25, 26] (by decide +kernel) (by decide +kernel)
set_option maxRecDepth 20000 in
theorem gX8_node_X8_head : GoodIn wsX8_node (va_wsS RX8 88 yX8_head wsX8_head) := goodIn_app (goodIn_of _ (by decide +kernel)) ggX8_node_X8_head
set_option maxRecDepth 20000 in
theorem ggX8_node_X8_level : GoodIn wsX8_node wsX8_level := goodIn_r _ [41, 8, 9, 6, 10, 24, 25, 26] (by decide +kernel) (by decide +kernel)
set_option maxRecDepth 20000 in
theorem gX8_node_X8_level : GoodIn wsX8_node (va_wsS RX8 84 yX8_level wsX8_level) := goodIn_app (goodIn_of _ (by decide +kernel)) ggX8_node_X8_level
set_option maxRecDepth 20000 in
theorem ggX8_node_X8_many : GoodIn wsX8_node wsX8_many := goodIn_r _ [44, 24, 25, 6, 26] (by decide +kernel) (by decide +kernel)
set_option maxRecDepth 20000 in
theorem gX8_node_X8_many : GoodIn wsX8_node (va_wsS RX8 129 yX8_many wsX8_many) := goodIn_app (goodIn_of _ (by decide +kernel)) ggX8_node_X8_many
set_option maxRecDepth 20000 in
theorem ggX8_node_X8_light : GoodIn wsX8_node wsX8_light := goodIn_r _ [47, 8, 9, 6, 10, 24, 25, 26] (by decide +kernel) (by decide +kernel)
set_option maxRecDepth 20000 in
theorem gX8_node_X8_light : GoodIn wsX8_node (va_wsS RX8 142 yX8_light wsX8_light) := goodIn_app (goodIn_of _ (by decide +kernel)) ggX8_node_X8_light
set_option maxRecDepth 20000 in
theorem ggX8_node_X8_parent : GoodIn wsX8_node wsX8_parent := goodIn_r _ [50, 36, 37, 6, 38, 39, 40, 41, 8, 9, 10, 24, 25, 26, 17, 18, 19, 20, 21, 22, 23, 27, 28, 29, 30, 31, 32, 33, 34, 35] (by decide +kernel) (by decide +kernel)
set_option maxRecDepth 20000 in
theorem gX8_node_X8_parent : GoodIn wsX8_node (va_wsS RX8 99 yX8_parent wsX8_parent) := goodIn_app (goodIn_of _ (by decide +kernel)) ggX8_node_X8_parent
set_option maxRecDepth 20000 in
theorem ggX8_node_X8_children : GoodIn wsX8_node wsX8_children := goodIn_r _ [53, 8, 9, 6, 10, 24, 25, 26, 54, 55, 56, 14, 15, 16, 17, 18, 19, 20, 21, 22, 23, 27, 28, 29, 30, 31, 32, 33, 34, 35, 36, 37, 38, 39, 40, 41, 48, 49, 50] (by decide +kernel) (by decide +kernel)
set_option maxRecDepth 20000 in
theorem gX8_node_X8_children : GoodIn wsX8_node (va_wsS RX8 152 yX8_children wsX8_children) := goodIn_app (goodIn_of _ (by decide +kernel)) ggX8_node_X8_children
set_option maxRecDepth 20000 in
theorem ggX8_node_X8_depth : GoodIn wsX8_node wsX8_depth := goodIn_r _ [59, 48, 49, 6, 50, 36, 37, 38, 39, 40, 41, 8, 9, 10, 24, 25, 26, 17, 18, 19, 20, 21, 22, 23, 27, 28, 29, 30, 31, 32, 33, 34, 35] (by decide +kernel) (by decide +kernel)
set_option maxRecDepth 20000 in
theorem gX8_node_X8_depth : GoodIn wsX8_node (va_wsS RX8 133 yX8_depth wsX8_depth) := goodIn_app (goodIn_of _ (by decide +kernel)) ggX8_node_X8_depth
set_option maxRecDepth 20000 in
theorem ggX8_node_X8_box : GoodIn wsX8_node wsX8_box := goodIn_r _ [62, 8, 9, 6, 10, 24, 25, 26] (by decide +kernel) (by decide +kernel)
set_option maxRecDepth 20000 in
theorem gX8_node_X8_box : GoodIn wsX8_node (va_wsS RX8 155 yX8_box wsX8_box) := goodIn_app (goodIn_of _ (by decide +kernel)) ggX8_node_X8_box
set_option maxRecDepth 20000 in
theorem ggX8_node_X8_rise : GoodIn wsX8_node wsX8_rise := goodIn_r _ [65, 39, 40, 6, 41, 8, 9, 10, 24, 25, 26, 66, 67, 68, 36, 37, 38, 17, 18, 19, 20, 21, 22, 23, 27, 28, 29, 30, 31, 32, 33, 34, 35] (by decide +kernel) (by decide +kernel)
set_option maxRecDepth 20000 in
theorem gX8_node_X8_rise : GoodIn wsX8_node (va_wsS RX8 159 yX8_rise wsX8_rise) := goodIn_app (goodIn_of _ (by decide +kernel)) ggX8_node_X8_rise
theorem dX8_node_0 : decode cX8_node 0 = .ok (.aload_n 0, 1) := by decide +kernel
theorem dX8_node_1 : decode cX8_node 1 = .ok (.iconst 0, 1) := by decide +kernel
theorem dX8_node_2 : decode cX8_node 2 = .ok (.putfield 47, 3) := by decide +kernel
theorem dX8_node_5 : decode cX8_node 5 = .ok (.aload_n 0, 1) := by decide +kernel
theorem dX8_node_6 : decode cX8_node 6 = .ok (.iload_n 1, 1) := by decide +kernel
theorem dX8_node_7 : decode cX8_node 7 = .ok (.invokevirtual 148, 3) := by decide +kernel
theorem dX8_node_10 : decode cX8_node 10 = .ok (.ifCond .eq 5, 3) := by decide +kernel
theorem dX8_node_13 : decode cX8_node 13 = .ok (.iconst (-1), 1) := by decide +kernel
theorem dX8_node_14 : decode cX8_node 14 = .ok (.ireturn, 1) := by decide +kernel
theorem dX8_node_15 : decode cX8_node 15 = .ok (.aload_n 0, 1) := by decide +kernel
theorem dX8_node_16 : decode cX8_node 16 = .ok (.getfield 16, 3) := by decide +kernel
theorem dX8_node_19 : decode cX8_node 19 = .ok (.iload_n 1, 1) := by decide +kernel
theorem dX8_node_20 : decode cX8_node 20 = .ok (.invokestatic 91, 3) := by decide +kernel
theorem dX8_node_23 : decode cX8_node 23 = .ok (.lstore_n 3, 1) := by decide +kernel
theorem dX8_node_24 : decode cX8_node 24 = .ok (.iload_n 2, 1) := by decide +kernel
theorem dX8_node_25 : decode cX8_node 25 = .ok (.tableswitch 168 0 9 #[55, 64, 73, 78, 87, 121, 130, 139, 149, 159], 55) := by decide +kernel
theorem dX8_node_80 : decode cX8_node 80 = .ok (.aload_n 0, 1) := by decide +kernel
theorem dX8_node_81 : decode cX8_node 81 = .ok (.getfield 16, 3) := by decide +kernel
theorem dX8_node_84 : decode cX8_node 84 = .ok (.lload_n 3, 1) := by decide +kernel
theorem dX8_node_85 : decode cX8_node 85 = .ok (.invokestatic 88, 3) := by decide +kernel
theorem dX8_node_88 : decode cX8_node 88 = .ok (.ireturn, 1) := by decide +kernel
theorem dX8_node_89 : decode cX8_node 89 = .ok (.aload_n 0, 1) := by decide +kernel
theorem dX8_node_90 : decode cX8_node 90 = .ok (.getfield 16, 3) := by decide +kernel
theorem dX8_node_93 : decode cX8_node 93 = .ok (.lload_n 3, 1) := by decide +kernel
theorem dX8_node_94 : decode cX8_node 94 = .ok (.invokestatic 84, 3) := by decide +kernel
theorem dX8_node_97 : decode cX8_node 97 = .ok (.ireturn, 1) := by decide +kernel
theorem dX8_node_98 : decode cX8_node 98 = .ok (.lload_n 3, 1) := by decide +kernel
theorem dX8_node_99 : decode cX8_node 99 = .ok (.invokestatic 129, 3) := by decide +kernel
theorem dX8_node_102 : decode cX8_node 102 = .ok (.ireturn, 1) := by decide +kernel
theorem dX8_node_103 : decode cX8_node 103 = .ok (.aload_n 0, 1) := by decide +kernel
theorem dX8_node_104 : decode cX8_node 104 = .ok (.getfield 16, 3) := by decide +kernel
theorem dX8_node_107 : decode cX8_node 107 = .ok (.lload_n 3, 1) := by decide +kernel
theorem dX8_node_108 : decode cX8_node 108 = .ok (.invokestatic 142, 3) := by decide +kernel
theorem dX8_node_111 : decode cX8_node 111 = .ok (.ireturn, 1) := by decide +kernel
theorem dX8_node_112 : decode cX8_node 112 = .ok (.aload_n 0, 1) := by decide +kernel
theorem dX8_node_113 : decode cX8_node 113 = .ok (.getfield 16, 3) := by decide +kernel
theorem dX8_node_116 : decode cX8_node 116 = .ok (.lload_n 3, 1) := by decide +kernel
theorem dX8_node_117 : decode cX8_node 117 = .ok (.invokestatic 99, 3) := by decide +kernel
theorem dX8_node_120 : decode cX8_node 120 = .ok (.lload_n 3, 1) := by decide +kernel
theorem dX8_node_121 : decode cX8_node 121 = .ok (.lcmp, 1) := by decide +kernel
theorem dX8_node_122 : decode cX8_node 122 = .ok (.ifCond .ne 8, 3) := by decide +kernel
theorem dX8_node_125 : decode cX8_node 125 = .ok (.bipush (-9), 2) := by decide +kernel
theorem dX8_node_127 : decode cX8_node 127 = .ok (.goto 18, 3) := by decide +kernel
theorem dX8_node_130 : decode cX8_node 130 = .ok (.aload_n 0, 1) := by decide +kernel
theorem dX8_node_131 : decode cX8_node 131 = .ok (.getfield 16, 3) := by decide +kernel
theorem dX8_node_134 : decode cX8_node 134 = .ok (.aload_n 0, 1) := by decide +kernel
theorem dX8_node_135 : decode cX8_node 135 = .ok (.getfield 16, 3) := by decide +kernel
theorem dX8_node_138 : decode cX8_node 138 = .ok (.lload_n 3, 1) := by decide +kernel
theorem dX8_node_139 : decode cX8_node 139 = .ok (.invokestatic 99, 3) := by decide +kernel
theorem dX8_node_142 : decode cX8_node 142 = .ok (.invokestatic 88, 3) := by decide +kernel
theorem dX8_node_145 : decode cX8_node 145 = .ok (.ireturn, 1) := by decide +kernel
theorem dX8_node_146 : decode cX8_node 146 = .ok (.aload_n 0, 1) := by decide +kernel
theorem dX8_node_147 : decode cX8_node 147 = .ok (.getfield 16, 3) := by decide +kernel
theorem dX8_node_150 : decode cX8_node 150 = .ok (.lload_n 3, 1) := by decide +kernel
theorem dX8_node_151 : decode cX8_node 151 = .ok (.invokestatic 152, 3) := by decide +kernel
theorem dX8_node_154 : decode cX8_node 154 = .ok (.ireturn, 1) := by decide +kernel
theorem dX8_node_155 : decode cX8_node 155 = .ok (.aload_n 0, 1) := by decide +kernel
theorem dX8_node_156 : decode cX8_node 156 = .ok (.getfield 16, 3) := by decide +kernel
theorem dX8_node_159 : decode cX8_node 159 = .ok (.lload_n 3, 1) := by decide +kernel
theorem dX8_node_160 : decode cX8_node 160 = .ok (.invokestatic 133, 3) := by decide +kernel
theorem dX8_node_163 : decode cX8_node 163 = .ok (.ireturn, 1) := by decide +kernel
theorem dX8_node_164 : decode cX8_node 164 = .ok (.aload_n 0, 1) := by decide +kernel
theorem dX8_node_165 : decode cX8_node 165 = .ok (.getfield 16, 3) := by decide +kernel
theorem dX8_node_168 : decode cX8_node 168 = .ok (.lload_n 3, 1) := by decide +kernel
theorem dX8_node_169 : decode cX8_node 169 = .ok (.iconst 1, 1) := by decide +kernel
theorem dX8_node_170 : decode cX8_node 170 = .ok (.invokestatic 155, 3) := by decide +kernel
theorem dX8_node_173 : decode cX8_node 173 = .ok (.ireturn, 1) := by decide +kernel
theorem dX8_node_174 : decode cX8_node 174 = .ok (.aload_n 0, 1) := by decide +kernel
theorem dX8_node_175 : decode cX8_node 175 = .ok (.getfield 16, 3) := by decide +kernel
theorem dX8_node_178 : decode cX8_node 178 = .ok (.lload_n 3, 1) := by decide +kernel
theorem dX8_node_179 : decode cX8_node 179 = .ok (.iconst 0, 1) := by decide +kernel
theorem dX8_node_180 : decode cX8_node 180 = .ok (.invokestatic 155, 3) := by decide +kernel
theorem dX8_node_183 : decode cX8_node 183 = .ok (.ireturn, 1) := by decide +kernel
theorem dX8_node_184 : decode cX8_node 184 = .ok (.aload_n 0, 1) := by decide +kernel
theorem dX8_node_185 : decode cX8_node 185 = .ok (.getfield 16, 3) := by decide +kernel
theorem dX8_node_188 : decode cX8_node 188 = .ok (.lload_n 3, 1) := by decide +kernel
theorem dX8_node_189 : decode cX8_node 189 = .ok (.invokestatic 159, 3) := by decide +kernel
theorem dX8_node_192 : decode cX8_node 192 = .ok (.ireturn, 1) := by decide +kernel
theorem dX8_node_193 : decode cX8_node 193 = .ok (.bipush (-2), 2) := by decide +kernel
theorem dX8_node_195 : decode cX8_node 195 = .ok (.ireturn, 1) := by decide +kernel
set_option maxRecDepth 20000 in
theorem ggX8_dots_X8_noDot : GoodIn wsX8_dots wsX8_noDot := goodIn_r _ [8, 3, 9, 10, 7, 11, 12, 13, 14, 36, 37, 38, 39, 40, 41, 42, 43, 44, 45, 46, 47, 48, 49, 50, 51, 52, 53, 54, 55, 56] (by decide +kernel) (by decide +kernel)
set_option maxRecDepth 20000 in
theorem gX8_dots_X8_noDot : GoodIn wsX8_dots (wsV RX8 148 RX8 yX8_noDot wsX8_noDot) := goodIn_app (goodIn_of _ (by decide +kernel)) ggX8_dots_X8_noDot
set_option maxRecDepth 20000 in
theorem ggX8_dots_X8_nodeOf : GoodIn wsX8_dots wsX8_nodeOf := goodIn_r _ [17, 18, 19, 7, 20, 2, 21, 22, 23, 9, 10, 11, 24, 25, 26, 27, 28, 29, 30, 31, 32, 33, 34, 35] (by decide +kernel) (by decide +kernel)
set_option maxRecDepth 20000 in
theorem gX8_dots_X8_nodeOf : GoodIn wsX8_dots (va_wsS RX8 91 yX8_nodeOf wsX8_nodeOf) := goodIn_app (goodIn_of _ (by decide +kernel)) ggX8_dots_X8_nodeOf
theorem dX8_dots_0 : decode cX8_dots 0 = .ok (.aload_n 0, 1) := by decide +kernel
theorem dX8_dots_1 : decode cX8_dots 1 = .ok (.iconst 0, 1) := by decide +kernel
theorem dX8_dots_2 : decode cX8_dots 2 = .ok (.putfield 47, 3) := by decide +kernel
theorem dX8_dots_5 : decode cX8_dots 5 = .ok (.aload_n 0, 1) := by decide +kernel
theorem dX8_dots_6 : decode cX8_dots 6 = .ok (.iload_n 1, 1) := by decide +kernel
theorem dX8_dots_7 : decode cX8_dots 7 = .ok (.invokevirtual 148, 3) := by decide +kernel
theorem dX8_dots_10 : decode cX8_dots 10 = .ok (.ifCond .eq 9, 3) := by decide +kernel
theorem dX8_dots_13 : decode cX8_dots 13 = .ok (.ldc2_w 67, 3) := by decide +kernel
theorem dX8_dots_16 : decode cX8_dots 16 = .ok (.goto 11, 3) := by decide +kernel
theorem dX8_dots_19 : decode cX8_dots 19 = .ok (.aload_n 0, 1) := by decide +kernel
theorem dX8_dots_20 : decode cX8_dots 20 = .ok (.getfield 16, 3) := by decide +kernel
theorem dX8_dots_23 : decode cX8_dots 23 = .ok (.iload_n 1, 1) := by decide +kernel
theorem dX8_dots_24 : decode cX8_dots 24 = .ok (.invokestatic 91, 3) := by decide +kernel
theorem dX8_dots_27 : decode cX8_dots 27 = .ok (.lreturn, 1) := by decide +kernel
set_option maxRecDepth 20000 in
theorem ggX8_parts_X8_in : GoodIn wsX8_parts wsX8_in := goodIn_r _ [8] (by decide +kernel) (by decide +kernel)
set_option maxRecDepth 20000 in
theorem gX8_parts_X8_in : GoodIn wsX8_parts (va_wsS RX8 59 yX8_in wsX8_in) := goodIn_app (goodIn_of _ (by decide +kernel)) ggX8_parts_X8_in
set_option maxRecDepth 20000 in
theorem ggX8_parts_X8_partsOf : GoodIn wsX8_parts wsX8_partsOf := goodIn_r _ [11, 4, 12, 13, 7, 14, 15, 16, 17, 18, 19, 20, 21, 22, 23, 24, 25, 26, 27, 28, 29] (by decide +kernel) (by decide +kernel)
set_option maxRecDepth 20000 in
theorem gX8_parts_X8_partsOf : GoodIn wsX8_parts (va_wsS RX8 162 yX8_partsOf wsX8_partsOf) := goodIn_app (goodIn_of _ (by decide +kernel)) ggX8_parts_X8_partsOf
theorem dX8_parts_0 : decode cX8_parts 0 = .ok (.aload_n 0, 1) := by decide +kernel
theorem dX8_parts_1 : decode cX8_parts 1 = .ok (.iconst 0, 1) := by decide +kernel
theorem dX8_parts_2 : decode cX8_parts 2 = .ok (.putfield 47, 3) := by decide +kernel
theorem dX8_parts_5 : decode cX8_parts 5 = .ok (.iload_n 1, 1) := by decide +kernel
theorem dX8_parts_6 : decode cX8_parts 6 = .ok (.i2l, 1) := by decide +kernel
theorem dX8_parts_7 : decode cX8_parts 7 = .ok (.lconst 0, 1) := by decide +kernel
theorem dX8_parts_8 : decode cX8_parts 8 = .ok (.ldc2_w 117, 3) := by decide +kernel
theorem dX8_parts_11 : decode cX8_parts 11 = .ok (.invokestatic 59, 3) := by decide +kernel
theorem dX8_parts_14 : decode cX8_parts 14 = .ok (.ifCond .eq 17, 3) := by decide +kernel
theorem dX8_parts_17 : decode cX8_parts 17 = .ok (.aload_n 0, 1) := by decide +kernel
theorem dX8_parts_18 : decode cX8_parts 18 = .ok (.getfield 16, 3) := by decide +kernel
theorem dX8_parts_21 : decode cX8_parts 21 = .ok (.iload_n 1, 1) := by decide +kernel
theorem dX8_parts_22 : decode cX8_parts 22 = .ok (.ldc2_w 67, 3) := by decide +kernel
theorem dX8_parts_25 : decode cX8_parts 25 = .ok (.invokestatic 162, 3) := by decide +kernel
theorem dX8_parts_28 : decode cX8_parts 28 = .ok (.goto 5, 3) := by decide +kernel
theorem dX8_parts_31 : decode cX8_parts 31 = .ok (.bipush (-2), 2) := by decide +kernel
theorem dX8_parts_33 : decode cX8_parts 33 = .ok (.ireturn, 1) := by decide +kernel
theorem dX8_note_0 : decode cX8_note 0 = .ok (.aload_n 0, 1) := by decide +kernel
theorem dX8_note_1 : decode cX8_note 1 = .ok (.getfield 123, 3) := by decide +kernel
theorem dX8_note_4 : decode cX8_note 4 = .ok (.bipush 14, 2) := by decide +kernel
theorem dX8_note_6 : decode cX8_note 6 = .ok (.if_icmp .ne 43, 3) := by decide +kernel
theorem dX8_note_9 : decode cX8_note 9 = .ok (.iconst 0, 1) := by decide +kernel
theorem dX8_note_10 : decode cX8_note 10 = .ok (.istore_n 1, 1) := by decide +kernel
theorem dX8_note_11 : decode cX8_note 11 = .ok (.iload_n 1, 1) := by decide +kernel
theorem dX8_note_12 : decode cX8_note 12 = .ok (.sipush 507, 3) := by decide +kernel
theorem dX8_note_15 : decode cX8_note 15 = .ok (.if_icmp .ge 24, 3) := by decide +kernel
theorem dX8_note_18 : decode cX8_note 18 = .ok (.aload_n 0, 1) := by decide +kernel
theorem dX8_note_19 : decode cX8_note 19 = .ok (.getfield 25, 3) := by decide +kernel
theorem dX8_note_22 : decode cX8_note 22 = .ok (.iload_n 1, 1) := by decide +kernel
theorem dX8_note_23 : decode cX8_note 23 = .ok (.aload_n 0, 1) := by decide +kernel
theorem dX8_note_24 : decode cX8_note 24 = .ok (.getfield 25, 3) := by decide +kernel
theorem dX8_note_27 : decode cX8_note 27 = .ok (.iload_n 1, 1) := by decide +kernel
theorem dX8_note_28 : decode cX8_note 28 = .ok (.bipush 39, 2) := by decide +kernel
theorem dX8_note_30 : decode cX8_note 30 = .ok (.iadd, 1) := by decide +kernel
theorem dX8_note_31 : decode cX8_note 31 = .ok (.iaload, 1) := by decide +kernel
theorem dX8_note_32 : decode cX8_note 32 = .ok (.iastore, 1) := by decide +kernel
theorem dX8_note_33 : decode cX8_note 33 = .ok (.iinc 1 1, 3) := by decide +kernel
theorem dX8_note_36 : decode cX8_note 36 = .ok (.goto (-25), 3) := by decide +kernel
theorem dX8_note_39 : decode cX8_note 39 = .ok (.aload_n 0, 1) := by decide +kernel
theorem dX8_note_40 : decode cX8_note 40 = .ok (.dup, 1) := by decide +kernel
theorem dX8_note_41 : decode cX8_note 41 = .ok (.getfield 123, 3) := by decide +kernel
theorem dX8_note_44 : decode cX8_note 44 = .ok (.iconst 1, 1) := by decide +kernel
theorem dX8_note_45 : decode cX8_note 45 = .ok (.isub, 1) := by decide +kernel
theorem dX8_note_46 : decode cX8_note 46 = .ok (.putfield 123, 3) := by decide +kernel
theorem dX8_note_49 : decode cX8_note 49 = .ok (.iconst 0, 1) := by decide +kernel
theorem dX8_note_50 : decode cX8_note 50 = .ok (.istore_n 1, 1) := by decide +kernel
theorem dX8_note_51 : decode cX8_note 51 = .ok (.iload_n 1, 1) := by decide +kernel
theorem dX8_note_52 : decode cX8_note 52 = .ok (.bipush 39, 2) := by decide +kernel
theorem dX8_note_54 : decode cX8_note 54 = .ok (.if_icmp .ge 29, 3) := by decide +kernel
theorem dX8_note_57 : decode cX8_note 57 = .ok (.aload_n 0, 1) := by decide +kernel
theorem dX8_note_58 : decode cX8_note 58 = .ok (.getfield 25, 3) := by decide +kernel
theorem dX8_note_61 : decode cX8_note 61 = .ok (.bipush 39, 2) := by decide +kernel
theorem dX8_note_63 : decode cX8_note 63 = .ok (.aload_n 0, 1) := by decide +kernel
theorem dX8_note_64 : decode cX8_note 64 = .ok (.getfield 123, 3) := by decide +kernel
theorem dX8_note_67 : decode cX8_note 67 = .ok (.imul, 1) := by decide +kernel
theorem dX8_note_68 : decode cX8_note 68 = .ok (.iload_n 1, 1) := by decide +kernel
theorem dX8_note_69 : decode cX8_note 69 = .ok (.iadd, 1) := by decide +kernel
theorem dX8_note_70 : decode cX8_note 70 = .ok (.aload_n 0, 1) := by decide +kernel
theorem dX8_note_71 : decode cX8_note 71 = .ok (.getfield 16, 3) := by decide +kernel
theorem dX8_note_74 : decode cX8_note 74 = .ok (.iload_n 1, 1) := by decide +kernel
theorem dX8_note_75 : decode cX8_note 75 = .ok (.iaload, 1) := by decide +kernel
theorem dX8_note_76 : decode cX8_note 76 = .ok (.iastore, 1) := by decide +kernel
theorem dX8_note_77 : decode cX8_note 77 = .ok (.iinc 1 1, 3) := by decide +kernel
theorem dX8_note_80 : decode cX8_note 80 = .ok (.goto (-29), 3) := by decide +kernel
theorem dX8_note_83 : decode cX8_note 83 = .ok (.aload_n 0, 1) := by decide +kernel
theorem dX8_note_84 : decode cX8_note 84 = .ok (.dup, 1) := by decide +kernel
theorem dX8_note_85 : decode cX8_note 85 = .ok (.getfield 123, 3) := by decide +kernel
theorem dX8_note_88 : decode cX8_note 88 = .ok (.iconst 1, 1) := by decide +kernel
theorem dX8_note_89 : decode cX8_note 89 = .ok (.iadd, 1) := by decide +kernel
theorem dX8_note_90 : decode cX8_note 90 = .ok (.putfield 123, 3) := by decide +kernel
theorem dX8_note_93 : decode cX8_note 93 = .ok (.return_, 1) := by decide +kernel
set_option maxRecDepth 20000 in
theorem ggX8_paint_X8_noDot : GoodIn wsX8_paint wsX8_noDot := goodIn_r _ [8, 3, 9, 10, 7, 11, 12, 13, 14, 21, 22, 23, 24, 25, 26, 27, 28, 29, 30, 31, 32, 33, 34, 35, 36, 37, 38, 39, 40, 41] (by decide +kernel) (by decide +kernel)
set_option maxRecDepth 20000 in
theorem gX8_paint_X8_noDot : GoodIn wsX8_paint (wsV RX8 148 RX8 yX8_noDot wsX8_noDot) := goodIn_app (goodIn_of _ (by decide +kernel)) ggX8_paint_X8_noDot
set_option maxRecDepth 20000 in
theorem ggX8_paint_X8_in : GoodIn wsX8_paint wsX8_in := goodIn_r _ [14] (by decide +kernel) (by decide +kernel)
set_option maxRecDepth 20000 in
theorem gX8_paint_X8_in : GoodIn wsX8_paint (va_wsS RX8 59 yX8_in wsX8_in) := goodIn_app (goodIn_of _ (by decide +kernel)) ggX8_paint_X8_in
set_option maxRecDepth 20000 in
theorem ggX8_paint_X8_note : GoodIn wsX8_paint wsX8_note := goodIn_r _ [18, 19, 20, 3, 21, 22, 23, 24, 25, 26, 27, 28, 29, 30, 31, 32, 33, 34, 35, 36, 37, 38, 39, 40, 41] (by decide +kernel) (by decide +kernel)
set_option maxRecDepth 20000 in
theorem gX8_paint_X8_note : GoodIn wsX8_paint (wsV RX8 166 RX8 yX8_note wsX8_note) := goodIn_app (goodIn_of _ (by decide +kernel)) ggX8_paint_X8_note
theorem dX8_paint_0 : decode cX8_paint 0 = .ok (.aload_n 0, 1) := by decide +kernel
theorem dX8_paint_1 : decode cX8_paint 1 = .ok (.iconst 0, 1) := by decide +kernel
theorem dX8_paint_2 : decode cX8_paint 2 = .ok (.putfield 47, 3) := by decide +kernel
theorem dX8_paint_5 : decode cX8_paint 5 = .ok (.aload_n 0, 1) := by decide +kernel
theorem dX8_paint_6 : decode cX8_paint 6 = .ok (.iload_n 1, 1) := by decide +kernel
theorem dX8_paint_7 : decode cX8_paint 7 = .ok (.invokevirtual 148, 3) := by decide +kernel
theorem dX8_paint_10 : decode cX8_paint 10 = .ok (.ifCond .eq 5, 3) := by decide +kernel
theorem dX8_paint_13 : decode cX8_paint 13 = .ok (.iconst (-1), 1) := by decide +kernel
theorem dX8_paint_14 : decode cX8_paint 14 = .ok (.ireturn, 1) := by decide +kernel
theorem dX8_paint_15 : decode cX8_paint 15 = .ok (.iload_n 2, 1) := by decide +kernel
theorem dX8_paint_16 : decode cX8_paint 16 = .ok (.i2l, 1) := by decide +kernel
theorem dX8_paint_17 : decode cX8_paint 17 = .ok (.lconst 0, 1) := by decide +kernel
theorem dX8_paint_18 : decode cX8_paint 18 = .ok (.ldc2_w 117, 3) := by decide +kernel
theorem dX8_paint_21 : decode cX8_paint 21 = .ok (.invokestatic 59, 3) := by decide +kernel
theorem dX8_paint_24 : decode cX8_paint 24 = .ok (.ifCond .ne 6, 3) := by decide +kernel
theorem dX8_paint_27 : decode cX8_paint 27 = .ok (.bipush (-2), 2) := by decide +kernel
theorem dX8_paint_29 : decode cX8_paint 29 = .ok (.ireturn, 1) := by decide +kernel
theorem dX8_paint_30 : decode cX8_paint 30 = .ok (.aload_n 0, 1) := by decide +kernel
theorem dX8_paint_31 : decode cX8_paint 31 = .ok (.invokevirtual 166, 3) := by decide +kernel
theorem dX8_paint_34 : decode cX8_paint 34 = .ok (.aload_n 0, 1) := by decide +kernel
theorem dX8_paint_35 : decode cX8_paint 35 = .ok (.getfield 16, 3) := by decide +kernel
theorem dX8_paint_38 : decode cX8_paint 38 = .ok (.iconst 3, 1) := by decide +kernel
theorem dX8_paint_39 : decode cX8_paint 39 = .ok (.iload_n 1, 1) := by decide +kernel
theorem dX8_paint_40 : decode cX8_paint 40 = .ok (.iadd, 1) := by decide +kernel
theorem dX8_paint_41 : decode cX8_paint 41 = .ok (.iaload, 1) := by decide +kernel
theorem dX8_paint_42 : decode cX8_paint 42 = .ok (.istore_n 3, 1) := by decide +kernel
theorem dX8_paint_43 : decode cX8_paint 43 = .ok (.aload_n 0, 1) := by decide +kernel
theorem dX8_paint_44 : decode cX8_paint 44 = .ok (.getfield 16, 3) := by decide +kernel
theorem dX8_paint_47 : decode cX8_paint 47 = .ok (.iconst 3, 1) := by decide +kernel
theorem dX8_paint_48 : decode cX8_paint 48 = .ok (.iload_n 1, 1) := by decide +kernel
theorem dX8_paint_49 : decode cX8_paint 49 = .ok (.iadd, 1) := by decide +kernel
theorem dX8_paint_50 : decode cX8_paint 50 = .ok (.iload_n 2, 1) := by decide +kernel
theorem dX8_paint_51 : decode cX8_paint 51 = .ok (.iastore, 1) := by decide +kernel
theorem dX8_paint_52 : decode cX8_paint 52 = .ok (.iload_n 3, 1) := by decide +kernel
theorem dX8_paint_53 : decode cX8_paint 53 = .ok (.ireturn, 1) := by decide +kernel
set_option maxRecDepth 20000 in
theorem ggX8_goNegative_X8_dotsOf : GoodIn wsX8_goNegative wsX8_dotsOf := goodIn_r _ [4] (by decide +kernel) (by decide +kernel)
set_option maxRecDepth 20000 in
theorem gX8_goNegative_X8_dotsOf : GoodIn wsX8_goNegative (va_wsS RX8 55 yX8_dotsOf wsX8_dotsOf) := goodIn_app (goodIn_of _ (by decide +kernel)) ggX8_goNegative_X8_dotsOf
theorem dX8_goNegative_0 : decode cX8_goNegative 0 = .ok (.iconst 0, 1) := by decide +kernel
theorem dX8_goNegative_1 : decode cX8_goNegative 1 = .ok (.istore_n 1, 1) := by decide +kernel
theorem dX8_goNegative_2 : decode cX8_goNegative 2 = .ok (.iload_n 1, 1) := by decide +kernel
theorem dX8_goNegative_3 : decode cX8_goNegative 3 = .ok (.aload_n 0, 1) := by decide +kernel
theorem dX8_goNegative_4 : decode cX8_goNegative 4 = .ok (.invokestatic 55, 3) := by decide +kernel
theorem dX8_goNegative_7 : decode cX8_goNegative 7 = .ok (.if_icmp .ge 22, 3) := by decide +kernel
theorem dX8_goNegative_10 : decode cX8_goNegative 10 = .ok (.aload_n 0, 1) := by decide +kernel
theorem dX8_goNegative_11 : decode cX8_goNegative 11 = .ok (.iconst 3, 1) := by decide +kernel
theorem dX8_goNegative_12 : decode cX8_goNegative 12 = .ok (.iload_n 1, 1) := by decide +kernel
theorem dX8_goNegative_13 : decode cX8_goNegative 13 = .ok (.iadd, 1) := by decide +kernel
theorem dX8_goNegative_14 : decode cX8_goNegative 14 = .ok (.bipush 9, 2) := by decide +kernel
theorem dX8_goNegative_16 : decode cX8_goNegative 16 = .ok (.aload_n 0, 1) := by decide +kernel
theorem dX8_goNegative_17 : decode cX8_goNegative 17 = .ok (.iconst 3, 1) := by decide +kernel
theorem dX8_goNegative_18 : decode cX8_goNegative 18 = .ok (.iload_n 1, 1) := by decide +kernel
theorem dX8_goNegative_19 : decode cX8_goNegative 19 = .ok (.iadd, 1) := by decide +kernel
theorem dX8_goNegative_20 : decode cX8_goNegative 20 = .ok (.iaload, 1) := by decide +kernel
theorem dX8_goNegative_21 : decode cX8_goNegative 21 = .ok (.isub, 1) := by decide +kernel
theorem dX8_goNegative_22 : decode cX8_goNegative 22 = .ok (.iastore, 1) := by decide +kernel
theorem dX8_goNegative_23 : decode cX8_goNegative 23 = .ok (.iinc 1 1, 3) := by decide +kernel
theorem dX8_goNegative_26 : decode cX8_goNegative 26 = .ok (.goto (-24), 3) := by decide +kernel
theorem dX8_goNegative_29 : decode cX8_goNegative 29 = .ok (.return_, 1) := by decide +kernel
set_option maxRecDepth 20000 in
theorem ggX8_negative_X8_note : GoodIn wsX8_negative wsX8_note := goodIn_r _ [7, 8, 9, 2, 50, 51, 52, 53, 54, 55, 56, 57, 58, 59, 60, 61, 62, 63, 64, 65, 66, 67, 68, 69, 70] (by decide +kernel) (by decide +kernel)
set_option maxRecDepth 20000 in
theorem gX8_negative_X8_note : GoodIn wsX8_negative (wsV RX8 166 RX8 yX8_note wsX8_note) := goodIn_app (goodIn_of _ (by decide +kernel)) ggX8_negative_X8_note
set_option maxRecDepth 20000 in
theorem ggX8_negative_X8_goNegative : GoodIn wsX8_negative wsX8_goNegative := goodIn_r _ [12, 13, 14, 6, 15] (by decide +kernel) (by decide +kernel)
set_option maxRecDepth 20000 in
theorem gX8_negative_X8_goNegative : GoodIn wsX8_negative (va_wsS RX8 169 yX8_goNegative wsX8_goNegative) := goodIn_app (goodIn_of _ (by decide +kernel)) ggX8_negative_X8_goNegative
set_option maxRecDepth 20000 in
theorem ggX8_negative_X8_nodes : GoodIn wsX8_negative wsX8_nodes := goodIn_r _ [18, 13, 14, 6, 15, 19, 20, 21, 22, 23, 24, 25, 26, 27, 28, 29, 30, 31, 32, 33, 34, 35, 36, 37, 38, 39, 40, 41, 42, 43, 44, 45, 46, 47, 48, 49] (by decide +kernel) (by decide +kernel)
set_option maxRecDepth 20000 in
theorem gX8_negative_X8_nodes : GoodIn wsX8_negative (va_wsS RX8 126 yX8_nodes wsX8_nodes) := goodIn_app (goodIn_of _ (by decide +kernel)) ggX8_negative_X8_nodes
theorem dX8_negative_0 : decode cX8_negative 0 = .ok (.aload_n 0, 1) := by decide +kernel
theorem dX8_negative_1 : decode cX8_negative 1 = .ok (.iconst 0, 1) := by decide +kernel
theorem dX8_negative_2 : decode cX8_negative 2 = .ok (.putfield 47, 3) := by decide +kernel
theorem dX8_negative_5 : decode cX8_negative 5 = .ok (.aload_n 0, 1) := by decide +kernel
theorem dX8_negative_6 : decode cX8_negative 6 = .ok (.invokevirtual 166, 3) := by decide +kernel
theorem dX8_negative_9 : decode cX8_negative 9 = .ok (.aload_n 0, 1) := by decide +kernel
theorem dX8_negative_10 : decode cX8_negative 10 = .ok (.getfield 16, 3) := by decide +kernel
theorem dX8_negative_13 : decode cX8_negative 13 = .ok (.invokestatic 169, 3) := by decide +kernel
theorem dX8_negative_16 : decode cX8_negative 16 = .ok (.aload_n 0, 1) := by decide +kernel
theorem dX8_negative_17 : decode cX8_negative 17 = .ok (.getfield 16, 3) := by decide +kernel
theorem dX8_negative_20 : decode cX8_negative 20 = .ok (.invokestatic 126, 3) := by decide +kernel
theorem dX8_negative_23 : decode cX8_negative 23 = .ok (.ireturn, 1) := by decide +kernel
set_option maxRecDepth 20000 in
theorem ggX8_stays_X8_many : GoodIn wsX8_stays wsX8_many := goodIn_r _ [4, 5, 6, 3, 7] (by decide +kernel) (by decide +kernel)
set_option maxRecDepth 20000 in
theorem gX8_stays_X8_many : GoodIn wsX8_stays (va_wsS RX8 129 yX8_many wsX8_many) := goodIn_app (goodIn_of _ (by decide +kernel)) ggX8_stays_X8_many
set_option maxRecDepth 20000 in
theorem ggX8_stays_X8_box : GoodIn wsX8_stays wsX8_box := goodIn_r _ [10, 11, 12, 3, 13, 5, 6, 7] (by decide +kernel) (by decide +kernel)
set_option maxRecDepth 20000 in
theorem gX8_stays_X8_box : GoodIn wsX8_stays (va_wsS RX8 155 yX8_box wsX8_box) := goodIn_app (goodIn_of _ (by decide +kernel)) ggX8_stays_X8_box
theorem dX8_stays_0 : decode cX8_stays 0 = .ok (.iload_n 3, 1) := by decide +kernel
theorem dX8_stays_1 : decode cX8_stays 1 = .ok (.ifCond .ne 20, 3) := by decide +kernel
theorem dX8_stays_4 : decode cX8_stays 4 = .ok (.lload_n 1, 1) := by decide +kernel
theorem dX8_stays_5 : decode cX8_stays 5 = .ok (.invokestatic 129, 3) := by decide +kernel
theorem dX8_stays_8 : decode cX8_stays 8 = .ok (.iload 4, 2) := by decide +kernel
theorem dX8_stays_10 : decode cX8_stays 10 = .ok (.if_icmp .lt 7, 3) := by decide +kernel
theorem dX8_stays_13 : decode cX8_stays 13 = .ok (.iconst 1, 1) := by decide +kernel
theorem dX8_stays_14 : decode cX8_stays 14 = .ok (.goto 34, 3) := by decide +kernel
theorem dX8_stays_17 : decode cX8_stays 17 = .ok (.iconst 0, 1) := by decide +kernel
theorem dX8_stays_18 : decode cX8_stays 18 = .ok (.goto 30, 3) := by decide +kernel
theorem dX8_stays_21 : decode cX8_stays 21 = .ok (.aload_n 0, 1) := by decide +kernel
theorem dX8_stays_22 : decode cX8_stays 22 = .ok (.lload_n 1, 1) := by decide +kernel
theorem dX8_stays_23 : decode cX8_stays 23 = .ok (.iconst 1, 1) := by decide +kernel
theorem dX8_stays_24 : decode cX8_stays 24 = .ok (.invokestatic 155, 3) := by decide +kernel
theorem dX8_stays_27 : decode cX8_stays 27 = .ok (.iload 4, 2) := by decide +kernel
theorem dX8_stays_29 : decode cX8_stays 29 = .ok (.if_icmp .ge 14, 3) := by decide +kernel
theorem dX8_stays_32 : decode cX8_stays 32 = .ok (.aload_n 0, 1) := by decide +kernel
theorem dX8_stays_33 : decode cX8_stays 33 = .ok (.lload_n 1, 1) := by decide +kernel
theorem dX8_stays_34 : decode cX8_stays 34 = .ok (.iconst 0, 1) := by decide +kernel
theorem dX8_stays_35 : decode cX8_stays 35 = .ok (.invokestatic 155, 3) := by decide +kernel
theorem dX8_stays_38 : decode cX8_stays 38 = .ok (.iload 4, 2) := by decide +kernel
theorem dX8_stays_40 : decode cX8_stays 40 = .ok (.if_icmp .lt 7, 3) := by decide +kernel
theorem dX8_stays_43 : decode cX8_stays 43 = .ok (.iconst 1, 1) := by decide +kernel
theorem dX8_stays_44 : decode cX8_stays 44 = .ok (.goto 4, 3) := by decide +kernel
theorem dX8_stays_47 : decode cX8_stays 47 = .ok (.iconst 0, 1) := by decide +kernel
theorem dX8_stays_48 : decode cX8_stays 48 = .ok (.ireturn, 1) := by decide +kernel
set_option maxRecDepth 20000 in
theorem ggX8_sifted_X8_part : GoodIn wsX8_sifted wsX8_part := goodIn_r _ [5, 1, 6, 7, 4, 8, 9, 10, 11, 12, 13, 14, 15, 16, 17, 18, 19, 20, 21, 22, 23] (by decide +kernel) (by decide +kernel)
set_option maxRecDepth 20000 in
theorem gX8_sifted_X8_part : GoodIn wsX8_sifted (va_wsS RX8 81 yX8_part wsX8_part) := goodIn_app (goodIn_of _ (by decide +kernel)) ggX8_sifted_X8_part
set_option maxRecDepth 20000 in
theorem ggX8_sifted_X8_stays : GoodIn wsX8_sifted wsX8_stays := goodIn_r _ [26, 27, 28, 4, 29, 12, 13, 14, 30, 31, 32, 9, 10, 11] (by decide +kernel) (by decide +kernel)
set_option maxRecDepth 20000 in
theorem gX8_sifted_X8_stays : GoodIn wsX8_sifted (va_wsS RX8 173 yX8_stays wsX8_stays) := goodIn_app (goodIn_of _ (by decide +kernel)) ggX8_sifted_X8_stays
set_option maxRecDepth 20000 in
theorem ggX8_sifted_X8_level : GoodIn wsX8_sifted wsX8_level := goodIn_r _ [35, 9, 10, 4, 11, 12, 13, 14] (by decide +kernel) (by decide +kernel)
set_option maxRecDepth 20000 in
theorem gX8_sifted_X8_level : GoodIn wsX8_sifted (va_wsS RX8 84 yX8_level wsX8_level) := goodIn_app (goodIn_of _ (by decide +kernel)) ggX8_sifted_X8_level
theorem dX8_sifted_0 : decode cX8_sifted 0 = .ok (.aload_n 0, 1) := by decide +kernel
theorem dX8_sifted_1 : decode cX8_sifted 1 = .ok (.iconst 3, 1) := by decide +kernel
theorem dX8_sifted_2 : decode cX8_sifted 2 = .ok (.iload_n 1, 1) := by decide +kernel
theorem dX8_sifted_3 : decode cX8_sifted 3 = .ok (.iadd, 1) := by decide +kernel
theorem dX8_sifted_4 : decode cX8_sifted 4 = .ok (.iaload, 1) := by decide +kernel
theorem dX8_sifted_5 : decode cX8_sifted 5 = .ok (.istore 4, 2) := by decide +kernel
theorem dX8_sifted_7 : decode cX8_sifted 7 = .ok (.iload 4, 2) := by decide +kernel
theorem dX8_sifted_9 : decode cX8_sifted 9 = .ok (.ifCond .lt 36, 3) := by decide +kernel
theorem dX8_sifted_12 : decode cX8_sifted 12 = .ok (.aload_n 0, 1) := by decide +kernel
theorem dX8_sifted_13 : decode cX8_sifted 13 = .ok (.iload_n 1, 1) := by decide +kernel
theorem dX8_sifted_14 : decode cX8_sifted 14 = .ok (.iload 4, 2) := by decide +kernel
theorem dX8_sifted_16 : decode cX8_sifted 16 = .ok (.invokestatic 81, 3) := by decide +kernel
theorem dX8_sifted_19 : decode cX8_sifted 19 = .ok (.lstore 5, 2) := by decide +kernel
theorem dX8_sifted_21 : decode cX8_sifted 21 = .ok (.aload_n 0, 1) := by decide +kernel
theorem dX8_sifted_22 : decode cX8_sifted 22 = .ok (.lload 5, 2) := by decide +kernel
theorem dX8_sifted_24 : decode cX8_sifted 24 = .ok (.iload_n 2, 1) := by decide +kernel
theorem dX8_sifted_25 : decode cX8_sifted 25 = .ok (.iload_n 3, 1) := by decide +kernel
theorem dX8_sifted_26 : decode cX8_sifted 26 = .ok (.invokestatic 173, 3) := by decide +kernel
theorem dX8_sifted_29 : decode cX8_sifted 29 = .ok (.ifCond .eq 10, 3) := by decide +kernel
theorem dX8_sifted_32 : decode cX8_sifted 32 = .ok (.aload_n 0, 1) := by decide +kernel
theorem dX8_sifted_33 : decode cX8_sifted 33 = .ok (.lload 5, 2) := by decide +kernel
theorem dX8_sifted_35 : decode cX8_sifted 35 = .ok (.invokestatic 84, 3) := by decide +kernel
theorem dX8_sifted_38 : decode cX8_sifted 38 = .ok (.ireturn, 1) := by decide +kernel
theorem dX8_sifted_39 : decode cX8_sifted 39 = .ok (.iinc 4 (-1), 3) := by decide +kernel
theorem dX8_sifted_42 : decode cX8_sifted 42 = .ok (.goto (-35), 3) := by decide +kernel
theorem dX8_sifted_45 : decode cX8_sifted 45 = .ok (.aload_n 0, 1) := by decide +kernel
theorem dX8_sifted_46 : decode cX8_sifted 46 = .ok (.ldc2_w 67, 3) := by decide +kernel
theorem dX8_sifted_49 : decode cX8_sifted 49 = .ok (.invokestatic 84, 3) := by decide +kernel
theorem dX8_sifted_52 : decode cX8_sifted 52 = .ok (.ireturn, 1) := by decide +kernel
set_option maxRecDepth 20000 in
theorem ggX8_goSift_X8_dotsOf : GoodIn wsX8_goSift wsX8_dotsOf := goodIn_r _ [5] (by decide +kernel) (by decide +kernel)
set_option maxRecDepth 20000 in
theorem gX8_goSift_X8_dotsOf : GoodIn wsX8_goSift (va_wsS RX8 55 yX8_dotsOf wsX8_dotsOf) := goodIn_app (goodIn_of _ (by decide +kernel)) ggX8_goSift_X8_dotsOf
set_option maxRecDepth 20000 in
theorem ggX8_goSift_X8_sifted : GoodIn wsX8_goSift wsX8_sifted := goodIn_r _ [8, 9, 10, 11, 4, 12, 13, 14, 15, 2, 3, 5, 16, 17, 18, 19, 20, 21, 22, 23, 24, 25, 26, 27, 28, 29, 30, 31, 32, 33, 34, 35, 36, 37, 38, 39] (by decide +kernel) (by decide +kernel)
set_option maxRecDepth 20000 in
theorem gX8_goSift_X8_sifted : GoodIn wsX8_goSift (va_wsS RX8 177 yX8_sifted wsX8_sifted) := goodIn_app (goodIn_of _ (by decide +kernel)) ggX8_goSift_X8_sifted
theorem dX8_goSift_0 : decode cX8_goSift 0 = .ok (.iconst 0, 1) := by decide +kernel
theorem dX8_goSift_1 : decode cX8_goSift 1 = .ok (.istore 4, 2) := by decide +kernel
theorem dX8_goSift_3 : decode cX8_goSift 3 = .ok (.iconst 0, 1) := by decide +kernel
theorem dX8_goSift_4 : decode cX8_goSift 4 = .ok (.istore 5, 2) := by decide +kernel
theorem dX8_goSift_6 : decode cX8_goSift 6 = .ok (.iload 5, 2) := by decide +kernel
theorem dX8_goSift_8 : decode cX8_goSift 8 = .ok (.aload_n 1, 1) := by decide +kernel
theorem dX8_goSift_9 : decode cX8_goSift 9 = .ok (.invokestatic 55, 3) := by decide +kernel
theorem dX8_goSift_12 : decode cX8_goSift 12 = .ok (.if_icmp .ge 50, 3) := by decide +kernel
theorem dX8_goSift_15 : decode cX8_goSift 15 = .ok (.aload_n 0, 1) := by decide +kernel
theorem dX8_goSift_16 : decode cX8_goSift 16 = .ok (.getfield 22, 3) := by decide +kernel
theorem dX8_goSift_19 : decode cX8_goSift 19 = .ok (.iload 5, 2) := by decide +kernel
theorem dX8_goSift_21 : decode cX8_goSift 21 = .ok (.aload_n 1, 1) := by decide +kernel
theorem dX8_goSift_22 : decode cX8_goSift 22 = .ok (.iload 5, 2) := by decide +kernel
theorem dX8_goSift_24 : decode cX8_goSift 24 = .ok (.iload_n 2, 1) := by decide +kernel
theorem dX8_goSift_25 : decode cX8_goSift 25 = .ok (.iload_n 3, 1) := by decide +kernel
theorem dX8_goSift_26 : decode cX8_goSift 26 = .ok (.invokestatic 177, 3) := by decide +kernel
theorem dX8_goSift_29 : decode cX8_goSift 29 = .ok (.iastore, 1) := by decide +kernel
theorem dX8_goSift_30 : decode cX8_goSift 30 = .ok (.iload 4, 2) := by decide +kernel
theorem dX8_goSift_32 : decode cX8_goSift 32 = .ok (.aload_n 0, 1) := by decide +kernel
theorem dX8_goSift_33 : decode cX8_goSift 33 = .ok (.getfield 22, 3) := by decide +kernel
theorem dX8_goSift_36 : decode cX8_goSift 36 = .ok (.iload 5, 2) := by decide +kernel
theorem dX8_goSift_38 : decode cX8_goSift 38 = .ok (.iaload, 1) := by decide +kernel
theorem dX8_goSift_39 : decode cX8_goSift 39 = .ok (.aload_n 1, 1) := by decide +kernel
theorem dX8_goSift_40 : decode cX8_goSift 40 = .ok (.iconst 3, 1) := by decide +kernel
theorem dX8_goSift_41 : decode cX8_goSift 41 = .ok (.iload 5, 2) := by decide +kernel
theorem dX8_goSift_43 : decode cX8_goSift 43 = .ok (.iadd, 1) := by decide +kernel
theorem dX8_goSift_44 : decode cX8_goSift 44 = .ok (.iaload, 1) := by decide +kernel
theorem dX8_goSift_45 : decode cX8_goSift 45 = .ok (.if_icmp .ne 7, 3) := by decide +kernel
theorem dX8_goSift_48 : decode cX8_goSift 48 = .ok (.iconst 0, 1) := by decide +kernel
theorem dX8_goSift_49 : decode cX8_goSift 49 = .ok (.goto 4, 3) := by decide +kernel
theorem dX8_goSift_52 : decode cX8_goSift 52 = .ok (.iconst 1, 1) := by decide +kernel
theorem dX8_goSift_53 : decode cX8_goSift 53 = .ok (.iadd, 1) := by decide +kernel
theorem dX8_goSift_54 : decode cX8_goSift 54 = .ok (.istore 4, 2) := by decide +kernel
theorem dX8_goSift_56 : decode cX8_goSift 56 = .ok (.iinc 5 1, 3) := by decide +kernel
theorem dX8_goSift_59 : decode cX8_goSift 59 = .ok (.goto (-53), 3) := by decide +kernel
theorem dX8_goSift_62 : decode cX8_goSift 62 = .ok (.iconst 0, 1) := by decide +kernel
theorem dX8_goSift_63 : decode cX8_goSift 63 = .ok (.istore 5, 2) := by decide +kernel
theorem dX8_goSift_65 : decode cX8_goSift 65 = .ok (.iload 5, 2) := by decide +kernel
theorem dX8_goSift_67 : decode cX8_goSift 67 = .ok (.aload_n 1, 1) := by decide +kernel
theorem dX8_goSift_68 : decode cX8_goSift 68 = .ok (.invokestatic 55, 3) := by decide +kernel
theorem dX8_goSift_71 : decode cX8_goSift 71 = .ok (.if_icmp .ge 22, 3) := by decide +kernel
theorem dX8_goSift_74 : decode cX8_goSift 74 = .ok (.aload_n 1, 1) := by decide +kernel
theorem dX8_goSift_75 : decode cX8_goSift 75 = .ok (.iconst 3, 1) := by decide +kernel
theorem dX8_goSift_76 : decode cX8_goSift 76 = .ok (.iload 5, 2) := by decide +kernel
theorem dX8_goSift_78 : decode cX8_goSift 78 = .ok (.iadd, 1) := by decide +kernel
theorem dX8_goSift_79 : decode cX8_goSift 79 = .ok (.aload_n 0, 1) := by decide +kernel
theorem dX8_goSift_80 : decode cX8_goSift 80 = .ok (.getfield 22, 3) := by decide +kernel
theorem dX8_goSift_83 : decode cX8_goSift 83 = .ok (.iload 5, 2) := by decide +kernel
theorem dX8_goSift_85 : decode cX8_goSift 85 = .ok (.iaload, 1) := by decide +kernel
theorem dX8_goSift_86 : decode cX8_goSift 86 = .ok (.iastore, 1) := by decide +kernel
theorem dX8_goSift_87 : decode cX8_goSift 87 = .ok (.iinc 5 1, 3) := by decide +kernel
theorem dX8_goSift_90 : decode cX8_goSift 90 = .ok (.goto (-25), 3) := by decide +kernel
theorem dX8_goSift_93 : decode cX8_goSift 93 = .ok (.iload 4, 2) := by decide +kernel
theorem dX8_goSift_95 : decode cX8_goSift 95 = .ok (.ireturn, 1) := by decide +kernel
set_option maxRecDepth 20000 in
theorem ggX8_sift_X8_in : GoodIn wsX8_sift wsX8_in := goodIn_r _ [8] (by decide +kernel) (by decide +kernel)
set_option maxRecDepth 20000 in
theorem gX8_sift_X8_in : GoodIn wsX8_sift (va_wsS RX8 59 yX8_in wsX8_in) := goodIn_app (goodIn_of _ (by decide +kernel)) ggX8_sift_X8_in
set_option maxRecDepth 20000 in
theorem ggX8_sift_X8_note : GoodIn wsX8_sift wsX8_note := goodIn_r _ [12, 13, 14, 4, 57, 58, 59, 60, 61, 62, 63, 64, 65, 66, 67, 68, 69, 70, 71, 72, 73, 74, 75, 76, 77] (by decide +kernel) (by decide +kernel)
set_option maxRecDepth 20000 in
theorem gX8_sift_X8_note : GoodIn wsX8_sift (wsV RX8 166 RX8 yX8_note wsX8_note) := goodIn_app (goodIn_of _ (by decide +kernel)) ggX8_sift_X8_note
set_option maxRecDepth 20000 in
theorem ggX8_sift_X8_goSift : GoodIn wsX8_sift wsX8_goSift := goodIn_r _ [18, 19, 20, 21, 7, 22, 23, 24, 25, 26, 27, 28, 29, 30, 31, 32, 33, 34, 35, 36, 37, 38, 39, 40, 41, 42, 43, 44, 45, 46, 47, 48, 49, 50, 51, 52, 53, 54, 55, 56, 57, 58, 59, 60, 61, 62, 63, 64, 65, 66, 67, 68, 69, 70, 71, 72, 73, 74, 75, 76, 77] (by decide +kernel) (by decide +kernel)
set_option maxRecDepth 20000 in
theorem gX8_sift_X8_goSift : GoodIn wsX8_sift (wsV RX8 183 RX8 yX8_goSift wsX8_goSift) := goodIn_app (goodIn_of _ (by decide +kernel)) ggX8_sift_X8_goSift
theorem dX8_sift_0 : decode cX8_sift 0 = .ok (.aload_n 0, 1) := by decide +kernel
theorem dX8_sift_1 : decode cX8_sift 1 = .ok (.iconst 0, 1) := by decide +kernel
theorem dX8_sift_2 : decode cX8_sift 2 = .ok (.putfield 47, 3) := by decide +kernel
theorem dX8_sift_5 : decode cX8_sift 5 = .ok (.iload_n 1, 1) := by decide +kernel
theorem dX8_sift_6 : decode cX8_sift 6 = .ok (.i2l, 1) := by decide +kernel
theorem dX8_sift_7 : decode cX8_sift 7 = .ok (.lconst 0, 1) := by decide +kernel
theorem dX8_sift_8 : decode cX8_sift 8 = .ok (.lconst 1, 1) := by decide +kernel
theorem dX8_sift_9 : decode cX8_sift 9 = .ok (.invokestatic 59, 3) := by decide +kernel
theorem dX8_sift_12 : decode cX8_sift 12 = .ok (.ifCond .eq 25, 3) := by decide +kernel
theorem dX8_sift_15 : decode cX8_sift 15 = .ok (.iload_n 2, 1) := by decide +kernel
theorem dX8_sift_16 : decode cX8_sift 16 = .ok (.i2l, 1) := by decide +kernel
theorem dX8_sift_17 : decode cX8_sift 17 = .ok (.lconst 1, 1) := by decide +kernel
theorem dX8_sift_18 : decode cX8_sift 18 = .ok (.iload_n 1, 1) := by decide +kernel
theorem dX8_sift_19 : decode cX8_sift 19 = .ok (.ifCond .ne 9, 3) := by decide +kernel
theorem dX8_sift_22 : decode cX8_sift 22 = .ok (.ldc2_w 181, 3) := by decide +kernel
theorem dX8_sift_25 : decode cX8_sift 25 = .ok (.goto 6, 3) := by decide +kernel
theorem dX8_sift_28 : decode cX8_sift 28 = .ok (.ldc2_w 115, 3) := by decide +kernel
theorem dX8_sift_31 : decode cX8_sift 31 = .ok (.invokestatic 59, 3) := by decide +kernel
theorem dX8_sift_34 : decode cX8_sift 34 = .ok (.ifCond .ne 6, 3) := by decide +kernel
theorem dX8_sift_37 : decode cX8_sift 37 = .ok (.bipush (-2), 2) := by decide +kernel
theorem dX8_sift_39 : decode cX8_sift 39 = .ok (.ireturn, 1) := by decide +kernel
theorem dX8_sift_40 : decode cX8_sift 40 = .ok (.aload_n 0, 1) := by decide +kernel
theorem dX8_sift_41 : decode cX8_sift 41 = .ok (.invokevirtual 166, 3) := by decide +kernel
theorem dX8_sift_44 : decode cX8_sift 44 = .ok (.aload_n 0, 1) := by decide +kernel
theorem dX8_sift_45 : decode cX8_sift 45 = .ok (.aload_n 0, 1) := by decide +kernel
theorem dX8_sift_46 : decode cX8_sift 46 = .ok (.getfield 16, 3) := by decide +kernel
theorem dX8_sift_49 : decode cX8_sift 49 = .ok (.iload_n 1, 1) := by decide +kernel
theorem dX8_sift_50 : decode cX8_sift 50 = .ok (.iload_n 2, 1) := by decide +kernel
theorem dX8_sift_51 : decode cX8_sift 51 = .ok (.invokevirtual 183, 3) := by decide +kernel
theorem dX8_sift_54 : decode cX8_sift 54 = .ok (.ireturn, 1) := by decide +kernel
theorem dX8_undo_0 : decode cX8_undo 0 = .ok (.aload_n 0, 1) := by decide +kernel
theorem dX8_undo_1 : decode cX8_undo 1 = .ok (.iconst 0, 1) := by decide +kernel
theorem dX8_undo_2 : decode cX8_undo 2 = .ok (.putfield 47, 3) := by decide +kernel
theorem dX8_undo_5 : decode cX8_undo 5 = .ok (.aload_n 0, 1) := by decide +kernel
theorem dX8_undo_6 : decode cX8_undo 6 = .ok (.getfield 123, 3) := by decide +kernel
theorem dX8_undo_9 : decode cX8_undo 9 = .ok (.ifCond .ne 6, 3) := by decide +kernel
theorem dX8_undo_12 : decode cX8_undo 12 = .ok (.bipush (-3), 2) := by decide +kernel
theorem dX8_undo_14 : decode cX8_undo 14 = .ok (.ireturn, 1) := by decide +kernel
theorem dX8_undo_15 : decode cX8_undo 15 = .ok (.aload_n 0, 1) := by decide +kernel
theorem dX8_undo_16 : decode cX8_undo 16 = .ok (.dup, 1) := by decide +kernel
theorem dX8_undo_17 : decode cX8_undo 17 = .ok (.getfield 123, 3) := by decide +kernel
theorem dX8_undo_20 : decode cX8_undo 20 = .ok (.iconst 1, 1) := by decide +kernel
theorem dX8_undo_21 : decode cX8_undo 21 = .ok (.isub, 1) := by decide +kernel
theorem dX8_undo_22 : decode cX8_undo 22 = .ok (.putfield 123, 3) := by decide +kernel
theorem dX8_undo_25 : decode cX8_undo 25 = .ok (.iconst 0, 1) := by decide +kernel
theorem dX8_undo_26 : decode cX8_undo 26 = .ok (.istore_n 1, 1) := by decide +kernel
theorem dX8_undo_27 : decode cX8_undo 27 = .ok (.iload_n 1, 1) := by decide +kernel
theorem dX8_undo_28 : decode cX8_undo 28 = .ok (.bipush 39, 2) := by decide +kernel
theorem dX8_undo_30 : decode cX8_undo 30 = .ok (.if_icmp .ge 29, 3) := by decide +kernel
theorem dX8_undo_33 : decode cX8_undo 33 = .ok (.aload_n 0, 1) := by decide +kernel
theorem dX8_undo_34 : decode cX8_undo 34 = .ok (.getfield 16, 3) := by decide +kernel
theorem dX8_undo_37 : decode cX8_undo 37 = .ok (.iload_n 1, 1) := by decide +kernel
theorem dX8_undo_38 : decode cX8_undo 38 = .ok (.aload_n 0, 1) := by decide +kernel
theorem dX8_undo_39 : decode cX8_undo 39 = .ok (.getfield 25, 3) := by decide +kernel
theorem dX8_undo_42 : decode cX8_undo 42 = .ok (.bipush 39, 2) := by decide +kernel
theorem dX8_undo_44 : decode cX8_undo 44 = .ok (.aload_n 0, 1) := by decide +kernel
theorem dX8_undo_45 : decode cX8_undo 45 = .ok (.getfield 123, 3) := by decide +kernel
theorem dX8_undo_48 : decode cX8_undo 48 = .ok (.imul, 1) := by decide +kernel
theorem dX8_undo_49 : decode cX8_undo 49 = .ok (.iload_n 1, 1) := by decide +kernel
theorem dX8_undo_50 : decode cX8_undo 50 = .ok (.iadd, 1) := by decide +kernel
theorem dX8_undo_51 : decode cX8_undo 51 = .ok (.iaload, 1) := by decide +kernel
theorem dX8_undo_52 : decode cX8_undo 52 = .ok (.iastore, 1) := by decide +kernel
theorem dX8_undo_53 : decode cX8_undo 53 = .ok (.iinc 1 1, 3) := by decide +kernel
theorem dX8_undo_56 : decode cX8_undo 56 = .ok (.goto (-29), 3) := by decide +kernel
theorem dX8_undo_59 : decode cX8_undo 59 = .ok (.aload_n 0, 1) := by decide +kernel
theorem dX8_undo_60 : decode cX8_undo 60 = .ok (.getfield 123, 3) := by decide +kernel
theorem dX8_undo_63 : decode cX8_undo 63 = .ok (.ireturn, 1) := by decide +kernel
set_option maxRecDepth 20000 in
theorem ggX8_pass_X8_noDot : GoodIn wsX8_pass wsX8_noDot := goodIn_r _ [7, 2, 8, 9, 6, 10, 11, 12, 13, 33, 34, 35, 36, 37, 38, 39, 40, 41, 42, 43, 44, 45, 46, 47, 48, 49, 50, 51, 52, 53] (by decide +kernel) (by decide +kernel)
set_option maxRecDepth 20000 in
theorem gX8_pass_X8_noDot : GoodIn wsX8_pass (wsV RX8 148 RX8 yX8_noDot wsX8_noDot) := goodIn_app (goodIn_of _ (by decide +kernel)) ggX8_pass_X8_noDot
set_option maxRecDepth 20000 in
theorem ggX8_pass_X8_part : GoodIn wsX8_pass wsX8_part := goodIn_r _ [16, 17, 18, 19, 6, 20, 8, 9, 10, 21, 22, 23, 24, 25, 26, 27, 28, 29, 30, 31, 32] (by decide +kernel) (by decide +kernel)
set_option maxRecDepth 20000 in
theorem gX8_pass_X8_part : GoodIn wsX8_pass (va_wsS RX8 81 yX8_part wsX8_part) := goodIn_app (goodIn_of _ (by decide +kernel)) ggX8_pass_X8_part
set_option maxRecDepth 20000 in
theorem ggX8_pass_X8_has : GoodIn wsX8_pass wsX8_has := goodIn_r _ [23] (by decide +kernel) (by decide +kernel)
set_option maxRecDepth 20000 in
theorem gX8_pass_X8_has : GoodIn wsX8_pass (va_wsS RX8 51 yX8_has wsX8_has) := goodIn_app (goodIn_of _ (by decide +kernel)) ggX8_pass_X8_has
theorem dX8_pass_0 : decode cX8_pass 0 = .ok (.aload_n 0, 1) := by decide +kernel
theorem dX8_pass_1 : decode cX8_pass 1 = .ok (.iconst 0, 1) := by decide +kernel
theorem dX8_pass_2 : decode cX8_pass 2 = .ok (.putfield 47, 3) := by decide +kernel
theorem dX8_pass_5 : decode cX8_pass 5 = .ok (.aload_n 0, 1) := by decide +kernel
theorem dX8_pass_6 : decode cX8_pass 6 = .ok (.iload_n 1, 1) := by decide +kernel
theorem dX8_pass_7 : decode cX8_pass 7 = .ok (.invokevirtual 148, 3) := by decide +kernel
theorem dX8_pass_10 : decode cX8_pass 10 = .ok (.ifCond .ne 11, 3) := by decide +kernel
theorem dX8_pass_13 : decode cX8_pass 13 = .ok (.aload_n 0, 1) := by decide +kernel
theorem dX8_pass_14 : decode cX8_pass 14 = .ok (.iload_n 2, 1) := by decide +kernel
theorem dX8_pass_15 : decode cX8_pass 15 = .ok (.invokevirtual 148, 3) := by decide +kernel
theorem dX8_pass_18 : decode cX8_pass 18 = .ok (.ifCond .eq 5, 3) := by decide +kernel
theorem dX8_pass_21 : decode cX8_pass 21 = .ok (.iconst (-1), 1) := by decide +kernel
theorem dX8_pass_22 : decode cX8_pass 22 = .ok (.ireturn, 1) := by decide +kernel
theorem dX8_pass_23 : decode cX8_pass 23 = .ok (.bipush 9, 2) := by decide +kernel
theorem dX8_pass_25 : decode cX8_pass 25 = .ok (.istore_n 3, 1) := by decide +kernel
theorem dX8_pass_26 : decode cX8_pass 26 = .ok (.aload_n 0, 1) := by decide +kernel
theorem dX8_pass_27 : decode cX8_pass 27 = .ok (.getfield 16, 3) := by decide +kernel
theorem dX8_pass_30 : decode cX8_pass 30 = .ok (.iload_n 1, 1) := by decide +kernel
theorem dX8_pass_31 : decode cX8_pass 31 = .ok (.iload_n 3, 1) := by decide +kernel
theorem dX8_pass_32 : decode cX8_pass 32 = .ok (.invokestatic 81, 3) := by decide +kernel
theorem dX8_pass_35 : decode cX8_pass 35 = .ok (.iload_n 2, 1) := by decide +kernel
theorem dX8_pass_36 : decode cX8_pass 36 = .ok (.invokestatic 51, 3) := by decide +kernel
theorem dX8_pass_39 : decode cX8_pass 39 = .ok (.ifCond .ne 9, 3) := by decide +kernel
theorem dX8_pass_42 : decode cX8_pass 42 = .ok (.iinc 3 (-1), 3) := by decide +kernel
theorem dX8_pass_45 : decode cX8_pass 45 = .ok (.goto (-19), 3) := by decide +kernel
theorem dX8_pass_48 : decode cX8_pass 48 = .ok (.iload_n 3, 1) := by decide +kernel
theorem dX8_pass_49 : decode cX8_pass 49 = .ok (.ireturn, 1) := by decide +kernel
theorem dX8_divisor_0 : decode cX8_divisor 0 = .ok (.iload_n 0, 1) := by decide +kernel
theorem dX8_divisor_1 : decode cX8_divisor 1 = .ok (.ifCond .ge 8, 3) := by decide +kernel
theorem dX8_divisor_4 : decode cX8_divisor 4 = .ok (.iload_n 0, 1) := by decide +kernel
theorem dX8_divisor_5 : decode cX8_divisor 5 = .ok (.ineg, 1) := by decide +kernel
theorem dX8_divisor_6 : decode cX8_divisor 6 = .ok (.goto 4, 3) := by decide +kernel
theorem dX8_divisor_9 : decode cX8_divisor 9 = .ok (.iload_n 0, 1) := by decide +kernel
theorem dX8_divisor_10 : decode cX8_divisor 10 = .ok (.istore_n 2, 1) := by decide +kernel
theorem dX8_divisor_11 : decode cX8_divisor 11 = .ok (.iload_n 1, 1) := by decide +kernel
theorem dX8_divisor_12 : decode cX8_divisor 12 = .ok (.istore_n 3, 1) := by decide +kernel
theorem dX8_divisor_13 : decode cX8_divisor 13 = .ok (.iload_n 3, 1) := by decide +kernel
theorem dX8_divisor_14 : decode cX8_divisor 14 = .ok (.ifCond .eq 16, 3) := by decide +kernel
theorem dX8_divisor_17 : decode cX8_divisor 17 = .ok (.iload_n 2, 1) := by decide +kernel
theorem dX8_divisor_18 : decode cX8_divisor 18 = .ok (.iload_n 3, 1) := by decide +kernel
theorem dX8_divisor_19 : decode cX8_divisor 19 = .ok (.irem, 1) := by decide +kernel
theorem dX8_divisor_20 : decode cX8_divisor 20 = .ok (.istore 4, 2) := by decide +kernel
theorem dX8_divisor_22 : decode cX8_divisor 22 = .ok (.iload_n 3, 1) := by decide +kernel
theorem dX8_divisor_23 : decode cX8_divisor 23 = .ok (.istore_n 2, 1) := by decide +kernel
theorem dX8_divisor_24 : decode cX8_divisor 24 = .ok (.iload 4, 2) := by decide +kernel
theorem dX8_divisor_26 : decode cX8_divisor 26 = .ok (.istore_n 3, 1) := by decide +kernel
theorem dX8_divisor_27 : decode cX8_divisor 27 = .ok (.goto (-14), 3) := by decide +kernel
theorem dX8_divisor_30 : decode cX8_divisor 30 = .ok (.iload_n 2, 1) := by decide +kernel
theorem dX8_divisor_31 : decode cX8_divisor 31 = .ok (.ireturn, 1) := by decide +kernel
set_option maxRecDepth 20000 in
theorem ggX8_fraction_X8_divisor : GoodIn wsX8_fraction wsX8_divisor := goodIn_r _ [4] (by decide +kernel) (by decide +kernel)
set_option maxRecDepth 20000 in
theorem gX8_fraction_X8_divisor : GoodIn wsX8_fraction (va_wsS RX8 187 yX8_divisor wsX8_divisor) := goodIn_app (goodIn_of _ (by decide +kernel)) ggX8_fraction_X8_divisor
theorem dX8_fraction_0 : decode cX8_fraction 0 = .ok (.iload_n 0, 1) := by decide +kernel
theorem dX8_fraction_1 : decode cX8_fraction 1 = .ok (.iload_n 1, 1) := by decide +kernel
theorem dX8_fraction_2 : decode cX8_fraction 2 = .ok (.invokestatic 187, 3) := by decide +kernel
theorem dX8_fraction_5 : decode cX8_fraction 5 = .ok (.istore_n 3, 1) := by decide +kernel
theorem dX8_fraction_6 : decode cX8_fraction 6 = .ok (.iload_n 2, 1) := by decide +kernel
theorem dX8_fraction_7 : decode cX8_fraction 7 = .ok (.ifCond .eq 9, 3) := by decide +kernel
theorem dX8_fraction_10 : decode cX8_fraction 10 = .ok (.iload_n 0, 1) := by decide +kernel
theorem dX8_fraction_11 : decode cX8_fraction 11 = .ok (.iload_n 3, 1) := by decide +kernel
theorem dX8_fraction_12 : decode cX8_fraction 12 = .ok (.idiv, 1) := by decide +kernel
theorem dX8_fraction_13 : decode cX8_fraction 13 = .ok (.goto 6, 3) := by decide +kernel
theorem dX8_fraction_16 : decode cX8_fraction 16 = .ok (.iload_n 1, 1) := by decide +kernel
theorem dX8_fraction_17 : decode cX8_fraction 17 = .ok (.iload_n 3, 1) := by decide +kernel
theorem dX8_fraction_18 : decode cX8_fraction 18 = .ok (.idiv, 1) := by decide +kernel
theorem dX8_fraction_19 : decode cX8_fraction 19 = .ok (.ireturn, 1) := by decide +kernel
set_option maxRecDepth 20000 in
theorem ggX8_layGrown_X8_level : GoodIn wsX8_layGrown wsX8_level := goodIn_r _ [7, 8, 9, 6, 10, 11, 12, 13] (by decide +kernel) (by decide +kernel)
set_option maxRecDepth 20000 in
theorem gX8_layGrown_X8_level : GoodIn wsX8_layGrown (va_wsS RX8 84 yX8_level wsX8_level) := goodIn_app (goodIn_of _ (by decide +kernel)) ggX8_layGrown_X8_level
set_option maxRecDepth 20000 in
theorem ggX8_layGrown_X8_head : GoodIn wsX8_layGrown wsX8_head := goodIn_r _ [16, 4, 5, 6, 7, 8, 9, 10, 11, 12, 13] (by decide +kernel) (by decide +kernel)
set_option maxRecDepth 20000 in
theorem gX8_layGrown_X8_head : GoodIn wsX8_layGrown (va_wsS RX8 88 yX8_head wsX8_head) := goodIn_app (goodIn_of _ (by decide +kernel)) ggX8_layGrown_X8_head
set_option maxRecDepth 20000 in
theorem ggX8_layGrown_X8_part : GoodIn wsX8_layGrown wsX8_part := goodIn_r _ [19, 20, 21, 22, 6, 23, 8, 9, 10, 11, 12, 13, 24, 25, 26, 27, 28, 29, 30, 31, 32] (by decide +kernel) (by decide +kernel)
set_option maxRecDepth 20000 in
theorem gX8_layGrown_X8_part : GoodIn wsX8_layGrown (va_wsS RX8 81 yX8_part wsX8_part) := goodIn_app (goodIn_of _ (by decide +kernel)) ggX8_layGrown_X8_part
set_option maxRecDepth 20000 in
theorem ggX8_layGrown_X8_many : GoodIn wsX8_layGrown wsX8_many := goodIn_r _ [35, 11, 12, 6, 13] (by decide +kernel) (by decide +kernel)
set_option maxRecDepth 20000 in
theorem gX8_layGrown_X8_many : GoodIn wsX8_layGrown (va_wsS RX8 129 yX8_many wsX8_many) := goodIn_app (goodIn_of _ (by decide +kernel)) ggX8_layGrown_X8_many
theorem dX8_layGrown_0 : decode cX8_layGrown 0 = .ok (.aload_n 0, 1) := by decide +kernel
theorem dX8_layGrown_1 : decode cX8_layGrown 1 = .ok (.getfield 16, 3) := by decide +kernel
theorem dX8_layGrown_4 : decode cX8_layGrown 4 = .ok (.lload_n 1, 1) := by decide +kernel
theorem dX8_layGrown_5 : decode cX8_layGrown 5 = .ok (.invokestatic 84, 3) := by decide +kernel
theorem dX8_layGrown_8 : decode cX8_layGrown 8 = .ok (.iload_n 3, 1) := by decide +kernel
theorem dX8_layGrown_9 : decode cX8_layGrown 9 = .ok (.isub, 1) := by decide +kernel
theorem dX8_layGrown_10 : decode cX8_layGrown 10 = .ok (.istore 4, 2) := by decide +kernel
theorem dX8_layGrown_12 : decode cX8_layGrown 12 = .ok (.aload_n 0, 1) := by decide +kernel
theorem dX8_layGrown_13 : decode cX8_layGrown 13 = .ok (.aload_n 0, 1) := by decide +kernel
theorem dX8_layGrown_14 : decode cX8_layGrown 14 = .ok (.getfield 16, 3) := by decide +kernel
theorem dX8_layGrown_17 : decode cX8_layGrown 17 = .ok (.aload_n 0, 1) := by decide +kernel
theorem dX8_layGrown_18 : decode cX8_layGrown 18 = .ok (.getfield 16, 3) := by decide +kernel
theorem dX8_layGrown_21 : decode cX8_layGrown 21 = .ok (.lload_n 1, 1) := by decide +kernel
theorem dX8_layGrown_22 : decode cX8_layGrown 22 = .ok (.invokestatic 88, 3) := by decide +kernel
theorem dX8_layGrown_25 : decode cX8_layGrown 25 = .ok (.iload 4, 2) := by decide +kernel
theorem dX8_layGrown_27 : decode cX8_layGrown 27 = .ok (.ifCond .ge 7, 3) := by decide +kernel
theorem dX8_layGrown_30 : decode cX8_layGrown 30 = .ok (.iconst 0, 1) := by decide +kernel
theorem dX8_layGrown_31 : decode cX8_layGrown 31 = .ok (.goto 5, 3) := by decide +kernel
theorem dX8_layGrown_34 : decode cX8_layGrown 34 = .ok (.iload 4, 2) := by decide +kernel
theorem dX8_layGrown_36 : decode cX8_layGrown 36 = .ok (.invokestatic 81, 3) := by decide +kernel
theorem dX8_layGrown_39 : decode cX8_layGrown 39 = .ok (.invokestatic 129, 3) := by decide +kernel
theorem dX8_layGrown_42 : decode cX8_layGrown 42 = .ok (.lload_n 1, 1) := by decide +kernel
theorem dX8_layGrown_43 : decode cX8_layGrown 43 = .ok (.invokestatic 129, 3) := by decide +kernel
theorem dX8_layGrown_46 : decode cX8_layGrown 46 = .ok (.isub, 1) := by decide +kernel
theorem dX8_layGrown_47 : decode cX8_layGrown 47 = .ok (.putfield 191, 3) := by decide +kernel
theorem dX8_layGrown_50 : decode cX8_layGrown 50 = .ok (.aload_n 0, 1) := by decide +kernel
theorem dX8_layGrown_51 : decode cX8_layGrown 51 = .ok (.lload_n 1, 1) := by decide +kernel
theorem dX8_layGrown_52 : decode cX8_layGrown 52 = .ok (.invokestatic 129, 3) := by decide +kernel
theorem dX8_layGrown_55 : decode cX8_layGrown 55 = .ok (.putfield 194, 3) := by decide +kernel
theorem dX8_layGrown_58 : decode cX8_layGrown 58 = .ok (.return_, 1) := by decide +kernel
set_option maxRecDepth 20000 in
theorem ggX8_grows_X8_noDot : GoodIn wsX8_grows wsX8_noDot := goodIn_r _ [10, 3, 11, 12, 9, 13, 14, 15, 16, 58, 59, 60, 61, 62, 63, 64, 65, 66, 67, 68, 69, 70, 71, 72, 73, 74, 75, 76, 77, 78] (by decide +kernel) (by decide +kernel)
set_option maxRecDepth 20000 in
theorem gX8_grows_X8_noDot : GoodIn wsX8_grows (wsV RX8 148 RX8 yX8_noDot wsX8_noDot) := goodIn_app (goodIn_of _ (by decide +kernel)) ggX8_grows_X8_noDot
set_option maxRecDepth 20000 in
theorem ggX8_grows_X8_in : GoodIn wsX8_grows wsX8_in := goodIn_r _ [16] (by decide +kernel) (by decide +kernel)
set_option maxRecDepth 20000 in
theorem gX8_grows_X8_in : GoodIn wsX8_grows (va_wsS RX8 59 yX8_in wsX8_in) := goodIn_app (goodIn_of _ (by decide +kernel)) ggX8_grows_X8_in
set_option maxRecDepth 20000 in
theorem ggX8_grows_X8_nodeOf : GoodIn wsX8_grows wsX8_nodeOf := goodIn_r _ [19, 20, 21, 9, 22, 23, 24, 25, 26, 11, 12, 13, 27, 28, 29, 30, 31, 32, 33, 34, 35, 36, 37, 38] (by decide +kernel) (by decide +kernel)
set_option maxRecDepth 20000 in
theorem gX8_grows_X8_nodeOf : GoodIn wsX8_grows (va_wsS RX8 91 yX8_nodeOf wsX8_nodeOf) := goodIn_app (goodIn_of _ (by decide +kernel)) ggX8_grows_X8_nodeOf
set_option maxRecDepth 20000 in
theorem ggX8_grows_X8_layGrown : GoodIn wsX8_grows wsX8_layGrown := goodIn_r _ [42, 3, 4, 5, 43, 44, 9, 45, 11, 12, 13, 27, 28, 29, 46, 47, 48, 20, 21, 22, 23, 24, 25, 26, 30, 31, 32, 33, 34, 35, 36, 37, 38, 49, 50, 51, 58, 59, 60, 61, 62, 63, 64, 65, 66, 67, 68, 69, 70, 71, 72, 73, 74, 75, 76, 77, 78] (by decide +kernel) (by decide +kernel)
set_option maxRecDepth 20000 in
theorem gX8_grows_X8_layGrown : GoodIn wsX8_grows (wsV RX8 197 RX8 yX8_layGrown wsX8_layGrown) := goodIn_app (goodIn_of _ (by decide +kernel)) ggX8_grows_X8_layGrown
set_option maxRecDepth 20000 in
theorem ggX8_grows_X8_fraction : GoodIn wsX8_grows wsX8_fraction := goodIn_r _ [54, 55, 56, 9, 57] (by decide +kernel) (by decide +kernel)
set_option maxRecDepth 20000 in
theorem gX8_grows_X8_fraction : GoodIn wsX8_grows (va_wsS RX8 201 yX8_fraction wsX8_fraction) := goodIn_app (goodIn_of _ (by decide +kernel)) ggX8_grows_X8_fraction
theorem dX8_grows_0 : decode cX8_grows 0 = .ok (.aload_n 0, 1) := by decide +kernel
theorem dX8_grows_1 : decode cX8_grows 1 = .ok (.iconst 0, 1) := by decide +kernel
theorem dX8_grows_2 : decode cX8_grows 2 = .ok (.putfield 47, 3) := by decide +kernel
theorem dX8_grows_5 : decode cX8_grows 5 = .ok (.aload_n 0, 1) := by decide +kernel
theorem dX8_grows_6 : decode cX8_grows 6 = .ok (.iload_n 1, 1) := by decide +kernel
theorem dX8_grows_7 : decode cX8_grows 7 = .ok (.invokevirtual 148, 3) := by decide +kernel
theorem dX8_grows_10 : decode cX8_grows 10 = .ok (.ifCond .eq 5, 3) := by decide +kernel
theorem dX8_grows_13 : decode cX8_grows 13 = .ok (.iconst (-1), 1) := by decide +kernel
theorem dX8_grows_14 : decode cX8_grows 14 = .ok (.ireturn, 1) := by decide +kernel
theorem dX8_grows_15 : decode cX8_grows 15 = .ok (.iload_n 2, 1) := by decide +kernel
theorem dX8_grows_16 : decode cX8_grows 16 = .ok (.i2l, 1) := by decide +kernel
theorem dX8_grows_17 : decode cX8_grows 17 = .ok (.lconst 1, 1) := by decide +kernel
theorem dX8_grows_18 : decode cX8_grows 18 = .ok (.ldc2_w 117, 3) := by decide +kernel
theorem dX8_grows_21 : decode cX8_grows 21 = .ok (.invokestatic 59, 3) := by decide +kernel
theorem dX8_grows_24 : decode cX8_grows 24 = .ok (.ifCond .ne 6, 3) := by decide +kernel
theorem dX8_grows_27 : decode cX8_grows 27 = .ok (.bipush (-2), 2) := by decide +kernel
theorem dX8_grows_29 : decode cX8_grows 29 = .ok (.ireturn, 1) := by decide +kernel
theorem dX8_grows_30 : decode cX8_grows 30 = .ok (.aload_n 0, 1) := by decide +kernel
theorem dX8_grows_31 : decode cX8_grows 31 = .ok (.aload_n 0, 1) := by decide +kernel
theorem dX8_grows_32 : decode cX8_grows 32 = .ok (.getfield 16, 3) := by decide +kernel
theorem dX8_grows_35 : decode cX8_grows 35 = .ok (.iload_n 1, 1) := by decide +kernel
theorem dX8_grows_36 : decode cX8_grows 36 = .ok (.invokestatic 91, 3) := by decide +kernel
theorem dX8_grows_39 : decode cX8_grows 39 = .ok (.iload_n 2, 1) := by decide +kernel
theorem dX8_grows_40 : decode cX8_grows 40 = .ok (.invokevirtual 197, 3) := by decide +kernel
theorem dX8_grows_43 : decode cX8_grows 43 = .ok (.aload_n 0, 1) := by decide +kernel
theorem dX8_grows_44 : decode cX8_grows 44 = .ok (.getfield 191, 3) := by decide +kernel
theorem dX8_grows_47 : decode cX8_grows 47 = .ok (.aload_n 0, 1) := by decide +kernel
theorem dX8_grows_48 : decode cX8_grows 48 = .ok (.getfield 194, 3) := by decide +kernel
theorem dX8_grows_51 : decode cX8_grows 51 = .ok (.iload_n 3, 1) := by decide +kernel
theorem dX8_grows_52 : decode cX8_grows 52 = .ok (.invokestatic 201, 3) := by decide +kernel
theorem dX8_grows_55 : decode cX8_grows 55 = .ok (.ireturn, 1) := by decide +kernel
set_option maxRecDepth 20000 in
theorem ggX8_growsLess_X8_layGrown : GoodIn wsX8_growsLess wsX8_layGrown := goodIn_r _ [7, 8, 1, 2, 9, 10, 6, 11, 12, 13, 14, 15, 16, 17, 18, 19, 20, 21, 22, 23, 24, 25, 26, 27, 28, 29, 30, 31, 32, 33, 34, 35, 36, 37, 38, 39, 40, 41, 42, 43, 44, 45, 46, 47, 48, 49, 50, 51, 52, 53, 54, 55, 56, 57, 58, 59, 60] (by decide +kernel) (by decide +kernel)
set_option maxRecDepth 20000 in
theorem gX8_growsLess_X8_layGrown : GoodIn wsX8_growsLess (wsV RX8 197 RX8 yX8_layGrown wsX8_layGrown) := goodIn_app (goodIn_of _ (by decide +kernel)) ggX8_growsLess_X8_layGrown
theorem dX8_growsLess_0 : decode cX8_growsLess 0 = .ok (.aload_n 0, 1) := by decide +kernel
theorem dX8_growsLess_1 : decode cX8_growsLess 1 = .ok (.lload_n 1, 1) := by decide +kernel
theorem dX8_growsLess_2 : decode cX8_growsLess 2 = .ok (.iload 5, 2) := by decide +kernel
theorem dX8_growsLess_4 : decode cX8_growsLess 4 = .ok (.invokevirtual 197, 3) := by decide +kernel
theorem dX8_growsLess_7 : decode cX8_growsLess 7 = .ok (.aload_n 0, 1) := by decide +kernel
theorem dX8_growsLess_8 : decode cX8_growsLess 8 = .ok (.getfield 191, 3) := by decide +kernel
theorem dX8_growsLess_11 : decode cX8_growsLess 11 = .ok (.istore 6, 2) := by decide +kernel
theorem dX8_growsLess_13 : decode cX8_growsLess 13 = .ok (.aload_n 0, 1) := by decide +kernel
theorem dX8_growsLess_14 : decode cX8_growsLess 14 = .ok (.getfield 194, 3) := by decide +kernel
theorem dX8_growsLess_17 : decode cX8_growsLess 17 = .ok (.istore 7, 2) := by decide +kernel
theorem dX8_growsLess_19 : decode cX8_growsLess 19 = .ok (.aload_n 0, 1) := by decide +kernel
theorem dX8_growsLess_20 : decode cX8_growsLess 20 = .ok (.lload_n 3, 1) := by decide +kernel
theorem dX8_growsLess_21 : decode cX8_growsLess 21 = .ok (.iload 5, 2) := by decide +kernel
theorem dX8_growsLess_23 : decode cX8_growsLess 23 = .ok (.invokevirtual 197, 3) := by decide +kernel
theorem dX8_growsLess_26 : decode cX8_growsLess 26 = .ok (.iload 6, 2) := by decide +kernel
theorem dX8_growsLess_28 : decode cX8_growsLess 28 = .ok (.aload_n 0, 1) := by decide +kernel
theorem dX8_growsLess_29 : decode cX8_growsLess 29 = .ok (.getfield 194, 3) := by decide +kernel
theorem dX8_growsLess_32 : decode cX8_growsLess 32 = .ok (.imul, 1) := by decide +kernel
theorem dX8_growsLess_33 : decode cX8_growsLess 33 = .ok (.aload_n 0, 1) := by decide +kernel
theorem dX8_growsLess_34 : decode cX8_growsLess 34 = .ok (.getfield 191, 3) := by decide +kernel
theorem dX8_growsLess_37 : decode cX8_growsLess 37 = .ok (.iload 7, 2) := by decide +kernel
theorem dX8_growsLess_39 : decode cX8_growsLess 39 = .ok (.imul, 1) := by decide +kernel
theorem dX8_growsLess_40 : decode cX8_growsLess 40 = .ok (.if_icmp .gt 7, 3) := by decide +kernel
theorem dX8_growsLess_43 : decode cX8_growsLess 43 = .ok (.iconst 1, 1) := by decide +kernel
theorem dX8_growsLess_44 : decode cX8_growsLess 44 = .ok (.goto 4, 3) := by decide +kernel
theorem dX8_growsLess_47 : decode cX8_growsLess 47 = .ok (.iconst 0, 1) := by decide +kernel
theorem dX8_growsLess_48 : decode cX8_growsLess 48 = .ok (.ireturn, 1) := by decide +kernel
set_option maxRecDepth 20000 in
theorem ggX8_isSteady_X8_parent : GoodIn wsX8_isSteady wsX8_parent := goodIn_r _ [5, 6, 7, 4, 8, 9, 10, 11, 12, 13, 14, 15, 16, 17, 18, 19, 20, 21, 22, 23, 24, 25, 26, 27, 28, 29, 30, 31, 32, 33] (by decide +kernel) (by decide +kernel)
set_option maxRecDepth 20000 in
theorem gX8_isSteady_X8_parent : GoodIn wsX8_isSteady (va_wsS RX8 99 yX8_parent wsX8_parent) := goodIn_app (goodIn_of _ (by decide +kernel)) ggX8_isSteady_X8_parent
set_option maxRecDepth 20000 in
theorem ggX8_isSteady_X8_growsLess : GoodIn wsX8_isSteady wsX8_growsLess := goodIn_r _ [37, 38, 39, 40, 41, 42, 4, 43, 1, 9, 10, 11, 12, 13, 14, 15, 16, 17, 6, 7, 8, 18, 19, 20, 21, 22, 23, 24, 25, 26, 27, 28, 29, 30, 31, 32, 33, 44, 45, 46, 53, 54, 55, 56, 57, 58, 59, 60, 61, 62, 63, 64, 65, 66, 67, 68, 69, 70, 71, 72, 73] (by decide +kernel) (by decide +kernel)
set_option maxRecDepth 20000 in
theorem gX8_isSteady_X8_growsLess : GoodIn wsX8_isSteady (wsV RX8 205 RX8 yX8_growsLess wsX8_growsLess) := goodIn_app (goodIn_of _ (by decide +kernel)) ggX8_isSteady_X8_growsLess
set_option maxRecDepth 20000 in
theorem ggX8_isSteady_X8_dotsOf : GoodIn wsX8_isSteady wsX8_dotsOf := goodIn_r _ [14] (by decide +kernel) (by decide +kernel)
set_option maxRecDepth 20000 in
theorem gX8_isSteady_X8_dotsOf : GoodIn wsX8_isSteady (va_wsS RX8 55 yX8_dotsOf wsX8_dotsOf) := goodIn_app (goodIn_of _ (by decide +kernel)) ggX8_isSteady_X8_dotsOf
set_option maxRecDepth 20000 in
theorem ggX8_isSteady_X8_has : GoodIn wsX8_isSteady wsX8_has := goodIn_r _ [17] (by decide +kernel) (by decide +kernel)
set_option maxRecDepth 20000 in
theorem gX8_isSteady_X8_has : GoodIn wsX8_isSteady (va_wsS RX8 51 yX8_has wsX8_has) := goodIn_app (goodIn_of _ (by decide +kernel)) ggX8_isSteady_X8_has
set_option maxRecDepth 20000 in
theorem ggX8_isSteady_X8_isHead : GoodIn wsX8_isSteady wsX8_isHead := goodIn_r _ [49, 50, 51, 4, 52, 18, 19, 20, 21, 22, 23, 24, 12, 13, 14, 15, 16, 17, 25, 26, 27, 28, 29, 30, 31, 32, 33, 6, 7, 8, 9, 10, 11] (by decide +kernel) (by decide +kernel)
set_option maxRecDepth 20000 in
theorem gX8_isSteady_X8_isHead : GoodIn wsX8_isSteady (va_wsS RX8 95 yX8_isHead wsX8_isHead) := goodIn_app (goodIn_of _ (by decide +kernel)) ggX8_isSteady_X8_isHead
set_option maxRecDepth 20000 in
theorem ggX8_isSteady_X8_nodeOf : GoodIn wsX8_isSteady wsX8_nodeOf := goodIn_r _ [52, 18, 19, 4, 20, 21, 22, 23, 24, 12, 13, 14, 15, 16, 17, 25, 26, 27, 28, 29, 30, 31, 32, 33] (by decide +kernel) (by decide +kernel)
set_option maxRecDepth 20000 in
theorem gX8_isSteady_X8_nodeOf : GoodIn wsX8_isSteady (va_wsS RX8 91 yX8_nodeOf wsX8_nodeOf) := goodIn_app (goodIn_of _ (by decide +kernel)) ggX8_isSteady_X8_nodeOf
theorem dX8_isSteady_0 : decode cX8_isSteady 0 = .ok (.aload_n 0, 1) := by decide +kernel
theorem dX8_isSteady_1 : decode cX8_isSteady 1 = .ok (.getfield 16, 3) := by decide +kernel
theorem dX8_isSteady_4 : decode cX8_isSteady 4 = .ok (.lload_n 1, 1) := by decide +kernel
theorem dX8_isSteady_5 : decode cX8_isSteady 5 = .ok (.invokestatic 99, 3) := by decide +kernel
theorem dX8_isSteady_8 : decode cX8_isSteady 8 = .ok (.lstore 4, 2) := by decide +kernel
theorem dX8_isSteady_10 : decode cX8_isSteady 10 = .ok (.aload_n 0, 1) := by decide +kernel
theorem dX8_isSteady_11 : decode cX8_isSteady 11 = .ok (.lload_n 1, 1) := by decide +kernel
theorem dX8_isSteady_12 : decode cX8_isSteady 12 = .ok (.lload 4, 2) := by decide +kernel
theorem dX8_isSteady_14 : decode cX8_isSteady 14 = .ok (.iload_n 3, 1) := by decide +kernel
theorem dX8_isSteady_15 : decode cX8_isSteady 15 = .ok (.invokevirtual 205, 3) := by decide +kernel
theorem dX8_isSteady_18 : decode cX8_isSteady 18 = .ok (.istore 6, 2) := by decide +kernel
theorem dX8_isSteady_20 : decode cX8_isSteady 20 = .ok (.iconst 0, 1) := by decide +kernel
theorem dX8_isSteady_21 : decode cX8_isSteady 21 = .ok (.istore 7, 2) := by decide +kernel
theorem dX8_isSteady_23 : decode cX8_isSteady 23 = .ok (.iload 7, 2) := by decide +kernel
theorem dX8_isSteady_25 : decode cX8_isSteady 25 = .ok (.aload_n 0, 1) := by decide +kernel
theorem dX8_isSteady_26 : decode cX8_isSteady 26 = .ok (.getfield 16, 3) := by decide +kernel
theorem dX8_isSteady_29 : decode cX8_isSteady 29 = .ok (.invokestatic 55, 3) := by decide +kernel
theorem dX8_isSteady_32 : decode cX8_isSteady 32 = .ok (.if_icmp .ge 85, 3) := by decide +kernel
theorem dX8_isSteady_35 : decode cX8_isSteady 35 = .ok (.lload_n 1, 1) := by decide +kernel
theorem dX8_isSteady_36 : decode cX8_isSteady 36 = .ok (.iload 7, 2) := by decide +kernel
theorem dX8_isSteady_38 : decode cX8_isSteady 38 = .ok (.invokestatic 51, 3) := by decide +kernel
theorem dX8_isSteady_41 : decode cX8_isSteady 41 = .ok (.ifCond .eq 70, 3) := by decide +kernel
theorem dX8_isSteady_44 : decode cX8_isSteady 44 = .ok (.aload_n 0, 1) := by decide +kernel
theorem dX8_isSteady_45 : decode cX8_isSteady 45 = .ok (.getfield 16, 3) := by decide +kernel
theorem dX8_isSteady_48 : decode cX8_isSteady 48 = .ok (.iload 7, 2) := by decide +kernel
theorem dX8_isSteady_50 : decode cX8_isSteady 50 = .ok (.invokestatic 95, 3) := by decide +kernel
theorem dX8_isSteady_53 : decode cX8_isSteady 53 = .ok (.ifCond .eq 58, 3) := by decide +kernel
theorem dX8_isSteady_56 : decode cX8_isSteady 56 = .ok (.aload_n 0, 1) := by decide +kernel
theorem dX8_isSteady_57 : decode cX8_isSteady 57 = .ok (.getfield 16, 3) := by decide +kernel
theorem dX8_isSteady_60 : decode cX8_isSteady 60 = .ok (.iload 7, 2) := by decide +kernel
theorem dX8_isSteady_62 : decode cX8_isSteady 62 = .ok (.invokestatic 91, 3) := by decide +kernel
theorem dX8_isSteady_65 : decode cX8_isSteady 65 = .ok (.lstore 8, 2) := by decide +kernel
theorem dX8_isSteady_67 : decode cX8_isSteady 67 = .ok (.iload 6, 2) := by decide +kernel
theorem dX8_isSteady_69 : decode cX8_isSteady 69 = .ok (.ifCond .eq 39, 3) := by decide +kernel
theorem dX8_isSteady_72 : decode cX8_isSteady 72 = .ok (.lload 8, 2) := by decide +kernel
theorem dX8_isSteady_74 : decode cX8_isSteady 74 = .ok (.lload_n 1, 1) := by decide +kernel
theorem dX8_isSteady_75 : decode cX8_isSteady 75 = .ok (.lcmp, 1) := by decide +kernel
theorem dX8_isSteady_76 : decode cX8_isSteady 76 = .ok (.ifCond .eq 28, 3) := by decide +kernel
theorem dX8_isSteady_79 : decode cX8_isSteady 79 = .ok (.aload_n 0, 1) := by decide +kernel
theorem dX8_isSteady_80 : decode cX8_isSteady 80 = .ok (.getfield 16, 3) := by decide +kernel
theorem dX8_isSteady_83 : decode cX8_isSteady 83 = .ok (.lload 8, 2) := by decide +kernel
theorem dX8_isSteady_85 : decode cX8_isSteady 85 = .ok (.invokestatic 99, 3) := by decide +kernel
theorem dX8_isSteady_88 : decode cX8_isSteady 88 = .ok (.lload_n 1, 1) := by decide +kernel
theorem dX8_isSteady_89 : decode cX8_isSteady 89 = .ok (.lcmp, 1) := by decide +kernel
theorem dX8_isSteady_90 : decode cX8_isSteady 90 = .ok (.ifCond .ne 14, 3) := by decide +kernel
theorem dX8_isSteady_93 : decode cX8_isSteady 93 = .ok (.aload_n 0, 1) := by decide +kernel
theorem dX8_isSteady_94 : decode cX8_isSteady 94 = .ok (.lload_n 1, 1) := by decide +kernel
theorem dX8_isSteady_95 : decode cX8_isSteady 95 = .ok (.lload 8, 2) := by decide +kernel
theorem dX8_isSteady_97 : decode cX8_isSteady 97 = .ok (.iload_n 3, 1) := by decide +kernel
theorem dX8_isSteady_98 : decode cX8_isSteady 98 = .ok (.invokevirtual 205, 3) := by decide +kernel
theorem dX8_isSteady_101 : decode cX8_isSteady 101 = .ok (.ifCond .eq 7, 3) := by decide +kernel
theorem dX8_isSteady_104 : decode cX8_isSteady 104 = .ok (.iconst 1, 1) := by decide +kernel
theorem dX8_isSteady_105 : decode cX8_isSteady 105 = .ok (.goto 4, 3) := by decide +kernel
theorem dX8_isSteady_108 : decode cX8_isSteady 108 = .ok (.iconst 0, 1) := by decide +kernel
theorem dX8_isSteady_109 : decode cX8_isSteady 109 = .ok (.istore 6, 2) := by decide +kernel
theorem dX8_isSteady_111 : decode cX8_isSteady 111 = .ok (.iinc 7 1, 3) := by decide +kernel
theorem dX8_isSteady_114 : decode cX8_isSteady 114 = .ok (.goto (-91), 3) := by decide +kernel
theorem dX8_isSteady_117 : decode cX8_isSteady 117 = .ok (.iload 6, 2) := by decide +kernel
theorem dX8_isSteady_119 : decode cX8_isSteady 119 = .ok (.ireturn, 1) := by decide +kernel
set_option maxRecDepth 20000 in
theorem ggX8_steady_X8_noDot : GoodIn wsX8_steady wsX8_noDot := goodIn_r _ [8, 3, 9, 10, 7, 11, 12, 13, 14, 66, 67, 68, 69, 70, 71, 72, 73, 74, 75, 76, 77, 78, 79, 80, 81, 82, 83, 84, 85, 86] (by decide +kernel) (by decide +kernel)
set_option maxRecDepth 20000 in
theorem gX8_steady_X8_noDot : GoodIn wsX8_steady (wsV RX8 148 RX8 yX8_noDot wsX8_noDot) := goodIn_app (goodIn_of _ (by decide +kernel)) ggX8_steady_X8_noDot
set_option maxRecDepth 20000 in
theorem ggX8_steady_X8_in : GoodIn wsX8_steady wsX8_in := goodIn_r _ [14] (by decide +kernel) (by decide +kernel)
set_option maxRecDepth 20000 in
theorem gX8_steady_X8_in : GoodIn wsX8_steady (va_wsS RX8 59 yX8_in wsX8_in) := goodIn_app (goodIn_of _ (by decide +kernel)) ggX8_steady_X8_in
set_option maxRecDepth 20000 in
theorem ggX8_steady_X8_nodeOf : GoodIn wsX8_steady wsX8_nodeOf := goodIn_r _ [17, 18, 19, 7, 20, 21, 22, 23, 24, 9, 10, 11, 25, 26, 27, 28, 29, 30, 31, 32, 33, 34, 35, 36] (by decide +kernel) (by decide +kernel)
set_option maxRecDepth 20000 in
theorem gX8_steady_X8_nodeOf : GoodIn wsX8_steady (va_wsS RX8 91 yX8_nodeOf wsX8_nodeOf) := goodIn_app (goodIn_of _ (by decide +kernel)) ggX8_steady_X8_nodeOf
set_option maxRecDepth 20000 in
theorem ggX8_steady_X8_isSteady : GoodIn wsX8_steady wsX8_isSteady := goodIn_r _ [40, 3, 41, 42, 7, 43, 44, 45, 46, 47, 48, 49, 9, 10, 11, 25, 26, 27, 18, 19, 20, 21, 22, 23, 24, 28, 29, 30, 31, 32, 33, 34, 35, 36, 50, 51, 52, 53, 54, 55, 56, 57, 58, 59, 60, 61, 62, 63, 64, 65, 15, 16, 17, 66, 67, 68, 69, 70, 71, 72, 73, 74, 75, 76, 77, 78, 79, 80, 81, 82, 83, 84, 85, 86] (by decide +kernel) (by decide +kernel)
set_option maxRecDepth 20000 in
theorem gX8_steady_X8_isSteady : GoodIn wsX8_steady (wsV RX8 209 RX8 yX8_isSteady wsX8_isSteady) := goodIn_app (goodIn_of _ (by decide +kernel)) ggX8_steady_X8_isSteady
theorem dX8_steady_0 : decode cX8_steady 0 = .ok (.aload_n 0, 1) := by decide +kernel
theorem dX8_steady_1 : decode cX8_steady 1 = .ok (.iconst 0, 1) := by decide +kernel
theorem dX8_steady_2 : decode cX8_steady 2 = .ok (.putfield 47, 3) := by decide +kernel
theorem dX8_steady_5 : decode cX8_steady 5 = .ok (.aload_n 0, 1) := by decide +kernel
theorem dX8_steady_6 : decode cX8_steady 6 = .ok (.iload_n 1, 1) := by decide +kernel
theorem dX8_steady_7 : decode cX8_steady 7 = .ok (.invokevirtual 148, 3) := by decide +kernel
theorem dX8_steady_10 : decode cX8_steady 10 = .ok (.ifCond .eq 5, 3) := by decide +kernel
theorem dX8_steady_13 : decode cX8_steady 13 = .ok (.iconst (-1), 1) := by decide +kernel
theorem dX8_steady_14 : decode cX8_steady 14 = .ok (.ireturn, 1) := by decide +kernel
theorem dX8_steady_15 : decode cX8_steady 15 = .ok (.iload_n 2, 1) := by decide +kernel
theorem dX8_steady_16 : decode cX8_steady 16 = .ok (.i2l, 1) := by decide +kernel
theorem dX8_steady_17 : decode cX8_steady 17 = .ok (.lconst 1, 1) := by decide +kernel
theorem dX8_steady_18 : decode cX8_steady 18 = .ok (.ldc2_w 117, 3) := by decide +kernel
theorem dX8_steady_21 : decode cX8_steady 21 = .ok (.invokestatic 59, 3) := by decide +kernel
theorem dX8_steady_24 : decode cX8_steady 24 = .ok (.ifCond .ne 6, 3) := by decide +kernel
theorem dX8_steady_27 : decode cX8_steady 27 = .ok (.bipush (-2), 2) := by decide +kernel
theorem dX8_steady_29 : decode cX8_steady 29 = .ok (.ireturn, 1) := by decide +kernel
theorem dX8_steady_30 : decode cX8_steady 30 = .ok (.aload_n 0, 1) := by decide +kernel
theorem dX8_steady_31 : decode cX8_steady 31 = .ok (.aload_n 0, 1) := by decide +kernel
theorem dX8_steady_32 : decode cX8_steady 32 = .ok (.getfield 16, 3) := by decide +kernel
theorem dX8_steady_35 : decode cX8_steady 35 = .ok (.iload_n 1, 1) := by decide +kernel
theorem dX8_steady_36 : decode cX8_steady 36 = .ok (.invokestatic 91, 3) := by decide +kernel
theorem dX8_steady_39 : decode cX8_steady 39 = .ok (.iload_n 2, 1) := by decide +kernel
theorem dX8_steady_40 : decode cX8_steady 40 = .ok (.invokevirtual 209, 3) := by decide +kernel
theorem dX8_steady_43 : decode cX8_steady 43 = .ok (.ifCond .eq 7, 3) := by decide +kernel
theorem dX8_steady_46 : decode cX8_steady 46 = .ok (.iconst 1, 1) := by decide +kernel
theorem dX8_steady_47 : decode cX8_steady 47 = .ok (.goto 4, 3) := by decide +kernel
theorem dX8_steady_50 : decode cX8_steady 50 = .ok (.iconst 0, 1) := by decide +kernel
theorem dX8_steady_51 : decode cX8_steady 51 = .ok (.ireturn, 1) := by decide +kernel
theorem dX8_begin_0 : decode cX8_begin 0 = .ok (.iconst 0, 1) := by decide +kernel
theorem dX8_begin_1 : decode cX8_begin 1 = .ok (.istore_n 1, 1) := by decide +kernel
theorem dX8_begin_2 : decode cX8_begin 2 = .ok (.iload_n 1, 1) := by decide +kernel
theorem dX8_begin_3 : decode cX8_begin 3 = .ok (.bipush 39, 2) := by decide +kernel
theorem dX8_begin_5 : decode cX8_begin 5 = .ok (.if_icmp .ge 21, 3) := by decide +kernel
theorem dX8_begin_8 : decode cX8_begin 8 = .ok (.aload_n 0, 1) := by decide +kernel
theorem dX8_begin_9 : decode cX8_begin 9 = .ok (.getfield 19, 3) := by decide +kernel
theorem dX8_begin_12 : decode cX8_begin 12 = .ok (.iload_n 1, 1) := by decide +kernel
theorem dX8_begin_13 : decode cX8_begin 13 = .ok (.aload_n 0, 1) := by decide +kernel
theorem dX8_begin_14 : decode cX8_begin 14 = .ok (.getfield 16, 3) := by decide +kernel
theorem dX8_begin_17 : decode cX8_begin 17 = .ok (.iload_n 1, 1) := by decide +kernel
theorem dX8_begin_18 : decode cX8_begin 18 = .ok (.iaload, 1) := by decide +kernel
theorem dX8_begin_19 : decode cX8_begin 19 = .ok (.iastore, 1) := by decide +kernel
theorem dX8_begin_20 : decode cX8_begin 20 = .ok (.iinc 1 1, 3) := by decide +kernel
theorem dX8_begin_23 : decode cX8_begin 23 = .ok (.goto (-21), 3) := by decide +kernel
theorem dX8_begin_26 : decode cX8_begin 26 = .ok (.return_, 1) := by decide +kernel
theorem dX8_longPower_0 : decode cX8_longPower 0 = .ok (.lconst 1, 1) := by decide +kernel
theorem dX8_longPower_1 : decode cX8_longPower 1 = .ok (.lstore_n 3, 1) := by decide +kernel
theorem dX8_longPower_2 : decode cX8_longPower 2 = .ok (.iconst 0, 1) := by decide +kernel
theorem dX8_longPower_3 : decode cX8_longPower 3 = .ok (.istore 5, 2) := by decide +kernel
theorem dX8_longPower_5 : decode cX8_longPower 5 = .ok (.iload 5, 2) := by decide +kernel
theorem dX8_longPower_7 : decode cX8_longPower 7 = .ok (.iload_n 2, 1) := by decide +kernel
theorem dX8_longPower_8 : decode cX8_longPower 8 = .ok (.if_icmp .ge 13, 3) := by decide +kernel
theorem dX8_longPower_11 : decode cX8_longPower 11 = .ok (.lload_n 3, 1) := by decide +kernel
theorem dX8_longPower_12 : decode cX8_longPower 12 = .ok (.lload_n 0, 1) := by decide +kernel
theorem dX8_longPower_13 : decode cX8_longPower 13 = .ok (.lmul, 1) := by decide +kernel
theorem dX8_longPower_14 : decode cX8_longPower 14 = .ok (.lstore_n 3, 1) := by decide +kernel
theorem dX8_longPower_15 : decode cX8_longPower 15 = .ok (.iinc 5 1, 3) := by decide +kernel
theorem dX8_longPower_18 : decode cX8_longPower 18 = .ok (.goto (-13), 3) := by decide +kernel
theorem dX8_longPower_21 : decode cX8_longPower 21 = .ok (.lload_n 3, 1) := by decide +kernel
theorem dX8_longPower_22 : decode cX8_longPower 22 = .ok (.lreturn, 1) := by decide +kernel
set_option maxRecDepth 20000 in
theorem ggX8_isSo_X8_partsOf : GoodIn wsX8_isSo wsX8_partsOf := goodIn_r _ [6, 2, 7, 8, 5, 9, 10, 11, 12, 13, 14, 15, 16, 17, 18, 19, 20, 21, 22, 23, 24] (by decide +kernel) (by decide +kernel)
set_option maxRecDepth 20000 in
theorem gX8_isSo_X8_partsOf : GoodIn wsX8_isSo (va_wsS RX8 162 yX8_partsOf wsX8_partsOf) := goodIn_app (goodIn_of _ (by decide +kernel)) ggX8_isSo_X8_partsOf
set_option maxRecDepth 20000 in
theorem ggX8_isSo_X8_dotsOf : GoodIn wsX8_isSo wsX8_dotsOf := goodIn_r _ [12] (by decide +kernel) (by decide +kernel)
set_option maxRecDepth 20000 in
theorem gX8_isSo_X8_dotsOf : GoodIn wsX8_isSo (va_wsS RX8 55 yX8_dotsOf wsX8_dotsOf) := goodIn_app (goodIn_of _ (by decide +kernel)) ggX8_isSo_X8_dotsOf
set_option maxRecDepth 20000 in
theorem ggX8_isSo_X8_nodeOf : GoodIn wsX8_isSo wsX8_nodeOf := goodIn_r _ [27, 28, 29, 5, 30, 2, 7, 8, 9, 10, 11, 12, 13, 14, 15, 16, 17, 18, 19, 20, 21, 22, 23, 24] (by decide +kernel) (by decide +kernel)
set_option maxRecDepth 20000 in
theorem gX8_isSo_X8_nodeOf : GoodIn wsX8_isSo (va_wsS RX8 91 yX8_nodeOf wsX8_nodeOf) := goodIn_app (goodIn_of _ (by decide +kernel)) ggX8_isSo_X8_nodeOf
set_option maxRecDepth 20000 in
theorem ggX8_isSo_X8_parent : GoodIn wsX8_isSo wsX8_parent := goodIn_r _ [33, 34, 35, 5, 36, 37, 38, 39, 10, 11, 12, 13, 14, 15, 28, 29, 30, 2, 7, 8, 9, 16, 17, 18, 19, 20, 21, 22, 23, 24] (by decide +kernel) (by decide +kernel)
set_option maxRecDepth 20000 in
theorem gX8_isSo_X8_parent : GoodIn wsX8_isSo (va_wsS RX8 99 yX8_parent wsX8_parent) := goodIn_app (goodIn_of _ (by decide +kernel)) ggX8_isSo_X8_parent
set_option maxRecDepth 20000 in
theorem ggX8_isSo_X8_level : GoodIn wsX8_isSo wsX8_level := goodIn_r _ [39, 10, 11, 5, 12, 13, 14, 15] (by decide +kernel) (by decide +kernel)
set_option maxRecDepth 20000 in
theorem gX8_isSo_X8_level : GoodIn wsX8_isSo (va_wsS RX8 84 yX8_level wsX8_level) := goodIn_app (goodIn_of _ (by decide +kernel)) ggX8_isSo_X8_level
set_option maxRecDepth 20000 in
theorem ggX8_isSo_X8_rise : GoodIn wsX8_isSo wsX8_rise := goodIn_r _ [42, 37, 38, 5, 39, 10, 11, 12, 13, 14, 15, 43, 44, 45, 34, 35, 36, 28, 29, 30, 2, 7, 8, 9, 16, 17, 18, 19, 20, 21, 22, 23, 24] (by decide +kernel) (by decide +kernel)
set_option maxRecDepth 20000 in
theorem gX8_isSo_X8_rise : GoodIn wsX8_isSo (va_wsS RX8 159 yX8_rise wsX8_rise) := goodIn_app (goodIn_of _ (by decide +kernel)) ggX8_isSo_X8_rise
theorem dX8_isSo_0 : decode cX8_isSo 0 = .ok (.iload_n 1, 1) := by decide +kernel
theorem dX8_isSo_1 : decode cX8_isSo 1 = .ok (.bipush 6, 2) := by decide +kernel
theorem dX8_isSo_3 : decode cX8_isSo 3 = .ok (.if_icmp .ne 24, 3) := by decide +kernel
theorem dX8_isSo_6 : decode cX8_isSo 6 = .ok (.aload_n 0, 1) := by decide +kernel
theorem dX8_isSo_7 : decode cX8_isSo 7 = .ok (.getfield 19, 3) := by decide +kernel
theorem dX8_isSo_10 : decode cX8_isSo 10 = .ok (.iload_n 3, 1) := by decide +kernel
theorem dX8_isSo_11 : decode cX8_isSo 11 = .ok (.ldc2_w 67, 3) := by decide +kernel
theorem dX8_isSo_14 : decode cX8_isSo 14 = .ok (.invokestatic 162, 3) := by decide +kernel
theorem dX8_isSo_17 : decode cX8_isSo 17 = .ok (.iload_n 2, 1) := by decide +kernel
theorem dX8_isSo_18 : decode cX8_isSo 18 = .ok (.if_icmp .lt 7, 3) := by decide +kernel
theorem dX8_isSo_21 : decode cX8_isSo 21 = .ok (.iconst 1, 1) := by decide +kernel
theorem dX8_isSo_22 : decode cX8_isSo 22 = .ok (.goto 4, 3) := by decide +kernel
theorem dX8_isSo_25 : decode cX8_isSo 25 = .ok (.iconst 0, 1) := by decide +kernel
theorem dX8_isSo_26 : decode cX8_isSo 26 = .ok (.ireturn, 1) := by decide +kernel
theorem dX8_isSo_27 : decode cX8_isSo 27 = .ok (.iload_n 2, 1) := by decide +kernel
theorem dX8_isSo_28 : decode cX8_isSo 28 = .ok (.aload_n 0, 1) := by decide +kernel
theorem dX8_isSo_29 : decode cX8_isSo 29 = .ok (.getfield 19, 3) := by decide +kernel
theorem dX8_isSo_32 : decode cX8_isSo 32 = .ok (.invokestatic 55, 3) := by decide +kernel
theorem dX8_isSo_35 : decode cX8_isSo 35 = .ok (.if_icmp .lt 5, 3) := by decide +kernel
theorem dX8_isSo_38 : decode cX8_isSo 38 = .ok (.iconst 0, 1) := by decide +kernel
theorem dX8_isSo_39 : decode cX8_isSo 39 = .ok (.ireturn, 1) := by decide +kernel
theorem dX8_isSo_40 : decode cX8_isSo 40 = .ok (.aload_n 0, 1) := by decide +kernel
theorem dX8_isSo_41 : decode cX8_isSo 41 = .ok (.getfield 19, 3) := by decide +kernel
theorem dX8_isSo_44 : decode cX8_isSo 44 = .ok (.iload_n 2, 1) := by decide +kernel
theorem dX8_isSo_45 : decode cX8_isSo 45 = .ok (.invokestatic 91, 3) := by decide +kernel
theorem dX8_isSo_48 : decode cX8_isSo 48 = .ok (.lstore 4, 2) := by decide +kernel
theorem dX8_isSo_50 : decode cX8_isSo 50 = .ok (.aload_n 0, 1) := by decide +kernel
theorem dX8_isSo_51 : decode cX8_isSo 51 = .ok (.getfield 19, 3) := by decide +kernel
theorem dX8_isSo_54 : decode cX8_isSo 54 = .ok (.lload 4, 2) := by decide +kernel
theorem dX8_isSo_56 : decode cX8_isSo 56 = .ok (.invokestatic 99, 3) := by decide +kernel
theorem dX8_isSo_59 : decode cX8_isSo 59 = .ok (.lstore 6, 2) := by decide +kernel
theorem dX8_isSo_61 : decode cX8_isSo 61 = .ok (.iload_n 1, 1) := by decide +kernel
theorem dX8_isSo_62 : decode cX8_isSo 62 = .ok (.iconst 5, 1) := by decide +kernel
theorem dX8_isSo_63 : decode cX8_isSo 63 = .ok (.if_icmp .ne 32, 3) := by decide +kernel
theorem dX8_isSo_66 : decode cX8_isSo 66 = .ok (.lload 6, 2) := by decide +kernel
theorem dX8_isSo_68 : decode cX8_isSo 68 = .ok (.lload 4, 2) := by decide +kernel
theorem dX8_isSo_70 : decode cX8_isSo 70 = .ok (.lcmp, 1) := by decide +kernel
theorem dX8_isSo_71 : decode cX8_isSo 71 = .ok (.ifCond .eq 20, 3) := by decide +kernel
theorem dX8_isSo_74 : decode cX8_isSo 74 = .ok (.aload_n 0, 1) := by decide +kernel
theorem dX8_isSo_75 : decode cX8_isSo 75 = .ok (.getfield 19, 3) := by decide +kernel
theorem dX8_isSo_78 : decode cX8_isSo 78 = .ok (.lload 6, 2) := by decide +kernel
theorem dX8_isSo_80 : decode cX8_isSo 80 = .ok (.invokestatic 84, 3) := by decide +kernel
theorem dX8_isSo_83 : decode cX8_isSo 83 = .ok (.iload_n 3, 1) := by decide +kernel
theorem dX8_isSo_84 : decode cX8_isSo 84 = .ok (.if_icmp .ne 7, 3) := by decide +kernel
theorem dX8_isSo_87 : decode cX8_isSo 87 = .ok (.iconst 1, 1) := by decide +kernel
theorem dX8_isSo_88 : decode cX8_isSo 88 = .ok (.goto 31, 3) := by decide +kernel
theorem dX8_isSo_91 : decode cX8_isSo 91 = .ok (.iconst 0, 1) := by decide +kernel
theorem dX8_isSo_92 : decode cX8_isSo 92 = .ok (.goto 27, 3) := by decide +kernel
theorem dX8_isSo_95 : decode cX8_isSo 95 = .ok (.iload_n 1, 1) := by decide +kernel
theorem dX8_isSo_96 : decode cX8_isSo 96 = .ok (.bipush 7, 2) := by decide +kernel
theorem dX8_isSo_98 : decode cX8_isSo 98 = .ok (.if_icmp .ne 20, 3) := by decide +kernel
theorem dX8_isSo_101 : decode cX8_isSo 101 = .ok (.aload_n 0, 1) := by decide +kernel
theorem dX8_isSo_102 : decode cX8_isSo 102 = .ok (.getfield 19, 3) := by decide +kernel
theorem dX8_isSo_105 : decode cX8_isSo 105 = .ok (.lload 4, 2) := by decide +kernel
theorem dX8_isSo_107 : decode cX8_isSo 107 = .ok (.invokestatic 159, 3) := by decide +kernel
theorem dX8_isSo_110 : decode cX8_isSo 110 = .ok (.iload_n 3, 1) := by decide +kernel
theorem dX8_isSo_111 : decode cX8_isSo 111 = .ok (.if_icmp .ne 7, 3) := by decide +kernel
theorem dX8_isSo_114 : decode cX8_isSo 114 = .ok (.iconst 1, 1) := by decide +kernel
theorem dX8_isSo_115 : decode cX8_isSo 115 = .ok (.goto 4, 3) := by decide +kernel
theorem dX8_isSo_118 : decode cX8_isSo 118 = .ok (.iconst 0, 1) := by decide +kernel
theorem dX8_isSo_119 : decode cX8_isSo 119 = .ok (.ireturn, 1) := by decide +kernel
set_option maxRecDepth 20000 in
theorem ggX8_does_X8_dotsOf : GoodIn wsX8_does wsX8_dotsOf := goodIn_r _ [7] (by decide +kernel) (by decide +kernel)
set_option maxRecDepth 20000 in
theorem gX8_does_X8_dotsOf : GoodIn wsX8_does (va_wsS RX8 55 yX8_dotsOf wsX8_dotsOf) := goodIn_app (goodIn_of _ (by decide +kernel)) ggX8_does_X8_dotsOf
set_option maxRecDepth 20000 in
theorem ggX8_does_X8_goNegative : GoodIn wsX8_does wsX8_goNegative := goodIn_r _ [10, 4, 5, 6, 7] (by decide +kernel) (by decide +kernel)
set_option maxRecDepth 20000 in
theorem gX8_does_X8_goNegative : GoodIn wsX8_does (va_wsS RX8 169 yX8_goNegative wsX8_goNegative) := goodIn_app (goodIn_of _ (by decide +kernel)) ggX8_does_X8_goNegative
set_option maxRecDepth 20000 in
theorem ggX8_does_X8_in : GoodIn wsX8_does wsX8_in := goodIn_r _ [13] (by decide +kernel) (by decide +kernel)
set_option maxRecDepth 20000 in
theorem gX8_does_X8_in : GoodIn wsX8_does (va_wsS RX8 59 yX8_in wsX8_in) := goodIn_app (goodIn_of _ (by decide +kernel)) ggX8_does_X8_in
set_option maxRecDepth 20000 in
theorem ggX8_does_X8_goSift : GoodIn wsX8_does wsX8_goSift := goodIn_r _ [17, 18, 4, 5, 6, 7, 19, 20, 21, 22, 23, 24, 25, 26, 27, 28, 29, 30, 31, 32, 33, 34, 35, 36, 37, 38, 39, 40, 41, 42, 43, 44, 45, 46, 47, 48, 49, 50, 51, 52, 75, 76, 77, 78, 79, 80, 81, 82, 83, 84, 85, 86, 87, 88, 89, 90, 91, 92, 93, 94, 95] (by decide +kernel) (by decide +kernel)
set_option maxRecDepth 20000 in
theorem gX8_does_X8_goSift : GoodIn wsX8_does (wsV RX8 183 RX8 yX8_goSift wsX8_goSift) := goodIn_app (goodIn_of _ (by decide +kernel)) ggX8_does_X8_goSift
set_option maxRecDepth 20000 in
theorem ggX8_does_X8_isSo : GoodIn wsX8_does wsX8_isSo := goodIn_r _ [56, 1, 22, 57, 58, 6, 59, 26, 27, 28, 4, 5, 7, 29, 30, 31, 32, 33, 34, 35, 36, 37, 38, 39, 40, 60, 61, 62, 23, 24, 25, 63, 64, 65, 66, 67, 68, 50, 51, 52, 69, 70, 71, 72, 73, 74, 75, 76, 77, 78, 79, 80, 81, 82, 83, 84, 85, 86, 87, 88, 89, 90, 91, 92, 93, 94, 95] (by decide +kernel) (by decide +kernel)
set_option maxRecDepth 20000 in
theorem gX8_does_X8_isSo : GoodIn wsX8_does (wsV RX8 212 RX8 yX8_isSo wsX8_isSo) := goodIn_app (goodIn_of _ (by decide +kernel)) ggX8_does_X8_isSo
theorem dX8_does_0 : decode cX8_does 0 = .ok (.iload_n 1, 1) := by decide +kernel
theorem dX8_does_1 : decode cX8_does 1 = .ok (.sipush 1000, 3) := by decide +kernel
theorem dX8_does_4 : decode cX8_does 4 = .ok (.idiv, 1) := by decide +kernel
theorem dX8_does_5 : decode cX8_does 5 = .ok (.istore_n 2, 1) := by decide +kernel
theorem dX8_does_6 : decode cX8_does 6 = .ok (.iload_n 1, 1) := by decide +kernel
theorem dX8_does_7 : decode cX8_does 7 = .ok (.bipush 10, 2) := by decide +kernel
theorem dX8_does_9 : decode cX8_does 9 = .ok (.idiv, 1) := by decide +kernel
theorem dX8_does_10 : decode cX8_does 10 = .ok (.bipush 100, 2) := by decide +kernel
theorem dX8_does_12 : decode cX8_does 12 = .ok (.irem, 1) := by decide +kernel
theorem dX8_does_13 : decode cX8_does 13 = .ok (.istore_n 3, 1) := by decide +kernel
theorem dX8_does_14 : decode cX8_does 14 = .ok (.iload_n 1, 1) := by decide +kernel
theorem dX8_does_15 : decode cX8_does 15 = .ok (.bipush 10, 2) := by decide +kernel
theorem dX8_does_17 : decode cX8_does 17 = .ok (.irem, 1) := by decide +kernel
theorem dX8_does_18 : decode cX8_does 18 = .ok (.istore 4, 2) := by decide +kernel
theorem dX8_does_20 : decode cX8_does 20 = .ok (.iload_n 2, 1) := by decide +kernel
theorem dX8_does_21 : decode cX8_does 21 = .ok (.tableswitch 152 1 4 #[31, 69, 96, 96], 31) := by decide +kernel
theorem dX8_does_52 : decode cX8_does 52 = .ok (.iload_n 3, 1) := by decide +kernel
theorem dX8_does_53 : decode cX8_does 53 = .ok (.aload_n 0, 1) := by decide +kernel
theorem dX8_does_54 : decode cX8_does 54 = .ok (.getfield 19, 3) := by decide +kernel
theorem dX8_does_57 : decode cX8_does 57 = .ok (.invokestatic 55, 3) := by decide +kernel
theorem dX8_does_60 : decode cX8_does 60 = .ok (.if_icmp .ge 13, 3) := by decide +kernel
theorem dX8_does_63 : decode cX8_does 63 = .ok (.aload_n 0, 1) := by decide +kernel
theorem dX8_does_64 : decode cX8_does 64 = .ok (.getfield 19, 3) := by decide +kernel
theorem dX8_does_67 : decode cX8_does 67 = .ok (.iconst 3, 1) := by decide +kernel
theorem dX8_does_68 : decode cX8_does 68 = .ok (.iload_n 3, 1) := by decide +kernel
theorem dX8_does_69 : decode cX8_does 69 = .ok (.iadd, 1) := by decide +kernel
theorem dX8_does_70 : decode cX8_does 70 = .ok (.iload 4, 2) := by decide +kernel
theorem dX8_does_72 : decode cX8_does 72 = .ok (.iastore, 1) := by decide +kernel
theorem dX8_does_73 : decode cX8_does 73 = .ok (.iload_n 3, 1) := by decide +kernel
theorem dX8_does_74 : decode cX8_does 74 = .ok (.aload_n 0, 1) := by decide +kernel
theorem dX8_does_75 : decode cX8_does 75 = .ok (.getfield 19, 3) := by decide +kernel
theorem dX8_does_78 : decode cX8_does 78 = .ok (.invokestatic 55, 3) := by decide +kernel
theorem dX8_does_81 : decode cX8_does 81 = .ok (.if_icmp .ge 7, 3) := by decide +kernel
theorem dX8_does_84 : decode cX8_does 84 = .ok (.iconst 1, 1) := by decide +kernel
theorem dX8_does_85 : decode cX8_does 85 = .ok (.goto 4, 3) := by decide +kernel
theorem dX8_does_88 : decode cX8_does 88 = .ok (.iconst 0, 1) := by decide +kernel
theorem dX8_does_89 : decode cX8_does 89 = .ok (.ireturn, 1) := by decide +kernel
theorem dX8_does_90 : decode cX8_does 90 = .ok (.iload_n 1, 1) := by decide +kernel
theorem dX8_does_91 : decode cX8_does 91 = .ok (.sipush 2000, 3) := by decide +kernel
theorem dX8_does_94 : decode cX8_does 94 = .ok (.if_icmp .ne 10, 3) := by decide +kernel
theorem dX8_does_97 : decode cX8_does 97 = .ok (.aload_n 0, 1) := by decide +kernel
theorem dX8_does_98 : decode cX8_does 98 = .ok (.getfield 19, 3) := by decide +kernel
theorem dX8_does_101 : decode cX8_does 101 = .ok (.invokestatic 169, 3) := by decide +kernel
theorem dX8_does_104 : decode cX8_does 104 = .ok (.iload_n 1, 1) := by decide +kernel
theorem dX8_does_105 : decode cX8_does 105 = .ok (.sipush 2000, 3) := by decide +kernel
theorem dX8_does_108 : decode cX8_does 108 = .ok (.if_icmp .ne 7, 3) := by decide +kernel
theorem dX8_does_111 : decode cX8_does 111 = .ok (.iconst 1, 1) := by decide +kernel
theorem dX8_does_112 : decode cX8_does 112 = .ok (.goto 4, 3) := by decide +kernel
theorem dX8_does_115 : decode cX8_does 115 = .ok (.iconst 0, 1) := by decide +kernel
theorem dX8_does_116 : decode cX8_does 116 = .ok (.ireturn, 1) := by decide +kernel
theorem dX8_does_117 : decode cX8_does 117 = .ok (.iload 4, 2) := by decide +kernel
theorem dX8_does_119 : decode cX8_does 119 = .ok (.ifCond .ne 30, 3) := by decide +kernel
theorem dX8_does_122 : decode cX8_does 122 = .ok (.iload_n 3, 1) := by decide +kernel
theorem dX8_does_123 : decode cX8_does 123 = .ok (.i2l, 1) := by decide +kernel
theorem dX8_does_124 : decode cX8_does 124 = .ok (.lconst 1, 1) := by decide +kernel
theorem dX8_does_125 : decode cX8_does 125 = .ok (.iload_n 2, 1) := by decide +kernel
theorem dX8_does_126 : decode cX8_does 126 = .ok (.iconst 3, 1) := by decide +kernel
theorem dX8_does_127 : decode cX8_does 127 = .ok (.if_icmp .ne 9, 3) := by decide +kernel
theorem dX8_does_130 : decode cX8_does 130 = .ok (.ldc2_w 181, 3) := by decide +kernel
theorem dX8_does_133 : decode cX8_does 133 = .ok (.goto 6, 3) := by decide +kernel
theorem dX8_does_136 : decode cX8_does 136 = .ok (.ldc2_w 115, 3) := by decide +kernel
theorem dX8_does_139 : decode cX8_does 139 = .ok (.invokestatic 59, 3) := by decide +kernel
theorem dX8_does_142 : decode cX8_does 142 = .ok (.ifCond .eq 7, 3) := by decide +kernel
theorem dX8_does_145 : decode cX8_does 145 = .ok (.iconst 1, 1) := by decide +kernel
theorem dX8_does_146 : decode cX8_does 146 = .ok (.goto 4, 3) := by decide +kernel
theorem dX8_does_149 : decode cX8_does 149 = .ok (.iconst 0, 1) := by decide +kernel
theorem dX8_does_150 : decode cX8_does 150 = .ok (.istore 5, 2) := by decide +kernel
theorem dX8_does_152 : decode cX8_does 152 = .ok (.iload 5, 2) := by decide +kernel
theorem dX8_does_154 : decode cX8_does 154 = .ok (.ifCond .eq 16, 3) := by decide +kernel
theorem dX8_does_157 : decode cX8_does 157 = .ok (.aload_n 0, 1) := by decide +kernel
theorem dX8_does_158 : decode cX8_does 158 = .ok (.aload_n 0, 1) := by decide +kernel
theorem dX8_does_159 : decode cX8_does 159 = .ok (.getfield 19, 3) := by decide +kernel
theorem dX8_does_162 : decode cX8_does 162 = .ok (.iload_n 2, 1) := by decide +kernel
theorem dX8_does_163 : decode cX8_does 163 = .ok (.iconst 3, 1) := by decide +kernel
theorem dX8_does_164 : decode cX8_does 164 = .ok (.isub, 1) := by decide +kernel
theorem dX8_does_165 : decode cX8_does 165 = .ok (.iload_n 3, 1) := by decide +kernel
theorem dX8_does_166 : decode cX8_does 166 = .ok (.invokevirtual 183, 3) := by decide +kernel
theorem dX8_does_169 : decode cX8_does 169 = .ok (.pop, 1) := by decide +kernel
theorem dX8_does_170 : decode cX8_does 170 = .ok (.iload 5, 2) := by decide +kernel
theorem dX8_does_172 : decode cX8_does 172 = .ok (.ireturn, 1) := by decide +kernel
theorem dX8_does_173 : decode cX8_does 173 = .ok (.aload_n 0, 1) := by decide +kernel
theorem dX8_does_174 : decode cX8_does 174 = .ok (.iload_n 2, 1) := by decide +kernel
theorem dX8_does_175 : decode cX8_does 175 = .ok (.iload_n 3, 1) := by decide +kernel
theorem dX8_does_176 : decode cX8_does 176 = .ok (.iload 4, 2) := by decide +kernel
theorem dX8_does_178 : decode cX8_does 178 = .ok (.invokevirtual 212, 3) := by decide +kernel
theorem dX8_does_181 : decode cX8_does 181 = .ok (.ireturn, 1) := by decide +kernel
set_option maxRecDepth 20000 in
theorem ggX8_judge_X8_in : GoodIn wsX8_judge wsX8_in := goodIn_r _ [7] (by decide +kernel) (by decide +kernel)
set_option maxRecDepth 20000 in
theorem gX8_judge_X8_in : GoodIn wsX8_judge (va_wsS RX8 59 yX8_in wsX8_in) := goodIn_app (goodIn_of _ (by decide +kernel)) ggX8_judge_X8_in
set_option maxRecDepth 20000 in
theorem ggX8_judge_X8_longPower : GoodIn wsX8_judge wsX8_longPower := goodIn_r _ [10] (by decide +kernel) (by decide +kernel)
set_option maxRecDepth 20000 in
theorem gX8_judge_X8_longPower : GoodIn wsX8_judge (va_wsS RX8 220 yX8_longPower wsX8_longPower) := goodIn_app (goodIn_of _ (by decide +kernel)) ggX8_judge_X8_longPower
set_option maxRecDepth 20000 in
theorem ggX8_judge_X8_begin : GoodIn wsX8_judge wsX8_begin := goodIn_r _ [14, 15, 16, 90, 91, 92, 93, 94, 95, 96, 97, 98, 99, 100, 101, 102, 103, 104, 105, 106, 107, 108, 109, 110] (by decide +kernel) (by decide +kernel)
set_option maxRecDepth 20000 in
theorem gX8_judge_X8_begin : GoodIn wsX8_judge (wsV RX8 224 RX8 yX8_begin wsX8_begin) := goodIn_app (goodIn_of _ (by decide +kernel)) ggX8_judge_X8_begin
set_option maxRecDepth 20000 in
theorem ggX8_judge_X8_does : GoodIn wsX8_judge wsX8_does := goodIn_r _ [20, 15, 21, 22, 23, 24, 6, 25, 26, 27, 28, 4, 5, 7, 29, 30, 31, 32, 33, 34, 35, 36, 37, 38, 39, 40, 41, 42, 43, 44, 45, 46, 47, 48, 49, 50, 51, 52, 53, 54, 55, 56, 57, 58, 59, 60, 61, 62, 63, 64, 65, 66, 67, 68, 69, 70, 71, 72, 73, 74, 75, 76, 77, 78, 79, 80, 81, 82, 83, 84, 85, 86, 87, 88, 89, 90, 91, 92, 93, 94, 95, 96, 97, 98, 99, 100, 101, 102, 103, 104, 105, 106, 107, 108, 109, 110] (by decide +kernel) (by decide +kernel)
set_option maxRecDepth 20000 in
theorem gX8_judge_X8_does : GoodIn wsX8_judge (wsV RX8 227 RX8 yX8_does wsX8_does) := goodIn_app (goodIn_of _ (by decide +kernel)) ggX8_judge_X8_does
theorem dX8_judge_0 : decode cX8_judge 0 = .ok (.aload_n 0, 1) := by decide +kernel
theorem dX8_judge_1 : decode cX8_judge 1 = .ok (.iconst 0, 1) := by decide +kernel
theorem dX8_judge_2 : decode cX8_judge 2 = .ok (.putfield 47, 3) := by decide +kernel
theorem dX8_judge_5 : decode cX8_judge 5 = .ok (.iload_n 1, 1) := by decide +kernel
theorem dX8_judge_6 : decode cX8_judge 6 = .ok (.i2l, 1) := by decide +kernel
theorem dX8_judge_7 : decode cX8_judge 7 = .ok (.lconst 1, 1) := by decide +kernel
theorem dX8_judge_8 : decode cX8_judge 8 = .ok (.ldc2_w 216, 3) := by decide +kernel
theorem dX8_judge_11 : decode cX8_judge 11 = .ok (.invokestatic 59, 3) := by decide +kernel
theorem dX8_judge_14 : decode cX8_judge 14 = .ok (.ifCond .eq 20, 3) := by decide +kernel
theorem dX8_judge_17 : decode cX8_judge 17 = .ok (.lload_n 2, 1) := by decide +kernel
theorem dX8_judge_18 : decode cX8_judge 18 = .ok (.lconst 0, 1) := by decide +kernel
theorem dX8_judge_19 : decode cX8_judge 19 = .ok (.ldc2_w 218, 3) := by decide +kernel
theorem dX8_judge_22 : decode cX8_judge 22 = .ok (.iload_n 1, 1) := by decide +kernel
theorem dX8_judge_23 : decode cX8_judge 23 = .ok (.invokestatic 220, 3) := by decide +kernel
theorem dX8_judge_26 : decode cX8_judge 26 = .ok (.lconst 1, 1) := by decide +kernel
theorem dX8_judge_27 : decode cX8_judge 27 = .ok (.lsub, 1) := by decide +kernel
theorem dX8_judge_28 : decode cX8_judge 28 = .ok (.invokestatic 59, 3) := by decide +kernel
theorem dX8_judge_31 : decode cX8_judge 31 = .ok (.ifCond .ne 6, 3) := by decide +kernel
theorem dX8_judge_34 : decode cX8_judge 34 = .ok (.bipush (-2), 2) := by decide +kernel
theorem dX8_judge_36 : decode cX8_judge 36 = .ok (.ireturn, 1) := by decide +kernel
theorem dX8_judge_37 : decode cX8_judge 37 = .ok (.aload_n 0, 1) := by decide +kernel
theorem dX8_judge_38 : decode cX8_judge 38 = .ok (.invokevirtual 224, 3) := by decide +kernel
theorem dX8_judge_41 : decode cX8_judge 41 = .ok (.iconst 0, 1) := by decide +kernel
theorem dX8_judge_42 : decode cX8_judge 42 = .ok (.istore 4, 2) := by decide +kernel
theorem dX8_judge_44 : decode cX8_judge 44 = .ok (.iload 4, 2) := by decide +kernel
theorem dX8_judge_46 : decode cX8_judge 46 = .ok (.iload_n 1, 1) := by decide +kernel
theorem dX8_judge_47 : decode cX8_judge 47 = .ok (.if_icmp .ge 38, 3) := by decide +kernel
theorem dX8_judge_50 : decode cX8_judge 50 = .ok (.aload_n 0, 1) := by decide +kernel
theorem dX8_judge_51 : decode cX8_judge 51 = .ok (.lload_n 2, 1) := by decide +kernel
theorem dX8_judge_52 : decode cX8_judge 52 = .ok (.ldc2_w 218, 3) := by decide +kernel
theorem dX8_judge_55 : decode cX8_judge 55 = .ok (.iload_n 1, 1) := by decide +kernel
theorem dX8_judge_56 : decode cX8_judge 56 = .ok (.iconst 1, 1) := by decide +kernel
theorem dX8_judge_57 : decode cX8_judge 57 = .ok (.isub, 1) := by decide +kernel
theorem dX8_judge_58 : decode cX8_judge 58 = .ok (.iload 4, 2) := by decide +kernel
theorem dX8_judge_60 : decode cX8_judge 60 = .ok (.isub, 1) := by decide +kernel
theorem dX8_judge_61 : decode cX8_judge 61 = .ok (.invokestatic 220, 3) := by decide +kernel
theorem dX8_judge_64 : decode cX8_judge 64 = .ok (.ldiv, 1) := by decide +kernel
theorem dX8_judge_65 : decode cX8_judge 65 = .ok (.ldc2_w 218, 3) := by decide +kernel
theorem dX8_judge_68 : decode cX8_judge 68 = .ok (.lrem, 1) := by decide +kernel
theorem dX8_judge_69 : decode cX8_judge 69 = .ok (.l2i, 1) := by decide +kernel
theorem dX8_judge_70 : decode cX8_judge 70 = .ok (.invokevirtual 227, 3) := by decide +kernel
theorem dX8_judge_73 : decode cX8_judge 73 = .ok (.ifCond .ne 6, 3) := by decide +kernel
theorem dX8_judge_76 : decode cX8_judge 76 = .ok (.iload 4, 2) := by decide +kernel
theorem dX8_judge_78 : decode cX8_judge 78 = .ok (.ireturn, 1) := by decide +kernel
theorem dX8_judge_79 : decode cX8_judge 79 = .ok (.iinc 4 1, 3) := by decide +kernel
theorem dX8_judge_82 : decode cX8_judge 82 = .ok (.goto (-38), 3) := by decide +kernel
theorem dX8_judge_85 : decode cX8_judge 85 = .ok (.bipush (-9), 2) := by decide +kernel
theorem dX8_judge_87 : decode cX8_judge 87 = .ok (.ireturn, 1) := by decide +kernel
theorem dX8_orders_0 : decode cX8_orders 0 = .ok (.iconst 1, 1) := by decide +kernel
theorem dX8_orders_1 : decode cX8_orders 1 = .ok (.istore_n 2, 1) := by decide +kernel
theorem dX8_orders_2 : decode cX8_orders 2 = .ok (.iconst 2, 1) := by decide +kernel
theorem dX8_orders_3 : decode cX8_orders 3 = .ok (.istore_n 3, 1) := by decide +kernel
theorem dX8_orders_4 : decode cX8_orders 4 = .ok (.iload_n 3, 1) := by decide +kernel
theorem dX8_orders_5 : decode cX8_orders 5 = .ok (.iload_n 1, 1) := by decide +kernel
theorem dX8_orders_6 : decode cX8_orders 6 = .ok (.if_icmp .gt 13, 3) := by decide +kernel
theorem dX8_orders_9 : decode cX8_orders 9 = .ok (.iload_n 2, 1) := by decide +kernel
theorem dX8_orders_10 : decode cX8_orders 10 = .ok (.iload_n 3, 1) := by decide +kernel
theorem dX8_orders_11 : decode cX8_orders 11 = .ok (.imul, 1) := by decide +kernel
theorem dX8_orders_12 : decode cX8_orders 12 = .ok (.istore_n 2, 1) := by decide +kernel
theorem dX8_orders_13 : decode cX8_orders 13 = .ok (.iinc 3 1, 3) := by decide +kernel
theorem dX8_orders_16 : decode cX8_orders 16 = .ok (.goto (-12), 3) := by decide +kernel
theorem dX8_orders_19 : decode cX8_orders 19 = .ok (.iconst 2, 1) := by decide +kernel
theorem dX8_orders_20 : decode cX8_orders 20 = .ok (.istore_n 3, 1) := by decide +kernel
theorem dX8_orders_21 : decode cX8_orders 21 = .ok (.iload_n 3, 1) := by decide +kernel
theorem dX8_orders_22 : decode cX8_orders 22 = .ok (.iload_n 0, 1) := by decide +kernel
theorem dX8_orders_23 : decode cX8_orders 23 = .ok (.iconst 1, 1) := by decide +kernel
theorem dX8_orders_24 : decode cX8_orders 24 = .ok (.isub, 1) := by decide +kernel
theorem dX8_orders_25 : decode cX8_orders 25 = .ok (.iload_n 1, 1) := by decide +kernel
theorem dX8_orders_26 : decode cX8_orders 26 = .ok (.isub, 1) := by decide +kernel
theorem dX8_orders_27 : decode cX8_orders 27 = .ok (.if_icmp .gt 13, 3) := by decide +kernel
theorem dX8_orders_30 : decode cX8_orders 30 = .ok (.iload_n 2, 1) := by decide +kernel
theorem dX8_orders_31 : decode cX8_orders 31 = .ok (.iload_n 3, 1) := by decide +kernel
theorem dX8_orders_32 : decode cX8_orders 32 = .ok (.imul, 1) := by decide +kernel
theorem dX8_orders_33 : decode cX8_orders 33 = .ok (.istore_n 2, 1) := by decide +kernel
theorem dX8_orders_34 : decode cX8_orders 34 = .ok (.iinc 3 1, 3) := by decide +kernel
theorem dX8_orders_37 : decode cX8_orders 37 = .ok (.goto (-16), 3) := by decide +kernel
theorem dX8_orders_40 : decode cX8_orders 40 = .ok (.iload_n 2, 1) := by decide +kernel
theorem dX8_orders_41 : decode cX8_orders 41 = .ok (.ireturn, 1) := by decide +kernel
set_option maxRecDepth 20000 in
theorem ggX8_rows_X8_dotsOf : GoodIn wsX8_rows wsX8_dotsOf := goodIn_r _ [5] (by decide +kernel) (by decide +kernel)
set_option maxRecDepth 20000 in
theorem gX8_rows_X8_dotsOf : GoodIn wsX8_rows (va_wsS RX8 55 yX8_dotsOf wsX8_dotsOf) := goodIn_app (goodIn_of _ (by decide +kernel)) ggX8_rows_X8_dotsOf
set_option maxRecDepth 20000 in
theorem ggX8_rows_X8_has : GoodIn wsX8_rows wsX8_has := goodIn_r _ [8] (by decide +kernel) (by decide +kernel)
set_option maxRecDepth 20000 in
theorem gX8_rows_X8_has : GoodIn wsX8_rows (va_wsS RX8 51 yX8_has wsX8_has) := goodIn_app (goodIn_of _ (by decide +kernel)) ggX8_rows_X8_has
theorem dX8_rows_0 : decode cX8_rows 0 = .ok (.lconst 0, 1) := by decide +kernel
theorem dX8_rows_1 : decode cX8_rows 1 = .ok (.lstore_n 2, 1) := by decide +kernel
theorem dX8_rows_2 : decode cX8_rows 2 = .ok (.iconst 0, 1) := by decide +kernel
theorem dX8_rows_3 : decode cX8_rows 3 = .ok (.istore 4, 2) := by decide +kernel
theorem dX8_rows_5 : decode cX8_rows 5 = .ok (.iload 4, 2) := by decide +kernel
theorem dX8_rows_7 : decode cX8_rows 7 = .ok (.aload_n 0, 1) := by decide +kernel
theorem dX8_rows_8 : decode cX8_rows 8 = .ok (.getfield 16, 3) := by decide +kernel
theorem dX8_rows_11 : decode cX8_rows 11 = .ok (.invokestatic 55, 3) := by decide +kernel
theorem dX8_rows_14 : decode cX8_rows 14 = .ok (.if_icmp .ge 37, 3) := by decide +kernel
theorem dX8_rows_17 : decode cX8_rows 17 = .ok (.lload_n 2, 1) := by decide +kernel
theorem dX8_rows_18 : decode cX8_rows 18 = .ok (.iload_n 1, 1) := by decide +kernel
theorem dX8_rows_19 : decode cX8_rows 19 = .ok (.i2l, 1) := by decide +kernel
theorem dX8_rows_20 : decode cX8_rows 20 = .ok (.iload 4, 2) := by decide +kernel
theorem dX8_rows_22 : decode cX8_rows 22 = .ok (.aload_n 0, 1) := by decide +kernel
theorem dX8_rows_23 : decode cX8_rows 23 = .ok (.getfield 16, 3) := by decide +kernel
theorem dX8_rows_26 : decode cX8_rows 26 = .ok (.iconst 1, 1) := by decide +kernel
theorem dX8_rows_27 : decode cX8_rows 27 = .ok (.iaload, 1) := by decide +kernel
theorem dX8_rows_28 : decode cX8_rows 28 = .ok (.idiv, 1) := by decide +kernel
theorem dX8_rows_29 : decode cX8_rows 29 = .ok (.invokestatic 51, 3) := by decide +kernel
theorem dX8_rows_32 : decode cX8_rows 32 = .ok (.ifCond .eq 10, 3) := by decide +kernel
theorem dX8_rows_35 : decode cX8_rows 35 = .ok (.lconst 1, 1) := by decide +kernel
theorem dX8_rows_36 : decode cX8_rows 36 = .ok (.iload 4, 2) := by decide +kernel
theorem dX8_rows_38 : decode cX8_rows 38 = .ok (.lshl, 1) := by decide +kernel
theorem dX8_rows_39 : decode cX8_rows 39 = .ok (.goto 4, 3) := by decide +kernel
theorem dX8_rows_42 : decode cX8_rows 42 = .ok (.lconst 0, 1) := by decide +kernel
theorem dX8_rows_43 : decode cX8_rows 43 = .ok (.lor, 1) := by decide +kernel
theorem dX8_rows_44 : decode cX8_rows 44 = .ok (.lstore_n 2, 1) := by decide +kernel
theorem dX8_rows_45 : decode cX8_rows 45 = .ok (.iinc 4 1, 3) := by decide +kernel
theorem dX8_rows_48 : decode cX8_rows 48 = .ok (.goto (-43), 3) := by decide +kernel
theorem dX8_rows_51 : decode cX8_rows 51 = .ok (.lload_n 2, 1) := by decide +kernel
theorem dX8_rows_52 : decode cX8_rows 52 = .ok (.lreturn, 1) := by decide +kernel
set_option maxRecDepth 20000 in
theorem ggX8_share_X8_in : GoodIn wsX8_share wsX8_in := goodIn_r _ [8] (by decide +kernel) (by decide +kernel)
set_option maxRecDepth 20000 in
theorem gX8_share_X8_in : GoodIn wsX8_share (va_wsS RX8 59 yX8_in wsX8_in) := goodIn_app (goodIn_of _ (by decide +kernel)) ggX8_share_X8_in
set_option maxRecDepth 20000 in
theorem ggX8_share_X8_rows : GoodIn wsX8_share wsX8_rows := goodIn_r _ [12, 2, 13, 14, 7, 15, 16, 17, 18, 47, 48, 49, 50, 51, 52, 53, 54, 55, 56, 57, 58, 59, 60, 61, 62, 63, 64, 65, 66, 67] (by decide +kernel) (by decide +kernel)
set_option maxRecDepth 20000 in
theorem gX8_share_X8_rows : GoodIn wsX8_share (wsV RX8 230 RX8 yX8_rows wsX8_rows) := goodIn_app (goodIn_of _ (by decide +kernel)) ggX8_share_X8_rows
set_option maxRecDepth 20000 in
theorem ggX8_share_X8_partsOf : GoodIn wsX8_share wsX8_partsOf := goodIn_r _ [21, 22, 23, 24, 7, 25, 13, 14, 15, 16, 17, 18, 26, 27, 28, 29, 30, 31, 32, 33, 34] (by decide +kernel) (by decide +kernel)
set_option maxRecDepth 20000 in
theorem gX8_share_X8_partsOf : GoodIn wsX8_share (va_wsS RX8 162 yX8_partsOf wsX8_partsOf) := goodIn_app (goodIn_of _ (by decide +kernel)) ggX8_share_X8_partsOf
set_option maxRecDepth 20000 in
theorem ggX8_share_X8_has : GoodIn wsX8_share wsX8_has := goodIn_r _ [18] (by decide +kernel) (by decide +kernel)
end
section
set_option maxRecDepth 20000 in
theorem gX8_share_X8_has : GoodIn wsX8_share (va_wsS RX8 51 yX8_has wsX8_has) := goodIn_app (goodIn_of _ (by decide +kernel)) ggX8_share_X8_has
set_option maxRecDepth 20000 in
theorem ggX8_share_X8_many : GoodIn wsX8_share wsX8_many := goodIn_r _ [37, 16, 17, 7, 18] (by decide +kernel) (by decide +kernel)
set_option maxRecDepth 20000 in
theorem gX8_share_X8_many : GoodIn wsX8_share (va_wsS RX8 129 yX8_many wsX8_many) := goodIn_app (goodIn_of _ (by decide +kernel)) ggX8_share_X8_many
set_option maxRecDepth 20000 in
theorem ggX8_share_X8_orders : GoodIn wsX8_share wsX8_orders := goodIn_r _ [40] (by decide +kernel) (by decide +kernel)
set_option maxRecDepth 20000 in
theorem gX8_share_X8_orders : GoodIn wsX8_share (va_wsS RX8 234 yX8_orders wsX8_orders) := goodIn_app (goodIn_of _ (by decide +kernel)) ggX8_share_X8_orders
set_option maxRecDepth 20000 in
theorem ggX8_share_X8_fraction : GoodIn wsX8_share wsX8_fraction := goodIn_r _ [43, 44, 45, 7, 46] (by decide +kernel) (by decide +kernel)
set_option maxRecDepth 20000 in
theorem gX8_share_X8_fraction : GoodIn wsX8_share (va_wsS RX8 201 yX8_fraction wsX8_fraction) := goodIn_app (goodIn_of _ (by decide +kernel)) ggX8_share_X8_fraction
theorem dX8_share_0 : decode cX8_share 0 = .ok (.aload_n 0, 1) := by decide +kernel
theorem dX8_share_1 : decode cX8_share 1 = .ok (.iconst 0, 1) := by decide +kernel
theorem dX8_share_2 : decode cX8_share 2 = .ok (.putfield 47, 3) := by decide +kernel
theorem dX8_share_5 : decode cX8_share 5 = .ok (.aload_n 0, 1) := by decide +kernel
theorem dX8_share_6 : decode cX8_share 6 = .ok (.getfield 16, 3) := by decide +kernel
theorem dX8_share_9 : decode cX8_share 9 = .ok (.iconst 2, 1) := by decide +kernel
theorem dX8_share_10 : decode cX8_share 10 = .ok (.iaload, 1) := by decide +kernel
theorem dX8_share_11 : decode cX8_share 11 = .ok (.istore 4, 2) := by decide +kernel
theorem dX8_share_13 : decode cX8_share 13 = .ok (.iload_n 1, 1) := by decide +kernel
theorem dX8_share_14 : decode cX8_share 14 = .ok (.i2l, 1) := by decide +kernel
theorem dX8_share_15 : decode cX8_share 15 = .ok (.lconst 0, 1) := by decide +kernel
theorem dX8_share_16 : decode cX8_share 16 = .ok (.iload 4, 2) := by decide +kernel
theorem dX8_share_18 : decode cX8_share 18 = .ok (.iconst 1, 1) := by decide +kernel
theorem dX8_share_19 : decode cX8_share 19 = .ok (.isub, 1) := by decide +kernel
theorem dX8_share_20 : decode cX8_share 20 = .ok (.i2l, 1) := by decide +kernel
theorem dX8_share_21 : decode cX8_share 21 = .ok (.invokestatic 59, 3) := by decide +kernel
theorem dX8_share_24 : decode cX8_share 24 = .ok (.ifCond .ne 5, 3) := by decide +kernel
theorem dX8_share_27 : decode cX8_share 27 = .ok (.iconst (-1), 1) := by decide +kernel
theorem dX8_share_28 : decode cX8_share 28 = .ok (.ireturn, 1) := by decide +kernel
theorem dX8_share_29 : decode cX8_share 29 = .ok (.iload_n 2, 1) := by decide +kernel
theorem dX8_share_30 : decode cX8_share 30 = .ok (.i2l, 1) := by decide +kernel
theorem dX8_share_31 : decode cX8_share 31 = .ok (.lconst 0, 1) := by decide +kernel
theorem dX8_share_32 : decode cX8_share 32 = .ok (.ldc2_w 117, 3) := by decide +kernel
theorem dX8_share_35 : decode cX8_share 35 = .ok (.invokestatic 59, 3) := by decide +kernel
theorem dX8_share_38 : decode cX8_share 38 = .ok (.ifCond .ne 6, 3) := by decide +kernel
theorem dX8_share_41 : decode cX8_share 41 = .ok (.bipush (-2), 2) := by decide +kernel
theorem dX8_share_43 : decode cX8_share 43 = .ok (.ireturn, 1) := by decide +kernel
theorem dX8_share_44 : decode cX8_share 44 = .ok (.iconst 0, 1) := by decide +kernel
theorem dX8_share_45 : decode cX8_share 45 = .ok (.istore 5, 2) := by decide +kernel
theorem dX8_share_47 : decode cX8_share 47 = .ok (.iload 5, 2) := by decide +kernel
theorem dX8_share_49 : decode cX8_share 49 = .ok (.iconst 1, 1) := by decide +kernel
theorem dX8_share_50 : decode cX8_share 50 = .ok (.iload 4, 2) := by decide +kernel
theorem dX8_share_52 : decode cX8_share 52 = .ok (.ishl, 1) := by decide +kernel
theorem dX8_share_53 : decode cX8_share 53 = .ok (.if_icmp .ge 30, 3) := by decide +kernel
theorem dX8_share_56 : decode cX8_share 56 = .ok (.aload_n 0, 1) := by decide +kernel
theorem dX8_share_57 : decode cX8_share 57 = .ok (.getfield 44, 3) := by decide +kernel
theorem dX8_share_60 : decode cX8_share 60 = .ok (.iload 5, 2) := by decide +kernel
theorem dX8_share_62 : decode cX8_share 62 = .ok (.aload_n 0, 1) := by decide +kernel
theorem dX8_share_63 : decode cX8_share 63 = .ok (.getfield 16, 3) := by decide +kernel
theorem dX8_share_66 : decode cX8_share 66 = .ok (.iload_n 2, 1) := by decide +kernel
theorem dX8_share_67 : decode cX8_share 67 = .ok (.aload_n 0, 1) := by decide +kernel
theorem dX8_share_68 : decode cX8_share 68 = .ok (.iload 5, 2) := by decide +kernel
theorem dX8_share_70 : decode cX8_share 70 = .ok (.invokevirtual 230, 3) := by decide +kernel
theorem dX8_share_73 : decode cX8_share 73 = .ok (.invokestatic 162, 3) := by decide +kernel
theorem dX8_share_76 : decode cX8_share 76 = .ok (.iastore, 1) := by decide +kernel
theorem dX8_share_77 : decode cX8_share 77 = .ok (.iinc 5 1, 3) := by decide +kernel
theorem dX8_share_80 : decode cX8_share 80 = .ok (.goto (-33), 3) := by decide +kernel
theorem dX8_share_83 : decode cX8_share 83 = .ok (.iconst 0, 1) := by decide +kernel
theorem dX8_share_84 : decode cX8_share 84 = .ok (.istore 5, 2) := by decide +kernel
theorem dX8_share_86 : decode cX8_share 86 = .ok (.iconst 0, 1) := by decide +kernel
theorem dX8_share_87 : decode cX8_share 87 = .ok (.istore 6, 2) := by decide +kernel
theorem dX8_share_89 : decode cX8_share 89 = .ok (.iconst 0, 1) := by decide +kernel
theorem dX8_share_90 : decode cX8_share 90 = .ok (.istore 7, 2) := by decide +kernel
theorem dX8_share_92 : decode cX8_share 92 = .ok (.iload 7, 2) := by decide +kernel
theorem dX8_share_94 : decode cX8_share 94 = .ok (.iconst 1, 1) := by decide +kernel
theorem dX8_share_95 : decode cX8_share 95 = .ok (.iload 4, 2) := by decide +kernel
theorem dX8_share_97 : decode cX8_share 97 = .ok (.ishl, 1) := by decide +kernel
theorem dX8_share_98 : decode cX8_share 98 = .ok (.if_icmp .ge 66, 3) := by decide +kernel
theorem dX8_share_101 : decode cX8_share 101 = .ok (.iload 7, 2) := by decide +kernel
theorem dX8_share_103 : decode cX8_share 103 = .ok (.i2l, 1) := by decide +kernel
theorem dX8_share_104 : decode cX8_share 104 = .ok (.iload_n 1, 1) := by decide +kernel
theorem dX8_share_105 : decode cX8_share 105 = .ok (.invokestatic 51, 3) := by decide +kernel
theorem dX8_share_108 : decode cX8_share 108 = .ok (.ifCond .ne 50, 3) := by decide +kernel
theorem dX8_share_111 : decode cX8_share 111 = .ok (.iload 4, 2) := by decide +kernel
theorem dX8_share_113 : decode cX8_share 113 = .ok (.iload 7, 2) := by decide +kernel
theorem dX8_share_115 : decode cX8_share 115 = .ok (.i2l, 1) := by decide +kernel
theorem dX8_share_116 : decode cX8_share 116 = .ok (.invokestatic 129, 3) := by decide +kernel
theorem dX8_share_119 : decode cX8_share 119 = .ok (.invokestatic 234, 3) := by decide +kernel
theorem dX8_share_122 : decode cX8_share 122 = .ok (.istore 8, 2) := by decide +kernel
theorem dX8_share_124 : decode cX8_share 124 = .ok (.iload 6, 2) := by decide +kernel
theorem dX8_share_126 : decode cX8_share 126 = .ok (.iload 8, 2) := by decide +kernel
theorem dX8_share_128 : decode cX8_share 128 = .ok (.iadd, 1) := by decide +kernel
theorem dX8_share_129 : decode cX8_share 129 = .ok (.istore 6, 2) := by decide +kernel
theorem dX8_share_131 : decode cX8_share 131 = .ok (.iload 5, 2) := by decide +kernel
theorem dX8_share_133 : decode cX8_share 133 = .ok (.iload 8, 2) := by decide +kernel
theorem dX8_share_135 : decode cX8_share 135 = .ok (.aload_n 0, 1) := by decide +kernel
theorem dX8_share_136 : decode cX8_share 136 = .ok (.getfield 44, 3) := by decide +kernel
theorem dX8_share_139 : decode cX8_share 139 = .ok (.iload 7, 2) := by decide +kernel
theorem dX8_share_141 : decode cX8_share 141 = .ok (.iconst 1, 1) := by decide +kernel
theorem dX8_share_142 : decode cX8_share 142 = .ok (.iload_n 1, 1) := by decide +kernel
theorem dX8_share_143 : decode cX8_share 143 = .ok (.ishl, 1) := by decide +kernel
theorem dX8_share_144 : decode cX8_share 144 = .ok (.ior, 1) := by decide +kernel
theorem dX8_share_145 : decode cX8_share 145 = .ok (.iaload, 1) := by decide +kernel
theorem dX8_share_146 : decode cX8_share 146 = .ok (.aload_n 0, 1) := by decide +kernel
theorem dX8_share_147 : decode cX8_share 147 = .ok (.getfield 44, 3) := by decide +kernel
theorem dX8_share_150 : decode cX8_share 150 = .ok (.iload 7, 2) := by decide +kernel
theorem dX8_share_152 : decode cX8_share 152 = .ok (.iaload, 1) := by decide +kernel
theorem dX8_share_153 : decode cX8_share 153 = .ok (.isub, 1) := by decide +kernel
theorem dX8_share_154 : decode cX8_share 154 = .ok (.imul, 1) := by decide +kernel
theorem dX8_share_155 : decode cX8_share 155 = .ok (.iadd, 1) := by decide +kernel
theorem dX8_share_156 : decode cX8_share 156 = .ok (.istore 5, 2) := by decide +kernel
theorem dX8_share_158 : decode cX8_share 158 = .ok (.iinc 7 1, 3) := by decide +kernel
theorem dX8_share_161 : decode cX8_share 161 = .ok (.goto (-69), 3) := by decide +kernel
theorem dX8_share_164 : decode cX8_share 164 = .ok (.iload 5, 2) := by decide +kernel
theorem dX8_share_166 : decode cX8_share 166 = .ok (.iload 6, 2) := by decide +kernel
theorem dX8_share_168 : decode cX8_share 168 = .ok (.iload_n 3, 1) := by decide +kernel
theorem dX8_share_169 : decode cX8_share 169 = .ok (.invokestatic 201, 3) := by decide +kernel
theorem dX8_share_172 : decode cX8_share 172 = .ok (.ireturn, 1) := by decide +kernel
set_option maxRecDepth 20000 in
theorem ggX8_see_X8_noDot : GoodIn wsX8_see wsX8_noDot := goodIn_r _ [10, 11, 12, 13, 9, 14, 15, 16, 17, 18, 19, 20, 21, 22, 23, 24, 25, 26, 27, 28, 29, 30, 31, 32, 33, 34, 35, 36, 37, 38] (by decide +kernel) (by decide +kernel)
set_option maxRecDepth 20000 in
theorem gX8_see_X8_noDot : GoodIn wsX8_see (wsV RX8 148 RX8 yX8_noDot wsX8_noDot) := goodIn_app (goodIn_of _ (by decide +kernel)) ggX8_see_X8_noDot
set_option maxRecDepth 20000 in
theorem ggX8_see_X8_in : GoodIn wsX8_see wsX8_in := goodIn_r _ [17] (by decide +kernel) (by decide +kernel)
set_option maxRecDepth 20000 in
theorem gX8_see_X8_in : GoodIn wsX8_see (va_wsS RX8 59 yX8_in wsX8_in) := goodIn_app (goodIn_of _ (by decide +kernel)) ggX8_see_X8_in
theorem dX8_see_0 : decode cX8_see 0 = .ok (.aload_n 0, 1) := by decide +kernel
theorem dX8_see_1 : decode cX8_see 1 = .ok (.iconst 0, 1) := by decide +kernel
theorem dX8_see_2 : decode cX8_see 2 = .ok (.putfield 47, 3) := by decide +kernel
theorem dX8_see_5 : decode cX8_see 5 = .ok (.aload_n 0, 1) := by decide +kernel
theorem dX8_see_6 : decode cX8_see 6 = .ok (.iload_n 1, 1) := by decide +kernel
theorem dX8_see_7 : decode cX8_see 7 = .ok (.invokevirtual 148, 3) := by decide +kernel
theorem dX8_see_10 : decode cX8_see 10 = .ok (.ifCond .ne 11, 3) := by decide +kernel
theorem dX8_see_13 : decode cX8_see 13 = .ok (.aload_n 0, 1) := by decide +kernel
theorem dX8_see_14 : decode cX8_see 14 = .ok (.iload_n 2, 1) := by decide +kernel
theorem dX8_see_15 : decode cX8_see 15 = .ok (.invokevirtual 148, 3) := by decide +kernel
theorem dX8_see_18 : decode cX8_see 18 = .ok (.ifCond .eq 5, 3) := by decide +kernel
theorem dX8_see_21 : decode cX8_see 21 = .ok (.iconst (-1), 1) := by decide +kernel
theorem dX8_see_22 : decode cX8_see 22 = .ok (.ireturn, 1) := by decide +kernel
theorem dX8_see_23 : decode cX8_see 23 = .ok (.iload_n 3, 1) := by decide +kernel
theorem dX8_see_24 : decode cX8_see 24 = .ok (.i2l, 1) := by decide +kernel
theorem dX8_see_25 : decode cX8_see 25 = .ok (.lconst 0, 1) := by decide +kernel
theorem dX8_see_26 : decode cX8_see 26 = .ok (.lconst 1, 1) := by decide +kernel
theorem dX8_see_27 : decode cX8_see 27 = .ok (.invokestatic 59, 3) := by decide +kernel
theorem dX8_see_30 : decode cX8_see 30 = .ok (.ifCond .ne 6, 3) := by decide +kernel
theorem dX8_see_33 : decode cX8_see 33 = .ok (.bipush (-2), 2) := by decide +kernel
theorem dX8_see_35 : decode cX8_see 35 = .ok (.ireturn, 1) := by decide +kernel
theorem dX8_see_36 : decode cX8_see 36 = .ok (.aload_n 0, 1) := by decide +kernel
theorem dX8_see_37 : decode cX8_see 37 = .ok (.getfield 145, 3) := by decide +kernel
theorem dX8_see_40 : decode cX8_see 40 = .ok (.bipush 6, 2) := by decide +kernel
theorem dX8_see_42 : decode cX8_see 42 = .ok (.if_icmp .ne 6, 3) := by decide +kernel
theorem dX8_see_45 : decode cX8_see 45 = .ok (.bipush (-4), 2) := by decide +kernel
theorem dX8_see_47 : decode cX8_see 47 = .ok (.ireturn, 1) := by decide +kernel
theorem dX8_see_48 : decode cX8_see 48 = .ok (.aload_n 0, 1) := by decide +kernel
theorem dX8_see_49 : decode cX8_see 49 = .ok (.getfield 35, 3) := by decide +kernel
theorem dX8_see_52 : decode cX8_see 52 = .ok (.aload_n 0, 1) := by decide +kernel
theorem dX8_see_53 : decode cX8_see 53 = .ok (.getfield 145, 3) := by decide +kernel
theorem dX8_see_56 : decode cX8_see 56 = .ok (.iload_n 1, 1) := by decide +kernel
theorem dX8_see_57 : decode cX8_see 57 = .ok (.iastore, 1) := by decide +kernel
theorem dX8_see_58 : decode cX8_see 58 = .ok (.aload_n 0, 1) := by decide +kernel
theorem dX8_see_59 : decode cX8_see 59 = .ok (.getfield 38, 3) := by decide +kernel
theorem dX8_see_62 : decode cX8_see 62 = .ok (.aload_n 0, 1) := by decide +kernel
theorem dX8_see_63 : decode cX8_see 63 = .ok (.getfield 145, 3) := by decide +kernel
theorem dX8_see_66 : decode cX8_see 66 = .ok (.iload_n 2, 1) := by decide +kernel
theorem dX8_see_67 : decode cX8_see 67 = .ok (.iastore, 1) := by decide +kernel
theorem dX8_see_68 : decode cX8_see 68 = .ok (.aload_n 0, 1) := by decide +kernel
theorem dX8_see_69 : decode cX8_see 69 = .ok (.getfield 41, 3) := by decide +kernel
theorem dX8_see_72 : decode cX8_see 72 = .ok (.aload_n 0, 1) := by decide +kernel
theorem dX8_see_73 : decode cX8_see 73 = .ok (.getfield 145, 3) := by decide +kernel
theorem dX8_see_76 : decode cX8_see 76 = .ok (.iload_n 3, 1) := by decide +kernel
theorem dX8_see_77 : decode cX8_see 77 = .ok (.iastore, 1) := by decide +kernel
theorem dX8_see_78 : decode cX8_see 78 = .ok (.aload_n 0, 1) := by decide +kernel
theorem dX8_see_79 : decode cX8_see 79 = .ok (.dup, 1) := by decide +kernel
theorem dX8_see_80 : decode cX8_see 80 = .ok (.getfield 145, 3) := by decide +kernel
theorem dX8_see_83 : decode cX8_see 83 = .ok (.iconst 1, 1) := by decide +kernel
theorem dX8_see_84 : decode cX8_see 84 = .ok (.iadd, 1) := by decide +kernel
theorem dX8_see_85 : decode cX8_see 85 = .ok (.putfield 145, 3) := by decide +kernel
theorem dX8_see_88 : decode cX8_see 88 = .ok (.aload_n 0, 1) := by decide +kernel
theorem dX8_see_89 : decode cX8_see 89 = .ok (.getfield 145, 3) := by decide +kernel
theorem dX8_see_92 : decode cX8_see 92 = .ok (.ireturn, 1) := by decide +kernel
theorem dX8_unsee_0 : decode cX8_unsee 0 = .ok (.aload_n 0, 1) := by decide +kernel
theorem dX8_unsee_1 : decode cX8_unsee 1 = .ok (.iconst 0, 1) := by decide +kernel
theorem dX8_unsee_2 : decode cX8_unsee 2 = .ok (.putfield 47, 3) := by decide +kernel
theorem dX8_unsee_5 : decode cX8_unsee 5 = .ok (.aload_n 0, 1) := by decide +kernel
theorem dX8_unsee_6 : decode cX8_unsee 6 = .ok (.getfield 145, 3) := by decide +kernel
theorem dX8_unsee_9 : decode cX8_unsee 9 = .ok (.istore_n 1, 1) := by decide +kernel
theorem dX8_unsee_10 : decode cX8_unsee 10 = .ok (.aload_n 0, 1) := by decide +kernel
theorem dX8_unsee_11 : decode cX8_unsee 11 = .ok (.iconst 0, 1) := by decide +kernel
theorem dX8_unsee_12 : decode cX8_unsee 12 = .ok (.putfield 145, 3) := by decide +kernel
theorem dX8_unsee_15 : decode cX8_unsee 15 = .ok (.iload_n 1, 1) := by decide +kernel
theorem dX8_unsee_16 : decode cX8_unsee 16 = .ok (.ireturn, 1) := by decide +kernel
set_option maxRecDepth 20000 in
theorem ggX8_explains_X8_bright : GoodIn wsX8_explains wsX8_bright := goodIn_r _ [10, 11, 12, 9, 13, 14, 15, 16] (by decide +kernel) (by decide +kernel)
set_option maxRecDepth 20000 in
theorem gX8_explains_X8_bright : GoodIn wsX8_explains (va_wsS RX8 73 yX8_bright wsX8_bright) := goodIn_app (goodIn_of _ (by decide +kernel)) ggX8_explains_X8_bright
set_option maxRecDepth 20000 in
theorem ggX8_explains_X8_spread : GoodIn wsX8_explains wsX8_spread := goodIn_r _ [19, 2, 14, 15, 9, 16, 20, 21, 22, 11, 12, 13, 23, 24, 25] (by decide +kernel) (by decide +kernel)
set_option maxRecDepth 20000 in
theorem gX8_explains_X8_spread : GoodIn wsX8_explains (va_wsS RX8 77 yX8_spread wsX8_spread) := goodIn_app (goodIn_of _ (by decide +kernel)) ggX8_explains_X8_spread
set_option maxRecDepth 20000 in
theorem ggX8_explains_X8_has : GoodIn wsX8_explains wsX8_has := goodIn_r _ [16] (by decide +kernel) (by decide +kernel)
set_option maxRecDepth 20000 in
theorem gX8_explains_X8_has : GoodIn wsX8_explains (va_wsS RX8 51 yX8_has wsX8_has) := goodIn_app (goodIn_of _ (by decide +kernel)) ggX8_explains_X8_has
theorem dX8_explains_0 : decode cX8_explains 0 = .ok (.aload_n 0, 1) := by decide +kernel
theorem dX8_explains_1 : decode cX8_explains 1 = .ok (.getfield 16, 3) := by decide +kernel
theorem dX8_explains_4 : decode cX8_explains 4 = .ok (.iload_n 1, 1) := by decide +kernel
theorem dX8_explains_5 : decode cX8_explains 5 = .ok (.ldc2_w 67, 3) := by decide +kernel
theorem dX8_explains_8 : decode cX8_explains 8 = .ok (.invokestatic 73, 3) := by decide +kernel
theorem dX8_explains_11 : decode cX8_explains 11 = .ok (.lstore_n 3, 1) := by decide +kernel
theorem dX8_explains_12 : decode cX8_explains 12 = .ok (.iconst 1, 1) := by decide +kernel
theorem dX8_explains_13 : decode cX8_explains 13 = .ok (.istore 5, 2) := by decide +kernel
theorem dX8_explains_15 : decode cX8_explains 15 = .ok (.iconst 0, 1) := by decide +kernel
theorem dX8_explains_16 : decode cX8_explains 16 = .ok (.istore 6, 2) := by decide +kernel
theorem dX8_explains_18 : decode cX8_explains 18 = .ok (.iload 6, 2) := by decide +kernel
theorem dX8_explains_20 : decode cX8_explains 20 = .ok (.aload_n 0, 1) := by decide +kernel
theorem dX8_explains_21 : decode cX8_explains 21 = .ok (.getfield 145, 3) := by decide +kernel
theorem dX8_explains_24 : decode cX8_explains 24 = .ok (.if_icmp .ge 70, 3) := by decide +kernel
theorem dX8_explains_27 : decode cX8_explains 27 = .ok (.aload_n 0, 1) := by decide +kernel
theorem dX8_explains_28 : decode cX8_explains 28 = .ok (.getfield 16, 3) := by decide +kernel
theorem dX8_explains_31 : decode cX8_explains 31 = .ok (.aload_n 0, 1) := by decide +kernel
theorem dX8_explains_32 : decode cX8_explains 32 = .ok (.getfield 35, 3) := by decide +kernel
theorem dX8_explains_35 : decode cX8_explains 35 = .ok (.iload 6, 2) := by decide +kernel
theorem dX8_explains_37 : decode cX8_explains 37 = .ok (.iaload, 1) := by decide +kernel
theorem dX8_explains_38 : decode cX8_explains 38 = .ok (.lload_n 3, 1) := by decide +kernel
theorem dX8_explains_39 : decode cX8_explains 39 = .ok (.iload_n 2, 1) := by decide +kernel
theorem dX8_explains_40 : decode cX8_explains 40 = .ok (.invokestatic 77, 3) := by decide +kernel
theorem dX8_explains_43 : decode cX8_explains 43 = .ok (.aload_n 0, 1) := by decide +kernel
theorem dX8_explains_44 : decode cX8_explains 44 = .ok (.getfield 38, 3) := by decide +kernel
theorem dX8_explains_47 : decode cX8_explains 47 = .ok (.iload 6, 2) := by decide +kernel
theorem dX8_explains_49 : decode cX8_explains 49 = .ok (.iaload, 1) := by decide +kernel
theorem dX8_explains_50 : decode cX8_explains 50 = .ok (.invokestatic 51, 3) := by decide +kernel
theorem dX8_explains_53 : decode cX8_explains 53 = .ok (.istore 7, 2) := by decide +kernel
theorem dX8_explains_55 : decode cX8_explains 55 = .ok (.iload 5, 2) := by decide +kernel
theorem dX8_explains_57 : decode cX8_explains 57 = .ok (.ifCond .eq 28, 3) := by decide +kernel
theorem dX8_explains_60 : decode cX8_explains 60 = .ok (.iload 7, 2) := by decide +kernel
theorem dX8_explains_62 : decode cX8_explains 62 = .ok (.aload_n 0, 1) := by decide +kernel
theorem dX8_explains_63 : decode cX8_explains 63 = .ok (.getfield 41, 3) := by decide +kernel
theorem dX8_explains_66 : decode cX8_explains 66 = .ok (.iload 6, 2) := by decide +kernel
theorem dX8_explains_68 : decode cX8_explains 68 = .ok (.iaload, 1) := by decide +kernel
theorem dX8_explains_69 : decode cX8_explains 69 = .ok (.iconst 1, 1) := by decide +kernel
theorem dX8_explains_70 : decode cX8_explains 70 = .ok (.if_icmp .ne 7, 3) := by decide +kernel
theorem dX8_explains_73 : decode cX8_explains 73 = .ok (.iconst 1, 1) := by decide +kernel
theorem dX8_explains_74 : decode cX8_explains 74 = .ok (.goto 4, 3) := by decide +kernel
theorem dX8_explains_77 : decode cX8_explains 77 = .ok (.iconst 0, 1) := by decide +kernel
theorem dX8_explains_78 : decode cX8_explains 78 = .ok (.if_icmp .ne 7, 3) := by decide +kernel
theorem dX8_explains_81 : decode cX8_explains 81 = .ok (.iconst 1, 1) := by decide +kernel
theorem dX8_explains_82 : decode cX8_explains 82 = .ok (.goto 4, 3) := by decide +kernel
theorem dX8_explains_85 : decode cX8_explains 85 = .ok (.iconst 0, 1) := by decide +kernel
theorem dX8_explains_86 : decode cX8_explains 86 = .ok (.istore 5, 2) := by decide +kernel
theorem dX8_explains_88 : decode cX8_explains 88 = .ok (.iinc 6 1, 3) := by decide +kernel
theorem dX8_explains_91 : decode cX8_explains 91 = .ok (.goto (-73), 3) := by decide +kernel
theorem dX8_explains_94 : decode cX8_explains 94 = .ok (.iload 5, 2) := by decide +kernel
theorem dX8_explains_96 : decode cX8_explains 96 = .ok (.ireturn, 1) := by decide +kernel
set_option maxRecDepth 20000 in
theorem ggX8_ways_X8_in : GoodIn wsX8_ways wsX8_in := goodIn_r _ [7] (by decide +kernel) (by decide +kernel)
set_option maxRecDepth 20000 in
theorem gX8_ways_X8_in : GoodIn wsX8_ways (va_wsS RX8 59 yX8_in wsX8_in) := goodIn_app (goodIn_of _ (by decide +kernel)) ggX8_ways_X8_in
set_option maxRecDepth 20000 in
theorem ggX8_ways_X8_explains : GoodIn wsX8_ways wsX8_explains := goodIn_r _ [11, 12, 13, 14, 15, 16, 17, 18, 19, 6, 20, 21, 22, 23, 24, 25, 26, 27, 28, 29, 30, 31, 32, 33, 34, 35, 36, 37, 38, 39, 40, 41, 42, 43, 44, 45, 46, 47, 48, 49, 50, 51, 52, 53, 54, 55, 56] (by decide +kernel) (by decide +kernel)
set_option maxRecDepth 20000 in
theorem gX8_ways_X8_explains : GoodIn wsX8_ways (wsV RX8 243 RX8 yX8_explains wsX8_explains) := goodIn_app (goodIn_of _ (by decide +kernel)) ggX8_ways_X8_explains
theorem dX8_ways_0 : decode cX8_ways 0 = .ok (.aload_n 0, 1) := by decide +kernel
theorem dX8_ways_1 : decode cX8_ways 1 = .ok (.iconst 0, 1) := by decide +kernel
theorem dX8_ways_2 : decode cX8_ways 2 = .ok (.putfield 47, 3) := by decide +kernel
theorem dX8_ways_5 : decode cX8_ways 5 = .ok (.iload_n 1, 1) := by decide +kernel
theorem dX8_ways_6 : decode cX8_ways 6 = .ok (.i2l, 1) := by decide +kernel
theorem dX8_ways_7 : decode cX8_ways 7 = .ok (.lconst 0, 1) := by decide +kernel
theorem dX8_ways_8 : decode cX8_ways 8 = .ok (.lconst 1, 1) := by decide +kernel
theorem dX8_ways_9 : decode cX8_ways 9 = .ok (.invokestatic 59, 3) := by decide +kernel
theorem dX8_ways_12 : decode cX8_ways 12 = .ok (.ifCond .ne 6, 3) := by decide +kernel
theorem dX8_ways_15 : decode cX8_ways 15 = .ok (.bipush (-2), 2) := by decide +kernel
theorem dX8_ways_17 : decode cX8_ways 17 = .ok (.ireturn, 1) := by decide +kernel
theorem dX8_ways_18 : decode cX8_ways 18 = .ok (.aload_n 0, 1) := by decide +kernel
theorem dX8_ways_19 : decode cX8_ways 19 = .ok (.iconst 0, 1) := by decide +kernel
theorem dX8_ways_20 : decode cX8_ways 20 = .ok (.putfield 237, 3) := by decide +kernel
theorem dX8_ways_23 : decode cX8_ways 23 = .ok (.aload_n 0, 1) := by decide +kernel
theorem dX8_ways_24 : decode cX8_ways 24 = .ok (.bipush (-9), 2) := by decide +kernel
theorem dX8_ways_26 : decode cX8_ways 26 = .ok (.putfield 240, 3) := by decide +kernel
theorem dX8_ways_29 : decode cX8_ways 29 = .ok (.iconst 0, 1) := by decide +kernel
theorem dX8_ways_30 : decode cX8_ways 30 = .ok (.istore_n 2, 1) := by decide +kernel
theorem dX8_ways_31 : decode cX8_ways 31 = .ok (.iload_n 2, 1) := by decide +kernel
theorem dX8_ways_32 : decode cX8_ways 32 = .ok (.bipush 9, 2) := by decide +kernel
theorem dX8_ways_34 : decode cX8_ways 34 = .ok (.if_icmp .gt 79, 3) := by decide +kernel
theorem dX8_ways_37 : decode cX8_ways 37 = .ok (.iconst 4, 1) := by decide +kernel
theorem dX8_ways_38 : decode cX8_ways 38 = .ok (.istore_n 3, 1) := by decide +kernel
theorem dX8_ways_39 : decode cX8_ways 39 = .ok (.iload_n 3, 1) := by decide +kernel
theorem dX8_ways_40 : decode cX8_ways 40 = .ok (.bipush 9, 2) := by decide +kernel
theorem dX8_ways_42 : decode cX8_ways 42 = .ok (.if_icmp .ge 65, 3) := by decide +kernel
theorem dX8_ways_45 : decode cX8_ways 45 = .ok (.aload_n 0, 1) := by decide +kernel
theorem dX8_ways_46 : decode cX8_ways 46 = .ok (.iload_n 2, 1) := by decide +kernel
theorem dX8_ways_47 : decode cX8_ways 47 = .ok (.iload_n 3, 1) := by decide +kernel
theorem dX8_ways_48 : decode cX8_ways 48 = .ok (.invokevirtual 243, 3) := by decide +kernel
theorem dX8_ways_51 : decode cX8_ways 51 = .ok (.istore 4, 2) := by decide +kernel
theorem dX8_ways_53 : decode cX8_ways 53 = .ok (.aload_n 0, 1) := by decide +kernel
theorem dX8_ways_54 : decode cX8_ways 54 = .ok (.iload 4, 2) := by decide +kernel
theorem dX8_ways_56 : decode cX8_ways 56 = .ok (.ifCond .eq 19, 3) := by decide +kernel
theorem dX8_ways_59 : decode cX8_ways 59 = .ok (.aload_n 0, 1) := by decide +kernel
theorem dX8_ways_60 : decode cX8_ways 60 = .ok (.getfield 237, 3) := by decide +kernel
theorem dX8_ways_63 : decode cX8_ways 63 = .ok (.ifCond .ne 12, 3) := by decide +kernel
theorem dX8_ways_66 : decode cX8_ways 66 = .ok (.bipush 10, 2) := by decide +kernel
theorem dX8_ways_68 : decode cX8_ways 68 = .ok (.iload_n 2, 1) := by decide +kernel
theorem dX8_ways_69 : decode cX8_ways 69 = .ok (.imul, 1) := by decide +kernel
theorem dX8_ways_70 : decode cX8_ways 70 = .ok (.iload_n 3, 1) := by decide +kernel
theorem dX8_ways_71 : decode cX8_ways 71 = .ok (.iadd, 1) := by decide +kernel
theorem dX8_ways_72 : decode cX8_ways 72 = .ok (.goto 7, 3) := by decide +kernel
theorem dX8_ways_75 : decode cX8_ways 75 = .ok (.aload_n 0, 1) := by decide +kernel
theorem dX8_ways_76 : decode cX8_ways 76 = .ok (.getfield 240, 3) := by decide +kernel
theorem dX8_ways_79 : decode cX8_ways 79 = .ok (.putfield 240, 3) := by decide +kernel
theorem dX8_ways_82 : decode cX8_ways 82 = .ok (.aload_n 0, 1) := by decide +kernel
theorem dX8_ways_83 : decode cX8_ways 83 = .ok (.dup, 1) := by decide +kernel
theorem dX8_ways_84 : decode cX8_ways 84 = .ok (.getfield 237, 3) := by decide +kernel
theorem dX8_ways_87 : decode cX8_ways 87 = .ok (.iload 4, 2) := by decide +kernel
theorem dX8_ways_89 : decode cX8_ways 89 = .ok (.ifCond .eq 7, 3) := by decide +kernel
theorem dX8_ways_92 : decode cX8_ways 92 = .ok (.iconst 1, 1) := by decide +kernel
theorem dX8_ways_93 : decode cX8_ways 93 = .ok (.goto 4, 3) := by decide +kernel
theorem dX8_ways_96 : decode cX8_ways 96 = .ok (.iconst 0, 1) := by decide +kernel
theorem dX8_ways_97 : decode cX8_ways 97 = .ok (.iadd, 1) := by decide +kernel
theorem dX8_ways_98 : decode cX8_ways 98 = .ok (.putfield 237, 3) := by decide +kernel
theorem dX8_ways_101 : decode cX8_ways 101 = .ok (.iinc 3 4, 3) := by decide +kernel
theorem dX8_ways_104 : decode cX8_ways 104 = .ok (.goto (-65), 3) := by decide +kernel
theorem dX8_ways_107 : decode cX8_ways 107 = .ok (.iinc 2 1, 3) := by decide +kernel
theorem dX8_ways_110 : decode cX8_ways 110 = .ok (.goto (-79), 3) := by decide +kernel
theorem dX8_ways_113 : decode cX8_ways 113 = .ok (.iload_n 1, 1) := by decide +kernel
theorem dX8_ways_114 : decode cX8_ways 114 = .ok (.ifCond .ne 10, 3) := by decide +kernel
theorem dX8_ways_117 : decode cX8_ways 117 = .ok (.aload_n 0, 1) := by decide +kernel
theorem dX8_ways_118 : decode cX8_ways 118 = .ok (.getfield 237, 3) := by decide +kernel
theorem dX8_ways_121 : decode cX8_ways 121 = .ok (.goto 7, 3) := by decide +kernel
theorem dX8_ways_124 : decode cX8_ways 124 = .ok (.aload_n 0, 1) := by decide +kernel
theorem dX8_ways_125 : decode cX8_ways 125 = .ok (.getfield 240, 3) := by decide +kernel
theorem dX8_ways_128 : decode cX8_ways 128 = .ok (.ireturn, 1) := by decide +kernel
set_option maxRecDepth 20000 in
theorem ggX8_fades_X8_in : GoodIn wsX8_fades wsX8_in := goodIn_r _ [11] (by decide +kernel) (by decide +kernel)
set_option maxRecDepth 20000 in
theorem gX8_fades_X8_in : GoodIn wsX8_fades (va_wsS RX8 59 yX8_in wsX8_in) := goodIn_app (goodIn_of _ (by decide +kernel)) ggX8_fades_X8_in
set_option maxRecDepth 20000 in
theorem ggX8_fades_X8_begin : GoodIn wsX8_fades wsX8_begin := goodIn_r _ [15, 6, 2, 49, 50, 51, 52, 53, 54, 55, 56, 57, 58, 59, 60, 61, 62, 63, 64, 65, 66, 67, 68, 69] (by decide +kernel) (by decide +kernel)
set_option maxRecDepth 20000 in
theorem gX8_fades_X8_begin : GoodIn wsX8_fades (wsV RX8 224 RX8 yX8_begin wsX8_begin) := goodIn_app (goodIn_of _ (by decide +kernel)) ggX8_fades_X8_begin
set_option maxRecDepth 20000 in
theorem ggX8_fades_X8_has : GoodIn wsX8_fades wsX8_has := goodIn_r _ [18] (by decide +kernel) (by decide +kernel)
set_option maxRecDepth 20000 in
theorem gX8_fades_X8_has : GoodIn wsX8_fades (va_wsS RX8 51 yX8_has wsX8_has) := goodIn_app (goodIn_of _ (by decide +kernel)) ggX8_fades_X8_has
set_option maxRecDepth 20000 in
theorem ggX8_fades_X8_many : GoodIn wsX8_fades wsX8_many := goodIn_r _ [21, 16, 17, 10, 18] (by decide +kernel) (by decide +kernel)
set_option maxRecDepth 20000 in
theorem gX8_fades_X8_many : GoodIn wsX8_fades (va_wsS RX8 129 yX8_many wsX8_many) := goodIn_app (goodIn_of _ (by decide +kernel)) ggX8_fades_X8_many
set_option maxRecDepth 20000 in
theorem ggX8_fades_X8_partsOf : GoodIn wsX8_fades wsX8_partsOf := goodIn_r _ [24, 7, 25, 26, 10, 27, 28, 29, 30, 16, 17, 18, 31, 32, 33, 34, 35, 36, 37, 38, 39] (by decide +kernel) (by decide +kernel)
set_option maxRecDepth 20000 in
theorem gX8_fades_X8_partsOf : GoodIn wsX8_fades (va_wsS RX8 162 yX8_partsOf wsX8_partsOf) := goodIn_app (goodIn_of _ (by decide +kernel)) ggX8_fades_X8_partsOf
set_option maxRecDepth 20000 in
theorem ggX8_fades_X8_power : GoodIn wsX8_fades wsX8_power := goodIn_r _ [42] (by decide +kernel) (by decide +kernel)
set_option maxRecDepth 20000 in
theorem gX8_fades_X8_power : GoodIn wsX8_fades (va_wsS RX8 249 yX8_power wsX8_power) := goodIn_app (goodIn_of _ (by decide +kernel)) ggX8_fades_X8_power
set_option maxRecDepth 20000 in
theorem ggX8_fades_X8_fraction : GoodIn wsX8_fades wsX8_fraction := goodIn_r _ [45, 46, 47, 10, 48] (by decide +kernel) (by decide +kernel)
set_option maxRecDepth 20000 in
theorem gX8_fades_X8_fraction : GoodIn wsX8_fades (va_wsS RX8 201 yX8_fraction wsX8_fraction) := goodIn_app (goodIn_of _ (by decide +kernel)) ggX8_fades_X8_fraction
theorem dX8_fades_0 : decode cX8_fades 0 = .ok (.aload_n 0, 1) := by decide +kernel
theorem dX8_fades_1 : decode cX8_fades 1 = .ok (.iconst 0, 1) := by decide +kernel
theorem dX8_fades_2 : decode cX8_fades 2 = .ok (.putfield 47, 3) := by decide +kernel
theorem dX8_fades_5 : decode cX8_fades 5 = .ok (.aload_n 0, 1) := by decide +kernel
theorem dX8_fades_6 : decode cX8_fades 6 = .ok (.getfield 16, 3) := by decide +kernel
theorem dX8_fades_9 : decode cX8_fades 9 = .ok (.iconst 1, 1) := by decide +kernel
theorem dX8_fades_10 : decode cX8_fades 10 = .ok (.iaload, 1) := by decide +kernel
theorem dX8_fades_11 : decode cX8_fades 11 = .ok (.istore 6, 2) := by decide +kernel
theorem dX8_fades_13 : decode cX8_fades 13 = .ok (.iload_n 1, 1) := by decide +kernel
theorem dX8_fades_14 : decode cX8_fades 14 = .ok (.i2l, 1) := by decide +kernel
theorem dX8_fades_15 : decode cX8_fades 15 = .ok (.lconst 0, 1) := by decide +kernel
theorem dX8_fades_16 : decode cX8_fades 16 = .ok (.aload_n 0, 1) := by decide +kernel
theorem dX8_fades_17 : decode cX8_fades 17 = .ok (.getfield 16, 3) := by decide +kernel
theorem dX8_fades_20 : decode cX8_fades 20 = .ok (.iconst 2, 1) := by decide +kernel
theorem dX8_fades_21 : decode cX8_fades 21 = .ok (.iaload, 1) := by decide +kernel
theorem dX8_fades_22 : decode cX8_fades 22 = .ok (.iconst 1, 1) := by decide +kernel
theorem dX8_fades_23 : decode cX8_fades 23 = .ok (.isub, 1) := by decide +kernel
theorem dX8_fades_24 : decode cX8_fades 24 = .ok (.i2l, 1) := by decide +kernel
theorem dX8_fades_25 : decode cX8_fades 25 = .ok (.invokestatic 59, 3) := by decide +kernel
theorem dX8_fades_28 : decode cX8_fades 28 = .ok (.ifCond .ne 5, 3) := by decide +kernel
theorem dX8_fades_31 : decode cX8_fades 31 = .ok (.iconst (-1), 1) := by decide +kernel
theorem dX8_fades_32 : decode cX8_fades 32 = .ok (.ireturn, 1) := by decide +kernel
theorem dX8_fades_33 : decode cX8_fades 33 = .ok (.iload_n 2, 1) := by decide +kernel
theorem dX8_fades_34 : decode cX8_fades 34 = .ok (.i2l, 1) := by decide +kernel
theorem dX8_fades_35 : decode cX8_fades 35 = .ok (.lconst 1, 1) := by decide +kernel
theorem dX8_fades_36 : decode cX8_fades 36 = .ok (.ldc2_w 117, 3) := by decide +kernel
theorem dX8_fades_39 : decode cX8_fades 39 = .ok (.invokestatic 59, 3) := by decide +kernel
theorem dX8_fades_42 : decode cX8_fades 42 = .ok (.ifCond .eq 28, 3) := by decide +kernel
theorem dX8_fades_45 : decode cX8_fades 45 = .ok (.iload_n 3, 1) := by decide +kernel
theorem dX8_fades_46 : decode cX8_fades 46 = .ok (.i2l, 1) := by decide +kernel
theorem dX8_fades_47 : decode cX8_fades 47 = .ok (.lconst 0, 1) := by decide +kernel
theorem dX8_fades_48 : decode cX8_fades 48 = .ok (.ldc2_w 181, 3) := by decide +kernel
theorem dX8_fades_51 : decode cX8_fades 51 = .ok (.invokestatic 59, 3) := by decide +kernel
theorem dX8_fades_54 : decode cX8_fades 54 = .ok (.ifCond .eq 16, 3) := by decide +kernel
theorem dX8_fades_57 : decode cX8_fades 57 = .ok (.iload 4, 2) := by decide +kernel
theorem dX8_fades_59 : decode cX8_fades 59 = .ok (.i2l, 1) := by decide +kernel
theorem dX8_fades_60 : decode cX8_fades 60 = .ok (.lconst 0, 1) := by decide +kernel
theorem dX8_fades_61 : decode cX8_fades 61 = .ok (.ldc2_w 247, 3) := by decide +kernel
theorem dX8_fades_64 : decode cX8_fades 64 = .ok (.invokestatic 59, 3) := by decide +kernel
theorem dX8_fades_67 : decode cX8_fades 67 = .ok (.ifCond .ne 6, 3) := by decide +kernel
theorem dX8_fades_70 : decode cX8_fades 70 = .ok (.bipush (-2), 2) := by decide +kernel
theorem dX8_fades_72 : decode cX8_fades 72 = .ok (.ireturn, 1) := by decide +kernel
theorem dX8_fades_73 : decode cX8_fades 73 = .ok (.iconst 0, 1) := by decide +kernel
theorem dX8_fades_74 : decode cX8_fades 74 = .ok (.istore 7, 2) := by decide +kernel
theorem dX8_fades_76 : decode cX8_fades 76 = .ok (.iconst 0, 1) := by decide +kernel
theorem dX8_fades_77 : decode cX8_fades 77 = .ok (.istore 8, 2) := by decide +kernel
theorem dX8_fades_79 : decode cX8_fades 79 = .ok (.iload 8, 2) := by decide +kernel
theorem dX8_fades_81 : decode cX8_fades 81 = .ok (.iconst 1, 1) := by decide +kernel
theorem dX8_fades_82 : decode cX8_fades 82 = .ok (.iload 6, 2) := by decide +kernel
theorem dX8_fades_84 : decode cX8_fades 84 = .ok (.ishl, 1) := by decide +kernel
theorem dX8_fades_85 : decode cX8_fades 85 = .ok (.if_icmp .ge 122, 3) := by decide +kernel
theorem dX8_fades_88 : decode cX8_fades 88 = .ok (.aload_n 0, 1) := by decide +kernel
theorem dX8_fades_89 : decode cX8_fades 89 = .ok (.invokevirtual 224, 3) := by decide +kernel
theorem dX8_fades_92 : decode cX8_fades 92 = .ok (.iconst 0, 1) := by decide +kernel
theorem dX8_fades_93 : decode cX8_fades 93 = .ok (.istore 9, 2) := by decide +kernel
theorem dX8_fades_95 : decode cX8_fades 95 = .ok (.iload 9, 2) := by decide +kernel
theorem dX8_fades_97 : decode cX8_fades 97 = .ok (.iload 6, 2) := by decide +kernel
theorem dX8_fades_99 : decode cX8_fades 99 = .ok (.if_icmp .ge 49, 3) := by decide +kernel
theorem dX8_fades_102 : decode cX8_fades 102 = .ok (.iconst 3, 1) := by decide +kernel
theorem dX8_fades_103 : decode cX8_fades 103 = .ok (.iload 6, 2) := by decide +kernel
theorem dX8_fades_105 : decode cX8_fades 105 = .ok (.iload_n 1, 1) := by decide +kernel
theorem dX8_fades_106 : decode cX8_fades 106 = .ok (.imul, 1) := by decide +kernel
theorem dX8_fades_107 : decode cX8_fades 107 = .ok (.iadd, 1) := by decide +kernel
theorem dX8_fades_108 : decode cX8_fades 108 = .ok (.iload 9, 2) := by decide +kernel
theorem dX8_fades_110 : decode cX8_fades 110 = .ok (.iadd, 1) := by decide +kernel
theorem dX8_fades_111 : decode cX8_fades 111 = .ok (.istore 10, 2) := by decide +kernel
theorem dX8_fades_113 : decode cX8_fades 113 = .ok (.aload_n 0, 1) := by decide +kernel
theorem dX8_fades_114 : decode cX8_fades 114 = .ok (.getfield 19, 3) := by decide +kernel
theorem dX8_fades_117 : decode cX8_fades 117 = .ok (.iload 10, 2) := by decide +kernel
theorem dX8_fades_119 : decode cX8_fades 119 = .ok (.iload 8, 2) := by decide +kernel
theorem dX8_fades_121 : decode cX8_fades 121 = .ok (.i2l, 1) := by decide +kernel
theorem dX8_fades_122 : decode cX8_fades 122 = .ok (.iload 9, 2) := by decide +kernel
theorem dX8_fades_124 : decode cX8_fades 124 = .ok (.invokestatic 51, 3) := by decide +kernel
theorem dX8_fades_127 : decode cX8_fades 127 = .ok (.ifCond .eq 7, 3) := by decide +kernel
theorem dX8_fades_130 : decode cX8_fades 130 = .ok (.iconst 0, 1) := by decide +kernel
theorem dX8_fades_131 : decode cX8_fades 131 = .ok (.goto 10, 3) := by decide +kernel
theorem dX8_fades_134 : decode cX8_fades 134 = .ok (.aload_n 0, 1) := by decide +kernel
theorem dX8_fades_135 : decode cX8_fades 135 = .ok (.getfield 19, 3) := by decide +kernel
theorem dX8_fades_138 : decode cX8_fades 138 = .ok (.iload 10, 2) := by decide +kernel
theorem dX8_fades_140 : decode cX8_fades 140 = .ok (.iaload, 1) := by decide +kernel
theorem dX8_fades_141 : decode cX8_fades 141 = .ok (.iastore, 1) := by decide +kernel
theorem dX8_fades_142 : decode cX8_fades 142 = .ok (.iinc 9 1, 3) := by decide +kernel
theorem dX8_fades_145 : decode cX8_fades 145 = .ok (.goto (-50), 3) := by decide +kernel
theorem dX8_fades_148 : decode cX8_fades 148 = .ok (.iload 8, 2) := by decide +kernel
theorem dX8_fades_150 : decode cX8_fades 150 = .ok (.i2l, 1) := by decide +kernel
theorem dX8_fades_151 : decode cX8_fades 151 = .ok (.invokestatic 129, 3) := by decide +kernel
theorem dX8_fades_154 : decode cX8_fades 154 = .ok (.istore 9, 2) := by decide +kernel
theorem dX8_fades_156 : decode cX8_fades 156 = .ok (.iload 7, 2) := by decide +kernel
theorem dX8_fades_158 : decode cX8_fades 158 = .ok (.aload_n 0, 1) := by decide +kernel
theorem dX8_fades_159 : decode cX8_fades 159 = .ok (.getfield 19, 3) := by decide +kernel
theorem dX8_fades_162 : decode cX8_fades 162 = .ok (.iload_n 2, 1) := by decide +kernel
theorem dX8_fades_163 : decode cX8_fades 163 = .ok (.ldc2_w 67, 3) := by decide +kernel
theorem dX8_fades_166 : decode cX8_fades 166 = .ok (.invokestatic 162, 3) := by decide +kernel
theorem dX8_fades_169 : decode cX8_fades 169 = .ok (.iload_n 3, 1) := by decide +kernel
theorem dX8_fades_170 : decode cX8_fades 170 = .ok (.if_icmp .lt 27, 3) := by decide +kernel
theorem dX8_fades_173 : decode cX8_fades 173 = .ok (.iload 4, 2) := by decide +kernel
theorem dX8_fades_175 : decode cX8_fades 175 = .ok (.iload 9, 2) := by decide +kernel
theorem dX8_fades_177 : decode cX8_fades 177 = .ok (.invokestatic 249, 3) := by decide +kernel
theorem dX8_fades_180 : decode cX8_fades 180 = .ok (.bipush 10, 2) := by decide +kernel
theorem dX8_fades_182 : decode cX8_fades 182 = .ok (.iload 4, 2) := by decide +kernel
theorem dX8_fades_184 : decode cX8_fades 184 = .ok (.isub, 1) := by decide +kernel
theorem dX8_fades_185 : decode cX8_fades 185 = .ok (.iload 6, 2) := by decide +kernel
theorem dX8_fades_187 : decode cX8_fades 187 = .ok (.iload 9, 2) := by decide +kernel
theorem dX8_fades_189 : decode cX8_fades 189 = .ok (.isub, 1) := by decide +kernel
theorem dX8_fades_190 : decode cX8_fades 190 = .ok (.invokestatic 249, 3) := by decide +kernel
theorem dX8_fades_193 : decode cX8_fades 193 = .ok (.imul, 1) := by decide +kernel
theorem dX8_fades_194 : decode cX8_fades 194 = .ok (.goto 4, 3) := by decide +kernel
theorem dX8_fades_197 : decode cX8_fades 197 = .ok (.iconst 0, 1) := by decide +kernel
theorem dX8_fades_198 : decode cX8_fades 198 = .ok (.iadd, 1) := by decide +kernel
theorem dX8_fades_199 : decode cX8_fades 199 = .ok (.istore 7, 2) := by decide +kernel
theorem dX8_fades_201 : decode cX8_fades 201 = .ok (.iinc 8 1, 3) := by decide +kernel
theorem dX8_fades_204 : decode cX8_fades 204 = .ok (.goto (-125), 3) := by decide +kernel
theorem dX8_fades_207 : decode cX8_fades 207 = .ok (.iload 7, 2) := by decide +kernel
theorem dX8_fades_209 : decode cX8_fades 209 = .ok (.bipush 10, 2) := by decide +kernel
theorem dX8_fades_211 : decode cX8_fades 211 = .ok (.iload 6, 2) := by decide +kernel
theorem dX8_fades_213 : decode cX8_fades 213 = .ok (.invokestatic 249, 3) := by decide +kernel
theorem dX8_fades_216 : decode cX8_fades 216 = .ok (.iload 5, 2) := by decide +kernel
theorem dX8_fades_218 : decode cX8_fades 218 = .ok (.invokestatic 201, 3) := by decide +kernel
theorem dX8_fades_221 : decode cX8_fades 221 = .ok (.ireturn, 1) := by decide +kernel
theorem dX8_seed_0 : decode cX8_seed 0 = .ok (.aload_n 0, 1) := by decide +kernel
theorem dX8_seed_1 : decode cX8_seed 1 = .ok (.iconst 0, 1) := by decide +kernel
theorem dX8_seed_2 : decode cX8_seed 2 = .ok (.putfield 47, 3) := by decide +kernel
theorem dX8_seed_5 : decode cX8_seed 5 = .ok (.aload_n 0, 1) := by decide +kernel
theorem dX8_seed_6 : decode cX8_seed 6 = .ok (.getfield 252, 3) := by decide +kernel
theorem dX8_seed_9 : decode cX8_seed 9 = .ok (.lstore_n 3, 1) := by decide +kernel
theorem dX8_seed_10 : decode cX8_seed 10 = .ok (.aload_n 0, 1) := by decide +kernel
theorem dX8_seed_11 : decode cX8_seed 11 = .ok (.lload_n 1, 1) := by decide +kernel
theorem dX8_seed_12 : decode cX8_seed 12 = .ok (.putfield 252, 3) := by decide +kernel
theorem dX8_seed_15 : decode cX8_seed 15 = .ok (.lload_n 3, 1) := by decide +kernel
theorem dX8_seed_16 : decode cX8_seed 16 = .ok (.lreturn, 1) := by decide +kernel
set_option maxRecDepth 20000 in
theorem ggX8_goDraw_X8_goNegative : GoodIn wsX8_goDraw wsX8_goNegative := goodIn_r _ [5, 6, 7, 4, 8] (by decide +kernel) (by decide +kernel)
set_option maxRecDepth 20000 in
theorem gX8_goDraw_X8_goNegative : GoodIn wsX8_goDraw (va_wsS RX8 169 yX8_goNegative wsX8_goNegative) := goodIn_app (goodIn_of _ (by decide +kernel)) ggX8_goDraw_X8_goNegative
set_option maxRecDepth 20000 in
theorem ggX8_goDraw_X8_goSift : GoodIn wsX8_goDraw wsX8_goSift := goodIn_r _ [12, 13, 6, 7, 4, 8, 14, 15, 16, 17, 18, 19, 20, 21, 22, 23, 24, 25, 26, 27, 28, 29, 30, 31, 32, 33, 34, 35, 36, 37, 38, 39, 40, 41, 42, 43, 44, 45, 46, 47, 48, 49, 50, 51, 52, 53, 54, 55, 56, 57, 58, 59, 60, 61, 62, 63, 64, 65, 66, 67, 68] (by decide +kernel) (by decide +kernel)
set_option maxRecDepth 20000 in
theorem gX8_goDraw_X8_goSift : GoodIn wsX8_goDraw (wsV RX8 183 RX8 yX8_goSift wsX8_goSift) := goodIn_app (goodIn_of _ (by decide +kernel)) ggX8_goDraw_X8_goSift
theorem dX8_goDraw_0 : decode cX8_goDraw 0 = .ok (.iload_n 2, 1) := by decide +kernel
theorem dX8_goDraw_1 : decode cX8_goDraw 1 = .ok (.bipush 10, 2) := by decide +kernel
theorem dX8_goDraw_3 : decode cX8_goDraw 3 = .ok (.if_icmp .ge 15, 3) := by decide +kernel
theorem dX8_goDraw_6 : decode cX8_goDraw 6 = .ok (.aload_n 0, 1) := by decide +kernel
theorem dX8_goDraw_7 : decode cX8_goDraw 7 = .ok (.getfield 19, 3) := by decide +kernel
theorem dX8_goDraw_10 : decode cX8_goDraw 10 = .ok (.iconst 3, 1) := by decide +kernel
theorem dX8_goDraw_11 : decode cX8_goDraw 11 = .ok (.iload_n 1, 1) := by decide +kernel
theorem dX8_goDraw_12 : decode cX8_goDraw 12 = .ok (.iadd, 1) := by decide +kernel
theorem dX8_goDraw_13 : decode cX8_goDraw 13 = .ok (.iload_n 2, 1) := by decide +kernel
theorem dX8_goDraw_14 : decode cX8_goDraw 14 = .ok (.iastore, 1) := by decide +kernel
theorem dX8_goDraw_15 : decode cX8_goDraw 15 = .ok (.goto 30, 3) := by decide +kernel
theorem dX8_goDraw_18 : decode cX8_goDraw 18 = .ok (.iload_n 2, 1) := by decide +kernel
theorem dX8_goDraw_19 : decode cX8_goDraw 19 = .ok (.bipush 10, 2) := by decide +kernel
theorem dX8_goDraw_21 : decode cX8_goDraw 21 = .ok (.if_icmp .ne 13, 3) := by decide +kernel
theorem dX8_goDraw_24 : decode cX8_goDraw 24 = .ok (.aload_n 0, 1) := by decide +kernel
theorem dX8_goDraw_25 : decode cX8_goDraw 25 = .ok (.getfield 19, 3) := by decide +kernel
theorem dX8_goDraw_28 : decode cX8_goDraw 28 = .ok (.invokestatic 169, 3) := by decide +kernel
theorem dX8_goDraw_31 : decode cX8_goDraw 31 = .ok (.goto 14, 3) := by decide +kernel
theorem dX8_goDraw_34 : decode cX8_goDraw 34 = .ok (.aload_n 0, 1) := by decide +kernel
theorem dX8_goDraw_35 : decode cX8_goDraw 35 = .ok (.aload_n 0, 1) := by decide +kernel
theorem dX8_goDraw_36 : decode cX8_goDraw 36 = .ok (.getfield 19, 3) := by decide +kernel
theorem dX8_goDraw_39 : decode cX8_goDraw 39 = .ok (.iconst 0, 1) := by decide +kernel
theorem dX8_goDraw_40 : decode cX8_goDraw 40 = .ok (.iconst 2, 1) := by decide +kernel
theorem dX8_goDraw_41 : decode cX8_goDraw 41 = .ok (.invokevirtual 183, 3) := by decide +kernel
theorem dX8_goDraw_44 : decode cX8_goDraw 44 = .ok (.pop, 1) := by decide +kernel
theorem dX8_goDraw_45 : decode cX8_goDraw 45 = .ok (.return_, 1) := by decide +kernel
set_option maxRecDepth 20000 in
theorem ggX8_drawn_X8_in : GoodIn wsX8_drawn wsX8_in := goodIn_r _ [10] (by decide +kernel) (by decide +kernel)
set_option maxRecDepth 20000 in
theorem gX8_drawn_X8_in : GoodIn wsX8_drawn (va_wsS RX8 59 yX8_in wsX8_in) := goodIn_app (goodIn_of _ (by decide +kernel)) ggX8_drawn_X8_in
set_option maxRecDepth 20000 in
theorem ggX8_drawn_X8_begin : GoodIn wsX8_drawn wsX8_begin := goodIn_r _ [14, 6, 15, 77, 78, 79, 80, 81, 82, 83, 84, 85, 86, 87, 88, 89, 90, 91, 92, 93, 94, 95, 96, 97] (by decide +kernel) (by decide +kernel)
set_option maxRecDepth 20000 in
theorem gX8_drawn_X8_begin : GoodIn wsX8_drawn (wsV RX8 224 RX8 yX8_begin wsX8_begin) := goodIn_app (goodIn_of _ (by decide +kernel)) ggX8_drawn_X8_begin
set_option maxRecDepth 20000 in
theorem ggX8_drawn_X8_dotsOf : GoodIn wsX8_drawn wsX8_dotsOf := goodIn_r _ [18] (by decide +kernel) (by decide +kernel)
set_option maxRecDepth 20000 in
theorem gX8_drawn_X8_dotsOf : GoodIn wsX8_drawn (va_wsS RX8 55 yX8_dotsOf wsX8_dotsOf) := goodIn_app (goodIn_of _ (by decide +kernel)) ggX8_drawn_X8_dotsOf
set_option maxRecDepth 20000 in
theorem ggX8_drawn_X8_goDraw : GoodIn wsX8_drawn wsX8_goDraw := goodIn_r _ [22, 6, 23, 24, 9, 25, 16, 17, 18, 26, 27, 28, 29, 30, 31, 32, 33, 34, 35, 36, 37, 38, 39, 40, 41, 42, 43, 44, 45, 46, 47, 48, 49, 50, 51, 52, 53, 54, 55, 56, 57, 58, 59, 60, 61, 62, 63, 64, 77, 78, 79, 80, 81, 82, 83, 84, 85, 86, 87, 88, 89, 90, 91, 92, 93, 94, 95, 96, 97] (by decide +kernel) (by decide +kernel)
set_option maxRecDepth 20000 in
theorem gX8_drawn_X8_goDraw : GoodIn wsX8_drawn (wsV RX8 262 RX8 yX8_goDraw wsX8_goDraw) := goodIn_app (goodIn_of _ (by decide +kernel)) ggX8_drawn_X8_goDraw
set_option maxRecDepth 20000 in
theorem ggX8_drawn_X8_nodes : GoodIn wsX8_drawn wsX8_nodes := goodIn_r _ [67, 16, 17, 9, 18, 68, 69, 70, 71, 72, 73, 35, 36, 37, 34, 38, 39, 40, 41, 42, 43, 44, 45, 46, 47, 48, 49, 50, 51, 52, 74, 75, 76, 62, 63, 64] (by decide +kernel) (by decide +kernel)
set_option maxRecDepth 20000 in
theorem gX8_drawn_X8_nodes : GoodIn wsX8_drawn (va_wsS RX8 126 yX8_nodes wsX8_nodes) := goodIn_app (goodIn_of _ (by decide +kernel)) ggX8_drawn_X8_nodes
theorem dX8_drawn_0 : decode cX8_drawn 0 = .ok (.aload_n 0, 1) := by decide +kernel
theorem dX8_drawn_1 : decode cX8_drawn 1 = .ok (.iconst 0, 1) := by decide +kernel
theorem dX8_drawn_2 : decode cX8_drawn 2 = .ok (.putfield 47, 3) := by decide +kernel
theorem dX8_drawn_5 : decode cX8_drawn 5 = .ok (.iload_n 1, 1) := by decide +kernel
theorem dX8_drawn_6 : decode cX8_drawn 6 = .ok (.i2l, 1) := by decide +kernel
theorem dX8_drawn_7 : decode cX8_drawn 7 = .ok (.lconst 1, 1) := by decide +kernel
theorem dX8_drawn_8 : decode cX8_drawn 8 = .ok (.ldc2_w 256, 3) := by decide +kernel
theorem dX8_drawn_11 : decode cX8_drawn 11 = .ok (.invokestatic 59, 3) := by decide +kernel
theorem dX8_drawn_14 : decode cX8_drawn 14 = .ok (.ifCond .ne 6, 3) := by decide +kernel
theorem dX8_drawn_17 : decode cX8_drawn 17 = .ok (.bipush (-2), 2) := by decide +kernel
theorem dX8_drawn_19 : decode cX8_drawn 19 = .ok (.ireturn, 1) := by decide +kernel
theorem dX8_drawn_20 : decode cX8_drawn 20 = .ok (.aload_n 0, 1) := by decide +kernel
theorem dX8_drawn_21 : decode cX8_drawn 21 = .ok (.invokevirtual 224, 3) := by decide +kernel
theorem dX8_drawn_24 : decode cX8_drawn 24 = .ok (.iconst 0, 1) := by decide +kernel
theorem dX8_drawn_25 : decode cX8_drawn 25 = .ok (.istore_n 2, 1) := by decide +kernel
theorem dX8_drawn_26 : decode cX8_drawn 26 = .ok (.iconst 0, 1) := by decide +kernel
theorem dX8_drawn_27 : decode cX8_drawn 27 = .ok (.istore_n 3, 1) := by decide +kernel
theorem dX8_drawn_28 : decode cX8_drawn 28 = .ok (.iload_n 3, 1) := by decide +kernel
theorem dX8_drawn_29 : decode cX8_drawn 29 = .ok (.iload_n 1, 1) := by decide +kernel
theorem dX8_drawn_30 : decode cX8_drawn 30 = .ok (.if_icmp .ge 67, 3) := by decide +kernel
theorem dX8_drawn_33 : decode cX8_drawn 33 = .ok (.aload_n 0, 1) := by decide +kernel
theorem dX8_drawn_34 : decode cX8_drawn 34 = .ok (.aload_n 0, 1) := by decide +kernel
theorem dX8_drawn_35 : decode cX8_drawn 35 = .ok (.getfield 252, 3) := by decide +kernel
theorem dX8_drawn_38 : decode cX8_drawn 38 = .ok (.ldc2_w 258, 3) := by decide +kernel
theorem dX8_drawn_41 : decode cX8_drawn 41 = .ok (.lmul, 1) := by decide +kernel
theorem dX8_drawn_42 : decode cX8_drawn 42 = .ok (.ldc2_w 260, 3) := by decide +kernel
theorem dX8_drawn_45 : decode cX8_drawn 45 = .ok (.ladd, 1) := by decide +kernel
theorem dX8_drawn_46 : decode cX8_drawn 46 = .ok (.putfield 252, 3) := by decide +kernel
theorem dX8_drawn_49 : decode cX8_drawn 49 = .ok (.aload_n 0, 1) := by decide +kernel
theorem dX8_drawn_50 : decode cX8_drawn 50 = .ok (.getfield 252, 3) := by decide +kernel
theorem dX8_drawn_53 : decode cX8_drawn 53 = .ok (.bipush 33, 2) := by decide +kernel
theorem dX8_drawn_55 : decode cX8_drawn 55 = .ok (.lushr, 1) := by decide +kernel
theorem dX8_drawn_56 : decode cX8_drawn 56 = .ok (.l2i, 1) := by decide +kernel
theorem dX8_drawn_57 : decode cX8_drawn 57 = .ok (.istore 4, 2) := by decide +kernel
theorem dX8_drawn_59 : decode cX8_drawn 59 = .ok (.aload_n 0, 1) := by decide +kernel
theorem dX8_drawn_60 : decode cX8_drawn 60 = .ok (.iload 4, 2) := by decide +kernel
theorem dX8_drawn_62 : decode cX8_drawn 62 = .ok (.aload_n 0, 1) := by decide +kernel
theorem dX8_drawn_63 : decode cX8_drawn 63 = .ok (.getfield 19, 3) := by decide +kernel
theorem dX8_drawn_66 : decode cX8_drawn 66 = .ok (.invokestatic 55, 3) := by decide +kernel
theorem dX8_drawn_69 : decode cX8_drawn 69 = .ok (.irem, 1) := by decide +kernel
theorem dX8_drawn_70 : decode cX8_drawn 70 = .ok (.iload 4, 2) := by decide +kernel
theorem dX8_drawn_72 : decode cX8_drawn 72 = .ok (.bipush 64, 2) := by decide +kernel
theorem dX8_drawn_74 : decode cX8_drawn 74 = .ok (.idiv, 1) := by decide +kernel
theorem dX8_drawn_75 : decode cX8_drawn 75 = .ok (.bipush 12, 2) := by decide +kernel
theorem dX8_drawn_77 : decode cX8_drawn 77 = .ok (.irem, 1) := by decide +kernel
theorem dX8_drawn_78 : decode cX8_drawn 78 = .ok (.invokevirtual 262, 3) := by decide +kernel
theorem dX8_drawn_81 : decode cX8_drawn 81 = .ok (.iload_n 2, 1) := by decide +kernel
theorem dX8_drawn_82 : decode cX8_drawn 82 = .ok (.aload_n 0, 1) := by decide +kernel
theorem dX8_drawn_83 : decode cX8_drawn 83 = .ok (.getfield 19, 3) := by decide +kernel
theorem dX8_drawn_86 : decode cX8_drawn 86 = .ok (.invokestatic 126, 3) := by decide +kernel
theorem dX8_drawn_89 : decode cX8_drawn 89 = .ok (.iadd, 1) := by decide +kernel
theorem dX8_drawn_90 : decode cX8_drawn 90 = .ok (.istore_n 2, 1) := by decide +kernel
theorem dX8_drawn_91 : decode cX8_drawn 91 = .ok (.iinc 3 1, 3) := by decide +kernel
theorem dX8_drawn_94 : decode cX8_drawn 94 = .ok (.goto (-66), 3) := by decide +kernel
theorem dX8_drawn_97 : decode cX8_drawn 97 = .ok (.iload_n 2, 1) := by decide +kernel
theorem dX8_drawn_98 : decode cX8_drawn 98 = .ok (.ireturn, 1) := by decide +kernel
set_option maxRecDepth 20000 in
theorem ggX8_keep_X8_in : GoodIn wsX8_keep wsX8_in := goodIn_r _ [8] (by decide +kernel) (by decide +kernel)
set_option maxRecDepth 20000 in
theorem gX8_keep_X8_in : GoodIn wsX8_keep (va_wsS RX8 59 yX8_in wsX8_in) := goodIn_app (goodIn_of _ (by decide +kernel)) ggX8_keep_X8_in
set_option maxRecDepth 20000 in
theorem ggX8_keep_X8_nodes : GoodIn wsX8_keep wsX8_nodes := goodIn_r _ [11, 12, 13, 7, 14, 15, 16, 17, 18, 19, 20, 21, 22, 23, 24, 25, 26, 27, 28, 29, 30, 31, 32, 33, 34, 35, 36, 37, 38, 39, 40, 41, 42, 43, 44, 45] (by decide +kernel) (by decide +kernel)
set_option maxRecDepth 20000 in
theorem gX8_keep_X8_nodes : GoodIn wsX8_keep (va_wsS RX8 126 yX8_nodes wsX8_nodes) := goodIn_app (goodIn_of _ (by decide +kernel)) ggX8_keep_X8_nodes
theorem dX8_keep_0 : decode cX8_keep 0 = .ok (.aload_n 0, 1) := by decide +kernel
theorem dX8_keep_1 : decode cX8_keep 1 = .ok (.iconst 0, 1) := by decide +kernel
theorem dX8_keep_2 : decode cX8_keep 2 = .ok (.putfield 47, 3) := by decide +kernel
theorem dX8_keep_5 : decode cX8_keep 5 = .ok (.iload_n 1, 1) := by decide +kernel
theorem dX8_keep_6 : decode cX8_keep 6 = .ok (.i2l, 1) := by decide +kernel
theorem dX8_keep_7 : decode cX8_keep 7 = .ok (.lconst 0, 1) := by decide +kernel
theorem dX8_keep_8 : decode cX8_keep 8 = .ok (.lconst 1, 1) := by decide +kernel
theorem dX8_keep_9 : decode cX8_keep 9 = .ok (.invokestatic 59, 3) := by decide +kernel
theorem dX8_keep_12 : decode cX8_keep 12 = .ok (.ifCond .ne 5, 3) := by decide +kernel
theorem dX8_keep_15 : decode cX8_keep 15 = .ok (.iconst (-1), 1) := by decide +kernel
theorem dX8_keep_16 : decode cX8_keep 16 = .ok (.ireturn, 1) := by decide +kernel
theorem dX8_keep_17 : decode cX8_keep 17 = .ok (.aload_n 0, 1) := by decide +kernel
theorem dX8_keep_18 : decode cX8_keep 18 = .ok (.getfield 31, 3) := by decide +kernel
theorem dX8_keep_21 : decode cX8_keep 21 = .ok (.iload_n 1, 1) := by decide +kernel
theorem dX8_keep_22 : decode cX8_keep 22 = .ok (.iconst 1, 1) := by decide +kernel
theorem dX8_keep_23 : decode cX8_keep 23 = .ok (.bastore, 1) := by decide +kernel
theorem dX8_keep_24 : decode cX8_keep 24 = .ok (.iconst 0, 1) := by decide +kernel
theorem dX8_keep_25 : decode cX8_keep 25 = .ok (.istore_n 2, 1) := by decide +kernel
theorem dX8_keep_26 : decode cX8_keep 26 = .ok (.iload_n 2, 1) := by decide +kernel
theorem dX8_keep_27 : decode cX8_keep 27 = .ok (.bipush 39, 2) := by decide +kernel
theorem dX8_keep_29 : decode cX8_keep 29 = .ok (.if_icmp .ge 26, 3) := by decide +kernel
theorem dX8_keep_32 : decode cX8_keep 32 = .ok (.aload_n 0, 1) := by decide +kernel
theorem dX8_keep_33 : decode cX8_keep 33 = .ok (.getfield 28, 3) := by decide +kernel
theorem dX8_keep_36 : decode cX8_keep 36 = .ok (.bipush 39, 2) := by decide +kernel
theorem dX8_keep_38 : decode cX8_keep 38 = .ok (.iload_n 1, 1) := by decide +kernel
theorem dX8_keep_39 : decode cX8_keep 39 = .ok (.imul, 1) := by decide +kernel
theorem dX8_keep_40 : decode cX8_keep 40 = .ok (.iload_n 2, 1) := by decide +kernel
theorem dX8_keep_41 : decode cX8_keep 41 = .ok (.iadd, 1) := by decide +kernel
theorem dX8_keep_42 : decode cX8_keep 42 = .ok (.aload_n 0, 1) := by decide +kernel
theorem dX8_keep_43 : decode cX8_keep 43 = .ok (.getfield 16, 3) := by decide +kernel
theorem dX8_keep_46 : decode cX8_keep 46 = .ok (.iload_n 2, 1) := by decide +kernel
theorem dX8_keep_47 : decode cX8_keep 47 = .ok (.iaload, 1) := by decide +kernel
theorem dX8_keep_48 : decode cX8_keep 48 = .ok (.iastore, 1) := by decide +kernel
theorem dX8_keep_49 : decode cX8_keep 49 = .ok (.iinc 2 1, 3) := by decide +kernel
theorem dX8_keep_52 : decode cX8_keep 52 = .ok (.goto (-26), 3) := by decide +kernel
theorem dX8_keep_55 : decode cX8_keep 55 = .ok (.aload_n 0, 1) := by decide +kernel
theorem dX8_keep_56 : decode cX8_keep 56 = .ok (.getfield 16, 3) := by decide +kernel
theorem dX8_keep_59 : decode cX8_keep 59 = .ok (.invokestatic 126, 3) := by decide +kernel
theorem dX8_keep_62 : decode cX8_keep 62 = .ok (.ireturn, 1) := by decide +kernel
set_option maxRecDepth 20000 in
theorem ggX8_again_X8_in : GoodIn wsX8_again wsX8_in := goodIn_r _ [9] (by decide +kernel) (by decide +kernel)
set_option maxRecDepth 20000 in
theorem gX8_again_X8_in : GoodIn wsX8_again (va_wsS RX8 59 yX8_in wsX8_in) := goodIn_app (goodIn_of _ (by decide +kernel)) ggX8_again_X8_in
set_option maxRecDepth 20000 in
theorem ggX8_again_X8_nodes : GoodIn wsX8_again wsX8_nodes := goodIn_r _ [12, 13, 14, 8, 15, 16, 17, 18, 19, 20, 21, 22, 23, 24, 25, 26, 27, 28, 29, 30, 31, 32, 33, 34, 35, 36, 37, 38, 39, 40, 41, 42, 43, 44, 45, 46] (by decide +kernel) (by decide +kernel)
set_option maxRecDepth 20000 in
theorem gX8_again_X8_nodes : GoodIn wsX8_again (va_wsS RX8 126 yX8_nodes wsX8_nodes) := goodIn_app (goodIn_of _ (by decide +kernel)) ggX8_again_X8_nodes
theorem dX8_again_0 : decode cX8_again 0 = .ok (.aload_n 0, 1) := by decide +kernel
theorem dX8_again_1 : decode cX8_again 1 = .ok (.iconst 0, 1) := by decide +kernel
theorem dX8_again_2 : decode cX8_again 2 = .ok (.putfield 47, 3) := by decide +kernel
theorem dX8_again_5 : decode cX8_again 5 = .ok (.iload_n 1, 1) := by decide +kernel
theorem dX8_again_6 : decode cX8_again 6 = .ok (.i2l, 1) := by decide +kernel
theorem dX8_again_7 : decode cX8_again 7 = .ok (.lconst 0, 1) := by decide +kernel
theorem dX8_again_8 : decode cX8_again 8 = .ok (.lconst 1, 1) := by decide +kernel
theorem dX8_again_9 : decode cX8_again 9 = .ok (.invokestatic 59, 3) := by decide +kernel
theorem dX8_again_12 : decode cX8_again 12 = .ok (.ifCond .ne 5, 3) := by decide +kernel
theorem dX8_again_15 : decode cX8_again 15 = .ok (.iconst (-1), 1) := by decide +kernel
theorem dX8_again_16 : decode cX8_again 16 = .ok (.ireturn, 1) := by decide +kernel
theorem dX8_again_17 : decode cX8_again 17 = .ok (.aload_n 0, 1) := by decide +kernel
theorem dX8_again_18 : decode cX8_again 18 = .ok (.getfield 31, 3) := by decide +kernel
theorem dX8_again_21 : decode cX8_again 21 = .ok (.iload_n 1, 1) := by decide +kernel
theorem dX8_again_22 : decode cX8_again 22 = .ok (.baload, 1) := by decide +kernel
theorem dX8_again_23 : decode cX8_again 23 = .ok (.ifCond .ne 6, 3) := by decide +kernel
theorem dX8_again_26 : decode cX8_again 26 = .ok (.bipush (-3), 2) := by decide +kernel
theorem dX8_again_28 : decode cX8_again 28 = .ok (.ireturn, 1) := by decide +kernel
theorem dX8_again_29 : decode cX8_again 29 = .ok (.iconst 0, 1) := by decide +kernel
theorem dX8_again_30 : decode cX8_again 30 = .ok (.istore_n 2, 1) := by decide +kernel
theorem dX8_again_31 : decode cX8_again 31 = .ok (.iload_n 2, 1) := by decide +kernel
theorem dX8_again_32 : decode cX8_again 32 = .ok (.bipush 39, 2) := by decide +kernel
theorem dX8_again_34 : decode cX8_again 34 = .ok (.if_icmp .ge 26, 3) := by decide +kernel
theorem dX8_again_37 : decode cX8_again 37 = .ok (.aload_n 0, 1) := by decide +kernel
theorem dX8_again_38 : decode cX8_again 38 = .ok (.getfield 16, 3) := by decide +kernel
theorem dX8_again_41 : decode cX8_again 41 = .ok (.iload_n 2, 1) := by decide +kernel
theorem dX8_again_42 : decode cX8_again 42 = .ok (.aload_n 0, 1) := by decide +kernel
theorem dX8_again_43 : decode cX8_again 43 = .ok (.getfield 28, 3) := by decide +kernel
theorem dX8_again_46 : decode cX8_again 46 = .ok (.bipush 39, 2) := by decide +kernel
theorem dX8_again_48 : decode cX8_again 48 = .ok (.iload_n 1, 1) := by decide +kernel
theorem dX8_again_49 : decode cX8_again 49 = .ok (.imul, 1) := by decide +kernel
theorem dX8_again_50 : decode cX8_again 50 = .ok (.iload_n 2, 1) := by decide +kernel
theorem dX8_again_51 : decode cX8_again 51 = .ok (.iadd, 1) := by decide +kernel
theorem dX8_again_52 : decode cX8_again 52 = .ok (.iaload, 1) := by decide +kernel
theorem dX8_again_53 : decode cX8_again 53 = .ok (.iastore, 1) := by decide +kernel
theorem dX8_again_54 : decode cX8_again 54 = .ok (.iinc 2 1, 3) := by decide +kernel
theorem dX8_again_57 : decode cX8_again 57 = .ok (.goto (-26), 3) := by decide +kernel
theorem dX8_again_60 : decode cX8_again 60 = .ok (.aload_n 0, 1) := by decide +kernel
theorem dX8_again_61 : decode cX8_again 61 = .ok (.iconst 0, 1) := by decide +kernel
theorem dX8_again_62 : decode cX8_again 62 = .ok (.putfield 123, 3) := by decide +kernel
theorem dX8_again_65 : decode cX8_again 65 = .ok (.aload_n 0, 1) := by decide +kernel
theorem dX8_again_66 : decode cX8_again 66 = .ok (.getfield 16, 3) := by decide +kernel
theorem dX8_again_69 : decode cX8_again 69 = .ok (.invokestatic 126, 3) := by decide +kernel
theorem dX8_again_72 : decode cX8_again 72 = .ok (.ireturn, 1) := by decide +kernel
theorem dJ6_bitCount_0f7a4_0 : decode cJ6_bitCount_0f7a4 0 = .ok (.iload_n 0, 1) := by decide +kernel
theorem dJ6_bitCount_0f7a4_1 : decode cJ6_bitCount_0f7a4 1 = .ok (.iload_n 0, 1) := by decide +kernel
theorem dJ6_bitCount_0f7a4_2 : decode cJ6_bitCount_0f7a4 2 = .ok (.iconst 1, 1) := by decide +kernel
theorem dJ6_bitCount_0f7a4_3 : decode cJ6_bitCount_0f7a4 3 = .ok (.iushr, 1) := by decide +kernel
theorem dJ6_bitCount_0f7a4_4 : decode cJ6_bitCount_0f7a4 4 = .ok (.ldc_w 265, 3) := by decide +kernel
theorem dJ6_bitCount_0f7a4_7 : decode cJ6_bitCount_0f7a4 7 = .ok (.iand, 1) := by decide +kernel
theorem dJ6_bitCount_0f7a4_8 : decode cJ6_bitCount_0f7a4 8 = .ok (.isub, 1) := by decide +kernel
theorem dJ6_bitCount_0f7a4_9 : decode cJ6_bitCount_0f7a4 9 = .ok (.istore_n 0, 1) := by decide +kernel
theorem dJ6_bitCount_0f7a4_10 : decode cJ6_bitCount_0f7a4 10 = .ok (.iload_n 0, 1) := by decide +kernel
theorem dJ6_bitCount_0f7a4_11 : decode cJ6_bitCount_0f7a4 11 = .ok (.ldc_w 266, 3) := by decide +kernel
theorem dJ6_bitCount_0f7a4_14 : decode cJ6_bitCount_0f7a4 14 = .ok (.iand, 1) := by decide +kernel
theorem dJ6_bitCount_0f7a4_15 : decode cJ6_bitCount_0f7a4 15 = .ok (.iload_n 0, 1) := by decide +kernel
theorem dJ6_bitCount_0f7a4_16 : decode cJ6_bitCount_0f7a4 16 = .ok (.iconst 2, 1) := by decide +kernel
theorem dJ6_bitCount_0f7a4_17 : decode cJ6_bitCount_0f7a4 17 = .ok (.iushr, 1) := by decide +kernel
theorem dJ6_bitCount_0f7a4_18 : decode cJ6_bitCount_0f7a4 18 = .ok (.ldc_w 266, 3) := by decide +kernel
theorem dJ6_bitCount_0f7a4_21 : decode cJ6_bitCount_0f7a4 21 = .ok (.iand, 1) := by decide +kernel
theorem dJ6_bitCount_0f7a4_22 : decode cJ6_bitCount_0f7a4 22 = .ok (.iadd, 1) := by decide +kernel
theorem dJ6_bitCount_0f7a4_23 : decode cJ6_bitCount_0f7a4 23 = .ok (.istore_n 0, 1) := by decide +kernel
theorem dJ6_bitCount_0f7a4_24 : decode cJ6_bitCount_0f7a4 24 = .ok (.iload_n 0, 1) := by decide +kernel
theorem dJ6_bitCount_0f7a4_25 : decode cJ6_bitCount_0f7a4 25 = .ok (.iload_n 0, 1) := by decide +kernel
theorem dJ6_bitCount_0f7a4_26 : decode cJ6_bitCount_0f7a4 26 = .ok (.iconst 4, 1) := by decide +kernel
theorem dJ6_bitCount_0f7a4_27 : decode cJ6_bitCount_0f7a4 27 = .ok (.iushr, 1) := by decide +kernel
theorem dJ6_bitCount_0f7a4_28 : decode cJ6_bitCount_0f7a4 28 = .ok (.iadd, 1) := by decide +kernel
theorem dJ6_bitCount_0f7a4_29 : decode cJ6_bitCount_0f7a4 29 = .ok (.ldc_w 267, 3) := by decide +kernel
theorem dJ6_bitCount_0f7a4_32 : decode cJ6_bitCount_0f7a4 32 = .ok (.iand, 1) := by decide +kernel
theorem dJ6_bitCount_0f7a4_33 : decode cJ6_bitCount_0f7a4 33 = .ok (.istore_n 0, 1) := by decide +kernel
theorem dJ6_bitCount_0f7a4_34 : decode cJ6_bitCount_0f7a4 34 = .ok (.iload_n 0, 1) := by decide +kernel
theorem dJ6_bitCount_0f7a4_35 : decode cJ6_bitCount_0f7a4 35 = .ok (.iload_n 0, 1) := by decide +kernel
theorem dJ6_bitCount_0f7a4_36 : decode cJ6_bitCount_0f7a4 36 = .ok (.bipush 8, 2) := by decide +kernel
theorem dJ6_bitCount_0f7a4_38 : decode cJ6_bitCount_0f7a4 38 = .ok (.iushr, 1) := by decide +kernel
theorem dJ6_bitCount_0f7a4_39 : decode cJ6_bitCount_0f7a4 39 = .ok (.iadd, 1) := by decide +kernel
theorem dJ6_bitCount_0f7a4_40 : decode cJ6_bitCount_0f7a4 40 = .ok (.istore_n 0, 1) := by decide +kernel
theorem dJ6_bitCount_0f7a4_41 : decode cJ6_bitCount_0f7a4 41 = .ok (.iload_n 0, 1) := by decide +kernel
theorem dJ6_bitCount_0f7a4_42 : decode cJ6_bitCount_0f7a4 42 = .ok (.iload_n 0, 1) := by decide +kernel
theorem dJ6_bitCount_0f7a4_43 : decode cJ6_bitCount_0f7a4 43 = .ok (.bipush 16, 2) := by decide +kernel
theorem dJ6_bitCount_0f7a4_45 : decode cJ6_bitCount_0f7a4 45 = .ok (.iushr, 1) := by decide +kernel
theorem dJ6_bitCount_0f7a4_46 : decode cJ6_bitCount_0f7a4 46 = .ok (.iadd, 1) := by decide +kernel
theorem dJ6_bitCount_0f7a4_47 : decode cJ6_bitCount_0f7a4 47 = .ok (.istore_n 0, 1) := by decide +kernel
theorem dJ6_bitCount_0f7a4_48 : decode cJ6_bitCount_0f7a4 48 = .ok (.iload_n 0, 1) := by decide +kernel
theorem dJ6_bitCount_0f7a4_49 : decode cJ6_bitCount_0f7a4 49 = .ok (.bipush 63, 2) := by decide +kernel
theorem dJ6_bitCount_0f7a4_51 : decode cJ6_bitCount_0f7a4 51 = .ok (.iand, 1) := by decide +kernel
theorem dJ6_bitCount_0f7a4_52 : decode cJ6_bitCount_0f7a4 52 = .ok (.ireturn, 1) := by decide +kernel
theorem dJ13_bitCount_95d88_0 : decode cJ13_bitCount_95d88 0 = .ok (.lload_n 0, 1) := by decide +kernel
theorem dJ13_bitCount_95d88_1 : decode cJ13_bitCount_95d88 1 = .ok (.lload_n 0, 1) := by decide +kernel
theorem dJ13_bitCount_95d88_2 : decode cJ13_bitCount_95d88 2 = .ok (.iconst 1, 1) := by decide +kernel
theorem dJ13_bitCount_95d88_3 : decode cJ13_bitCount_95d88 3 = .ok (.lushr, 1) := by decide +kernel
theorem dJ13_bitCount_95d88_4 : decode cJ13_bitCount_95d88 4 = .ok (.ldc2_w 314, 3) := by decide +kernel
theorem dJ13_bitCount_95d88_7 : decode cJ13_bitCount_95d88 7 = .ok (.land, 1) := by decide +kernel
theorem dJ13_bitCount_95d88_8 : decode cJ13_bitCount_95d88 8 = .ok (.lsub, 1) := by decide +kernel
theorem dJ13_bitCount_95d88_9 : decode cJ13_bitCount_95d88 9 = .ok (.lstore_n 0, 1) := by decide +kernel
theorem dJ13_bitCount_95d88_10 : decode cJ13_bitCount_95d88 10 = .ok (.lload_n 0, 1) := by decide +kernel
theorem dJ13_bitCount_95d88_11 : decode cJ13_bitCount_95d88 11 = .ok (.ldc2_w 316, 3) := by decide +kernel
theorem dJ13_bitCount_95d88_14 : decode cJ13_bitCount_95d88 14 = .ok (.land, 1) := by decide +kernel
theorem dJ13_bitCount_95d88_15 : decode cJ13_bitCount_95d88 15 = .ok (.lload_n 0, 1) := by decide +kernel
theorem dJ13_bitCount_95d88_16 : decode cJ13_bitCount_95d88 16 = .ok (.iconst 2, 1) := by decide +kernel
theorem dJ13_bitCount_95d88_17 : decode cJ13_bitCount_95d88 17 = .ok (.lushr, 1) := by decide +kernel
theorem dJ13_bitCount_95d88_18 : decode cJ13_bitCount_95d88 18 = .ok (.ldc2_w 316, 3) := by decide +kernel
theorem dJ13_bitCount_95d88_21 : decode cJ13_bitCount_95d88 21 = .ok (.land, 1) := by decide +kernel
theorem dJ13_bitCount_95d88_22 : decode cJ13_bitCount_95d88 22 = .ok (.ladd, 1) := by decide +kernel
theorem dJ13_bitCount_95d88_23 : decode cJ13_bitCount_95d88 23 = .ok (.lstore_n 0, 1) := by decide +kernel
theorem dJ13_bitCount_95d88_24 : decode cJ13_bitCount_95d88 24 = .ok (.lload_n 0, 1) := by decide +kernel
theorem dJ13_bitCount_95d88_25 : decode cJ13_bitCount_95d88 25 = .ok (.lload_n 0, 1) := by decide +kernel
theorem dJ13_bitCount_95d88_26 : decode cJ13_bitCount_95d88 26 = .ok (.iconst 4, 1) := by decide +kernel
theorem dJ13_bitCount_95d88_27 : decode cJ13_bitCount_95d88 27 = .ok (.lushr, 1) := by decide +kernel
theorem dJ13_bitCount_95d88_28 : decode cJ13_bitCount_95d88 28 = .ok (.ladd, 1) := by decide +kernel
theorem dJ13_bitCount_95d88_29 : decode cJ13_bitCount_95d88 29 = .ok (.ldc2_w 318, 3) := by decide +kernel
theorem dJ13_bitCount_95d88_32 : decode cJ13_bitCount_95d88 32 = .ok (.land, 1) := by decide +kernel
theorem dJ13_bitCount_95d88_33 : decode cJ13_bitCount_95d88 33 = .ok (.lstore_n 0, 1) := by decide +kernel
theorem dJ13_bitCount_95d88_34 : decode cJ13_bitCount_95d88 34 = .ok (.lload_n 0, 1) := by decide +kernel
theorem dJ13_bitCount_95d88_35 : decode cJ13_bitCount_95d88 35 = .ok (.lload_n 0, 1) := by decide +kernel
theorem dJ13_bitCount_95d88_36 : decode cJ13_bitCount_95d88 36 = .ok (.bipush 8, 2) := by decide +kernel
theorem dJ13_bitCount_95d88_38 : decode cJ13_bitCount_95d88 38 = .ok (.lushr, 1) := by decide +kernel
theorem dJ13_bitCount_95d88_39 : decode cJ13_bitCount_95d88 39 = .ok (.ladd, 1) := by decide +kernel
theorem dJ13_bitCount_95d88_40 : decode cJ13_bitCount_95d88 40 = .ok (.lstore_n 0, 1) := by decide +kernel
theorem dJ13_bitCount_95d88_41 : decode cJ13_bitCount_95d88 41 = .ok (.lload_n 0, 1) := by decide +kernel
theorem dJ13_bitCount_95d88_42 : decode cJ13_bitCount_95d88 42 = .ok (.lload_n 0, 1) := by decide +kernel
theorem dJ13_bitCount_95d88_43 : decode cJ13_bitCount_95d88 43 = .ok (.bipush 16, 2) := by decide +kernel
theorem dJ13_bitCount_95d88_45 : decode cJ13_bitCount_95d88 45 = .ok (.lushr, 1) := by decide +kernel
theorem dJ13_bitCount_95d88_46 : decode cJ13_bitCount_95d88 46 = .ok (.ladd, 1) := by decide +kernel
theorem dJ13_bitCount_95d88_47 : decode cJ13_bitCount_95d88 47 = .ok (.lstore_n 0, 1) := by decide +kernel
theorem dJ13_bitCount_95d88_48 : decode cJ13_bitCount_95d88 48 = .ok (.lload_n 0, 1) := by decide +kernel
theorem dJ13_bitCount_95d88_49 : decode cJ13_bitCount_95d88 49 = .ok (.lload_n 0, 1) := by decide +kernel
theorem dJ13_bitCount_95d88_50 : decode cJ13_bitCount_95d88 50 = .ok (.bipush 32, 2) := by decide +kernel
theorem dJ13_bitCount_95d88_52 : decode cJ13_bitCount_95d88 52 = .ok (.lushr, 1) := by decide +kernel
theorem dJ13_bitCount_95d88_53 : decode cJ13_bitCount_95d88 53 = .ok (.ladd, 1) := by decide +kernel
theorem dJ13_bitCount_95d88_54 : decode cJ13_bitCount_95d88 54 = .ok (.lstore_n 0, 1) := by decide +kernel
theorem dJ13_bitCount_95d88_55 : decode cJ13_bitCount_95d88 55 = .ok (.lload_n 0, 1) := by decide +kernel
theorem dJ13_bitCount_95d88_56 : decode cJ13_bitCount_95d88 56 = .ok (.l2i, 1) := by decide +kernel
theorem dJ13_bitCount_95d88_57 : decode cJ13_bitCount_95d88 57 = .ok (.bipush 127, 2) := by decide +kernel
theorem dJ13_bitCount_95d88_59 : decode cJ13_bitCount_95d88 59 = .ok (.iand, 1) := by decide +kernel
theorem dJ13_bitCount_95d88_60 : decode cJ13_bitCount_95d88 60 = .ok (.ireturn, 1) := by decide +kernel
theorem dJ9_abs_0f7a4_0 : decode cJ9_abs_0f7a4 0 = .ok (.iload_n 0, 1) := by decide +kernel
theorem dJ9_abs_0f7a4_1 : decode cJ9_abs_0f7a4 1 = .ok (.ifCond .ge 8, 3) := by decide +kernel
theorem dJ9_abs_0f7a4_4 : decode cJ9_abs_0f7a4 4 = .ok (.iload_n 0, 1) := by decide +kernel
theorem dJ9_abs_0f7a4_5 : decode cJ9_abs_0f7a4 5 = .ok (.ineg, 1) := by decide +kernel
theorem dJ9_abs_0f7a4_6 : decode cJ9_abs_0f7a4 6 = .ok (.goto 4, 3) := by decide +kernel
theorem dJ9_abs_0f7a4_9 : decode cJ9_abs_0f7a4 9 = .ok (.iload_n 0, 1) := by decide +kernel
theorem dJ9_abs_0f7a4_10 : decode cJ9_abs_0f7a4 10 = .ok (.ireturn, 1) := by decide +kernel
theorem dJ9_max_7cf53_0 : decode cJ9_max_7cf53 0 = .ok (.iload_n 0, 1) := by decide +kernel
theorem dJ9_max_7cf53_1 : decode cJ9_max_7cf53 1 = .ok (.iload_n 1, 1) := by decide +kernel
theorem dJ9_max_7cf53_2 : decode cJ9_max_7cf53 2 = .ok (.if_icmp .lt 7, 3) := by decide +kernel
theorem dJ9_max_7cf53_5 : decode cJ9_max_7cf53 5 = .ok (.iload_n 0, 1) := by decide +kernel
theorem dJ9_max_7cf53_6 : decode cJ9_max_7cf53 6 = .ok (.goto 4, 3) := by decide +kernel
theorem dJ9_max_7cf53_9 : decode cJ9_max_7cf53 9 = .ok (.iload_n 1, 1) := by decide +kernel
theorem dJ9_max_7cf53_10 : decode cJ9_max_7cf53 10 = .ok (.ireturn, 1) := by decide +kernel
abbrev vwCl : List vw_C := [(RX0, TX0, 2), (RX1, TX1, 6), (RX2, TX2, 2), (RX3, TX3, 4), (RX4, TX4, 2), (RX5, TX5, 2), (RX6, TX6, 5), (RX7, TX7, 10), (RX8, TX8, 21)]
end
section
/-! helper rows: the option monad of the pure functions; one-instruction rows with named results; calls by contracts -/
/-- how many turns a loop may take -/
def sh_fu : Nat := 2000
def sh_b1 {α β : Type} (o : Option α) (k : α → Option β) : Option β := match o with
  | none => none
  | some a => k a
theorem sh_b1_e {α β : Type} {o : Option α} {k : α → Option β} {r : β} (h : sh_b1 o k = some r) : ∃ a, o = some a ∧ k a = some r := by
  cases o with
  | none => exact nomatch h
  | some a => exact ⟨a, rfl, h⟩
theorem sh_b1_s {α β : Type} {o : Option α} {k : α → Option β} {a : α} (h : o = some a) : sh_b1 o k = k a := by rw [h]; rfl
def sh_b2 {α1 α2 β : Type} (o : Option (α1 × α2)) (k : α1 → α2 → Option β) : Option β := match o with
  | none => none
  | some a => k a.1 a.2
theorem sh_b2_e {α1 α2 β : Type} {o : Option (α1 × α2)} {k : α1 → α2 → Option β} {r : β} (h : sh_b2 o k = some r) : ∃ a b, o = some (a, b) ∧ k a b = some r := by
  cases o with
  | none => exact nomatch h
  | some a => exact ⟨a.1, a.2, rfl, h⟩
theorem sh_b2_s {α1 α2 β : Type} {o : Option (α1 × α2)} {k : α1 → α2 → Option β} {a : α1} {b : α2} (h : o = some (a, b)) : sh_b2 o k = k a b := by rw [h]; rfl
def sh_b3 {α1 α2 α3 β : Type} (o : Option (α1 × α2 × α3)) (k : α1 → α2 → α3 → Option β) : Option β := match o with
  | none => none
  | some a => k a.1 a.2.1 a.2.2
theorem sh_b3_e {α1 α2 α3 β : Type} {o : Option (α1 × α2 × α3)} {k : α1 → α2 → α3 → Option β} {r : β} (h : sh_b3 o k = some r) : ∃ a b c, o = some (a, b, c) ∧ k a b c = some r := by
  cases o with
  | none => exact nomatch h
  | some a => exact ⟨a.1, a.2.1, a.2.2, rfl, h⟩
theorem sh_b3_s {α1 α2 α3 β : Type} {o : Option (α1 × α2 × α3)} {k : α1 → α2 → α3 → Option β} {a : α1} {b : α2} {c : α3} (h : o = some (a, b, c)) : sh_b3 o k = k a b c := by rw [h]; rfl
def sh_b4 {α1 α2 α3 α4 β : Type} (o : Option (α1 × α2 × α3 × α4)) (k : α1 → α2 → α3 → α4 → Option β) : Option β := match o with
  | none => none
  | some a => k a.1 a.2.1 a.2.2.1 a.2.2.2
theorem sh_b4_e {α1 α2 α3 α4 β : Type} {o : Option (α1 × α2 × α3 × α4)} {k : α1 → α2 → α3 → α4 → Option β} {r : β} (h : sh_b4 o k = some r) : ∃ a b c d, o = some (a, b, c, d) ∧ k a b c d = some r := by
  cases o with
  | none => exact nomatch h
  | some a => exact ⟨a.1, a.2.1, a.2.2.1, a.2.2.2, rfl, h⟩
theorem sh_b4_s {α1 α2 α3 α4 β : Type} {o : Option (α1 × α2 × α3 × α4)} {k : α1 → α2 → α3 → α4 → Option β} {a : α1} {b : α2} {c : α3} {d : α4} (h : o = some (a, b, c, d)) : sh_b4 o k = k a b c d := by rw [h]; rfl
def sh_b5 {α1 α2 α3 α4 α5 β : Type} (o : Option (α1 × α2 × α3 × α4 × α5)) (k : α1 → α2 → α3 → α4 → α5 → Option β) : Option β := match o with
  | none => none
  | some a => k a.1 a.2.1 a.2.2.1 a.2.2.2.1 a.2.2.2.2
theorem sh_b5_e {α1 α2 α3 α4 α5 β : Type} {o : Option (α1 × α2 × α3 × α4 × α5)} {k : α1 → α2 → α3 → α4 → α5 → Option β} {r : β} (h : sh_b5 o k = some r) : ∃ a b c d e, o = some (a, b, c, d, e) ∧ k a b c d e = some r := by
  cases o with
  | none => exact nomatch h
  | some a => exact ⟨a.1, a.2.1, a.2.2.1, a.2.2.2.1, a.2.2.2.2, rfl, h⟩
theorem sh_b5_s {α1 α2 α3 α4 α5 β : Type} {o : Option (α1 × α2 × α3 × α4 × α5)} {k : α1 → α2 → α3 → α4 → α5 → Option β} {a : α1} {b : α2} {c : α3} {d : α4} {e : α5} (h : o = some (a, b, c, d, e)) : sh_b5 o k = k a b c d e := by rw [h]; rfl
def sh_b6 {α1 α2 α3 α4 α5 α6 β : Type} (o : Option (α1 × α2 × α3 × α4 × α5 × α6)) (k : α1 → α2 → α3 → α4 → α5 → α6 → Option β) : Option β := match o with
  | none => none
  | some a => k a.1 a.2.1 a.2.2.1 a.2.2.2.1 a.2.2.2.2.1 a.2.2.2.2.2
theorem sh_b6_e {α1 α2 α3 α4 α5 α6 β : Type} {o : Option (α1 × α2 × α3 × α4 × α5 × α6)} {k : α1 → α2 → α3 → α4 → α5 → α6 → Option β} {r : β} (h : sh_b6 o k = some r) : ∃ a b c d e f, o = some (a, b, c, d, e, f) ∧ k a b c d e f = some r := by
  cases o with
  | none => exact nomatch h
  | some a => exact ⟨a.1, a.2.1, a.2.2.1, a.2.2.2.1, a.2.2.2.2.1, a.2.2.2.2.2, rfl, h⟩
theorem sh_b6_s {α1 α2 α3 α4 α5 α6 β : Type} {o : Option (α1 × α2 × α3 × α4 × α5 × α6)} {k : α1 → α2 → α3 → α4 → α5 → α6 → Option β} {a : α1} {b : α2} {c : α3} {d : α4} {e : α5} {f : α6} (h : o = some (a, b, c, d, e, f)) : sh_b6 o k = k a b c d e f := by rw [h]; rfl
/-- a loop that may return from within -/
def sh_bs {ρ τ : Type} (o : Option (ρ ⊕ τ)) (k : τ → Option ρ) : Option ρ := match o with
  | none => none
  | some (.inl r) => some r
  | some (.inr t) => k t
theorem sh_bs_e {ρ τ : Type} {o : Option (ρ ⊕ τ)} {k : τ → Option ρ} {r : ρ} (h : sh_bs o k = some r) : ∃ z, o = some z ∧ (∀ x, z = .inl x → x = r) ∧ ∀ t, z = .inr t → k t = some r := by
  cases o with
  | none => exact nomatch h
  | some z =>
    cases z with
    | inl x => exact ⟨.inl x, rfl, fun y e => by cases e; exact Option.some.inj h, fun t e => (nomatch e)⟩
    | inr t => exact ⟨.inr t, rfl, fun y e => (nomatch e), fun t e => by cases e; exact h⟩
theorem sh_bs_l {ρ τ : Type} {o : Option (ρ ⊕ τ)} {k : τ → Option ρ} {r : ρ} (h : o = some (.inl r)) : sh_bs o k = some r := by rw [h]; rfl
theorem sh_bs_r {ρ τ : Type} {o : Option (ρ ⊕ τ)} {k : τ → Option ρ} {t : τ} (h : o = some (.inr t)) : sh_bs o k = k t := by rw [h]; rfl
/-- .. inside another such loop -/
def sh_bt {ρ τ σ : Type} (o : Option (ρ ⊕ τ)) (k : τ → Option (ρ ⊕ σ)) : Option (ρ ⊕ σ) := match o with
  | none => none
  | some (.inl r) => some (.inl r)
  | some (.inr t) => k t
theorem sh_bt_e {ρ τ σ : Type} {o : Option (ρ ⊕ τ)} {k : τ → Option (ρ ⊕ σ)} {r : ρ ⊕ σ} (h : sh_bt o k = some r) : ∃ z, o = some z ∧ (∀ x, z = .inl x → r = .inl x) ∧ ∀ t, z = .inr t → k t = some r := by
  cases o with
  | none => exact nomatch h
  | some z =>
    cases z with
    | inl x => exact ⟨.inl x, rfl, fun y e => by cases e; exact (Option.some.inj h).symm, fun t e => (nomatch e)⟩
    | inr t => exact ⟨.inr t, rfl, fun y e => (nomatch e), fun t e => by cases e; exact h⟩
/-- a value gets a name -/
def sh_nm {α β : Type} (v : α) (k : α → β) : β := k v
theorem sh_nm_e {α β : Type} {v : α} {k : α → β} {r : β} (h : sh_nm v k = r) : ∃ x, x = v ∧ k x = r := ⟨v, rfl, h⟩
def sh_ald {α : Type} (f : Nat → α) (n : Nat) (i : Int32) : Option α := if i < 0 ∨ n ≤ i.toNatClampNeg then none else some (f i.toNatClampNeg)
theorem sh_ald_e {α : Type} {f : Nat → α} {n : Nat} {i : Int32} {v : α} (h : sh_ald f n i = some v) : vp_in i n ∧ f i.toNatClampNeg = v := by
  unfold sh_ald at h
  by_cases hc : i < 0 ∨ n ≤ i.toNatClampNeg
  · rw [if_pos hc] at h; exact nomatch h
  · rw [if_neg hc] at h; exact ⟨hc, Option.some.inj h⟩
def sh_ast (f : Nat → Int32) (n : Nat) (i x : Int32) : Option (Nat → Int32) := if i < 0 ∨ n ≤ i.toNatClampNeg then none else some (upd f i.toNatClampNeg x)
theorem sh_ast_e {f : Nat → Int32} {n : Nat} {i x : Int32} {v : Nat → Int32} (h : sh_ast f n i x = some v) : vp_in i n ∧ upd f i.toNatClampNeg x = v := by
  unfold sh_ast at h
  by_cases hc : i < 0 ∨ n ≤ i.toNatClampNeg
  · rw [if_pos hc] at h; exact nomatch h
  · rw [if_neg hc] at h; exact ⟨hc, Option.some.inj h⟩
def sh_astZ (f : Nat → Int32) (n : Nat) (i x : Int32) : Option (Nat → Int32) := if i < 0 ∨ n ≤ i.toNatClampNeg then none else some (upd f i.toNatClampNeg (vp_nar .boolean x))
theorem sh_astZ_e {f : Nat → Int32} {n : Nat} {i x : Int32} {v : Nat → Int32} (h : sh_astZ f n i x = some v) : vp_in i n ∧ upd f i.toNatClampNeg (vp_nar .boolean x) = v := by
  unfold sh_astZ at h
  by_cases hc : i < 0 ∨ n ≤ i.toNatClampNeg
  · rw [if_pos hc] at h; exact nomatch h
  · rw [if_neg hc] at h; exact ⟨hc, Option.some.inj h⟩
def sh_astL (f : Nat → Int64) (n : Nat) (i : Int32) (x : Int64) : Option (Nat → Int64) := if i < 0 ∨ n ≤ i.toNatClampNeg then none else some (vp_updL f i.toNatClampNeg x)
theorem sh_astL_e {f : Nat → Int64} {n : Nat} {i : Int32} {x : Int64} {v : Nat → Int64} (h : sh_astL f n i x = some v) : vp_in i n ∧ vp_updL f i.toNatClampNeg x = v := by
  unfold sh_astL at h
  by_cases hc : i < 0 ∨ n ≤ i.toNatClampNeg
  · rw [if_pos hc] at h; exact nomatch h
  · rw [if_neg hc] at h; exact ⟨hc, Option.some.inj h⟩
def sh_div (x y : Int32) : Option Int32 := if y = 0 then none else some (x / y)
theorem sh_div_e {x y v : Int32} (h : sh_div x y = some v) : ¬ y = 0 ∧ x / y = v := by
  unfold sh_div at h
  by_cases hc : y = 0
  · rw [if_pos hc] at h; exact nomatch h
  · rw [if_neg hc] at h; exact ⟨hc, Option.some.inj h⟩
def sh_rem (x y : Int32) : Option Int32 := if y = 0 then none else some (x - x / y * y)
theorem sh_rem_e {x y v : Int32} (h : sh_rem x y = some v) : ¬ y = 0 ∧ x - x / y * y = v := by
  unfold sh_rem at h
  by_cases hc : y = 0
  · rw [if_pos hc] at h; exact nomatch h
  · rw [if_neg hc] at h; exact ⟨hc, Option.some.inj h⟩
def sh_divL (x y : Int64) : Option Int64 := if y = 0 then none else some (x / y)
theorem sh_divL_e {x y v : Int64} (h : sh_divL x y = some v) : ¬ y = 0 ∧ x / y = v := by
  unfold sh_divL at h
  by_cases hc : y = 0
  · rw [if_pos hc] at h; exact nomatch h
  · rw [if_neg hc] at h; exact ⟨hc, Option.some.inj h⟩
def sh_remL (x y : Int64) : Option Int64 := if y = 0 then none else some (x - x / y * y)
theorem sh_remL_e {x y v : Int64} (h : sh_remL x y = some v) : ¬ y = 0 ∧ x - x / y * y = v := by
  unfold sh_remL at h
  by_cases hc : y = 0
  · rw [if_pos hc] at h; exact nomatch h
  · rw [if_neg hc] at h; exact ⟨hc, Option.some.inj h⟩
def sh_zr (v : Int32) : Option Int32 := if v = 0 ∨ v = 1 then some v else none
theorem sh_zr_e {v o : Int32} (h : sh_zr v = some o) : narrow .boolean (.int v) = .int v ∧ v = o := by
  unfold sh_zr at h
  by_cases hc : v = 0 ∨ v = 1
  · rw [if_pos hc] at h
    refine ⟨?_, Option.some.inj h⟩
    rcases hc with rfl | rfl <;> rfl
  · rw [if_neg hc] at h; exact nomatch h
def sh_cpy (f g : Nat → Int64) (n0 n1 : Nat) (sp dp n : Int32) : Option (Nat → Int64) := if sp < 0 ∨ dp < 0 ∨ n < 0 ∨ n0 < sp.toNatClampNeg + n.toNatClampNeg ∨ n1 < dp.toNatClampNeg + n.toNatClampNeg then none else some (va_cpy f g sp.toNatClampNeg dp.toNatClampNeg n.toNatClampNeg)
theorem sh_cpy_e {f g : Nat → Int64} {n0 n1 : Nat} {sp dp n : Int32} {v : Nat → Int64} (h : sh_cpy f g n0 n1 sp dp n = some v) : (¬ sp < 0 ∧ ¬ dp < 0 ∧ ¬ n < 0 ∧ sp.toNatClampNeg + n.toNatClampNeg ≤ n0 ∧ dp.toNatClampNeg + n.toNatClampNeg ≤ n1) ∧ va_cpy f g sp.toNatClampNeg dp.toNatClampNeg n.toNatClampNeg = v := by
  unfold sh_cpy at h
  by_cases hc : sp < 0 ∨ dp < 0 ∨ n < 0 ∨ n0 < sp.toNatClampNeg + n.toNatClampNeg ∨ n1 < dp.toNatClampNeg + n.toNatClampNeg
  · rw [if_pos hc] at h; exact nomatch h
  · rw [if_neg hc] at h
    simp only [not_or, Nat.not_lt] at hc
    exact ⟨hc, Option.some.inj h⟩
def sh_lsr (x : Int64) (y : Int32) : Int64 := (x.toUInt64 >>> (y.toInt64.toUInt64 &&& Int64.toUInt64 63)).toInt64
def sh_lsl (x : Int64) (y : Int32) : Int64 := x <<< (y.toInt64 &&& 63)
def sh_isr (x y : Int32) : Int32 := (x.toUInt32 >>> (y.toUInt32 &&& Int32.toUInt32 31)).toInt32
def sh_abs (x : Int32) : Int32 := if 0 ≤ x then x else 0 - x
def sh_max (x y : Int32) : Int32 := if x < y then y else x
abbrev sh_ty (cI cJ cZ : ClassId) : List (ClassId × FieldType) := [(cI, .int), (cJ, .long), (cZ, .boolean)]
/-- a reading method's start -/
abbrev sh_Pr (D : va_G) (tys : List (ClassId × FieldType)) (ws : va_W) (av : List Value) : Array Value → State → Prop := va_Pc av (fun U => va_P D vwCl ws U.heap ∧ va_K D vwCl tys U)
/-- a writing method's start -/
abbrev sh_Pw (D : va_G) (tys : List (ClassId × FieldType)) (sz : Nat) (ws : va_W) (av : List Value) : Array Value → State → Prop := va_Pc av (fun U => U.heap.size = sz ∧ va_P D vwCl ws U.heap ∧ va_K D vwCl tys U ∧ va_D (fun _ => True) ws)
/-- .. and with a word of the nest -/
abbrev sh_Pn (nw : Cond) (P : Array Value → State → Prop) : Array Value → State → Prop := fun v U => P v U ∧ va_Nw nw U
abbrev sh_Bw (D : va_G) (tys : List (ClassId × FieldType)) (A : Nat → Prop) (w1 : va_W) : Unit → State → Prop := fun _ t => va_P D vwCl w1 t.heap ∧ va_K D vwCl tys t ∧ va_D A w1
abbrev sh_Qi (D : va_G) (tys : List (ClassId × FieldType)) (A : Nat → Prop) (w1 : va_W) (o : Int32) := va_Qi (fun (z : Int32) (_ : Unit) => z = o) (sh_Bw D tys A w1) A
abbrev sh_Ql (D : va_G) (tys : List (ClassId × FieldType)) (A : Nat → Prop) (w1 : va_W) (o : Int64) := va_Ql (fun (z : Int64) (_ : Unit) => z = o) (sh_Bw D tys A w1) A
abbrev sh_Qv (D : va_G) (tys : List (ClassId × FieldType)) (A : Nat → Prop) (w1 : va_W) := va_Qv (fun (_ : Unit) => True) (sh_Bw D tys A w1) A
theorem sh_blr {D : va_G} {tys : List (ClassId × FieldType)} {ws : va_W} {av : List Value} : FrameBlind (sh_Pr D tys ws av) := fun a U g mk q => ⟨q.1, q.2.1, va_K.moved (u := U) (U := U.calling g mk a) (Vm.Alike.refl U.vm) q.2.2⟩
theorem sh_blw {D : va_G} {tys : List (ClassId × FieldType)} {sz : Nat} {ws : va_W} {av : List Value} : FrameBlind (sh_Pw D tys sz ws av) := fun a U g mk q => ⟨q.1, q.2.1, q.2.2.1, va_K.moved (u := U) (U := U.calling g mk a) (Vm.Alike.refl U.vm) q.2.2.2.1, q.2.2.2.2⟩
theorem sh_bln {nw : Cond} (hw : nw.onTables = true) {P : Array Value → State → Prop} (h : FrameBlind P) : FrameBlind (sh_Pn nw P) := fun a U g mk q => ⟨h a U g mk q.1, va_Nw.same (u := U) (U := U.calling g mk a) hw rfl q.2⟩
section SH
variable {p : Program} {l : Launch} {e : Env} {R : Room} {s : State} {m : MethodId} {args : Array Value} {below : List Frame} {meth : Method} {c : Code} {H : Heap} {locs : List Loc} {cells slots : Nat} {Q : State → Prop}
variable {cc bytes : ByteArray} {pc : Nat} {ls : Array Slot} {rest st0 : List Value} {D : va_G} {cl : List vw_C} {Az : Nat → Prop} {a b : Nat} {tys : List (ClassId × FieldType)} {ws wn wc w1 : va_W} {H0 : Heap}
variable {nL maxL n index : Nat} {Ts wy : List Cond} {own C : String} {y : MethodName} {ret : Option FieldType} {rm : Room} {As : List Value}
theorem sh_iald (hexec : p.tables.exec = Jvm.exec) (hb : c.code = cc) (hK : va_K D cl tys s) (hP : va_P D cl ws H) (q0 t0 : Nat) {cA : ClassId} {n : Nat} {f : Nat → Int32} (ha : ws[q0]? = some (a, .inl (cA, n, .inl f))) (ht : tys[t0]? = some (cA, .int)) {i v : Int32} (hin : vp_in i n ∧ f i.toNatClampNeg = v) (hdg : decode cc pc = .ok (.iaload, 1))
    (kk : W p l e R s m args below meth c H locs cells slots Q (F0 m (pc + 1) ls (.int v :: rest))) : W p l e R s m args below meth c H locs cells slots Q (F0 m pc ls (.int i :: .ref a :: rest)) := by
  obtain ⟨h1, rfl⟩ := hin
  exact va_iald hexec hb hK hP q0 t0 ha ht h1 hdg kk
theorem sh_zald (hexec : p.tables.exec = Jvm.exec) (hb : c.code = cc) (hK : va_K D cl tys s) (hP : va_P D cl ws H) (q0 t0 : Nat) {cA : ClassId} {n : Nat} {f : Nat → Int32} (ha : ws[q0]? = some (a, .inl (cA, n, .inl f))) (ht : tys[t0]? = some (cA, .boolean)) {i v : Int32} (hin : vp_in i n ∧ f i.toNatClampNeg = v) (hdg : decode cc pc = .ok (.baload, 1))
    (kk : W p l e R s m args below meth c H locs cells slots Q (F0 m (pc + 1) ls (.int v :: rest))) : W p l e R s m args below meth c H locs cells slots Q (F0 m pc ls (.int i :: .ref a :: rest)) := by
  obtain ⟨h1, rfl⟩ := hin
  exact va_zald hexec hb hK hP q0 t0 ha ht h1 hdg kk
theorem sh_lald (hexec : p.tables.exec = Jvm.exec) (hb : c.code = cc) (hK : va_K D cl tys s) (hP : va_P D cl ws H) (q0 t0 : Nat) {cA : ClassId} {n : Nat} {f : Nat → Int64} (ha : ws[q0]? = some (a, .inl (cA, n, .inr (.inl f)))) (ht : tys[t0]? = some (cA, .long)) {i : Int32} {v : Int64} (hin : vp_in i n ∧ f i.toNatClampNeg = v) (hdg : decode cc pc = .ok (.laload, 1))
    (kk : W p l e R s m args below meth c H locs cells slots Q (F0 m (pc + 1) ls (.long v :: rest))) : W p l e R s m args below meth c H locs cells slots Q (F0 m pc ls (.int i :: .ref a :: rest)) := by
  obtain ⟨h1, rfl⟩ := hin
  exact va_lald hexec hb hK hP q0 t0 ha ht h1 hdg kk
theorem sh_iast (hexec : p.tables.exec = Jvm.exec) (hb : c.code = cc) (hK : va_K D cl tys s) (hP : va_P D cl ws H) (hD : va_D Az ws) (hS : va_S Az H0 H locs) (q0 t0 : Nat) {cA : ClassId} {n : Nat} {f f1 : Nat → Int32} (ha : ws[q0]? = some (a, .inl (cA, n, .inl f))) (ht : tys[t0]? = some (cA, .int)) {i x : Int32} (hin : vp_in i n ∧ upd f i.toNatClampNeg x = f1) (hn : ws.set q0 (a, .inl (cA, n, .inl f1)) = wn) (hdg : decode cc pc = .ok (.iastore, 1))
    (kk : ∀ (H1 : Heap) (locs1 : List Loc), va_P D cl wn H1 → va_D Az wn → va_S Az H0 H1 locs1 → W p l e R s m args below meth c H1 locs1 cells slots Q (F0 m (pc + 1) ls rest)) : W p l e R s m args below meth c H locs cells slots Q (F0 m pc ls (.int x :: .int i :: .ref a :: rest)) := by
  obtain ⟨h1, rfl⟩ := hin
  subst hn
  exact va_iast hexec hb hK hP hD hS q0 t0 ha ht h1 hdg kk
theorem sh_zast (hexec : p.tables.exec = Jvm.exec) (hb : c.code = cc) (hK : va_K D cl tys s) (hP : va_P D cl ws H) (hD : va_D Az ws) (hS : va_S Az H0 H locs) (q0 t0 : Nat) {cA : ClassId} {n : Nat} {f f1 : Nat → Int32} (ha : ws[q0]? = some (a, .inl (cA, n, .inl f))) (ht : tys[t0]? = some (cA, .boolean)) {i x : Int32} (hin : vp_in i n ∧ upd f i.toNatClampNeg (vp_nar .boolean x) = f1) (hn : ws.set q0 (a, .inl (cA, n, .inl f1)) = wn) (hdg : decode cc pc = .ok (.bastore, 1))
    (kk : ∀ (H1 : Heap) (locs1 : List Loc), va_P D cl wn H1 → va_D Az wn → va_S Az H0 H1 locs1 → W p l e R s m args below meth c H1 locs1 cells slots Q (F0 m (pc + 1) ls rest)) : W p l e R s m args below meth c H locs cells slots Q (F0 m pc ls (.int x :: .int i :: .ref a :: rest)) := by
  obtain ⟨h1, rfl⟩ := hin
  subst hn
  exact va_zast hexec hb hK hP hD hS q0 t0 ha ht h1 hdg kk
theorem sh_last (hexec : p.tables.exec = Jvm.exec) (hb : c.code = cc) (hK : va_K D cl tys s) (hP : va_P D cl ws H) (hD : va_D Az ws) (hS : va_S Az H0 H locs) (q0 t0 : Nat) {cA : ClassId} {n : Nat} {f f1 : Nat → Int64} (ha : ws[q0]? = some (a, .inl (cA, n, .inr (.inl f)))) (ht : tys[t0]? = some (cA, .long)) {i : Int32} {x : Int64} (hin : vp_in i n ∧ vp_updL f i.toNatClampNeg x = f1) (hn : ws.set q0 (a, .inl (cA, n, .inr (.inl f1))) = wn) (hdg : decode cc pc = .ok (.lastore, 1))
    (kk : ∀ (H1 : Heap) (locs1 : List Loc), va_P D cl wn H1 → va_D Az wn → va_S Az H0 H1 locs1 → W p l e R s m args below meth c H1 locs1 cells slots Q (F0 m (pc + 1) ls rest)) : W p l e R s m args below meth c H locs cells slots Q (F0 m pc ls (.long x :: .int i :: .ref a :: rest)) := by
  obtain ⟨h1, rfl⟩ := hin
  subst hn
  exact va_last hexec hb hK hP hD hS q0 t0 ha ht h1 hdg kk
theorem sh_idiv (hexec : p.tables.exec = Jvm.exec) (hb : c.code = cc) {x y v : Int32} (hv : ¬ y = 0 ∧ x / y = v) (hdg : decode cc pc = .ok (.idiv, 1))
    (k : W p l e R s m args below meth c H locs cells slots Q (F0 m (pc + 1) ls (.int v :: rest))) : W p l e R s m args below meth c H locs cells slots Q (F0 m pc ls (.int y :: .int x :: rest)) := by
  obtain ⟨h1, rfl⟩ := hv
  exact lv_idiv hexec hb hdg h1 k
theorem sh_irem (hexec : p.tables.exec = Jvm.exec) (hb : c.code = cc) {x y v : Int32} (hv : ¬ y = 0 ∧ x - x / y * y = v) (hdg : decode cc pc = .ok (.irem, 1))
    (k : W p l e R s m args below meth c H locs cells slots Q (F0 m (pc + 1) ls (.int v :: rest))) : W p l e R s m args below meth c H locs cells slots Q (F0 m pc ls (.int y :: .int x :: rest)) := by
  obtain ⟨h1, rfl⟩ := hv
  exact lv_irem hexec hb hdg h1 k
theorem sh_ldiv (hexec : p.tables.exec = Jvm.exec) (hb : c.code = cc) {x y v : Int64} (hv : ¬ y = 0 ∧ x / y = v) (hdg : decode cc pc = .ok (.ldiv, 1))
    (k : W p l e R s m args below meth c H locs cells slots Q (F0 m (pc + 1) ls (.long v :: rest))) : W p l e R s m args below meth c H locs cells slots Q (F0 m pc ls (.long y :: .long x :: rest)) := by
  obtain ⟨h1, rfl⟩ := hv
  exact lv_ldiv hexec hb hdg h1 k
theorem sh_lrem (hexec : p.tables.exec = Jvm.exec) (hb : c.code = cc) {x y v : Int64} (hv : ¬ y = 0 ∧ x - x / y * y = v) (hdg : decode cc pc = .ok (.lrem, 1))
    (k : W p l e R s m args below meth c H locs cells slots Q (F0 m (pc + 1) ls (.long v :: rest))) : W p l e R s m args below meth c H locs cells slots Q (F0 m pc ls (.long y :: .long x :: rest)) := by
  obtain ⟨h1, rfl⟩ := hv
  exact lv_lrem hexec hb hdg h1 k
/-! a comparison of longs and the branch behind it -/
theorem sh_leq (hexec : p.tables.exec = Jvm.exec) (hb : c.code = cc) {x y : Int64} {off : Int} {tgt : Nat} (hd1 : decode cc pc = .ok (.lcmp, 1)) (hdg : decode cc (pc + 1) = .ok (.ifCond .eq off, 3)) (ht : ((pc + 1 : Nat) : Int) + off = (tgt : Int))
    (kt : x = y → W p l e R s m args below meth c H locs cells slots Q (F0 m tgt ls rest)) (kf : ¬ x = y → W p l e R s m args below meth c H locs cells slots Q (F0 m (pc + 4) ls rest)) : W p l e R s m args below meth c H locs cells slots Q (F0 m pc ls (.long y :: .long x :: rest)) :=
  W.lcmp hexec hb hd1 (lv_if_eq hexec hb hdg ht (fun q => kt ((lg_cmp_eq x y).mp q)) (fun q => kf (fun z => q ((lg_cmp_eq x y).mpr z))))
theorem sh_lne (hexec : p.tables.exec = Jvm.exec) (hb : c.code = cc) {x y : Int64} {off : Int} {tgt : Nat} (hd1 : decode cc pc = .ok (.lcmp, 1)) (hdg : decode cc (pc + 1) = .ok (.ifCond .ne off, 3)) (ht : ((pc + 1 : Nat) : Int) + off = (tgt : Int))
    (kt : ¬ x = y → W p l e R s m args below meth c H locs cells slots Q (F0 m tgt ls rest)) (kf : x = y → W p l e R s m args below meth c H locs cells slots Q (F0 m (pc + 4) ls rest)) : W p l e R s m args below meth c H locs cells slots Q (F0 m pc ls (.long y :: .long x :: rest)) :=
  W.lcmp hexec hb hd1 (lv_if_ne hexec hb hdg ht (fun q => kt (fun z => q ((lg_cmp_eq x y).mpr z))) (fun q => kf ((lg_cmp_eq x y).mp q)))
theorem sh_llt (hexec : p.tables.exec = Jvm.exec) (hb : c.code = cc) {x y : Int64} {off : Int} {tgt : Nat} (hd1 : decode cc pc = .ok (.lcmp, 1)) (hdg : decode cc (pc + 1) = .ok (.ifCond .lt off, 3)) (ht : ((pc + 1 : Nat) : Int) + off = (tgt : Int))
    (kt : x < y → W p l e R s m args below meth c H locs cells slots Q (F0 m tgt ls rest)) (kf : ¬ x < y → W p l e R s m args below meth c H locs cells slots Q (F0 m (pc + 4) ls rest)) : W p l e R s m args below meth c H locs cells slots Q (F0 m pc ls (.long y :: .long x :: rest)) :=
  W.lcmp hexec hb hd1 (lv_if_lt hexec hb hdg ht (fun q => kt ((lg_cmp_lt x y).mp q)) (fun q => kf (fun z => q ((lg_cmp_lt x y).mpr z))))
theorem sh_lge (hexec : p.tables.exec = Jvm.exec) (hb : c.code = cc) {x y : Int64} {off : Int} {tgt : Nat} (hd1 : decode cc pc = .ok (.lcmp, 1)) (hdg : decode cc (pc + 1) = .ok (.ifCond .ge off, 3)) (ht : ((pc + 1 : Nat) : Int) + off = (tgt : Int))
    (kt : y ≤ x → W p l e R s m args below meth c H locs cells slots Q (F0 m tgt ls rest)) (kf : ¬ y ≤ x → W p l e R s m args below meth c H locs cells slots Q (F0 m (pc + 4) ls rest)) : W p l e R s m args below meth c H locs cells slots Q (F0 m pc ls (.long y :: .long x :: rest)) :=
  W.lcmp hexec hb hd1 (lv_if_ge hexec hb hdg ht (fun q => kt ((lg_cmp_ge x y).mp q)) (fun q => kf (fun z => q ((lg_cmp_ge x y).mpr z))))
theorem sh_lgt (hexec : p.tables.exec = Jvm.exec) (hb : c.code = cc) {x y : Int64} {off : Int} {tgt : Nat} (hd1 : decode cc pc = .ok (.lcmp, 1)) (hdg : decode cc (pc + 1) = .ok (.ifCond .gt off, 3)) (ht : ((pc + 1 : Nat) : Int) + off = (tgt : Int))
    (kt : y < x → W p l e R s m args below meth c H locs cells slots Q (F0 m tgt ls rest)) (kf : ¬ y < x → W p l e R s m args below meth c H locs cells slots Q (F0 m (pc + 4) ls rest)) : W p l e R s m args below meth c H locs cells slots Q (F0 m pc ls (.long y :: .long x :: rest)) :=
  W.lcmp hexec hb hd1 (lv_if_gt hexec hb hdg ht (fun q => kt ((lg_cmp_gt x y).mp q)) (fun q => kf (fun z => q ((lg_cmp_gt x y).mpr z))))
theorem sh_lle (hexec : p.tables.exec = Jvm.exec) (hb : c.code = cc) {x y : Int64} {off : Int} {tgt : Nat} (hd1 : decode cc pc = .ok (.lcmp, 1)) (hdg : decode cc (pc + 1) = .ok (.ifCond .le off, 3)) (ht : ((pc + 1 : Nat) : Int) + off = (tgt : Int))
    (kt : x ≤ y → W p l e R s m args below meth c H locs cells slots Q (F0 m tgt ls rest)) (kf : ¬ x ≤ y → W p l e R s m args below meth c H locs cells slots Q (F0 m (pc + 4) ls rest)) : W p l e R s m args below meth c H locs cells slots Q (F0 m pc ls (.long y :: .long x :: rest)) :=
  W.lcmp hexec hb hd1 (lv_if_le hexec hb hdg ht (fun q => kt ((lg_cmp_le x y).mp q)) (fun q => kf (fun z => q ((lg_cmp_le x y).mpr z))))
/-! a reading method's end -/
theorem sh_roi {o v : Int32} (hexec : p.tables.exec = Jvm.exec) (hb : c.code = cc) (hr : meth.sig.returnType = some .int) (hlocks : meth.locks = false) (hQ : MQ below (vp_Si (fun z => z = o)) args s 0 0 (fun _ => False) = Q) (ho : v = o) (hdg : decode cc pc = .ok (.ireturn, 1)) : W p l e R s m args below meth c s.heap [] 0 0 Q (F0 m pc ls [.int v]) := by
  subst hQ
  exact W.iret hexec hb hr (fun t ht hW => ⟨v, rfl, ho, ht⟩) (fun q h => nomatch h) hdg
theorem sh_roz {o v : Int32} (hexec : p.tables.exec = Jvm.exec) (hb : c.code = cc) (hr : meth.sig.returnType = some .boolean) (hlocks : meth.locks = false) (hQ : MQ below (vp_Si (fun z => z = o)) args s 0 0 (fun _ => False) = Q) (ho : narrow .boolean (.int v) = .int v ∧ v = o) (hdg : decode cc pc = .ok (.ireturn, 1)) : W p l e R s m args below meth c s.heap [] 0 0 Q (F0 m pc ls [.int v]) := by
  subst hQ
  exact W.zret hexec hb hr ho.1 (fun t ht hW => ⟨v, rfl, ho.2, ht⟩) (fun q h => nomatch h) hdg
theorem sh_rol {o v : Int64} (hexec : p.tables.exec = Jvm.exec) (hb : c.code = cc) (hr : meth.sig.returnType = some .long) (hlocks : meth.locks = false) (hQ : MQ below (vp_Sl (fun z => z = o)) args s 0 0 (fun _ => False) = Q) (ho : v = o) (hdg : decode cc pc = .ok (.lreturn, 1)) : W p l e R s m args below meth c s.heap [] 0 0 Q (F0 m pc ls [.long v]) := by
  subst hQ
  exact W.lret hexec hb hr (fun t ht hW => ⟨v, rfl, ho, ht⟩) (fun q h => nomatch h) hdg
/-! a writing method's end -/
theorem sh_rwi {o : Int32} (hexec : p.tables.exec = Jvm.exec) (hb : c.code = cc) (hr : meth.sig.returnType = some .int) (hlocks : meth.locks = false) (hQ : MQ below (sh_Qi D tys Az w1 o) args s cells slots Az = Q) (hK : va_K D vwCl tys s) (hP : va_P D vwCl w1 H) (hD : va_D Az w1) (hS : va_S Az s.heap H locs) (hdg : decode cc pc = .ok (.ireturn, 1)) : W p l e R s m args below meth c H locs cells slots Q (F0 m pc ls [.int o]) := by
  subst hQ
  exact W.iret hexec hb hr (fun t ht hW => ⟨⟨o, (), rfl, rfl, by rw [ht]; exact hP, va_K.moved hW.alike hK, hD⟩, hS.F ht⟩) hS.2.2 hdg
theorem sh_rwz {o : Int32} (hexec : p.tables.exec = Jvm.exec) (hb : c.code = cc) (hr : meth.sig.returnType = some .boolean) (hlocks : meth.locks = false) (hQ : MQ below (sh_Qi D tys Az w1 o) args s cells slots Az = Q) (hn : narrow .boolean (.int o) = .int o) (hK : va_K D vwCl tys s) (hP : va_P D vwCl w1 H) (hD : va_D Az w1) (hS : va_S Az s.heap H locs) (hdg : decode cc pc = .ok (.ireturn, 1)) : W p l e R s m args below meth c H locs cells slots Q (F0 m pc ls [.int o]) := by
  subst hQ
  exact W.zret hexec hb hr hn (fun t ht hW => ⟨⟨o, (), rfl, rfl, by rw [ht]; exact hP, va_K.moved hW.alike hK, hD⟩, hS.F ht⟩) hS.2.2 hdg
theorem sh_rwl {o : Int64} (hexec : p.tables.exec = Jvm.exec) (hb : c.code = cc) (hr : meth.sig.returnType = some .long) (hlocks : meth.locks = false) (hQ : MQ below (sh_Ql D tys Az w1 o) args s cells slots Az = Q) (hK : va_K D vwCl tys s) (hP : va_P D vwCl w1 H) (hD : va_D Az w1) (hS : va_S Az s.heap H locs) (hdg : decode cc pc = .ok (.lreturn, 1)) : W p l e R s m args below meth c H locs cells slots Q (F0 m pc ls [.long o]) := by
  subst hQ
  exact W.lret hexec hb hr (fun t ht hW => ⟨⟨o, (), rfl, rfl, by rw [ht]; exact hP, va_K.moved hW.alike hK, hD⟩, hS.F ht⟩) hS.2.2 hdg
theorem sh_rwv (hexec : p.tables.exec = Jvm.exec) (hb : c.code = cc) (hr : meth.sig.returnType = none) (hlocks : meth.locks = false) (hQ : MQ below (sh_Qv D tys Az w1) args s cells slots Az = Q) (hK : va_K D vwCl tys s) (hP : va_P D vwCl w1 H) (hD : va_D Az w1) (hS : va_S Az s.heap H locs) (hdg : decode cc pc = .ok (.return_, 1)) : W p l e R s m args below meth c H locs cells slots Q (F0 m pc ls []) := by
  subst hQ
  exact W.vret hexec hb hr (fun t ht hW => ⟨⟨(), rfl, trivial, by rw [ht]; exact hP, va_K.moved hW.alike hK, hD⟩, hS.F ht⟩) hS.2.2 hdg
/-! calls of reading methods -/
theorem sh_cSi {r : Int32} (S : CallFix p m c cc nL s args Ts own) (hM : Met l y wy rm (sh_Pr D tys wc As) (vp_Si (fun z => z = r)) 0 0 (fun _ => False)) (cw : CallB R s args own index y bytes maxL ret wy rm 0 0 n ∧ (Cond.static y).before args s = true) (hP : va_P D vwCl ws H) (hK : va_K D vwCl tys s) (isC : List Nat) (hC : isC.filterMap (fun i => ws[i]?) = wc)
    (hn : As.length = n) (hsz : ls.size = nL) (hst : st0 = As.reverse ++ rest) (hW : (rest.map fun v => v.category).sum ≤ 8) (hdg : decode cc pc = .ok (.invokestatic index, 3)) (hf : cells ≤ R.cells ∧ slots ≤ R.slots)
    (kk : W p l e R s m args below meth c H locs cells slots Q (F0 m (pc + 3) ls (.int r :: rest))) : W p l e R s m args below meth c H locs cells slots Q (F0 m pc ls st0) := by
  refine vp_callSi (W.runS (As := As) (rest := rest) S hM cw ⟨sh_blr, fun U hU hW => ⟨rfl, by rw [hU]; exact hP.sub isC hC, va_K.moved hW.alike hK⟩⟩ rfl hn hsz hst (lv_room hW) hdg hf) (fun z hz => ?_)
  subst hz
  exact kk
theorem sh_cSl {r : Int64} (S : CallFix p m c cc nL s args Ts own) (hM : Met l y wy rm (sh_Pr D tys wc As) (vp_Sl (fun z => z = r)) 0 0 (fun _ => False)) (cw : CallB R s args own index y bytes maxL ret wy rm 0 0 n ∧ (Cond.static y).before args s = true) (hP : va_P D vwCl ws H) (hK : va_K D vwCl tys s) (isC : List Nat) (hC : isC.filterMap (fun i => ws[i]?) = wc)
    (hn : As.length = n) (hsz : ls.size = nL) (hst : st0 = As.reverse ++ rest) (hW : (rest.map fun v => v.category).sum ≤ 8) (hdg : decode cc pc = .ok (.invokestatic index, 3)) (hf : cells ≤ R.cells ∧ slots ≤ R.slots)
    (kk : W p l e R s m args below meth c H locs cells slots Q (F0 m (pc + 3) ls (.long r :: rest))) : W p l e R s m args below meth c H locs cells slots Q (F0 m pc ls st0) := by
  refine vp_callSl (W.runS (As := As) (rest := rest) S hM cw ⟨sh_blr, fun U hU hW => ⟨rfl, by rw [hU]; exact hP.sub isC hC, va_K.moved hW.alike hK⟩⟩ rfl hn hsz hst (lv_room hW) hdg hf) (fun z hz => ?_)
  subst hz
  exact kk
theorem sh_cVi {r : Int32} (S : CallFix p m c cc nL s args Ts own) (hM : Met l y wy rm (sh_Pr D tys wc (.ref b :: As)) (vp_Si (fun z => z = r)) 0 0 (fun _ => False)) (cw : CallW R s args own C index y bytes maxL ret wy rm 0 0 n) (hP : va_P D vwCl ws H) (hK : va_K D vwCl tys s) (isC : List Nat) (hC : isC.filterMap (fun i => ws[i]?) = wc)
    (q0 : Nat) {ci : Nat} {fs : List Value} {T : u_T} {N : Nat} (he : ws[q0]? = some (b, .inr (ci, fs))) (hc : vwCl[ci]? = some (C, T, N))
    (hn : As.length = n) (hsz : ls.size = nL) (hst : st0 = As.reverse ++ .ref b :: rest) (hW : (rest.map fun v => v.category).sum ≤ 8) (hdg : decode cc pc = .ok (.invokevirtual index, 3)) (hf : cells ≤ R.cells ∧ slots ≤ R.slots)
    (kk : W p l e R s m args below meth c H locs cells slots Q (F0 m (pc + 3) ls (.int r :: rest))) : W p l e R s m args below meth c H locs cells slots Q (F0 m pc ls st0) := by
  refine vp_callSi (W.runV (As := As) (rest := rest) S hM cw ⟨sh_blr, va_recv hK hP hc he, fun U hU hW => ⟨rfl, by rw [hU]; exact hP.sub isC hC, va_K.moved hW.alike hK⟩⟩ rfl hn hsz hst (lv_room hW) hdg hf) (fun z hz => ?_)
  subst hz
  exact kk
theorem sh_cVl {r : Int64} (S : CallFix p m c cc nL s args Ts own) (hM : Met l y wy rm (sh_Pr D tys wc (.ref b :: As)) (vp_Sl (fun z => z = r)) 0 0 (fun _ => False)) (cw : CallW R s args own C index y bytes maxL ret wy rm 0 0 n) (hP : va_P D vwCl ws H) (hK : va_K D vwCl tys s) (isC : List Nat) (hC : isC.filterMap (fun i => ws[i]?) = wc)
    (q0 : Nat) {ci : Nat} {fs : List Value} {T : u_T} {N : Nat} (he : ws[q0]? = some (b, .inr (ci, fs))) (hc : vwCl[ci]? = some (C, T, N))
    (hn : As.length = n) (hsz : ls.size = nL) (hst : st0 = As.reverse ++ .ref b :: rest) (hW : (rest.map fun v => v.category).sum ≤ 8) (hdg : decode cc pc = .ok (.invokevirtual index, 3)) (hf : cells ≤ R.cells ∧ slots ≤ R.slots)
    (kk : W p l e R s m args below meth c H locs cells slots Q (F0 m (pc + 3) ls (.long r :: rest))) : W p l e R s m args below meth c H locs cells slots Q (F0 m pc ls st0) := by
  refine vp_callSl (W.runV (As := As) (rest := rest) S hM cw ⟨sh_blr, va_recv hK hP hc he, fun U hU hW => ⟨rfl, by rw [hU]; exact hP.sub isC hC, va_K.moved hW.alike hK⟩⟩ rfl hn hsz hst (lv_room hW) hdg hf) (fun z hz => ?_)
  subst hz
  exact kk
/-! calls of writing methods -/
theorem sh_after (hP : va_P D vwCl ws H) (hD : va_D Az ws) (isC isR isN : List Nat) (hC : isC.map (fun i => ws[i]?) = wc.map some) (hR : isR.map (fun i => ws[i]?) = (isR.filterMap (fun i => ws[i]?)).map some) (hnd : (va_nd isR && va_nd isN && isR.all (fun i => !isC.contains i)) = true) (hN : isN.map (fun i => (isR.filterMap (fun i => ws[i]?) ++ w1)[i]?) = wn.map some) (hN2 : isN.filterMap (fun i => (isR.filterMap (fun i => ws[i]?) ++ w1)[i]?) = wn)
    {H1 : Heap} (hk : ∀ q : Nat, q < H.size → ¬ va_A wc H.size q → H1[q]? = H[q]?) (hF : ∀ q, va_A wc H.size q → Az q) (hP1 : va_P D vwCl w1 H1) (hD1 : va_D (va_A wc H.size) w1) : va_P D vwCl wn H1 ∧ va_D Az wn := by
  simp only [Bool.and_eq_true] at hnd
  obtain ⟨⟨h1, h2⟩, h3⟩ := hnd
  obtain ⟨hP2, hD2⟩ := va_join hP hD isC isR hC hR h1 (fun i hi hc => by have h4 := List.all_eq_true.mp h3 i hi; simp [hc] at h4) hk hF hP1 hD1
  exact ⟨hP2.sub isN hN2, hD2.sub isN h2 hN⟩
theorem sh_wSi {r : Int32} (S : CallFix p m c cc nL s args Ts own) (hM : Met l y wy rm (sh_Pw D tys H.size wc As) (sh_Qi D tys (va_A wc H.size) w1 r) 0 0 (va_A wc H.size)) (cw : CallB R s args own index y bytes maxL ret wy rm 0 0 n ∧ (Cond.static y).before args s = true) (hP : va_P D vwCl ws H) (hK : va_K D vwCl tys s) (hD : va_D Az ws) (hS : va_S Az H0 H locs) (hA : ∀ q, H0.size ≤ q → Az q)
    (isC isR isN : List Nat) (hC : isC.map (fun i => ws[i]?) = wc.map some) (hC2 : isC.filterMap (fun i => ws[i]?) = wc) (hndC : va_nd isC = true) (hR : isR.map (fun i => ws[i]?) = (isR.filterMap (fun i => ws[i]?)).map some) (hnd : (va_nd isR && va_nd isN && isR.all (fun i => !isC.contains i)) = true) (hN : isN.map (fun i => (isR.filterMap (fun i => ws[i]?) ++ w1)[i]?) = wn.map some) (hN2 : isN.filterMap (fun i => (isR.filterMap (fun i => ws[i]?) ++ w1)[i]?) = wn)
    (hn : As.length = n) (hsz : ls.size = nL) (hst : st0 = As.reverse ++ rest) (hW : (rest.map fun v => v.category).sum ≤ 8) (hdg : decode cc pc = .ok (.invokestatic index, 3)) (hf : cells ≤ R.cells ∧ slots ≤ R.slots)
    (kk : ∀ (H1 : Heap) (locs1 : List Loc), va_P D vwCl wn H1 → va_D Az wn → va_S Az H0 H1 locs1 → W p l e R s m args below meth c H1 locs1 cells slots Q (F0 m (pc + 3) ls (.int r :: rest))) : W p l e R s m args below meth c H locs cells slots Q (F0 m pc ls st0) := by
  have hFc := va_free (wc := wc) hD hS hA isC hC
  have hDc := (hD.sub isC hndC hC).weaken (B := fun _ => True) (fun _ _ _ _ => trivial)
  refine va_calli (va_runS (As := As) (rest := rest) S hM cw ⟨sh_blw, fun U hU hW => ⟨rfl, by rw [hU], by rw [hU]; exact hP.sub isC hC2, va_K.moved hW.alike hK, hDc⟩⟩ rfl hn hsz hst (lv_room hW) hdg hf) hS (fun q _ h => hFc q h) hFc (fun z u t H1 locs1 ht hvm hw hB hz1 hk1 hS1 => ?_)
  subst hw
  obtain ⟨hP1, hK1, hD1⟩ := hB
  rw [ht] at hP1
  obtain ⟨hP2, hD2⟩ := sh_after hP hD isC isR isN hC hR hnd hN hN2 hk1 hFc hP1 hD1
  exact kk H1 locs1 hP2 hD2 hS1
theorem sh_wSv (S : CallFix p m c cc nL s args Ts own) (hM : Met l y wy rm (sh_Pw D tys H.size wc As) (sh_Qv D tys (va_A wc H.size) w1) 0 0 (va_A wc H.size)) (cw : CallB R s args own index y bytes maxL ret wy rm 0 0 n ∧ (Cond.static y).before args s = true) (hP : va_P D vwCl ws H) (hK : va_K D vwCl tys s) (hD : va_D Az ws) (hS : va_S Az H0 H locs) (hA : ∀ q, H0.size ≤ q → Az q)
    (isC isR isN : List Nat) (hC : isC.map (fun i => ws[i]?) = wc.map some) (hC2 : isC.filterMap (fun i => ws[i]?) = wc) (hndC : va_nd isC = true) (hR : isR.map (fun i => ws[i]?) = (isR.filterMap (fun i => ws[i]?)).map some) (hnd : (va_nd isR && va_nd isN && isR.all (fun i => !isC.contains i)) = true) (hN : isN.map (fun i => (isR.filterMap (fun i => ws[i]?) ++ w1)[i]?) = wn.map some) (hN2 : isN.filterMap (fun i => (isR.filterMap (fun i => ws[i]?) ++ w1)[i]?) = wn)
    (hn : As.length = n) (hsz : ls.size = nL) (hst : st0 = As.reverse ++ rest) (hW : (rest.map fun v => v.category).sum ≤ 8) (hdg : decode cc pc = .ok (.invokestatic index, 3)) (hf : cells ≤ R.cells ∧ slots ≤ R.slots)
    (kk : ∀ (H1 : Heap) (locs1 : List Loc), va_P D vwCl wn H1 → va_D Az wn → va_S Az H0 H1 locs1 → W p l e R s m args below meth c H1 locs1 cells slots Q (F0 m (pc + 3) ls rest)) : W p l e R s m args below meth c H locs cells slots Q (F0 m pc ls st0) := by
  have hFc := va_free (wc := wc) hD hS hA isC hC
  have hDc := (hD.sub isC hndC hC).weaken (B := fun _ => True) (fun _ _ _ _ => trivial)
  refine va_callv (va_runS (As := As) (rest := rest) S hM cw ⟨sh_blw, fun U hU hW => ⟨rfl, by rw [hU], by rw [hU]; exact hP.sub isC hC2, va_K.moved hW.alike hK, hDc⟩⟩ rfl hn hsz hst (lv_room hW) hdg hf) hS (fun q _ h => hFc q h) hFc (fun u t H1 locs1 ht hvm hw hB hz1 hk1 hS1 => ?_)
  obtain ⟨hP1, hK1, hD1⟩ := hB
  rw [ht] at hP1
  obtain ⟨hP2, hD2⟩ := sh_after hP hD isC isR isN hC hR hnd hN hN2 hk1 hFc hP1 hD1
  exact kk H1 locs1 hP2 hD2 hS1
theorem sh_wVi {r : Int32} (S : CallFix p m c cc nL s args Ts own) (hM : Met l y wy rm (sh_Pw D tys H.size wc (.ref b :: As)) (sh_Qi D tys (va_A wc H.size) w1 r) 0 0 (va_A wc H.size)) (cw : CallW R s args own C index y bytes maxL ret wy rm 0 0 n) (hP : va_P D vwCl ws H) (hK : va_K D vwCl tys s) (hD : va_D Az ws) (hS : va_S Az H0 H locs) (hA : ∀ q, H0.size ≤ q → Az q)
    (isC isR isN : List Nat) (hC : isC.map (fun i => ws[i]?) = wc.map some) (hC2 : isC.filterMap (fun i => ws[i]?) = wc) (hndC : va_nd isC = true) (hR : isR.map (fun i => ws[i]?) = (isR.filterMap (fun i => ws[i]?)).map some) (hnd : (va_nd isR && va_nd isN && isR.all (fun i => !isC.contains i)) = true) (hN : isN.map (fun i => (isR.filterMap (fun i => ws[i]?) ++ w1)[i]?) = wn.map some) (hN2 : isN.filterMap (fun i => (isR.filterMap (fun i => ws[i]?) ++ w1)[i]?) = wn)
    (q0 : Nat) {ci : Nat} {fs : List Value} {T : u_T} {N : Nat} (he : ws[q0]? = some (b, .inr (ci, fs))) (hc : vwCl[ci]? = some (C, T, N))
    (hn : As.length = n) (hsz : ls.size = nL) (hst : st0 = As.reverse ++ .ref b :: rest) (hW : (rest.map fun v => v.category).sum ≤ 8) (hdg : decode cc pc = .ok (.invokevirtual index, 3)) (hf : cells ≤ R.cells ∧ slots ≤ R.slots)
    (kk : ∀ (H1 : Heap) (locs1 : List Loc), va_P D vwCl wn H1 → va_D Az wn → va_S Az H0 H1 locs1 → W p l e R s m args below meth c H1 locs1 cells slots Q (F0 m (pc + 3) ls (.int r :: rest))) : W p l e R s m args below meth c H locs cells slots Q (F0 m pc ls st0) := by
  have hFc := va_free (wc := wc) hD hS hA isC hC
  have hDc := (hD.sub isC hndC hC).weaken (B := fun _ => True) (fun _ _ _ _ => trivial)
  refine va_calli (va_runV (As := As) (rest := rest) S hM cw ⟨sh_blw, va_recv hK hP hc he, fun U hU hW => ⟨rfl, by rw [hU], by rw [hU]; exact hP.sub isC hC2, va_K.moved hW.alike hK, hDc⟩⟩ rfl hn hsz hst (lv_room hW) hdg hf) hS (fun q _ h => hFc q h) hFc (fun z u t H1 locs1 ht hvm hw hB hz1 hk1 hS1 => ?_)
  subst hw
  obtain ⟨hP1, hK1, hD1⟩ := hB
  rw [ht] at hP1
  obtain ⟨hP2, hD2⟩ := sh_after hP hD isC isR isN hC hR hnd hN hN2 hk1 hFc hP1 hD1
  exact kk H1 locs1 hP2 hD2 hS1
theorem sh_wVl {r : Int64} (S : CallFix p m c cc nL s args Ts own) (hM : Met l y wy rm (sh_Pw D tys H.size wc (.ref b :: As)) (sh_Ql D tys (va_A wc H.size) w1 r) 0 0 (va_A wc H.size)) (cw : CallW R s args own C index y bytes maxL ret wy rm 0 0 n) (hP : va_P D vwCl ws H) (hK : va_K D vwCl tys s) (hD : va_D Az ws) (hS : va_S Az H0 H locs) (hA : ∀ q, H0.size ≤ q → Az q)
    (isC isR isN : List Nat) (hC : isC.map (fun i => ws[i]?) = wc.map some) (hC2 : isC.filterMap (fun i => ws[i]?) = wc) (hndC : va_nd isC = true) (hR : isR.map (fun i => ws[i]?) = (isR.filterMap (fun i => ws[i]?)).map some) (hnd : (va_nd isR && va_nd isN && isR.all (fun i => !isC.contains i)) = true) (hN : isN.map (fun i => (isR.filterMap (fun i => ws[i]?) ++ w1)[i]?) = wn.map some) (hN2 : isN.filterMap (fun i => (isR.filterMap (fun i => ws[i]?) ++ w1)[i]?) = wn)
    (q0 : Nat) {ci : Nat} {fs : List Value} {T : u_T} {N : Nat} (he : ws[q0]? = some (b, .inr (ci, fs))) (hc : vwCl[ci]? = some (C, T, N))
    (hn : As.length = n) (hsz : ls.size = nL) (hst : st0 = As.reverse ++ .ref b :: rest) (hW : (rest.map fun v => v.category).sum ≤ 8) (hdg : decode cc pc = .ok (.invokevirtual index, 3)) (hf : cells ≤ R.cells ∧ slots ≤ R.slots)
    (kk : ∀ (H1 : Heap) (locs1 : List Loc), va_P D vwCl wn H1 → va_D Az wn → va_S Az H0 H1 locs1 → W p l e R s m args below meth c H1 locs1 cells slots Q (F0 m (pc + 3) ls (.long r :: rest))) : W p l e R s m args below meth c H locs cells slots Q (F0 m pc ls st0) := by
  have hFc := va_free (wc := wc) hD hS hA isC hC
  have hDc := (hD.sub isC hndC hC).weaken (B := fun _ => True) (fun _ _ _ _ => trivial)
  refine va_calll (va_runV (As := As) (rest := rest) S hM cw ⟨sh_blw, va_recv hK hP hc he, fun U hU hW => ⟨rfl, by rw [hU], by rw [hU]; exact hP.sub isC hC2, va_K.moved hW.alike hK, hDc⟩⟩ rfl hn hsz hst (lv_room hW) hdg hf) hS (fun q _ h => hFc q h) hFc (fun z u t H1 locs1 ht hvm hw hB hz1 hk1 hS1 => ?_)
  subst hw
  obtain ⟨hP1, hK1, hD1⟩ := hB
  rw [ht] at hP1
  obtain ⟨hP2, hD2⟩ := sh_after hP hD isC isR isN hC hR hnd hN hN2 hk1 hFc hP1 hD1
  exact kk H1 locs1 hP2 hD2 hS1
theorem sh_wVv (S : CallFix p m c cc nL s args Ts own) (hM : Met l y wy rm (sh_Pw D tys H.size wc (.ref b :: As)) (sh_Qv D tys (va_A wc H.size) w1) 0 0 (va_A wc H.size)) (cw : CallW R s args own C index y bytes maxL ret wy rm 0 0 n) (hP : va_P D vwCl ws H) (hK : va_K D vwCl tys s) (hD : va_D Az ws) (hS : va_S Az H0 H locs) (hA : ∀ q, H0.size ≤ q → Az q)
    (isC isR isN : List Nat) (hC : isC.map (fun i => ws[i]?) = wc.map some) (hC2 : isC.filterMap (fun i => ws[i]?) = wc) (hndC : va_nd isC = true) (hR : isR.map (fun i => ws[i]?) = (isR.filterMap (fun i => ws[i]?)).map some) (hnd : (va_nd isR && va_nd isN && isR.all (fun i => !isC.contains i)) = true) (hN : isN.map (fun i => (isR.filterMap (fun i => ws[i]?) ++ w1)[i]?) = wn.map some) (hN2 : isN.filterMap (fun i => (isR.filterMap (fun i => ws[i]?) ++ w1)[i]?) = wn)
    (q0 : Nat) {ci : Nat} {fs : List Value} {T : u_T} {N : Nat} (he : ws[q0]? = some (b, .inr (ci, fs))) (hc : vwCl[ci]? = some (C, T, N))
    (hn : As.length = n) (hsz : ls.size = nL) (hst : st0 = As.reverse ++ .ref b :: rest) (hW : (rest.map fun v => v.category).sum ≤ 8) (hdg : decode cc pc = .ok (.invokevirtual index, 3)) (hf : cells ≤ R.cells ∧ slots ≤ R.slots)
    (kk : ∀ (H1 : Heap) (locs1 : List Loc), va_P D vwCl wn H1 → va_D Az wn → va_S Az H0 H1 locs1 → W p l e R s m args below meth c H1 locs1 cells slots Q (F0 m (pc + 3) ls rest)) : W p l e R s m args below meth c H locs cells slots Q (F0 m pc ls st0) := by
  have hFc := va_free (wc := wc) hD hS hA isC hC
  have hDc := (hD.sub isC hndC hC).weaken (B := fun _ => True) (fun _ _ _ _ => trivial)
  refine va_callv (va_runV (As := As) (rest := rest) S hM cw ⟨sh_blw, va_recv hK hP hc he, fun U hU hW => ⟨rfl, by rw [hU], by rw [hU]; exact hP.sub isC hC2, va_K.moved hW.alike hK, hDc⟩⟩ rfl hn hsz hst (lv_room hW) hdg hf) hS (fun q _ h => hFc q h) hFc (fun u t H1 locs1 ht hvm hw hB hz1 hk1 hS1 => ?_)
  obtain ⟨hP1, hK1, hD1⟩ := hB
  rw [ht] at hP1
  obtain ⟨hP2, hD2⟩ := sh_after hP hD isC isR isN hC hR hnd hN hN2 hk1 hFc hP1 hD1
  exact kk H1 locs1 hP2 hD2 hS1
theorem sh_put (hexec : p.tables.exec = Jvm.exec) (hb : c.code = cc) {own ref C : String} {T : u_T} {N ci index : Nat} {Ts : List Cond} (hts : ∀ w ∈ Ts, w.before args s = true) (hin : ∀ w ∈ u_ws C T N, w ∈ Ts) (ty0 : Nat → FieldType) (hty : ∀ k, k < N → parseFieldDescriptor (T k).2.2.1 = some (ty0 k)) (hnm : ∀ a, a < N → ∀ b, b < N → a ≠ b → (T a).2.1 ≠ (T b).2.1) (hown : s.vm.findClass own = some m.cls) (hK : va_K D cl tys s) (hP : va_P D cl ws H) (hD : va_D Az ws) (hS0 : va_S Az H0 H locs) (q0 : Nat) {fs : List Value} (he : ws[q0]? = some (a, .inr (ci, fs))) (hc : cl[ci]? = some (C, T, N)) (k : Nat) (hk : k < N) (hlink : (Cond.fieldLink own index ref (T k).2.1 (T k).2.2.1).before args s = true) (hsame : ∀ x, s.fieldFound? (T k).1 (T k).2.1 (T k).2.2.1 = some x → s.fieldFound? ref (T k).2.1 (T k).2.2.1 = some x) (hfin : (T k).2.2.2 = false) {ty : FieldType} {v : Value} (hd : parseFieldDescriptor (T k).2.2.1 = some ty) (hn : narrow ty v = v) (hfit : fits ty v = true) (hl : k < fs.length) (hw : ws.set q0 (a, .inr (ci, fs.set k v)) = wn)
    (hdg : decode cc pc = .ok (.putfield index, 3)) (kk : ∀ (H1 : Heap) (locs1 : List Loc), va_P D cl wn H1 → va_D Az wn → va_S Az H0 H1 locs1 → W p l e R s m args below meth c H1 locs1 cells slots Q (F0 m (pc + 3) ls rest)) : W p l e R s m args below meth c H locs cells slots Q (F0 m pc ls (v :: .ref a :: rest)) := by
  subst hw
  exact va_put hexec hb hts hin ty0 hty hnm hown hK hP hD hS0 q0 he hc k hk hlink hsame hfin hd hn hfit hl hdg kk
theorem sh_copyl (hexec : p.tables.exec = Jvm.exec) (hb : c.code = cc) (hml : c.maxLocals = ls.size) {own : String} {index : Nat} (hown : s.vm.findClass own = some m.cls) (hlink : (Cond.methodLink own index arraycopyName).before args s = true) (hnat : (Cond.native arraycopyName).before args s = true) (hstat : (Cond.static arraycopyName).before args s = true) (hini : (Cond.initialized "java/lang/System").before args s = true)
    (hK : va_K D cl tys s) (hP : va_P D cl ws H) (hD : va_D Az ws) (hS : va_S Az H0 H locs) (q0 q1 t0 : Nat) {a0 : Nat} {c0 : ClassId} {n0 n1 : Nat} {f g f1 : Nat → Int64} (ha0 : ws[q0]? = some (a0, .inl (c0, n0, .inr (.inl f)))) (ha1 : ws[q1]? = some (a, .inl (c0, n1, .inr (.inl g)))) (ht0 : tys[t0]? = some (c0, .long))
    {sp dp n : Int32} (h0 : (¬ sp < 0 ∧ ¬ dp < 0 ∧ ¬ n < 0 ∧ sp.toNatClampNeg + n.toNatClampNeg ≤ n0 ∧ dp.toNatClampNeg + n.toNatClampNeg ≤ n1) ∧ va_cpy f g sp.toNatClampNeg dp.toNatClampNeg n.toNatClampNeg = f1) (hw : ws.set q1 (a, .inl (c0, n1, .inr (.inl f1))) = wn)
    (hframes : 1 ≤ R.frames) (hlocals : (rest.map fun v => v.category).sum + (nativeFrameWords "java/lang/System" "arraycopy" 5 + 11) ≤ R.locals) (hdg : decode cc pc = .ok (.invokestatic index, 3))
    (kk : ∀ (H1 : Heap) (locs1 : List Loc), va_P D cl wn H1 → va_D Az wn → va_S Az H0 H1 locs1 → W p l e R s m args below meth c H1 locs1 cells slots Q (F0 m (pc + 3) ls rest)) : W p l e R s m args below meth c H locs cells slots Q (F0 m pc ls (.int n :: .int dp :: .ref a :: .int sp :: .ref a0 :: rest)) := by
  obtain ⟨⟨h1, h2, h3, h4, h5⟩, rfl⟩ := h0
  subst hw
  exact va_copyl hexec hb hml hown hlink hnat hstat hini hK hP hD hS q0 q1 t0 t0 ha0 ha1 ht0 ht0 rfl h1 h2 h3 h4 h5 (fun _ _ => rfl) hframes hlocals hdg kk
/-! calls of reading methods that ask for a word of the nest -/
theorem sh_cVin {r : Int32} {na : String} {ni : Nat} {nx : MethodName} {nh : String} (S : CallFix p m c cc nL s args Ts own) (hM : Met l y wy rm (sh_Pn (.methodLinkNest na ni nx nh) (sh_Pr D tys wc (.ref b :: As))) (vp_Si (fun z => z = r)) 0 0 (fun _ => False)) (cw : CallW R s args own C index y bytes maxL ret wy rm 0 0 n) (hnw : va_Nw (.methodLinkNest na ni nx nh) s) (hP : va_P D vwCl ws H) (hK : va_K D vwCl tys s) (isC : List Nat) (hC : isC.filterMap (fun i => ws[i]?) = wc)
    (q0 : Nat) {ci : Nat} {fs : List Value} {T : u_T} {N : Nat} (he : ws[q0]? = some (b, .inr (ci, fs))) (hc : vwCl[ci]? = some (C, T, N))
    (hn : As.length = n) (hsz : ls.size = nL) (hst : st0 = As.reverse ++ .ref b :: rest) (hW : (rest.map fun v => v.category).sum ≤ 8) (hdg : decode cc pc = .ok (.invokevirtual index, 3)) (hf : cells ≤ R.cells ∧ slots ≤ R.slots)
    (kk : W p l e R s m args below meth c H locs cells slots Q (F0 m (pc + 3) ls (.int r :: rest))) : W p l e R s m args below meth c H locs cells slots Q (F0 m pc ls st0) := by
  refine vp_callSi (W.runV (As := As) (rest := rest) S hM cw ⟨sh_bln rfl sh_blr, va_recv hK hP hc he, fun U hU hW => ⟨⟨rfl, by rw [hU]; exact hP.sub isC hC, va_K.moved hW.alike hK⟩, va_Nw.warmM hW hnw⟩⟩ rfl hn hsz hst (lv_room hW) hdg hf) (fun z hz => ?_)
  subst hz
  exact kk
/-- a private static of the nest's host -/
theorem sh_cSNi {r : Int32} {host : String} (S : CallFix p m c cc nL s args Ts own) (hM : Met l y wy rm (sh_Pr D tys wc As) (vp_Si (fun z => z = r)) 0 0 (fun _ => False)) (cw : va_CN R s args own index y host bytes maxL ret wy rm 0 0 n ∧ (Cond.static y).before args s = true ∧ True) (hP : va_P D vwCl ws H) (hK : va_K D vwCl tys s) (isC : List Nat) (hC : isC.filterMap (fun i => ws[i]?) = wc)
    (hn : As.length = n) (hsz : ls.size = nL) (hst : st0 = As.reverse ++ rest) (hW : (rest.map fun v => v.category).sum ≤ 8) (hdg : decode cc pc = .ok (.invokestatic index, 3)) (hf : cells ≤ R.cells ∧ slots ≤ R.slots)
    (kk : W p l e R s m args below meth c H locs cells slots Q (F0 m (pc + 3) ls (.int r :: rest))) : W p l e R s m args below meth c H locs cells slots Q (F0 m pc ls st0) := by
  refine vp_callSi (va_Run.run (va_runSN (As := As) (rest := rest) S hM cw ⟨sh_blr, fun U hU hW => ⟨rfl, by rw [hU]; exact hP.sub isC hC, va_K.moved hW.alike hK⟩⟩ rfl hn hsz hst (lv_room hW) hdg hf)) (fun z hz => ?_)
  subst hz
  exact kk
end SH
end
