/-! ===== BEGIN words of one list among another's, by their places ===== -/
theorem goodIn_r {big : List Cond} (ws : List Cond) (ps : List Nat) (hp : ws = ps.filterMap (fun i => big[i]?)) (h : ws.all goodWord = true) : GoodIn big ws := by
  intro w hw
  have h1 := List.all_eq_true.mp h w hw
  rw [hp] at hw
  obtain ⟨i, -, hi⟩ := List.mem_filterMap.mp hw
  have hm : w ∈ big := by first | exact List.mem_of_getElem? hi | exact List.getElem?_mem hi
  exact ⟨hm, good_of_word h1⟩
theorem goodIn_app {big a b : List Cond} (ha : GoodIn big a) (hb : GoodIn big b) : GoodIn big (a ++ b) := fun w h => (List.mem_append.mp h).elim (ha w) (hb w)
theorem goodIn_ca {big a b : List Cond} {c : Cond} (ha : GoodIn big (c :: a)) (hb : GoodIn big b) : GoodIn big (c :: (a ++ b)) := fun w h => (List.mem_cons.mp h).elim (fun e => ha w (List.mem_cons.mpr (Or.inl e))) (fun h => (List.mem_append.mp h).elim (fun h => ha w (List.mem_cons.mpr (Or.inr h))) (hb w))
theorem goodIn_sub {big ws : List Cond} (hm : ∀ w ∈ ws, w ∈ big) (h : ws.all goodWord = true) : GoodIn big ws := fun w hw => ⟨hm w hw, good_of_word (List.all_eq_true.mp h w hw)⟩
/-! ===== END ===== -/

/-! ===== BEGIN printed: names, fields, word lists, decode rows ===== -/
def RX0 : String := "ShadeTree$Doings"
def TX0 : u_T := fun k => match k with
  | 0 => ("ShadeTree$Doings", "before", "[J", true)
  | _ => ("ShadeTree$Doings", "size", "I", false)
def tyX0 : Nat → FieldType := fun k => match k with
  | 0 => .array .long
  | _ => .int
abbrev wsX00 : List Cond := u_ws RX0 TX0 2
theorem nmX0 : ∀ a, a < 2 → ∀ b, b < 2 → a ≠ b → (TX0 a).2.1 ≠ (TX0 b).2.1 := by decide +kernel
theorem tyX0_ok : ∀ k, k < 2 → parseFieldDescriptor (TX0 k).2.2.1 = some (tyX0 k) := by decide +kernel
abbrev cX0_init : ByteArray := prog_2_method_1_code
def yX0_init : MethodName := ⟨RX0, "<init>", "()V"⟩
abbrev cX0_size : ByteArray := prog_2_method_2_code
def yX0_size : MethodName := ⟨RX0, "size", "()I"⟩
abbrev cX0_clear : ByteArray := prog_2_method_3_code
def yX0_clear : MethodName := ⟨RX0, "clear", "()V"⟩
abbrev cX0_add : ByteArray := prog_2_method_4_code
def yX0_add : MethodName := ⟨RX0, "add", "(LShadeTree$Shades;)V"⟩
abbrev cX0_takeBack : ByteArray := prog_2_method_5_code
def yX0_takeBack : MethodName := ⟨RX0, "takeBack", "(LShadeTree$Shades;)Z"⟩
def RX1 : String := "ShadeTree$Grid"
def TX1 : u_T := fun k => match k with
  | 0 => ("ShadeTree$Grid", "way", "I", false)
  | 1 => ("ShadeTree$Grid", "wide", "I", false)
  | 2 => ("ShadeTree$Grid", "high", "I", false)
  | 3 => ("ShadeTree$Grid", "all", "J", false)
  | 4 => ("ShadeTree$Grid", "leftmost", "J", false)
  | _ => ("ShadeTree$Grid", "rightmost", "J", false)
def tyX1 : Nat → FieldType := fun k => match k with
  | 0 => .int
  | 1 => .int
  | 2 => .int
  | 3 => .long
  | 4 => .long
  | _ => .long
abbrev wsX10 : List Cond := u_ws RX1 TX1 6
theorem nmX1 : ∀ a, a < 6 → ∀ b, b < 6 → a ≠ b → (TX1 a).2.1 ≠ (TX1 b).2.1 := by decide +kernel
theorem tyX1_ok : ∀ k, k < 6 → parseFieldDescriptor (TX1 k).2.2.1 = some (tyX1 k) := by decide +kernel
abbrev cX1_init : ByteArray := prog_3_method_1_code
def yX1_init : MethodName := ⟨RX1, "<init>", "()V"⟩
abbrev cX1_lay : ByteArray := prog_3_method_2_code
def yX1_lay : MethodName := ⟨RX1, "lay", "(III)V"⟩
abbrev cX1_way : ByteArray := prog_3_method_3_code
def yX1_way : MethodName := ⟨RX1, "way", "()I"⟩
abbrev cX1_wide : ByteArray := prog_3_method_4_code
def yX1_wide : MethodName := ⟨RX1, "wide", "()I"⟩
abbrev cX1_high : ByteArray := prog_3_method_5_code
def yX1_high : MethodName := ⟨RX1, "high", "()I"⟩
abbrev cX1_size : ByteArray := prog_3_method_6_code
def yX1_size : MethodName := ⟨RX1, "size", "()I"⟩
abbrev cX1_all : ByteArray := prog_3_method_7_code
def yX1_all : MethodName := ⟨RX1, "all", "()J"⟩
abbrev cX1_hasDot : ByteArray := prog_3_method_8_code
def yX1_hasDot : MethodName := ⟨RX1, "hasDot", "(I)Z"⟩
abbrev cX1_hasRow : ByteArray := prog_3_method_9_code
def yX1_hasRow : MethodName := ⟨RX1, "hasRow", "(I)Z"⟩
abbrev cX1_row : ByteArray := prog_3_method_10_code
def yX1_row : MethodName := ⟨RX1, "row", "(I)J"⟩
abbrev cX1_rows : ByteArray := prog_3_method_11_code
def yX1_rows : MethodName := ⟨RX1, "rows", "(I)J"⟩
abbrev cX1_columnsOf : ByteArray := prog_3_method_12_code
def yX1_columnsOf : MethodName := ⟨RX1, "columnsOf", "(J)I"⟩
abbrev cX1_rowsOf : ByteArray := prog_3_method_13_code
def yX1_rowsOf : MethodName := ⟨RX1, "rowsOf", "(J)I"⟩
abbrev cX1_partAround : ByteArray := prog_3_method_14_code
def yX1_partAround : MethodName := ⟨RX1, "partAround", "(JJI)J"⟩
abbrev cX1_spread : ByteArray := prog_3_method_15_code
def yX1_spread : MethodName := ⟨RX1, "spread", "(JI)J"⟩
abbrev cX1_joined : ByteArray := prog_3_method_16_code
def yX1_joined : MethodName := ⟨RX1, "joined", "(JIII)Z"⟩
abbrev cX1_countParts : ByteArray := prog_3_method_17_code
def yX1_countParts : MethodName := ⟨RX1, "countParts", "(JI)I"⟩
def RX2 : String := "ShadeTree$Shades"
def TX2 : u_T := fun k => match k with
  | 0 => ("ShadeTree$Shades", "grid", "LShadeTree$Grid;", true)
  | _ => ("ShadeTree$Shades", "layers", "[J", true)
def tyX2 : Nat → FieldType := fun k => match k with
  | 0 => .object "ShadeTree$Grid"
  | _ => .array .long
abbrev wsX20 : List Cond := u_ws RX2 TX2 2
theorem nmX2 : ∀ a, a < 2 → ∀ b, b < 2 → a ≠ b → (TX2 a).2.1 ≠ (TX2 b).2.1 := by decide +kernel
theorem tyX2_ok : ∀ k, k < 2 → parseFieldDescriptor (TX2 k).2.2.1 = some (tyX2 k) := by decide +kernel
abbrev cX2_init : ByteArray := prog_4_method_1_code
def yX2_init : MethodName := ⟨RX2, "<init>", "(LShadeTree$Grid;)V"⟩
abbrev cX2_darken : ByteArray := prog_4_method_2_code
def yX2_darken : MethodName := ⟨RX2, "darken", "()V"⟩
abbrev cX2_atLeast : ByteArray := prog_4_method_3_code
def yX2_atLeast : MethodName := ⟨RX2, "atLeast", "(I)J"⟩
abbrev cX2_of : ByteArray := prog_4_method_4_code
def yX2_of : MethodName := ⟨RX2, "of", "(I)I"⟩
abbrev cX2_light : ByteArray := prog_4_method_5_code
def yX2_light : MethodName := ⟨RX2, "light", "(J)I"⟩
abbrev cX2_brightest : ByteArray := prog_4_method_6_code
def yX2_brightest : MethodName := ⟨RX2, "brightest", "(J)I"⟩
abbrev cX2_set : ByteArray := prog_4_method_7_code
def yX2_set : MethodName := ⟨RX2, "set", "(II)V"⟩
abbrev cX2_turn : ByteArray := prog_4_method_8_code
def yX2_turn : MethodName := ⟨RX2, "turn", "()V"⟩
abbrev cX2_put : ByteArray := prog_4_method_9_code
def yX2_put : MethodName := ⟨RX2, "put", "(IJ)V"⟩
abbrev cX2_thin : ByteArray := prog_4_method_10_code
def yX2_thin : MethodName := ⟨RX2, "thin", "(II)I"⟩
abbrev cX2_bigParts : ByteArray := prog_4_method_11_code
def yX2_bigParts : MethodName := ⟨RX2, "bigParts", "(JII)J"⟩
abbrev cX2_isBig : ByteArray := prog_4_method_12_code
def yX2_isBig : MethodName := ⟨RX2, "isBig", "(JII)Z"⟩
abbrev cX2_copy : ByteArray := prog_4_method_13_code
def yX2_copy : MethodName := ⟨RX2, "copy", "(LShadeTree$Shades;)V"⟩
abbrev cX2_store : ByteArray := prog_4_method_14_code
def yX2_store : MethodName := ⟨RX2, "store", "([JI)V"⟩
abbrev cX2_load : ByteArray := prog_4_method_15_code
def yX2_load : MethodName := ⟨RX2, "load", "([JI)V"⟩
def RX3 : String := "ShadeTree$Sights"
def TX3 : u_T := fun k => match k with
  | 0 => ("ShadeTree$Sights", "ones", "[I", true)
  | 1 => ("ShadeTree$Sights", "others", "[I", true)
  | 2 => ("ShadeTree$Sights", "joined", "[Z", true)
  | _ => ("ShadeTree$Sights", "size", "I", false)
def tyX3 : Nat → FieldType := fun k => match k with
  | 0 => .array .int
  | 1 => .array .int
  | 2 => .array .boolean
  | _ => .int
abbrev wsX30 : List Cond := u_ws RX3 TX3 4
theorem nmX3 : ∀ a, a < 4 → ∀ b, b < 4 → a ≠ b → (TX3 a).2.1 ≠ (TX3 b).2.1 := by decide +kernel
theorem tyX3_ok : ∀ k, k < 4 → parseFieldDescriptor (TX3 k).2.2.1 = some (tyX3 k) := by decide +kernel
abbrev cX3_init : ByteArray := prog_5_method_1_code
def yX3_init : MethodName := ⟨RX3, "<init>", "()V"⟩
abbrev cX3_size : ByteArray := prog_5_method_2_code
def yX3_size : MethodName := ⟨RX3, "size", "()I"⟩
abbrev cX3_clear : ByteArray := prog_5_method_3_code
def yX3_clear : MethodName := ⟨RX3, "clear", "()V"⟩
abbrev cX3_add : ByteArray := prog_5_method_4_code
def yX3_add : MethodName := ⟨RX3, "add", "(IIZ)Z"⟩
abbrev cX3_hold : ByteArray := prog_5_method_5_code
def yX3_hold : MethodName := ⟨RX3, "hold", "(LShadeTree$Grid;JI)Z"⟩
def RX4 : String := "ShadeTree$Slots"
def TX4 : u_T := fun k => match k with
  | 0 => ("ShadeTree$Slots", "kept", "[J", true)
  | _ => ("ShadeTree$Slots", "used", "[Z", true)
def tyX4 : Nat → FieldType := fun k => match k with
  | 0 => .array .long
  | _ => .array .boolean
abbrev wsX40 : List Cond := u_ws RX4 TX4 2
theorem nmX4 : ∀ a, a < 2 → ∀ b, b < 2 → a ≠ b → (TX4 a).2.1 ≠ (TX4 b).2.1 := by decide +kernel
theorem tyX4_ok : ∀ k, k < 2 → parseFieldDescriptor (TX4 k).2.2.1 = some (tyX4 k) := by decide +kernel
abbrev cX4_init : ByteArray := prog_6_method_1_code
def yX4_init : MethodName := ⟨RX4, "<init>", "()V"⟩
abbrev cX4_clear : ByteArray := prog_6_method_2_code
def yX4_clear : MethodName := ⟨RX4, "clear", "()V"⟩
abbrev cX4_has : ByteArray := prog_6_method_3_code
def yX4_has : MethodName := ⟨RX4, "has", "(I)Z"⟩
abbrev cX4_put : ByteArray := prog_6_method_4_code
def yX4_put : MethodName := ⟨RX4, "put", "(ILShadeTree$Shades;)Z"⟩
abbrev cX4_bringBack : ByteArray := prog_6_method_5_code
def yX4_bringBack : MethodName := ⟨RX4, "bringBack", "(ILShadeTree$Shades;)Z"⟩
def RX5 : String := "ShadeTree$Text"
def TX5 : u_T := fun k => match k with
  | 0 => ("ShadeTree$Text", "letters", "[I", true)
  | _ => ("ShadeTree$Text", "size", "I", false)
def tyX5 : Nat → FieldType := fun k => match k with
  | 0 => .array .int
  | _ => .int
abbrev wsX50 : List Cond := u_ws RX5 TX5 2
theorem nmX5 : ∀ a, a < 2 → ∀ b, b < 2 → a ≠ b → (TX5 a).2.1 ≠ (TX5 b).2.1 := by decide +kernel
theorem tyX5_ok : ∀ k, k < 2 → parseFieldDescriptor (TX5 k).2.2.1 = some (tyX5 k) := by decide +kernel
abbrev cX5_init : ByteArray := prog_7_method_1_code
def yX5_init : MethodName := ⟨RX5, "<init>", "()V"⟩
abbrev cX5_size : ByteArray := prog_7_method_2_code
def yX5_size : MethodName := ⟨RX5, "size", "()I"⟩
abbrev cX5_clear : ByteArray := prog_7_method_3_code
def yX5_clear : MethodName := ⟨RX5, "clear", "()V"⟩
abbrev cX5_add : ByteArray := prog_7_method_4_code
def yX5_add : MethodName := ⟨RX5, "add", "(I)Z"⟩
abbrev cX5_figure : ByteArray := prog_7_method_5_code
def yX5_figure : MethodName := ⟨RX5, "figure", "(I)I"⟩
abbrev cX5_firstFault : ByteArray := prog_7_method_6_code
def yX5_firstFault : MethodName := ⟨RX5, "firstFault", "()I"⟩
abbrev cX5_fits : ByteArray := prog_7_method_7_code
def yX5_fits : MethodName := ⟨RX5, "fits", "(I)Z"⟩
abbrev cX5_wholeSize : ByteArray := prog_7_method_8_code
def yX5_wholeSize : MethodName := ⟨RX5, "wholeSize", "()I"⟩
def RX6 : String := "ShadeTree$Tree"
def TX6 : u_T := fun k => match k with
  | 0 => ("ShadeTree$Tree", "grid", "LShadeTree$Grid;", true)
  | 1 => ("ShadeTree$Tree", "shades", "LShadeTree$Shades;", true)
  | 2 => ("ShadeTree$Tree", "nodeParts", "[J", true)
  | 3 => ("ShadeTree$Tree", "nodeLevels", "[I", true)
  | _ => ("ShadeTree$Tree", "size", "I", false)
def tyX6 : Nat → FieldType := fun k => match k with
  | 0 => .object "ShadeTree$Grid"
  | 1 => .object "ShadeTree$Shades"
  | 2 => .array .long
  | 3 => .array .int
  | _ => .int
abbrev wsX60 : List Cond := u_ws RX6 TX6 5
theorem nmX6 : ∀ a, a < 5 → ∀ b, b < 5 → a ≠ b → (TX6 a).2.1 ≠ (TX6 b).2.1 := by decide +kernel
theorem tyX6_ok : ∀ k, k < 5 → parseFieldDescriptor (TX6 k).2.2.1 = some (tyX6 k) := by decide +kernel
abbrev cX6_init : ByteArray := prog_8_method_1_code
def yX6_init : MethodName := ⟨RX6, "<init>", "(LShadeTree$Grid;LShadeTree$Shades;)V"⟩
abbrev cX6_partAt : ByteArray := prog_8_method_2_code
def yX6_partAt : MethodName := ⟨RX6, "partAt", "(IJ)J"⟩
abbrev cX6_ofLevel : ByteArray := prog_8_method_3_code
def yX6_ofLevel : MethodName := ⟨RX6, "ofLevel", "(I)J"⟩
abbrev cX6_nodeOf : ByteArray := prog_8_method_4_code
def yX6_nodeOf : MethodName := ⟨RX6, "nodeOf", "(I)J"⟩
abbrev cX6_head : ByteArray := prog_8_method_5_code
def yX6_head : MethodName := ⟨RX6, "head", "(JI)I"⟩
abbrev cX6_parentLevel : ByteArray := prog_8_method_6_code
def yX6_parentLevel : MethodName := ⟨RX6, "parentLevel", "(JI)I"⟩
abbrev cX6_parentHead : ByteArray := prog_8_method_7_code
def yX6_parentHead : MethodName := ⟨RX6, "parentHead", "(JI)I"⟩
abbrev cX6_countChildren : ByteArray := prog_8_method_8_code
def yX6_countChildren : MethodName := ⟨RX6, "countChildren", "(JI)I"⟩
abbrev cX6_depth : ByteArray := prog_8_method_9_code
def yX6_depth : MethodName := ⟨RX6, "depth", "(JI)I"⟩
abbrev cX6_rise : ByteArray := prog_8_method_10_code
def yX6_rise : MethodName := ⟨RX6, "rise", "(JI)I"⟩
abbrev cX6_gain : ByteArray := prog_8_method_11_code
def yX6_gain : MethodName := ⟨RX6, "gain", "(JII)I"⟩
abbrev cX6_isSteady : ByteArray := prog_8_method_12_code
def yX6_isSteady : MethodName := ⟨RX6, "isSteady", "(JII)Z"⟩
abbrev cX6_darkest : ByteArray := prog_8_method_13_code
def yX6_darkest : MethodName := ⟨RX6, "darkest", "(J)I"⟩
abbrev cX6_countNodes : ByteArray := prog_8_method_14_code
def yX6_countNodes : MethodName := ⟨RX6, "countNodes", "()I"⟩
abbrev cX6_countLeaves : ByteArray := prog_8_method_15_code
def yX6_countLeaves : MethodName := ⟨RX6, "countLeaves", "()I"⟩
abbrev cX6_greatestDepth : ByteArray := prog_8_method_16_code
def yX6_greatestDepth : MethodName := ⟨RX6, "greatestDepth", "()I"⟩
abbrev cX6_gather : ByteArray := prog_8_method_17_code
def yX6_gather : MethodName := ⟨RX6, "gather", "()V"⟩
def RX7 : String := "ShadeTree"
def TX7 : u_T := fun k => match k with
  | 0 => ("ShadeTree", "text", "LShadeTree$Text;", true)
  | 1 => ("ShadeTree", "grid", "LShadeTree$Grid;", true)
  | 2 => ("ShadeTree", "now", "LShadeTree$Shades;", true)
  | 3 => ("ShadeTree", "tree", "LShadeTree$Tree;", true)
  | 4 => ("ShadeTree", "trial", "LShadeTree$Shades;", true)
  | 5 => ("ShadeTree", "trialTree", "LShadeTree$Tree;", true)
  | 6 => ("ShadeTree", "doings", "LShadeTree$Doings;", true)
  | 7 => ("ShadeTree", "slots", "LShadeTree$Slots;", true)
  | 8 => ("ShadeTree", "sights", "LShadeTree$Sights;", true)
  | _ => ("ShadeTree", "seedNow", "J", false)
def tyX7 : Nat → FieldType := fun k => match k with
  | 0 => .object "ShadeTree$Text"
  | 1 => .object "ShadeTree$Grid"
  | 2 => .object "ShadeTree$Shades"
  | 3 => .object "ShadeTree$Tree"
  | 4 => .object "ShadeTree$Shades"
  | 5 => .object "ShadeTree$Tree"
  | 6 => .object "ShadeTree$Doings"
  | 7 => .object "ShadeTree$Slots"
  | 8 => .object "ShadeTree$Sights"
  | _ => .long
abbrev wsX70 : List Cond := u_ws RX7 TX7 10
theorem nmX7 : ∀ a, a < 10 → ∀ b, b < 10 → a ≠ b → (TX7 a).2.1 ≠ (TX7 b).2.1 := by decide +kernel
theorem tyX7_ok : ∀ k, k < 10 → parseFieldDescriptor (TX7 k).2.2.1 = some (tyX7 k) := by decide +kernel
abbrev cX7_init : ByteArray := prog_1_method_1_code
def yX7_init : MethodName := ⟨RX7, "<init>", "()V"⟩
abbrev cX7_write : ByteArray := prog_1_method_2_code
def yX7_write : MethodName := ⟨RX7, "write", "(I)I"⟩
abbrev cX7_wipe : ByteArray := prog_1_method_3_code
def yX7_wipe : MethodName := ⟨RX7, "wipe", "()I"⟩
abbrev cX7_fault : ByteArray := prog_1_method_4_code
def yX7_fault : MethodName := ⟨RX7, "fault", "()I"⟩
abbrev cX7_picture : ByteArray := prog_1_method_5_code
def yX7_picture : MethodName := ⟨RX7, "picture", "()I"⟩
abbrev cX7_about : ByteArray := prog_1_method_6_code
def yX7_about : MethodName := ⟨RX7, "about", "(I)I"⟩
abbrev cX7_shade : ByteArray := prog_1_method_7_code
def yX7_shade : MethodName := ⟨RX7, "shade", "(I)I"⟩
abbrev cX7_node : ByteArray := prog_1_method_8_code
def yX7_node : MethodName := ⟨RX7, "node", "(II)I"⟩
abbrev cX7_dots : ByteArray := prog_1_method_9_code
def yX7_dots : MethodName := ⟨RX7, "dots", "(I)J"⟩
abbrev cX7_parts : ByteArray := prog_1_method_10_code
def yX7_parts : MethodName := ⟨RX7, "parts", "(I)I"⟩
abbrev cX7_paint : ByteArray := prog_1_method_11_code
def yX7_paint : MethodName := ⟨RX7, "paint", "(II)I"⟩
abbrev cX7_negative : ByteArray := prog_1_method_12_code
def yX7_negative : MethodName := ⟨RX7, "negative", "()I"⟩
abbrev cX7_sift : ByteArray := prog_1_method_13_code
def yX7_sift : MethodName := ⟨RX7, "sift", "(II)I"⟩
abbrev cX7_undo : ByteArray := prog_1_method_14_code
def yX7_undo : MethodName := ⟨RX7, "undo", "()I"⟩
abbrev cX7_pass : ByteArray := prog_1_method_15_code
def yX7_pass : MethodName := ⟨RX7, "pass", "(II)I"⟩
abbrev cX7_grows : ByteArray := prog_1_method_16_code
def yX7_grows : MethodName := ⟨RX7, "grows", "(IIZ)I"⟩
abbrev cX7_steady : ByteArray := prog_1_method_17_code
def yX7_steady : MethodName := ⟨RX7, "steady", "(II)I"⟩
abbrev cX7_judge : ByteArray := prog_1_method_18_code
def yX7_judge : MethodName := ⟨RX7, "judge", "(IJ)I"⟩
abbrev cX7_share : ByteArray := prog_1_method_19_code
def yX7_share : MethodName := ⟨RX7, "share", "(IIZ)I"⟩
abbrev cX7_see : ByteArray := prog_1_method_20_code
def yX7_see : MethodName := ⟨RX7, "see", "(III)I"⟩
abbrev cX7_unsee : ByteArray := prog_1_method_21_code
def yX7_unsee : MethodName := ⟨RX7, "unsee", "()I"⟩
abbrev cX7_ways : ByteArray := prog_1_method_22_code
def yX7_ways : MethodName := ⟨RX7, "ways", "(I)I"⟩
abbrev cX7_fades : ByteArray := prog_1_method_23_code
def yX7_fades : MethodName := ⟨RX7, "fades", "(IIIIZ)I"⟩
abbrev cX7_seed : ByteArray := prog_1_method_24_code
def yX7_seed : MethodName := ⟨RX7, "seed", "(J)J"⟩
abbrev cX7_drawn : ByteArray := prog_1_method_25_code
def yX7_drawn : MethodName := ⟨RX7, "drawn", "(I)I"⟩
abbrev cX7_keep : ByteArray := prog_1_method_26_code
def yX7_keep : MethodName := ⟨RX7, "keep", "(I)I"⟩
abbrev cX7_again : ByteArray := prog_1_method_27_code
def yX7_again : MethodName := ⟨RX7, "again", "(I)I"⟩
abbrev cX7_isShade : ByteArray := prog_1_method_28_code
def yX7_isShade : MethodName := ⟨RX7, "isShade", "(I)Z"⟩
abbrev cX7_isStep : ByteArray := prog_1_method_29_code
def yX7_isStep : MethodName := ⟨RX7, "isStep", "(I)Z"⟩
abbrev cX7_isSieve : ByteArray := prog_1_method_30_code
def yX7_isSieve : MethodName := ⟨RX7, "isSieve", "(II)Z"⟩
abbrev cX7_withoutLast : ByteArray := prog_1_method_31_code
def yX7_withoutLast : MethodName := ⟨RX7, "withoutLast", "(JI)J"⟩
abbrev cX7_comesTrue : ByteArray := prog_1_method_32_code
def yX7_comesTrue : MethodName := ⟨RX7, "comesTrue", "(III)Z"⟩
abbrev cX7_trialPainted : ByteArray := prog_1_method_33_code
def yX7_trialPainted : MethodName := ⟨RX7, "trialPainted", "(II)Z"⟩
abbrev cX7_trialTurned : ByteArray := prog_1_method_34_code
def yX7_trialTurned : MethodName := ⟨RX7, "trialTurned", "()Z"⟩
abbrev cX7_trialThinned : ByteArray := prog_1_method_35_code
def yX7_trialThinned : MethodName := ⟨RX7, "trialThinned", "(II)Z"⟩
abbrev cX7_change : ByteArray := prog_1_method_36_code
def yX7_change : MethodName := ⟨RX7, "change", "(J)V"⟩
abbrev cX7_sharedOut : ByteArray := prog_1_method_37_code
def yX7_sharedOut : MethodName := ⟨RX7, "sharedOut", "(JI)I"⟩
abbrev cX7_partsOfRows : ByteArray := prog_1_method_38_code
def yX7_partsOfRows : MethodName := ⟨RX7, "partsOfRows", "(JI)I"⟩
abbrev cX7_fadedOut : ByteArray := prog_1_method_39_code
def yX7_fadedOut : MethodName := ⟨RX7, "fadedOut", "(JJII)I"⟩
abbrev cX7_factorial : ByteArray := prog_1_method_40_code
def yX7_factorial : MethodName := ⟨RX7, "factorial", "(I)I"⟩
abbrev cX7_power : ByteArray := prog_1_method_41_code
def yX7_power : MethodName := ⟨RX7, "power", "(II)I"⟩
abbrev cX7_fraction : ByteArray := prog_1_method_42_code
def yX7_fraction : MethodName := ⟨RX7, "fraction", "(IIZ)I"⟩
abbrev cX7_commonDivisor : ByteArray := prog_1_method_43_code
def yX7_commonDivisor : MethodName := ⟨RX7, "commonDivisor", "(II)I"⟩
def RX8 : String := "ShadeTreeModel"
def TX8 : u_T := fun k => match k with
  | 0 => ("ShadeTreeModel", "thrown", "I", false)
  | 1 => ("ShadeTreeModel", "text", "[I", true)
  | 2 => ("ShadeTreeModel", "textSize", "I", false)
  | 3 => ("ShadeTreeModel", "readPage", "[I", true)
  | 4 => ("ShadeTreeModel", "page", "[I", true)
  | 5 => ("ShadeTreeModel", "trial", "[I", true)
  | 6 => ("ShadeTreeModel", "changed", "[I", true)
  | 7 => ("ShadeTreeModel", "book", "[I", true)
  | 8 => ("ShadeTreeModel", "doings", "I", false)
  | 9 => ("ShadeTreeModel", "kept", "[I", true)
  | 10 => ("ShadeTreeModel", "isKept", "[Z", true)
  | 11 => ("ShadeTreeModel", "seen", "I", false)
  | 12 => ("ShadeTreeModel", "seenOne", "[I", true)
  | 13 => ("ShadeTreeModel", "seenOther", "[I", true)
  | 14 => ("ShadeTreeModel", "seenIs", "[I", true)
  | 15 => ("ShadeTreeModel", "seed", "J", false)
  | 16 => ("ShadeTreeModel", "grown", "I", false)
  | 17 => ("ShadeTreeModel", "grownBy", "I", false)
  | 18 => ("ShadeTreeModel", "wayMany", "I", false)
  | 19 => ("ShadeTreeModel", "wayFirst", "I", false)
  | _ => ("ShadeTreeModel", "value", "[I", true)
def tyX8 : Nat → FieldType := fun k => match k with
  | 0 => .int
  | 1 => .array .int
  | 2 => .int
  | 3 => .array .int
  | 4 => .array .int
  | 5 => .array .int
  | 6 => .array .int
  | 7 => .array .int
  | 8 => .int
  | 9 => .array .int
  | 10 => .array .boolean
  | 11 => .int
  | 12 => .array .int
  | 13 => .array .int
  | 14 => .array .int
  | 15 => .long
  | 16 => .int
  | 17 => .int
  | 18 => .int
  | 19 => .int
  | _ => .array .int
abbrev wsX80 : List Cond := u_ws RX8 TX8 21
theorem nmX8 : ∀ a, a < 21 → ∀ b, b < 21 → a ≠ b → (TX8 a).2.1 ≠ (TX8 b).2.1 := by decide +kernel
theorem tyX8_ok : ∀ k, k < 21 → parseFieldDescriptor (TX8 k).2.2.1 = some (tyX8 k) := by decide +kernel
abbrev cX8_init : ByteArray := prog_10_method_1_code
def yX8_init : MethodName := ⟨RX8, "<init>", "()V"⟩
abbrev cX8_in : ByteArray := prog_10_method_3_code
def yX8_in : MethodName := ⟨RX8, "in", "(JJJ)Z"⟩
abbrev cX8_has : ByteArray := prog_10_method_4_code
def yX8_has : MethodName := ⟨RX8, "has", "(JI)Z"⟩
abbrev cX8_many : ByteArray := prog_10_method_5_code
def yX8_many : MethodName := ⟨RX8, "many", "(J)I"⟩
abbrev cX8_power : ByteArray := prog_10_method_6_code
def yX8_power : MethodName := ⟨RX8, "power", "(II)I"⟩
abbrev cX8_dotsOf : ByteArray := prog_10_method_7_code
def yX8_dotsOf : MethodName := ⟨RX8, "dotsOf", "([I)I"⟩
abbrev cX8_noDot : ByteArray := prog_10_method_8_code
def yX8_noDot : MethodName := ⟨RX8, "noDot", "(I)Z"⟩
abbrev cX8_isBeside : ByteArray := prog_10_method_9_code
def yX8_isBeside : MethodName := ⟨RX8, "isBeside", "([IIII)Z"⟩
abbrev cX8_bright : ByteArray := prog_10_method_10_code
def yX8_bright : MethodName := ⟨RX8, "bright", "([IIJ)J"⟩
abbrev cX8_around : ByteArray := prog_10_method_11_code
def yX8_around : MethodName := ⟨RX8, "around", "([III)J"⟩
abbrev cX8_spread : ByteArray := prog_10_method_12_code
def yX8_spread : MethodName := ⟨RX8, "spread", "([IIJI)J"⟩
abbrev cX8_part : ByteArray := prog_10_method_13_code
def yX8_part : MethodName := ⟨RX8, "part", "([III)J"⟩
abbrev cX8_partsOf : ByteArray := prog_10_method_14_code
def yX8_partsOf : MethodName := ⟨RX8, "partsOf", "([IIJ)I"⟩
abbrev cX8_nodeOf : ByteArray := prog_10_method_15_code
def yX8_nodeOf : MethodName := ⟨RX8, "nodeOf", "([II)J"⟩
abbrev cX8_level : ByteArray := prog_10_method_16_code
def yX8_level : MethodName := ⟨RX8, "level", "([IJ)I"⟩
abbrev cX8_brightest : ByteArray := prog_10_method_17_code
def yX8_brightest : MethodName := ⟨RX8, "brightest", "([IJ)I"⟩
abbrev cX8_head : ByteArray := prog_10_method_18_code
def yX8_head : MethodName := ⟨RX8, "head", "([IJ)I"⟩
abbrev cX8_parent : ByteArray := prog_10_method_19_code
def yX8_parent : MethodName := ⟨RX8, "parent", "([IJ)J"⟩
abbrev cX8_isHead : ByteArray := prog_10_method_20_code
def yX8_isHead : MethodName := ⟨RX8, "isHead", "([II)Z"⟩
abbrev cX8_nodes : ByteArray := prog_10_method_21_code
def yX8_nodes : MethodName := ⟨RX8, "nodes", "([I)I"⟩
abbrev cX8_children : ByteArray := prog_10_method_22_code
def yX8_children : MethodName := ⟨RX8, "children", "([IJ)I"⟩
abbrev cX8_depth : ByteArray := prog_10_method_23_code
def yX8_depth : MethodName := ⟨RX8, "depth", "([IJ)I"⟩
abbrev cX8_light : ByteArray := prog_10_method_24_code
def yX8_light : MethodName := ⟨RX8, "light", "([IJ)I"⟩
abbrev cX8_box : ByteArray := prog_10_method_25_code
def yX8_box : MethodName := ⟨RX8, "box", "([IJZ)I"⟩
abbrev cX8_rise : ByteArray := prog_10_method_26_code
def yX8_rise : MethodName := ⟨RX8, "rise", "([IJ)I"⟩
abbrev cX8_write : ByteArray := prog_10_method_27_code
def yX8_write : MethodName := ⟨RX8, "write", "(I)I"⟩
abbrev cX8_wipe : ByteArray := prog_10_method_28_code
def yX8_wipe : MethodName := ⟨RX8, "wipe", "()I"⟩
abbrev cX8_letterAt : ByteArray := prog_10_method_29_code
def yX8_letterAt : MethodName := ⟨RX8, "letterAt", "(I)I"⟩
abbrev cX8_readPicture : ByteArray := prog_10_method_30_code
def yX8_readPicture : MethodName := ⟨RX8, "readPicture", "()I"⟩
abbrev cX8_fault : ByteArray := prog_10_method_31_code
def yX8_fault : MethodName := ⟨RX8, "fault", "()I"⟩
abbrev cX8_picture : ByteArray := prog_10_method_32_code
def yX8_picture : MethodName := ⟨RX8, "picture", "()I"⟩
abbrev cX8_leaves : ByteArray := prog_10_method_33_code
def yX8_leaves : MethodName := ⟨RX8, "leaves", "()I"⟩
abbrev cX8_deepest : ByteArray := prog_10_method_34_code
def yX8_deepest : MethodName := ⟨RX8, "deepest", "()I"⟩
abbrev cX8_about : ByteArray := prog_10_method_35_code
def yX8_about : MethodName := ⟨RX8, "about", "(I)I"⟩
abbrev cX8_shade : ByteArray := prog_10_method_36_code
def yX8_shade : MethodName := ⟨RX8, "shade", "(I)I"⟩
abbrev cX8_node : ByteArray := prog_10_method_37_code
def yX8_node : MethodName := ⟨RX8, "node", "(II)I"⟩
abbrev cX8_dots : ByteArray := prog_10_method_38_code
def yX8_dots : MethodName := ⟨RX8, "dots", "(I)J"⟩
abbrev cX8_parts : ByteArray := prog_10_method_39_code
def yX8_parts : MethodName := ⟨RX8, "parts", "(I)I"⟩
abbrev cX8_note : ByteArray := prog_10_method_40_code
def yX8_note : MethodName := ⟨RX8, "note", "()V"⟩
abbrev cX8_paint : ByteArray := prog_10_method_41_code
def yX8_paint : MethodName := ⟨RX8, "paint", "(II)I"⟩
abbrev cX8_goNegative : ByteArray := prog_10_method_42_code
def yX8_goNegative : MethodName := ⟨RX8, "goNegative", "([I)V"⟩
abbrev cX8_negative : ByteArray := prog_10_method_43_code
def yX8_negative : MethodName := ⟨RX8, "negative", "()I"⟩
abbrev cX8_stays : ByteArray := prog_10_method_44_code
def yX8_stays : MethodName := ⟨RX8, "stays", "([IJII)Z"⟩
abbrev cX8_sifted : ByteArray := prog_10_method_45_code
def yX8_sifted : MethodName := ⟨RX8, "sifted", "([IIII)I"⟩
abbrev cX8_goSift : ByteArray := prog_10_method_46_code
def yX8_goSift : MethodName := ⟨RX8, "goSift", "([III)I"⟩
abbrev cX8_sift : ByteArray := prog_10_method_47_code
def yX8_sift : MethodName := ⟨RX8, "sift", "(II)I"⟩
abbrev cX8_undo : ByteArray := prog_10_method_48_code
def yX8_undo : MethodName := ⟨RX8, "undo", "()I"⟩
abbrev cX8_pass : ByteArray := prog_10_method_49_code
def yX8_pass : MethodName := ⟨RX8, "pass", "(II)I"⟩
abbrev cX8_divisor : ByteArray := prog_10_method_50_code
def yX8_divisor : MethodName := ⟨RX8, "divisor", "(II)I"⟩
abbrev cX8_fraction : ByteArray := prog_10_method_51_code
def yX8_fraction : MethodName := ⟨RX8, "fraction", "(IIZ)I"⟩
abbrev cX8_layGrown : ByteArray := prog_10_method_52_code
def yX8_layGrown : MethodName := ⟨RX8, "layGrown", "(JI)V"⟩
abbrev cX8_grows : ByteArray := prog_10_method_53_code
def yX8_grows : MethodName := ⟨RX8, "grows", "(IIZ)I"⟩
abbrev cX8_growsLess : ByteArray := prog_10_method_54_code
def yX8_growsLess : MethodName := ⟨RX8, "growsLess", "(JJI)Z"⟩
abbrev cX8_isSteady : ByteArray := prog_10_method_55_code
def yX8_isSteady : MethodName := ⟨RX8, "isSteady", "(JI)Z"⟩
abbrev cX8_steady : ByteArray := prog_10_method_56_code
def yX8_steady : MethodName := ⟨RX8, "steady", "(II)I"⟩
abbrev cX8_begin : ByteArray := prog_10_method_57_code
def yX8_begin : MethodName := ⟨RX8, "begin", "()V"⟩
abbrev cX8_longPower : ByteArray := prog_10_method_58_code
def yX8_longPower : MethodName := ⟨RX8, "longPower", "(JI)J"⟩
abbrev cX8_isSo : ByteArray := prog_10_method_59_code
def yX8_isSo : MethodName := ⟨RX8, "isSo", "(III)Z"⟩
abbrev cX8_does : ByteArray := prog_10_method_60_code
def yX8_does : MethodName := ⟨RX8, "does", "(I)Z"⟩
abbrev cX8_judge : ByteArray := prog_10_method_61_code
def yX8_judge : MethodName := ⟨RX8, "judge", "(IJ)I"⟩
abbrev cX8_orders : ByteArray := prog_10_method_62_code
def yX8_orders : MethodName := ⟨RX8, "orders", "(II)I"⟩
abbrev cX8_rows : ByteArray := prog_10_method_63_code
def yX8_rows : MethodName := ⟨RX8, "rows", "(I)J"⟩
abbrev cX8_share : ByteArray := prog_10_method_64_code
def yX8_share : MethodName := ⟨RX8, "share", "(IIZ)I"⟩
abbrev cX8_see : ByteArray := prog_10_method_65_code
def yX8_see : MethodName := ⟨RX8, "see", "(III)I"⟩
abbrev cX8_unsee : ByteArray := prog_10_method_66_code
def yX8_unsee : MethodName := ⟨RX8, "unsee", "()I"⟩
abbrev cX8_explains : ByteArray := prog_10_method_67_code
def yX8_explains : MethodName := ⟨RX8, "explains", "(II)Z"⟩
abbrev cX8_ways : ByteArray := prog_10_method_68_code
def yX8_ways : MethodName := ⟨RX8, "ways", "(I)I"⟩
abbrev cX8_fades : ByteArray := prog_10_method_69_code
def yX8_fades : MethodName := ⟨RX8, "fades", "(IIIIZ)I"⟩
abbrev cX8_seed : ByteArray := prog_10_method_70_code
def yX8_seed : MethodName := ⟨RX8, "seed", "(J)J"⟩
abbrev cX8_goDraw : ByteArray := prog_10_method_71_code
def yX8_goDraw : MethodName := ⟨RX8, "goDraw", "(II)V"⟩
abbrev cX8_drawn : ByteArray := prog_10_method_72_code
def yX8_drawn : MethodName := ⟨RX8, "drawn", "(I)I"⟩
abbrev cX8_keep : ByteArray := prog_10_method_73_code
def yX8_keep : MethodName := ⟨RX8, "keep", "(I)I"⟩
abbrev cX8_again : ByteArray := prog_10_method_74_code
def yX8_again : MethodName := ⟨RX8, "again", "(I)I"⟩
def RJ6 : String := "java/lang/Integer"
def TJ6 : u_T := fun k => match k with
  | _ => ("", "", "", false)
def tyJ6 : Nat → FieldType := fun k => match k with
  | _ => .int
abbrev wsJ60 : List Cond := u_ws RJ6 TJ6 0
theorem nmJ6 : ∀ a, a < 0 → ∀ b, b < 0 → a ≠ b → (TJ6 a).2.1 ≠ (TJ6 b).2.1 := by decide +kernel
theorem tyJ6_ok : ∀ k, k < 0 → parseFieldDescriptor (TJ6 k).2.2.1 = some (tyJ6 k) := by decide +kernel
abbrev cJ6_bitCount_0f7a4 : ByteArray := prog_11_method_49_code
def yJ6_bitCount_0f7a4 : MethodName := ⟨RJ6, "bitCount", "(I)I"⟩
def RJ13 : String := "java/lang/Long"
def TJ13 : u_T := fun k => match k with
  | _ => ("", "", "", false)
def tyJ13 : Nat → FieldType := fun k => match k with
  | _ => .int
abbrev wsJ130 : List Cond := u_ws RJ13 TJ13 0
theorem nmJ13 : ∀ a, a < 0 → ∀ b, b < 0 → a ≠ b → (TJ13 a).2.1 ≠ (TJ13 b).2.1 := by decide +kernel
theorem tyJ13_ok : ∀ k, k < 0 → parseFieldDescriptor (TJ13 k).2.2.1 = some (tyJ13 k) := by decide +kernel
abbrev cJ13_bitCount_95d88 : ByteArray := prog_12_method_50_code
def yJ13_bitCount_95d88 : MethodName := ⟨RJ13, "bitCount", "(J)I"⟩
def RJ9 : String := "java/lang/Math"
def TJ9 : u_T := fun k => match k with
  | _ => ("", "", "", false)
def tyJ9 : Nat → FieldType := fun k => match k with
  | _ => .int
abbrev wsJ90 : List Cond := u_ws RJ9 TJ9 0
theorem nmJ9 : ∀ a, a < 0 → ∀ b, b < 0 → a ≠ b → (TJ9 a).2.1 ≠ (TJ9 b).2.1 := by decide +kernel
theorem tyJ9_ok : ∀ k, k < 0 → parseFieldDescriptor (TJ9 k).2.2.1 = some (tyJ9 k) := by decide +kernel
abbrev cJ9_abs_0f7a4 : ByteArray := prog_13_method_59_code
def yJ9_abs_0f7a4 : MethodName := ⟨RJ9, "abs", "(I)I"⟩
abbrev cJ9_max_7cf53 : ByteArray := prog_13_method_65_code
def yJ9_max_7cf53 : MethodName := ⟨RJ9, "max", "(II)I"⟩
def RJ10 : String := "java/lang/System"
def TJ10 : u_T := fun k => match k with
  | _ => ("", "", "", false)
def tyJ10 : Nat → FieldType := fun k => match k with
  | _ => .int
abbrev wsJ100 : List Cond := u_ws RJ10 TJ10 0
theorem nmJ10 : ∀ a, a < 0 → ∀ b, b < 0 → a ≠ b → (TJ10 a).2.1 ≠ (TJ10 b).2.1 := by decide +kernel
theorem tyJ10_ok : ∀ k, k < 0 → parseFieldDescriptor (TJ10 k).2.2.1 = some (tyJ10 k) := by decide +kernel
def RL : String := "ShadeTreeLaw"
abbrev cL_law : ByteArray := code
def yL_law : MethodName := ⟨RL, "law", "([I)Z"⟩
def wsX0_init : List Cond := .code yX0_init cX0_init 1 none :: ([.methodLink RX0 3 objectInit, .instanceMethod objectInit, .code objectInit ⟨#[0xb1]⟩ 1 none, .arrayClass .long, .fieldLink RX0 11 "ShadeTree$Doings" "before" "[J"] ++ wsX00)
def wsX0_size : List Cond := .code yX0_size cX0_size 1 (some .int) :: ([.fieldLink RX0 15 "ShadeTree$Doings" "size" "I"] ++ wsX00)
def wsX0_clear : List Cond := .code yX0_clear cX0_clear 1 none :: ([.fieldLink RX0 15 "ShadeTree$Doings" "size" "I"] ++ wsX00)
def wsX2_store : List Cond := .code yX2_store cX2_store 3 none :: ([.fieldLink RX2 9 "ShadeTree$Shades" "layers" "[J", .methodLink RX2 70 arraycopyName, .native arraycopyName, .static arraycopyName, .initialized "java/lang/System"] ++ wsX20)
def wsX0_add : List Cond := .code yX0_add cX0_add 2 none :: ([.fieldLink RX0 15 "ShadeTree$Doings" "size" "I", .fieldLink RX0 11 "ShadeTree$Doings" "before" "[J", .methodLink RX0 19 arraycopyName, .native arraycopyName, .static arraycopyName, .initialized "java/lang/System", .methodLink RX0 25 yX2_store, .instanceMethod yX2_store, .selects RX2 yX2_store yX2_store, .initialized RX2, .code yX2_store cX2_store 3 none, .fieldLink RX2 9 "ShadeTree$Shades" "layers" "[J", .methodLink RX2 70 arraycopyName] ++ wsX00 ++ wsX20)
def wsX2_load : List Cond := .code yX2_load cX2_load 3 none :: ([.fieldLink RX2 9 "ShadeTree$Shades" "layers" "[J", .methodLink RX2 70 arraycopyName, .native arraycopyName, .static arraycopyName, .initialized "java/lang/System"] ++ wsX20)
def wsX0_takeBack : List Cond := .code yX0_takeBack cX0_takeBack 2 (some .boolean) :: ([.fieldLink RX0 15 "ShadeTree$Doings" "size" "I", .fieldLink RX0 11 "ShadeTree$Doings" "before" "[J", .methodLink RX0 31 yX2_load, .instanceMethod yX2_load, .selects RX2 yX2_load yX2_load, .initialized RX2, .code yX2_load cX2_load 3 none, .fieldLink RX2 9 "ShadeTree$Shades" "layers" "[J", .methodLink RX2 70 arraycopyName, .native arraycopyName, .static arraycopyName, .initialized "java/lang/System"] ++ wsX00 ++ wsX20)
def wsX1_lay : List Cond := .code yX1_lay cX1_lay 5 none :: ([.fieldLink RX1 15 "ShadeTree$Grid" "way" "I", .fieldLink RX1 19 "ShadeTree$Grid" "wide" "I", .fieldLink RX1 22 "ShadeTree$Grid" "high" "I", .fieldLink RX1 25 "ShadeTree$Grid" "all" "J", .fieldLink RX1 29 "ShadeTree$Grid" "leftmost" "J", .fieldLink RX1 32 "ShadeTree$Grid" "rightmost" "J"] ++ wsX10)
def wsX1_init : List Cond := .code yX1_init cX1_init 1 none :: ([.methodLink RX1 3 objectInit, .instanceMethod objectInit, .code objectInit ⟨#[0xb1]⟩ 1 none, .methodLink RX1 9 yX1_lay, .instanceMethod yX1_lay, .selects RX1 yX1_lay yX1_lay, .initialized RX1, .code yX1_lay cX1_lay 5 none, .fieldLink RX1 15 "ShadeTree$Grid" "way" "I", .fieldLink RX1 19 "ShadeTree$Grid" "wide" "I", .fieldLink RX1 22 "ShadeTree$Grid" "high" "I", .fieldLink RX1 25 "ShadeTree$Grid" "all" "J", .fieldLink RX1 29 "ShadeTree$Grid" "leftmost" "J", .fieldLink RX1 32 "ShadeTree$Grid" "rightmost" "J"] ++ wsX10)
def wsX1_way : List Cond := .code yX1_way cX1_way 1 (some .int) :: ([.fieldLink RX1 15 "ShadeTree$Grid" "way" "I"] ++ wsX10)
def wsX1_wide : List Cond := .code yX1_wide cX1_wide 1 (some .int) :: ([.fieldLink RX1 19 "ShadeTree$Grid" "wide" "I"] ++ wsX10)
def wsX1_high : List Cond := .code yX1_high cX1_high 1 (some .int) :: ([.fieldLink RX1 22 "ShadeTree$Grid" "high" "I"] ++ wsX10)
def wsX1_size : List Cond := .code yX1_size cX1_size 1 (some .int) :: ([.fieldLink RX1 19 "ShadeTree$Grid" "wide" "I", .fieldLink RX1 22 "ShadeTree$Grid" "high" "I"] ++ wsX10)
def wsX1_all : List Cond := .code yX1_all cX1_all 1 (some .long) :: ([.fieldLink RX1 25 "ShadeTree$Grid" "all" "J"] ++ wsX10)
def wsX1_hasDot : List Cond := .code yX1_hasDot cX1_hasDot 2 (some .boolean) :: ([.methodLink RX1 35 yX1_size, .instanceMethod yX1_size, .selects RX1 yX1_size yX1_size, .initialized RX1, .code yX1_size cX1_size 1 (some .int), .fieldLink RX1 19 "ShadeTree$Grid" "wide" "I", .fieldLink RX1 22 "ShadeTree$Grid" "high" "I"] ++ wsX10)
def wsX1_hasRow : List Cond := .code yX1_hasRow cX1_hasRow 2 (some .boolean) :: ([.fieldLink RX1 22 "ShadeTree$Grid" "high" "I"] ++ wsX10)
def wsX1_row : List Cond := .code yX1_row cX1_row 2 (some .long) :: ([.fieldLink RX1 19 "ShadeTree$Grid" "wide" "I"] ++ wsX10)
def wsX1_rows : List Cond := .code yX1_rows cX1_rows 5 (some .long) :: ([.fieldLink RX1 22 "ShadeTree$Grid" "high" "I", .methodLink RX1 39 yX1_row, .instanceMethod yX1_row, .selects RX1 yX1_row yX1_row, .initialized RX1, .code yX1_row cX1_row 2 (some .long), .fieldLink RX1 19 "ShadeTree$Grid" "wide" "I"] ++ wsX10)
def wsX1_columnsOf : List Cond := .code yX1_columnsOf cX1_columnsOf 5 (some .int) :: ([.fieldLink RX1 19 "ShadeTree$Grid" "wide" "I", .fieldLink RX1 29 "ShadeTree$Grid" "leftmost" "J"] ++ wsX10)
def wsX1_rowsOf : List Cond := .code yX1_rowsOf cX1_rowsOf 5 (some .int) :: ([.fieldLink RX1 22 "ShadeTree$Grid" "high" "I", .methodLink RX1 39 yX1_row, .instanceMethod yX1_row, .selects RX1 yX1_row yX1_row, .initialized RX1, .code yX1_row cX1_row 2 (some .long), .fieldLink RX1 19 "ShadeTree$Grid" "wide" "I"] ++ wsX10)
def wsX1_spread : List Cond := .code yX1_spread cX1_spread 8 (some .long) :: ([.fieldLink RX1 32 "ShadeTree$Grid" "rightmost" "J", .constantLong RX1 47 (-1), .fieldLink RX1 29 "ShadeTree$Grid" "leftmost" "J", .fieldLink RX1 19 "ShadeTree$Grid" "wide" "I"] ++ wsX10)
def wsX1_partAround : List Cond := .code yX1_partAround cX1_partAround 11 (some .long) :: ([.methodLink RX1 43 yX1_spread, .instanceMethod yX1_spread, .selects RX1 yX1_spread yX1_spread, .initialized RX1, .code yX1_spread cX1_spread 8 (some .long), .fieldLink RX1 32 "ShadeTree$Grid" "rightmost" "J", .constantLong RX1 47 (-1), .fieldLink RX1 29 "ShadeTree$Grid" "leftmost" "J", .fieldLink RX1 19 "ShadeTree$Grid" "wide" "I"] ++ wsX10)
def wsX1_joined : List Cond := .code yX1_joined cX1_joined 6 (some .boolean) :: ([.methodLink RX1 49 yX1_hasDot, .instanceMethod yX1_hasDot, .selects RX1 yX1_hasDot yX1_hasDot, .initialized RX1, .code yX1_hasDot cX1_hasDot 2 (some .boolean), .methodLink RX1 35 yX1_size, .instanceMethod yX1_size, .selects RX1 yX1_size yX1_size, .code yX1_size cX1_size 1 (some .int), .fieldLink RX1 19 "ShadeTree$Grid" "wide" "I", .fieldLink RX1 22 "ShadeTree$Grid" "high" "I", .methodLink RX1 53 yX1_partAround, .instanceMethod yX1_partAround, .selects RX1 yX1_partAround yX1_partAround, .code yX1_partAround cX1_partAround 11 (some .long), .methodLink RX1 43 yX1_spread, .instanceMethod yX1_spread, .selects RX1 yX1_spread yX1_spread, .code yX1_spread cX1_spread 8 (some .long), .fieldLink RX1 32 "ShadeTree$Grid" "rightmost" "J", .constantLong RX1 47 (-1), .fieldLink RX1 29 "ShadeTree$Grid" "leftmost" "J"] ++ wsX10)
def wsX1_countParts : List Cond := .code yX1_countParts cX1_countParts 7 (some .int) :: ([.constantLong RX1 47 (-1), .methodLink RX1 53 yX1_partAround, .instanceMethod yX1_partAround, .selects RX1 yX1_partAround yX1_partAround, .initialized RX1, .code yX1_partAround cX1_partAround 11 (some .long), .methodLink RX1 43 yX1_spread, .instanceMethod yX1_spread, .selects RX1 yX1_spread yX1_spread, .code yX1_spread cX1_spread 8 (some .long), .fieldLink RX1 32 "ShadeTree$Grid" "rightmost" "J", .fieldLink RX1 29 "ShadeTree$Grid" "leftmost" "J", .fieldLink RX1 19 "ShadeTree$Grid" "wide" "I"] ++ wsX10)
def wsX2_darken : List Cond := .code yX2_darken cX2_darken 2 none :: ([.fieldLink RX2 9 "ShadeTree$Shades" "layers" "[J", .fieldLink RX2 15 "ShadeTree$Shades" "grid" "LShadeTree$Grid;", .methodLink RX2 22 yX1_all, .instanceMethod yX1_all, .selects RX1 yX1_all yX1_all, .initialized RX1, .code yX1_all cX1_all 1 (some .long), .fieldLink RX1 25 "ShadeTree$Grid" "all" "J"] ++ wsX20 ++ wsX10)
def wsX2_init : List Cond := .code yX2_init cX2_init 2 none :: ([.methodLink RX2 3 objectInit, .instanceMethod objectInit, .code objectInit ⟨#[0xb1]⟩ 1 none, .arrayClass .long, .fieldLink RX2 9 "ShadeTree$Shades" "layers" "[J", .fieldLink RX2 15 "ShadeTree$Shades" "grid" "LShadeTree$Grid;", .methodLink RX2 19 yX2_darken, .instanceMethod yX2_darken, .selects RX2 yX2_darken yX2_darken, .initialized RX2, .code yX2_darken cX2_darken 2 none, .methodLink RX2 22 yX1_all, .instanceMethod yX1_all, .selects RX1 yX1_all yX1_all, .initialized RX1, .code yX1_all cX1_all 1 (some .long), .fieldLink RX1 25 "ShadeTree$Grid" "all" "J"] ++ wsX20 ++ wsX10)
def wsX2_atLeast : List Cond := .code yX2_atLeast cX2_atLeast 2 (some .long) :: ([.fieldLink RX2 9 "ShadeTree$Shades" "layers" "[J"] ++ wsX20)
def wsX2_of : List Cond := .code yX2_of cX2_of 4 (some .int) :: ([.fieldLink RX2 9 "ShadeTree$Shades" "layers" "[J"] ++ wsX20)
def wsJ13_bitCount_95d88 : List Cond := .code yJ13_bitCount_95d88 cJ13_bitCount_95d88 2 (some .int) :: ([.constantLong RJ13 314 (6148914691236517205), .constantLong RJ13 316 (3689348814741910323), .constantLong RJ13 318 (1085102592571150095)])
def wsX2_light : List Cond := .code yX2_light cX2_light 5 (some .int) :: ([.fieldLink RX2 9 "ShadeTree$Shades" "layers" "[J", .methodLink RX2 28 yJ13_bitCount_95d88, .static yJ13_bitCount_95d88, .initialized RJ13, .code yJ13_bitCount_95d88 cJ13_bitCount_95d88 2 (some .int), .constantLong RJ13 314 (6148914691236517205), .constantLong RJ13 316 (3689348814741910323), .constantLong RJ13 318 (1085102592571150095)] ++ wsX20)
def wsX2_brightest : List Cond := .code yX2_brightest cX2_brightest 4 (some .int) :: ([.methodLink RX2 34 yX2_atLeast, .instanceMethod yX2_atLeast, .selects RX2 yX2_atLeast yX2_atLeast, .initialized RX2, .code yX2_atLeast cX2_atLeast 2 (some .long), .fieldLink RX2 9 "ShadeTree$Shades" "layers" "[J"] ++ wsX20)
def wsX2_set : List Cond := .code yX2_set cX2_set 6 none :: ([.fieldLink RX2 9 "ShadeTree$Shades" "layers" "[J", .constantLong RX2 38 (-1)] ++ wsX20)
def wsX2_put : List Cond := .code yX2_put cX2_put 4 none :: ([.fieldLink RX2 9 "ShadeTree$Shades" "layers" "[J"] ++ wsX20)
def wsX2_turn : List Cond := .code yX2_turn cX2_turn 4 none :: ([.fieldLink RX2 15 "ShadeTree$Shades" "grid" "LShadeTree$Grid;", .constantLong RX2 38 (-1), .methodLink RX2 22 yX1_all, .instanceMethod yX1_all, .selects RX1 yX1_all yX1_all, .initialized RX1, .code yX1_all cX1_all 1 (some .long), .fieldLink RX1 25 "ShadeTree$Grid" "all" "J", .methodLink RX2 34 yX2_atLeast, .instanceMethod yX2_atLeast, .selects RX2 yX2_atLeast yX2_atLeast, .initialized RX2, .code yX2_atLeast cX2_atLeast 2 (some .long), .fieldLink RX2 9 "ShadeTree$Shades" "layers" "[J", .methodLink RX2 40 yX2_put, .instanceMethod yX2_put, .selects RX2 yX2_put yX2_put, .code yX2_put cX2_put 4 none] ++ wsX20 ++ wsX10)
def wsX2_isBig : List Cond := .code yX2_isBig cX2_isBig 5 (some .boolean) :: ([.fieldLink RX2 15 "ShadeTree$Shades" "grid" "LShadeTree$Grid;", .methodLink RX2 28 yJ13_bitCount_95d88, .static yJ13_bitCount_95d88, .initialized RJ13, .code yJ13_bitCount_95d88 cJ13_bitCount_95d88 2 (some .int), .constantLong RJ13 314 (6148914691236517205), .constantLong RJ13 316 (3689348814741910323), .constantLong RJ13 318 (1085102592571150095), .methodLink RX2 60 yX1_columnsOf, .instanceMethod yX1_columnsOf, .selects RX1 yX1_columnsOf yX1_columnsOf, .initialized RX1, .code yX1_columnsOf cX1_columnsOf 5 (some .int), .fieldLink RX1 19 "ShadeTree$Grid" "wide" "I", .fieldLink RX1 29 "ShadeTree$Grid" "leftmost" "J", .methodLink RX2 63 yX1_rowsOf, .instanceMethod yX1_rowsOf, .selects RX1 yX1_rowsOf yX1_rowsOf, .code yX1_rowsOf cX1_rowsOf 5 (some .int), .fieldLink RX1 22 "ShadeTree$Grid" "high" "I", .methodLink RX1 39 yX1_row, .instanceMethod yX1_row, .selects RX1 yX1_row yX1_row, .code yX1_row cX1_row 2 (some .long)] ++ wsX20 ++ wsX10)
def wsX2_bigParts_r1 : List Cond := [Cond.fieldLink RX2 15 "ShadeTree$Shades" "grid" "LShadeTree$Grid;", Cond.constantLong RX2 38 (-1), Cond.methodLink RX2 22 yX1_all, Cond.instanceMethod yX1_all, Cond.selects RX1 yX1_all yX1_all, Cond.initialized RX1, Cond.code yX1_all cX1_all 1 (some .long), Cond.fieldLink RX1 25 "ShadeTree$Grid" "all" "J", Cond.methodLink RX2 48 yX1_way, Cond.instanceMethod yX1_way, Cond.selects RX1 yX1_way yX1_way, Cond.code yX1_way cX1_way 1 (some .int), Cond.fieldLink RX1 15 "ShadeTree$Grid" "way" "I", Cond.methodLink RX2 52 yX1_partAround, Cond.instanceMethod yX1_partAround, Cond.selects RX1 yX1_partAround yX1_partAround, Cond.code yX1_partAround cX1_partAround 11 (some .long), Cond.methodLink RX1 43 yX1_spread, Cond.instanceMethod yX1_spread, Cond.selects RX1 yX1_spread yX1_spread, Cond.code yX1_spread cX1_spread 8 (some .long), Cond.fieldLink RX1 32 "ShadeTree$Grid" "rightmost" "J", Cond.constantLong RX1 47 (-1), Cond.fieldLink RX1 29 "ShadeTree$Grid" "leftmost" "J"]
def wsX2_bigParts_r2 : List Cond := [Cond.fieldLink RX1 19 "ShadeTree$Grid" "wide" "I", Cond.methodLink RX2 56 yX2_isBig, Cond.instanceMethod yX2_isBig, Cond.selects RX2 yX2_isBig yX2_isBig, Cond.initialized RX2, Cond.code yX2_isBig cX2_isBig 5 (some .boolean), Cond.methodLink RX2 28 yJ13_bitCount_95d88, Cond.static yJ13_bitCount_95d88, Cond.initialized RJ13, Cond.code yJ13_bitCount_95d88 cJ13_bitCount_95d88 2 (some .int), Cond.constantLong RJ13 314 (6148914691236517205), Cond.constantLong RJ13 316 (3689348814741910323), Cond.constantLong RJ13 318 (1085102592571150095), Cond.methodLink RX2 60 yX1_columnsOf, Cond.instanceMethod yX1_columnsOf, Cond.selects RX1 yX1_columnsOf yX1_columnsOf, Cond.code yX1_columnsOf cX1_columnsOf 5 (some .int), Cond.methodLink RX2 63 yX1_rowsOf, Cond.instanceMethod yX1_rowsOf, Cond.selects RX1 yX1_rowsOf yX1_rowsOf, Cond.code yX1_rowsOf cX1_rowsOf 5 (some .int), Cond.fieldLink RX1 22 "ShadeTree$Grid" "high" "I", Cond.methodLink RX1 39 yX1_row, Cond.instanceMethod yX1_row]
def wsX2_bigParts_r3 : List Cond := [Cond.selects RX1 yX1_row yX1_row, Cond.code yX1_row cX1_row 2 (some .long)]
def wsX2_bigParts : List Cond := .code yX2_bigParts cX2_bigParts 12 (some .long) :: ((wsX2_bigParts_r1 ++ (wsX2_bigParts_r2 ++ wsX2_bigParts_r3)) ++ wsX20 ++ wsX10)
def wsX2_thin_r1 : List Cond := [Cond.fieldLink RX2 9 "ShadeTree$Shades" "layers" "[J", Cond.constantLong RX2 38 (-1), Cond.methodLink RX2 44 yX2_bigParts, Cond.instanceMethod yX2_bigParts, Cond.selects RX2 yX2_bigParts yX2_bigParts, Cond.initialized RX2, Cond.code yX2_bigParts cX2_bigParts 12 (some .long), Cond.fieldLink RX2 15 "ShadeTree$Shades" "grid" "LShadeTree$Grid;", Cond.methodLink RX2 22 yX1_all, Cond.instanceMethod yX1_all, Cond.selects RX1 yX1_all yX1_all, Cond.initialized RX1, Cond.code yX1_all cX1_all 1 (some .long), Cond.fieldLink RX1 25 "ShadeTree$Grid" "all" "J", Cond.methodLink RX2 48 yX1_way, Cond.instanceMethod yX1_way, Cond.selects RX1 yX1_way yX1_way, Cond.code yX1_way cX1_way 1 (some .int), Cond.fieldLink RX1 15 "ShadeTree$Grid" "way" "I", Cond.methodLink RX2 52 yX1_partAround, Cond.instanceMethod yX1_partAround, Cond.selects RX1 yX1_partAround yX1_partAround, Cond.code yX1_partAround cX1_partAround 11 (some .long), Cond.methodLink RX1 43 yX1_spread]
def wsX2_thin_r2 : List Cond := [Cond.instanceMethod yX1_spread, Cond.selects RX1 yX1_spread yX1_spread, Cond.code yX1_spread cX1_spread 8 (some .long), Cond.fieldLink RX1 32 "ShadeTree$Grid" "rightmost" "J", Cond.constantLong RX1 47 (-1), Cond.fieldLink RX1 29 "ShadeTree$Grid" "leftmost" "J", Cond.fieldLink RX1 19 "ShadeTree$Grid" "wide" "I", Cond.methodLink RX2 56 yX2_isBig, Cond.instanceMethod yX2_isBig, Cond.selects RX2 yX2_isBig yX2_isBig, Cond.code yX2_isBig cX2_isBig 5 (some .boolean), Cond.methodLink RX2 28 yJ13_bitCount_95d88, Cond.static yJ13_bitCount_95d88, Cond.initialized RJ13, Cond.code yJ13_bitCount_95d88 cJ13_bitCount_95d88 2 (some .int), Cond.constantLong RJ13 314 (6148914691236517205), Cond.constantLong RJ13 316 (3689348814741910323), Cond.constantLong RJ13 318 (1085102592571150095), Cond.methodLink RX2 60 yX1_columnsOf, Cond.instanceMethod yX1_columnsOf, Cond.selects RX1 yX1_columnsOf yX1_columnsOf, Cond.code yX1_columnsOf cX1_columnsOf 5 (some .int), Cond.methodLink RX2 63 yX1_rowsOf, Cond.instanceMethod yX1_rowsOf]
def wsX2_thin_r3 : List Cond := [Cond.selects RX1 yX1_rowsOf yX1_rowsOf, Cond.code yX1_rowsOf cX1_rowsOf 5 (some .int), Cond.fieldLink RX1 22 "ShadeTree$Grid" "high" "I", Cond.methodLink RX1 39 yX1_row, Cond.instanceMethod yX1_row, Cond.selects RX1 yX1_row yX1_row, Cond.code yX1_row cX1_row 2 (some .long)]
def wsX2_thin : List Cond := .code yX2_thin cX2_thin 8 (some .int) :: ((wsX2_thin_r1 ++ (wsX2_thin_r2 ++ wsX2_thin_r3)) ++ wsX20 ++ wsX10)
def wsX2_copy : List Cond := .code yX2_copy cX2_copy 2 none :: ([.fieldLink RX2 9 "ShadeTree$Shades" "layers" "[J", .methodLink RX2 66 yX2_store, .instanceMethod yX2_store, .selects RX2 yX2_store yX2_store, .initialized RX2, .code yX2_store cX2_store 3 none, .methodLink RX2 70 arraycopyName, .native arraycopyName, .static arraycopyName, .initialized "java/lang/System"] ++ wsX20)
def wsX3_init : List Cond := .code yX3_init cX3_init 1 none :: ([.methodLink RX3 1 objectInit, .instanceMethod objectInit, .code objectInit ⟨#[0xb1]⟩ 1 none, .arrayClass .int, .fieldLink RX3 9 "ShadeTree$Sights" "ones" "[I", .fieldLink RX3 13 "ShadeTree$Sights" "others" "[I", .arrayClass .boolean, .fieldLink RX3 16 "ShadeTree$Sights" "joined" "[Z"] ++ wsX30)
def wsX3_size : List Cond := .code yX3_size cX3_size 1 (some .int) :: ([.fieldLink RX3 20 "ShadeTree$Sights" "size" "I"] ++ wsX30)
def wsX3_clear : List Cond := .code yX3_clear cX3_clear 1 none :: ([.fieldLink RX3 20 "ShadeTree$Sights" "size" "I"] ++ wsX30)
def wsX3_add : List Cond := .code yX3_add cX3_add 4 (some .boolean) :: ([.fieldLink RX3 20 "ShadeTree$Sights" "size" "I", .fieldLink RX3 9 "ShadeTree$Sights" "ones" "[I", .fieldLink RX3 13 "ShadeTree$Sights" "others" "[I", .fieldLink RX3 16 "ShadeTree$Sights" "joined" "[Z"] ++ wsX30)
def wsX3_hold_r1 : List Cond := [Cond.fieldLink RX3 20 "ShadeTree$Sights" "size" "I", Cond.fieldLink RX3 9 "ShadeTree$Sights" "ones" "[I", Cond.fieldLink RX3 13 "ShadeTree$Sights" "others" "[I", Cond.fieldLink RX3 16 "ShadeTree$Sights" "joined" "[Z", Cond.methodLink RX3 24 yX1_joined, Cond.instanceMethod yX1_joined, Cond.selects RX1 yX1_joined yX1_joined, Cond.initialized RX1, Cond.code yX1_joined cX1_joined 6 (some .boolean), Cond.methodLink RX1 49 yX1_hasDot, Cond.instanceMethod yX1_hasDot, Cond.selects RX1 yX1_hasDot yX1_hasDot, Cond.code yX1_hasDot cX1_hasDot 2 (some .boolean), Cond.methodLink RX1 35 yX1_size, Cond.instanceMethod yX1_size, Cond.selects RX1 yX1_size yX1_size, Cond.code yX1_size cX1_size 1 (some .int), Cond.fieldLink RX1 19 "ShadeTree$Grid" "wide" "I", Cond.fieldLink RX1 22 "ShadeTree$Grid" "high" "I", Cond.methodLink RX1 53 yX1_partAround, Cond.instanceMethod yX1_partAround, Cond.selects RX1 yX1_partAround yX1_partAround, Cond.code yX1_partAround cX1_partAround 11 (some .long), Cond.methodLink RX1 43 yX1_spread]
def wsX3_hold_r2 : List Cond := [Cond.instanceMethod yX1_spread, Cond.selects RX1 yX1_spread yX1_spread, Cond.code yX1_spread cX1_spread 8 (some .long), Cond.fieldLink RX1 32 "ShadeTree$Grid" "rightmost" "J", Cond.constantLong RX1 47 (-1), Cond.fieldLink RX1 29 "ShadeTree$Grid" "leftmost" "J"]
def wsX3_hold : List Cond := .code yX3_hold cX3_hold 6 (some .boolean) :: ((wsX3_hold_r1 ++ wsX3_hold_r2) ++ wsX30 ++ wsX10)
def wsX4_init : List Cond := .code yX4_init cX4_init 1 none :: ([.methodLink RX4 3 objectInit, .instanceMethod objectInit, .code objectInit ⟨#[0xb1]⟩ 1 none, .arrayClass .long, .fieldLink RX4 11 "ShadeTree$Slots" "kept" "[J", .arrayClass .boolean, .fieldLink RX4 15 "ShadeTree$Slots" "used" "[Z"] ++ wsX40)
def wsX4_clear : List Cond := .code yX4_clear cX4_clear 2 none :: ([.fieldLink RX4 15 "ShadeTree$Slots" "used" "[Z"] ++ wsX40)
def wsX4_has : List Cond := .code yX4_has cX4_has 2 (some .boolean) :: ([.fieldLink RX4 15 "ShadeTree$Slots" "used" "[Z"] ++ wsX40)
def wsX4_put : List Cond := .code yX4_put cX4_put 3 (some .boolean) :: ([.fieldLink RX4 15 "ShadeTree$Slots" "used" "[Z", .fieldLink RX4 11 "ShadeTree$Slots" "kept" "[J", .methodLink RX4 19 yX2_store, .instanceMethod yX2_store, .selects RX2 yX2_store yX2_store, .initialized RX2, .code yX2_store cX2_store 3 none, .fieldLink RX2 9 "ShadeTree$Shades" "layers" "[J", .methodLink RX2 70 arraycopyName, .native arraycopyName, .static arraycopyName, .initialized "java/lang/System"] ++ wsX40 ++ wsX20)
def wsX4_bringBack : List Cond := .code yX4_bringBack cX4_bringBack 3 (some .boolean) :: ([.fieldLink RX4 15 "ShadeTree$Slots" "used" "[Z", .fieldLink RX4 11 "ShadeTree$Slots" "kept" "[J", .methodLink RX4 25 yX2_load, .instanceMethod yX2_load, .selects RX2 yX2_load yX2_load, .initialized RX2, .code yX2_load cX2_load 3 none, .fieldLink RX2 9 "ShadeTree$Shades" "layers" "[J", .methodLink RX2 70 arraycopyName, .native arraycopyName, .static arraycopyName, .initialized "java/lang/System"] ++ wsX40 ++ wsX20)
def wsX5_init : List Cond := .code yX5_init cX5_init 1 none :: ([.methodLink RX5 3 objectInit, .instanceMethod objectInit, .code objectInit ⟨#[0xb1]⟩ 1 none, .arrayClass .int, .fieldLink RX5 11 "ShadeTree$Text" "letters" "[I"] ++ wsX50)
def wsX5_size : List Cond := .code yX5_size cX5_size 1 (some .int) :: ([.fieldLink RX5 15 "ShadeTree$Text" "size" "I"] ++ wsX50)
def wsX5_clear : List Cond := .code yX5_clear cX5_clear 1 none :: ([.fieldLink RX5 15 "ShadeTree$Text" "size" "I"] ++ wsX50)
def wsX5_add : List Cond := .code yX5_add cX5_add 2 (some .boolean) :: ([.fieldLink RX5 15 "ShadeTree$Text" "size" "I", .fieldLink RX5 11 "ShadeTree$Text" "letters" "[I"] ++ wsX50)
def wsX5_figure : List Cond := .code yX5_figure cX5_figure 2 (some .int) :: ([.fieldLink RX5 11 "ShadeTree$Text" "letters" "[I"] ++ wsX50)
def wsX5_wholeSize : List Cond := .code yX5_wholeSize cX5_wholeSize 1 (some .int) :: ([.methodLink RX5 27 yX5_figure, .instanceMethod yX5_figure, .selects RX5 yX5_figure yX5_figure, .initialized RX5, .code yX5_figure cX5_figure 2 (some .int), .fieldLink RX5 11 "ShadeTree$Text" "letters" "[I"] ++ wsX50)
def wsX7_isShade : List Cond := .code yX7_isShade cX7_isShade 1 (some .boolean) :: ([])
def wsX5_fits : List Cond := .code yX5_fits cX5_fits 3 (some .boolean) :: ([.methodLink RX5 27 yX5_figure, .instanceMethod yX5_figure, .selects RX5 yX5_figure yX5_figure, .initialized RX5, .code yX5_figure cX5_figure 2 (some .int), .fieldLink RX5 11 "ShadeTree$Text" "letters" "[I", .methodLink RX5 23 yX5_wholeSize, .instanceMethod yX5_wholeSize, .selects RX5 yX5_wholeSize yX5_wholeSize, .code yX5_wholeSize cX5_wholeSize 1 (some .int), .static yX7_isShade, .initialized RX7, .code yX7_isShade cX7_isShade 1 (some .boolean)] ++ wsX50)
def wsX5_firstFault : List Cond := .code yX5_firstFault cX5_firstFault 2 (some .int) :: ([.fieldLink RX5 15 "ShadeTree$Text" "size" "I", .methodLink RX5 19 yX5_fits, .instanceMethod yX5_fits, .selects RX5 yX5_fits yX5_fits, .initialized RX5, .code yX5_fits cX5_fits 3 (some .boolean), .methodLink RX5 27 yX5_figure, .instanceMethod yX5_figure, .selects RX5 yX5_figure yX5_figure, .code yX5_figure cX5_figure 2 (some .int), .fieldLink RX5 11 "ShadeTree$Text" "letters" "[I", .methodLink RX5 23 yX5_wholeSize, .instanceMethod yX5_wholeSize, .selects RX5 yX5_wholeSize yX5_wholeSize, .code yX5_wholeSize cX5_wholeSize 1 (some .int), .static yX7_isShade, .initialized RX7, .code yX7_isShade cX7_isShade 1 (some .boolean)] ++ wsX50)
def wsX6_init : List Cond := .code yX6_init cX6_init 3 none :: ([.methodLink RX6 3 objectInit, .instanceMethod objectInit, .code objectInit ⟨#[0xb1]⟩ 1 none, .arrayClass .long, .fieldLink RX6 9 "ShadeTree$Tree" "nodeParts" "[J", .arrayClass .int, .fieldLink RX6 15 "ShadeTree$Tree" "nodeLevels" "[I", .fieldLink RX6 19 "ShadeTree$Tree" "grid" "LShadeTree$Grid;", .fieldLink RX6 23 "ShadeTree$Tree" "shades" "LShadeTree$Shades;"] ++ wsX60)
def wsX6_partAt_r1 : List Cond := [Cond.fieldLink RX6 19 "ShadeTree$Tree" "grid" "LShadeTree$Grid;", Cond.fieldLink RX6 23 "ShadeTree$Tree" "shades" "LShadeTree$Shades;", Cond.methodLink RX6 27 yX2_atLeast, Cond.instanceMethod yX2_atLeast, Cond.selects RX2 yX2_atLeast yX2_atLeast, Cond.initialized RX2, Cond.code yX2_atLeast cX2_atLeast 2 (some .long), Cond.fieldLink RX2 9 "ShadeTree$Shades" "layers" "[J", Cond.methodLink RX6 33 yX1_way, Cond.instanceMethod yX1_way, Cond.selects RX1 yX1_way yX1_way, Cond.initialized RX1, Cond.code yX1_way cX1_way 1 (some .int), Cond.fieldLink RX1 15 "ShadeTree$Grid" "way" "I", Cond.methodLink RX6 39 yX1_partAround, Cond.instanceMethod yX1_partAround, Cond.selects RX1 yX1_partAround yX1_partAround, Cond.code yX1_partAround cX1_partAround 11 (some .long), Cond.methodLink RX1 43 yX1_spread, Cond.instanceMethod yX1_spread, Cond.selects RX1 yX1_spread yX1_spread, Cond.code yX1_spread cX1_spread 8 (some .long), Cond.fieldLink RX1 32 "ShadeTree$Grid" "rightmost" "J", Cond.constantLong RX1 47 (-1)]
def wsX6_partAt_r2 : List Cond := [Cond.fieldLink RX1 29 "ShadeTree$Grid" "leftmost" "J", Cond.fieldLink RX1 19 "ShadeTree$Grid" "wide" "I"]
def wsX6_partAt : List Cond := .code yX6_partAt cX6_partAt 4 (some .long) :: ((wsX6_partAt_r1 ++ wsX6_partAt_r2) ++ wsX60 ++ wsX20 ++ wsX10)
def wsX6_ofLevel : List Cond := .code yX6_ofLevel cX6_ofLevel 2 (some .long) :: ([.fieldLink RX6 23 "ShadeTree$Tree" "shades" "LShadeTree$Shades;", .constantLong RX6 43 (-1), .methodLink RX6 27 yX2_atLeast, .instanceMethod yX2_atLeast, .selects RX2 yX2_atLeast yX2_atLeast, .initialized RX2, .code yX2_atLeast cX2_atLeast 2 (some .long), .fieldLink RX2 9 "ShadeTree$Shades" "layers" "[J"] ++ wsX60 ++ wsX20)
def wsX6_nodeOf_r1 : List Cond := [Cond.fieldLink RX6 19 "ShadeTree$Tree" "grid" "LShadeTree$Grid;", Cond.fieldLink RX6 23 "ShadeTree$Tree" "shades" "LShadeTree$Shades;", Cond.methodLink RX6 45 yX1_hasDot, Cond.instanceMethod yX1_hasDot, Cond.selects RX1 yX1_hasDot yX1_hasDot, Cond.initialized RX1, Cond.code yX1_hasDot cX1_hasDot 2 (some .boolean), Cond.methodLink RX1 35 yX1_size, Cond.instanceMethod yX1_size, Cond.selects RX1 yX1_size yX1_size, Cond.code yX1_size cX1_size 1 (some .int), Cond.fieldLink RX1 19 "ShadeTree$Grid" "wide" "I", Cond.fieldLink RX1 22 "ShadeTree$Grid" "high" "I", Cond.methodLink RX6 49 yX2_of, Cond.instanceMethod yX2_of, Cond.selects RX2 yX2_of yX2_of, Cond.initialized RX2, Cond.code yX2_of cX2_of 4 (some .int), Cond.fieldLink RX2 9 "ShadeTree$Shades" "layers" "[J", Cond.methodLink RX6 53 yX6_partAt, Cond.instanceMethod yX6_partAt, Cond.selects RX6 yX6_partAt yX6_partAt, Cond.initialized RX6, Cond.code yX6_partAt cX6_partAt 4 (some .long)]
def wsX6_nodeOf_r2 : List Cond := [Cond.methodLink RX6 27 yX2_atLeast, Cond.instanceMethod yX2_atLeast, Cond.selects RX2 yX2_atLeast yX2_atLeast, Cond.code yX2_atLeast cX2_atLeast 2 (some .long), Cond.methodLink RX6 33 yX1_way, Cond.instanceMethod yX1_way, Cond.selects RX1 yX1_way yX1_way, Cond.code yX1_way cX1_way 1 (some .int), Cond.fieldLink RX1 15 "ShadeTree$Grid" "way" "I", Cond.methodLink RX6 39 yX1_partAround, Cond.instanceMethod yX1_partAround, Cond.selects RX1 yX1_partAround yX1_partAround, Cond.code yX1_partAround cX1_partAround 11 (some .long), Cond.methodLink RX1 43 yX1_spread, Cond.instanceMethod yX1_spread, Cond.selects RX1 yX1_spread yX1_spread, Cond.code yX1_spread cX1_spread 8 (some .long), Cond.fieldLink RX1 32 "ShadeTree$Grid" "rightmost" "J", Cond.constantLong RX1 47 (-1), Cond.fieldLink RX1 29 "ShadeTree$Grid" "leftmost" "J"]
def wsX6_nodeOf : List Cond := .code yX6_nodeOf cX6_nodeOf 2 (some .long) :: ((wsX6_nodeOf_r1 ++ wsX6_nodeOf_r2) ++ wsX60 ++ wsX10 ++ wsX20)
def wsX6_head : List Cond := .code yX6_head cX6_head 6 (some .int) :: ([.methodLink RX6 57 yX6_ofLevel, .instanceMethod yX6_ofLevel, .selects RX6 yX6_ofLevel yX6_ofLevel, .initialized RX6, .code yX6_ofLevel cX6_ofLevel 2 (some .long), .fieldLink RX6 23 "ShadeTree$Tree" "shades" "LShadeTree$Shades;", .constantLong RX6 43 (-1), .methodLink RX6 27 yX2_atLeast, .instanceMethod yX2_atLeast, .selects RX2 yX2_atLeast yX2_atLeast, .initialized RX2, .code yX2_atLeast cX2_atLeast 2 (some .long), .fieldLink RX2 9 "ShadeTree$Shades" "layers" "[J", .methodLink RX6 60 yJ13_bitCount_95d88, .static yJ13_bitCount_95d88, .initialized RJ13, .code yJ13_bitCount_95d88 cJ13_bitCount_95d88 2 (some .int), .constantLong RJ13 314 (6148914691236517205), .constantLong RJ13 316 (3689348814741910323), .constantLong RJ13 318 (1085102592571150095)] ++ wsX60 ++ wsX20)
def wsX6_parentLevel_r1 : List Cond := [Cond.methodLink RX6 53 yX6_partAt, Cond.instanceMethod yX6_partAt, Cond.selects RX6 yX6_partAt yX6_partAt, Cond.initialized RX6, Cond.code yX6_partAt cX6_partAt 4 (some .long), Cond.fieldLink RX6 19 "ShadeTree$Tree" "grid" "LShadeTree$Grid;", Cond.fieldLink RX6 23 "ShadeTree$Tree" "shades" "LShadeTree$Shades;", Cond.methodLink RX6 27 yX2_atLeast, Cond.instanceMethod yX2_atLeast, Cond.selects RX2 yX2_atLeast yX2_atLeast, Cond.initialized RX2, Cond.code yX2_atLeast cX2_atLeast 2 (some .long), Cond.fieldLink RX2 9 "ShadeTree$Shades" "layers" "[J", Cond.methodLink RX6 33 yX1_way, Cond.instanceMethod yX1_way, Cond.selects RX1 yX1_way yX1_way, Cond.initialized RX1, Cond.code yX1_way cX1_way 1 (some .int), Cond.fieldLink RX1 15 "ShadeTree$Grid" "way" "I", Cond.methodLink RX6 39 yX1_partAround, Cond.instanceMethod yX1_partAround, Cond.selects RX1 yX1_partAround yX1_partAround, Cond.code yX1_partAround cX1_partAround 11 (some .long), Cond.methodLink RX1 43 yX1_spread]
def wsX6_parentLevel_r2 : List Cond := [Cond.instanceMethod yX1_spread, Cond.selects RX1 yX1_spread yX1_spread, Cond.code yX1_spread cX1_spread 8 (some .long), Cond.fieldLink RX1 32 "ShadeTree$Grid" "rightmost" "J", Cond.constantLong RX1 47 (-1), Cond.fieldLink RX1 29 "ShadeTree$Grid" "leftmost" "J", Cond.fieldLink RX1 19 "ShadeTree$Grid" "wide" "I"]
def wsX6_parentLevel : List Cond := .code yX6_parentLevel cX6_parentLevel 5 (some .int) :: ((wsX6_parentLevel_r1 ++ wsX6_parentLevel_r2) ++ wsX60 ++ wsX20 ++ wsX10)
def wsX6_parentHead_r1 : List Cond := [Cond.methodLink RX6 66 yX6_parentLevel, Cond.instanceMethod yX6_parentLevel, Cond.selects RX6 yX6_parentLevel yX6_parentLevel, Cond.initialized RX6, Cond.code yX6_parentLevel cX6_parentLevel 5 (some .int), Cond.methodLink RX6 53 yX6_partAt, Cond.instanceMethod yX6_partAt, Cond.selects RX6 yX6_partAt yX6_partAt, Cond.code yX6_partAt cX6_partAt 4 (some .long), Cond.fieldLink RX6 19 "ShadeTree$Tree" "grid" "LShadeTree$Grid;", Cond.fieldLink RX6 23 "ShadeTree$Tree" "shades" "LShadeTree$Shades;", Cond.methodLink RX6 27 yX2_atLeast, Cond.instanceMethod yX2_atLeast, Cond.selects RX2 yX2_atLeast yX2_atLeast, Cond.initialized RX2, Cond.code yX2_atLeast cX2_atLeast 2 (some .long), Cond.fieldLink RX2 9 "ShadeTree$Shades" "layers" "[J", Cond.methodLink RX6 33 yX1_way, Cond.instanceMethod yX1_way, Cond.selects RX1 yX1_way yX1_way, Cond.initialized RX1, Cond.code yX1_way cX1_way 1 (some .int), Cond.fieldLink RX1 15 "ShadeTree$Grid" "way" "I", Cond.methodLink RX6 39 yX1_partAround]
def wsX6_parentHead_r2 : List Cond := [Cond.instanceMethod yX1_partAround, Cond.selects RX1 yX1_partAround yX1_partAround, Cond.code yX1_partAround cX1_partAround 11 (some .long), Cond.methodLink RX1 43 yX1_spread, Cond.instanceMethod yX1_spread, Cond.selects RX1 yX1_spread yX1_spread, Cond.code yX1_spread cX1_spread 8 (some .long), Cond.fieldLink RX1 32 "ShadeTree$Grid" "rightmost" "J", Cond.constantLong RX1 47 (-1), Cond.fieldLink RX1 29 "ShadeTree$Grid" "leftmost" "J", Cond.fieldLink RX1 19 "ShadeTree$Grid" "wide" "I", Cond.methodLink RX6 70 yX6_head, Cond.instanceMethod yX6_head, Cond.selects RX6 yX6_head yX6_head, Cond.code yX6_head cX6_head 6 (some .int), Cond.methodLink RX6 57 yX6_ofLevel, Cond.instanceMethod yX6_ofLevel, Cond.selects RX6 yX6_ofLevel yX6_ofLevel, Cond.code yX6_ofLevel cX6_ofLevel 2 (some .long), Cond.constantLong RX6 43 (-1), Cond.methodLink RX6 60 yJ13_bitCount_95d88, Cond.static yJ13_bitCount_95d88, Cond.initialized RJ13, Cond.code yJ13_bitCount_95d88 cJ13_bitCount_95d88 2 (some .int)]
def wsX6_parentHead_r3 : List Cond := [Cond.constantLong RJ13 314 (6148914691236517205), Cond.constantLong RJ13 316 (3689348814741910323), Cond.constantLong RJ13 318 (1085102592571150095)]
def wsX6_parentHead : List Cond := .code yX6_parentHead cX6_parentHead 5 (some .int) :: ((wsX6_parentHead_r1 ++ (wsX6_parentHead_r2 ++ wsX6_parentHead_r3)) ++ wsX60 ++ wsX20 ++ wsX10)
def wsX6_countChildren_r1 : List Cond := [Cond.fieldLink RX6 19 "ShadeTree$Tree" "grid" "LShadeTree$Grid;", Cond.fieldLink RX6 23 "ShadeTree$Tree" "shades" "LShadeTree$Shades;", Cond.methodLink RX6 27 yX2_atLeast, Cond.instanceMethod yX2_atLeast, Cond.selects RX2 yX2_atLeast yX2_atLeast, Cond.initialized RX2, Cond.code yX2_atLeast cX2_atLeast 2 (some .long), Cond.fieldLink RX2 9 "ShadeTree$Shades" "layers" "[J", Cond.methodLink RX6 33 yX1_way, Cond.instanceMethod yX1_way, Cond.selects RX1 yX1_way yX1_way, Cond.initialized RX1, Cond.code yX1_way cX1_way 1 (some .int), Cond.fieldLink RX1 15 "ShadeTree$Grid" "way" "I", Cond.methodLink RX6 73 yX1_countParts, Cond.instanceMethod yX1_countParts, Cond.selects RX1 yX1_countParts yX1_countParts, Cond.code yX1_countParts cX1_countParts 7 (some .int), Cond.constantLong RX1 47 (-1), Cond.methodLink RX1 53 yX1_partAround, Cond.instanceMethod yX1_partAround, Cond.selects RX1 yX1_partAround yX1_partAround, Cond.code yX1_partAround cX1_partAround 11 (some .long), Cond.methodLink RX1 43 yX1_spread]
def wsX6_countChildren_r2 : List Cond := [Cond.instanceMethod yX1_spread, Cond.selects RX1 yX1_spread yX1_spread, Cond.code yX1_spread cX1_spread 8 (some .long), Cond.fieldLink RX1 32 "ShadeTree$Grid" "rightmost" "J", Cond.fieldLink RX1 29 "ShadeTree$Grid" "leftmost" "J", Cond.fieldLink RX1 19 "ShadeTree$Grid" "wide" "I"]
def wsX6_countChildren : List Cond := .code yX6_countChildren cX6_countChildren 4 (some .int) :: ((wsX6_countChildren_r1 ++ wsX6_countChildren_r2) ++ wsX60 ++ wsX20 ++ wsX10)
def wsX6_depth_r1 : List Cond := [Cond.methodLink RX6 53 yX6_partAt, Cond.instanceMethod yX6_partAt, Cond.selects RX6 yX6_partAt yX6_partAt, Cond.initialized RX6, Cond.code yX6_partAt cX6_partAt 4 (some .long), Cond.fieldLink RX6 19 "ShadeTree$Tree" "grid" "LShadeTree$Grid;", Cond.fieldLink RX6 23 "ShadeTree$Tree" "shades" "LShadeTree$Shades;", Cond.methodLink RX6 27 yX2_atLeast, Cond.instanceMethod yX2_atLeast, Cond.selects RX2 yX2_atLeast yX2_atLeast, Cond.initialized RX2, Cond.code yX2_atLeast cX2_atLeast 2 (some .long), Cond.fieldLink RX2 9 "ShadeTree$Shades" "layers" "[J", Cond.methodLink RX6 33 yX1_way, Cond.instanceMethod yX1_way, Cond.selects RX1 yX1_way yX1_way, Cond.initialized RX1, Cond.code yX1_way cX1_way 1 (some .int), Cond.fieldLink RX1 15 "ShadeTree$Grid" "way" "I", Cond.methodLink RX6 39 yX1_partAround, Cond.instanceMethod yX1_partAround, Cond.selects RX1 yX1_partAround yX1_partAround, Cond.code yX1_partAround cX1_partAround 11 (some .long), Cond.methodLink RX1 43 yX1_spread]
def wsX6_depth_r2 : List Cond := [Cond.instanceMethod yX1_spread, Cond.selects RX1 yX1_spread yX1_spread, Cond.code yX1_spread cX1_spread 8 (some .long), Cond.fieldLink RX1 32 "ShadeTree$Grid" "rightmost" "J", Cond.constantLong RX1 47 (-1), Cond.fieldLink RX1 29 "ShadeTree$Grid" "leftmost" "J", Cond.fieldLink RX1 19 "ShadeTree$Grid" "wide" "I"]
def wsX6_depth : List Cond := .code yX6_depth cX6_depth 10 (some .int) :: ((wsX6_depth_r1 ++ wsX6_depth_r2) ++ wsX60 ++ wsX20 ++ wsX10)
def wsX6_rise_r1 : List Cond := [Cond.fieldLink RX6 23 "ShadeTree$Tree" "shades" "LShadeTree$Shades;", Cond.methodLink RX6 76 yX2_brightest, Cond.instanceMethod yX2_brightest, Cond.selects RX2 yX2_brightest yX2_brightest, Cond.initialized RX2, Cond.code yX2_brightest cX2_brightest 4 (some .int), Cond.methodLink RX2 34 yX2_atLeast, Cond.instanceMethod yX2_atLeast, Cond.selects RX2 yX2_atLeast yX2_atLeast, Cond.code yX2_atLeast cX2_atLeast 2 (some .long), Cond.fieldLink RX2 9 "ShadeTree$Shades" "layers" "[J", Cond.methodLink RX6 27 yX2_atLeast, Cond.methodLink RX6 53 yX6_partAt, Cond.instanceMethod yX6_partAt, Cond.selects RX6 yX6_partAt yX6_partAt, Cond.initialized RX6, Cond.code yX6_partAt cX6_partAt 4 (some .long), Cond.fieldLink RX6 19 "ShadeTree$Tree" "grid" "LShadeTree$Grid;", Cond.methodLink RX6 33 yX1_way, Cond.instanceMethod yX1_way, Cond.selects RX1 yX1_way yX1_way, Cond.initialized RX1, Cond.code yX1_way cX1_way 1 (some .int), Cond.fieldLink RX1 15 "ShadeTree$Grid" "way" "I"]
def wsX6_rise_r2 : List Cond := [Cond.methodLink RX6 39 yX1_partAround, Cond.instanceMethod yX1_partAround, Cond.selects RX1 yX1_partAround yX1_partAround, Cond.code yX1_partAround cX1_partAround 11 (some .long), Cond.methodLink RX1 43 yX1_spread, Cond.instanceMethod yX1_spread, Cond.selects RX1 yX1_spread yX1_spread, Cond.code yX1_spread cX1_spread 8 (some .long), Cond.fieldLink RX1 32 "ShadeTree$Grid" "rightmost" "J", Cond.constantLong RX1 47 (-1), Cond.fieldLink RX1 29 "ShadeTree$Grid" "leftmost" "J", Cond.fieldLink RX1 19 "ShadeTree$Grid" "wide" "I"]
def wsX6_rise : List Cond := .code yX6_rise cX6_rise 7 (some .int) :: ((wsX6_rise_r1 ++ wsX6_rise_r2) ++ wsX60 ++ wsX20 ++ wsX10)
def wsX6_gain_r1 : List Cond := [Cond.methodLink RX6 79 Lib.Math.max.name, Cond.static Lib.Math.max.name, Cond.initialized "java/lang/Math", Cond.code Lib.Math.max.name Lib.Math.max.code 2 (some .int), Cond.constantLong RX6 43 (-1), Cond.methodLink RX6 53 yX6_partAt, Cond.instanceMethod yX6_partAt, Cond.selects RX6 yX6_partAt yX6_partAt, Cond.initialized RX6, Cond.code yX6_partAt cX6_partAt 4 (some .long), Cond.fieldLink RX6 19 "ShadeTree$Tree" "grid" "LShadeTree$Grid;", Cond.fieldLink RX6 23 "ShadeTree$Tree" "shades" "LShadeTree$Shades;", Cond.methodLink RX6 27 yX2_atLeast, Cond.instanceMethod yX2_atLeast, Cond.selects RX2 yX2_atLeast yX2_atLeast, Cond.initialized RX2, Cond.code yX2_atLeast cX2_atLeast 2 (some .long), Cond.fieldLink RX2 9 "ShadeTree$Shades" "layers" "[J", Cond.methodLink RX6 33 yX1_way, Cond.instanceMethod yX1_way, Cond.selects RX1 yX1_way yX1_way, Cond.initialized RX1, Cond.code yX1_way cX1_way 1 (some .int), Cond.fieldLink RX1 15 "ShadeTree$Grid" "way" "I"]
def wsX6_gain_r2 : List Cond := [Cond.methodLink RX6 39 yX1_partAround, Cond.instanceMethod yX1_partAround, Cond.selects RX1 yX1_partAround yX1_partAround, Cond.code yX1_partAround cX1_partAround 11 (some .long), Cond.methodLink RX1 43 yX1_spread, Cond.instanceMethod yX1_spread, Cond.selects RX1 yX1_spread yX1_spread, Cond.code yX1_spread cX1_spread 8 (some .long), Cond.fieldLink RX1 32 "ShadeTree$Grid" "rightmost" "J", Cond.constantLong RX1 47 (-1), Cond.fieldLink RX1 29 "ShadeTree$Grid" "leftmost" "J", Cond.fieldLink RX1 19 "ShadeTree$Grid" "wide" "I", Cond.methodLink RX6 60 yJ13_bitCount_95d88, Cond.static yJ13_bitCount_95d88, Cond.initialized RJ13, Cond.code yJ13_bitCount_95d88 cJ13_bitCount_95d88 2 (some .int), Cond.constantLong RJ13 314 (6148914691236517205), Cond.constantLong RJ13 316 (3689348814741910323), Cond.constantLong RJ13 318 (1085102592571150095)]
def wsX6_gain : List Cond := .code yX6_gain cX6_gain 5 (some .int) :: ((wsX6_gain_r1 ++ wsX6_gain_r2) ++ wsX60 ++ wsX20 ++ wsX10)
def wsX6_darkest : List Cond := .code yX6_darkest cX6_darkest 4 (some .int) :: ([.fieldLink RX6 23 "ShadeTree$Tree" "shades" "LShadeTree$Shades;", .constantLong RX6 43 (-1), .methodLink RX6 27 yX2_atLeast, .instanceMethod yX2_atLeast, .selects RX2 yX2_atLeast yX2_atLeast, .initialized RX2, .code yX2_atLeast cX2_atLeast 2 (some .long), .fieldLink RX2 9 "ShadeTree$Shades" "layers" "[J"] ++ wsX60 ++ wsX20)
def wsX6_isSteady_r1 : List Cond := [Cond.fieldLink RX6 23 "ShadeTree$Tree" "shades" "LShadeTree$Shades;", Cond.constantLong RX6 43 (-1), Cond.methodLink RX6 85 yX6_gain, Cond.instanceMethod yX6_gain, Cond.selects RX6 yX6_gain yX6_gain, Cond.initialized RX6, Cond.code yX6_gain cX6_gain 5 (some .int), Cond.methodLink RX6 79 Lib.Math.max.name, Cond.static Lib.Math.max.name, Cond.initialized "java/lang/Math", Cond.code Lib.Math.max.name Lib.Math.max.code 2 (some .int), Cond.methodLink RX6 53 yX6_partAt, Cond.instanceMethod yX6_partAt, Cond.selects RX6 yX6_partAt yX6_partAt, Cond.code yX6_partAt cX6_partAt 4 (some .long), Cond.fieldLink RX6 19 "ShadeTree$Tree" "grid" "LShadeTree$Grid;", Cond.methodLink RX6 27 yX2_atLeast, Cond.instanceMethod yX2_atLeast, Cond.selects RX2 yX2_atLeast yX2_atLeast, Cond.initialized RX2, Cond.code yX2_atLeast cX2_atLeast 2 (some .long), Cond.fieldLink RX2 9 "ShadeTree$Shades" "layers" "[J", Cond.methodLink RX6 33 yX1_way, Cond.instanceMethod yX1_way]
def wsX6_isSteady_r2 : List Cond := [Cond.selects RX1 yX1_way yX1_way, Cond.initialized RX1, Cond.code yX1_way cX1_way 1 (some .int), Cond.fieldLink RX1 15 "ShadeTree$Grid" "way" "I", Cond.methodLink RX6 39 yX1_partAround, Cond.instanceMethod yX1_partAround, Cond.selects RX1 yX1_partAround yX1_partAround, Cond.code yX1_partAround cX1_partAround 11 (some .long), Cond.methodLink RX1 43 yX1_spread, Cond.instanceMethod yX1_spread, Cond.selects RX1 yX1_spread yX1_spread, Cond.code yX1_spread cX1_spread 8 (some .long), Cond.fieldLink RX1 32 "ShadeTree$Grid" "rightmost" "J", Cond.constantLong RX1 47 (-1), Cond.fieldLink RX1 29 "ShadeTree$Grid" "leftmost" "J", Cond.fieldLink RX1 19 "ShadeTree$Grid" "wide" "I", Cond.methodLink RX6 60 yJ13_bitCount_95d88, Cond.static yJ13_bitCount_95d88, Cond.initialized RJ13, Cond.code yJ13_bitCount_95d88 cJ13_bitCount_95d88 2 (some .int), Cond.constantLong RJ13 314 (6148914691236517205), Cond.constantLong RJ13 316 (3689348814741910323), Cond.constantLong RJ13 318 (1085102592571150095), Cond.methodLink RX6 66 yX6_parentLevel]
def wsX6_isSteady_r3 : List Cond := [Cond.instanceMethod yX6_parentLevel, Cond.selects RX6 yX6_parentLevel yX6_parentLevel, Cond.code yX6_parentLevel cX6_parentLevel 5 (some .int), Cond.methodLink RX6 89 yX6_darkest, Cond.instanceMethod yX6_darkest, Cond.selects RX6 yX6_darkest yX6_darkest, Cond.code yX6_darkest cX6_darkest 4 (some .int)]
def wsX6_isSteady : List Cond := .code yX6_isSteady cX6_isSteady 13 (some .boolean) :: ((wsX6_isSteady_r1 ++ (wsX6_isSteady_r2 ++ wsX6_isSteady_r3)) ++ wsX60 ++ wsX20 ++ wsX10)
def wsX6_gather_r1 : List Cond := [Cond.fieldLink RX6 95 "ShadeTree$Tree" "size" "I", Cond.fieldLink RX6 9 "ShadeTree$Tree" "nodeParts" "[J", Cond.fieldLink RX6 15 "ShadeTree$Tree" "nodeLevels" "[I", Cond.constantLong RX6 43 (-1), Cond.methodLink RX6 57 yX6_ofLevel, Cond.instanceMethod yX6_ofLevel, Cond.selects RX6 yX6_ofLevel yX6_ofLevel, Cond.initialized RX6, Cond.code yX6_ofLevel cX6_ofLevel 2 (some .long), Cond.fieldLink RX6 23 "ShadeTree$Tree" "shades" "LShadeTree$Shades;", Cond.methodLink RX6 27 yX2_atLeast, Cond.instanceMethod yX2_atLeast, Cond.selects RX2 yX2_atLeast yX2_atLeast, Cond.initialized RX2, Cond.code yX2_atLeast cX2_atLeast 2 (some .long), Cond.fieldLink RX2 9 "ShadeTree$Shades" "layers" "[J", Cond.methodLink RX6 53 yX6_partAt, Cond.instanceMethod yX6_partAt, Cond.selects RX6 yX6_partAt yX6_partAt, Cond.code yX6_partAt cX6_partAt 4 (some .long), Cond.fieldLink RX6 19 "ShadeTree$Tree" "grid" "LShadeTree$Grid;", Cond.methodLink RX6 33 yX1_way, Cond.instanceMethod yX1_way, Cond.selects RX1 yX1_way yX1_way]
def wsX6_gather_r2 : List Cond := [Cond.initialized RX1, Cond.code yX1_way cX1_way 1 (some .int), Cond.fieldLink RX1 15 "ShadeTree$Grid" "way" "I", Cond.methodLink RX6 39 yX1_partAround, Cond.instanceMethod yX1_partAround, Cond.selects RX1 yX1_partAround yX1_partAround, Cond.code yX1_partAround cX1_partAround 11 (some .long), Cond.methodLink RX1 43 yX1_spread, Cond.instanceMethod yX1_spread, Cond.selects RX1 yX1_spread yX1_spread, Cond.code yX1_spread cX1_spread 8 (some .long), Cond.fieldLink RX1 32 "ShadeTree$Grid" "rightmost" "J", Cond.constantLong RX1 47 (-1), Cond.fieldLink RX1 29 "ShadeTree$Grid" "leftmost" "J", Cond.fieldLink RX1 19 "ShadeTree$Grid" "wide" "I"]
def wsX6_gather : List Cond := .code yX6_gather cX6_gather 6 none :: ((wsX6_gather_r1 ++ wsX6_gather_r2) ++ wsX60 ++ wsX20 ++ wsX10)
def wsX6_countNodes_r1 : List Cond := [Cond.fieldLink RX6 95 "ShadeTree$Tree" "size" "I", Cond.methodLink RX6 92 yX6_gather, Cond.instanceMethod yX6_gather, Cond.selects RX6 yX6_gather yX6_gather, Cond.initialized RX6, Cond.code yX6_gather cX6_gather 6 none, Cond.fieldLink RX6 9 "ShadeTree$Tree" "nodeParts" "[J", Cond.fieldLink RX6 15 "ShadeTree$Tree" "nodeLevels" "[I", Cond.constantLong RX6 43 (-1), Cond.methodLink RX6 57 yX6_ofLevel, Cond.instanceMethod yX6_ofLevel, Cond.selects RX6 yX6_ofLevel yX6_ofLevel, Cond.code yX6_ofLevel cX6_ofLevel 2 (some .long), Cond.fieldLink RX6 23 "ShadeTree$Tree" "shades" "LShadeTree$Shades;", Cond.methodLink RX6 27 yX2_atLeast, Cond.instanceMethod yX2_atLeast, Cond.selects RX2 yX2_atLeast yX2_atLeast, Cond.initialized RX2, Cond.code yX2_atLeast cX2_atLeast 2 (some .long), Cond.fieldLink RX2 9 "ShadeTree$Shades" "layers" "[J", Cond.methodLink RX6 53 yX6_partAt, Cond.instanceMethod yX6_partAt, Cond.selects RX6 yX6_partAt yX6_partAt, Cond.code yX6_partAt cX6_partAt 4 (some .long)]
def wsX6_countNodes_r2 : List Cond := [Cond.fieldLink RX6 19 "ShadeTree$Tree" "grid" "LShadeTree$Grid;", Cond.methodLink RX6 33 yX1_way, Cond.instanceMethod yX1_way, Cond.selects RX1 yX1_way yX1_way, Cond.initialized RX1, Cond.code yX1_way cX1_way 1 (some .int), Cond.fieldLink RX1 15 "ShadeTree$Grid" "way" "I", Cond.methodLink RX6 39 yX1_partAround, Cond.instanceMethod yX1_partAround, Cond.selects RX1 yX1_partAround yX1_partAround, Cond.code yX1_partAround cX1_partAround 11 (some .long), Cond.methodLink RX1 43 yX1_spread, Cond.instanceMethod yX1_spread, Cond.selects RX1 yX1_spread yX1_spread, Cond.code yX1_spread cX1_spread 8 (some .long), Cond.fieldLink RX1 32 "ShadeTree$Grid" "rightmost" "J", Cond.constantLong RX1 47 (-1), Cond.fieldLink RX1 29 "ShadeTree$Grid" "leftmost" "J", Cond.fieldLink RX1 19 "ShadeTree$Grid" "wide" "I"]
def wsX6_countNodes : List Cond := .code yX6_countNodes cX6_countNodes 1 (some .int) :: ((wsX6_countNodes_r1 ++ wsX6_countNodes_r2) ++ wsX60 ++ wsX20 ++ wsX10)
def wsX6_countLeaves_r1 : List Cond := [Cond.fieldLink RX6 95 "ShadeTree$Tree" "size" "I", Cond.fieldLink RX6 9 "ShadeTree$Tree" "nodeParts" "[J", Cond.fieldLink RX6 23 "ShadeTree$Tree" "shades" "LShadeTree$Shades;", Cond.fieldLink RX6 15 "ShadeTree$Tree" "nodeLevels" "[I", Cond.methodLink RX6 92 yX6_gather, Cond.instanceMethod yX6_gather, Cond.selects RX6 yX6_gather yX6_gather, Cond.initialized RX6, Cond.code yX6_gather cX6_gather 6 none, Cond.constantLong RX6 43 (-1), Cond.methodLink RX6 57 yX6_ofLevel, Cond.instanceMethod yX6_ofLevel, Cond.selects RX6 yX6_ofLevel yX6_ofLevel, Cond.code yX6_ofLevel cX6_ofLevel 2 (some .long), Cond.methodLink RX6 27 yX2_atLeast, Cond.instanceMethod yX2_atLeast, Cond.selects RX2 yX2_atLeast yX2_atLeast, Cond.initialized RX2, Cond.code yX2_atLeast cX2_atLeast 2 (some .long), Cond.fieldLink RX2 9 "ShadeTree$Shades" "layers" "[J", Cond.methodLink RX6 53 yX6_partAt, Cond.instanceMethod yX6_partAt, Cond.selects RX6 yX6_partAt yX6_partAt, Cond.code yX6_partAt cX6_partAt 4 (some .long)]
def wsX6_countLeaves_r2 : List Cond := [Cond.fieldLink RX6 19 "ShadeTree$Tree" "grid" "LShadeTree$Grid;", Cond.methodLink RX6 33 yX1_way, Cond.instanceMethod yX1_way, Cond.selects RX1 yX1_way yX1_way, Cond.initialized RX1, Cond.code yX1_way cX1_way 1 (some .int), Cond.fieldLink RX1 15 "ShadeTree$Grid" "way" "I", Cond.methodLink RX6 39 yX1_partAround, Cond.instanceMethod yX1_partAround, Cond.selects RX1 yX1_partAround yX1_partAround, Cond.code yX1_partAround cX1_partAround 11 (some .long), Cond.methodLink RX1 43 yX1_spread, Cond.instanceMethod yX1_spread, Cond.selects RX1 yX1_spread yX1_spread, Cond.code yX1_spread cX1_spread 8 (some .long), Cond.fieldLink RX1 32 "ShadeTree$Grid" "rightmost" "J", Cond.constantLong RX1 47 (-1), Cond.fieldLink RX1 29 "ShadeTree$Grid" "leftmost" "J", Cond.fieldLink RX1 19 "ShadeTree$Grid" "wide" "I"]
def wsX6_countLeaves : List Cond := .code yX6_countLeaves cX6_countLeaves 3 (some .int) :: ((wsX6_countLeaves_r1 ++ wsX6_countLeaves_r2) ++ wsX60 ++ wsX20 ++ wsX10)
def wsX6_greatestDepth_r1 : List Cond := [Cond.fieldLink RX6 95 "ShadeTree$Tree" "size" "I", Cond.fieldLink RX6 9 "ShadeTree$Tree" "nodeParts" "[J", Cond.fieldLink RX6 15 "ShadeTree$Tree" "nodeLevels" "[I", Cond.methodLink RX6 79 Lib.Math.max.name, Cond.static Lib.Math.max.name, Cond.initialized "java/lang/Math", Cond.code Lib.Math.max.name Lib.Math.max.code 2 (some .int), Cond.methodLink RX6 92 yX6_gather, Cond.instanceMethod yX6_gather, Cond.selects RX6 yX6_gather yX6_gather, Cond.initialized RX6, Cond.code yX6_gather cX6_gather 6 none, Cond.constantLong RX6 43 (-1), Cond.methodLink RX6 57 yX6_ofLevel, Cond.instanceMethod yX6_ofLevel, Cond.selects RX6 yX6_ofLevel yX6_ofLevel, Cond.code yX6_ofLevel cX6_ofLevel 2 (some .long), Cond.fieldLink RX6 23 "ShadeTree$Tree" "shades" "LShadeTree$Shades;", Cond.methodLink RX6 27 yX2_atLeast, Cond.instanceMethod yX2_atLeast, Cond.selects RX2 yX2_atLeast yX2_atLeast, Cond.initialized RX2, Cond.code yX2_atLeast cX2_atLeast 2 (some .long), Cond.fieldLink RX2 9 "ShadeTree$Shades" "layers" "[J"]
def wsX6_greatestDepth_r2 : List Cond := [Cond.methodLink RX6 53 yX6_partAt, Cond.instanceMethod yX6_partAt, Cond.selects RX6 yX6_partAt yX6_partAt, Cond.code yX6_partAt cX6_partAt 4 (some .long), Cond.fieldLink RX6 19 "ShadeTree$Tree" "grid" "LShadeTree$Grid;", Cond.methodLink RX6 33 yX1_way, Cond.instanceMethod yX1_way, Cond.selects RX1 yX1_way yX1_way, Cond.initialized RX1, Cond.code yX1_way cX1_way 1 (some .int), Cond.fieldLink RX1 15 "ShadeTree$Grid" "way" "I", Cond.methodLink RX6 39 yX1_partAround, Cond.instanceMethod yX1_partAround, Cond.selects RX1 yX1_partAround yX1_partAround, Cond.code yX1_partAround cX1_partAround 11 (some .long), Cond.methodLink RX1 43 yX1_spread, Cond.instanceMethod yX1_spread, Cond.selects RX1 yX1_spread yX1_spread, Cond.code yX1_spread cX1_spread 8 (some .long), Cond.fieldLink RX1 32 "ShadeTree$Grid" "rightmost" "J", Cond.constantLong RX1 47 (-1), Cond.fieldLink RX1 29 "ShadeTree$Grid" "leftmost" "J", Cond.fieldLink RX1 19 "ShadeTree$Grid" "wide" "I", Cond.methodLink RX6 99 yX6_depth]
def wsX6_greatestDepth_r3 : List Cond := [Cond.instanceMethod yX6_depth, Cond.selects RX6 yX6_depth yX6_depth, Cond.code yX6_depth cX6_depth 10 (some .int)]
def wsX6_greatestDepth : List Cond := .code yX6_greatestDepth cX6_greatestDepth 3 (some .int) :: ((wsX6_greatestDepth_r1 ++ (wsX6_greatestDepth_r2 ++ wsX6_greatestDepth_r3)) ++ wsX60 ++ wsX20 ++ wsX10)
def wsX7_init_r1 : List Cond := [Cond.methodLink RX7 1 objectInit, Cond.instanceMethod objectInit, Cond.code objectInit ⟨#[0xb1]⟩ 1 none, Cond.classLink RX7 7 RX5, Cond.instantiable RX5 2, Cond.initialized RX5, Cond.fieldLink RX7 10 "ShadeTree" "text" "LShadeTree$Text;", Cond.classLink RX7 16 RX1, Cond.instantiable RX1 6, Cond.initialized RX1, Cond.fieldLink RX7 19 "ShadeTree" "grid" "LShadeTree$Grid;", Cond.classLink RX7 23 RX2, Cond.instantiable RX2 2, Cond.initialized RX2, Cond.fieldLink RX7 28 "ShadeTree" "now" "LShadeTree$Shades;", Cond.classLink RX7 32 RX6, Cond.instantiable RX6 5, Cond.initialized RX6, Cond.fieldLink RX7 37 "ShadeTree" "tree" "LShadeTree$Tree;", Cond.fieldLink RX7 41 "ShadeTree" "trial" "LShadeTree$Shades;", Cond.fieldLink RX7 44 "ShadeTree" "trialTree" "LShadeTree$Tree;", Cond.classLink RX7 47 RX0, Cond.instantiable RX0 2, Cond.initialized RX0]
def wsX7_init_r2 : List Cond := [Cond.fieldLink RX7 50 "ShadeTree" "doings" "LShadeTree$Doings;", Cond.classLink RX7 54 RX4, Cond.instantiable RX4 2, Cond.initialized RX4, Cond.fieldLink RX7 57 "ShadeTree" "slots" "LShadeTree$Slots;", Cond.classLink RX7 61 RX3, Cond.instantiable RX3 4, Cond.initialized RX3, Cond.fieldLink RX7 64 "ShadeTree" "sights" "LShadeTree$Sights;", Cond.fieldLink RX7 68 "ShadeTree" "seedNow" "J", Cond.instanceMethod yX5_init, Cond.code yX5_init cX5_init 1 none, Cond.methodLink RX5 3 objectInit, Cond.arrayClass .int, Cond.fieldLink RX5 11 "ShadeTree$Text" "letters" "[I", Cond.methodLink RX7 18 yX1_init, Cond.instanceMethod yX1_init, Cond.code yX1_init cX1_init 1 none, Cond.methodLink RX1 3 objectInit, Cond.methodLink RX1 9 yX1_lay, Cond.instanceMethod yX1_lay, Cond.selects RX1 yX1_lay yX1_lay, Cond.code yX1_lay cX1_lay 5 none, Cond.fieldLink RX1 15 "ShadeTree$Grid" "way" "I"]
def wsX7_init_r3 : List Cond := [Cond.fieldLink RX1 19 "ShadeTree$Grid" "wide" "I", Cond.fieldLink RX1 22 "ShadeTree$Grid" "high" "I", Cond.fieldLink RX1 25 "ShadeTree$Grid" "all" "J", Cond.fieldLink RX1 29 "ShadeTree$Grid" "leftmost" "J", Cond.fieldLink RX1 32 "ShadeTree$Grid" "rightmost" "J", Cond.methodLink RX7 25 yX2_init, Cond.instanceMethod yX2_init, Cond.code yX2_init cX2_init 2 none, Cond.methodLink RX2 3 objectInit, Cond.arrayClass .long, Cond.fieldLink RX2 9 "ShadeTree$Shades" "layers" "[J", Cond.fieldLink RX2 15 "ShadeTree$Shades" "grid" "LShadeTree$Grid;", Cond.methodLink RX2 19 yX2_darken, Cond.instanceMethod yX2_darken, Cond.selects RX2 yX2_darken yX2_darken, Cond.code yX2_darken cX2_darken 2 none, Cond.methodLink RX2 22 yX1_all, Cond.instanceMethod yX1_all, Cond.selects RX1 yX1_all yX1_all, Cond.code yX1_all cX1_all 1 (some .long), Cond.methodLink RX7 34 yX6_init, Cond.instanceMethod yX6_init, Cond.code yX6_init cX6_init 3 none, Cond.methodLink RX6 3 objectInit]
def wsX7_init_r4 : List Cond := [Cond.fieldLink RX6 9 "ShadeTree$Tree" "nodeParts" "[J", Cond.fieldLink RX6 15 "ShadeTree$Tree" "nodeLevels" "[I", Cond.fieldLink RX6 19 "ShadeTree$Tree" "grid" "LShadeTree$Grid;", Cond.fieldLink RX6 23 "ShadeTree$Tree" "shades" "LShadeTree$Shades;", Cond.instanceMethod yX0_init, Cond.code yX0_init cX0_init 1 none, Cond.methodLink RX0 3 objectInit, Cond.fieldLink RX0 11 "ShadeTree$Doings" "before" "[J", Cond.instanceMethod yX4_init, Cond.code yX4_init cX4_init 1 none, Cond.methodLink RX4 3 objectInit, Cond.fieldLink RX4 11 "ShadeTree$Slots" "kept" "[J", Cond.arrayClass .boolean, Cond.fieldLink RX4 15 "ShadeTree$Slots" "used" "[Z", Cond.instanceMethod yX3_init, Cond.code yX3_init cX3_init 1 none, Cond.methodLink RX3 1 objectInit, Cond.fieldLink RX3 9 "ShadeTree$Sights" "ones" "[I", Cond.fieldLink RX3 13 "ShadeTree$Sights" "others" "[I", Cond.fieldLink RX3 16 "ShadeTree$Sights" "joined" "[Z"]
def wsX7_init : List Cond := .code yX7_init cX7_init 1 none :: ((wsX7_init_r1 ++ (wsX7_init_r2 ++ (wsX7_init_r3 ++ wsX7_init_r4))) ++ wsX50 ++ wsX70 ++ wsX10 ++ wsX20 ++ wsX60 ++ wsX00 ++ wsX40 ++ wsX30)
def wsX7_write : List Cond := .code yX7_write cX7_write 2 (some .int) :: ([.fieldLink RX7 10 "ShadeTree" "text" "LShadeTree$Text;", .methodLink RX7 72 yX5_add, .instanceMethod yX5_add, .selects RX5 yX5_add yX5_add, .initialized RX5, .code yX5_add cX5_add 2 (some .boolean), .fieldLink RX5 15 "ShadeTree$Text" "size" "I", .fieldLink RX5 11 "ShadeTree$Text" "letters" "[I", .methodLink RX7 76 yX5_size, .instanceMethod yX5_size, .selects RX5 yX5_size yX5_size, .code yX5_size cX5_size 1 (some .int)] ++ wsX70 ++ wsX50)
def wsX7_wipe : List Cond := .code yX7_wipe cX7_wipe 2 (some .int) :: ([.fieldLink RX7 10 "ShadeTree" "text" "LShadeTree$Text;", .methodLink RX7 76 yX5_size, .instanceMethod yX5_size, .selects RX5 yX5_size yX5_size, .initialized RX5, .code yX5_size cX5_size 1 (some .int), .fieldLink RX5 15 "ShadeTree$Text" "size" "I", .methodLink RX7 80 yX5_clear, .instanceMethod yX5_clear, .selects RX5 yX5_clear yX5_clear, .code yX5_clear cX5_clear 1 none] ++ wsX70 ++ wsX50)
def wsX7_fault : List Cond := .code yX7_fault cX7_fault 1 (some .int) :: ([.fieldLink RX7 10 "ShadeTree" "text" "LShadeTree$Text;", .methodLink RX7 83 yX5_firstFault, .instanceMethod yX5_firstFault, .selects RX5 yX5_firstFault yX5_firstFault, .initialized RX5, .code yX5_firstFault cX5_firstFault 2 (some .int), .fieldLink RX5 15 "ShadeTree$Text" "size" "I", .methodLink RX5 19 yX5_fits, .instanceMethod yX5_fits, .selects RX5 yX5_fits yX5_fits, .code yX5_fits cX5_fits 3 (some .boolean), .methodLink RX5 27 yX5_figure, .instanceMethod yX5_figure, .selects RX5 yX5_figure yX5_figure, .code yX5_figure cX5_figure 2 (some .int), .fieldLink RX5 11 "ShadeTree$Text" "letters" "[I", .methodLink RX5 23 yX5_wholeSize, .instanceMethod yX5_wholeSize, .selects RX5 yX5_wholeSize yX5_wholeSize, .code yX5_wholeSize cX5_wholeSize 1 (some .int), .static yX7_isShade, .initialized RX7, .code yX7_isShade cX7_isShade 1 (some .boolean)] ++ wsX70 ++ wsX50)
def wsX7_picture_r1 : List Cond := [Cond.fieldLink RX7 10 "ShadeTree" "text" "LShadeTree$Text;", Cond.fieldLink RX7 19 "ShadeTree" "grid" "LShadeTree$Grid;", Cond.fieldLink RX7 28 "ShadeTree" "now" "LShadeTree$Shades;", Cond.fieldLink RX7 50 "ShadeTree" "doings" "LShadeTree$Doings;", Cond.fieldLink RX7 57 "ShadeTree" "slots" "LShadeTree$Slots;", Cond.fieldLink RX7 37 "ShadeTree" "tree" "LShadeTree$Tree;", Cond.methodLink RX7 83 yX5_firstFault, Cond.instanceMethod yX5_firstFault, Cond.selects RX5 yX5_firstFault yX5_firstFault, Cond.initialized RX5, Cond.code yX5_firstFault cX5_firstFault 2 (some .int), Cond.fieldLink RX5 15 "ShadeTree$Text" "size" "I", Cond.methodLink RX5 19 yX5_fits, Cond.instanceMethod yX5_fits, Cond.selects RX5 yX5_fits yX5_fits, Cond.code yX5_fits cX5_fits 3 (some .boolean), Cond.methodLink RX5 27 yX5_figure, Cond.instanceMethod yX5_figure, Cond.selects RX5 yX5_figure yX5_figure, Cond.code yX5_figure cX5_figure 2 (some .int), Cond.fieldLink RX5 11 "ShadeTree$Text" "letters" "[I", Cond.methodLink RX5 23 yX5_wholeSize, Cond.instanceMethod yX5_wholeSize, Cond.selects RX5 yX5_wholeSize yX5_wholeSize]
def wsX7_picture_r2 : List Cond := [Cond.code yX5_wholeSize cX5_wholeSize 1 (some .int), Cond.static yX7_isShade, Cond.initialized RX7, Cond.code yX7_isShade cX7_isShade 1 (some .boolean), Cond.methodLink RX7 86 yX5_figure, Cond.methodLink RX7 90 yX1_lay, Cond.instanceMethod yX1_lay, Cond.selects RX1 yX1_lay yX1_lay, Cond.initialized RX1, Cond.code yX1_lay cX1_lay 5 none, Cond.fieldLink RX1 15 "ShadeTree$Grid" "way" "I", Cond.fieldLink RX1 19 "ShadeTree$Grid" "wide" "I", Cond.fieldLink RX1 22 "ShadeTree$Grid" "high" "I", Cond.fieldLink RX1 25 "ShadeTree$Grid" "all" "J", Cond.fieldLink RX1 29 "ShadeTree$Grid" "leftmost" "J", Cond.fieldLink RX1 32 "ShadeTree$Grid" "rightmost" "J", Cond.methodLink RX7 94 yX2_darken, Cond.instanceMethod yX2_darken, Cond.selects RX2 yX2_darken yX2_darken, Cond.initialized RX2, Cond.code yX2_darken cX2_darken 2 none, Cond.fieldLink RX2 9 "ShadeTree$Shades" "layers" "[J", Cond.fieldLink RX2 15 "ShadeTree$Shades" "grid" "LShadeTree$Grid;", Cond.methodLink RX2 22 yX1_all]
def wsX7_picture_r3 : List Cond := [Cond.instanceMethod yX1_all, Cond.selects RX1 yX1_all yX1_all, Cond.code yX1_all cX1_all 1 (some .long), Cond.methodLink RX7 97 yX1_size, Cond.instanceMethod yX1_size, Cond.selects RX1 yX1_size yX1_size, Cond.code yX1_size cX1_size 1 (some .int), Cond.methodLink RX7 98 yX2_set, Cond.instanceMethod yX2_set, Cond.selects RX2 yX2_set yX2_set, Cond.code yX2_set cX2_set 6 none, Cond.constantLong RX2 38 (-1), Cond.methodLink RX7 102 yX0_clear, Cond.instanceMethod yX0_clear, Cond.selects RX0 yX0_clear yX0_clear, Cond.initialized RX0, Cond.code yX0_clear cX0_clear 1 none, Cond.fieldLink RX0 15 "ShadeTree$Doings" "size" "I", Cond.methodLink RX7 103 yX4_clear, Cond.instanceMethod yX4_clear, Cond.selects RX4 yX4_clear yX4_clear, Cond.initialized RX4, Cond.code yX4_clear cX4_clear 2 none, Cond.fieldLink RX4 15 "ShadeTree$Slots" "used" "[Z"]
def wsX7_picture_r4 : List Cond := [Cond.methodLink RX7 104 yX6_countNodes, Cond.instanceMethod yX6_countNodes, Cond.selects RX6 yX6_countNodes yX6_countNodes, Cond.initialized RX6, Cond.code yX6_countNodes cX6_countNodes 1 (some .int), Cond.fieldLink RX6 95 "ShadeTree$Tree" "size" "I", Cond.methodLink RX6 92 yX6_gather, Cond.instanceMethod yX6_gather, Cond.selects RX6 yX6_gather yX6_gather, Cond.code yX6_gather cX6_gather 6 none, Cond.fieldLink RX6 9 "ShadeTree$Tree" "nodeParts" "[J", Cond.fieldLink RX6 15 "ShadeTree$Tree" "nodeLevels" "[I", Cond.constantLong RX6 43 (-1), Cond.methodLink RX6 57 yX6_ofLevel, Cond.instanceMethod yX6_ofLevel, Cond.selects RX6 yX6_ofLevel yX6_ofLevel, Cond.code yX6_ofLevel cX6_ofLevel 2 (some .long), Cond.fieldLink RX6 23 "ShadeTree$Tree" "shades" "LShadeTree$Shades;", Cond.methodLink RX6 27 yX2_atLeast, Cond.instanceMethod yX2_atLeast, Cond.selects RX2 yX2_atLeast yX2_atLeast, Cond.code yX2_atLeast cX2_atLeast 2 (some .long), Cond.methodLink RX6 53 yX6_partAt, Cond.instanceMethod yX6_partAt]
def wsX7_picture_r5 : List Cond := [Cond.selects RX6 yX6_partAt yX6_partAt, Cond.code yX6_partAt cX6_partAt 4 (some .long), Cond.fieldLink RX6 19 "ShadeTree$Tree" "grid" "LShadeTree$Grid;", Cond.methodLink RX6 33 yX1_way, Cond.instanceMethod yX1_way, Cond.selects RX1 yX1_way yX1_way, Cond.code yX1_way cX1_way 1 (some .int), Cond.methodLink RX6 39 yX1_partAround, Cond.instanceMethod yX1_partAround, Cond.selects RX1 yX1_partAround yX1_partAround, Cond.code yX1_partAround cX1_partAround 11 (some .long), Cond.methodLink RX1 43 yX1_spread, Cond.instanceMethod yX1_spread, Cond.selects RX1 yX1_spread yX1_spread, Cond.code yX1_spread cX1_spread 8 (some .long), Cond.constantLong RX1 47 (-1)]
def wsX7_picture : List Cond := .code yX7_picture cX7_picture 2 (some .int) :: ((wsX7_picture_r1 ++ (wsX7_picture_r2 ++ (wsX7_picture_r3 ++ (wsX7_picture_r4 ++ wsX7_picture_r5)))) ++ wsX70 ++ wsX50 ++ wsX10 ++ wsX20 ++ wsX00 ++ wsX40 ++ wsX60)
def wsX7_about_r1 : List Cond := [Cond.fieldLink RX7 19 "ShadeTree" "grid" "LShadeTree$Grid;", Cond.fieldLink RX7 37 "ShadeTree" "tree" "LShadeTree$Tree;", Cond.fieldLink RX7 28 "ShadeTree" "now" "LShadeTree$Shades;", Cond.fieldLink RX7 50 "ShadeTree" "doings" "LShadeTree$Doings;", Cond.fieldLink RX7 64 "ShadeTree" "sights" "LShadeTree$Sights;", Cond.fieldLink RX7 10 "ShadeTree" "text" "LShadeTree$Text;", Cond.methodLink RX7 107 yX1_way, Cond.instanceMethod yX1_way, Cond.selects RX1 yX1_way yX1_way, Cond.initialized RX1, Cond.code yX1_way cX1_way 1 (some .int), Cond.fieldLink RX1 15 "ShadeTree$Grid" "way" "I", Cond.methodLink RX7 110 yX1_wide, Cond.instanceMethod yX1_wide, Cond.selects RX1 yX1_wide yX1_wide, Cond.code yX1_wide cX1_wide 1 (some .int), Cond.fieldLink RX1 19 "ShadeTree$Grid" "wide" "I", Cond.methodLink RX7 113 yX1_high, Cond.instanceMethod yX1_high, Cond.selects RX1 yX1_high yX1_high, Cond.code yX1_high cX1_high 1 (some .int), Cond.fieldLink RX1 22 "ShadeTree$Grid" "high" "I", Cond.methodLink RX7 104 yX6_countNodes, Cond.instanceMethod yX6_countNodes]
def wsX7_about_r2 : List Cond := [Cond.selects RX6 yX6_countNodes yX6_countNodes, Cond.initialized RX6, Cond.code yX6_countNodes cX6_countNodes 1 (some .int), Cond.fieldLink RX6 95 "ShadeTree$Tree" "size" "I", Cond.methodLink RX6 92 yX6_gather, Cond.instanceMethod yX6_gather, Cond.selects RX6 yX6_gather yX6_gather, Cond.code yX6_gather cX6_gather 6 none, Cond.fieldLink RX6 9 "ShadeTree$Tree" "nodeParts" "[J", Cond.fieldLink RX6 15 "ShadeTree$Tree" "nodeLevels" "[I", Cond.constantLong RX6 43 (-1), Cond.methodLink RX6 57 yX6_ofLevel, Cond.instanceMethod yX6_ofLevel, Cond.selects RX6 yX6_ofLevel yX6_ofLevel, Cond.code yX6_ofLevel cX6_ofLevel 2 (some .long), Cond.fieldLink RX6 23 "ShadeTree$Tree" "shades" "LShadeTree$Shades;", Cond.methodLink RX6 27 yX2_atLeast, Cond.instanceMethod yX2_atLeast, Cond.selects RX2 yX2_atLeast yX2_atLeast, Cond.initialized RX2, Cond.code yX2_atLeast cX2_atLeast 2 (some .long), Cond.fieldLink RX2 9 "ShadeTree$Shades" "layers" "[J", Cond.methodLink RX6 53 yX6_partAt, Cond.instanceMethod yX6_partAt]
def wsX7_about_r3 : List Cond := [Cond.selects RX6 yX6_partAt yX6_partAt, Cond.code yX6_partAt cX6_partAt 4 (some .long), Cond.fieldLink RX6 19 "ShadeTree$Tree" "grid" "LShadeTree$Grid;", Cond.methodLink RX6 33 yX1_way, Cond.methodLink RX6 39 yX1_partAround, Cond.instanceMethod yX1_partAround, Cond.selects RX1 yX1_partAround yX1_partAround, Cond.code yX1_partAround cX1_partAround 11 (some .long), Cond.methodLink RX1 43 yX1_spread, Cond.instanceMethod yX1_spread, Cond.selects RX1 yX1_spread yX1_spread, Cond.code yX1_spread cX1_spread 8 (some .long), Cond.fieldLink RX1 32 "ShadeTree$Grid" "rightmost" "J", Cond.constantLong RX1 47 (-1), Cond.fieldLink RX1 29 "ShadeTree$Grid" "leftmost" "J", Cond.methodLink RX7 116 yX6_countLeaves, Cond.instanceMethod yX6_countLeaves, Cond.selects RX6 yX6_countLeaves yX6_countLeaves, Cond.code yX6_countLeaves cX6_countLeaves 3 (some .int), Cond.methodLink RX7 119 yX6_greatestDepth, Cond.instanceMethod yX6_greatestDepth, Cond.selects RX6 yX6_greatestDepth yX6_greatestDepth, Cond.code yX6_greatestDepth cX6_greatestDepth 3 (some .int), Cond.methodLink RX6 79 Lib.Math.max.name]
def wsX7_about_r4 : List Cond := [Cond.static Lib.Math.max.name, Cond.initialized "java/lang/Math", Cond.code Lib.Math.max.name Lib.Math.max.code 2 (some .int), Cond.methodLink RX6 99 yX6_depth, Cond.instanceMethod yX6_depth, Cond.selects RX6 yX6_depth yX6_depth, Cond.code yX6_depth cX6_depth 10 (some .int), Cond.methodLink RX7 122 yX1_all, Cond.instanceMethod yX1_all, Cond.selects RX1 yX1_all yX1_all, Cond.code yX1_all cX1_all 1 (some .long), Cond.fieldLink RX1 25 "ShadeTree$Grid" "all" "J", Cond.methodLink RX7 126 yX2_light, Cond.instanceMethod yX2_light, Cond.selects RX2 yX2_light yX2_light, Cond.code yX2_light cX2_light 5 (some .int), Cond.methodLink RX2 28 yJ13_bitCount_95d88, Cond.static yJ13_bitCount_95d88, Cond.initialized RJ13, Cond.code yJ13_bitCount_95d88 cJ13_bitCount_95d88 2 (some .int), Cond.constantLong RJ13 314 (6148914691236517205), Cond.constantLong RJ13 316 (3689348814741910323), Cond.constantLong RJ13 318 (1085102592571150095), Cond.methodLink RX7 130 yX0_size]
def wsX7_about_r5 : List Cond := [Cond.instanceMethod yX0_size, Cond.selects RX0 yX0_size yX0_size, Cond.initialized RX0, Cond.code yX0_size cX0_size 1 (some .int), Cond.fieldLink RX0 15 "ShadeTree$Doings" "size" "I", Cond.methodLink RX7 131 yX3_size, Cond.instanceMethod yX3_size, Cond.selects RX3 yX3_size yX3_size, Cond.initialized RX3, Cond.code yX3_size cX3_size 1 (some .int), Cond.fieldLink RX3 20 "ShadeTree$Sights" "size" "I", Cond.methodLink RX7 76 yX5_size, Cond.instanceMethod yX5_size, Cond.selects RX5 yX5_size yX5_size, Cond.initialized RX5, Cond.code yX5_size cX5_size 1 (some .int), Cond.fieldLink RX5 15 "ShadeTree$Text" "size" "I"]
def wsX7_about : List Cond := .code yX7_about cX7_about 2 (some .int) :: ((wsX7_about_r1 ++ (wsX7_about_r2 ++ (wsX7_about_r3 ++ (wsX7_about_r4 ++ wsX7_about_r5)))) ++ wsX70 ++ wsX10 ++ wsX60 ++ wsX20 ++ wsX00 ++ wsX30 ++ wsX50)
def wsX7_shade : List Cond := .code yX7_shade cX7_shade 2 (some .int) :: ([.fieldLink RX7 19 "ShadeTree" "grid" "LShadeTree$Grid;", .fieldLink RX7 28 "ShadeTree" "now" "LShadeTree$Shades;", .methodLink RX7 132 yX1_hasDot, .instanceMethod yX1_hasDot, .selects RX1 yX1_hasDot yX1_hasDot, .initialized RX1, .code yX1_hasDot cX1_hasDot 2 (some .boolean), .methodLink RX1 35 yX1_size, .instanceMethod yX1_size, .selects RX1 yX1_size yX1_size, .code yX1_size cX1_size 1 (some .int), .fieldLink RX1 19 "ShadeTree$Grid" "wide" "I", .fieldLink RX1 22 "ShadeTree$Grid" "high" "I", .methodLink RX7 135 yX2_of, .instanceMethod yX2_of, .selects RX2 yX2_of yX2_of, .initialized RX2, .code yX2_of cX2_of 4 (some .int), .fieldLink RX2 9 "ShadeTree$Shades" "layers" "[J"] ++ wsX70 ++ wsX10 ++ wsX20)
def wsX7_node_r1 : List Cond := [Cond.fieldLink RX7 19 "ShadeTree" "grid" "LShadeTree$Grid;", Cond.fieldLink RX7 28 "ShadeTree" "now" "LShadeTree$Shades;", Cond.fieldLink RX7 37 "ShadeTree" "tree" "LShadeTree$Tree;", Cond.methodLink RX7 132 yX1_hasDot, Cond.instanceMethod yX1_hasDot, Cond.selects RX1 yX1_hasDot yX1_hasDot, Cond.initialized RX1, Cond.code yX1_hasDot cX1_hasDot 2 (some .boolean), Cond.methodLink RX1 35 yX1_size, Cond.instanceMethod yX1_size, Cond.selects RX1 yX1_size yX1_size, Cond.code yX1_size cX1_size 1 (some .int), Cond.fieldLink RX1 19 "ShadeTree$Grid" "wide" "I", Cond.fieldLink RX1 22 "ShadeTree$Grid" "high" "I", Cond.methodLink RX7 135 yX2_of, Cond.instanceMethod yX2_of, Cond.selects RX2 yX2_of yX2_of, Cond.initialized RX2, Cond.code yX2_of cX2_of 4 (some .int), Cond.fieldLink RX2 9 "ShadeTree$Shades" "layers" "[J", Cond.methodLink RX7 138 yX6_nodeOf, Cond.instanceMethod yX6_nodeOf, Cond.selects RX6 yX6_nodeOf yX6_nodeOf, Cond.initialized RX6]
def wsX7_node_r2 : List Cond := [Cond.code yX6_nodeOf cX6_nodeOf 2 (some .long), Cond.fieldLink RX6 19 "ShadeTree$Tree" "grid" "LShadeTree$Grid;", Cond.fieldLink RX6 23 "ShadeTree$Tree" "shades" "LShadeTree$Shades;", Cond.methodLink RX6 45 yX1_hasDot, Cond.methodLink RX6 49 yX2_of, Cond.methodLink RX6 53 yX6_partAt, Cond.instanceMethod yX6_partAt, Cond.selects RX6 yX6_partAt yX6_partAt, Cond.code yX6_partAt cX6_partAt 4 (some .long), Cond.methodLink RX6 27 yX2_atLeast, Cond.instanceMethod yX2_atLeast, Cond.selects RX2 yX2_atLeast yX2_atLeast, Cond.code yX2_atLeast cX2_atLeast 2 (some .long), Cond.methodLink RX6 33 yX1_way, Cond.instanceMethod yX1_way, Cond.selects RX1 yX1_way yX1_way, Cond.code yX1_way cX1_way 1 (some .int), Cond.fieldLink RX1 15 "ShadeTree$Grid" "way" "I", Cond.methodLink RX6 39 yX1_partAround, Cond.instanceMethod yX1_partAround, Cond.selects RX1 yX1_partAround yX1_partAround, Cond.code yX1_partAround cX1_partAround 11 (some .long), Cond.methodLink RX1 43 yX1_spread, Cond.instanceMethod yX1_spread]
def wsX7_node_r3 : List Cond := [Cond.selects RX1 yX1_spread yX1_spread, Cond.code yX1_spread cX1_spread 8 (some .long), Cond.fieldLink RX1 32 "ShadeTree$Grid" "rightmost" "J", Cond.constantLong RX1 47 (-1), Cond.fieldLink RX1 29 "ShadeTree$Grid" "leftmost" "J", Cond.methodLink RX7 142 yX6_head, Cond.instanceMethod yX6_head, Cond.selects RX6 yX6_head yX6_head, Cond.code yX6_head cX6_head 6 (some .int), Cond.methodLink RX6 57 yX6_ofLevel, Cond.instanceMethod yX6_ofLevel, Cond.selects RX6 yX6_ofLevel yX6_ofLevel, Cond.code yX6_ofLevel cX6_ofLevel 2 (some .long), Cond.constantLong RX6 43 (-1), Cond.methodLink RX6 60 yJ13_bitCount_95d88, Cond.static yJ13_bitCount_95d88, Cond.initialized RJ13, Cond.code yJ13_bitCount_95d88 cJ13_bitCount_95d88 2 (some .int), Cond.constantLong RJ13 314 (6148914691236517205), Cond.constantLong RJ13 316 (3689348814741910323), Cond.constantLong RJ13 318 (1085102592571150095), Cond.methodLink RX7 146 yJ13_bitCount_95d88, Cond.methodLink RX7 126 yX2_light, Cond.instanceMethod yX2_light]
def wsX7_node_r4 : List Cond := [Cond.selects RX2 yX2_light yX2_light, Cond.code yX2_light cX2_light 5 (some .int), Cond.methodLink RX2 28 yJ13_bitCount_95d88, Cond.methodLink RX7 151 yX6_parentHead, Cond.instanceMethod yX6_parentHead, Cond.selects RX6 yX6_parentHead yX6_parentHead, Cond.code yX6_parentHead cX6_parentHead 5 (some .int), Cond.methodLink RX6 66 yX6_parentLevel, Cond.instanceMethod yX6_parentLevel, Cond.selects RX6 yX6_parentLevel yX6_parentLevel, Cond.code yX6_parentLevel cX6_parentLevel 5 (some .int), Cond.methodLink RX6 70 yX6_head, Cond.methodLink RX7 154 yX6_countChildren, Cond.instanceMethod yX6_countChildren, Cond.selects RX6 yX6_countChildren yX6_countChildren, Cond.code yX6_countChildren cX6_countChildren 4 (some .int), Cond.methodLink RX6 73 yX1_countParts, Cond.instanceMethod yX1_countParts, Cond.selects RX1 yX1_countParts yX1_countParts, Cond.code yX1_countParts cX1_countParts 7 (some .int), Cond.methodLink RX1 53 yX1_partAround, Cond.methodLink RX7 157 yX6_depth, Cond.instanceMethod yX6_depth, Cond.selects RX6 yX6_depth yX6_depth]
def wsX7_node_r5 : List Cond := [Cond.code yX6_depth cX6_depth 10 (some .int), Cond.methodLink RX7 160 yX1_columnsOf, Cond.instanceMethod yX1_columnsOf, Cond.selects RX1 yX1_columnsOf yX1_columnsOf, Cond.code yX1_columnsOf cX1_columnsOf 5 (some .int), Cond.methodLink RX7 163 yX1_rowsOf, Cond.instanceMethod yX1_rowsOf, Cond.selects RX1 yX1_rowsOf yX1_rowsOf, Cond.code yX1_rowsOf cX1_rowsOf 5 (some .int), Cond.methodLink RX1 39 yX1_row, Cond.instanceMethod yX1_row, Cond.selects RX1 yX1_row yX1_row, Cond.code yX1_row cX1_row 2 (some .long), Cond.methodLink RX7 166 yX6_rise, Cond.instanceMethod yX6_rise, Cond.selects RX6 yX6_rise yX6_rise, Cond.code yX6_rise cX6_rise 7 (some .int), Cond.methodLink RX6 76 yX2_brightest, Cond.instanceMethod yX2_brightest, Cond.selects RX2 yX2_brightest yX2_brightest, Cond.code yX2_brightest cX2_brightest 4 (some .int), Cond.methodLink RX2 34 yX2_atLeast]
def wsX7_node : List Cond := .code yX7_node cX7_node 6 (some .int) :: ((wsX7_node_r1 ++ (wsX7_node_r2 ++ (wsX7_node_r3 ++ (wsX7_node_r4 ++ wsX7_node_r5)))) ++ wsX70 ++ wsX10 ++ wsX20 ++ wsX60)
def wsX7_dots_r1 : List Cond := [Cond.fieldLink RX7 19 "ShadeTree" "grid" "LShadeTree$Grid;", Cond.fieldLink RX7 37 "ShadeTree" "tree" "LShadeTree$Tree;", Cond.constantLong RX7 169 (-1), Cond.methodLink RX7 132 yX1_hasDot, Cond.instanceMethod yX1_hasDot, Cond.selects RX1 yX1_hasDot yX1_hasDot, Cond.initialized RX1, Cond.code yX1_hasDot cX1_hasDot 2 (some .boolean), Cond.methodLink RX1 35 yX1_size, Cond.instanceMethod yX1_size, Cond.selects RX1 yX1_size yX1_size, Cond.code yX1_size cX1_size 1 (some .int), Cond.fieldLink RX1 19 "ShadeTree$Grid" "wide" "I", Cond.fieldLink RX1 22 "ShadeTree$Grid" "high" "I", Cond.methodLink RX7 138 yX6_nodeOf, Cond.instanceMethod yX6_nodeOf, Cond.selects RX6 yX6_nodeOf yX6_nodeOf, Cond.initialized RX6, Cond.code yX6_nodeOf cX6_nodeOf 2 (some .long), Cond.fieldLink RX6 19 "ShadeTree$Tree" "grid" "LShadeTree$Grid;", Cond.fieldLink RX6 23 "ShadeTree$Tree" "shades" "LShadeTree$Shades;", Cond.methodLink RX6 45 yX1_hasDot, Cond.methodLink RX6 49 yX2_of, Cond.instanceMethod yX2_of]
def wsX7_dots_r2 : List Cond := [Cond.selects RX2 yX2_of yX2_of, Cond.initialized RX2, Cond.code yX2_of cX2_of 4 (some .int), Cond.fieldLink RX2 9 "ShadeTree$Shades" "layers" "[J", Cond.methodLink RX6 53 yX6_partAt, Cond.instanceMethod yX6_partAt, Cond.selects RX6 yX6_partAt yX6_partAt, Cond.code yX6_partAt cX6_partAt 4 (some .long), Cond.methodLink RX6 27 yX2_atLeast, Cond.instanceMethod yX2_atLeast, Cond.selects RX2 yX2_atLeast yX2_atLeast, Cond.code yX2_atLeast cX2_atLeast 2 (some .long), Cond.methodLink RX6 33 yX1_way, Cond.instanceMethod yX1_way, Cond.selects RX1 yX1_way yX1_way, Cond.code yX1_way cX1_way 1 (some .int), Cond.fieldLink RX1 15 "ShadeTree$Grid" "way" "I", Cond.methodLink RX6 39 yX1_partAround, Cond.instanceMethod yX1_partAround, Cond.selects RX1 yX1_partAround yX1_partAround, Cond.code yX1_partAround cX1_partAround 11 (some .long), Cond.methodLink RX1 43 yX1_spread, Cond.instanceMethod yX1_spread, Cond.selects RX1 yX1_spread yX1_spread]
def wsX7_dots_r3 : List Cond := [Cond.code yX1_spread cX1_spread 8 (some .long), Cond.fieldLink RX1 32 "ShadeTree$Grid" "rightmost" "J", Cond.constantLong RX1 47 (-1), Cond.fieldLink RX1 29 "ShadeTree$Grid" "leftmost" "J"]
def wsX7_dots : List Cond := .code yX7_dots cX7_dots 2 (some .long) :: ((wsX7_dots_r1 ++ (wsX7_dots_r2 ++ wsX7_dots_r3)) ++ wsX70 ++ wsX10 ++ wsX60 ++ wsX20)
def wsX7_parts_r1 : List Cond := [Cond.fieldLink RX7 19 "ShadeTree" "grid" "LShadeTree$Grid;", Cond.fieldLink RX7 28 "ShadeTree" "now" "LShadeTree$Shades;", Cond.methodLink RX7 171 yX7_isShade, Cond.static yX7_isShade, Cond.initialized RX7, Cond.code yX7_isShade cX7_isShade 1 (some .boolean), Cond.methodLink RX7 174 yX2_atLeast, Cond.instanceMethod yX2_atLeast, Cond.selects RX2 yX2_atLeast yX2_atLeast, Cond.initialized RX2, Cond.code yX2_atLeast cX2_atLeast 2 (some .long), Cond.fieldLink RX2 9 "ShadeTree$Shades" "layers" "[J", Cond.methodLink RX7 107 yX1_way, Cond.instanceMethod yX1_way, Cond.selects RX1 yX1_way yX1_way, Cond.initialized RX1, Cond.code yX1_way cX1_way 1 (some .int), Cond.fieldLink RX1 15 "ShadeTree$Grid" "way" "I", Cond.methodLink RX7 177 yX1_countParts, Cond.instanceMethod yX1_countParts, Cond.selects RX1 yX1_countParts yX1_countParts, Cond.code yX1_countParts cX1_countParts 7 (some .int), Cond.constantLong RX1 47 (-1), Cond.methodLink RX1 53 yX1_partAround]
def wsX7_parts_r2 : List Cond := [Cond.instanceMethod yX1_partAround, Cond.selects RX1 yX1_partAround yX1_partAround, Cond.code yX1_partAround cX1_partAround 11 (some .long), Cond.methodLink RX1 43 yX1_spread, Cond.instanceMethod yX1_spread, Cond.selects RX1 yX1_spread yX1_spread, Cond.code yX1_spread cX1_spread 8 (some .long), Cond.fieldLink RX1 32 "ShadeTree$Grid" "rightmost" "J", Cond.fieldLink RX1 29 "ShadeTree$Grid" "leftmost" "J", Cond.fieldLink RX1 19 "ShadeTree$Grid" "wide" "I"]
def wsX7_parts : List Cond := .code yX7_parts cX7_parts 2 (some .int) :: ((wsX7_parts_r1 ++ wsX7_parts_r2) ++ wsX70 ++ wsX20 ++ wsX10)
def wsX7_paint_r1 : List Cond := [Cond.fieldLink RX7 19 "ShadeTree" "grid" "LShadeTree$Grid;", Cond.fieldLink RX7 28 "ShadeTree" "now" "LShadeTree$Shades;", Cond.fieldLink RX7 50 "ShadeTree" "doings" "LShadeTree$Doings;", Cond.methodLink RX7 132 yX1_hasDot, Cond.instanceMethod yX1_hasDot, Cond.selects RX1 yX1_hasDot yX1_hasDot, Cond.initialized RX1, Cond.code yX1_hasDot cX1_hasDot 2 (some .boolean), Cond.methodLink RX1 35 yX1_size, Cond.instanceMethod yX1_size, Cond.selects RX1 yX1_size yX1_size, Cond.code yX1_size cX1_size 1 (some .int), Cond.fieldLink RX1 19 "ShadeTree$Grid" "wide" "I", Cond.fieldLink RX1 22 "ShadeTree$Grid" "high" "I", Cond.methodLink RX7 171 yX7_isShade, Cond.static yX7_isShade, Cond.initialized RX7, Cond.code yX7_isShade cX7_isShade 1 (some .boolean), Cond.methodLink RX7 135 yX2_of, Cond.instanceMethod yX2_of, Cond.selects RX2 yX2_of yX2_of, Cond.initialized RX2, Cond.code yX2_of cX2_of 4 (some .int), Cond.fieldLink RX2 9 "ShadeTree$Shades" "layers" "[J"]
def wsX7_paint_r2 : List Cond := [Cond.methodLink RX7 180 yX0_add, Cond.instanceMethod yX0_add, Cond.selects RX0 yX0_add yX0_add, Cond.initialized RX0, Cond.code yX0_add cX0_add 2 none, Cond.fieldLink RX0 15 "ShadeTree$Doings" "size" "I", Cond.fieldLink RX0 11 "ShadeTree$Doings" "before" "[J", Cond.methodLink RX0 19 arraycopyName, Cond.native arraycopyName, Cond.static arraycopyName, Cond.initialized "java/lang/System", Cond.methodLink RX0 25 yX2_store, Cond.instanceMethod yX2_store, Cond.selects RX2 yX2_store yX2_store, Cond.code yX2_store cX2_store 3 none, Cond.methodLink RX2 70 arraycopyName, Cond.methodLink RX7 98 yX2_set, Cond.instanceMethod yX2_set, Cond.selects RX2 yX2_set yX2_set, Cond.code yX2_set cX2_set 6 none, Cond.constantLong RX2 38 (-1)]
def wsX7_paint : List Cond := .code yX7_paint cX7_paint 4 (some .int) :: ((wsX7_paint_r1 ++ wsX7_paint_r2) ++ wsX70 ++ wsX10 ++ wsX20 ++ wsX00)
def wsX7_negative_r1 : List Cond := [Cond.fieldLink RX7 50 "ShadeTree" "doings" "LShadeTree$Doings;", Cond.fieldLink RX7 28 "ShadeTree" "now" "LShadeTree$Shades;", Cond.fieldLink RX7 37 "ShadeTree" "tree" "LShadeTree$Tree;", Cond.methodLink RX7 180 yX0_add, Cond.instanceMethod yX0_add, Cond.selects RX0 yX0_add yX0_add, Cond.initialized RX0, Cond.code yX0_add cX0_add 2 none, Cond.fieldLink RX0 15 "ShadeTree$Doings" "size" "I", Cond.fieldLink RX0 11 "ShadeTree$Doings" "before" "[J", Cond.methodLink RX0 19 arraycopyName, Cond.native arraycopyName, Cond.static arraycopyName, Cond.initialized "java/lang/System", Cond.methodLink RX0 25 yX2_store, Cond.instanceMethod yX2_store, Cond.selects RX2 yX2_store yX2_store, Cond.initialized RX2, Cond.code yX2_store cX2_store 3 none, Cond.fieldLink RX2 9 "ShadeTree$Shades" "layers" "[J", Cond.methodLink RX2 70 arraycopyName, Cond.methodLink RX7 183 yX2_turn, Cond.instanceMethod yX2_turn, Cond.selects RX2 yX2_turn yX2_turn]
def wsX7_negative_r2 : List Cond := [Cond.code yX2_turn cX2_turn 4 none, Cond.fieldLink RX2 15 "ShadeTree$Shades" "grid" "LShadeTree$Grid;", Cond.constantLong RX2 38 (-1), Cond.methodLink RX2 22 yX1_all, Cond.instanceMethod yX1_all, Cond.selects RX1 yX1_all yX1_all, Cond.initialized RX1, Cond.code yX1_all cX1_all 1 (some .long), Cond.fieldLink RX1 25 "ShadeTree$Grid" "all" "J", Cond.methodLink RX2 34 yX2_atLeast, Cond.instanceMethod yX2_atLeast, Cond.selects RX2 yX2_atLeast yX2_atLeast, Cond.code yX2_atLeast cX2_atLeast 2 (some .long), Cond.methodLink RX2 40 yX2_put, Cond.instanceMethod yX2_put, Cond.selects RX2 yX2_put yX2_put, Cond.code yX2_put cX2_put 4 none, Cond.methodLink RX7 104 yX6_countNodes, Cond.instanceMethod yX6_countNodes, Cond.selects RX6 yX6_countNodes yX6_countNodes, Cond.initialized RX6, Cond.code yX6_countNodes cX6_countNodes 1 (some .int), Cond.fieldLink RX6 95 "ShadeTree$Tree" "size" "I", Cond.methodLink RX6 92 yX6_gather]
def wsX7_negative_r3 : List Cond := [Cond.instanceMethod yX6_gather, Cond.selects RX6 yX6_gather yX6_gather, Cond.code yX6_gather cX6_gather 6 none, Cond.fieldLink RX6 9 "ShadeTree$Tree" "nodeParts" "[J", Cond.fieldLink RX6 15 "ShadeTree$Tree" "nodeLevels" "[I", Cond.constantLong RX6 43 (-1), Cond.methodLink RX6 57 yX6_ofLevel, Cond.instanceMethod yX6_ofLevel, Cond.selects RX6 yX6_ofLevel yX6_ofLevel, Cond.code yX6_ofLevel cX6_ofLevel 2 (some .long), Cond.fieldLink RX6 23 "ShadeTree$Tree" "shades" "LShadeTree$Shades;", Cond.methodLink RX6 27 yX2_atLeast, Cond.methodLink RX6 53 yX6_partAt, Cond.instanceMethod yX6_partAt, Cond.selects RX6 yX6_partAt yX6_partAt, Cond.code yX6_partAt cX6_partAt 4 (some .long), Cond.fieldLink RX6 19 "ShadeTree$Tree" "grid" "LShadeTree$Grid;", Cond.methodLink RX6 33 yX1_way, Cond.instanceMethod yX1_way, Cond.selects RX1 yX1_way yX1_way, Cond.code yX1_way cX1_way 1 (some .int), Cond.fieldLink RX1 15 "ShadeTree$Grid" "way" "I", Cond.methodLink RX6 39 yX1_partAround, Cond.instanceMethod yX1_partAround]
def wsX7_negative_r4 : List Cond := [Cond.selects RX1 yX1_partAround yX1_partAround, Cond.code yX1_partAround cX1_partAround 11 (some .long), Cond.methodLink RX1 43 yX1_spread, Cond.instanceMethod yX1_spread, Cond.selects RX1 yX1_spread yX1_spread, Cond.code yX1_spread cX1_spread 8 (some .long), Cond.fieldLink RX1 32 "ShadeTree$Grid" "rightmost" "J", Cond.constantLong RX1 47 (-1), Cond.fieldLink RX1 29 "ShadeTree$Grid" "leftmost" "J", Cond.fieldLink RX1 19 "ShadeTree$Grid" "wide" "I"]
def wsX7_negative : List Cond := .code yX7_negative cX7_negative 1 (some .int) :: ((wsX7_negative_r1 ++ (wsX7_negative_r2 ++ (wsX7_negative_r3 ++ wsX7_negative_r4))) ++ wsX70 ++ wsX00 ++ wsX20 ++ wsX10 ++ wsX60)
def wsX7_isSieve : List Cond := .code yX7_isSieve cX7_isSieve 2 (some .boolean) :: ([])
def wsX7_sift_r1 : List Cond := [Cond.fieldLink RX7 50 "ShadeTree" "doings" "LShadeTree$Doings;", Cond.fieldLink RX7 28 "ShadeTree" "now" "LShadeTree$Shades;", Cond.methodLink RX7 186 yX7_isSieve, Cond.static yX7_isSieve, Cond.initialized RX7, Cond.code yX7_isSieve cX7_isSieve 2 (some .boolean), Cond.methodLink RX7 180 yX0_add, Cond.instanceMethod yX0_add, Cond.selects RX0 yX0_add yX0_add, Cond.initialized RX0, Cond.code yX0_add cX0_add 2 none, Cond.fieldLink RX0 15 "ShadeTree$Doings" "size" "I", Cond.fieldLink RX0 11 "ShadeTree$Doings" "before" "[J", Cond.methodLink RX0 19 arraycopyName, Cond.native arraycopyName, Cond.static arraycopyName, Cond.initialized "java/lang/System", Cond.methodLink RX0 25 yX2_store, Cond.instanceMethod yX2_store, Cond.selects RX2 yX2_store yX2_store, Cond.initialized RX2, Cond.code yX2_store cX2_store 3 none, Cond.fieldLink RX2 9 "ShadeTree$Shades" "layers" "[J", Cond.methodLink RX2 70 arraycopyName]
def wsX7_sift_r2 : List Cond := [Cond.methodLink RX7 190 yX2_thin, Cond.instanceMethod yX2_thin, Cond.selects RX2 yX2_thin yX2_thin, Cond.code yX2_thin cX2_thin 8 (some .int), Cond.constantLong RX2 38 (-1), Cond.methodLink RX2 44 yX2_bigParts, Cond.instanceMethod yX2_bigParts, Cond.selects RX2 yX2_bigParts yX2_bigParts, Cond.code yX2_bigParts cX2_bigParts 12 (some .long), Cond.fieldLink RX2 15 "ShadeTree$Shades" "grid" "LShadeTree$Grid;", Cond.methodLink RX2 22 yX1_all, Cond.instanceMethod yX1_all, Cond.selects RX1 yX1_all yX1_all, Cond.initialized RX1, Cond.code yX1_all cX1_all 1 (some .long), Cond.fieldLink RX1 25 "ShadeTree$Grid" "all" "J", Cond.methodLink RX2 48 yX1_way, Cond.instanceMethod yX1_way, Cond.selects RX1 yX1_way yX1_way, Cond.code yX1_way cX1_way 1 (some .int), Cond.fieldLink RX1 15 "ShadeTree$Grid" "way" "I", Cond.methodLink RX2 52 yX1_partAround, Cond.instanceMethod yX1_partAround, Cond.selects RX1 yX1_partAround yX1_partAround]
def wsX7_sift_r3 : List Cond := [Cond.code yX1_partAround cX1_partAround 11 (some .long), Cond.methodLink RX1 43 yX1_spread, Cond.instanceMethod yX1_spread, Cond.selects RX1 yX1_spread yX1_spread, Cond.code yX1_spread cX1_spread 8 (some .long), Cond.fieldLink RX1 32 "ShadeTree$Grid" "rightmost" "J", Cond.constantLong RX1 47 (-1), Cond.fieldLink RX1 29 "ShadeTree$Grid" "leftmost" "J", Cond.fieldLink RX1 19 "ShadeTree$Grid" "wide" "I", Cond.methodLink RX2 56 yX2_isBig, Cond.instanceMethod yX2_isBig, Cond.selects RX2 yX2_isBig yX2_isBig, Cond.code yX2_isBig cX2_isBig 5 (some .boolean), Cond.methodLink RX2 28 yJ13_bitCount_95d88, Cond.static yJ13_bitCount_95d88, Cond.initialized RJ13, Cond.code yJ13_bitCount_95d88 cJ13_bitCount_95d88 2 (some .int), Cond.constantLong RJ13 314 (6148914691236517205), Cond.constantLong RJ13 316 (3689348814741910323), Cond.constantLong RJ13 318 (1085102592571150095), Cond.methodLink RX2 60 yX1_columnsOf, Cond.instanceMethod yX1_columnsOf, Cond.selects RX1 yX1_columnsOf yX1_columnsOf, Cond.code yX1_columnsOf cX1_columnsOf 5 (some .int)]
def wsX7_sift_r4 : List Cond := [Cond.methodLink RX2 63 yX1_rowsOf, Cond.instanceMethod yX1_rowsOf, Cond.selects RX1 yX1_rowsOf yX1_rowsOf, Cond.code yX1_rowsOf cX1_rowsOf 5 (some .int), Cond.fieldLink RX1 22 "ShadeTree$Grid" "high" "I", Cond.methodLink RX1 39 yX1_row, Cond.instanceMethod yX1_row, Cond.selects RX1 yX1_row yX1_row, Cond.code yX1_row cX1_row 2 (some .long)]
def wsX7_sift : List Cond := .code yX7_sift cX7_sift 3 (some .int) :: ((wsX7_sift_r1 ++ (wsX7_sift_r2 ++ (wsX7_sift_r3 ++ wsX7_sift_r4))) ++ wsX70 ++ wsX00 ++ wsX20 ++ wsX10)
def wsX7_undo : List Cond := .code yX7_undo cX7_undo 1 (some .int) :: ([.fieldLink RX7 50 "ShadeTree" "doings" "LShadeTree$Doings;", .fieldLink RX7 28 "ShadeTree" "now" "LShadeTree$Shades;", .methodLink RX7 194 yX0_takeBack, .instanceMethod yX0_takeBack, .selects RX0 yX0_takeBack yX0_takeBack, .initialized RX0, .code yX0_takeBack cX0_takeBack 2 (some .boolean), .fieldLink RX0 15 "ShadeTree$Doings" "size" "I", .fieldLink RX0 11 "ShadeTree$Doings" "before" "[J", .methodLink RX0 31 yX2_load, .instanceMethod yX2_load, .selects RX2 yX2_load yX2_load, .initialized RX2, .code yX2_load cX2_load 3 none, .fieldLink RX2 9 "ShadeTree$Shades" "layers" "[J", .methodLink RX2 70 arraycopyName, .native arraycopyName, .static arraycopyName, .initialized "java/lang/System", .methodLink RX7 130 yX0_size, .instanceMethod yX0_size, .selects RX0 yX0_size yX0_size, .code yX0_size cX0_size 1 (some .int)] ++ wsX70 ++ wsX00 ++ wsX20)
def wsX7_pass_r1 : List Cond := [Cond.fieldLink RX7 19 "ShadeTree" "grid" "LShadeTree$Grid;", Cond.fieldLink RX7 28 "ShadeTree" "now" "LShadeTree$Shades;", Cond.methodLink RX7 132 yX1_hasDot, Cond.instanceMethod yX1_hasDot, Cond.selects RX1 yX1_hasDot yX1_hasDot, Cond.initialized RX1, Cond.code yX1_hasDot cX1_hasDot 2 (some .boolean), Cond.methodLink RX1 35 yX1_size, Cond.instanceMethod yX1_size, Cond.selects RX1 yX1_size yX1_size, Cond.code yX1_size cX1_size 1 (some .int), Cond.fieldLink RX1 19 "ShadeTree$Grid" "wide" "I", Cond.fieldLink RX1 22 "ShadeTree$Grid" "high" "I", Cond.methodLink RX7 174 yX2_atLeast, Cond.instanceMethod yX2_atLeast, Cond.selects RX2 yX2_atLeast yX2_atLeast, Cond.initialized RX2, Cond.code yX2_atLeast cX2_atLeast 2 (some .long), Cond.fieldLink RX2 9 "ShadeTree$Shades" "layers" "[J", Cond.methodLink RX7 107 yX1_way, Cond.instanceMethod yX1_way, Cond.selects RX1 yX1_way yX1_way, Cond.code yX1_way cX1_way 1 (some .int), Cond.fieldLink RX1 15 "ShadeTree$Grid" "way" "I"]
def wsX7_pass_r2 : List Cond := [Cond.methodLink RX7 198 yX1_joined, Cond.instanceMethod yX1_joined, Cond.selects RX1 yX1_joined yX1_joined, Cond.code yX1_joined cX1_joined 6 (some .boolean), Cond.methodLink RX1 49 yX1_hasDot, Cond.methodLink RX1 53 yX1_partAround, Cond.instanceMethod yX1_partAround, Cond.selects RX1 yX1_partAround yX1_partAround, Cond.code yX1_partAround cX1_partAround 11 (some .long), Cond.methodLink RX1 43 yX1_spread, Cond.instanceMethod yX1_spread, Cond.selects RX1 yX1_spread yX1_spread, Cond.code yX1_spread cX1_spread 8 (some .long), Cond.fieldLink RX1 32 "ShadeTree$Grid" "rightmost" "J", Cond.constantLong RX1 47 (-1), Cond.fieldLink RX1 29 "ShadeTree$Grid" "leftmost" "J"]
def wsX7_pass : List Cond := .code yX7_pass cX7_pass 4 (some .int) :: ((wsX7_pass_r1 ++ wsX7_pass_r2) ++ wsX70 ++ wsX10 ++ wsX20)
def wsX7_isStep : List Cond := .code yX7_isStep cX7_isStep 1 (some .boolean) :: ([])
def wsX7_commonDivisor : List Cond := .code yX7_commonDivisor cX7_commonDivisor 6 (some .int) :: ([])
def wsX7_fraction : List Cond := .code yX7_fraction cX7_fraction 4 (some .int) :: ([.methodLink RX7 302 Lib.Math.abs.name, .static Lib.Math.abs.name, .initialized "java/lang/Math", .code Lib.Math.abs.name Lib.Math.abs.code 1 (some .int), .methodLink RX7 307 yX7_commonDivisor, .static yX7_commonDivisor, .initialized RX7, .code yX7_commonDivisor cX7_commonDivisor 6 (some .int)])
def wsX7_grows_r1 : List Cond := [Cond.fieldLink RX7 19 "ShadeTree" "grid" "LShadeTree$Grid;", Cond.fieldLink RX7 37 "ShadeTree" "tree" "LShadeTree$Tree;", Cond.fieldLink RX7 28 "ShadeTree" "now" "LShadeTree$Shades;", Cond.methodLink RX7 132 yX1_hasDot, Cond.instanceMethod yX1_hasDot, Cond.selects RX1 yX1_hasDot yX1_hasDot, Cond.initialized RX1, Cond.code yX1_hasDot cX1_hasDot 2 (some .boolean), Cond.methodLink RX1 35 yX1_size, Cond.instanceMethod yX1_size, Cond.selects RX1 yX1_size yX1_size, Cond.code yX1_size cX1_size 1 (some .int), Cond.fieldLink RX1 19 "ShadeTree$Grid" "wide" "I", Cond.fieldLink RX1 22 "ShadeTree$Grid" "high" "I", Cond.methodLink RX7 202 yX7_isStep, Cond.static yX7_isStep, Cond.initialized RX7, Cond.code yX7_isStep cX7_isStep 1 (some .boolean), Cond.methodLink RX7 138 yX6_nodeOf, Cond.instanceMethod yX6_nodeOf, Cond.selects RX6 yX6_nodeOf yX6_nodeOf, Cond.initialized RX6, Cond.code yX6_nodeOf cX6_nodeOf 2 (some .long), Cond.fieldLink RX6 19 "ShadeTree$Tree" "grid" "LShadeTree$Grid;"]
def wsX7_grows_r2 : List Cond := [Cond.fieldLink RX6 23 "ShadeTree$Tree" "shades" "LShadeTree$Shades;", Cond.methodLink RX6 45 yX1_hasDot, Cond.methodLink RX6 49 yX2_of, Cond.instanceMethod yX2_of, Cond.selects RX2 yX2_of yX2_of, Cond.initialized RX2, Cond.code yX2_of cX2_of 4 (some .int), Cond.fieldLink RX2 9 "ShadeTree$Shades" "layers" "[J", Cond.methodLink RX6 53 yX6_partAt, Cond.instanceMethod yX6_partAt, Cond.selects RX6 yX6_partAt yX6_partAt, Cond.code yX6_partAt cX6_partAt 4 (some .long), Cond.methodLink RX6 27 yX2_atLeast, Cond.instanceMethod yX2_atLeast, Cond.selects RX2 yX2_atLeast yX2_atLeast, Cond.code yX2_atLeast cX2_atLeast 2 (some .long), Cond.methodLink RX6 33 yX1_way, Cond.instanceMethod yX1_way, Cond.selects RX1 yX1_way yX1_way, Cond.code yX1_way cX1_way 1 (some .int), Cond.fieldLink RX1 15 "ShadeTree$Grid" "way" "I", Cond.methodLink RX6 39 yX1_partAround, Cond.instanceMethod yX1_partAround, Cond.selects RX1 yX1_partAround yX1_partAround]
def wsX7_grows_r3 : List Cond := [Cond.code yX1_partAround cX1_partAround 11 (some .long), Cond.methodLink RX1 43 yX1_spread, Cond.instanceMethod yX1_spread, Cond.selects RX1 yX1_spread yX1_spread, Cond.code yX1_spread cX1_spread 8 (some .long), Cond.fieldLink RX1 32 "ShadeTree$Grid" "rightmost" "J", Cond.constantLong RX1 47 (-1), Cond.fieldLink RX1 29 "ShadeTree$Grid" "leftmost" "J", Cond.methodLink RX7 135 yX2_of, Cond.methodLink RX7 205 yX6_gain, Cond.instanceMethod yX6_gain, Cond.selects RX6 yX6_gain yX6_gain, Cond.code yX6_gain cX6_gain 5 (some .int), Cond.methodLink RX6 79 Lib.Math.max.name, Cond.static Lib.Math.max.name, Cond.initialized "java/lang/Math", Cond.code Lib.Math.max.name Lib.Math.max.code 2 (some .int), Cond.constantLong RX6 43 (-1), Cond.methodLink RX6 60 yJ13_bitCount_95d88, Cond.static yJ13_bitCount_95d88, Cond.initialized RJ13, Cond.code yJ13_bitCount_95d88 cJ13_bitCount_95d88 2 (some .int), Cond.constantLong RJ13 314 (6148914691236517205), Cond.constantLong RJ13 316 (3689348814741910323)]
def wsX7_grows_r4 : List Cond := [Cond.constantLong RJ13 318 (1085102592571150095), Cond.methodLink RX7 146 yJ13_bitCount_95d88, Cond.methodLink RX7 209 yX7_fraction, Cond.static yX7_fraction, Cond.code yX7_fraction cX7_fraction 4 (some .int), Cond.methodLink RX7 302 Lib.Math.abs.name, Cond.static Lib.Math.abs.name, Cond.code Lib.Math.abs.name Lib.Math.abs.code 1 (some .int), Cond.methodLink RX7 307 yX7_commonDivisor, Cond.static yX7_commonDivisor, Cond.code yX7_commonDivisor cX7_commonDivisor 6 (some .int)]
def wsX7_grows : List Cond := .code yX7_grows cX7_grows 6 (some .int) :: ((wsX7_grows_r1 ++ (wsX7_grows_r2 ++ (wsX7_grows_r3 ++ wsX7_grows_r4))) ++ wsX70 ++ wsX10 ++ wsX60 ++ wsX20)
def wsX7_steady_r1 : List Cond := [Cond.fieldLink RX7 19 "ShadeTree" "grid" "LShadeTree$Grid;", Cond.fieldLink RX7 37 "ShadeTree" "tree" "LShadeTree$Tree;", Cond.fieldLink RX7 28 "ShadeTree" "now" "LShadeTree$Shades;", Cond.methodLink RX7 132 yX1_hasDot, Cond.instanceMethod yX1_hasDot, Cond.selects RX1 yX1_hasDot yX1_hasDot, Cond.initialized RX1, Cond.code yX1_hasDot cX1_hasDot 2 (some .boolean), Cond.methodLink RX1 35 yX1_size, Cond.instanceMethod yX1_size, Cond.selects RX1 yX1_size yX1_size, Cond.code yX1_size cX1_size 1 (some .int), Cond.fieldLink RX1 19 "ShadeTree$Grid" "wide" "I", Cond.fieldLink RX1 22 "ShadeTree$Grid" "high" "I", Cond.methodLink RX7 202 yX7_isStep, Cond.static yX7_isStep, Cond.initialized RX7, Cond.code yX7_isStep cX7_isStep 1 (some .boolean), Cond.methodLink RX7 138 yX6_nodeOf, Cond.instanceMethod yX6_nodeOf, Cond.selects RX6 yX6_nodeOf yX6_nodeOf, Cond.initialized RX6, Cond.code yX6_nodeOf cX6_nodeOf 2 (some .long), Cond.fieldLink RX6 19 "ShadeTree$Tree" "grid" "LShadeTree$Grid;"]
def wsX7_steady_r2 : List Cond := [Cond.fieldLink RX6 23 "ShadeTree$Tree" "shades" "LShadeTree$Shades;", Cond.methodLink RX6 45 yX1_hasDot, Cond.methodLink RX6 49 yX2_of, Cond.instanceMethod yX2_of, Cond.selects RX2 yX2_of yX2_of, Cond.initialized RX2, Cond.code yX2_of cX2_of 4 (some .int), Cond.fieldLink RX2 9 "ShadeTree$Shades" "layers" "[J", Cond.methodLink RX6 53 yX6_partAt, Cond.instanceMethod yX6_partAt, Cond.selects RX6 yX6_partAt yX6_partAt, Cond.code yX6_partAt cX6_partAt 4 (some .long), Cond.methodLink RX6 27 yX2_atLeast, Cond.instanceMethod yX2_atLeast, Cond.selects RX2 yX2_atLeast yX2_atLeast, Cond.code yX2_atLeast cX2_atLeast 2 (some .long), Cond.methodLink RX6 33 yX1_way, Cond.instanceMethod yX1_way, Cond.selects RX1 yX1_way yX1_way, Cond.code yX1_way cX1_way 1 (some .int), Cond.fieldLink RX1 15 "ShadeTree$Grid" "way" "I", Cond.methodLink RX6 39 yX1_partAround, Cond.instanceMethod yX1_partAround, Cond.selects RX1 yX1_partAround yX1_partAround]
def wsX7_steady_r3 : List Cond := [Cond.code yX1_partAround cX1_partAround 11 (some .long), Cond.methodLink RX1 43 yX1_spread, Cond.instanceMethod yX1_spread, Cond.selects RX1 yX1_spread yX1_spread, Cond.code yX1_spread cX1_spread 8 (some .long), Cond.fieldLink RX1 32 "ShadeTree$Grid" "rightmost" "J", Cond.constantLong RX1 47 (-1), Cond.fieldLink RX1 29 "ShadeTree$Grid" "leftmost" "J", Cond.methodLink RX7 135 yX2_of, Cond.methodLink RX7 213 yX6_isSteady, Cond.instanceMethod yX6_isSteady, Cond.selects RX6 yX6_isSteady yX6_isSteady, Cond.code yX6_isSteady cX6_isSteady 13 (some .boolean), Cond.constantLong RX6 43 (-1), Cond.methodLink RX6 85 yX6_gain, Cond.instanceMethod yX6_gain, Cond.selects RX6 yX6_gain yX6_gain, Cond.code yX6_gain cX6_gain 5 (some .int), Cond.methodLink RX6 79 Lib.Math.max.name, Cond.static Lib.Math.max.name, Cond.initialized "java/lang/Math", Cond.code Lib.Math.max.name Lib.Math.max.code 2 (some .int), Cond.methodLink RX6 60 yJ13_bitCount_95d88, Cond.static yJ13_bitCount_95d88]
def wsX7_steady_r4 : List Cond := [Cond.initialized RJ13, Cond.code yJ13_bitCount_95d88 cJ13_bitCount_95d88 2 (some .int), Cond.constantLong RJ13 314 (6148914691236517205), Cond.constantLong RJ13 316 (3689348814741910323), Cond.constantLong RJ13 318 (1085102592571150095), Cond.methodLink RX6 66 yX6_parentLevel, Cond.instanceMethod yX6_parentLevel, Cond.selects RX6 yX6_parentLevel yX6_parentLevel, Cond.code yX6_parentLevel cX6_parentLevel 5 (some .int), Cond.methodLink RX6 89 yX6_darkest, Cond.instanceMethod yX6_darkest, Cond.selects RX6 yX6_darkest yX6_darkest, Cond.code yX6_darkest cX6_darkest 4 (some .int)]
def wsX7_steady : List Cond := .code yX7_steady cX7_steady 3 (some .int) :: ((wsX7_steady_r1 ++ (wsX7_steady_r2 ++ (wsX7_steady_r3 ++ wsX7_steady_r4))) ++ wsX70 ++ wsX10 ++ wsX60 ++ wsX20)
def wsX7_withoutLast : List Cond := .code yX7_withoutLast cX7_withoutLast 6 (some .long) :: ([.constantLong RX7 224 (10000)])
def wsX7_trialPainted : List Cond := .code yX7_trialPainted cX7_trialPainted 3 (some .boolean) :: ([.fieldLink RX7 19 "ShadeTree" "grid" "LShadeTree$Grid;", .fieldLink RX7 41 "ShadeTree" "trial" "LShadeTree$Shades;", .methodLink RX7 132 yX1_hasDot, .instanceMethod yX1_hasDot, .selects RX1 yX1_hasDot yX1_hasDot, .initialized RX1, .code yX1_hasDot cX1_hasDot 2 (some .boolean), .methodLink RX1 35 yX1_size, .instanceMethod yX1_size, .selects RX1 yX1_size yX1_size, .code yX1_size cX1_size 1 (some .int), .fieldLink RX1 19 "ShadeTree$Grid" "wide" "I", .fieldLink RX1 22 "ShadeTree$Grid" "high" "I", .methodLink RX7 98 yX2_set, .instanceMethod yX2_set, .selects RX2 yX2_set yX2_set, .initialized RX2, .code yX2_set cX2_set 6 none, .fieldLink RX2 9 "ShadeTree$Shades" "layers" "[J", .constantLong RX2 38 (-1)] ++ wsX70 ++ wsX10 ++ wsX20)
def wsX7_trialTurned : List Cond := .code yX7_trialTurned cX7_trialTurned 1 (some .boolean) :: ([.fieldLink RX7 41 "ShadeTree" "trial" "LShadeTree$Shades;", .methodLink RX7 183 yX2_turn, .instanceMethod yX2_turn, .selects RX2 yX2_turn yX2_turn, .initialized RX2, .code yX2_turn cX2_turn 4 none, .fieldLink RX2 15 "ShadeTree$Shades" "grid" "LShadeTree$Grid;", .constantLong RX2 38 (-1), .methodLink RX2 22 yX1_all, .instanceMethod yX1_all, .selects RX1 yX1_all yX1_all, .initialized RX1, .code yX1_all cX1_all 1 (some .long), .fieldLink RX1 25 "ShadeTree$Grid" "all" "J", .methodLink RX2 34 yX2_atLeast, .instanceMethod yX2_atLeast, .selects RX2 yX2_atLeast yX2_atLeast, .code yX2_atLeast cX2_atLeast 2 (some .long), .fieldLink RX2 9 "ShadeTree$Shades" "layers" "[J", .methodLink RX2 40 yX2_put, .instanceMethod yX2_put, .selects RX2 yX2_put yX2_put, .code yX2_put cX2_put 4 none] ++ wsX70 ++ wsX20 ++ wsX10)
def wsX7_trialThinned_r1 : List Cond := [Cond.fieldLink RX7 41 "ShadeTree" "trial" "LShadeTree$Shades;", Cond.methodLink RX7 186 yX7_isSieve, Cond.static yX7_isSieve, Cond.initialized RX7, Cond.code yX7_isSieve cX7_isSieve 2 (some .boolean), Cond.methodLink RX7 190 yX2_thin, Cond.instanceMethod yX2_thin, Cond.selects RX2 yX2_thin yX2_thin, Cond.initialized RX2, Cond.code yX2_thin cX2_thin 8 (some .int), Cond.fieldLink RX2 9 "ShadeTree$Shades" "layers" "[J", Cond.constantLong RX2 38 (-1), Cond.methodLink RX2 44 yX2_bigParts, Cond.instanceMethod yX2_bigParts, Cond.selects RX2 yX2_bigParts yX2_bigParts, Cond.code yX2_bigParts cX2_bigParts 12 (some .long), Cond.fieldLink RX2 15 "ShadeTree$Shades" "grid" "LShadeTree$Grid;", Cond.methodLink RX2 22 yX1_all, Cond.instanceMethod yX1_all, Cond.selects RX1 yX1_all yX1_all, Cond.initialized RX1, Cond.code yX1_all cX1_all 1 (some .long), Cond.fieldLink RX1 25 "ShadeTree$Grid" "all" "J", Cond.methodLink RX2 48 yX1_way]
def wsX7_trialThinned_r2 : List Cond := [Cond.instanceMethod yX1_way, Cond.selects RX1 yX1_way yX1_way, Cond.code yX1_way cX1_way 1 (some .int), Cond.fieldLink RX1 15 "ShadeTree$Grid" "way" "I", Cond.methodLink RX2 52 yX1_partAround, Cond.instanceMethod yX1_partAround, Cond.selects RX1 yX1_partAround yX1_partAround, Cond.code yX1_partAround cX1_partAround 11 (some .long), Cond.methodLink RX1 43 yX1_spread, Cond.instanceMethod yX1_spread, Cond.selects RX1 yX1_spread yX1_spread, Cond.code yX1_spread cX1_spread 8 (some .long), Cond.fieldLink RX1 32 "ShadeTree$Grid" "rightmost" "J", Cond.constantLong RX1 47 (-1), Cond.fieldLink RX1 29 "ShadeTree$Grid" "leftmost" "J", Cond.fieldLink RX1 19 "ShadeTree$Grid" "wide" "I", Cond.methodLink RX2 56 yX2_isBig, Cond.instanceMethod yX2_isBig, Cond.selects RX2 yX2_isBig yX2_isBig, Cond.code yX2_isBig cX2_isBig 5 (some .boolean), Cond.methodLink RX2 28 yJ13_bitCount_95d88, Cond.static yJ13_bitCount_95d88, Cond.initialized RJ13, Cond.code yJ13_bitCount_95d88 cJ13_bitCount_95d88 2 (some .int)]
def wsX7_trialThinned_r3 : List Cond := [Cond.constantLong RJ13 314 (6148914691236517205), Cond.constantLong RJ13 316 (3689348814741910323), Cond.constantLong RJ13 318 (1085102592571150095), Cond.methodLink RX2 60 yX1_columnsOf, Cond.instanceMethod yX1_columnsOf, Cond.selects RX1 yX1_columnsOf yX1_columnsOf, Cond.code yX1_columnsOf cX1_columnsOf 5 (some .int), Cond.methodLink RX2 63 yX1_rowsOf, Cond.instanceMethod yX1_rowsOf, Cond.selects RX1 yX1_rowsOf yX1_rowsOf, Cond.code yX1_rowsOf cX1_rowsOf 5 (some .int), Cond.fieldLink RX1 22 "ShadeTree$Grid" "high" "I", Cond.methodLink RX1 39 yX1_row, Cond.instanceMethod yX1_row, Cond.selects RX1 yX1_row yX1_row, Cond.code yX1_row cX1_row 2 (some .long)]
def wsX7_trialThinned : List Cond := .code yX7_trialThinned cX7_trialThinned 3 (some .boolean) :: ((wsX7_trialThinned_r1 ++ (wsX7_trialThinned_r2 ++ wsX7_trialThinned_r3)) ++ wsX70 ++ wsX20 ++ wsX10)
def wsX7_comesTrue_r1 : List Cond := [Cond.fieldLink RX7 19 "ShadeTree" "grid" "LShadeTree$Grid;", Cond.fieldLink RX7 44 "ShadeTree" "trialTree" "LShadeTree$Tree;", Cond.fieldLink RX7 41 "ShadeTree" "trial" "LShadeTree$Shades;", Cond.methodLink RX7 275 yX7_trialPainted, Cond.instanceMethod yX7_trialPainted, Cond.selects RX7 yX7_trialPainted yX7_trialPainted, Cond.initialized RX7, Cond.code yX7_trialPainted cX7_trialPainted 3 (some .boolean), Cond.methodLink RX7 132 yX1_hasDot, Cond.instanceMethod yX1_hasDot, Cond.selects RX1 yX1_hasDot yX1_hasDot, Cond.initialized RX1, Cond.code yX1_hasDot cX1_hasDot 2 (some .boolean), Cond.methodLink RX1 35 yX1_size, Cond.instanceMethod yX1_size, Cond.selects RX1 yX1_size yX1_size, Cond.code yX1_size cX1_size 1 (some .int), Cond.fieldLink RX1 19 "ShadeTree$Grid" "wide" "I", Cond.fieldLink RX1 22 "ShadeTree$Grid" "high" "I", Cond.methodLink RX7 98 yX2_set, Cond.instanceMethod yX2_set, Cond.selects RX2 yX2_set yX2_set, Cond.initialized RX2, Cond.code yX2_set cX2_set 6 none]
def wsX7_comesTrue_r2 : List Cond := [Cond.fieldLink RX2 9 "ShadeTree$Shades" "layers" "[J", Cond.constantLong RX2 38 (-1), Cond.methodLink RX7 278 yX7_trialTurned, Cond.instanceMethod yX7_trialTurned, Cond.selects RX7 yX7_trialTurned yX7_trialTurned, Cond.code yX7_trialTurned cX7_trialTurned 1 (some .boolean), Cond.methodLink RX7 183 yX2_turn, Cond.instanceMethod yX2_turn, Cond.selects RX2 yX2_turn yX2_turn, Cond.code yX2_turn cX2_turn 4 none, Cond.fieldLink RX2 15 "ShadeTree$Shades" "grid" "LShadeTree$Grid;", Cond.methodLink RX2 22 yX1_all, Cond.instanceMethod yX1_all, Cond.selects RX1 yX1_all yX1_all, Cond.code yX1_all cX1_all 1 (some .long), Cond.fieldLink RX1 25 "ShadeTree$Grid" "all" "J", Cond.methodLink RX2 34 yX2_atLeast, Cond.instanceMethod yX2_atLeast, Cond.selects RX2 yX2_atLeast yX2_atLeast, Cond.code yX2_atLeast cX2_atLeast 2 (some .long), Cond.methodLink RX2 40 yX2_put, Cond.instanceMethod yX2_put, Cond.selects RX2 yX2_put yX2_put, Cond.code yX2_put cX2_put 4 none]
def wsX7_comesTrue_r3 : List Cond := [Cond.methodLink RX7 282 yX7_trialThinned, Cond.instanceMethod yX7_trialThinned, Cond.selects RX7 yX7_trialThinned yX7_trialThinned, Cond.code yX7_trialThinned cX7_trialThinned 3 (some .boolean), Cond.methodLink RX7 186 yX7_isSieve, Cond.static yX7_isSieve, Cond.code yX7_isSieve cX7_isSieve 2 (some .boolean), Cond.methodLink RX7 190 yX2_thin, Cond.instanceMethod yX2_thin, Cond.selects RX2 yX2_thin yX2_thin, Cond.code yX2_thin cX2_thin 8 (some .int), Cond.methodLink RX2 44 yX2_bigParts, Cond.instanceMethod yX2_bigParts, Cond.selects RX2 yX2_bigParts yX2_bigParts, Cond.code yX2_bigParts cX2_bigParts 12 (some .long), Cond.methodLink RX2 48 yX1_way, Cond.instanceMethod yX1_way, Cond.selects RX1 yX1_way yX1_way, Cond.code yX1_way cX1_way 1 (some .int), Cond.fieldLink RX1 15 "ShadeTree$Grid" "way" "I", Cond.methodLink RX2 52 yX1_partAround, Cond.instanceMethod yX1_partAround, Cond.selects RX1 yX1_partAround yX1_partAround, Cond.code yX1_partAround cX1_partAround 11 (some .long)]
def wsX7_comesTrue_r4 : List Cond := [Cond.methodLink RX1 43 yX1_spread, Cond.instanceMethod yX1_spread, Cond.selects RX1 yX1_spread yX1_spread, Cond.code yX1_spread cX1_spread 8 (some .long), Cond.fieldLink RX1 32 "ShadeTree$Grid" "rightmost" "J", Cond.constantLong RX1 47 (-1), Cond.fieldLink RX1 29 "ShadeTree$Grid" "leftmost" "J", Cond.methodLink RX2 56 yX2_isBig, Cond.instanceMethod yX2_isBig, Cond.selects RX2 yX2_isBig yX2_isBig, Cond.code yX2_isBig cX2_isBig 5 (some .boolean), Cond.methodLink RX2 28 yJ13_bitCount_95d88, Cond.static yJ13_bitCount_95d88, Cond.initialized RJ13, Cond.code yJ13_bitCount_95d88 cJ13_bitCount_95d88 2 (some .int), Cond.constantLong RJ13 314 (6148914691236517205), Cond.constantLong RJ13 316 (3689348814741910323), Cond.constantLong RJ13 318 (1085102592571150095), Cond.methodLink RX2 60 yX1_columnsOf, Cond.instanceMethod yX1_columnsOf, Cond.selects RX1 yX1_columnsOf yX1_columnsOf, Cond.code yX1_columnsOf cX1_columnsOf 5 (some .int), Cond.methodLink RX2 63 yX1_rowsOf, Cond.instanceMethod yX1_rowsOf]
def wsX7_comesTrue_r5 : List Cond := [Cond.selects RX1 yX1_rowsOf yX1_rowsOf, Cond.code yX1_rowsOf cX1_rowsOf 5 (some .int), Cond.methodLink RX1 39 yX1_row, Cond.instanceMethod yX1_row, Cond.selects RX1 yX1_row yX1_row, Cond.code yX1_row cX1_row 2 (some .long), Cond.methodLink RX7 138 yX6_nodeOf, Cond.instanceMethod yX6_nodeOf, Cond.selects RX6 yX6_nodeOf yX6_nodeOf, Cond.initialized RX6, Cond.code yX6_nodeOf cX6_nodeOf 2 (some .long), Cond.fieldLink RX6 19 "ShadeTree$Tree" "grid" "LShadeTree$Grid;", Cond.fieldLink RX6 23 "ShadeTree$Tree" "shades" "LShadeTree$Shades;", Cond.methodLink RX6 45 yX1_hasDot, Cond.methodLink RX6 49 yX2_of, Cond.instanceMethod yX2_of, Cond.selects RX2 yX2_of yX2_of, Cond.code yX2_of cX2_of 4 (some .int), Cond.methodLink RX6 53 yX6_partAt, Cond.instanceMethod yX6_partAt, Cond.selects RX6 yX6_partAt yX6_partAt, Cond.code yX6_partAt cX6_partAt 4 (some .long), Cond.methodLink RX6 27 yX2_atLeast, Cond.methodLink RX6 33 yX1_way]
def wsX7_comesTrue_r6 : List Cond := [Cond.methodLink RX6 39 yX1_partAround, Cond.methodLink RX7 135 yX2_of, Cond.methodLink RX7 285 yX6_parentLevel, Cond.instanceMethod yX6_parentLevel, Cond.selects RX6 yX6_parentLevel yX6_parentLevel, Cond.code yX6_parentLevel cX6_parentLevel 5 (some .int), Cond.methodLink RX7 174 yX2_atLeast, Cond.methodLink RX7 107 yX1_way, Cond.methodLink RX7 177 yX1_countParts, Cond.instanceMethod yX1_countParts, Cond.selects RX1 yX1_countParts yX1_countParts, Cond.code yX1_countParts cX1_countParts 7 (some .int), Cond.methodLink RX1 53 yX1_partAround, Cond.methodLink RX7 166 yX6_rise, Cond.instanceMethod yX6_rise, Cond.selects RX6 yX6_rise yX6_rise, Cond.code yX6_rise cX6_rise 7 (some .int), Cond.methodLink RX6 76 yX2_brightest, Cond.instanceMethod yX2_brightest, Cond.selects RX2 yX2_brightest yX2_brightest, Cond.code yX2_brightest cX2_brightest 4 (some .int)]
def wsX7_comesTrue : List Cond := .code yX7_comesTrue cX7_comesTrue 4 (some .boolean) :: ((wsX7_comesTrue_r1 ++ (wsX7_comesTrue_r2 ++ (wsX7_comesTrue_r3 ++ (wsX7_comesTrue_r4 ++ (wsX7_comesTrue_r5 ++ wsX7_comesTrue_r6))))) ++ wsX70 ++ wsX10 ++ wsX20 ++ wsX60)
def wsX7_judge_r1 : List Cond := [Cond.fieldLink RX7 41 "ShadeTree" "trial" "LShadeTree$Shades;", Cond.fieldLink RX7 28 "ShadeTree" "now" "LShadeTree$Shades;", Cond.constantLong RX7 224 (10000), Cond.methodLink RX7 217 yX7_withoutLast, Cond.static yX7_withoutLast, Cond.initialized RX7, Cond.code yX7_withoutLast cX7_withoutLast 6 (some .long), Cond.methodLink RX7 221 yX2_copy, Cond.instanceMethod yX2_copy, Cond.selects RX2 yX2_copy yX2_copy, Cond.initialized RX2, Cond.code yX2_copy cX2_copy 2 none, Cond.fieldLink RX2 9 "ShadeTree$Shades" "layers" "[J", Cond.methodLink RX2 66 yX2_store, Cond.instanceMethod yX2_store, Cond.selects RX2 yX2_store yX2_store, Cond.code yX2_store cX2_store 3 none, Cond.methodLink RX2 70 arraycopyName, Cond.native arraycopyName, Cond.static arraycopyName, Cond.initialized "java/lang/System", Cond.methodLink RX7 226 yX7_comesTrue, Cond.instanceMethod yX7_comesTrue, Cond.selects RX7 yX7_comesTrue yX7_comesTrue]
def wsX7_judge_r2 : List Cond := [Cond.code yX7_comesTrue cX7_comesTrue 4 (some .boolean), Cond.fieldLink RX7 19 "ShadeTree" "grid" "LShadeTree$Grid;", Cond.fieldLink RX7 44 "ShadeTree" "trialTree" "LShadeTree$Tree;", Cond.methodLink RX7 275 yX7_trialPainted, Cond.instanceMethod yX7_trialPainted, Cond.selects RX7 yX7_trialPainted yX7_trialPainted, Cond.code yX7_trialPainted cX7_trialPainted 3 (some .boolean), Cond.methodLink RX7 132 yX1_hasDot, Cond.instanceMethod yX1_hasDot, Cond.selects RX1 yX1_hasDot yX1_hasDot, Cond.initialized RX1, Cond.code yX1_hasDot cX1_hasDot 2 (some .boolean), Cond.methodLink RX1 35 yX1_size, Cond.instanceMethod yX1_size, Cond.selects RX1 yX1_size yX1_size, Cond.code yX1_size cX1_size 1 (some .int), Cond.fieldLink RX1 19 "ShadeTree$Grid" "wide" "I", Cond.fieldLink RX1 22 "ShadeTree$Grid" "high" "I", Cond.methodLink RX7 98 yX2_set, Cond.instanceMethod yX2_set, Cond.selects RX2 yX2_set yX2_set, Cond.code yX2_set cX2_set 6 none, Cond.constantLong RX2 38 (-1), Cond.methodLink RX7 278 yX7_trialTurned]
def wsX7_judge_r3 : List Cond := [Cond.instanceMethod yX7_trialTurned, Cond.selects RX7 yX7_trialTurned yX7_trialTurned, Cond.code yX7_trialTurned cX7_trialTurned 1 (some .boolean), Cond.methodLink RX7 183 yX2_turn, Cond.instanceMethod yX2_turn, Cond.selects RX2 yX2_turn yX2_turn, Cond.code yX2_turn cX2_turn 4 none, Cond.fieldLink RX2 15 "ShadeTree$Shades" "grid" "LShadeTree$Grid;", Cond.methodLink RX2 22 yX1_all, Cond.instanceMethod yX1_all, Cond.selects RX1 yX1_all yX1_all, Cond.code yX1_all cX1_all 1 (some .long), Cond.fieldLink RX1 25 "ShadeTree$Grid" "all" "J", Cond.methodLink RX2 34 yX2_atLeast, Cond.instanceMethod yX2_atLeast, Cond.selects RX2 yX2_atLeast yX2_atLeast, Cond.code yX2_atLeast cX2_atLeast 2 (some .long), Cond.methodLink RX2 40 yX2_put, Cond.instanceMethod yX2_put, Cond.selects RX2 yX2_put yX2_put, Cond.code yX2_put cX2_put 4 none, Cond.methodLink RX7 282 yX7_trialThinned, Cond.instanceMethod yX7_trialThinned, Cond.selects RX7 yX7_trialThinned yX7_trialThinned]
def wsX7_judge_r4 : List Cond := [Cond.code yX7_trialThinned cX7_trialThinned 3 (some .boolean), Cond.methodLink RX7 186 yX7_isSieve, Cond.static yX7_isSieve, Cond.code yX7_isSieve cX7_isSieve 2 (some .boolean), Cond.methodLink RX7 190 yX2_thin, Cond.instanceMethod yX2_thin, Cond.selects RX2 yX2_thin yX2_thin, Cond.code yX2_thin cX2_thin 8 (some .int), Cond.methodLink RX2 44 yX2_bigParts, Cond.instanceMethod yX2_bigParts, Cond.selects RX2 yX2_bigParts yX2_bigParts, Cond.code yX2_bigParts cX2_bigParts 12 (some .long), Cond.methodLink RX2 48 yX1_way, Cond.instanceMethod yX1_way, Cond.selects RX1 yX1_way yX1_way, Cond.code yX1_way cX1_way 1 (some .int), Cond.fieldLink RX1 15 "ShadeTree$Grid" "way" "I", Cond.methodLink RX2 52 yX1_partAround, Cond.instanceMethod yX1_partAround, Cond.selects RX1 yX1_partAround yX1_partAround, Cond.code yX1_partAround cX1_partAround 11 (some .long), Cond.methodLink RX1 43 yX1_spread, Cond.instanceMethod yX1_spread, Cond.selects RX1 yX1_spread yX1_spread]
def wsX7_judge_r5 : List Cond := [Cond.code yX1_spread cX1_spread 8 (some .long), Cond.fieldLink RX1 32 "ShadeTree$Grid" "rightmost" "J", Cond.constantLong RX1 47 (-1), Cond.fieldLink RX1 29 "ShadeTree$Grid" "leftmost" "J", Cond.methodLink RX2 56 yX2_isBig, Cond.instanceMethod yX2_isBig, Cond.selects RX2 yX2_isBig yX2_isBig, Cond.code yX2_isBig cX2_isBig 5 (some .boolean), Cond.methodLink RX2 28 yJ13_bitCount_95d88, Cond.static yJ13_bitCount_95d88, Cond.initialized RJ13, Cond.code yJ13_bitCount_95d88 cJ13_bitCount_95d88 2 (some .int), Cond.constantLong RJ13 314 (6148914691236517205), Cond.constantLong RJ13 316 (3689348814741910323), Cond.constantLong RJ13 318 (1085102592571150095), Cond.methodLink RX2 60 yX1_columnsOf, Cond.instanceMethod yX1_columnsOf, Cond.selects RX1 yX1_columnsOf yX1_columnsOf, Cond.code yX1_columnsOf cX1_columnsOf 5 (some .int), Cond.methodLink RX2 63 yX1_rowsOf, Cond.instanceMethod yX1_rowsOf, Cond.selects RX1 yX1_rowsOf yX1_rowsOf, Cond.code yX1_rowsOf cX1_rowsOf 5 (some .int), Cond.methodLink RX1 39 yX1_row]
def wsX7_judge_r6 : List Cond := [Cond.instanceMethod yX1_row, Cond.selects RX1 yX1_row yX1_row, Cond.code yX1_row cX1_row 2 (some .long), Cond.methodLink RX7 138 yX6_nodeOf, Cond.instanceMethod yX6_nodeOf, Cond.selects RX6 yX6_nodeOf yX6_nodeOf, Cond.initialized RX6, Cond.code yX6_nodeOf cX6_nodeOf 2 (some .long), Cond.fieldLink RX6 19 "ShadeTree$Tree" "grid" "LShadeTree$Grid;", Cond.fieldLink RX6 23 "ShadeTree$Tree" "shades" "LShadeTree$Shades;", Cond.methodLink RX6 45 yX1_hasDot, Cond.methodLink RX6 49 yX2_of, Cond.instanceMethod yX2_of, Cond.selects RX2 yX2_of yX2_of, Cond.code yX2_of cX2_of 4 (some .int), Cond.methodLink RX6 53 yX6_partAt, Cond.instanceMethod yX6_partAt, Cond.selects RX6 yX6_partAt yX6_partAt, Cond.code yX6_partAt cX6_partAt 4 (some .long), Cond.methodLink RX6 27 yX2_atLeast, Cond.methodLink RX6 33 yX1_way, Cond.methodLink RX6 39 yX1_partAround, Cond.methodLink RX7 135 yX2_of, Cond.methodLink RX7 285 yX6_parentLevel]
def wsX7_judge_r7 : List Cond := [Cond.instanceMethod yX6_parentLevel, Cond.selects RX6 yX6_parentLevel yX6_parentLevel, Cond.code yX6_parentLevel cX6_parentLevel 5 (some .int), Cond.methodLink RX7 174 yX2_atLeast, Cond.methodLink RX7 107 yX1_way, Cond.methodLink RX7 177 yX1_countParts, Cond.instanceMethod yX1_countParts, Cond.selects RX1 yX1_countParts yX1_countParts, Cond.code yX1_countParts cX1_countParts 7 (some .int), Cond.methodLink RX1 53 yX1_partAround, Cond.methodLink RX7 166 yX6_rise, Cond.instanceMethod yX6_rise, Cond.selects RX6 yX6_rise yX6_rise, Cond.code yX6_rise cX6_rise 7 (some .int), Cond.methodLink RX6 76 yX2_brightest, Cond.instanceMethod yX2_brightest, Cond.selects RX2 yX2_brightest yX2_brightest, Cond.code yX2_brightest cX2_brightest 4 (some .int)]
def wsX7_judge : List Cond := .code yX7_judge cX7_judge 6 (some .int) :: ((wsX7_judge_r1 ++ (wsX7_judge_r2 ++ (wsX7_judge_r3 ++ (wsX7_judge_r4 ++ (wsX7_judge_r5 ++ (wsX7_judge_r6 ++ wsX7_judge_r7)))))) ++ wsX70 ++ wsX20 ++ wsX10 ++ wsX60)
def wsJ6_bitCount_0f7a4 : List Cond := .code yJ6_bitCount_0f7a4 cJ6_bitCount_0f7a4 1 (some .int) :: ([.constant RJ6 265 (1431655765), .constant RJ6 266 (858993459), .constant RJ6 267 (252645135)])
def wsX7_factorial : List Cond := .code yX7_factorial cX7_factorial 3 (some .int) :: ([])
def wsX7_partsOfRows_r1 : List Cond := [Cond.fieldLink RX7 19 "ShadeTree" "grid" "LShadeTree$Grid;", Cond.methodLink RX7 299 yX1_rows, Cond.instanceMethod yX1_rows, Cond.selects RX1 yX1_rows yX1_rows, Cond.initialized RX1, Cond.code yX1_rows cX1_rows 5 (some .long), Cond.fieldLink RX1 22 "ShadeTree$Grid" "high" "I", Cond.methodLink RX1 39 yX1_row, Cond.instanceMethod yX1_row, Cond.selects RX1 yX1_row yX1_row, Cond.code yX1_row cX1_row 2 (some .long), Cond.fieldLink RX1 19 "ShadeTree$Grid" "wide" "I", Cond.methodLink RX7 107 yX1_way, Cond.instanceMethod yX1_way, Cond.selects RX1 yX1_way yX1_way, Cond.code yX1_way cX1_way 1 (some .int), Cond.fieldLink RX1 15 "ShadeTree$Grid" "way" "I", Cond.methodLink RX7 177 yX1_countParts, Cond.instanceMethod yX1_countParts, Cond.selects RX1 yX1_countParts yX1_countParts, Cond.code yX1_countParts cX1_countParts 7 (some .int), Cond.constantLong RX1 47 (-1), Cond.methodLink RX1 53 yX1_partAround, Cond.instanceMethod yX1_partAround]
def wsX7_partsOfRows_r2 : List Cond := [Cond.selects RX1 yX1_partAround yX1_partAround, Cond.code yX1_partAround cX1_partAround 11 (some .long), Cond.methodLink RX1 43 yX1_spread, Cond.instanceMethod yX1_spread, Cond.selects RX1 yX1_spread yX1_spread, Cond.code yX1_spread cX1_spread 8 (some .long), Cond.fieldLink RX1 32 "ShadeTree$Grid" "rightmost" "J", Cond.fieldLink RX1 29 "ShadeTree$Grid" "leftmost" "J"]
def wsX7_partsOfRows : List Cond := .code yX7_partsOfRows cX7_partsOfRows 4 (some .int) :: ((wsX7_partsOfRows_r1 ++ wsX7_partsOfRows_r2) ++ wsX70 ++ wsX10)
def wsX7_sharedOut_r1 : List Cond := [Cond.fieldLink RX7 19 "ShadeTree" "grid" "LShadeTree$Grid;", Cond.methodLink RX7 113 yX1_high, Cond.instanceMethod yX1_high, Cond.selects RX1 yX1_high yX1_high, Cond.initialized RX1, Cond.code yX1_high cX1_high 1 (some .int), Cond.fieldLink RX1 22 "ShadeTree$Grid" "high" "I", Cond.methodLink RX7 292 yJ6_bitCount_0f7a4, Cond.static yJ6_bitCount_0f7a4, Cond.initialized RJ6, Cond.code yJ6_bitCount_0f7a4 cJ6_bitCount_0f7a4 1 (some .int), Cond.constant RJ6 265 (1431655765), Cond.constant RJ6 266 (858993459), Cond.constant RJ6 267 (252645135), Cond.methodLink RX7 236 yX7_factorial, Cond.static yX7_factorial, Cond.initialized RX7, Cond.code yX7_factorial cX7_factorial 3 (some .int), Cond.methodLink RX7 296 yX7_partsOfRows, Cond.instanceMethod yX7_partsOfRows, Cond.selects RX7 yX7_partsOfRows yX7_partsOfRows, Cond.code yX7_partsOfRows cX7_partsOfRows 4 (some .int), Cond.methodLink RX7 299 yX1_rows, Cond.instanceMethod yX1_rows]
def wsX7_sharedOut_r2 : List Cond := [Cond.selects RX1 yX1_rows yX1_rows, Cond.code yX1_rows cX1_rows 5 (some .long), Cond.methodLink RX1 39 yX1_row, Cond.instanceMethod yX1_row, Cond.selects RX1 yX1_row yX1_row, Cond.code yX1_row cX1_row 2 (some .long), Cond.fieldLink RX1 19 "ShadeTree$Grid" "wide" "I", Cond.methodLink RX7 107 yX1_way, Cond.instanceMethod yX1_way, Cond.selects RX1 yX1_way yX1_way, Cond.code yX1_way cX1_way 1 (some .int), Cond.fieldLink RX1 15 "ShadeTree$Grid" "way" "I", Cond.methodLink RX7 177 yX1_countParts, Cond.instanceMethod yX1_countParts, Cond.selects RX1 yX1_countParts yX1_countParts, Cond.code yX1_countParts cX1_countParts 7 (some .int), Cond.constantLong RX1 47 (-1), Cond.methodLink RX1 53 yX1_partAround, Cond.instanceMethod yX1_partAround, Cond.selects RX1 yX1_partAround yX1_partAround, Cond.code yX1_partAround cX1_partAround 11 (some .long), Cond.methodLink RX1 43 yX1_spread, Cond.instanceMethod yX1_spread, Cond.selects RX1 yX1_spread yX1_spread]
def wsX7_sharedOut_r3 : List Cond := [Cond.code yX1_spread cX1_spread 8 (some .long), Cond.fieldLink RX1 32 "ShadeTree$Grid" "rightmost" "J", Cond.fieldLink RX1 29 "ShadeTree$Grid" "leftmost" "J"]
def wsX7_sharedOut : List Cond := .code yX7_sharedOut cX7_sharedOut 10 (some .int) :: ((wsX7_sharedOut_r1 ++ (wsX7_sharedOut_r2 ++ wsX7_sharedOut_r3)) ++ wsX70 ++ wsX10)
def wsX7_share_r1 : List Cond := [Cond.fieldLink RX7 19 "ShadeTree" "grid" "LShadeTree$Grid;", Cond.fieldLink RX7 28 "ShadeTree" "now" "LShadeTree$Shades;", Cond.methodLink RX7 230 yX1_hasRow, Cond.instanceMethod yX1_hasRow, Cond.selects RX1 yX1_hasRow yX1_hasRow, Cond.initialized RX1, Cond.code yX1_hasRow cX1_hasRow 2 (some .boolean), Cond.fieldLink RX1 22 "ShadeTree$Grid" "high" "I", Cond.methodLink RX7 171 yX7_isShade, Cond.static yX7_isShade, Cond.initialized RX7, Cond.code yX7_isShade cX7_isShade 1 (some .boolean), Cond.methodLink RX7 174 yX2_atLeast, Cond.instanceMethod yX2_atLeast, Cond.selects RX2 yX2_atLeast yX2_atLeast, Cond.initialized RX2, Cond.code yX2_atLeast cX2_atLeast 2 (some .long), Cond.fieldLink RX2 9 "ShadeTree$Shades" "layers" "[J", Cond.methodLink RX7 233 yX7_sharedOut, Cond.instanceMethod yX7_sharedOut, Cond.selects RX7 yX7_sharedOut yX7_sharedOut, Cond.code yX7_sharedOut cX7_sharedOut 10 (some .int), Cond.methodLink RX7 113 yX1_high, Cond.instanceMethod yX1_high]
def wsX7_share_r2 : List Cond := [Cond.selects RX1 yX1_high yX1_high, Cond.code yX1_high cX1_high 1 (some .int), Cond.methodLink RX7 292 yJ6_bitCount_0f7a4, Cond.static yJ6_bitCount_0f7a4, Cond.initialized RJ6, Cond.code yJ6_bitCount_0f7a4 cJ6_bitCount_0f7a4 1 (some .int), Cond.constant RJ6 265 (1431655765), Cond.constant RJ6 266 (858993459), Cond.constant RJ6 267 (252645135), Cond.methodLink RX7 236 yX7_factorial, Cond.static yX7_factorial, Cond.code yX7_factorial cX7_factorial 3 (some .int), Cond.methodLink RX7 296 yX7_partsOfRows, Cond.instanceMethod yX7_partsOfRows, Cond.selects RX7 yX7_partsOfRows yX7_partsOfRows, Cond.code yX7_partsOfRows cX7_partsOfRows 4 (some .int), Cond.methodLink RX7 299 yX1_rows, Cond.instanceMethod yX1_rows, Cond.selects RX1 yX1_rows yX1_rows, Cond.code yX1_rows cX1_rows 5 (some .long), Cond.methodLink RX1 39 yX1_row, Cond.instanceMethod yX1_row, Cond.selects RX1 yX1_row yX1_row, Cond.code yX1_row cX1_row 2 (some .long)]
def wsX7_share_r3 : List Cond := [Cond.fieldLink RX1 19 "ShadeTree$Grid" "wide" "I", Cond.methodLink RX7 107 yX1_way, Cond.instanceMethod yX1_way, Cond.selects RX1 yX1_way yX1_way, Cond.code yX1_way cX1_way 1 (some .int), Cond.fieldLink RX1 15 "ShadeTree$Grid" "way" "I", Cond.methodLink RX7 177 yX1_countParts, Cond.instanceMethod yX1_countParts, Cond.selects RX1 yX1_countParts yX1_countParts, Cond.code yX1_countParts cX1_countParts 7 (some .int), Cond.constantLong RX1 47 (-1), Cond.methodLink RX1 53 yX1_partAround, Cond.instanceMethod yX1_partAround, Cond.selects RX1 yX1_partAround yX1_partAround, Cond.code yX1_partAround cX1_partAround 11 (some .long), Cond.methodLink RX1 43 yX1_spread, Cond.instanceMethod yX1_spread, Cond.selects RX1 yX1_spread yX1_spread, Cond.code yX1_spread cX1_spread 8 (some .long), Cond.fieldLink RX1 32 "ShadeTree$Grid" "rightmost" "J", Cond.fieldLink RX1 29 "ShadeTree$Grid" "leftmost" "J", Cond.methodLink RX7 209 yX7_fraction, Cond.static yX7_fraction, Cond.code yX7_fraction cX7_fraction 4 (some .int)]
def wsX7_share_r4 : List Cond := [Cond.methodLink RX7 302 Lib.Math.abs.name, Cond.static Lib.Math.abs.name, Cond.initialized "java/lang/Math", Cond.code Lib.Math.abs.name Lib.Math.abs.code 1 (some .int), Cond.methodLink RX7 307 yX7_commonDivisor, Cond.static yX7_commonDivisor, Cond.code yX7_commonDivisor cX7_commonDivisor 6 (some .int)]
def wsX7_share : List Cond := .code yX7_share cX7_share 4 (some .int) :: ((wsX7_share_r1 ++ (wsX7_share_r2 ++ (wsX7_share_r3 ++ wsX7_share_r4))) ++ wsX70 ++ wsX10 ++ wsX20)
def wsX7_see_r1 : List Cond := [Cond.fieldLink RX7 19 "ShadeTree" "grid" "LShadeTree$Grid;", Cond.fieldLink RX7 64 "ShadeTree" "sights" "LShadeTree$Sights;", Cond.methodLink RX7 132 yX1_hasDot, Cond.instanceMethod yX1_hasDot, Cond.selects RX1 yX1_hasDot yX1_hasDot, Cond.initialized RX1, Cond.code yX1_hasDot cX1_hasDot 2 (some .boolean), Cond.methodLink RX1 35 yX1_size, Cond.instanceMethod yX1_size, Cond.selects RX1 yX1_size yX1_size, Cond.code yX1_size cX1_size 1 (some .int), Cond.fieldLink RX1 19 "ShadeTree$Grid" "wide" "I", Cond.fieldLink RX1 22 "ShadeTree$Grid" "high" "I", Cond.methodLink RX7 239 yX3_add, Cond.instanceMethod yX3_add, Cond.selects RX3 yX3_add yX3_add, Cond.initialized RX3, Cond.code yX3_add cX3_add 4 (some .boolean), Cond.fieldLink RX3 20 "ShadeTree$Sights" "size" "I", Cond.fieldLink RX3 9 "ShadeTree$Sights" "ones" "[I", Cond.fieldLink RX3 13 "ShadeTree$Sights" "others" "[I", Cond.fieldLink RX3 16 "ShadeTree$Sights" "joined" "[Z", Cond.methodLink RX7 131 yX3_size, Cond.instanceMethod yX3_size]
def wsX7_see_r2 : List Cond := [Cond.selects RX3 yX3_size yX3_size, Cond.code yX3_size cX3_size 1 (some .int)]
def wsX7_see : List Cond := .code yX7_see cX7_see 4 (some .int) :: ((wsX7_see_r1 ++ wsX7_see_r2) ++ wsX70 ++ wsX10 ++ wsX30)
def wsX7_unsee : List Cond := .code yX7_unsee cX7_unsee 2 (some .int) :: ([.fieldLink RX7 64 "ShadeTree" "sights" "LShadeTree$Sights;", .methodLink RX7 131 yX3_size, .instanceMethod yX3_size, .selects RX3 yX3_size yX3_size, .initialized RX3, .code yX3_size cX3_size 1 (some .int), .fieldLink RX3 20 "ShadeTree$Sights" "size" "I", .methodLink RX7 242 yX3_clear, .instanceMethod yX3_clear, .selects RX3 yX3_clear yX3_clear, .code yX3_clear cX3_clear 1 none] ++ wsX70 ++ wsX30)
def wsX7_ways_r1 : List Cond := [Cond.fieldLink RX7 64 "ShadeTree" "sights" "LShadeTree$Sights;", Cond.fieldLink RX7 19 "ShadeTree" "grid" "LShadeTree$Grid;", Cond.fieldLink RX7 28 "ShadeTree" "now" "LShadeTree$Shades;", Cond.methodLink RX7 174 yX2_atLeast, Cond.instanceMethod yX2_atLeast, Cond.selects RX2 yX2_atLeast yX2_atLeast, Cond.initialized RX2, Cond.code yX2_atLeast cX2_atLeast 2 (some .long), Cond.fieldLink RX2 9 "ShadeTree$Shades" "layers" "[J", Cond.methodLink RX7 243 yX3_hold, Cond.instanceMethod yX3_hold, Cond.selects RX3 yX3_hold yX3_hold, Cond.initialized RX3, Cond.code yX3_hold cX3_hold 6 (some .boolean), Cond.fieldLink RX3 20 "ShadeTree$Sights" "size" "I", Cond.fieldLink RX3 9 "ShadeTree$Sights" "ones" "[I", Cond.fieldLink RX3 13 "ShadeTree$Sights" "others" "[I", Cond.fieldLink RX3 16 "ShadeTree$Sights" "joined" "[Z", Cond.methodLink RX3 24 yX1_joined, Cond.instanceMethod yX1_joined, Cond.selects RX1 yX1_joined yX1_joined, Cond.initialized RX1, Cond.code yX1_joined cX1_joined 6 (some .boolean), Cond.methodLink RX1 49 yX1_hasDot]
def wsX7_ways_r2 : List Cond := [Cond.instanceMethod yX1_hasDot, Cond.selects RX1 yX1_hasDot yX1_hasDot, Cond.code yX1_hasDot cX1_hasDot 2 (some .boolean), Cond.methodLink RX1 35 yX1_size, Cond.instanceMethod yX1_size, Cond.selects RX1 yX1_size yX1_size, Cond.code yX1_size cX1_size 1 (some .int), Cond.fieldLink RX1 19 "ShadeTree$Grid" "wide" "I", Cond.fieldLink RX1 22 "ShadeTree$Grid" "high" "I", Cond.methodLink RX1 53 yX1_partAround, Cond.instanceMethod yX1_partAround, Cond.selects RX1 yX1_partAround yX1_partAround, Cond.code yX1_partAround cX1_partAround 11 (some .long), Cond.methodLink RX1 43 yX1_spread, Cond.instanceMethod yX1_spread, Cond.selects RX1 yX1_spread yX1_spread, Cond.code yX1_spread cX1_spread 8 (some .long), Cond.fieldLink RX1 32 "ShadeTree$Grid" "rightmost" "J", Cond.constantLong RX1 47 (-1), Cond.fieldLink RX1 29 "ShadeTree$Grid" "leftmost" "J"]
def wsX7_ways : List Cond := .code yX7_ways cX7_ways 6 (some .int) :: ((wsX7_ways_r1 ++ wsX7_ways_r2) ++ wsX70 ++ wsX20 ++ wsX30 ++ wsX10)
def wsX7_power : List Cond := .code yX7_power cX7_power 4 (some .int) :: ([])
def wsX7_fadedOut_r1 : List Cond := [Cond.fieldLink RX7 19 "ShadeTree" "grid" "LShadeTree$Grid;", Cond.constantLong RX7 169 (-1), Cond.methodLink RX7 107 yX1_way, Cond.instanceMethod yX1_way, Cond.selects RX1 yX1_way yX1_way, Cond.initialized RX1, Cond.code yX1_way cX1_way 1 (some .int), Cond.fieldLink RX1 15 "ShadeTree$Grid" "way" "I", Cond.methodLink RX7 177 yX1_countParts, Cond.instanceMethod yX1_countParts, Cond.selects RX1 yX1_countParts yX1_countParts, Cond.code yX1_countParts cX1_countParts 7 (some .int), Cond.constantLong RX1 47 (-1), Cond.methodLink RX1 53 yX1_partAround, Cond.instanceMethod yX1_partAround, Cond.selects RX1 yX1_partAround yX1_partAround, Cond.code yX1_partAround cX1_partAround 11 (some .long), Cond.methodLink RX1 43 yX1_spread, Cond.instanceMethod yX1_spread, Cond.selects RX1 yX1_spread yX1_spread, Cond.code yX1_spread cX1_spread 8 (some .long), Cond.fieldLink RX1 32 "ShadeTree$Grid" "rightmost" "J", Cond.fieldLink RX1 29 "ShadeTree$Grid" "leftmost" "J", Cond.fieldLink RX1 19 "ShadeTree$Grid" "wide" "I"]
def wsX7_fadedOut_r2 : List Cond := [Cond.methodLink RX7 146 yJ13_bitCount_95d88, Cond.static yJ13_bitCount_95d88, Cond.initialized RJ13, Cond.code yJ13_bitCount_95d88 cJ13_bitCount_95d88 2 (some .int), Cond.constantLong RJ13 314 (6148914691236517205), Cond.constantLong RJ13 316 (3689348814741910323), Cond.constantLong RJ13 318 (1085102592571150095), Cond.methodLink RX7 254 yX7_power, Cond.static yX7_power, Cond.initialized RX7, Cond.code yX7_power cX7_power 4 (some .int)]
def wsX7_fadedOut : List Cond := .code yX7_fadedOut cX7_fadedOut 11 (some .int) :: ((wsX7_fadedOut_r1 ++ wsX7_fadedOut_r2) ++ wsX70 ++ wsX10)
def wsX7_fades_r1 : List Cond := [Cond.fieldLink RX7 19 "ShadeTree" "grid" "LShadeTree$Grid;", Cond.fieldLink RX7 28 "ShadeTree" "now" "LShadeTree$Shades;", Cond.methodLink RX7 230 yX1_hasRow, Cond.instanceMethod yX1_hasRow, Cond.selects RX1 yX1_hasRow yX1_hasRow, Cond.initialized RX1, Cond.code yX1_hasRow cX1_hasRow 2 (some .boolean), Cond.fieldLink RX1 22 "ShadeTree$Grid" "high" "I", Cond.methodLink RX7 174 yX2_atLeast, Cond.instanceMethod yX2_atLeast, Cond.selects RX2 yX2_atLeast yX2_atLeast, Cond.initialized RX2, Cond.code yX2_atLeast cX2_atLeast 2 (some .long), Cond.fieldLink RX2 9 "ShadeTree$Shades" "layers" "[J", Cond.methodLink RX7 247 yX1_row, Cond.instanceMethod yX1_row, Cond.selects RX1 yX1_row yX1_row, Cond.code yX1_row cX1_row 2 (some .long), Cond.fieldLink RX1 19 "ShadeTree$Grid" "wide" "I", Cond.methodLink RX7 250 yX7_fadedOut, Cond.instanceMethod yX7_fadedOut, Cond.selects RX7 yX7_fadedOut yX7_fadedOut, Cond.initialized RX7, Cond.code yX7_fadedOut cX7_fadedOut 11 (some .int)]
def wsX7_fades_r2 : List Cond := [Cond.constantLong RX7 169 (-1), Cond.methodLink RX7 107 yX1_way, Cond.instanceMethod yX1_way, Cond.selects RX1 yX1_way yX1_way, Cond.code yX1_way cX1_way 1 (some .int), Cond.fieldLink RX1 15 "ShadeTree$Grid" "way" "I", Cond.methodLink RX7 177 yX1_countParts, Cond.instanceMethod yX1_countParts, Cond.selects RX1 yX1_countParts yX1_countParts, Cond.code yX1_countParts cX1_countParts 7 (some .int), Cond.constantLong RX1 47 (-1), Cond.methodLink RX1 53 yX1_partAround, Cond.instanceMethod yX1_partAround, Cond.selects RX1 yX1_partAround yX1_partAround, Cond.code yX1_partAround cX1_partAround 11 (some .long), Cond.methodLink RX1 43 yX1_spread, Cond.instanceMethod yX1_spread, Cond.selects RX1 yX1_spread yX1_spread, Cond.code yX1_spread cX1_spread 8 (some .long), Cond.fieldLink RX1 32 "ShadeTree$Grid" "rightmost" "J", Cond.fieldLink RX1 29 "ShadeTree$Grid" "leftmost" "J", Cond.methodLink RX7 146 yJ13_bitCount_95d88, Cond.static yJ13_bitCount_95d88, Cond.initialized RJ13]
def wsX7_fades_r3 : List Cond := [Cond.code yJ13_bitCount_95d88 cJ13_bitCount_95d88 2 (some .int), Cond.constantLong RJ13 314 (6148914691236517205), Cond.constantLong RJ13 316 (3689348814741910323), Cond.constantLong RJ13 318 (1085102592571150095), Cond.methodLink RX7 254 yX7_power, Cond.static yX7_power, Cond.code yX7_power cX7_power 4 (some .int), Cond.methodLink RX7 209 yX7_fraction, Cond.static yX7_fraction, Cond.code yX7_fraction cX7_fraction 4 (some .int), Cond.methodLink RX7 302 Lib.Math.abs.name, Cond.static Lib.Math.abs.name, Cond.initialized "java/lang/Math", Cond.code Lib.Math.abs.name Lib.Math.abs.code 1 (some .int), Cond.methodLink RX7 307 yX7_commonDivisor, Cond.static yX7_commonDivisor, Cond.code yX7_commonDivisor cX7_commonDivisor 6 (some .int)]
def wsX7_fades : List Cond := .code yX7_fades cX7_fades 10 (some .int) :: ((wsX7_fades_r1 ++ (wsX7_fades_r2 ++ wsX7_fades_r3)) ++ wsX70 ++ wsX10 ++ wsX20)
def wsX7_seed : List Cond := .code yX7_seed cX7_seed 5 (some .long) :: ([.fieldLink RX7 68 "ShadeTree" "seedNow" "J"] ++ wsX70)
def wsX7_change_r1 : List Cond := [Cond.fieldLink RX7 19 "ShadeTree" "grid" "LShadeTree$Grid;", Cond.constantLong RX7 288 (64), Cond.constantLong RX7 290 (12), Cond.fieldLink RX7 41 "ShadeTree" "trial" "LShadeTree$Shades;", Cond.methodLink RX7 97 yX1_size, Cond.instanceMethod yX1_size, Cond.selects RX1 yX1_size yX1_size, Cond.initialized RX1, Cond.code yX1_size cX1_size 1 (some .int), Cond.fieldLink RX1 19 "ShadeTree$Grid" "wide" "I", Cond.fieldLink RX1 22 "ShadeTree$Grid" "high" "I", Cond.methodLink RX7 98 yX2_set, Cond.instanceMethod yX2_set, Cond.selects RX2 yX2_set yX2_set, Cond.initialized RX2, Cond.code yX2_set cX2_set 6 none, Cond.fieldLink RX2 9 "ShadeTree$Shades" "layers" "[J", Cond.constantLong RX2 38 (-1), Cond.methodLink RX7 183 yX2_turn, Cond.instanceMethod yX2_turn, Cond.selects RX2 yX2_turn yX2_turn, Cond.code yX2_turn cX2_turn 4 none, Cond.fieldLink RX2 15 "ShadeTree$Shades" "grid" "LShadeTree$Grid;", Cond.methodLink RX2 22 yX1_all]
def wsX7_change_r2 : List Cond := [Cond.instanceMethod yX1_all, Cond.selects RX1 yX1_all yX1_all, Cond.code yX1_all cX1_all 1 (some .long), Cond.fieldLink RX1 25 "ShadeTree$Grid" "all" "J", Cond.methodLink RX2 34 yX2_atLeast, Cond.instanceMethod yX2_atLeast, Cond.selects RX2 yX2_atLeast yX2_atLeast, Cond.code yX2_atLeast cX2_atLeast 2 (some .long), Cond.methodLink RX2 40 yX2_put, Cond.instanceMethod yX2_put, Cond.selects RX2 yX2_put yX2_put, Cond.code yX2_put cX2_put 4 none, Cond.methodLink RX7 190 yX2_thin, Cond.instanceMethod yX2_thin, Cond.selects RX2 yX2_thin yX2_thin, Cond.code yX2_thin cX2_thin 8 (some .int), Cond.methodLink RX2 44 yX2_bigParts, Cond.instanceMethod yX2_bigParts, Cond.selects RX2 yX2_bigParts yX2_bigParts, Cond.code yX2_bigParts cX2_bigParts 12 (some .long), Cond.methodLink RX2 48 yX1_way, Cond.instanceMethod yX1_way, Cond.selects RX1 yX1_way yX1_way, Cond.code yX1_way cX1_way 1 (some .int)]
def wsX7_change_r3 : List Cond := [Cond.fieldLink RX1 15 "ShadeTree$Grid" "way" "I", Cond.methodLink RX2 52 yX1_partAround, Cond.instanceMethod yX1_partAround, Cond.selects RX1 yX1_partAround yX1_partAround, Cond.code yX1_partAround cX1_partAround 11 (some .long), Cond.methodLink RX1 43 yX1_spread, Cond.instanceMethod yX1_spread, Cond.selects RX1 yX1_spread yX1_spread, Cond.code yX1_spread cX1_spread 8 (some .long), Cond.fieldLink RX1 32 "ShadeTree$Grid" "rightmost" "J", Cond.constantLong RX1 47 (-1), Cond.fieldLink RX1 29 "ShadeTree$Grid" "leftmost" "J", Cond.methodLink RX2 56 yX2_isBig, Cond.instanceMethod yX2_isBig, Cond.selects RX2 yX2_isBig yX2_isBig, Cond.code yX2_isBig cX2_isBig 5 (some .boolean), Cond.methodLink RX2 28 yJ13_bitCount_95d88, Cond.static yJ13_bitCount_95d88, Cond.initialized RJ13, Cond.code yJ13_bitCount_95d88 cJ13_bitCount_95d88 2 (some .int), Cond.constantLong RJ13 314 (6148914691236517205), Cond.constantLong RJ13 316 (3689348814741910323), Cond.constantLong RJ13 318 (1085102592571150095), Cond.methodLink RX2 60 yX1_columnsOf]
def wsX7_change_r4 : List Cond := [Cond.instanceMethod yX1_columnsOf, Cond.selects RX1 yX1_columnsOf yX1_columnsOf, Cond.code yX1_columnsOf cX1_columnsOf 5 (some .int), Cond.methodLink RX2 63 yX1_rowsOf, Cond.instanceMethod yX1_rowsOf, Cond.selects RX1 yX1_rowsOf yX1_rowsOf, Cond.code yX1_rowsOf cX1_rowsOf 5 (some .int), Cond.methodLink RX1 39 yX1_row, Cond.instanceMethod yX1_row, Cond.selects RX1 yX1_row yX1_row, Cond.code yX1_row cX1_row 2 (some .long)]
def wsX7_change : List Cond := .code yX7_change cX7_change 6 none :: ((wsX7_change_r1 ++ (wsX7_change_r2 ++ (wsX7_change_r3 ++ wsX7_change_r4))) ++ wsX70 ++ wsX10 ++ wsX20)
def wsX7_drawn_r1 : List Cond := [Cond.fieldLink RX7 41 "ShadeTree" "trial" "LShadeTree$Shades;", Cond.fieldLink RX7 28 "ShadeTree" "now" "LShadeTree$Shades;", Cond.fieldLink RX7 68 "ShadeTree" "seedNow" "J", Cond.constantLong RX7 257 (6364136223846793005), Cond.constantLong RX7 259 (1442695040888963407), Cond.fieldLink RX7 44 "ShadeTree" "trialTree" "LShadeTree$Tree;", Cond.methodLink RX7 221 yX2_copy, Cond.instanceMethod yX2_copy, Cond.selects RX2 yX2_copy yX2_copy, Cond.initialized RX2, Cond.code yX2_copy cX2_copy 2 none, Cond.fieldLink RX2 9 "ShadeTree$Shades" "layers" "[J", Cond.methodLink RX2 66 yX2_store, Cond.instanceMethod yX2_store, Cond.selects RX2 yX2_store yX2_store, Cond.code yX2_store cX2_store 3 none, Cond.methodLink RX2 70 arraycopyName, Cond.native arraycopyName, Cond.static arraycopyName, Cond.initialized "java/lang/System", Cond.methodLink RX7 261 yX7_change, Cond.instanceMethod yX7_change, Cond.selects RX7 yX7_change yX7_change, Cond.initialized RX7]
def wsX7_drawn_r2 : List Cond := [Cond.code yX7_change cX7_change 6 none, Cond.fieldLink RX7 19 "ShadeTree" "grid" "LShadeTree$Grid;", Cond.constantLong RX7 288 (64), Cond.constantLong RX7 290 (12), Cond.methodLink RX7 97 yX1_size, Cond.instanceMethod yX1_size, Cond.selects RX1 yX1_size yX1_size, Cond.initialized RX1, Cond.code yX1_size cX1_size 1 (some .int), Cond.fieldLink RX1 19 "ShadeTree$Grid" "wide" "I", Cond.fieldLink RX1 22 "ShadeTree$Grid" "high" "I", Cond.methodLink RX7 98 yX2_set, Cond.instanceMethod yX2_set, Cond.selects RX2 yX2_set yX2_set, Cond.code yX2_set cX2_set 6 none, Cond.constantLong RX2 38 (-1), Cond.methodLink RX7 183 yX2_turn, Cond.instanceMethod yX2_turn, Cond.selects RX2 yX2_turn yX2_turn, Cond.code yX2_turn cX2_turn 4 none, Cond.fieldLink RX2 15 "ShadeTree$Shades" "grid" "LShadeTree$Grid;", Cond.methodLink RX2 22 yX1_all, Cond.instanceMethod yX1_all, Cond.selects RX1 yX1_all yX1_all]
def wsX7_drawn_r3 : List Cond := [Cond.code yX1_all cX1_all 1 (some .long), Cond.fieldLink RX1 25 "ShadeTree$Grid" "all" "J", Cond.methodLink RX2 34 yX2_atLeast, Cond.instanceMethod yX2_atLeast, Cond.selects RX2 yX2_atLeast yX2_atLeast, Cond.code yX2_atLeast cX2_atLeast 2 (some .long), Cond.methodLink RX2 40 yX2_put, Cond.instanceMethod yX2_put, Cond.selects RX2 yX2_put yX2_put, Cond.code yX2_put cX2_put 4 none, Cond.methodLink RX7 190 yX2_thin, Cond.instanceMethod yX2_thin, Cond.selects RX2 yX2_thin yX2_thin, Cond.code yX2_thin cX2_thin 8 (some .int), Cond.methodLink RX2 44 yX2_bigParts, Cond.instanceMethod yX2_bigParts, Cond.selects RX2 yX2_bigParts yX2_bigParts, Cond.code yX2_bigParts cX2_bigParts 12 (some .long), Cond.methodLink RX2 48 yX1_way, Cond.instanceMethod yX1_way, Cond.selects RX1 yX1_way yX1_way, Cond.code yX1_way cX1_way 1 (some .int), Cond.fieldLink RX1 15 "ShadeTree$Grid" "way" "I", Cond.methodLink RX2 52 yX1_partAround]
def wsX7_drawn_r4 : List Cond := [Cond.instanceMethod yX1_partAround, Cond.selects RX1 yX1_partAround yX1_partAround, Cond.code yX1_partAround cX1_partAround 11 (some .long), Cond.methodLink RX1 43 yX1_spread, Cond.instanceMethod yX1_spread, Cond.selects RX1 yX1_spread yX1_spread, Cond.code yX1_spread cX1_spread 8 (some .long), Cond.fieldLink RX1 32 "ShadeTree$Grid" "rightmost" "J", Cond.constantLong RX1 47 (-1), Cond.fieldLink RX1 29 "ShadeTree$Grid" "leftmost" "J", Cond.methodLink RX2 56 yX2_isBig, Cond.instanceMethod yX2_isBig, Cond.selects RX2 yX2_isBig yX2_isBig, Cond.code yX2_isBig cX2_isBig 5 (some .boolean), Cond.methodLink RX2 28 yJ13_bitCount_95d88, Cond.static yJ13_bitCount_95d88, Cond.initialized RJ13, Cond.code yJ13_bitCount_95d88 cJ13_bitCount_95d88 2 (some .int), Cond.constantLong RJ13 314 (6148914691236517205), Cond.constantLong RJ13 316 (3689348814741910323), Cond.constantLong RJ13 318 (1085102592571150095), Cond.methodLink RX2 60 yX1_columnsOf, Cond.instanceMethod yX1_columnsOf, Cond.selects RX1 yX1_columnsOf yX1_columnsOf]
def wsX7_drawn_r5 : List Cond := [Cond.code yX1_columnsOf cX1_columnsOf 5 (some .int), Cond.methodLink RX2 63 yX1_rowsOf, Cond.instanceMethod yX1_rowsOf, Cond.selects RX1 yX1_rowsOf yX1_rowsOf, Cond.code yX1_rowsOf cX1_rowsOf 5 (some .int), Cond.methodLink RX1 39 yX1_row, Cond.instanceMethod yX1_row, Cond.selects RX1 yX1_row yX1_row, Cond.code yX1_row cX1_row 2 (some .long), Cond.methodLink RX7 104 yX6_countNodes, Cond.instanceMethod yX6_countNodes, Cond.selects RX6 yX6_countNodes yX6_countNodes, Cond.initialized RX6, Cond.code yX6_countNodes cX6_countNodes 1 (some .int), Cond.fieldLink RX6 95 "ShadeTree$Tree" "size" "I", Cond.methodLink RX6 92 yX6_gather, Cond.instanceMethod yX6_gather, Cond.selects RX6 yX6_gather yX6_gather, Cond.code yX6_gather cX6_gather 6 none, Cond.fieldLink RX6 9 "ShadeTree$Tree" "nodeParts" "[J", Cond.fieldLink RX6 15 "ShadeTree$Tree" "nodeLevels" "[I", Cond.constantLong RX6 43 (-1), Cond.methodLink RX6 57 yX6_ofLevel, Cond.instanceMethod yX6_ofLevel]
def wsX7_drawn_r6 : List Cond := [Cond.selects RX6 yX6_ofLevel yX6_ofLevel, Cond.code yX6_ofLevel cX6_ofLevel 2 (some .long), Cond.fieldLink RX6 23 "ShadeTree$Tree" "shades" "LShadeTree$Shades;", Cond.methodLink RX6 27 yX2_atLeast, Cond.methodLink RX6 53 yX6_partAt, Cond.instanceMethod yX6_partAt, Cond.selects RX6 yX6_partAt yX6_partAt, Cond.code yX6_partAt cX6_partAt 4 (some .long), Cond.fieldLink RX6 19 "ShadeTree$Tree" "grid" "LShadeTree$Grid;", Cond.methodLink RX6 33 yX1_way, Cond.methodLink RX6 39 yX1_partAround]
def wsX7_drawn : List Cond := .code yX7_drawn cX7_drawn 4 (some .int) :: ((wsX7_drawn_r1 ++ (wsX7_drawn_r2 ++ (wsX7_drawn_r3 ++ (wsX7_drawn_r4 ++ (wsX7_drawn_r5 ++ wsX7_drawn_r6))))) ++ wsX70 ++ wsX20 ++ wsX10 ++ wsX60)
def wsX7_keep_r1 : List Cond := [Cond.fieldLink RX7 57 "ShadeTree" "slots" "LShadeTree$Slots;", Cond.fieldLink RX7 28 "ShadeTree" "now" "LShadeTree$Shades;", Cond.fieldLink RX7 37 "ShadeTree" "tree" "LShadeTree$Tree;", Cond.methodLink RX7 265 yX4_put, Cond.instanceMethod yX4_put, Cond.selects RX4 yX4_put yX4_put, Cond.initialized RX4, Cond.code yX4_put cX4_put 3 (some .boolean), Cond.fieldLink RX4 15 "ShadeTree$Slots" "used" "[Z", Cond.fieldLink RX4 11 "ShadeTree$Slots" "kept" "[J", Cond.methodLink RX4 19 yX2_store, Cond.instanceMethod yX2_store, Cond.selects RX2 yX2_store yX2_store, Cond.initialized RX2, Cond.code yX2_store cX2_store 3 none, Cond.fieldLink RX2 9 "ShadeTree$Shades" "layers" "[J", Cond.methodLink RX2 70 arraycopyName, Cond.native arraycopyName, Cond.static arraycopyName, Cond.initialized "java/lang/System", Cond.methodLink RX7 104 yX6_countNodes, Cond.instanceMethod yX6_countNodes, Cond.selects RX6 yX6_countNodes yX6_countNodes, Cond.initialized RX6]
def wsX7_keep_r2 : List Cond := [Cond.code yX6_countNodes cX6_countNodes 1 (some .int), Cond.fieldLink RX6 95 "ShadeTree$Tree" "size" "I", Cond.methodLink RX6 92 yX6_gather, Cond.instanceMethod yX6_gather, Cond.selects RX6 yX6_gather yX6_gather, Cond.code yX6_gather cX6_gather 6 none, Cond.fieldLink RX6 9 "ShadeTree$Tree" "nodeParts" "[J", Cond.fieldLink RX6 15 "ShadeTree$Tree" "nodeLevels" "[I", Cond.constantLong RX6 43 (-1), Cond.methodLink RX6 57 yX6_ofLevel, Cond.instanceMethod yX6_ofLevel, Cond.selects RX6 yX6_ofLevel yX6_ofLevel, Cond.code yX6_ofLevel cX6_ofLevel 2 (some .long), Cond.fieldLink RX6 23 "ShadeTree$Tree" "shades" "LShadeTree$Shades;", Cond.methodLink RX6 27 yX2_atLeast, Cond.instanceMethod yX2_atLeast, Cond.selects RX2 yX2_atLeast yX2_atLeast, Cond.code yX2_atLeast cX2_atLeast 2 (some .long), Cond.methodLink RX6 53 yX6_partAt, Cond.instanceMethod yX6_partAt, Cond.selects RX6 yX6_partAt yX6_partAt, Cond.code yX6_partAt cX6_partAt 4 (some .long), Cond.fieldLink RX6 19 "ShadeTree$Tree" "grid" "LShadeTree$Grid;", Cond.methodLink RX6 33 yX1_way]
def wsX7_keep_r3 : List Cond := [Cond.instanceMethod yX1_way, Cond.selects RX1 yX1_way yX1_way, Cond.initialized RX1, Cond.code yX1_way cX1_way 1 (some .int), Cond.fieldLink RX1 15 "ShadeTree$Grid" "way" "I", Cond.methodLink RX6 39 yX1_partAround, Cond.instanceMethod yX1_partAround, Cond.selects RX1 yX1_partAround yX1_partAround, Cond.code yX1_partAround cX1_partAround 11 (some .long), Cond.methodLink RX1 43 yX1_spread, Cond.instanceMethod yX1_spread, Cond.selects RX1 yX1_spread yX1_spread, Cond.code yX1_spread cX1_spread 8 (some .long), Cond.fieldLink RX1 32 "ShadeTree$Grid" "rightmost" "J", Cond.constantLong RX1 47 (-1), Cond.fieldLink RX1 29 "ShadeTree$Grid" "leftmost" "J", Cond.fieldLink RX1 19 "ShadeTree$Grid" "wide" "I"]
def wsX7_keep : List Cond := .code yX7_keep cX7_keep 2 (some .int) :: ((wsX7_keep_r1 ++ (wsX7_keep_r2 ++ wsX7_keep_r3)) ++ wsX70 ++ wsX40 ++ wsX20 ++ wsX60 ++ wsX10)
def wsX7_again_r1 : List Cond := [Cond.fieldLink RX7 57 "ShadeTree" "slots" "LShadeTree$Slots;", Cond.fieldLink RX7 28 "ShadeTree" "now" "LShadeTree$Shades;", Cond.fieldLink RX7 50 "ShadeTree" "doings" "LShadeTree$Doings;", Cond.fieldLink RX7 37 "ShadeTree" "tree" "LShadeTree$Tree;", Cond.methodLink RX7 269 yX4_has, Cond.instanceMethod yX4_has, Cond.selects RX4 yX4_has yX4_has, Cond.initialized RX4, Cond.code yX4_has cX4_has 2 (some .boolean), Cond.fieldLink RX4 15 "ShadeTree$Slots" "used" "[Z", Cond.methodLink RX7 272 yX4_bringBack, Cond.instanceMethod yX4_bringBack, Cond.selects RX4 yX4_bringBack yX4_bringBack, Cond.code yX4_bringBack cX4_bringBack 3 (some .boolean), Cond.fieldLink RX4 11 "ShadeTree$Slots" "kept" "[J", Cond.methodLink RX4 25 yX2_load, Cond.instanceMethod yX2_load, Cond.selects RX2 yX2_load yX2_load, Cond.initialized RX2, Cond.code yX2_load cX2_load 3 none, Cond.fieldLink RX2 9 "ShadeTree$Shades" "layers" "[J", Cond.methodLink RX2 70 arraycopyName, Cond.native arraycopyName, Cond.static arraycopyName]
def wsX7_again_r2 : List Cond := [Cond.initialized "java/lang/System", Cond.methodLink RX7 102 yX0_clear, Cond.instanceMethod yX0_clear, Cond.selects RX0 yX0_clear yX0_clear, Cond.initialized RX0, Cond.code yX0_clear cX0_clear 1 none, Cond.fieldLink RX0 15 "ShadeTree$Doings" "size" "I", Cond.methodLink RX7 104 yX6_countNodes, Cond.instanceMethod yX6_countNodes, Cond.selects RX6 yX6_countNodes yX6_countNodes, Cond.initialized RX6, Cond.code yX6_countNodes cX6_countNodes 1 (some .int), Cond.fieldLink RX6 95 "ShadeTree$Tree" "size" "I", Cond.methodLink RX6 92 yX6_gather, Cond.instanceMethod yX6_gather, Cond.selects RX6 yX6_gather yX6_gather, Cond.code yX6_gather cX6_gather 6 none, Cond.fieldLink RX6 9 "ShadeTree$Tree" "nodeParts" "[J", Cond.fieldLink RX6 15 "ShadeTree$Tree" "nodeLevels" "[I", Cond.constantLong RX6 43 (-1), Cond.methodLink RX6 57 yX6_ofLevel, Cond.instanceMethod yX6_ofLevel, Cond.selects RX6 yX6_ofLevel yX6_ofLevel, Cond.code yX6_ofLevel cX6_ofLevel 2 (some .long)]
def wsX7_again_r3 : List Cond := [Cond.fieldLink RX6 23 "ShadeTree$Tree" "shades" "LShadeTree$Shades;", Cond.methodLink RX6 27 yX2_atLeast, Cond.instanceMethod yX2_atLeast, Cond.selects RX2 yX2_atLeast yX2_atLeast, Cond.code yX2_atLeast cX2_atLeast 2 (some .long), Cond.methodLink RX6 53 yX6_partAt, Cond.instanceMethod yX6_partAt, Cond.selects RX6 yX6_partAt yX6_partAt, Cond.code yX6_partAt cX6_partAt 4 (some .long), Cond.fieldLink RX6 19 "ShadeTree$Tree" "grid" "LShadeTree$Grid;", Cond.methodLink RX6 33 yX1_way, Cond.instanceMethod yX1_way, Cond.selects RX1 yX1_way yX1_way, Cond.initialized RX1, Cond.code yX1_way cX1_way 1 (some .int), Cond.fieldLink RX1 15 "ShadeTree$Grid" "way" "I", Cond.methodLink RX6 39 yX1_partAround, Cond.instanceMethod yX1_partAround, Cond.selects RX1 yX1_partAround yX1_partAround, Cond.code yX1_partAround cX1_partAround 11 (some .long), Cond.methodLink RX1 43 yX1_spread, Cond.instanceMethod yX1_spread, Cond.selects RX1 yX1_spread yX1_spread, Cond.code yX1_spread cX1_spread 8 (some .long)]
def wsX7_again_r4 : List Cond := [Cond.fieldLink RX1 32 "ShadeTree$Grid" "rightmost" "J", Cond.constantLong RX1 47 (-1), Cond.fieldLink RX1 29 "ShadeTree$Grid" "leftmost" "J", Cond.fieldLink RX1 19 "ShadeTree$Grid" "wide" "I"]
def wsX7_again : List Cond := .code yX7_again cX7_again 2 (some .int) :: ((wsX7_again_r1 ++ (wsX7_again_r2 ++ (wsX7_again_r3 ++ wsX7_again_r4))) ++ wsX70 ++ wsX40 ++ wsX20 ++ wsX00 ++ wsX60 ++ wsX10)
def wsX8_init : List Cond := .code yX8_init cX8_init 1 none :: ([.methodLink RX8 1 objectInit, .instanceMethod objectInit, .code objectInit ⟨#[0xb1]⟩ 1 none, .arrayClass .int, .fieldLink RX8 7 "ShadeTreeModel" "text" "[I", .fieldLink RX8 13 "ShadeTreeModel" "readPage" "[I", .fieldLink RX8 16 "ShadeTreeModel" "page" "[I", .fieldLink RX8 19 "ShadeTreeModel" "trial" "[I", .fieldLink RX8 22 "ShadeTreeModel" "changed" "[I", .fieldLink RX8 25 "ShadeTreeModel" "book" "[I", .fieldLink RX8 28 "ShadeTreeModel" "kept" "[I", .arrayClass .boolean, .fieldLink RX8 31 "ShadeTreeModel" "isKept" "[Z", .fieldLink RX8 35 "ShadeTreeModel" "seenOne" "[I", .fieldLink RX8 38 "ShadeTreeModel" "seenOther" "[I", .fieldLink RX8 41 "ShadeTreeModel" "seenIs" "[I", .fieldLink RX8 44 "ShadeTreeModel" "value" "[I"] ++ wsX80)
def wsX8_in : List Cond := .code yX8_in cX8_in 6 (some .boolean) :: ([])
def wsX8_has : List Cond := .code yX8_has cX8_has 3 (some .boolean) :: ([])
def wsX8_many : List Cond := .code yX8_many cX8_many 4 (some .int) :: ([.methodLink RX8 51 yX8_has, .static yX8_has, .initialized RX8, .code yX8_has cX8_has 3 (some .boolean)])
def wsX8_power : List Cond := .code yX8_power cX8_power 4 (some .int) :: ([])
def wsX8_dotsOf : List Cond := .code yX8_dotsOf cX8_dotsOf 1 (some .int) :: ([])
def wsX8_noDot : List Cond := .code yX8_noDot cX8_noDot 2 (some .boolean) :: ([.fieldLink RX8 16 "ShadeTreeModel" "page" "[I", .methodLink RX8 55 yX8_dotsOf, .static yX8_dotsOf, .initialized RX8, .code yX8_dotsOf cX8_dotsOf 1 (some .int), .methodLink RX8 59 yX8_in, .static yX8_in, .code yX8_in cX8_in 6 (some .boolean)] ++ wsX80)
def wsX8_isBeside : List Cond := .code yX8_isBeside cX8_isBeside 7 (some .boolean) :: ([])
def wsX8_bright : List Cond := .code yX8_bright cX8_bright 7 (some .long) :: ([.methodLink RX8 55 yX8_dotsOf, .static yX8_dotsOf, .initialized RX8, .code yX8_dotsOf cX8_dotsOf 1 (some .int), .methodLink RX8 51 yX8_has, .static yX8_has, .code yX8_has cX8_has 3 (some .boolean)])
def wsX8_around : List Cond := .code yX8_around cX8_around 6 (some .long) :: ([.methodLink RX8 55 yX8_dotsOf, .static yX8_dotsOf, .initialized RX8, .code yX8_dotsOf cX8_dotsOf 1 (some .int), .methodLink RX8 63 yX8_isBeside, .static yX8_isBeside, .code yX8_isBeside cX8_isBeside 7 (some .boolean)])
def wsX8_spread : List Cond := .code yX8_spread cX8_spread 10 (some .long) :: ([.constantLong RX8 67 (-1), .methodLink RX8 51 yX8_has, .static yX8_has, .initialized RX8, .code yX8_has cX8_has 3 (some .boolean), .methodLink RX8 69 yX8_around, .static yX8_around, .code yX8_around cX8_around 6 (some .long), .methodLink RX8 55 yX8_dotsOf, .static yX8_dotsOf, .code yX8_dotsOf cX8_dotsOf 1 (some .int), .methodLink RX8 63 yX8_isBeside, .static yX8_isBeside, .code yX8_isBeside cX8_isBeside 7 (some .boolean)])
def wsX8_part : List Cond := .code yX8_part cX8_part 3 (some .long) :: ([.constantLong RX8 67 (-1), .methodLink RX8 73 yX8_bright, .static yX8_bright, .initialized RX8, .code yX8_bright cX8_bright 7 (some .long), .methodLink RX8 55 yX8_dotsOf, .static yX8_dotsOf, .code yX8_dotsOf cX8_dotsOf 1 (some .int), .methodLink RX8 51 yX8_has, .static yX8_has, .code yX8_has cX8_has 3 (some .boolean), .methodLink RX8 77 yX8_spread, .static yX8_spread, .code yX8_spread cX8_spread 10 (some .long), .methodLink RX8 69 yX8_around, .static yX8_around, .code yX8_around cX8_around 6 (some .long), .methodLink RX8 63 yX8_isBeside, .static yX8_isBeside, .code yX8_isBeside cX8_isBeside 7 (some .boolean)])
def wsX8_partsOf : List Cond := .code yX8_partsOf cX8_partsOf 8 (some .int) :: ([.constantLong RX8 67 (-1), .methodLink RX8 73 yX8_bright, .static yX8_bright, .initialized RX8, .code yX8_bright cX8_bright 7 (some .long), .methodLink RX8 55 yX8_dotsOf, .static yX8_dotsOf, .code yX8_dotsOf cX8_dotsOf 1 (some .int), .methodLink RX8 51 yX8_has, .static yX8_has, .code yX8_has cX8_has 3 (some .boolean), .methodLink RX8 77 yX8_spread, .static yX8_spread, .code yX8_spread cX8_spread 10 (some .long), .methodLink RX8 69 yX8_around, .static yX8_around, .code yX8_around cX8_around 6 (some .long), .methodLink RX8 63 yX8_isBeside, .static yX8_isBeside, .code yX8_isBeside cX8_isBeside 7 (some .boolean)])
def wsX8_nodeOf : List Cond := .code yX8_nodeOf cX8_nodeOf 2 (some .long) :: ([.methodLink RX8 81 yX8_part, .static yX8_part, .initialized RX8, .code yX8_part cX8_part 3 (some .long), .constantLong RX8 67 (-1), .methodLink RX8 73 yX8_bright, .static yX8_bright, .code yX8_bright cX8_bright 7 (some .long), .methodLink RX8 55 yX8_dotsOf, .static yX8_dotsOf, .code yX8_dotsOf cX8_dotsOf 1 (some .int), .methodLink RX8 51 yX8_has, .static yX8_has, .code yX8_has cX8_has 3 (some .boolean), .methodLink RX8 77 yX8_spread, .static yX8_spread, .code yX8_spread cX8_spread 10 (some .long), .methodLink RX8 69 yX8_around, .static yX8_around, .code yX8_around cX8_around 6 (some .long), .methodLink RX8 63 yX8_isBeside, .static yX8_isBeside, .code yX8_isBeside cX8_isBeside 7 (some .boolean)])
def wsX8_level : List Cond := .code yX8_level cX8_level 5 (some .int) :: ([.methodLink RX8 55 yX8_dotsOf, .static yX8_dotsOf, .initialized RX8, .code yX8_dotsOf cX8_dotsOf 1 (some .int), .methodLink RX8 51 yX8_has, .static yX8_has, .code yX8_has cX8_has 3 (some .boolean)])
def wsX8_brightest : List Cond := .code yX8_brightest cX8_brightest 5 (some .int) :: ([.methodLink RX8 55 yX8_dotsOf, .static yX8_dotsOf, .initialized RX8, .code yX8_dotsOf cX8_dotsOf 1 (some .int), .methodLink RX8 51 yX8_has, .static yX8_has, .code yX8_has cX8_has 3 (some .boolean)])
def wsX8_head : List Cond := .code yX8_head cX8_head 5 (some .int) :: ([.methodLink RX8 84 yX8_level, .static yX8_level, .initialized RX8, .code yX8_level cX8_level 5 (some .int), .methodLink RX8 55 yX8_dotsOf, .static yX8_dotsOf, .code yX8_dotsOf cX8_dotsOf 1 (some .int), .methodLink RX8 51 yX8_has, .static yX8_has, .code yX8_has cX8_has 3 (some .boolean)])
def wsX8_parent_r1 : List Cond := [Cond.methodLink RX8 88 yX8_head, Cond.static yX8_head, Cond.initialized RX8, Cond.code yX8_head cX8_head 5 (some .int), Cond.methodLink RX8 84 yX8_level, Cond.static yX8_level, Cond.code yX8_level cX8_level 5 (some .int), Cond.methodLink RX8 55 yX8_dotsOf, Cond.static yX8_dotsOf, Cond.code yX8_dotsOf cX8_dotsOf 1 (some .int), Cond.methodLink RX8 51 yX8_has, Cond.static yX8_has, Cond.code yX8_has cX8_has 3 (some .boolean), Cond.methodLink RX8 81 yX8_part, Cond.static yX8_part, Cond.code yX8_part cX8_part 3 (some .long), Cond.constantLong RX8 67 (-1), Cond.methodLink RX8 73 yX8_bright, Cond.static yX8_bright, Cond.code yX8_bright cX8_bright 7 (some .long), Cond.methodLink RX8 77 yX8_spread, Cond.static yX8_spread, Cond.code yX8_spread cX8_spread 10 (some .long), Cond.methodLink RX8 69 yX8_around]
def wsX8_parent_r2 : List Cond := [Cond.static yX8_around, Cond.code yX8_around cX8_around 6 (some .long), Cond.methodLink RX8 63 yX8_isBeside, Cond.static yX8_isBeside, Cond.code yX8_isBeside cX8_isBeside 7 (some .boolean)]
def wsX8_parent : List Cond := .code yX8_parent cX8_parent 7 (some .long) :: ((wsX8_parent_r1 ++ wsX8_parent_r2))
def wsX8_isHead_r1 : List Cond := [Cond.methodLink RX8 91 yX8_nodeOf, Cond.static yX8_nodeOf, Cond.initialized RX8, Cond.code yX8_nodeOf cX8_nodeOf 2 (some .long), Cond.methodLink RX8 81 yX8_part, Cond.static yX8_part, Cond.code yX8_part cX8_part 3 (some .long), Cond.constantLong RX8 67 (-1), Cond.methodLink RX8 73 yX8_bright, Cond.static yX8_bright, Cond.code yX8_bright cX8_bright 7 (some .long), Cond.methodLink RX8 55 yX8_dotsOf, Cond.static yX8_dotsOf, Cond.code yX8_dotsOf cX8_dotsOf 1 (some .int), Cond.methodLink RX8 51 yX8_has, Cond.static yX8_has, Cond.code yX8_has cX8_has 3 (some .boolean), Cond.methodLink RX8 77 yX8_spread, Cond.static yX8_spread, Cond.code yX8_spread cX8_spread 10 (some .long), Cond.methodLink RX8 69 yX8_around, Cond.static yX8_around, Cond.code yX8_around cX8_around 6 (some .long), Cond.methodLink RX8 63 yX8_isBeside]
def wsX8_isHead_r2 : List Cond := [Cond.static yX8_isBeside, Cond.code yX8_isBeside cX8_isBeside 7 (some .boolean), Cond.methodLink RX8 88 yX8_head, Cond.static yX8_head, Cond.code yX8_head cX8_head 5 (some .int), Cond.methodLink RX8 84 yX8_level, Cond.static yX8_level, Cond.code yX8_level cX8_level 5 (some .int)]
def wsX8_isHead : List Cond := .code yX8_isHead cX8_isHead 2 (some .boolean) :: ((wsX8_isHead_r1 ++ wsX8_isHead_r2))
def wsX8_nodes_r1 : List Cond := [Cond.methodLink RX8 55 yX8_dotsOf, Cond.static yX8_dotsOf, Cond.initialized RX8, Cond.code yX8_dotsOf cX8_dotsOf 1 (some .int), Cond.methodLink RX8 95 yX8_isHead, Cond.static yX8_isHead, Cond.code yX8_isHead cX8_isHead 2 (some .boolean), Cond.methodLink RX8 91 yX8_nodeOf, Cond.static yX8_nodeOf, Cond.code yX8_nodeOf cX8_nodeOf 2 (some .long), Cond.methodLink RX8 81 yX8_part, Cond.static yX8_part, Cond.code yX8_part cX8_part 3 (some .long), Cond.constantLong RX8 67 (-1), Cond.methodLink RX8 73 yX8_bright, Cond.static yX8_bright, Cond.code yX8_bright cX8_bright 7 (some .long), Cond.methodLink RX8 51 yX8_has, Cond.static yX8_has, Cond.code yX8_has cX8_has 3 (some .boolean), Cond.methodLink RX8 77 yX8_spread, Cond.static yX8_spread, Cond.code yX8_spread cX8_spread 10 (some .long), Cond.methodLink RX8 69 yX8_around]
def wsX8_nodes_r2 : List Cond := [Cond.static yX8_around, Cond.code yX8_around cX8_around 6 (some .long), Cond.methodLink RX8 63 yX8_isBeside, Cond.static yX8_isBeside, Cond.code yX8_isBeside cX8_isBeside 7 (some .boolean), Cond.methodLink RX8 88 yX8_head, Cond.static yX8_head, Cond.code yX8_head cX8_head 5 (some .int), Cond.methodLink RX8 84 yX8_level, Cond.static yX8_level, Cond.code yX8_level cX8_level 5 (some .int)]
def wsX8_nodes : List Cond := .code yX8_nodes cX8_nodes 3 (some .int) :: ((wsX8_nodes_r1 ++ wsX8_nodes_r2))
def wsX8_children_r1 : List Cond := [Cond.methodLink RX8 55 yX8_dotsOf, Cond.static yX8_dotsOf, Cond.initialized RX8, Cond.code yX8_dotsOf cX8_dotsOf 1 (some .int), Cond.methodLink RX8 51 yX8_has, Cond.static yX8_has, Cond.code yX8_has cX8_has 3 (some .boolean), Cond.methodLink RX8 95 yX8_isHead, Cond.static yX8_isHead, Cond.code yX8_isHead cX8_isHead 2 (some .boolean), Cond.methodLink RX8 91 yX8_nodeOf, Cond.static yX8_nodeOf, Cond.code yX8_nodeOf cX8_nodeOf 2 (some .long), Cond.methodLink RX8 81 yX8_part, Cond.static yX8_part, Cond.code yX8_part cX8_part 3 (some .long), Cond.constantLong RX8 67 (-1), Cond.methodLink RX8 73 yX8_bright, Cond.static yX8_bright, Cond.code yX8_bright cX8_bright 7 (some .long), Cond.methodLink RX8 77 yX8_spread, Cond.static yX8_spread, Cond.code yX8_spread cX8_spread 10 (some .long), Cond.methodLink RX8 69 yX8_around]
def wsX8_children_r2 : List Cond := [Cond.static yX8_around, Cond.code yX8_around cX8_around 6 (some .long), Cond.methodLink RX8 63 yX8_isBeside, Cond.static yX8_isBeside, Cond.code yX8_isBeside cX8_isBeside 7 (some .boolean), Cond.methodLink RX8 88 yX8_head, Cond.static yX8_head, Cond.code yX8_head cX8_head 5 (some .int), Cond.methodLink RX8 84 yX8_level, Cond.static yX8_level, Cond.code yX8_level cX8_level 5 (some .int), Cond.methodLink RX8 99 yX8_parent, Cond.static yX8_parent, Cond.code yX8_parent cX8_parent 7 (some .long)]
def wsX8_children : List Cond := .code yX8_children cX8_children 7 (some .int) :: ((wsX8_children_r1 ++ wsX8_children_r2))
def wsX8_depth_r1 : List Cond := [Cond.methodLink RX8 99 yX8_parent, Cond.static yX8_parent, Cond.initialized RX8, Cond.code yX8_parent cX8_parent 7 (some .long), Cond.methodLink RX8 88 yX8_head, Cond.static yX8_head, Cond.code yX8_head cX8_head 5 (some .int), Cond.methodLink RX8 84 yX8_level, Cond.static yX8_level, Cond.code yX8_level cX8_level 5 (some .int), Cond.methodLink RX8 55 yX8_dotsOf, Cond.static yX8_dotsOf, Cond.code yX8_dotsOf cX8_dotsOf 1 (some .int), Cond.methodLink RX8 51 yX8_has, Cond.static yX8_has, Cond.code yX8_has cX8_has 3 (some .boolean), Cond.methodLink RX8 81 yX8_part, Cond.static yX8_part, Cond.code yX8_part cX8_part 3 (some .long), Cond.constantLong RX8 67 (-1), Cond.methodLink RX8 73 yX8_bright, Cond.static yX8_bright, Cond.code yX8_bright cX8_bright 7 (some .long), Cond.methodLink RX8 77 yX8_spread]
def wsX8_depth_r2 : List Cond := [Cond.static yX8_spread, Cond.code yX8_spread cX8_spread 10 (some .long), Cond.methodLink RX8 69 yX8_around, Cond.static yX8_around, Cond.code yX8_around cX8_around 6 (some .long), Cond.methodLink RX8 63 yX8_isBeside, Cond.static yX8_isBeside, Cond.code yX8_isBeside cX8_isBeside 7 (some .boolean)]
def wsX8_depth : List Cond := .code yX8_depth cX8_depth 8 (some .int) :: ((wsX8_depth_r1 ++ wsX8_depth_r2))
def wsX8_light : List Cond := .code yX8_light cX8_light 5 (some .int) :: ([.methodLink RX8 55 yX8_dotsOf, .static yX8_dotsOf, .initialized RX8, .code yX8_dotsOf cX8_dotsOf 1 (some .int), .methodLink RX8 51 yX8_has, .static yX8_has, .code yX8_has cX8_has 3 (some .boolean)])
def wsX8_box : List Cond := .code yX8_box cX8_box 8 (some .int) :: ([.methodLink RX8 55 yX8_dotsOf, .static yX8_dotsOf, .initialized RX8, .code yX8_dotsOf cX8_dotsOf 1 (some .int), .methodLink RX8 51 yX8_has, .static yX8_has, .code yX8_has cX8_has 3 (some .boolean)])
def wsX8_rise_r1 : List Cond := [Cond.methodLink RX8 84 yX8_level, Cond.static yX8_level, Cond.initialized RX8, Cond.code yX8_level cX8_level 5 (some .int), Cond.methodLink RX8 55 yX8_dotsOf, Cond.static yX8_dotsOf, Cond.code yX8_dotsOf cX8_dotsOf 1 (some .int), Cond.methodLink RX8 51 yX8_has, Cond.static yX8_has, Cond.code yX8_has cX8_has 3 (some .boolean), Cond.methodLink RX8 103 yX8_brightest, Cond.static yX8_brightest, Cond.code yX8_brightest cX8_brightest 5 (some .int), Cond.methodLink RX8 88 yX8_head, Cond.static yX8_head, Cond.code yX8_head cX8_head 5 (some .int), Cond.methodLink RX8 81 yX8_part, Cond.static yX8_part, Cond.code yX8_part cX8_part 3 (some .long), Cond.constantLong RX8 67 (-1), Cond.methodLink RX8 73 yX8_bright, Cond.static yX8_bright, Cond.code yX8_bright cX8_bright 7 (some .long), Cond.methodLink RX8 77 yX8_spread]
def wsX8_rise_r2 : List Cond := [Cond.static yX8_spread, Cond.code yX8_spread cX8_spread 10 (some .long), Cond.methodLink RX8 69 yX8_around, Cond.static yX8_around, Cond.code yX8_around cX8_around 6 (some .long), Cond.methodLink RX8 63 yX8_isBeside, Cond.static yX8_isBeside, Cond.code yX8_isBeside cX8_isBeside 7 (some .boolean)]
def wsX8_rise : List Cond := .code yX8_rise cX8_rise 7 (some .int) :: ((wsX8_rise_r1 ++ wsX8_rise_r2))
def wsX8_write : List Cond := .code yX8_write cX8_write 2 (some .int) :: ([.fieldLink RX8 47 "ShadeTreeModel" "thrown" "I", .constantLong RX8 106 (255), .fieldLink RX8 108 "ShadeTreeModel" "textSize" "I", .fieldLink RX8 7 "ShadeTreeModel" "text" "[I", .methodLink RX8 59 yX8_in, .static yX8_in, .initialized RX8, .code yX8_in cX8_in 6 (some .boolean)] ++ wsX80)
def wsX8_wipe : List Cond := .code yX8_wipe cX8_wipe 2 (some .int) :: ([.fieldLink RX8 47 "ShadeTreeModel" "thrown" "I", .fieldLink RX8 108 "ShadeTreeModel" "textSize" "I"] ++ wsX80)
def wsX8_letterAt : List Cond := .code yX8_letterAt cX8_letterAt 2 (some .int) :: ([.fieldLink RX8 108 "ShadeTreeModel" "textSize" "I", .fieldLink RX8 7 "ShadeTreeModel" "text" "[I"] ++ wsX80)
def wsX8_readPicture : List Cond := .code yX8_readPicture cX8_readPicture 3 (some .int) :: ([.fieldLink RX8 13 "ShadeTreeModel" "readPage" "[I", .fieldLink RX8 7 "ShadeTreeModel" "text" "[I", .constantLong RX8 115 (6), .constantLong RX8 117 (9), .fieldLink RX8 108 "ShadeTreeModel" "textSize" "I", .methodLink RX8 111 yX8_letterAt, .instanceMethod yX8_letterAt, .selects RX8 yX8_letterAt yX8_letterAt, .initialized RX8, .code yX8_letterAt cX8_letterAt 2 (some .int), .methodLink RX8 59 yX8_in, .static yX8_in, .code yX8_in cX8_in 6 (some .boolean), .methodLink RX8 55 yX8_dotsOf, .static yX8_dotsOf, .code yX8_dotsOf cX8_dotsOf 1 (some .int)] ++ wsX80)
def wsX8_fault : List Cond := .code yX8_fault cX8_fault 1 (some .int) :: ([.fieldLink RX8 47 "ShadeTreeModel" "thrown" "I", .methodLink RX8 119 yX8_readPicture, .instanceMethod yX8_readPicture, .selects RX8 yX8_readPicture yX8_readPicture, .initialized RX8, .code yX8_readPicture cX8_readPicture 3 (some .int), .fieldLink RX8 13 "ShadeTreeModel" "readPage" "[I", .fieldLink RX8 7 "ShadeTreeModel" "text" "[I", .constantLong RX8 115 (6), .constantLong RX8 117 (9), .fieldLink RX8 108 "ShadeTreeModel" "textSize" "I", .methodLink RX8 111 yX8_letterAt, .instanceMethod yX8_letterAt, .selects RX8 yX8_letterAt yX8_letterAt, .code yX8_letterAt cX8_letterAt 2 (some .int), .methodLink RX8 59 yX8_in, .static yX8_in, .code yX8_in cX8_in 6 (some .boolean), .methodLink RX8 55 yX8_dotsOf, .static yX8_dotsOf, .code yX8_dotsOf cX8_dotsOf 1 (some .int)] ++ wsX80)
def wsX8_picture_r1 : List Cond := [Cond.fieldLink RX8 47 "ShadeTreeModel" "thrown" "I", Cond.fieldLink RX8 16 "ShadeTreeModel" "page" "[I", Cond.fieldLink RX8 13 "ShadeTreeModel" "readPage" "[I", Cond.fieldLink RX8 123 "ShadeTreeModel" "doings" "I", Cond.fieldLink RX8 31 "ShadeTreeModel" "isKept" "[Z", Cond.methodLink RX8 119 yX8_readPicture, Cond.instanceMethod yX8_readPicture, Cond.selects RX8 yX8_readPicture yX8_readPicture, Cond.initialized RX8, Cond.code yX8_readPicture cX8_readPicture 3 (some .int), Cond.fieldLink RX8 7 "ShadeTreeModel" "text" "[I", Cond.constantLong RX8 115 (6), Cond.constantLong RX8 117 (9), Cond.fieldLink RX8 108 "ShadeTreeModel" "textSize" "I", Cond.methodLink RX8 111 yX8_letterAt, Cond.instanceMethod yX8_letterAt, Cond.selects RX8 yX8_letterAt yX8_letterAt, Cond.code yX8_letterAt cX8_letterAt 2 (some .int), Cond.methodLink RX8 59 yX8_in, Cond.static yX8_in, Cond.code yX8_in cX8_in 6 (some .boolean), Cond.methodLink RX8 55 yX8_dotsOf, Cond.static yX8_dotsOf, Cond.code yX8_dotsOf cX8_dotsOf 1 (some .int)]
def wsX8_picture_r2 : List Cond := [Cond.methodLink RX8 126 yX8_nodes, Cond.static yX8_nodes, Cond.code yX8_nodes cX8_nodes 3 (some .int), Cond.methodLink RX8 95 yX8_isHead, Cond.static yX8_isHead, Cond.code yX8_isHead cX8_isHead 2 (some .boolean), Cond.methodLink RX8 91 yX8_nodeOf, Cond.static yX8_nodeOf, Cond.code yX8_nodeOf cX8_nodeOf 2 (some .long), Cond.methodLink RX8 81 yX8_part, Cond.static yX8_part, Cond.code yX8_part cX8_part 3 (some .long), Cond.constantLong RX8 67 (-1), Cond.methodLink RX8 73 yX8_bright, Cond.static yX8_bright, Cond.code yX8_bright cX8_bright 7 (some .long), Cond.methodLink RX8 51 yX8_has, Cond.static yX8_has, Cond.code yX8_has cX8_has 3 (some .boolean), Cond.methodLink RX8 77 yX8_spread, Cond.static yX8_spread, Cond.code yX8_spread cX8_spread 10 (some .long), Cond.methodLink RX8 69 yX8_around, Cond.static yX8_around]
def wsX8_picture_r3 : List Cond := [Cond.code yX8_around cX8_around 6 (some .long), Cond.methodLink RX8 63 yX8_isBeside, Cond.static yX8_isBeside, Cond.code yX8_isBeside cX8_isBeside 7 (some .boolean), Cond.methodLink RX8 88 yX8_head, Cond.static yX8_head, Cond.code yX8_head cX8_head 5 (some .int), Cond.methodLink RX8 84 yX8_level, Cond.static yX8_level, Cond.code yX8_level cX8_level 5 (some .int)]
def wsX8_picture : List Cond := .code yX8_picture cX8_picture 2 (some .int) :: ((wsX8_picture_r1 ++ (wsX8_picture_r2 ++ wsX8_picture_r3)) ++ wsX80)
def wsX8_leaves_r1 : List Cond := [Cond.fieldLink RX8 16 "ShadeTreeModel" "page" "[I", Cond.constantLong RX8 67 (-1), Cond.methodLink RX8 55 yX8_dotsOf, Cond.static yX8_dotsOf, Cond.initialized RX8, Cond.code yX8_dotsOf cX8_dotsOf 1 (some .int), Cond.methodLink RX8 95 yX8_isHead, Cond.static yX8_isHead, Cond.code yX8_isHead cX8_isHead 2 (some .boolean), Cond.methodLink RX8 91 yX8_nodeOf, Cond.static yX8_nodeOf, Cond.code yX8_nodeOf cX8_nodeOf 2 (some .long), Cond.methodLink RX8 81 yX8_part, Cond.static yX8_part, Cond.code yX8_part cX8_part 3 (some .long), Cond.methodLink RX8 73 yX8_bright, Cond.static yX8_bright, Cond.code yX8_bright cX8_bright 7 (some .long), Cond.methodLink RX8 51 yX8_has, Cond.static yX8_has, Cond.code yX8_has cX8_has 3 (some .boolean), Cond.methodLink RX8 77 yX8_spread, Cond.static yX8_spread, Cond.code yX8_spread cX8_spread 10 (some .long)]
def wsX8_leaves_r2 : List Cond := [Cond.methodLink RX8 69 yX8_around, Cond.static yX8_around, Cond.code yX8_around cX8_around 6 (some .long), Cond.methodLink RX8 63 yX8_isBeside, Cond.static yX8_isBeside, Cond.code yX8_isBeside cX8_isBeside 7 (some .boolean), Cond.methodLink RX8 88 yX8_head, Cond.static yX8_head, Cond.code yX8_head cX8_head 5 (some .int), Cond.methodLink RX8 84 yX8_level, Cond.static yX8_level, Cond.code yX8_level cX8_level 5 (some .int), Cond.methodLink RX8 99 yX8_parent, Cond.static yX8_parent, Cond.code yX8_parent cX8_parent 7 (some .long), Cond.methodLink RX8 129 yX8_many, Cond.static yX8_many, Cond.code yX8_many cX8_many 4 (some .int)]
def wsX8_leaves : List Cond := .code yX8_leaves cX8_leaves 8 (some .int) :: ((wsX8_leaves_r1 ++ wsX8_leaves_r2) ++ wsX80)
def wsX8_deepest_r1 : List Cond := [Cond.fieldLink RX8 16 "ShadeTreeModel" "page" "[I", Cond.methodLink RX8 55 yX8_dotsOf, Cond.static yX8_dotsOf, Cond.initialized RX8, Cond.code yX8_dotsOf cX8_dotsOf 1 (some .int), Cond.methodLink RX8 91 yX8_nodeOf, Cond.static yX8_nodeOf, Cond.code yX8_nodeOf cX8_nodeOf 2 (some .long), Cond.methodLink RX8 81 yX8_part, Cond.static yX8_part, Cond.code yX8_part cX8_part 3 (some .long), Cond.constantLong RX8 67 (-1), Cond.methodLink RX8 73 yX8_bright, Cond.static yX8_bright, Cond.code yX8_bright cX8_bright 7 (some .long), Cond.methodLink RX8 51 yX8_has, Cond.static yX8_has, Cond.code yX8_has cX8_has 3 (some .boolean), Cond.methodLink RX8 77 yX8_spread, Cond.static yX8_spread, Cond.code yX8_spread cX8_spread 10 (some .long), Cond.methodLink RX8 69 yX8_around, Cond.static yX8_around, Cond.code yX8_around cX8_around 6 (some .long)]
def wsX8_deepest_r2 : List Cond := [Cond.methodLink RX8 63 yX8_isBeside, Cond.static yX8_isBeside, Cond.code yX8_isBeside cX8_isBeside 7 (some .boolean), Cond.methodLink RX8 133 yX8_depth, Cond.static yX8_depth, Cond.code yX8_depth cX8_depth 8 (some .int), Cond.methodLink RX8 99 yX8_parent, Cond.static yX8_parent, Cond.code yX8_parent cX8_parent 7 (some .long), Cond.methodLink RX8 88 yX8_head, Cond.static yX8_head, Cond.code yX8_head cX8_head 5 (some .int), Cond.methodLink RX8 84 yX8_level, Cond.static yX8_level, Cond.code yX8_level cX8_level 5 (some .int)]
def wsX8_deepest : List Cond := .code yX8_deepest cX8_deepest 4 (some .int) :: ((wsX8_deepest_r1 ++ wsX8_deepest_r2) ++ wsX80)
def wsX8_about_r1 : List Cond := [Cond.fieldLink RX8 47 "ShadeTreeModel" "thrown" "I", Cond.fieldLink RX8 16 "ShadeTreeModel" "page" "[I", Cond.constantLong RX8 67 (-1), Cond.fieldLink RX8 123 "ShadeTreeModel" "doings" "I", Cond.fieldLink RX8 145 "ShadeTreeModel" "seen" "I", Cond.fieldLink RX8 108 "ShadeTreeModel" "textSize" "I", Cond.methodLink RX8 126 yX8_nodes, Cond.static yX8_nodes, Cond.initialized RX8, Cond.code yX8_nodes cX8_nodes 3 (some .int), Cond.methodLink RX8 55 yX8_dotsOf, Cond.static yX8_dotsOf, Cond.code yX8_dotsOf cX8_dotsOf 1 (some .int), Cond.methodLink RX8 95 yX8_isHead, Cond.static yX8_isHead, Cond.code yX8_isHead cX8_isHead 2 (some .boolean), Cond.methodLink RX8 91 yX8_nodeOf, Cond.static yX8_nodeOf, Cond.code yX8_nodeOf cX8_nodeOf 2 (some .long), Cond.methodLink RX8 81 yX8_part, Cond.static yX8_part, Cond.code yX8_part cX8_part 3 (some .long), Cond.methodLink RX8 73 yX8_bright, Cond.static yX8_bright]
def wsX8_about_r2 : List Cond := [Cond.code yX8_bright cX8_bright 7 (some .long), Cond.methodLink RX8 51 yX8_has, Cond.static yX8_has, Cond.code yX8_has cX8_has 3 (some .boolean), Cond.methodLink RX8 77 yX8_spread, Cond.static yX8_spread, Cond.code yX8_spread cX8_spread 10 (some .long), Cond.methodLink RX8 69 yX8_around, Cond.static yX8_around, Cond.code yX8_around cX8_around 6 (some .long), Cond.methodLink RX8 63 yX8_isBeside, Cond.static yX8_isBeside, Cond.code yX8_isBeside cX8_isBeside 7 (some .boolean), Cond.methodLink RX8 88 yX8_head, Cond.static yX8_head, Cond.code yX8_head cX8_head 5 (some .int), Cond.methodLink RX8 84 yX8_level, Cond.static yX8_level, Cond.code yX8_level cX8_level 5 (some .int), Cond.methodLink RX8 136 yX8_leaves, Cond.instanceMethod yX8_leaves, Cond.selects RX8 yX8_leaves yX8_leaves, Cond.code yX8_leaves cX8_leaves 8 (some .int), Cond.methodLink RX8 99 yX8_parent]
def wsX8_about_r3 : List Cond := [Cond.static yX8_parent, Cond.code yX8_parent cX8_parent 7 (some .long), Cond.methodLink RX8 129 yX8_many, Cond.static yX8_many, Cond.code yX8_many cX8_many 4 (some .int), Cond.methodLink RX8 139 yX8_deepest, Cond.instanceMethod yX8_deepest, Cond.selects RX8 yX8_deepest yX8_deepest, Cond.code yX8_deepest cX8_deepest 4 (some .int), Cond.methodLink RX8 133 yX8_depth, Cond.static yX8_depth, Cond.code yX8_depth cX8_depth 8 (some .int), Cond.methodLink RX8 142 yX8_light, Cond.static yX8_light, Cond.code yX8_light cX8_light 5 (some .int)]
def wsX8_about : List Cond := .code yX8_about cX8_about 2 (some .int) :: ((wsX8_about_r1 ++ (wsX8_about_r2 ++ wsX8_about_r3)) ++ wsX80)
def wsX8_shade : List Cond := .code yX8_shade cX8_shade 2 (some .int) :: ([.fieldLink RX8 47 "ShadeTreeModel" "thrown" "I", .fieldLink RX8 16 "ShadeTreeModel" "page" "[I", .methodLink RX8 148 yX8_noDot, .instanceMethod yX8_noDot, .selects RX8 yX8_noDot yX8_noDot, .initialized RX8, .code yX8_noDot cX8_noDot 2 (some .boolean), .methodLink RX8 55 yX8_dotsOf, .static yX8_dotsOf, .code yX8_dotsOf cX8_dotsOf 1 (some .int), .methodLink RX8 59 yX8_in, .static yX8_in, .code yX8_in cX8_in 6 (some .boolean)] ++ wsX80)
def wsX8_node_r1 : List Cond := [Cond.fieldLink RX8 47 "ShadeTreeModel" "thrown" "I", Cond.fieldLink RX8 16 "ShadeTreeModel" "page" "[I", Cond.methodLink RX8 148 yX8_noDot, Cond.instanceMethod yX8_noDot, Cond.selects RX8 yX8_noDot yX8_noDot, Cond.initialized RX8, Cond.code yX8_noDot cX8_noDot 2 (some .boolean), Cond.methodLink RX8 55 yX8_dotsOf, Cond.static yX8_dotsOf, Cond.code yX8_dotsOf cX8_dotsOf 1 (some .int), Cond.methodLink RX8 59 yX8_in, Cond.static yX8_in, Cond.code yX8_in cX8_in 6 (some .boolean), Cond.methodLink RX8 91 yX8_nodeOf, Cond.static yX8_nodeOf, Cond.code yX8_nodeOf cX8_nodeOf 2 (some .long), Cond.methodLink RX8 81 yX8_part, Cond.static yX8_part, Cond.code yX8_part cX8_part 3 (some .long), Cond.constantLong RX8 67 (-1), Cond.methodLink RX8 73 yX8_bright, Cond.static yX8_bright, Cond.code yX8_bright cX8_bright 7 (some .long), Cond.methodLink RX8 51 yX8_has]
def wsX8_node_r2 : List Cond := [Cond.static yX8_has, Cond.code yX8_has cX8_has 3 (some .boolean), Cond.methodLink RX8 77 yX8_spread, Cond.static yX8_spread, Cond.code yX8_spread cX8_spread 10 (some .long), Cond.methodLink RX8 69 yX8_around, Cond.static yX8_around, Cond.code yX8_around cX8_around 6 (some .long), Cond.methodLink RX8 63 yX8_isBeside, Cond.static yX8_isBeside, Cond.code yX8_isBeside cX8_isBeside 7 (some .boolean), Cond.methodLink RX8 88 yX8_head, Cond.static yX8_head, Cond.code yX8_head cX8_head 5 (some .int), Cond.methodLink RX8 84 yX8_level, Cond.static yX8_level, Cond.code yX8_level cX8_level 5 (some .int), Cond.methodLink RX8 129 yX8_many, Cond.static yX8_many, Cond.code yX8_many cX8_many 4 (some .int), Cond.methodLink RX8 142 yX8_light, Cond.static yX8_light, Cond.code yX8_light cX8_light 5 (some .int), Cond.methodLink RX8 99 yX8_parent]
def wsX8_node_r3 : List Cond := [Cond.static yX8_parent, Cond.code yX8_parent cX8_parent 7 (some .long), Cond.methodLink RX8 152 yX8_children, Cond.static yX8_children, Cond.code yX8_children cX8_children 7 (some .int), Cond.methodLink RX8 95 yX8_isHead, Cond.static yX8_isHead, Cond.code yX8_isHead cX8_isHead 2 (some .boolean), Cond.methodLink RX8 133 yX8_depth, Cond.static yX8_depth, Cond.code yX8_depth cX8_depth 8 (some .int), Cond.methodLink RX8 155 yX8_box, Cond.static yX8_box, Cond.code yX8_box cX8_box 8 (some .int), Cond.methodLink RX8 159 yX8_rise, Cond.static yX8_rise, Cond.code yX8_rise cX8_rise 7 (some .int), Cond.methodLink RX8 103 yX8_brightest, Cond.static yX8_brightest, Cond.code yX8_brightest cX8_brightest 5 (some .int)]
def wsX8_node : List Cond := .code yX8_node cX8_node 5 (some .int) :: ((wsX8_node_r1 ++ (wsX8_node_r2 ++ wsX8_node_r3)) ++ wsX80)
def wsX8_dots_r1 : List Cond := [Cond.fieldLink RX8 47 "ShadeTreeModel" "thrown" "I", Cond.constantLong RX8 67 (-1), Cond.fieldLink RX8 16 "ShadeTreeModel" "page" "[I", Cond.methodLink RX8 148 yX8_noDot, Cond.instanceMethod yX8_noDot, Cond.selects RX8 yX8_noDot yX8_noDot, Cond.initialized RX8, Cond.code yX8_noDot cX8_noDot 2 (some .boolean), Cond.methodLink RX8 55 yX8_dotsOf, Cond.static yX8_dotsOf, Cond.code yX8_dotsOf cX8_dotsOf 1 (some .int), Cond.methodLink RX8 59 yX8_in, Cond.static yX8_in, Cond.code yX8_in cX8_in 6 (some .boolean), Cond.methodLink RX8 91 yX8_nodeOf, Cond.static yX8_nodeOf, Cond.code yX8_nodeOf cX8_nodeOf 2 (some .long), Cond.methodLink RX8 81 yX8_part, Cond.static yX8_part, Cond.code yX8_part cX8_part 3 (some .long), Cond.methodLink RX8 73 yX8_bright, Cond.static yX8_bright, Cond.code yX8_bright cX8_bright 7 (some .long), Cond.methodLink RX8 51 yX8_has]
def wsX8_dots_r2 : List Cond := [Cond.static yX8_has, Cond.code yX8_has cX8_has 3 (some .boolean), Cond.methodLink RX8 77 yX8_spread, Cond.static yX8_spread, Cond.code yX8_spread cX8_spread 10 (some .long), Cond.methodLink RX8 69 yX8_around, Cond.static yX8_around, Cond.code yX8_around cX8_around 6 (some .long), Cond.methodLink RX8 63 yX8_isBeside, Cond.static yX8_isBeside, Cond.code yX8_isBeside cX8_isBeside 7 (some .boolean)]
def wsX8_dots : List Cond := .code yX8_dots cX8_dots 2 (some .long) :: ((wsX8_dots_r1 ++ wsX8_dots_r2) ++ wsX80)
def wsX8_parts_r1 : List Cond := [Cond.fieldLink RX8 47 "ShadeTreeModel" "thrown" "I", Cond.constantLong RX8 117 (9), Cond.fieldLink RX8 16 "ShadeTreeModel" "page" "[I", Cond.constantLong RX8 67 (-1), Cond.methodLink RX8 59 yX8_in, Cond.static yX8_in, Cond.initialized RX8, Cond.code yX8_in cX8_in 6 (some .boolean), Cond.methodLink RX8 162 yX8_partsOf, Cond.static yX8_partsOf, Cond.code yX8_partsOf cX8_partsOf 8 (some .int), Cond.methodLink RX8 73 yX8_bright, Cond.static yX8_bright, Cond.code yX8_bright cX8_bright 7 (some .long), Cond.methodLink RX8 55 yX8_dotsOf, Cond.static yX8_dotsOf, Cond.code yX8_dotsOf cX8_dotsOf 1 (some .int), Cond.methodLink RX8 51 yX8_has, Cond.static yX8_has, Cond.code yX8_has cX8_has 3 (some .boolean), Cond.methodLink RX8 77 yX8_spread, Cond.static yX8_spread, Cond.code yX8_spread cX8_spread 10 (some .long), Cond.methodLink RX8 69 yX8_around]
def wsX8_parts_r2 : List Cond := [Cond.static yX8_around, Cond.code yX8_around cX8_around 6 (some .long), Cond.methodLink RX8 63 yX8_isBeside, Cond.static yX8_isBeside, Cond.code yX8_isBeside cX8_isBeside 7 (some .boolean)]
def wsX8_parts : List Cond := .code yX8_parts cX8_parts 2 (some .int) :: ((wsX8_parts_r1 ++ wsX8_parts_r2) ++ wsX80)
def wsX8_note : List Cond := .code yX8_note cX8_note 2 none :: ([.fieldLink RX8 123 "ShadeTreeModel" "doings" "I", .fieldLink RX8 25 "ShadeTreeModel" "book" "[I", .fieldLink RX8 16 "ShadeTreeModel" "page" "[I"] ++ wsX80)
def wsX8_paint : List Cond := .code yX8_paint cX8_paint 4 (some .int) :: ([.fieldLink RX8 47 "ShadeTreeModel" "thrown" "I", .constantLong RX8 117 (9), .fieldLink RX8 16 "ShadeTreeModel" "page" "[I", .methodLink RX8 148 yX8_noDot, .instanceMethod yX8_noDot, .selects RX8 yX8_noDot yX8_noDot, .initialized RX8, .code yX8_noDot cX8_noDot 2 (some .boolean), .methodLink RX8 55 yX8_dotsOf, .static yX8_dotsOf, .code yX8_dotsOf cX8_dotsOf 1 (some .int), .methodLink RX8 59 yX8_in, .static yX8_in, .code yX8_in cX8_in 6 (some .boolean), .methodLink RX8 166 yX8_note, .instanceMethod yX8_note, .selects RX8 yX8_note yX8_note, .code yX8_note cX8_note 2 none, .fieldLink RX8 123 "ShadeTreeModel" "doings" "I", .fieldLink RX8 25 "ShadeTreeModel" "book" "[I"] ++ wsX80)
def wsX8_goNegative : List Cond := .code yX8_goNegative cX8_goNegative 2 none :: ([.methodLink RX8 55 yX8_dotsOf, .static yX8_dotsOf, .initialized RX8, .code yX8_dotsOf cX8_dotsOf 1 (some .int)])
def wsX8_negative_r1 : List Cond := [Cond.fieldLink RX8 47 "ShadeTreeModel" "thrown" "I", Cond.fieldLink RX8 16 "ShadeTreeModel" "page" "[I", Cond.methodLink RX8 166 yX8_note, Cond.instanceMethod yX8_note, Cond.selects RX8 yX8_note yX8_note, Cond.initialized RX8, Cond.code yX8_note cX8_note 2 none, Cond.fieldLink RX8 123 "ShadeTreeModel" "doings" "I", Cond.fieldLink RX8 25 "ShadeTreeModel" "book" "[I", Cond.methodLink RX8 169 yX8_goNegative, Cond.static yX8_goNegative, Cond.code yX8_goNegative cX8_goNegative 2 none, Cond.methodLink RX8 55 yX8_dotsOf, Cond.static yX8_dotsOf, Cond.code yX8_dotsOf cX8_dotsOf 1 (some .int), Cond.methodLink RX8 126 yX8_nodes, Cond.static yX8_nodes, Cond.code yX8_nodes cX8_nodes 3 (some .int), Cond.methodLink RX8 95 yX8_isHead, Cond.static yX8_isHead, Cond.code yX8_isHead cX8_isHead 2 (some .boolean), Cond.methodLink RX8 91 yX8_nodeOf, Cond.static yX8_nodeOf, Cond.code yX8_nodeOf cX8_nodeOf 2 (some .long)]
def wsX8_negative_r2 : List Cond := [Cond.methodLink RX8 81 yX8_part, Cond.static yX8_part, Cond.code yX8_part cX8_part 3 (some .long), Cond.constantLong RX8 67 (-1), Cond.methodLink RX8 73 yX8_bright, Cond.static yX8_bright, Cond.code yX8_bright cX8_bright 7 (some .long), Cond.methodLink RX8 51 yX8_has, Cond.static yX8_has, Cond.code yX8_has cX8_has 3 (some .boolean), Cond.methodLink RX8 77 yX8_spread, Cond.static yX8_spread, Cond.code yX8_spread cX8_spread 10 (some .long), Cond.methodLink RX8 69 yX8_around, Cond.static yX8_around, Cond.code yX8_around cX8_around 6 (some .long), Cond.methodLink RX8 63 yX8_isBeside, Cond.static yX8_isBeside, Cond.code yX8_isBeside cX8_isBeside 7 (some .boolean), Cond.methodLink RX8 88 yX8_head, Cond.static yX8_head, Cond.code yX8_head cX8_head 5 (some .int), Cond.methodLink RX8 84 yX8_level, Cond.static yX8_level]
def wsX8_negative_r3 : List Cond := [Cond.code yX8_level cX8_level 5 (some .int)]
def wsX8_negative : List Cond := .code yX8_negative cX8_negative 1 (some .int) :: ((wsX8_negative_r1 ++ (wsX8_negative_r2 ++ wsX8_negative_r3)) ++ wsX80)
def wsX8_stays : List Cond := .code yX8_stays cX8_stays 5 (some .boolean) :: ([.methodLink RX8 129 yX8_many, .static yX8_many, .initialized RX8, .code yX8_many cX8_many 4 (some .int), .methodLink RX8 51 yX8_has, .static yX8_has, .code yX8_has cX8_has 3 (some .boolean), .methodLink RX8 155 yX8_box, .static yX8_box, .code yX8_box cX8_box 8 (some .int), .methodLink RX8 55 yX8_dotsOf, .static yX8_dotsOf, .code yX8_dotsOf cX8_dotsOf 1 (some .int)])
def wsX8_sifted_r1 : List Cond := [Cond.constantLong RX8 67 (-1), Cond.methodLink RX8 81 yX8_part, Cond.static yX8_part, Cond.initialized RX8, Cond.code yX8_part cX8_part 3 (some .long), Cond.methodLink RX8 73 yX8_bright, Cond.static yX8_bright, Cond.code yX8_bright cX8_bright 7 (some .long), Cond.methodLink RX8 55 yX8_dotsOf, Cond.static yX8_dotsOf, Cond.code yX8_dotsOf cX8_dotsOf 1 (some .int), Cond.methodLink RX8 51 yX8_has, Cond.static yX8_has, Cond.code yX8_has cX8_has 3 (some .boolean), Cond.methodLink RX8 77 yX8_spread, Cond.static yX8_spread, Cond.code yX8_spread cX8_spread 10 (some .long), Cond.methodLink RX8 69 yX8_around, Cond.static yX8_around, Cond.code yX8_around cX8_around 6 (some .long), Cond.methodLink RX8 63 yX8_isBeside, Cond.static yX8_isBeside, Cond.code yX8_isBeside cX8_isBeside 7 (some .boolean), Cond.methodLink RX8 173 yX8_stays]
def wsX8_sifted_r2 : List Cond := [Cond.static yX8_stays, Cond.code yX8_stays cX8_stays 5 (some .boolean), Cond.methodLink RX8 129 yX8_many, Cond.static yX8_many, Cond.code yX8_many cX8_many 4 (some .int), Cond.methodLink RX8 155 yX8_box, Cond.static yX8_box, Cond.code yX8_box cX8_box 8 (some .int), Cond.methodLink RX8 84 yX8_level, Cond.static yX8_level, Cond.code yX8_level cX8_level 5 (some .int)]
def wsX8_sifted : List Cond := .code yX8_sifted cX8_sifted 7 (some .int) :: ((wsX8_sifted_r1 ++ wsX8_sifted_r2))
def wsX8_goSift_r1 : List Cond := [Cond.fieldLink RX8 22 "ShadeTreeModel" "changed" "[I", Cond.methodLink RX8 55 yX8_dotsOf, Cond.static yX8_dotsOf, Cond.initialized RX8, Cond.code yX8_dotsOf cX8_dotsOf 1 (some .int), Cond.methodLink RX8 177 yX8_sifted, Cond.static yX8_sifted, Cond.code yX8_sifted cX8_sifted 7 (some .int), Cond.constantLong RX8 67 (-1), Cond.methodLink RX8 81 yX8_part, Cond.static yX8_part, Cond.code yX8_part cX8_part 3 (some .long), Cond.methodLink RX8 73 yX8_bright, Cond.static yX8_bright, Cond.code yX8_bright cX8_bright 7 (some .long), Cond.methodLink RX8 51 yX8_has, Cond.static yX8_has, Cond.code yX8_has cX8_has 3 (some .boolean), Cond.methodLink RX8 77 yX8_spread, Cond.static yX8_spread, Cond.code yX8_spread cX8_spread 10 (some .long), Cond.methodLink RX8 69 yX8_around, Cond.static yX8_around, Cond.code yX8_around cX8_around 6 (some .long)]
def wsX8_goSift_r2 : List Cond := [Cond.methodLink RX8 63 yX8_isBeside, Cond.static yX8_isBeside, Cond.code yX8_isBeside cX8_isBeside 7 (some .boolean), Cond.methodLink RX8 173 yX8_stays, Cond.static yX8_stays, Cond.code yX8_stays cX8_stays 5 (some .boolean), Cond.methodLink RX8 129 yX8_many, Cond.static yX8_many, Cond.code yX8_many cX8_many 4 (some .int), Cond.methodLink RX8 155 yX8_box, Cond.static yX8_box, Cond.code yX8_box cX8_box 8 (some .int), Cond.methodLink RX8 84 yX8_level, Cond.static yX8_level, Cond.code yX8_level cX8_level 5 (some .int)]
def wsX8_goSift : List Cond := .code yX8_goSift cX8_goSift 6 (some .int) :: ((wsX8_goSift_r1 ++ wsX8_goSift_r2) ++ wsX80)
def wsX8_sift_r1 : List Cond := [Cond.fieldLink RX8 47 "ShadeTreeModel" "thrown" "I", Cond.constantLong RX8 181 (36), Cond.constantLong RX8 115 (6), Cond.fieldLink RX8 16 "ShadeTreeModel" "page" "[I", Cond.methodLink RX8 59 yX8_in, Cond.static yX8_in, Cond.initialized RX8, Cond.code yX8_in cX8_in 6 (some .boolean), Cond.methodLink RX8 166 yX8_note, Cond.instanceMethod yX8_note, Cond.selects RX8 yX8_note yX8_note, Cond.code yX8_note cX8_note 2 none, Cond.fieldLink RX8 123 "ShadeTreeModel" "doings" "I", Cond.fieldLink RX8 25 "ShadeTreeModel" "book" "[I", Cond.methodLink RX8 183 yX8_goSift, Cond.instanceMethod yX8_goSift, Cond.selects RX8 yX8_goSift yX8_goSift, Cond.code yX8_goSift cX8_goSift 6 (some .int), Cond.fieldLink RX8 22 "ShadeTreeModel" "changed" "[I", Cond.methodLink RX8 55 yX8_dotsOf, Cond.static yX8_dotsOf, Cond.code yX8_dotsOf cX8_dotsOf 1 (some .int), Cond.methodLink RX8 177 yX8_sifted, Cond.static yX8_sifted]
def wsX8_sift_r2 : List Cond := [Cond.code yX8_sifted cX8_sifted 7 (some .int), Cond.constantLong RX8 67 (-1), Cond.methodLink RX8 81 yX8_part, Cond.static yX8_part, Cond.code yX8_part cX8_part 3 (some .long), Cond.methodLink RX8 73 yX8_bright, Cond.static yX8_bright, Cond.code yX8_bright cX8_bright 7 (some .long), Cond.methodLink RX8 51 yX8_has, Cond.static yX8_has, Cond.code yX8_has cX8_has 3 (some .boolean), Cond.methodLink RX8 77 yX8_spread, Cond.static yX8_spread, Cond.code yX8_spread cX8_spread 10 (some .long), Cond.methodLink RX8 69 yX8_around, Cond.static yX8_around, Cond.code yX8_around cX8_around 6 (some .long), Cond.methodLink RX8 63 yX8_isBeside, Cond.static yX8_isBeside, Cond.code yX8_isBeside cX8_isBeside 7 (some .boolean), Cond.methodLink RX8 173 yX8_stays, Cond.static yX8_stays, Cond.code yX8_stays cX8_stays 5 (some .boolean), Cond.methodLink RX8 129 yX8_many]
def wsX8_sift_r3 : List Cond := [Cond.static yX8_many, Cond.code yX8_many cX8_many 4 (some .int), Cond.methodLink RX8 155 yX8_box, Cond.static yX8_box, Cond.code yX8_box cX8_box 8 (some .int), Cond.methodLink RX8 84 yX8_level, Cond.static yX8_level, Cond.code yX8_level cX8_level 5 (some .int)]
def wsX8_sift : List Cond := .code yX8_sift cX8_sift 3 (some .int) :: ((wsX8_sift_r1 ++ (wsX8_sift_r2 ++ wsX8_sift_r3)) ++ wsX80)
def wsX8_undo : List Cond := .code yX8_undo cX8_undo 2 (some .int) :: ([.fieldLink RX8 47 "ShadeTreeModel" "thrown" "I", .fieldLink RX8 123 "ShadeTreeModel" "doings" "I", .fieldLink RX8 16 "ShadeTreeModel" "page" "[I", .fieldLink RX8 25 "ShadeTreeModel" "book" "[I"] ++ wsX80)
def wsX8_pass_r1 : List Cond := [Cond.fieldLink RX8 47 "ShadeTreeModel" "thrown" "I", Cond.fieldLink RX8 16 "ShadeTreeModel" "page" "[I", Cond.methodLink RX8 148 yX8_noDot, Cond.instanceMethod yX8_noDot, Cond.selects RX8 yX8_noDot yX8_noDot, Cond.initialized RX8, Cond.code yX8_noDot cX8_noDot 2 (some .boolean), Cond.methodLink RX8 55 yX8_dotsOf, Cond.static yX8_dotsOf, Cond.code yX8_dotsOf cX8_dotsOf 1 (some .int), Cond.methodLink RX8 59 yX8_in, Cond.static yX8_in, Cond.code yX8_in cX8_in 6 (some .boolean), Cond.methodLink RX8 81 yX8_part, Cond.static yX8_part, Cond.code yX8_part cX8_part 3 (some .long), Cond.constantLong RX8 67 (-1), Cond.methodLink RX8 73 yX8_bright, Cond.static yX8_bright, Cond.code yX8_bright cX8_bright 7 (some .long), Cond.methodLink RX8 51 yX8_has, Cond.static yX8_has, Cond.code yX8_has cX8_has 3 (some .boolean), Cond.methodLink RX8 77 yX8_spread]
def wsX8_pass_r2 : List Cond := [Cond.static yX8_spread, Cond.code yX8_spread cX8_spread 10 (some .long), Cond.methodLink RX8 69 yX8_around, Cond.static yX8_around, Cond.code yX8_around cX8_around 6 (some .long), Cond.methodLink RX8 63 yX8_isBeside, Cond.static yX8_isBeside, Cond.code yX8_isBeside cX8_isBeside 7 (some .boolean)]
def wsX8_pass : List Cond := .code yX8_pass cX8_pass 4 (some .int) :: ((wsX8_pass_r1 ++ wsX8_pass_r2) ++ wsX80)
def wsX8_divisor : List Cond := .code yX8_divisor cX8_divisor 5 (some .int) :: ([])
def wsX8_fraction : List Cond := .code yX8_fraction cX8_fraction 4 (some .int) :: ([.methodLink RX8 187 yX8_divisor, .static yX8_divisor, .initialized RX8, .code yX8_divisor cX8_divisor 5 (some .int)])
def wsX8_layGrown_r1 : List Cond := [Cond.fieldLink RX8 16 "ShadeTreeModel" "page" "[I", Cond.fieldLink RX8 191 "ShadeTreeModel" "grown" "I", Cond.fieldLink RX8 194 "ShadeTreeModel" "grownBy" "I", Cond.methodLink RX8 84 yX8_level, Cond.static yX8_level, Cond.initialized RX8, Cond.code yX8_level cX8_level 5 (some .int), Cond.methodLink RX8 55 yX8_dotsOf, Cond.static yX8_dotsOf, Cond.code yX8_dotsOf cX8_dotsOf 1 (some .int), Cond.methodLink RX8 51 yX8_has, Cond.static yX8_has, Cond.code yX8_has cX8_has 3 (some .boolean), Cond.methodLink RX8 88 yX8_head, Cond.static yX8_head, Cond.code yX8_head cX8_head 5 (some .int), Cond.methodLink RX8 81 yX8_part, Cond.static yX8_part, Cond.code yX8_part cX8_part 3 (some .long), Cond.constantLong RX8 67 (-1), Cond.methodLink RX8 73 yX8_bright, Cond.static yX8_bright, Cond.code yX8_bright cX8_bright 7 (some .long), Cond.methodLink RX8 77 yX8_spread]
def wsX8_layGrown_r2 : List Cond := [Cond.static yX8_spread, Cond.code yX8_spread cX8_spread 10 (some .long), Cond.methodLink RX8 69 yX8_around, Cond.static yX8_around, Cond.code yX8_around cX8_around 6 (some .long), Cond.methodLink RX8 63 yX8_isBeside, Cond.static yX8_isBeside, Cond.code yX8_isBeside cX8_isBeside 7 (some .boolean), Cond.methodLink RX8 129 yX8_many, Cond.static yX8_many, Cond.code yX8_many cX8_many 4 (some .int)]
def wsX8_layGrown : List Cond := .code yX8_layGrown cX8_layGrown 5 none :: ((wsX8_layGrown_r1 ++ wsX8_layGrown_r2) ++ wsX80)
def wsX8_grows_r1 : List Cond := [Cond.fieldLink RX8 47 "ShadeTreeModel" "thrown" "I", Cond.constantLong RX8 117 (9), Cond.fieldLink RX8 16 "ShadeTreeModel" "page" "[I", Cond.fieldLink RX8 191 "ShadeTreeModel" "grown" "I", Cond.fieldLink RX8 194 "ShadeTreeModel" "grownBy" "I", Cond.methodLink RX8 148 yX8_noDot, Cond.instanceMethod yX8_noDot, Cond.selects RX8 yX8_noDot yX8_noDot, Cond.initialized RX8, Cond.code yX8_noDot cX8_noDot 2 (some .boolean), Cond.methodLink RX8 55 yX8_dotsOf, Cond.static yX8_dotsOf, Cond.code yX8_dotsOf cX8_dotsOf 1 (some .int), Cond.methodLink RX8 59 yX8_in, Cond.static yX8_in, Cond.code yX8_in cX8_in 6 (some .boolean), Cond.methodLink RX8 91 yX8_nodeOf, Cond.static yX8_nodeOf, Cond.code yX8_nodeOf cX8_nodeOf 2 (some .long), Cond.methodLink RX8 81 yX8_part, Cond.static yX8_part, Cond.code yX8_part cX8_part 3 (some .long), Cond.constantLong RX8 67 (-1), Cond.methodLink RX8 73 yX8_bright]
def wsX8_grows_r2 : List Cond := [Cond.static yX8_bright, Cond.code yX8_bright cX8_bright 7 (some .long), Cond.methodLink RX8 51 yX8_has, Cond.static yX8_has, Cond.code yX8_has cX8_has 3 (some .boolean), Cond.methodLink RX8 77 yX8_spread, Cond.static yX8_spread, Cond.code yX8_spread cX8_spread 10 (some .long), Cond.methodLink RX8 69 yX8_around, Cond.static yX8_around, Cond.code yX8_around cX8_around 6 (some .long), Cond.methodLink RX8 63 yX8_isBeside, Cond.static yX8_isBeside, Cond.code yX8_isBeside cX8_isBeside 7 (some .boolean), Cond.methodLink RX8 197 yX8_layGrown, Cond.instanceMethod yX8_layGrown, Cond.selects RX8 yX8_layGrown yX8_layGrown, Cond.code yX8_layGrown cX8_layGrown 5 none, Cond.methodLink RX8 84 yX8_level, Cond.static yX8_level, Cond.code yX8_level cX8_level 5 (some .int), Cond.methodLink RX8 88 yX8_head, Cond.static yX8_head, Cond.code yX8_head cX8_head 5 (some .int)]
def wsX8_grows_r3 : List Cond := [Cond.methodLink RX8 129 yX8_many, Cond.static yX8_many, Cond.code yX8_many cX8_many 4 (some .int), Cond.methodLink RX8 201 yX8_fraction, Cond.static yX8_fraction, Cond.code yX8_fraction cX8_fraction 4 (some .int), Cond.methodLink RX8 187 yX8_divisor, Cond.static yX8_divisor, Cond.code yX8_divisor cX8_divisor 5 (some .int)]
def wsX8_grows : List Cond := .code yX8_grows cX8_grows 4 (some .int) :: ((wsX8_grows_r1 ++ (wsX8_grows_r2 ++ wsX8_grows_r3)) ++ wsX80)
def wsX8_growsLess_r1 : List Cond := [Cond.fieldLink RX8 191 "ShadeTreeModel" "grown" "I", Cond.fieldLink RX8 194 "ShadeTreeModel" "grownBy" "I", Cond.methodLink RX8 197 yX8_layGrown, Cond.instanceMethod yX8_layGrown, Cond.selects RX8 yX8_layGrown yX8_layGrown, Cond.initialized RX8, Cond.code yX8_layGrown cX8_layGrown 5 none, Cond.fieldLink RX8 16 "ShadeTreeModel" "page" "[I", Cond.methodLink RX8 84 yX8_level, Cond.static yX8_level, Cond.code yX8_level cX8_level 5 (some .int), Cond.methodLink RX8 55 yX8_dotsOf, Cond.static yX8_dotsOf, Cond.code yX8_dotsOf cX8_dotsOf 1 (some .int), Cond.methodLink RX8 51 yX8_has, Cond.static yX8_has, Cond.code yX8_has cX8_has 3 (some .boolean), Cond.methodLink RX8 88 yX8_head, Cond.static yX8_head, Cond.code yX8_head cX8_head 5 (some .int), Cond.methodLink RX8 81 yX8_part, Cond.static yX8_part, Cond.code yX8_part cX8_part 3 (some .long), Cond.constantLong RX8 67 (-1)]
def wsX8_growsLess_r2 : List Cond := [Cond.methodLink RX8 73 yX8_bright, Cond.static yX8_bright, Cond.code yX8_bright cX8_bright 7 (some .long), Cond.methodLink RX8 77 yX8_spread, Cond.static yX8_spread, Cond.code yX8_spread cX8_spread 10 (some .long), Cond.methodLink RX8 69 yX8_around, Cond.static yX8_around, Cond.code yX8_around cX8_around 6 (some .long), Cond.methodLink RX8 63 yX8_isBeside, Cond.static yX8_isBeside, Cond.code yX8_isBeside cX8_isBeside 7 (some .boolean), Cond.methodLink RX8 129 yX8_many, Cond.static yX8_many, Cond.code yX8_many cX8_many 4 (some .int)]
def wsX8_growsLess : List Cond := .code yX8_growsLess cX8_growsLess 8 (some .boolean) :: ((wsX8_growsLess_r1 ++ wsX8_growsLess_r2) ++ wsX80)
def wsX8_isSteady_r1 : List Cond := [Cond.fieldLink RX8 16 "ShadeTreeModel" "page" "[I", Cond.methodLink RX8 99 yX8_parent, Cond.static yX8_parent, Cond.initialized RX8, Cond.code yX8_parent cX8_parent 7 (some .long), Cond.methodLink RX8 88 yX8_head, Cond.static yX8_head, Cond.code yX8_head cX8_head 5 (some .int), Cond.methodLink RX8 84 yX8_level, Cond.static yX8_level, Cond.code yX8_level cX8_level 5 (some .int), Cond.methodLink RX8 55 yX8_dotsOf, Cond.static yX8_dotsOf, Cond.code yX8_dotsOf cX8_dotsOf 1 (some .int), Cond.methodLink RX8 51 yX8_has, Cond.static yX8_has, Cond.code yX8_has cX8_has 3 (some .boolean), Cond.methodLink RX8 81 yX8_part, Cond.static yX8_part, Cond.code yX8_part cX8_part 3 (some .long), Cond.constantLong RX8 67 (-1), Cond.methodLink RX8 73 yX8_bright, Cond.static yX8_bright, Cond.code yX8_bright cX8_bright 7 (some .long)]
def wsX8_isSteady_r2 : List Cond := [Cond.methodLink RX8 77 yX8_spread, Cond.static yX8_spread, Cond.code yX8_spread cX8_spread 10 (some .long), Cond.methodLink RX8 69 yX8_around, Cond.static yX8_around, Cond.code yX8_around cX8_around 6 (some .long), Cond.methodLink RX8 63 yX8_isBeside, Cond.static yX8_isBeside, Cond.code yX8_isBeside cX8_isBeside 7 (some .boolean), Cond.methodLink RX8 205 yX8_growsLess, Cond.instanceMethod yX8_growsLess, Cond.selects RX8 yX8_growsLess yX8_growsLess, Cond.code yX8_growsLess cX8_growsLess 8 (some .boolean), Cond.fieldLink RX8 191 "ShadeTreeModel" "grown" "I", Cond.fieldLink RX8 194 "ShadeTreeModel" "grownBy" "I", Cond.methodLink RX8 197 yX8_layGrown, Cond.instanceMethod yX8_layGrown, Cond.selects RX8 yX8_layGrown yX8_layGrown, Cond.code yX8_layGrown cX8_layGrown 5 none, Cond.methodLink RX8 129 yX8_many, Cond.static yX8_many, Cond.code yX8_many cX8_many 4 (some .int), Cond.methodLink RX8 95 yX8_isHead, Cond.static yX8_isHead]
def wsX8_isSteady_r3 : List Cond := [Cond.code yX8_isHead cX8_isHead 2 (some .boolean), Cond.methodLink RX8 91 yX8_nodeOf, Cond.static yX8_nodeOf, Cond.code yX8_nodeOf cX8_nodeOf 2 (some .long)]
def wsX8_isSteady : List Cond := .code yX8_isSteady cX8_isSteady 10 (some .boolean) :: ((wsX8_isSteady_r1 ++ (wsX8_isSteady_r2 ++ wsX8_isSteady_r3)) ++ wsX80)
def wsX8_steady_r1 : List Cond := [Cond.fieldLink RX8 47 "ShadeTreeModel" "thrown" "I", Cond.constantLong RX8 117 (9), Cond.fieldLink RX8 16 "ShadeTreeModel" "page" "[I", Cond.methodLink RX8 148 yX8_noDot, Cond.instanceMethod yX8_noDot, Cond.selects RX8 yX8_noDot yX8_noDot, Cond.initialized RX8, Cond.code yX8_noDot cX8_noDot 2 (some .boolean), Cond.methodLink RX8 55 yX8_dotsOf, Cond.static yX8_dotsOf, Cond.code yX8_dotsOf cX8_dotsOf 1 (some .int), Cond.methodLink RX8 59 yX8_in, Cond.static yX8_in, Cond.code yX8_in cX8_in 6 (some .boolean), Cond.methodLink RX8 91 yX8_nodeOf, Cond.static yX8_nodeOf, Cond.code yX8_nodeOf cX8_nodeOf 2 (some .long), Cond.methodLink RX8 81 yX8_part, Cond.static yX8_part, Cond.code yX8_part cX8_part 3 (some .long), Cond.constantLong RX8 67 (-1), Cond.methodLink RX8 73 yX8_bright, Cond.static yX8_bright, Cond.code yX8_bright cX8_bright 7 (some .long)]
def wsX8_steady_r2 : List Cond := [Cond.methodLink RX8 51 yX8_has, Cond.static yX8_has, Cond.code yX8_has cX8_has 3 (some .boolean), Cond.methodLink RX8 77 yX8_spread, Cond.static yX8_spread, Cond.code yX8_spread cX8_spread 10 (some .long), Cond.methodLink RX8 69 yX8_around, Cond.static yX8_around, Cond.code yX8_around cX8_around 6 (some .long), Cond.methodLink RX8 63 yX8_isBeside, Cond.static yX8_isBeside, Cond.code yX8_isBeside cX8_isBeside 7 (some .boolean), Cond.methodLink RX8 209 yX8_isSteady, Cond.instanceMethod yX8_isSteady, Cond.selects RX8 yX8_isSteady yX8_isSteady, Cond.code yX8_isSteady cX8_isSteady 10 (some .boolean), Cond.methodLink RX8 99 yX8_parent, Cond.static yX8_parent, Cond.code yX8_parent cX8_parent 7 (some .long), Cond.methodLink RX8 88 yX8_head, Cond.static yX8_head, Cond.code yX8_head cX8_head 5 (some .int), Cond.methodLink RX8 84 yX8_level, Cond.static yX8_level]
def wsX8_steady_r3 : List Cond := [Cond.code yX8_level cX8_level 5 (some .int), Cond.methodLink RX8 205 yX8_growsLess, Cond.instanceMethod yX8_growsLess, Cond.selects RX8 yX8_growsLess yX8_growsLess, Cond.code yX8_growsLess cX8_growsLess 8 (some .boolean), Cond.fieldLink RX8 191 "ShadeTreeModel" "grown" "I", Cond.fieldLink RX8 194 "ShadeTreeModel" "grownBy" "I", Cond.methodLink RX8 197 yX8_layGrown, Cond.instanceMethod yX8_layGrown, Cond.selects RX8 yX8_layGrown yX8_layGrown, Cond.code yX8_layGrown cX8_layGrown 5 none, Cond.methodLink RX8 129 yX8_many, Cond.static yX8_many, Cond.code yX8_many cX8_many 4 (some .int), Cond.methodLink RX8 95 yX8_isHead, Cond.static yX8_isHead, Cond.code yX8_isHead cX8_isHead 2 (some .boolean)]
def wsX8_steady : List Cond := .code yX8_steady cX8_steady 3 (some .int) :: ((wsX8_steady_r1 ++ (wsX8_steady_r2 ++ wsX8_steady_r3)) ++ wsX80)
def wsX8_begin : List Cond := .code yX8_begin cX8_begin 2 none :: ([.fieldLink RX8 19 "ShadeTreeModel" "trial" "[I", .fieldLink RX8 16 "ShadeTreeModel" "page" "[I"] ++ wsX80)
def wsX8_longPower : List Cond := .code yX8_longPower cX8_longPower 6 (some .long) :: ([])
def wsX8_isSo_r1 : List Cond := [Cond.fieldLink RX8 19 "ShadeTreeModel" "trial" "[I", Cond.constantLong RX8 67 (-1), Cond.methodLink RX8 162 yX8_partsOf, Cond.static yX8_partsOf, Cond.initialized RX8, Cond.code yX8_partsOf cX8_partsOf 8 (some .int), Cond.methodLink RX8 73 yX8_bright, Cond.static yX8_bright, Cond.code yX8_bright cX8_bright 7 (some .long), Cond.methodLink RX8 55 yX8_dotsOf, Cond.static yX8_dotsOf, Cond.code yX8_dotsOf cX8_dotsOf 1 (some .int), Cond.methodLink RX8 51 yX8_has, Cond.static yX8_has, Cond.code yX8_has cX8_has 3 (some .boolean), Cond.methodLink RX8 77 yX8_spread, Cond.static yX8_spread, Cond.code yX8_spread cX8_spread 10 (some .long), Cond.methodLink RX8 69 yX8_around, Cond.static yX8_around, Cond.code yX8_around cX8_around 6 (some .long), Cond.methodLink RX8 63 yX8_isBeside, Cond.static yX8_isBeside, Cond.code yX8_isBeside cX8_isBeside 7 (some .boolean)]
def wsX8_isSo_r2 : List Cond := [Cond.methodLink RX8 91 yX8_nodeOf, Cond.static yX8_nodeOf, Cond.code yX8_nodeOf cX8_nodeOf 2 (some .long), Cond.methodLink RX8 81 yX8_part, Cond.static yX8_part, Cond.code yX8_part cX8_part 3 (some .long), Cond.methodLink RX8 99 yX8_parent, Cond.static yX8_parent, Cond.code yX8_parent cX8_parent 7 (some .long), Cond.methodLink RX8 88 yX8_head, Cond.static yX8_head, Cond.code yX8_head cX8_head 5 (some .int), Cond.methodLink RX8 84 yX8_level, Cond.static yX8_level, Cond.code yX8_level cX8_level 5 (some .int), Cond.methodLink RX8 159 yX8_rise, Cond.static yX8_rise, Cond.code yX8_rise cX8_rise 7 (some .int), Cond.methodLink RX8 103 yX8_brightest, Cond.static yX8_brightest, Cond.code yX8_brightest cX8_brightest 5 (some .int)]
def wsX8_isSo : List Cond := .code yX8_isSo cX8_isSo 8 (some .boolean) :: ((wsX8_isSo_r1 ++ wsX8_isSo_r2) ++ wsX80)
def wsX8_does_r1 : List Cond := [Cond.fieldLink RX8 19 "ShadeTreeModel" "trial" "[I", Cond.constantLong RX8 181 (36), Cond.constantLong RX8 115 (6), Cond.methodLink RX8 55 yX8_dotsOf, Cond.static yX8_dotsOf, Cond.initialized RX8, Cond.code yX8_dotsOf cX8_dotsOf 1 (some .int), Cond.methodLink RX8 169 yX8_goNegative, Cond.static yX8_goNegative, Cond.code yX8_goNegative cX8_goNegative 2 none, Cond.methodLink RX8 59 yX8_in, Cond.static yX8_in, Cond.code yX8_in cX8_in 6 (some .boolean), Cond.methodLink RX8 183 yX8_goSift, Cond.instanceMethod yX8_goSift, Cond.selects RX8 yX8_goSift yX8_goSift, Cond.code yX8_goSift cX8_goSift 6 (some .int), Cond.fieldLink RX8 22 "ShadeTreeModel" "changed" "[I", Cond.methodLink RX8 177 yX8_sifted, Cond.static yX8_sifted, Cond.code yX8_sifted cX8_sifted 7 (some .int), Cond.constantLong RX8 67 (-1), Cond.methodLink RX8 81 yX8_part, Cond.static yX8_part]
def wsX8_does_r2 : List Cond := [Cond.code yX8_part cX8_part 3 (some .long), Cond.methodLink RX8 73 yX8_bright, Cond.static yX8_bright, Cond.code yX8_bright cX8_bright 7 (some .long), Cond.methodLink RX8 51 yX8_has, Cond.static yX8_has, Cond.code yX8_has cX8_has 3 (some .boolean), Cond.methodLink RX8 77 yX8_spread, Cond.static yX8_spread, Cond.code yX8_spread cX8_spread 10 (some .long), Cond.methodLink RX8 69 yX8_around, Cond.static yX8_around, Cond.code yX8_around cX8_around 6 (some .long), Cond.methodLink RX8 63 yX8_isBeside, Cond.static yX8_isBeside, Cond.code yX8_isBeside cX8_isBeside 7 (some .boolean), Cond.methodLink RX8 173 yX8_stays, Cond.static yX8_stays, Cond.code yX8_stays cX8_stays 5 (some .boolean), Cond.methodLink RX8 129 yX8_many, Cond.static yX8_many, Cond.code yX8_many cX8_many 4 (some .int), Cond.methodLink RX8 155 yX8_box, Cond.static yX8_box]
def wsX8_does_r3 : List Cond := [Cond.code yX8_box cX8_box 8 (some .int), Cond.methodLink RX8 84 yX8_level, Cond.static yX8_level, Cond.code yX8_level cX8_level 5 (some .int), Cond.methodLink RX8 212 yX8_isSo, Cond.instanceMethod yX8_isSo, Cond.selects RX8 yX8_isSo yX8_isSo, Cond.code yX8_isSo cX8_isSo 8 (some .boolean), Cond.methodLink RX8 162 yX8_partsOf, Cond.static yX8_partsOf, Cond.code yX8_partsOf cX8_partsOf 8 (some .int), Cond.methodLink RX8 91 yX8_nodeOf, Cond.static yX8_nodeOf, Cond.code yX8_nodeOf cX8_nodeOf 2 (some .long), Cond.methodLink RX8 99 yX8_parent, Cond.static yX8_parent, Cond.code yX8_parent cX8_parent 7 (some .long), Cond.methodLink RX8 88 yX8_head, Cond.static yX8_head, Cond.code yX8_head cX8_head 5 (some .int), Cond.methodLink RX8 159 yX8_rise, Cond.static yX8_rise, Cond.code yX8_rise cX8_rise 7 (some .int), Cond.methodLink RX8 103 yX8_brightest]
def wsX8_does_r4 : List Cond := [Cond.static yX8_brightest, Cond.code yX8_brightest cX8_brightest 5 (some .int)]
def wsX8_does : List Cond := .code yX8_does cX8_does 6 (some .boolean) :: ((wsX8_does_r1 ++ (wsX8_does_r2 ++ (wsX8_does_r3 ++ wsX8_does_r4))) ++ wsX80)
def wsX8_judge_r1 : List Cond := [Cond.fieldLink RX8 47 "ShadeTreeModel" "thrown" "I", Cond.constantLong RX8 216 (4), Cond.constantLong RX8 218 (10000), Cond.methodLink RX8 59 yX8_in, Cond.static yX8_in, Cond.initialized RX8, Cond.code yX8_in cX8_in 6 (some .boolean), Cond.methodLink RX8 220 yX8_longPower, Cond.static yX8_longPower, Cond.code yX8_longPower cX8_longPower 6 (some .long), Cond.methodLink RX8 224 yX8_begin, Cond.instanceMethod yX8_begin, Cond.selects RX8 yX8_begin yX8_begin, Cond.code yX8_begin cX8_begin 2 none, Cond.fieldLink RX8 19 "ShadeTreeModel" "trial" "[I", Cond.fieldLink RX8 16 "ShadeTreeModel" "page" "[I", Cond.methodLink RX8 227 yX8_does, Cond.instanceMethod yX8_does, Cond.selects RX8 yX8_does yX8_does, Cond.code yX8_does cX8_does 6 (some .boolean), Cond.constantLong RX8 181 (36), Cond.constantLong RX8 115 (6), Cond.methodLink RX8 55 yX8_dotsOf, Cond.static yX8_dotsOf]
def wsX8_judge_r2 : List Cond := [Cond.code yX8_dotsOf cX8_dotsOf 1 (some .int), Cond.methodLink RX8 169 yX8_goNegative, Cond.static yX8_goNegative, Cond.code yX8_goNegative cX8_goNegative 2 none, Cond.methodLink RX8 183 yX8_goSift, Cond.instanceMethod yX8_goSift, Cond.selects RX8 yX8_goSift yX8_goSift, Cond.code yX8_goSift cX8_goSift 6 (some .int), Cond.fieldLink RX8 22 "ShadeTreeModel" "changed" "[I", Cond.methodLink RX8 177 yX8_sifted, Cond.static yX8_sifted, Cond.code yX8_sifted cX8_sifted 7 (some .int), Cond.constantLong RX8 67 (-1), Cond.methodLink RX8 81 yX8_part, Cond.static yX8_part, Cond.code yX8_part cX8_part 3 (some .long), Cond.methodLink RX8 73 yX8_bright, Cond.static yX8_bright, Cond.code yX8_bright cX8_bright 7 (some .long), Cond.methodLink RX8 51 yX8_has, Cond.static yX8_has, Cond.code yX8_has cX8_has 3 (some .boolean), Cond.methodLink RX8 77 yX8_spread, Cond.static yX8_spread]
def wsX8_judge_r3 : List Cond := [Cond.code yX8_spread cX8_spread 10 (some .long), Cond.methodLink RX8 69 yX8_around, Cond.static yX8_around, Cond.code yX8_around cX8_around 6 (some .long), Cond.methodLink RX8 63 yX8_isBeside, Cond.static yX8_isBeside, Cond.code yX8_isBeside cX8_isBeside 7 (some .boolean), Cond.methodLink RX8 173 yX8_stays, Cond.static yX8_stays, Cond.code yX8_stays cX8_stays 5 (some .boolean), Cond.methodLink RX8 129 yX8_many, Cond.static yX8_many, Cond.code yX8_many cX8_many 4 (some .int), Cond.methodLink RX8 155 yX8_box, Cond.static yX8_box, Cond.code yX8_box cX8_box 8 (some .int), Cond.methodLink RX8 84 yX8_level, Cond.static yX8_level, Cond.code yX8_level cX8_level 5 (some .int), Cond.methodLink RX8 212 yX8_isSo, Cond.instanceMethod yX8_isSo, Cond.selects RX8 yX8_isSo yX8_isSo, Cond.code yX8_isSo cX8_isSo 8 (some .boolean), Cond.methodLink RX8 162 yX8_partsOf]
def wsX8_judge_r4 : List Cond := [Cond.static yX8_partsOf, Cond.code yX8_partsOf cX8_partsOf 8 (some .int), Cond.methodLink RX8 91 yX8_nodeOf, Cond.static yX8_nodeOf, Cond.code yX8_nodeOf cX8_nodeOf 2 (some .long), Cond.methodLink RX8 99 yX8_parent, Cond.static yX8_parent, Cond.code yX8_parent cX8_parent 7 (some .long), Cond.methodLink RX8 88 yX8_head, Cond.static yX8_head, Cond.code yX8_head cX8_head 5 (some .int), Cond.methodLink RX8 159 yX8_rise, Cond.static yX8_rise, Cond.code yX8_rise cX8_rise 7 (some .int), Cond.methodLink RX8 103 yX8_brightest, Cond.static yX8_brightest, Cond.code yX8_brightest cX8_brightest 5 (some .int)]
def wsX8_judge : List Cond := .code yX8_judge cX8_judge 5 (some .int) :: ((wsX8_judge_r1 ++ (wsX8_judge_r2 ++ (wsX8_judge_r3 ++ wsX8_judge_r4))) ++ wsX80)
def wsX8_orders : List Cond := .code yX8_orders cX8_orders 4 (some .int) :: ([])
def wsX8_rows : List Cond := .code yX8_rows cX8_rows 5 (some .long) :: ([.fieldLink RX8 16 "ShadeTreeModel" "page" "[I", .methodLink RX8 55 yX8_dotsOf, .static yX8_dotsOf, .initialized RX8, .code yX8_dotsOf cX8_dotsOf 1 (some .int), .methodLink RX8 51 yX8_has, .static yX8_has, .code yX8_has cX8_has 3 (some .boolean)] ++ wsX80)
def wsX8_share_r1 : List Cond := [Cond.fieldLink RX8 47 "ShadeTreeModel" "thrown" "I", Cond.fieldLink RX8 16 "ShadeTreeModel" "page" "[I", Cond.constantLong RX8 117 (9), Cond.fieldLink RX8 44 "ShadeTreeModel" "value" "[I", Cond.methodLink RX8 59 yX8_in, Cond.static yX8_in, Cond.initialized RX8, Cond.code yX8_in cX8_in 6 (some .boolean), Cond.methodLink RX8 230 yX8_rows, Cond.instanceMethod yX8_rows, Cond.selects RX8 yX8_rows yX8_rows, Cond.code yX8_rows cX8_rows 5 (some .long), Cond.methodLink RX8 55 yX8_dotsOf, Cond.static yX8_dotsOf, Cond.code yX8_dotsOf cX8_dotsOf 1 (some .int), Cond.methodLink RX8 51 yX8_has, Cond.static yX8_has, Cond.code yX8_has cX8_has 3 (some .boolean), Cond.methodLink RX8 162 yX8_partsOf, Cond.static yX8_partsOf, Cond.code yX8_partsOf cX8_partsOf 8 (some .int), Cond.constantLong RX8 67 (-1), Cond.methodLink RX8 73 yX8_bright, Cond.static yX8_bright]
def wsX8_share_r2 : List Cond := [Cond.code yX8_bright cX8_bright 7 (some .long), Cond.methodLink RX8 77 yX8_spread, Cond.static yX8_spread, Cond.code yX8_spread cX8_spread 10 (some .long), Cond.methodLink RX8 69 yX8_around, Cond.static yX8_around, Cond.code yX8_around cX8_around 6 (some .long), Cond.methodLink RX8 63 yX8_isBeside, Cond.static yX8_isBeside, Cond.code yX8_isBeside cX8_isBeside 7 (some .boolean), Cond.methodLink RX8 129 yX8_many, Cond.static yX8_many, Cond.code yX8_many cX8_many 4 (some .int), Cond.methodLink RX8 234 yX8_orders, Cond.static yX8_orders, Cond.code yX8_orders cX8_orders 4 (some .int), Cond.methodLink RX8 201 yX8_fraction, Cond.static yX8_fraction, Cond.code yX8_fraction cX8_fraction 4 (some .int), Cond.methodLink RX8 187 yX8_divisor, Cond.static yX8_divisor, Cond.code yX8_divisor cX8_divisor 5 (some .int)]
def wsX8_share : List Cond := .code yX8_share cX8_share 9 (some .int) :: ((wsX8_share_r1 ++ wsX8_share_r2) ++ wsX80)
def wsX8_see : List Cond := .code yX8_see cX8_see 4 (some .int) :: ([.fieldLink RX8 47 "ShadeTreeModel" "thrown" "I", .fieldLink RX8 145 "ShadeTreeModel" "seen" "I", .fieldLink RX8 35 "ShadeTreeModel" "seenOne" "[I", .fieldLink RX8 38 "ShadeTreeModel" "seenOther" "[I", .fieldLink RX8 41 "ShadeTreeModel" "seenIs" "[I", .methodLink RX8 148 yX8_noDot, .instanceMethod yX8_noDot, .selects RX8 yX8_noDot yX8_noDot, .initialized RX8, .code yX8_noDot cX8_noDot 2 (some .boolean), .fieldLink RX8 16 "ShadeTreeModel" "page" "[I", .methodLink RX8 55 yX8_dotsOf, .static yX8_dotsOf, .code yX8_dotsOf cX8_dotsOf 1 (some .int), .methodLink RX8 59 yX8_in, .static yX8_in, .code yX8_in cX8_in 6 (some .boolean)] ++ wsX80)
def wsX8_unsee : List Cond := .code yX8_unsee cX8_unsee 2 (some .int) :: ([.fieldLink RX8 47 "ShadeTreeModel" "thrown" "I", .fieldLink RX8 145 "ShadeTreeModel" "seen" "I"] ++ wsX80)
def wsX8_explains_r1 : List Cond := [Cond.fieldLink RX8 16 "ShadeTreeModel" "page" "[I", Cond.constantLong RX8 67 (-1), Cond.fieldLink RX8 145 "ShadeTreeModel" "seen" "I", Cond.fieldLink RX8 35 "ShadeTreeModel" "seenOne" "[I", Cond.fieldLink RX8 38 "ShadeTreeModel" "seenOther" "[I", Cond.fieldLink RX8 41 "ShadeTreeModel" "seenIs" "[I", Cond.methodLink RX8 73 yX8_bright, Cond.static yX8_bright, Cond.initialized RX8, Cond.code yX8_bright cX8_bright 7 (some .long), Cond.methodLink RX8 55 yX8_dotsOf, Cond.static yX8_dotsOf, Cond.code yX8_dotsOf cX8_dotsOf 1 (some .int), Cond.methodLink RX8 51 yX8_has, Cond.static yX8_has, Cond.code yX8_has cX8_has 3 (some .boolean), Cond.methodLink RX8 77 yX8_spread, Cond.static yX8_spread, Cond.code yX8_spread cX8_spread 10 (some .long), Cond.methodLink RX8 69 yX8_around, Cond.static yX8_around, Cond.code yX8_around cX8_around 6 (some .long), Cond.methodLink RX8 63 yX8_isBeside, Cond.static yX8_isBeside]
def wsX8_explains_r2 : List Cond := [Cond.code yX8_isBeside cX8_isBeside 7 (some .boolean)]
def wsX8_explains : List Cond := .code yX8_explains cX8_explains 8 (some .boolean) :: ((wsX8_explains_r1 ++ wsX8_explains_r2) ++ wsX80)
def wsX8_ways_r1 : List Cond := [Cond.fieldLink RX8 47 "ShadeTreeModel" "thrown" "I", Cond.fieldLink RX8 237 "ShadeTreeModel" "wayMany" "I", Cond.fieldLink RX8 240 "ShadeTreeModel" "wayFirst" "I", Cond.methodLink RX8 59 yX8_in, Cond.static yX8_in, Cond.initialized RX8, Cond.code yX8_in cX8_in 6 (some .boolean), Cond.methodLink RX8 243 yX8_explains, Cond.instanceMethod yX8_explains, Cond.selects RX8 yX8_explains yX8_explains, Cond.code yX8_explains cX8_explains 8 (some .boolean), Cond.fieldLink RX8 16 "ShadeTreeModel" "page" "[I", Cond.constantLong RX8 67 (-1), Cond.fieldLink RX8 145 "ShadeTreeModel" "seen" "I", Cond.fieldLink RX8 35 "ShadeTreeModel" "seenOne" "[I", Cond.fieldLink RX8 38 "ShadeTreeModel" "seenOther" "[I", Cond.fieldLink RX8 41 "ShadeTreeModel" "seenIs" "[I", Cond.methodLink RX8 73 yX8_bright, Cond.static yX8_bright, Cond.code yX8_bright cX8_bright 7 (some .long), Cond.methodLink RX8 55 yX8_dotsOf, Cond.static yX8_dotsOf, Cond.code yX8_dotsOf cX8_dotsOf 1 (some .int), Cond.methodLink RX8 51 yX8_has]
def wsX8_ways_r2 : List Cond := [Cond.static yX8_has, Cond.code yX8_has cX8_has 3 (some .boolean), Cond.methodLink RX8 77 yX8_spread, Cond.static yX8_spread, Cond.code yX8_spread cX8_spread 10 (some .long), Cond.methodLink RX8 69 yX8_around, Cond.static yX8_around, Cond.code yX8_around cX8_around 6 (some .long), Cond.methodLink RX8 63 yX8_isBeside, Cond.static yX8_isBeside, Cond.code yX8_isBeside cX8_isBeside 7 (some .boolean)]
def wsX8_ways : List Cond := .code yX8_ways cX8_ways 5 (some .int) :: ((wsX8_ways_r1 ++ wsX8_ways_r2) ++ wsX80)
def wsX8_fades_r1 : List Cond := [Cond.fieldLink RX8 47 "ShadeTreeModel" "thrown" "I", Cond.fieldLink RX8 16 "ShadeTreeModel" "page" "[I", Cond.constantLong RX8 117 (9), Cond.constantLong RX8 181 (36), Cond.constantLong RX8 247 (10), Cond.fieldLink RX8 19 "ShadeTreeModel" "trial" "[I", Cond.constantLong RX8 67 (-1), Cond.methodLink RX8 59 yX8_in, Cond.static yX8_in, Cond.initialized RX8, Cond.code yX8_in cX8_in 6 (some .boolean), Cond.methodLink RX8 224 yX8_begin, Cond.instanceMethod yX8_begin, Cond.selects RX8 yX8_begin yX8_begin, Cond.code yX8_begin cX8_begin 2 none, Cond.methodLink RX8 51 yX8_has, Cond.static yX8_has, Cond.code yX8_has cX8_has 3 (some .boolean), Cond.methodLink RX8 129 yX8_many, Cond.static yX8_many, Cond.code yX8_many cX8_many 4 (some .int), Cond.methodLink RX8 162 yX8_partsOf, Cond.static yX8_partsOf, Cond.code yX8_partsOf cX8_partsOf 8 (some .int)]
def wsX8_fades_r2 : List Cond := [Cond.methodLink RX8 73 yX8_bright, Cond.static yX8_bright, Cond.code yX8_bright cX8_bright 7 (some .long), Cond.methodLink RX8 55 yX8_dotsOf, Cond.static yX8_dotsOf, Cond.code yX8_dotsOf cX8_dotsOf 1 (some .int), Cond.methodLink RX8 77 yX8_spread, Cond.static yX8_spread, Cond.code yX8_spread cX8_spread 10 (some .long), Cond.methodLink RX8 69 yX8_around, Cond.static yX8_around, Cond.code yX8_around cX8_around 6 (some .long), Cond.methodLink RX8 63 yX8_isBeside, Cond.static yX8_isBeside, Cond.code yX8_isBeside cX8_isBeside 7 (some .boolean), Cond.methodLink RX8 249 yX8_power, Cond.static yX8_power, Cond.code yX8_power cX8_power 4 (some .int), Cond.methodLink RX8 201 yX8_fraction, Cond.static yX8_fraction, Cond.code yX8_fraction cX8_fraction 4 (some .int), Cond.methodLink RX8 187 yX8_divisor, Cond.static yX8_divisor, Cond.code yX8_divisor cX8_divisor 5 (some .int)]
def wsX8_fades : List Cond := .code yX8_fades cX8_fades 11 (some .int) :: ((wsX8_fades_r1 ++ wsX8_fades_r2) ++ wsX80)
def wsX8_seed : List Cond := .code yX8_seed cX8_seed 5 (some .long) :: ([.fieldLink RX8 47 "ShadeTreeModel" "thrown" "I", .fieldLink RX8 252 "ShadeTreeModel" "seed" "J"] ++ wsX80)
def wsX8_goDraw_r1 : List Cond := [Cond.fieldLink RX8 19 "ShadeTreeModel" "trial" "[I", Cond.methodLink RX8 169 yX8_goNegative, Cond.static yX8_goNegative, Cond.initialized RX8, Cond.code yX8_goNegative cX8_goNegative 2 none, Cond.methodLink RX8 55 yX8_dotsOf, Cond.static yX8_dotsOf, Cond.code yX8_dotsOf cX8_dotsOf 1 (some .int), Cond.methodLink RX8 183 yX8_goSift, Cond.instanceMethod yX8_goSift, Cond.selects RX8 yX8_goSift yX8_goSift, Cond.code yX8_goSift cX8_goSift 6 (some .int), Cond.fieldLink RX8 22 "ShadeTreeModel" "changed" "[I", Cond.methodLink RX8 177 yX8_sifted, Cond.static yX8_sifted, Cond.code yX8_sifted cX8_sifted 7 (some .int), Cond.constantLong RX8 67 (-1), Cond.methodLink RX8 81 yX8_part, Cond.static yX8_part, Cond.code yX8_part cX8_part 3 (some .long), Cond.methodLink RX8 73 yX8_bright, Cond.static yX8_bright, Cond.code yX8_bright cX8_bright 7 (some .long), Cond.methodLink RX8 51 yX8_has]
def wsX8_goDraw_r2 : List Cond := [Cond.static yX8_has, Cond.code yX8_has cX8_has 3 (some .boolean), Cond.methodLink RX8 77 yX8_spread, Cond.static yX8_spread, Cond.code yX8_spread cX8_spread 10 (some .long), Cond.methodLink RX8 69 yX8_around, Cond.static yX8_around, Cond.code yX8_around cX8_around 6 (some .long), Cond.methodLink RX8 63 yX8_isBeside, Cond.static yX8_isBeside, Cond.code yX8_isBeside cX8_isBeside 7 (some .boolean), Cond.methodLink RX8 173 yX8_stays, Cond.static yX8_stays, Cond.code yX8_stays cX8_stays 5 (some .boolean), Cond.methodLink RX8 129 yX8_many, Cond.static yX8_many, Cond.code yX8_many cX8_many 4 (some .int), Cond.methodLink RX8 155 yX8_box, Cond.static yX8_box, Cond.code yX8_box cX8_box 8 (some .int), Cond.methodLink RX8 84 yX8_level, Cond.static yX8_level, Cond.code yX8_level cX8_level 5 (some .int)]
def wsX8_goDraw : List Cond := .code yX8_goDraw cX8_goDraw 3 none :: ((wsX8_goDraw_r1 ++ wsX8_goDraw_r2) ++ wsX80)
def wsX8_drawn_r1 : List Cond := [Cond.fieldLink RX8 47 "ShadeTreeModel" "thrown" "I", Cond.constantLong RX8 256 (20), Cond.fieldLink RX8 252 "ShadeTreeModel" "seed" "J", Cond.constantLong RX8 258 (6364136223846793005), Cond.constantLong RX8 260 (1442695040888963407), Cond.fieldLink RX8 19 "ShadeTreeModel" "trial" "[I", Cond.methodLink RX8 59 yX8_in, Cond.static yX8_in, Cond.initialized RX8, Cond.code yX8_in cX8_in 6 (some .boolean), Cond.methodLink RX8 224 yX8_begin, Cond.instanceMethod yX8_begin, Cond.selects RX8 yX8_begin yX8_begin, Cond.code yX8_begin cX8_begin 2 none, Cond.fieldLink RX8 16 "ShadeTreeModel" "page" "[I", Cond.methodLink RX8 55 yX8_dotsOf, Cond.static yX8_dotsOf, Cond.code yX8_dotsOf cX8_dotsOf 1 (some .int), Cond.methodLink RX8 262 yX8_goDraw, Cond.instanceMethod yX8_goDraw, Cond.selects RX8 yX8_goDraw yX8_goDraw, Cond.code yX8_goDraw cX8_goDraw 3 none, Cond.methodLink RX8 169 yX8_goNegative, Cond.static yX8_goNegative]
def wsX8_drawn_r2 : List Cond := [Cond.code yX8_goNegative cX8_goNegative 2 none, Cond.methodLink RX8 183 yX8_goSift, Cond.instanceMethod yX8_goSift, Cond.selects RX8 yX8_goSift yX8_goSift, Cond.code yX8_goSift cX8_goSift 6 (some .int), Cond.fieldLink RX8 22 "ShadeTreeModel" "changed" "[I", Cond.methodLink RX8 177 yX8_sifted, Cond.static yX8_sifted, Cond.code yX8_sifted cX8_sifted 7 (some .int), Cond.constantLong RX8 67 (-1), Cond.methodLink RX8 81 yX8_part, Cond.static yX8_part, Cond.code yX8_part cX8_part 3 (some .long), Cond.methodLink RX8 73 yX8_bright, Cond.static yX8_bright, Cond.code yX8_bright cX8_bright 7 (some .long), Cond.methodLink RX8 51 yX8_has, Cond.static yX8_has, Cond.code yX8_has cX8_has 3 (some .boolean), Cond.methodLink RX8 77 yX8_spread, Cond.static yX8_spread, Cond.code yX8_spread cX8_spread 10 (some .long), Cond.methodLink RX8 69 yX8_around, Cond.static yX8_around]
def wsX8_drawn_r3 : List Cond := [Cond.code yX8_around cX8_around 6 (some .long), Cond.methodLink RX8 63 yX8_isBeside, Cond.static yX8_isBeside, Cond.code yX8_isBeside cX8_isBeside 7 (some .boolean), Cond.methodLink RX8 173 yX8_stays, Cond.static yX8_stays, Cond.code yX8_stays cX8_stays 5 (some .boolean), Cond.methodLink RX8 129 yX8_many, Cond.static yX8_many, Cond.code yX8_many cX8_many 4 (some .int), Cond.methodLink RX8 155 yX8_box, Cond.static yX8_box, Cond.code yX8_box cX8_box 8 (some .int), Cond.methodLink RX8 84 yX8_level, Cond.static yX8_level, Cond.code yX8_level cX8_level 5 (some .int), Cond.methodLink RX8 126 yX8_nodes, Cond.static yX8_nodes, Cond.code yX8_nodes cX8_nodes 3 (some .int), Cond.methodLink RX8 95 yX8_isHead, Cond.static yX8_isHead, Cond.code yX8_isHead cX8_isHead 2 (some .boolean), Cond.methodLink RX8 91 yX8_nodeOf, Cond.static yX8_nodeOf]
def wsX8_drawn_r4 : List Cond := [Cond.code yX8_nodeOf cX8_nodeOf 2 (some .long), Cond.methodLink RX8 88 yX8_head, Cond.static yX8_head, Cond.code yX8_head cX8_head 5 (some .int)]
def wsX8_drawn : List Cond := .code yX8_drawn cX8_drawn 5 (some .int) :: ((wsX8_drawn_r1 ++ (wsX8_drawn_r2 ++ (wsX8_drawn_r3 ++ wsX8_drawn_r4))) ++ wsX80)
def wsX8_keep_r1 : List Cond := [Cond.fieldLink RX8 47 "ShadeTreeModel" "thrown" "I", Cond.fieldLink RX8 31 "ShadeTreeModel" "isKept" "[Z", Cond.fieldLink RX8 28 "ShadeTreeModel" "kept" "[I", Cond.fieldLink RX8 16 "ShadeTreeModel" "page" "[I", Cond.methodLink RX8 59 yX8_in, Cond.static yX8_in, Cond.initialized RX8, Cond.code yX8_in cX8_in 6 (some .boolean), Cond.methodLink RX8 126 yX8_nodes, Cond.static yX8_nodes, Cond.code yX8_nodes cX8_nodes 3 (some .int), Cond.methodLink RX8 55 yX8_dotsOf, Cond.static yX8_dotsOf, Cond.code yX8_dotsOf cX8_dotsOf 1 (some .int), Cond.methodLink RX8 95 yX8_isHead, Cond.static yX8_isHead, Cond.code yX8_isHead cX8_isHead 2 (some .boolean), Cond.methodLink RX8 91 yX8_nodeOf, Cond.static yX8_nodeOf, Cond.code yX8_nodeOf cX8_nodeOf 2 (some .long), Cond.methodLink RX8 81 yX8_part, Cond.static yX8_part, Cond.code yX8_part cX8_part 3 (some .long), Cond.constantLong RX8 67 (-1)]
def wsX8_keep_r2 : List Cond := [Cond.methodLink RX8 73 yX8_bright, Cond.static yX8_bright, Cond.code yX8_bright cX8_bright 7 (some .long), Cond.methodLink RX8 51 yX8_has, Cond.static yX8_has, Cond.code yX8_has cX8_has 3 (some .boolean), Cond.methodLink RX8 77 yX8_spread, Cond.static yX8_spread, Cond.code yX8_spread cX8_spread 10 (some .long), Cond.methodLink RX8 69 yX8_around, Cond.static yX8_around, Cond.code yX8_around cX8_around 6 (some .long), Cond.methodLink RX8 63 yX8_isBeside, Cond.static yX8_isBeside, Cond.code yX8_isBeside cX8_isBeside 7 (some .boolean), Cond.methodLink RX8 88 yX8_head, Cond.static yX8_head, Cond.code yX8_head cX8_head 5 (some .int), Cond.methodLink RX8 84 yX8_level, Cond.static yX8_level, Cond.code yX8_level cX8_level 5 (some .int)]
def wsX8_keep : List Cond := .code yX8_keep cX8_keep 3 (some .int) :: ((wsX8_keep_r1 ++ wsX8_keep_r2) ++ wsX80)
def wsX8_again_r1 : List Cond := [Cond.fieldLink RX8 47 "ShadeTreeModel" "thrown" "I", Cond.fieldLink RX8 31 "ShadeTreeModel" "isKept" "[Z", Cond.fieldLink RX8 16 "ShadeTreeModel" "page" "[I", Cond.fieldLink RX8 28 "ShadeTreeModel" "kept" "[I", Cond.fieldLink RX8 123 "ShadeTreeModel" "doings" "I", Cond.methodLink RX8 59 yX8_in, Cond.static yX8_in, Cond.initialized RX8, Cond.code yX8_in cX8_in 6 (some .boolean), Cond.methodLink RX8 126 yX8_nodes, Cond.static yX8_nodes, Cond.code yX8_nodes cX8_nodes 3 (some .int), Cond.methodLink RX8 55 yX8_dotsOf, Cond.static yX8_dotsOf, Cond.code yX8_dotsOf cX8_dotsOf 1 (some .int), Cond.methodLink RX8 95 yX8_isHead, Cond.static yX8_isHead, Cond.code yX8_isHead cX8_isHead 2 (some .boolean), Cond.methodLink RX8 91 yX8_nodeOf, Cond.static yX8_nodeOf, Cond.code yX8_nodeOf cX8_nodeOf 2 (some .long), Cond.methodLink RX8 81 yX8_part, Cond.static yX8_part, Cond.code yX8_part cX8_part 3 (some .long)]
def wsX8_again_r2 : List Cond := [Cond.constantLong RX8 67 (-1), Cond.methodLink RX8 73 yX8_bright, Cond.static yX8_bright, Cond.code yX8_bright cX8_bright 7 (some .long), Cond.methodLink RX8 51 yX8_has, Cond.static yX8_has, Cond.code yX8_has cX8_has 3 (some .boolean), Cond.methodLink RX8 77 yX8_spread, Cond.static yX8_spread, Cond.code yX8_spread cX8_spread 10 (some .long), Cond.methodLink RX8 69 yX8_around, Cond.static yX8_around, Cond.code yX8_around cX8_around 6 (some .long), Cond.methodLink RX8 63 yX8_isBeside, Cond.static yX8_isBeside, Cond.code yX8_isBeside cX8_isBeside 7 (some .boolean), Cond.methodLink RX8 88 yX8_head, Cond.static yX8_head, Cond.code yX8_head cX8_head 5 (some .int), Cond.methodLink RX8 84 yX8_level, Cond.static yX8_level, Cond.code yX8_level cX8_level 5 (some .int)]
def wsX8_again : List Cond := .code yX8_again cX8_again 3 (some .int) :: ((wsX8_again_r1 ++ wsX8_again_r2) ++ wsX80)
def wsJ9_abs_0f7a4 : List Cond := .code yJ9_abs_0f7a4 cJ9_abs_0f7a4 1 (some .int) :: ([])
def wsJ9_max_7cf53 : List Cond := .code yJ9_max_7cf53 cJ9_max_7cf53 2 (some .int) :: ([])
theorem dX0_init_0 : decode cX0_init 0 = .ok (.aload_n 0, 1) := by decide +kernel
theorem dX0_init_1 : decode cX0_init 1 = .ok (.invokespecial 3, 3) := by decide +kernel
theorem dX0_init_4 : decode cX0_init 4 = .ok (.aload_n 0, 1) := by decide +kernel
theorem dX0_init_5 : decode cX0_init 5 = .ok (.sipush 140, 3) := by decide +kernel
theorem dX0_init_8 : decode cX0_init 8 = .ok (.newarray .long, 2) := by decide +kernel
theorem dX0_init_10 : decode cX0_init 10 = .ok (.putfield 11, 3) := by decide +kernel
theorem dX0_init_13 : decode cX0_init 13 = .ok (.return_, 1) := by decide +kernel
theorem dX0_size_0 : decode cX0_size 0 = .ok (.aload_n 0, 1) := by decide +kernel
theorem dX0_size_1 : decode cX0_size 1 = .ok (.getfield 15, 3) := by decide +kernel
theorem dX0_size_4 : decode cX0_size 4 = .ok (.ireturn, 1) := by decide +kernel
theorem dX0_clear_0 : decode cX0_clear 0 = .ok (.aload_n 0, 1) := by decide +kernel
theorem dX0_clear_1 : decode cX0_clear 1 = .ok (.iconst 0, 1) := by decide +kernel
theorem dX0_clear_2 : decode cX0_clear 2 = .ok (.putfield 15, 3) := by decide +kernel
theorem dX0_clear_5 : decode cX0_clear 5 = .ok (.return_, 1) := by decide +kernel
set_option maxRecDepth 20000 in
theorem ggX0_add_X2_store : GoodIn wsX0_add wsX2_store := goodIn_r _ [11, 12, 13, 4, 5, 6, 16, 17] (by decide +kernel) (by decide +kernel)
set_option maxRecDepth 20000 in
theorem gX0_add_X2_store : GoodIn wsX0_add (wsV RX0 25 RX2 yX2_store wsX2_store) := goodIn_app (goodIn_of _ (by decide +kernel)) ggX0_add_X2_store
theorem dX0_add_0 : decode cX0_add 0 = .ok (.aload_n 1, 1) := by decide +kernel
theorem dX0_add_1 : decode cX0_add 1 = .ok (.ifnonnull 4, 3) := by decide +kernel
theorem dX0_add_4 : decode cX0_add 4 = .ok (.return_, 1) := by decide +kernel
theorem dX0_add_5 : decode cX0_add 5 = .ok (.aload_n 0, 1) := by decide +kernel
theorem dX0_add_6 : decode cX0_add 6 = .ok (.getfield 15, 3) := by decide +kernel
theorem dX0_add_9 : decode cX0_add 9 = .ok (.bipush 14, 2) := by decide +kernel
theorem dX0_add_11 : decode cX0_add 11 = .ok (.if_icmp .lt 31, 3) := by decide +kernel
theorem dX0_add_14 : decode cX0_add 14 = .ok (.aload_n 0, 1) := by decide +kernel
theorem dX0_add_15 : decode cX0_add 15 = .ok (.getfield 11, 3) := by decide +kernel
theorem dX0_add_18 : decode cX0_add 18 = .ok (.bipush 10, 2) := by decide +kernel
theorem dX0_add_20 : decode cX0_add 20 = .ok (.aload_n 0, 1) := by decide +kernel
theorem dX0_add_21 : decode cX0_add 21 = .ok (.getfield 11, 3) := by decide +kernel
theorem dX0_add_24 : decode cX0_add 24 = .ok (.iconst 0, 1) := by decide +kernel
theorem dX0_add_25 : decode cX0_add 25 = .ok (.aload_n 0, 1) := by decide +kernel
theorem dX0_add_26 : decode cX0_add 26 = .ok (.getfield 11, 3) := by decide +kernel
theorem dX0_add_29 : decode cX0_add 29 = .ok (.arraylength, 1) := by decide +kernel
theorem dX0_add_30 : decode cX0_add 30 = .ok (.bipush 10, 2) := by decide +kernel
theorem dX0_add_32 : decode cX0_add 32 = .ok (.isub, 1) := by decide +kernel
theorem dX0_add_33 : decode cX0_add 33 = .ok (.invokestatic 19, 3) := by decide +kernel
theorem dX0_add_36 : decode cX0_add 36 = .ok (.aload_n 0, 1) := by decide +kernel
theorem dX0_add_37 : decode cX0_add 37 = .ok (.bipush 13, 2) := by decide +kernel
theorem dX0_add_39 : decode cX0_add 39 = .ok (.putfield 15, 3) := by decide +kernel
theorem dX0_add_42 : decode cX0_add 42 = .ok (.aload_n 1, 1) := by decide +kernel
theorem dX0_add_43 : decode cX0_add 43 = .ok (.aload_n 0, 1) := by decide +kernel
theorem dX0_add_44 : decode cX0_add 44 = .ok (.getfield 11, 3) := by decide +kernel
theorem dX0_add_47 : decode cX0_add 47 = .ok (.aload_n 0, 1) := by decide +kernel
theorem dX0_add_48 : decode cX0_add 48 = .ok (.getfield 15, 3) := by decide +kernel
theorem dX0_add_51 : decode cX0_add 51 = .ok (.bipush 10, 2) := by decide +kernel
theorem dX0_add_53 : decode cX0_add 53 = .ok (.imul, 1) := by decide +kernel
theorem dX0_add_54 : decode cX0_add 54 = .ok (.invokevirtual 25, 3) := by decide +kernel
theorem dX0_add_57 : decode cX0_add 57 = .ok (.aload_n 0, 1) := by decide +kernel
theorem dX0_add_58 : decode cX0_add 58 = .ok (.dup, 1) := by decide +kernel
theorem dX0_add_59 : decode cX0_add 59 = .ok (.getfield 15, 3) := by decide +kernel
theorem dX0_add_62 : decode cX0_add 62 = .ok (.iconst 1, 1) := by decide +kernel
theorem dX0_add_63 : decode cX0_add 63 = .ok (.iadd, 1) := by decide +kernel
theorem dX0_add_64 : decode cX0_add 64 = .ok (.putfield 15, 3) := by decide +kernel
theorem dX0_add_67 : decode cX0_add 67 = .ok (.return_, 1) := by decide +kernel
set_option maxRecDepth 20000 in
theorem ggX0_takeBack_X2_load : GoodIn wsX0_takeBack wsX2_load := goodIn_r _ [7, 8, 9, 10, 11, 12, 15, 16] (by decide +kernel) (by decide +kernel)
set_option maxRecDepth 20000 in
theorem gX0_takeBack_X2_load : GoodIn wsX0_takeBack (wsV RX0 31 RX2 yX2_load wsX2_load) := goodIn_app (goodIn_of _ (by decide +kernel)) ggX0_takeBack_X2_load
theorem dX0_takeBack_0 : decode cX0_takeBack 0 = .ok (.aload_n 1, 1) := by decide +kernel
theorem dX0_takeBack_1 : decode cX0_takeBack 1 = .ok (.ifnull 11, 3) := by decide +kernel
theorem dX0_takeBack_4 : decode cX0_takeBack 4 = .ok (.aload_n 0, 1) := by decide +kernel
theorem dX0_takeBack_5 : decode cX0_takeBack 5 = .ok (.getfield 15, 3) := by decide +kernel
theorem dX0_takeBack_8 : decode cX0_takeBack 8 = .ok (.iconst 1, 1) := by decide +kernel
theorem dX0_takeBack_9 : decode cX0_takeBack 9 = .ok (.if_icmp .ge 5, 3) := by decide +kernel
theorem dX0_takeBack_12 : decode cX0_takeBack 12 = .ok (.iconst 0, 1) := by decide +kernel
theorem dX0_takeBack_13 : decode cX0_takeBack 13 = .ok (.ireturn, 1) := by decide +kernel
theorem dX0_takeBack_14 : decode cX0_takeBack 14 = .ok (.aload_n 0, 1) := by decide +kernel
theorem dX0_takeBack_15 : decode cX0_takeBack 15 = .ok (.dup, 1) := by decide +kernel
theorem dX0_takeBack_16 : decode cX0_takeBack 16 = .ok (.getfield 15, 3) := by decide +kernel
theorem dX0_takeBack_19 : decode cX0_takeBack 19 = .ok (.iconst 1, 1) := by decide +kernel
theorem dX0_takeBack_20 : decode cX0_takeBack 20 = .ok (.isub, 1) := by decide +kernel
theorem dX0_takeBack_21 : decode cX0_takeBack 21 = .ok (.putfield 15, 3) := by decide +kernel
theorem dX0_takeBack_24 : decode cX0_takeBack 24 = .ok (.aload_n 1, 1) := by decide +kernel
theorem dX0_takeBack_25 : decode cX0_takeBack 25 = .ok (.aload_n 0, 1) := by decide +kernel
theorem dX0_takeBack_26 : decode cX0_takeBack 26 = .ok (.getfield 11, 3) := by decide +kernel
theorem dX0_takeBack_29 : decode cX0_takeBack 29 = .ok (.aload_n 0, 1) := by decide +kernel
theorem dX0_takeBack_30 : decode cX0_takeBack 30 = .ok (.getfield 15, 3) := by decide +kernel
theorem dX0_takeBack_33 : decode cX0_takeBack 33 = .ok (.bipush 10, 2) := by decide +kernel
theorem dX0_takeBack_35 : decode cX0_takeBack 35 = .ok (.imul, 1) := by decide +kernel
theorem dX0_takeBack_36 : decode cX0_takeBack 36 = .ok (.invokevirtual 31, 3) := by decide +kernel
theorem dX0_takeBack_39 : decode cX0_takeBack 39 = .ok (.iconst 1, 1) := by decide +kernel
theorem dX0_takeBack_40 : decode cX0_takeBack 40 = .ok (.ireturn, 1) := by decide +kernel
set_option maxRecDepth 20000 in
theorem ggX1_init_X1_lay : GoodIn wsX1_init wsX1_lay := goodIn_r _ [8, 9, 10, 11, 12, 13, 14, 15, 16, 17, 18, 19, 20] (by decide +kernel) (by decide +kernel)
set_option maxRecDepth 20000 in
theorem gX1_init_X1_lay : GoodIn wsX1_init (wsV RX1 9 RX1 yX1_lay wsX1_lay) := goodIn_app (goodIn_of _ (by decide +kernel)) ggX1_init_X1_lay
theorem dX1_init_0 : decode cX1_init 0 = .ok (.aload_n 0, 1) := by decide +kernel
theorem dX1_init_1 : decode cX1_init 1 = .ok (.invokespecial 3, 3) := by decide +kernel
theorem dX1_init_4 : decode cX1_init 4 = .ok (.aload_n 0, 1) := by decide +kernel
theorem dX1_init_5 : decode cX1_init 5 = .ok (.iconst 4, 1) := by decide +kernel
theorem dX1_init_6 : decode cX1_init 6 = .ok (.iconst 1, 1) := by decide +kernel
theorem dX1_init_7 : decode cX1_init 7 = .ok (.iconst 1, 1) := by decide +kernel
theorem dX1_init_8 : decode cX1_init 8 = .ok (.invokevirtual 9, 3) := by decide +kernel
theorem dX1_init_11 : decode cX1_init 11 = .ok (.return_, 1) := by decide +kernel
theorem dX1_lay_0 : decode cX1_lay 0 = .ok (.aload_n 0, 1) := by decide +kernel
theorem dX1_lay_1 : decode cX1_lay 1 = .ok (.iload_n 1, 1) := by decide +kernel
theorem dX1_lay_2 : decode cX1_lay 2 = .ok (.putfield 15, 3) := by decide +kernel
theorem dX1_lay_5 : decode cX1_lay 5 = .ok (.aload_n 0, 1) := by decide +kernel
theorem dX1_lay_6 : decode cX1_lay 6 = .ok (.iload_n 2, 1) := by decide +kernel
theorem dX1_lay_7 : decode cX1_lay 7 = .ok (.putfield 19, 3) := by decide +kernel
theorem dX1_lay_10 : decode cX1_lay 10 = .ok (.aload_n 0, 1) := by decide +kernel
theorem dX1_lay_11 : decode cX1_lay 11 = .ok (.iload_n 3, 1) := by decide +kernel
theorem dX1_lay_12 : decode cX1_lay 12 = .ok (.putfield 22, 3) := by decide +kernel
theorem dX1_lay_15 : decode cX1_lay 15 = .ok (.aload_n 0, 1) := by decide +kernel
theorem dX1_lay_16 : decode cX1_lay 16 = .ok (.lconst 1, 1) := by decide +kernel
theorem dX1_lay_17 : decode cX1_lay 17 = .ok (.aload_n 0, 1) := by decide +kernel
theorem dX1_lay_18 : decode cX1_lay 18 = .ok (.getfield 19, 3) := by decide +kernel
theorem dX1_lay_21 : decode cX1_lay 21 = .ok (.aload_n 0, 1) := by decide +kernel
theorem dX1_lay_22 : decode cX1_lay 22 = .ok (.getfield 22, 3) := by decide +kernel
theorem dX1_lay_25 : decode cX1_lay 25 = .ok (.imul, 1) := by decide +kernel
theorem dX1_lay_26 : decode cX1_lay 26 = .ok (.lshl, 1) := by decide +kernel
theorem dX1_lay_27 : decode cX1_lay 27 = .ok (.lconst 1, 1) := by decide +kernel
theorem dX1_lay_28 : decode cX1_lay 28 = .ok (.lsub, 1) := by decide +kernel
theorem dX1_lay_29 : decode cX1_lay 29 = .ok (.putfield 25, 3) := by decide +kernel
theorem dX1_lay_32 : decode cX1_lay 32 = .ok (.aload_n 0, 1) := by decide +kernel
theorem dX1_lay_33 : decode cX1_lay 33 = .ok (.lconst 0, 1) := by decide +kernel
theorem dX1_lay_34 : decode cX1_lay 34 = .ok (.putfield 29, 3) := by decide +kernel
theorem dX1_lay_37 : decode cX1_lay 37 = .ok (.iconst 0, 1) := by decide +kernel
theorem dX1_lay_38 : decode cX1_lay 38 = .ok (.istore 4, 2) := by decide +kernel
theorem dX1_lay_40 : decode cX1_lay 40 = .ok (.iload 4, 2) := by decide +kernel
theorem dX1_lay_42 : decode cX1_lay 42 = .ok (.aload_n 0, 1) := by decide +kernel
theorem dX1_lay_43 : decode cX1_lay 43 = .ok (.getfield 22, 3) := by decide +kernel
theorem dX1_lay_46 : decode cX1_lay 46 = .ok (.if_icmp .ge 27, 3) := by decide +kernel
theorem dX1_lay_49 : decode cX1_lay 49 = .ok (.aload_n 0, 1) := by decide +kernel
theorem dX1_lay_50 : decode cX1_lay 50 = .ok (.dup, 1) := by decide +kernel
theorem dX1_lay_51 : decode cX1_lay 51 = .ok (.getfield 29, 3) := by decide +kernel
theorem dX1_lay_54 : decode cX1_lay 54 = .ok (.lconst 1, 1) := by decide +kernel
theorem dX1_lay_55 : decode cX1_lay 55 = .ok (.iload 4, 2) := by decide +kernel
theorem dX1_lay_57 : decode cX1_lay 57 = .ok (.aload_n 0, 1) := by decide +kernel
theorem dX1_lay_58 : decode cX1_lay 58 = .ok (.getfield 19, 3) := by decide +kernel
theorem dX1_lay_61 : decode cX1_lay 61 = .ok (.imul, 1) := by decide +kernel
theorem dX1_lay_62 : decode cX1_lay 62 = .ok (.lshl, 1) := by decide +kernel
theorem dX1_lay_63 : decode cX1_lay 63 = .ok (.lor, 1) := by decide +kernel
theorem dX1_lay_64 : decode cX1_lay 64 = .ok (.putfield 29, 3) := by decide +kernel
theorem dX1_lay_67 : decode cX1_lay 67 = .ok (.iinc 4 1, 3) := by decide +kernel
theorem dX1_lay_70 : decode cX1_lay 70 = .ok (.goto (-30), 3) := by decide +kernel
theorem dX1_lay_73 : decode cX1_lay 73 = .ok (.aload_n 0, 1) := by decide +kernel
theorem dX1_lay_74 : decode cX1_lay 74 = .ok (.aload_n 0, 1) := by decide +kernel
theorem dX1_lay_75 : decode cX1_lay 75 = .ok (.getfield 29, 3) := by decide +kernel
theorem dX1_lay_78 : decode cX1_lay 78 = .ok (.aload_n 0, 1) := by decide +kernel
theorem dX1_lay_79 : decode cX1_lay 79 = .ok (.getfield 19, 3) := by decide +kernel
theorem dX1_lay_82 : decode cX1_lay 82 = .ok (.iconst 1, 1) := by decide +kernel
theorem dX1_lay_83 : decode cX1_lay 83 = .ok (.isub, 1) := by decide +kernel
theorem dX1_lay_84 : decode cX1_lay 84 = .ok (.lshl, 1) := by decide +kernel
theorem dX1_lay_85 : decode cX1_lay 85 = .ok (.putfield 32, 3) := by decide +kernel
theorem dX1_lay_88 : decode cX1_lay 88 = .ok (.return_, 1) := by decide +kernel
theorem dX1_way_0 : decode cX1_way 0 = .ok (.aload_n 0, 1) := by decide +kernel
theorem dX1_way_1 : decode cX1_way 1 = .ok (.getfield 15, 3) := by decide +kernel
theorem dX1_way_4 : decode cX1_way 4 = .ok (.ireturn, 1) := by decide +kernel
theorem dX1_wide_0 : decode cX1_wide 0 = .ok (.aload_n 0, 1) := by decide +kernel
theorem dX1_wide_1 : decode cX1_wide 1 = .ok (.getfield 19, 3) := by decide +kernel
theorem dX1_wide_4 : decode cX1_wide 4 = .ok (.ireturn, 1) := by decide +kernel
theorem dX1_high_0 : decode cX1_high 0 = .ok (.aload_n 0, 1) := by decide +kernel
theorem dX1_high_1 : decode cX1_high 1 = .ok (.getfield 22, 3) := by decide +kernel
theorem dX1_high_4 : decode cX1_high 4 = .ok (.ireturn, 1) := by decide +kernel
theorem dX1_size_0 : decode cX1_size 0 = .ok (.aload_n 0, 1) := by decide +kernel
theorem dX1_size_1 : decode cX1_size 1 = .ok (.getfield 19, 3) := by decide +kernel
theorem dX1_size_4 : decode cX1_size 4 = .ok (.aload_n 0, 1) := by decide +kernel
theorem dX1_size_5 : decode cX1_size 5 = .ok (.getfield 22, 3) := by decide +kernel
theorem dX1_size_8 : decode cX1_size 8 = .ok (.imul, 1) := by decide +kernel
theorem dX1_size_9 : decode cX1_size 9 = .ok (.ireturn, 1) := by decide +kernel
theorem dX1_all_0 : decode cX1_all 0 = .ok (.aload_n 0, 1) := by decide +kernel
theorem dX1_all_1 : decode cX1_all 1 = .ok (.getfield 25, 3) := by decide +kernel
theorem dX1_all_4 : decode cX1_all 4 = .ok (.lreturn, 1) := by decide +kernel
set_option maxRecDepth 20000 in
theorem ggX1_hasDot_X1_size : GoodIn wsX1_hasDot wsX1_size := goodIn_r _ [5, 6, 7, 8, 9, 10, 11, 12, 13] (by decide +kernel) (by decide +kernel)
set_option maxRecDepth 20000 in
theorem gX1_hasDot_X1_size : GoodIn wsX1_hasDot (wsV RX1 35 RX1 yX1_size wsX1_size) := goodIn_app (goodIn_of _ (by decide +kernel)) ggX1_hasDot_X1_size
theorem dX1_hasDot_0 : decode cX1_hasDot 0 = .ok (.iload_n 1, 1) := by decide +kernel
theorem dX1_hasDot_1 : decode cX1_hasDot 1 = .ok (.ifCond .lt 15, 3) := by decide +kernel
theorem dX1_hasDot_4 : decode cX1_hasDot 4 = .ok (.iload_n 1, 1) := by decide +kernel
theorem dX1_hasDot_5 : decode cX1_hasDot 5 = .ok (.aload_n 0, 1) := by decide +kernel
theorem dX1_hasDot_6 : decode cX1_hasDot 6 = .ok (.invokevirtual 35, 3) := by decide +kernel
theorem dX1_hasDot_9 : decode cX1_hasDot 9 = .ok (.if_icmp .ge 7, 3) := by decide +kernel
theorem dX1_hasDot_12 : decode cX1_hasDot 12 = .ok (.iconst 1, 1) := by decide +kernel
theorem dX1_hasDot_13 : decode cX1_hasDot 13 = .ok (.goto 4, 3) := by decide +kernel
theorem dX1_hasDot_16 : decode cX1_hasDot 16 = .ok (.iconst 0, 1) := by decide +kernel
theorem dX1_hasDot_17 : decode cX1_hasDot 17 = .ok (.ireturn, 1) := by decide +kernel
theorem dX1_hasRow_0 : decode cX1_hasRow 0 = .ok (.iload_n 1, 1) := by decide +kernel
theorem dX1_hasRow_1 : decode cX1_hasRow 1 = .ok (.ifCond .lt 15, 3) := by decide +kernel
theorem dX1_hasRow_4 : decode cX1_hasRow 4 = .ok (.iload_n 1, 1) := by decide +kernel
theorem dX1_hasRow_5 : decode cX1_hasRow 5 = .ok (.aload_n 0, 1) := by decide +kernel
theorem dX1_hasRow_6 : decode cX1_hasRow 6 = .ok (.getfield 22, 3) := by decide +kernel
theorem dX1_hasRow_9 : decode cX1_hasRow 9 = .ok (.if_icmp .ge 7, 3) := by decide +kernel
theorem dX1_hasRow_12 : decode cX1_hasRow 12 = .ok (.iconst 1, 1) := by decide +kernel
theorem dX1_hasRow_13 : decode cX1_hasRow 13 = .ok (.goto 4, 3) := by decide +kernel
theorem dX1_hasRow_16 : decode cX1_hasRow 16 = .ok (.iconst 0, 1) := by decide +kernel
theorem dX1_hasRow_17 : decode cX1_hasRow 17 = .ok (.ireturn, 1) := by decide +kernel
theorem dX1_row_0 : decode cX1_row 0 = .ok (.lconst 1, 1) := by decide +kernel
theorem dX1_row_1 : decode cX1_row 1 = .ok (.aload_n 0, 1) := by decide +kernel
theorem dX1_row_2 : decode cX1_row 2 = .ok (.getfield 19, 3) := by decide +kernel
theorem dX1_row_5 : decode cX1_row 5 = .ok (.lshl, 1) := by decide +kernel
theorem dX1_row_6 : decode cX1_row 6 = .ok (.lconst 1, 1) := by decide +kernel
theorem dX1_row_7 : decode cX1_row 7 = .ok (.lsub, 1) := by decide +kernel
theorem dX1_row_8 : decode cX1_row 8 = .ok (.iload_n 1, 1) := by decide +kernel
theorem dX1_row_9 : decode cX1_row 9 = .ok (.aload_n 0, 1) := by decide +kernel
theorem dX1_row_10 : decode cX1_row 10 = .ok (.getfield 19, 3) := by decide +kernel
theorem dX1_row_13 : decode cX1_row 13 = .ok (.imul, 1) := by decide +kernel
theorem dX1_row_14 : decode cX1_row 14 = .ok (.lshl, 1) := by decide +kernel
theorem dX1_row_15 : decode cX1_row 15 = .ok (.lreturn, 1) := by decide +kernel
set_option maxRecDepth 20000 in
theorem ggX1_rows_X1_row : GoodIn wsX1_rows wsX1_row := goodIn_r _ [6, 7, 8, 9, 10, 11, 12, 13] (by decide +kernel) (by decide +kernel)
set_option maxRecDepth 20000 in
theorem gX1_rows_X1_row : GoodIn wsX1_rows (wsV RX1 39 RX1 yX1_row wsX1_row) := goodIn_app (goodIn_of _ (by decide +kernel)) ggX1_rows_X1_row
theorem dX1_rows_0 : decode cX1_rows 0 = .ok (.lconst 0, 1) := by decide +kernel
theorem dX1_rows_1 : decode cX1_rows 1 = .ok (.lstore_n 2, 1) := by decide +kernel
theorem dX1_rows_2 : decode cX1_rows 2 = .ok (.iconst 0, 1) := by decide +kernel
theorem dX1_rows_3 : decode cX1_rows 3 = .ok (.istore 4, 2) := by decide +kernel
theorem dX1_rows_5 : decode cX1_rows 5 = .ok (.iload 4, 2) := by decide +kernel
theorem dX1_rows_7 : decode cX1_rows 7 = .ok (.aload_n 0, 1) := by decide +kernel
theorem dX1_rows_8 : decode cX1_rows 8 = .ok (.getfield 22, 3) := by decide +kernel
theorem dX1_rows_11 : decode cX1_rows 11 = .ok (.if_icmp .ge 27, 3) := by decide +kernel
theorem dX1_rows_14 : decode cX1_rows 14 = .ok (.iload_n 1, 1) := by decide +kernel
theorem dX1_rows_15 : decode cX1_rows 15 = .ok (.iload 4, 2) := by decide +kernel
theorem dX1_rows_17 : decode cX1_rows 17 = .ok (.ishr, 1) := by decide +kernel
theorem dX1_rows_18 : decode cX1_rows 18 = .ok (.iconst 1, 1) := by decide +kernel
theorem dX1_rows_19 : decode cX1_rows 19 = .ok (.iand, 1) := by decide +kernel
theorem dX1_rows_20 : decode cX1_rows 20 = .ok (.ifCond .eq 12, 3) := by decide +kernel
theorem dX1_rows_23 : decode cX1_rows 23 = .ok (.lload_n 2, 1) := by decide +kernel
theorem dX1_rows_24 : decode cX1_rows 24 = .ok (.aload_n 0, 1) := by decide +kernel
theorem dX1_rows_25 : decode cX1_rows 25 = .ok (.iload 4, 2) := by decide +kernel
theorem dX1_rows_27 : decode cX1_rows 27 = .ok (.invokevirtual 39, 3) := by decide +kernel
theorem dX1_rows_30 : decode cX1_rows 30 = .ok (.lor, 1) := by decide +kernel
theorem dX1_rows_31 : decode cX1_rows 31 = .ok (.lstore_n 2, 1) := by decide +kernel
theorem dX1_rows_32 : decode cX1_rows 32 = .ok (.iinc 4 1, 3) := by decide +kernel
theorem dX1_rows_35 : decode cX1_rows 35 = .ok (.goto (-30), 3) := by decide +kernel
theorem dX1_rows_38 : decode cX1_rows 38 = .ok (.lload_n 2, 1) := by decide +kernel
theorem dX1_rows_39 : decode cX1_rows 39 = .ok (.lreturn, 1) := by decide +kernel
theorem dX1_columnsOf_0 : decode cX1_columnsOf 0 = .ok (.iconst 0, 1) := by decide +kernel
theorem dX1_columnsOf_1 : decode cX1_columnsOf 1 = .ok (.istore_n 3, 1) := by decide +kernel
theorem dX1_columnsOf_2 : decode cX1_columnsOf 2 = .ok (.iconst 0, 1) := by decide +kernel
theorem dX1_columnsOf_3 : decode cX1_columnsOf 3 = .ok (.istore 4, 2) := by decide +kernel
theorem dX1_columnsOf_5 : decode cX1_columnsOf 5 = .ok (.iload 4, 2) := by decide +kernel
theorem dX1_columnsOf_7 : decode cX1_columnsOf 7 = .ok (.aload_n 0, 1) := by decide +kernel
theorem dX1_columnsOf_8 : decode cX1_columnsOf 8 = .ok (.getfield 19, 3) := by decide +kernel
theorem dX1_columnsOf_11 : decode cX1_columnsOf 11 = .ok (.if_icmp .ge 26, 3) := by decide +kernel
theorem dX1_columnsOf_14 : decode cX1_columnsOf 14 = .ok (.lload_n 1, 1) := by decide +kernel
theorem dX1_columnsOf_15 : decode cX1_columnsOf 15 = .ok (.aload_n 0, 1) := by decide +kernel
theorem dX1_columnsOf_16 : decode cX1_columnsOf 16 = .ok (.getfield 29, 3) := by decide +kernel
theorem dX1_columnsOf_19 : decode cX1_columnsOf 19 = .ok (.iload 4, 2) := by decide +kernel
theorem dX1_columnsOf_21 : decode cX1_columnsOf 21 = .ok (.lshl, 1) := by decide +kernel
theorem dX1_columnsOf_22 : decode cX1_columnsOf 22 = .ok (.land, 1) := by decide +kernel
theorem dX1_columnsOf_23 : decode cX1_columnsOf 23 = .ok (.lconst 0, 1) := by decide +kernel
theorem dX1_columnsOf_24 : decode cX1_columnsOf 24 = .ok (.lcmp, 1) := by decide +kernel
theorem dX1_columnsOf_25 : decode cX1_columnsOf 25 = .ok (.ifCond .eq 6, 3) := by decide +kernel
theorem dX1_columnsOf_28 : decode cX1_columnsOf 28 = .ok (.iinc 3 1, 3) := by decide +kernel
theorem dX1_columnsOf_31 : decode cX1_columnsOf 31 = .ok (.iinc 4 1, 3) := by decide +kernel
theorem dX1_columnsOf_34 : decode cX1_columnsOf 34 = .ok (.goto (-29), 3) := by decide +kernel
theorem dX1_columnsOf_37 : decode cX1_columnsOf 37 = .ok (.iload_n 3, 1) := by decide +kernel
theorem dX1_columnsOf_38 : decode cX1_columnsOf 38 = .ok (.ireturn, 1) := by decide +kernel
set_option maxRecDepth 20000 in
theorem ggX1_rowsOf_X1_row : GoodIn wsX1_rowsOf wsX1_row := goodIn_r _ [6, 7, 8, 9, 10, 11, 12, 13] (by decide +kernel) (by decide +kernel)
set_option maxRecDepth 20000 in
theorem gX1_rowsOf_X1_row : GoodIn wsX1_rowsOf (wsV RX1 39 RX1 yX1_row wsX1_row) := goodIn_app (goodIn_of _ (by decide +kernel)) ggX1_rowsOf_X1_row
theorem dX1_rowsOf_0 : decode cX1_rowsOf 0 = .ok (.iconst 0, 1) := by decide +kernel
theorem dX1_rowsOf_1 : decode cX1_rowsOf 1 = .ok (.istore_n 3, 1) := by decide +kernel
theorem dX1_rowsOf_2 : decode cX1_rowsOf 2 = .ok (.iconst 0, 1) := by decide +kernel
theorem dX1_rowsOf_3 : decode cX1_rowsOf 3 = .ok (.istore 4, 2) := by decide +kernel
theorem dX1_rowsOf_5 : decode cX1_rowsOf 5 = .ok (.iload 4, 2) := by decide +kernel
theorem dX1_rowsOf_7 : decode cX1_rowsOf 7 = .ok (.aload_n 0, 1) := by decide +kernel
theorem dX1_rowsOf_8 : decode cX1_rowsOf 8 = .ok (.getfield 22, 3) := by decide +kernel
theorem dX1_rowsOf_11 : decode cX1_rowsOf 11 = .ok (.if_icmp .ge 25, 3) := by decide +kernel
theorem dX1_rowsOf_14 : decode cX1_rowsOf 14 = .ok (.lload_n 1, 1) := by decide +kernel
theorem dX1_rowsOf_15 : decode cX1_rowsOf 15 = .ok (.aload_n 0, 1) := by decide +kernel
theorem dX1_rowsOf_16 : decode cX1_rowsOf 16 = .ok (.iload 4, 2) := by decide +kernel
theorem dX1_rowsOf_18 : decode cX1_rowsOf 18 = .ok (.invokevirtual 39, 3) := by decide +kernel
theorem dX1_rowsOf_21 : decode cX1_rowsOf 21 = .ok (.land, 1) := by decide +kernel
theorem dX1_rowsOf_22 : decode cX1_rowsOf 22 = .ok (.lconst 0, 1) := by decide +kernel
theorem dX1_rowsOf_23 : decode cX1_rowsOf 23 = .ok (.lcmp, 1) := by decide +kernel
theorem dX1_rowsOf_24 : decode cX1_rowsOf 24 = .ok (.ifCond .eq 6, 3) := by decide +kernel
theorem dX1_rowsOf_27 : decode cX1_rowsOf 27 = .ok (.iinc 3 1, 3) := by decide +kernel
theorem dX1_rowsOf_30 : decode cX1_rowsOf 30 = .ok (.iinc 4 1, 3) := by decide +kernel
theorem dX1_rowsOf_33 : decode cX1_rowsOf 33 = .ok (.goto (-28), 3) := by decide +kernel
theorem dX1_rowsOf_36 : decode cX1_rowsOf 36 = .ok (.iload_n 3, 1) := by decide +kernel
theorem dX1_rowsOf_37 : decode cX1_rowsOf 37 = .ok (.ireturn, 1) := by decide +kernel
set_option maxRecDepth 20000 in
theorem ggX1_partAround_X1_spread : GoodIn wsX1_partAround wsX1_spread := goodIn_r _ [5, 6, 7, 8, 9, 10, 11, 12, 13, 14, 15] (by decide +kernel) (by decide +kernel)
set_option maxRecDepth 20000 in
theorem gX1_partAround_X1_spread : GoodIn wsX1_partAround (wsV RX1 43 RX1 yX1_spread wsX1_spread) := goodIn_app (goodIn_of _ (by decide +kernel)) ggX1_partAround_X1_spread
theorem dX1_partAround_0 : decode cX1_partAround 0 = .ok (.lload_n 3, 1) := by decide +kernel
theorem dX1_partAround_1 : decode cX1_partAround 1 = .ok (.lload_n 1, 1) := by decide +kernel
theorem dX1_partAround_2 : decode cX1_partAround 2 = .ok (.land, 1) := by decide +kernel
theorem dX1_partAround_3 : decode cX1_partAround 3 = .ok (.lstore 6, 2) := by decide +kernel
theorem dX1_partAround_5 : decode cX1_partAround 5 = .ok (.iconst 0, 1) := by decide +kernel
theorem dX1_partAround_6 : decode cX1_partAround 6 = .ok (.istore 8, 2) := by decide +kernel
theorem dX1_partAround_8 : decode cX1_partAround 8 = .ok (.iload 8, 2) := by decide +kernel
theorem dX1_partAround_10 : decode cX1_partAround 10 = .ok (.bipush 36, 2) := by decide +kernel
theorem dX1_partAround_12 : decode cX1_partAround 12 = .ok (.if_icmp .ge 36, 3) := by decide +kernel
theorem dX1_partAround_15 : decode cX1_partAround 15 = .ok (.aload_n 0, 1) := by decide +kernel
theorem dX1_partAround_16 : decode cX1_partAround 16 = .ok (.lload 6, 2) := by decide +kernel
theorem dX1_partAround_18 : decode cX1_partAround 18 = .ok (.iload 5, 2) := by decide +kernel
theorem dX1_partAround_20 : decode cX1_partAround 20 = .ok (.invokevirtual 43, 3) := by decide +kernel
theorem dX1_partAround_23 : decode cX1_partAround 23 = .ok (.lload_n 1, 1) := by decide +kernel
theorem dX1_partAround_24 : decode cX1_partAround 24 = .ok (.land, 1) := by decide +kernel
theorem dX1_partAround_25 : decode cX1_partAround 25 = .ok (.lstore 9, 2) := by decide +kernel
theorem dX1_partAround_27 : decode cX1_partAround 27 = .ok (.lload 9, 2) := by decide +kernel
theorem dX1_partAround_29 : decode cX1_partAround 29 = .ok (.lload 6, 2) := by decide +kernel
theorem dX1_partAround_31 : decode cX1_partAround 31 = .ok (.lcmp, 1) := by decide +kernel
theorem dX1_partAround_32 : decode cX1_partAround 32 = .ok (.ifCond .ne 6, 3) := by decide +kernel
theorem dX1_partAround_35 : decode cX1_partAround 35 = .ok (.goto 13, 3) := by decide +kernel
theorem dX1_partAround_38 : decode cX1_partAround 38 = .ok (.lload 9, 2) := by decide +kernel
theorem dX1_partAround_40 : decode cX1_partAround 40 = .ok (.lstore 6, 2) := by decide +kernel
theorem dX1_partAround_42 : decode cX1_partAround 42 = .ok (.iinc 8 1, 3) := by decide +kernel
theorem dX1_partAround_45 : decode cX1_partAround 45 = .ok (.goto (-37), 3) := by decide +kernel
theorem dX1_partAround_48 : decode cX1_partAround 48 = .ok (.lload 6, 2) := by decide +kernel
theorem dX1_partAround_50 : decode cX1_partAround 50 = .ok (.lreturn, 1) := by decide +kernel
theorem dX1_spread_0 : decode cX1_spread 0 = .ok (.lload_n 1, 1) := by decide +kernel
theorem dX1_spread_1 : decode cX1_spread 1 = .ok (.lload_n 1, 1) := by decide +kernel
theorem dX1_spread_2 : decode cX1_spread 2 = .ok (.aload_n 0, 1) := by decide +kernel
theorem dX1_spread_3 : decode cX1_spread 3 = .ok (.getfield 32, 3) := by decide +kernel
theorem dX1_spread_6 : decode cX1_spread 6 = .ok (.ldc2_w 47, 3) := by decide +kernel
theorem dX1_spread_9 : decode cX1_spread 9 = .ok (.lxor, 1) := by decide +kernel
theorem dX1_spread_10 : decode cX1_spread 10 = .ok (.land, 1) := by decide +kernel
theorem dX1_spread_11 : decode cX1_spread 11 = .ok (.iconst 1, 1) := by decide +kernel
theorem dX1_spread_12 : decode cX1_spread 12 = .ok (.lshl, 1) := by decide +kernel
theorem dX1_spread_13 : decode cX1_spread 13 = .ok (.lor, 1) := by decide +kernel
theorem dX1_spread_14 : decode cX1_spread 14 = .ok (.lload_n 1, 1) := by decide +kernel
theorem dX1_spread_15 : decode cX1_spread 15 = .ok (.aload_n 0, 1) := by decide +kernel
theorem dX1_spread_16 : decode cX1_spread 16 = .ok (.getfield 29, 3) := by decide +kernel
theorem dX1_spread_19 : decode cX1_spread 19 = .ok (.ldc2_w 47, 3) := by decide +kernel
theorem dX1_spread_22 : decode cX1_spread 22 = .ok (.lxor, 1) := by decide +kernel
theorem dX1_spread_23 : decode cX1_spread 23 = .ok (.land, 1) := by decide +kernel
theorem dX1_spread_24 : decode cX1_spread 24 = .ok (.iconst 1, 1) := by decide +kernel
theorem dX1_spread_25 : decode cX1_spread 25 = .ok (.lushr, 1) := by decide +kernel
theorem dX1_spread_26 : decode cX1_spread 26 = .ok (.lor, 1) := by decide +kernel
theorem dX1_spread_27 : decode cX1_spread 27 = .ok (.lstore 4, 2) := by decide +kernel
theorem dX1_spread_29 : decode cX1_spread 29 = .ok (.iload_n 3, 1) := by decide +kernel
theorem dX1_spread_30 : decode cX1_spread 30 = .ok (.bipush 8, 2) := by decide +kernel
theorem dX1_spread_32 : decode cX1_spread 32 = .ok (.if_icmp .ne 8, 3) := by decide +kernel
theorem dX1_spread_35 : decode cX1_spread 35 = .ok (.lload 4, 2) := by decide +kernel
theorem dX1_spread_37 : decode cX1_spread 37 = .ok (.goto 4, 3) := by decide +kernel
theorem dX1_spread_40 : decode cX1_spread 40 = .ok (.lload_n 1, 1) := by decide +kernel
theorem dX1_spread_41 : decode cX1_spread 41 = .ok (.lstore 6, 2) := by decide +kernel
theorem dX1_spread_43 : decode cX1_spread 43 = .ok (.lload 4, 2) := by decide +kernel
theorem dX1_spread_45 : decode cX1_spread 45 = .ok (.lload 6, 2) := by decide +kernel
theorem dX1_spread_47 : decode cX1_spread 47 = .ok (.aload_n 0, 1) := by decide +kernel
theorem dX1_spread_48 : decode cX1_spread 48 = .ok (.getfield 19, 3) := by decide +kernel
theorem dX1_spread_51 : decode cX1_spread 51 = .ok (.lshl, 1) := by decide +kernel
theorem dX1_spread_52 : decode cX1_spread 52 = .ok (.lor, 1) := by decide +kernel
theorem dX1_spread_53 : decode cX1_spread 53 = .ok (.lload 6, 2) := by decide +kernel
theorem dX1_spread_55 : decode cX1_spread 55 = .ok (.aload_n 0, 1) := by decide +kernel
theorem dX1_spread_56 : decode cX1_spread 56 = .ok (.getfield 19, 3) := by decide +kernel
theorem dX1_spread_59 : decode cX1_spread 59 = .ok (.lushr, 1) := by decide +kernel
theorem dX1_spread_60 : decode cX1_spread 60 = .ok (.lor, 1) := by decide +kernel
theorem dX1_spread_61 : decode cX1_spread 61 = .ok (.lreturn, 1) := by decide +kernel
set_option maxRecDepth 20000 in
theorem ggX1_joined_X1_hasDot : GoodIn wsX1_joined wsX1_hasDot := goodIn_r _ [5, 6, 7, 8, 4, 9, 10, 11, 23, 24, 25, 26, 27, 28] (by decide +kernel) (by decide +kernel)
set_option maxRecDepth 20000 in
theorem gX1_joined_X1_hasDot : GoodIn wsX1_joined (wsV RX1 49 RX1 yX1_hasDot wsX1_hasDot) := goodIn_app (goodIn_of _ (by decide +kernel)) ggX1_joined_X1_hasDot
set_option maxRecDepth 20000 in
theorem ggX1_joined_X1_partAround : GoodIn wsX1_joined wsX1_partAround := goodIn_r _ [15, 16, 17, 18, 4, 19, 20, 21, 22, 10, 23, 24, 25, 26, 27, 28] (by decide +kernel) (by decide +kernel)
set_option maxRecDepth 20000 in
theorem gX1_joined_X1_partAround : GoodIn wsX1_joined (wsV RX1 53 RX1 yX1_partAround wsX1_partAround) := goodIn_app (goodIn_of _ (by decide +kernel)) ggX1_joined_X1_partAround
theorem dX1_joined_0 : decode cX1_joined 0 = .ok (.aload_n 0, 1) := by decide +kernel
theorem dX1_joined_1 : decode cX1_joined 1 = .ok (.iload_n 3, 1) := by decide +kernel
theorem dX1_joined_2 : decode cX1_joined 2 = .ok (.invokevirtual 49, 3) := by decide +kernel
theorem dX1_joined_5 : decode cX1_joined 5 = .ok (.ifCond .eq 12, 3) := by decide +kernel
theorem dX1_joined_8 : decode cX1_joined 8 = .ok (.aload_n 0, 1) := by decide +kernel
theorem dX1_joined_9 : decode cX1_joined 9 = .ok (.iload 4, 2) := by decide +kernel
theorem dX1_joined_11 : decode cX1_joined 11 = .ok (.invokevirtual 49, 3) := by decide +kernel
theorem dX1_joined_14 : decode cX1_joined 14 = .ok (.ifCond .ne 5, 3) := by decide +kernel
theorem dX1_joined_17 : decode cX1_joined 17 = .ok (.iconst 0, 1) := by decide +kernel
theorem dX1_joined_18 : decode cX1_joined 18 = .ok (.ireturn, 1) := by decide +kernel
theorem dX1_joined_19 : decode cX1_joined 19 = .ok (.aload_n 0, 1) := by decide +kernel
theorem dX1_joined_20 : decode cX1_joined 20 = .ok (.lload_n 1, 1) := by decide +kernel
theorem dX1_joined_21 : decode cX1_joined 21 = .ok (.lconst 1, 1) := by decide +kernel
theorem dX1_joined_22 : decode cX1_joined 22 = .ok (.iload_n 3, 1) := by decide +kernel
theorem dX1_joined_23 : decode cX1_joined 23 = .ok (.lshl, 1) := by decide +kernel
theorem dX1_joined_24 : decode cX1_joined 24 = .ok (.iload 5, 2) := by decide +kernel
theorem dX1_joined_26 : decode cX1_joined 26 = .ok (.invokevirtual 53, 3) := by decide +kernel
theorem dX1_joined_29 : decode cX1_joined 29 = .ok (.lconst 1, 1) := by decide +kernel
theorem dX1_joined_30 : decode cX1_joined 30 = .ok (.iload 4, 2) := by decide +kernel
theorem dX1_joined_32 : decode cX1_joined 32 = .ok (.lshl, 1) := by decide +kernel
theorem dX1_joined_33 : decode cX1_joined 33 = .ok (.land, 1) := by decide +kernel
theorem dX1_joined_34 : decode cX1_joined 34 = .ok (.lconst 0, 1) := by decide +kernel
theorem dX1_joined_35 : decode cX1_joined 35 = .ok (.lcmp, 1) := by decide +kernel
theorem dX1_joined_36 : decode cX1_joined 36 = .ok (.ifCond .eq 7, 3) := by decide +kernel
theorem dX1_joined_39 : decode cX1_joined 39 = .ok (.iconst 1, 1) := by decide +kernel
theorem dX1_joined_40 : decode cX1_joined 40 = .ok (.goto 4, 3) := by decide +kernel
theorem dX1_joined_43 : decode cX1_joined 43 = .ok (.iconst 0, 1) := by decide +kernel
theorem dX1_joined_44 : decode cX1_joined 44 = .ok (.ireturn, 1) := by decide +kernel
set_option maxRecDepth 20000 in
theorem ggX1_countParts_X1_partAround : GoodIn wsX1_countParts wsX1_partAround := goodIn_r _ [6, 7, 8, 9, 5, 10, 11, 1, 12, 13, 14, 15, 16, 17, 18, 19] (by decide +kernel) (by decide +kernel)
set_option maxRecDepth 20000 in
theorem gX1_countParts_X1_partAround : GoodIn wsX1_countParts (wsV RX1 53 RX1 yX1_partAround wsX1_partAround) := goodIn_app (goodIn_of _ (by decide +kernel)) ggX1_countParts_X1_partAround
theorem dX1_countParts_0 : decode cX1_countParts 0 = .ok (.lload_n 1, 1) := by decide +kernel
theorem dX1_countParts_1 : decode cX1_countParts 1 = .ok (.lstore 4, 2) := by decide +kernel
theorem dX1_countParts_3 : decode cX1_countParts 3 = .ok (.iconst 0, 1) := by decide +kernel
theorem dX1_countParts_4 : decode cX1_countParts 4 = .ok (.istore 6, 2) := by decide +kernel
theorem dX1_countParts_6 : decode cX1_countParts 6 = .ok (.iload 6, 2) := by decide +kernel
theorem dX1_countParts_8 : decode cX1_countParts 8 = .ok (.bipush 36, 2) := by decide +kernel
theorem dX1_countParts_10 : decode cX1_countParts 10 = .ok (.if_icmp .ge 37, 3) := by decide +kernel
theorem dX1_countParts_13 : decode cX1_countParts 13 = .ok (.lload 4, 2) := by decide +kernel
theorem dX1_countParts_15 : decode cX1_countParts 15 = .ok (.lconst 0, 1) := by decide +kernel
theorem dX1_countParts_16 : decode cX1_countParts 16 = .ok (.lcmp, 1) := by decide +kernel
theorem dX1_countParts_17 : decode cX1_countParts 17 = .ok (.ifCond .eq 30, 3) := by decide +kernel
theorem dX1_countParts_20 : decode cX1_countParts 20 = .ok (.lload 4, 2) := by decide +kernel
theorem dX1_countParts_22 : decode cX1_countParts 22 = .ok (.aload_n 0, 1) := by decide +kernel
theorem dX1_countParts_23 : decode cX1_countParts 23 = .ok (.lload_n 1, 1) := by decide +kernel
theorem dX1_countParts_24 : decode cX1_countParts 24 = .ok (.lload 4, 2) := by decide +kernel
theorem dX1_countParts_26 : decode cX1_countParts 26 = .ok (.lload 4, 2) := by decide +kernel
theorem dX1_countParts_28 : decode cX1_countParts 28 = .ok (.lneg, 1) := by decide +kernel
theorem dX1_countParts_29 : decode cX1_countParts 29 = .ok (.land, 1) := by decide +kernel
theorem dX1_countParts_30 : decode cX1_countParts 30 = .ok (.iload_n 3, 1) := by decide +kernel
theorem dX1_countParts_31 : decode cX1_countParts 31 = .ok (.invokevirtual 53, 3) := by decide +kernel
theorem dX1_countParts_34 : decode cX1_countParts 34 = .ok (.ldc2_w 47, 3) := by decide +kernel
theorem dX1_countParts_37 : decode cX1_countParts 37 = .ok (.lxor, 1) := by decide +kernel
theorem dX1_countParts_38 : decode cX1_countParts 38 = .ok (.land, 1) := by decide +kernel
theorem dX1_countParts_39 : decode cX1_countParts 39 = .ok (.lstore 4, 2) := by decide +kernel
theorem dX1_countParts_41 : decode cX1_countParts 41 = .ok (.iinc 6 1, 3) := by decide +kernel
theorem dX1_countParts_44 : decode cX1_countParts 44 = .ok (.goto (-38), 3) := by decide +kernel
theorem dX1_countParts_47 : decode cX1_countParts 47 = .ok (.iload 6, 2) := by decide +kernel
theorem dX1_countParts_49 : decode cX1_countParts 49 = .ok (.ireturn, 1) := by decide +kernel
set_option maxRecDepth 20000 in
theorem ggX2_init_X2_darken : GoodIn wsX2_init wsX2_darken := goodIn_r _ [11, 5, 6, 12, 13, 14, 15, 16, 17, 18, 19, 20, 21, 22, 23, 24, 25] (by decide +kernel) (by decide +kernel)
set_option maxRecDepth 20000 in
theorem gX2_init_X2_darken : GoodIn wsX2_init (wsV RX2 19 RX2 yX2_darken wsX2_darken) := goodIn_app (goodIn_of _ (by decide +kernel)) ggX2_init_X2_darken
theorem dX2_init_0 : decode cX2_init 0 = .ok (.aload_n 0, 1) := by decide +kernel
theorem dX2_init_1 : decode cX2_init 1 = .ok (.invokespecial 3, 3) := by decide +kernel
theorem dX2_init_4 : decode cX2_init 4 = .ok (.aload_n 0, 1) := by decide +kernel
theorem dX2_init_5 : decode cX2_init 5 = .ok (.bipush 10, 2) := by decide +kernel
theorem dX2_init_7 : decode cX2_init 7 = .ok (.newarray .long, 2) := by decide +kernel
theorem dX2_init_9 : decode cX2_init 9 = .ok (.putfield 9, 3) := by decide +kernel
theorem dX2_init_12 : decode cX2_init 12 = .ok (.aload_n 0, 1) := by decide +kernel
theorem dX2_init_13 : decode cX2_init 13 = .ok (.aload_n 1, 1) := by decide +kernel
theorem dX2_init_14 : decode cX2_init 14 = .ok (.putfield 15, 3) := by decide +kernel
theorem dX2_init_17 : decode cX2_init 17 = .ok (.aload_n 0, 1) := by decide +kernel
theorem dX2_init_18 : decode cX2_init 18 = .ok (.invokevirtual 19, 3) := by decide +kernel
theorem dX2_init_21 : decode cX2_init 21 = .ok (.return_, 1) := by decide +kernel
set_option maxRecDepth 20000 in
theorem ggX2_darken_X1_all : GoodIn wsX2_darken wsX1_all := goodIn_r _ [7, 8, 11, 12, 13, 14, 15, 16] (by decide +kernel) (by decide +kernel)
set_option maxRecDepth 20000 in
theorem gX2_darken_X1_all : GoodIn wsX2_darken (wsV RX2 22 RX1 yX1_all wsX1_all) := goodIn_app (goodIn_of _ (by decide +kernel)) ggX2_darken_X1_all
theorem dX2_darken_0 : decode cX2_darken 0 = .ok (.iconst 0, 1) := by decide +kernel
theorem dX2_darken_1 : decode cX2_darken 1 = .ok (.istore_n 1, 1) := by decide +kernel
theorem dX2_darken_2 : decode cX2_darken 2 = .ok (.iload_n 1, 1) := by decide +kernel
theorem dX2_darken_3 : decode cX2_darken 3 = .ok (.aload_n 0, 1) := by decide +kernel
theorem dX2_darken_4 : decode cX2_darken 4 = .ok (.getfield 9, 3) := by decide +kernel
theorem dX2_darken_7 : decode cX2_darken 7 = .ok (.arraylength, 1) := by decide +kernel
theorem dX2_darken_8 : decode cX2_darken 8 = .ok (.if_icmp .ge 30, 3) := by decide +kernel
theorem dX2_darken_11 : decode cX2_darken 11 = .ok (.aload_n 0, 1) := by decide +kernel
theorem dX2_darken_12 : decode cX2_darken 12 = .ok (.getfield 9, 3) := by decide +kernel
theorem dX2_darken_15 : decode cX2_darken 15 = .ok (.iload_n 1, 1) := by decide +kernel
theorem dX2_darken_16 : decode cX2_darken 16 = .ok (.iload_n 1, 1) := by decide +kernel
theorem dX2_darken_17 : decode cX2_darken 17 = .ok (.ifCond .ne 13, 3) := by decide +kernel
theorem dX2_darken_20 : decode cX2_darken 20 = .ok (.aload_n 0, 1) := by decide +kernel
theorem dX2_darken_21 : decode cX2_darken 21 = .ok (.getfield 15, 3) := by decide +kernel
theorem dX2_darken_24 : decode cX2_darken 24 = .ok (.invokevirtual 22, 3) := by decide +kernel
theorem dX2_darken_27 : decode cX2_darken 27 = .ok (.goto 4, 3) := by decide +kernel
theorem dX2_darken_30 : decode cX2_darken 30 = .ok (.lconst 0, 1) := by decide +kernel
theorem dX2_darken_31 : decode cX2_darken 31 = .ok (.lastore, 1) := by decide +kernel
theorem dX2_darken_32 : decode cX2_darken 32 = .ok (.iinc 1 1, 3) := by decide +kernel
theorem dX2_darken_35 : decode cX2_darken 35 = .ok (.goto (-33), 3) := by decide +kernel
theorem dX2_darken_38 : decode cX2_darken 38 = .ok (.return_, 1) := by decide +kernel
theorem dX2_atLeast_0 : decode cX2_atLeast 0 = .ok (.iload_n 1, 1) := by decide +kernel
theorem dX2_atLeast_1 : decode cX2_atLeast 1 = .ok (.ifCond .lt 21, 3) := by decide +kernel
theorem dX2_atLeast_4 : decode cX2_atLeast 4 = .ok (.iload_n 1, 1) := by decide +kernel
theorem dX2_atLeast_5 : decode cX2_atLeast 5 = .ok (.aload_n 0, 1) := by decide +kernel
theorem dX2_atLeast_6 : decode cX2_atLeast 6 = .ok (.getfield 9, 3) := by decide +kernel
theorem dX2_atLeast_9 : decode cX2_atLeast 9 = .ok (.arraylength, 1) := by decide +kernel
theorem dX2_atLeast_10 : decode cX2_atLeast 10 = .ok (.if_icmp .ge 12, 3) := by decide +kernel
theorem dX2_atLeast_13 : decode cX2_atLeast 13 = .ok (.aload_n 0, 1) := by decide +kernel
theorem dX2_atLeast_14 : decode cX2_atLeast 14 = .ok (.getfield 9, 3) := by decide +kernel
theorem dX2_atLeast_17 : decode cX2_atLeast 17 = .ok (.iload_n 1, 1) := by decide +kernel
theorem dX2_atLeast_18 : decode cX2_atLeast 18 = .ok (.laload, 1) := by decide +kernel
theorem dX2_atLeast_19 : decode cX2_atLeast 19 = .ok (.goto 4, 3) := by decide +kernel
theorem dX2_atLeast_22 : decode cX2_atLeast 22 = .ok (.lconst 0, 1) := by decide +kernel
theorem dX2_atLeast_23 : decode cX2_atLeast 23 = .ok (.lreturn, 1) := by decide +kernel
theorem dX2_of_0 : decode cX2_of 0 = .ok (.iconst 0, 1) := by decide +kernel
theorem dX2_of_1 : decode cX2_of 1 = .ok (.istore_n 2, 1) := by decide +kernel
theorem dX2_of_2 : decode cX2_of 2 = .ok (.iconst 1, 1) := by decide +kernel
theorem dX2_of_3 : decode cX2_of 3 = .ok (.istore_n 3, 1) := by decide +kernel
theorem dX2_of_4 : decode cX2_of 4 = .ok (.iload_n 3, 1) := by decide +kernel
theorem dX2_of_5 : decode cX2_of 5 = .ok (.aload_n 0, 1) := by decide +kernel
theorem dX2_of_6 : decode cX2_of 6 = .ok (.getfield 9, 3) := by decide +kernel
theorem dX2_of_9 : decode cX2_of 9 = .ok (.arraylength, 1) := by decide +kernel
theorem dX2_of_10 : decode cX2_of 10 = .ok (.if_icmp .ge 23, 3) := by decide +kernel
theorem dX2_of_13 : decode cX2_of 13 = .ok (.iload_n 2, 1) := by decide +kernel
theorem dX2_of_14 : decode cX2_of 14 = .ok (.aload_n 0, 1) := by decide +kernel
theorem dX2_of_15 : decode cX2_of 15 = .ok (.getfield 9, 3) := by decide +kernel
theorem dX2_of_18 : decode cX2_of 18 = .ok (.iload_n 3, 1) := by decide +kernel
theorem dX2_of_19 : decode cX2_of 19 = .ok (.laload, 1) := by decide +kernel
theorem dX2_of_20 : decode cX2_of 20 = .ok (.iload_n 1, 1) := by decide +kernel
theorem dX2_of_21 : decode cX2_of 21 = .ok (.lushr, 1) := by decide +kernel
theorem dX2_of_22 : decode cX2_of 22 = .ok (.lconst 1, 1) := by decide +kernel
theorem dX2_of_23 : decode cX2_of 23 = .ok (.land, 1) := by decide +kernel
theorem dX2_of_24 : decode cX2_of 24 = .ok (.l2i, 1) := by decide +kernel
theorem dX2_of_25 : decode cX2_of 25 = .ok (.iadd, 1) := by decide +kernel
theorem dX2_of_26 : decode cX2_of 26 = .ok (.istore_n 2, 1) := by decide +kernel
theorem dX2_of_27 : decode cX2_of 27 = .ok (.iinc 3 1, 3) := by decide +kernel
theorem dX2_of_30 : decode cX2_of 30 = .ok (.goto (-26), 3) := by decide +kernel
theorem dX2_of_33 : decode cX2_of 33 = .ok (.iload_n 2, 1) := by decide +kernel
theorem dX2_of_34 : decode cX2_of 34 = .ok (.ireturn, 1) := by decide +kernel
set_option maxRecDepth 20000 in
theorem ggX2_light_J13_bitCount_95d88 : GoodIn wsX2_light wsJ13_bitCount_95d88 := goodIn_r _ [5, 6, 7, 8] (by decide +kernel) (by decide +kernel)
set_option maxRecDepth 20000 in
theorem gX2_light_J13_bitCount_95d88 : GoodIn wsX2_light (va_wsS RX2 28 yJ13_bitCount_95d88 wsJ13_bitCount_95d88) := goodIn_app (goodIn_of _ (by decide +kernel)) ggX2_light_J13_bitCount_95d88
theorem dX2_light_0 : decode cX2_light 0 = .ok (.iconst 0, 1) := by decide +kernel
theorem dX2_light_1 : decode cX2_light 1 = .ok (.istore_n 3, 1) := by decide +kernel
theorem dX2_light_2 : decode cX2_light 2 = .ok (.iconst 1, 1) := by decide +kernel
theorem dX2_light_3 : decode cX2_light 3 = .ok (.istore 4, 2) := by decide +kernel
theorem dX2_light_5 : decode cX2_light 5 = .ok (.iload 4, 2) := by decide +kernel
theorem dX2_light_7 : decode cX2_light 7 = .ok (.aload_n 0, 1) := by decide +kernel
theorem dX2_light_8 : decode cX2_light 8 = .ok (.getfield 9, 3) := by decide +kernel
theorem dX2_light_11 : decode cX2_light 11 = .ok (.arraylength, 1) := by decide +kernel
theorem dX2_light_12 : decode cX2_light 12 = .ok (.if_icmp .ge 24, 3) := by decide +kernel
theorem dX2_light_15 : decode cX2_light 15 = .ok (.iload_n 3, 1) := by decide +kernel
theorem dX2_light_16 : decode cX2_light 16 = .ok (.aload_n 0, 1) := by decide +kernel
theorem dX2_light_17 : decode cX2_light 17 = .ok (.getfield 9, 3) := by decide +kernel
theorem dX2_light_20 : decode cX2_light 20 = .ok (.iload 4, 2) := by decide +kernel
theorem dX2_light_22 : decode cX2_light 22 = .ok (.laload, 1) := by decide +kernel
theorem dX2_light_23 : decode cX2_light 23 = .ok (.lload_n 1, 1) := by decide +kernel
theorem dX2_light_24 : decode cX2_light 24 = .ok (.land, 1) := by decide +kernel
theorem dX2_light_25 : decode cX2_light 25 = .ok (.invokestatic 28, 3) := by decide +kernel
theorem dX2_light_28 : decode cX2_light 28 = .ok (.iadd, 1) := by decide +kernel
theorem dX2_light_29 : decode cX2_light 29 = .ok (.istore_n 3, 1) := by decide +kernel
theorem dX2_light_30 : decode cX2_light 30 = .ok (.iinc 4 1, 3) := by decide +kernel
theorem dX2_light_33 : decode cX2_light 33 = .ok (.goto (-28), 3) := by decide +kernel
theorem dX2_light_36 : decode cX2_light 36 = .ok (.iload_n 3, 1) := by decide +kernel
theorem dX2_light_37 : decode cX2_light 37 = .ok (.ireturn, 1) := by decide +kernel
set_option maxRecDepth 20000 in
theorem ggX2_brightest_X2_atLeast : GoodIn wsX2_brightest wsX2_atLeast := goodIn_r _ [5, 6, 7, 8] (by decide +kernel) (by decide +kernel)
set_option maxRecDepth 20000 in
theorem gX2_brightest_X2_atLeast : GoodIn wsX2_brightest (wsV RX2 34 RX2 yX2_atLeast wsX2_atLeast) := goodIn_app (goodIn_of _ (by decide +kernel)) ggX2_brightest_X2_atLeast
theorem dX2_brightest_0 : decode cX2_brightest 0 = .ok (.bipush 9, 2) := by decide +kernel
theorem dX2_brightest_2 : decode cX2_brightest 2 = .ok (.istore_n 3, 1) := by decide +kernel
theorem dX2_brightest_3 : decode cX2_brightest 3 = .ok (.iload_n 3, 1) := by decide +kernel
theorem dX2_brightest_4 : decode cX2_brightest 4 = .ok (.ifCond .le 23, 3) := by decide +kernel
theorem dX2_brightest_7 : decode cX2_brightest 7 = .ok (.aload_n 0, 1) := by decide +kernel
theorem dX2_brightest_8 : decode cX2_brightest 8 = .ok (.iload_n 3, 1) := by decide +kernel
theorem dX2_brightest_9 : decode cX2_brightest 9 = .ok (.invokevirtual 34, 3) := by decide +kernel
theorem dX2_brightest_12 : decode cX2_brightest 12 = .ok (.lload_n 1, 1) := by decide +kernel
theorem dX2_brightest_13 : decode cX2_brightest 13 = .ok (.land, 1) := by decide +kernel
theorem dX2_brightest_14 : decode cX2_brightest 14 = .ok (.lconst 0, 1) := by decide +kernel
theorem dX2_brightest_15 : decode cX2_brightest 15 = .ok (.lcmp, 1) := by decide +kernel
theorem dX2_brightest_16 : decode cX2_brightest 16 = .ok (.ifCond .eq 5, 3) := by decide +kernel
theorem dX2_brightest_19 : decode cX2_brightest 19 = .ok (.iload_n 3, 1) := by decide +kernel
theorem dX2_brightest_20 : decode cX2_brightest 20 = .ok (.ireturn, 1) := by decide +kernel
theorem dX2_brightest_21 : decode cX2_brightest 21 = .ok (.iinc 3 (-1), 3) := by decide +kernel
theorem dX2_brightest_24 : decode cX2_brightest 24 = .ok (.goto (-21), 3) := by decide +kernel
theorem dX2_brightest_27 : decode cX2_brightest 27 = .ok (.iconst 0, 1) := by decide +kernel
theorem dX2_brightest_28 : decode cX2_brightest 28 = .ok (.ireturn, 1) := by decide +kernel
theorem dX2_set_0 : decode cX2_set 0 = .ok (.lconst 1, 1) := by decide +kernel
theorem dX2_set_1 : decode cX2_set 1 = .ok (.iload_n 1, 1) := by decide +kernel
theorem dX2_set_2 : decode cX2_set 2 = .ok (.lshl, 1) := by decide +kernel
theorem dX2_set_3 : decode cX2_set 3 = .ok (.lstore_n 3, 1) := by decide +kernel
theorem dX2_set_4 : decode cX2_set 4 = .ok (.iconst 1, 1) := by decide +kernel
theorem dX2_set_5 : decode cX2_set 5 = .ok (.istore 5, 2) := by decide +kernel
theorem dX2_set_7 : decode cX2_set 7 = .ok (.iload 5, 2) := by decide +kernel
theorem dX2_set_9 : decode cX2_set 9 = .ok (.aload_n 0, 1) := by decide +kernel
theorem dX2_set_10 : decode cX2_set 10 = .ok (.getfield 9, 3) := by decide +kernel
theorem dX2_set_13 : decode cX2_set 13 = .ok (.arraylength, 1) := by decide +kernel
theorem dX2_set_14 : decode cX2_set 14 = .ok (.if_icmp .ge 47, 3) := by decide +kernel
theorem dX2_set_17 : decode cX2_set 17 = .ok (.aload_n 0, 1) := by decide +kernel
theorem dX2_set_18 : decode cX2_set 18 = .ok (.getfield 9, 3) := by decide +kernel
theorem dX2_set_21 : decode cX2_set 21 = .ok (.iload 5, 2) := by decide +kernel
theorem dX2_set_23 : decode cX2_set 23 = .ok (.iload 5, 2) := by decide +kernel
theorem dX2_set_25 : decode cX2_set 25 = .ok (.iload_n 2, 1) := by decide +kernel
theorem dX2_set_26 : decode cX2_set 26 = .ok (.if_icmp .gt 15, 3) := by decide +kernel
theorem dX2_set_29 : decode cX2_set 29 = .ok (.aload_n 0, 1) := by decide +kernel
theorem dX2_set_30 : decode cX2_set 30 = .ok (.getfield 9, 3) := by decide +kernel
theorem dX2_set_33 : decode cX2_set 33 = .ok (.iload 5, 2) := by decide +kernel
theorem dX2_set_35 : decode cX2_set 35 = .ok (.laload, 1) := by decide +kernel
theorem dX2_set_36 : decode cX2_set 36 = .ok (.lload_n 3, 1) := by decide +kernel
theorem dX2_set_37 : decode cX2_set 37 = .ok (.lor, 1) := by decide +kernel
theorem dX2_set_38 : decode cX2_set 38 = .ok (.goto 16, 3) := by decide +kernel
theorem dX2_set_41 : decode cX2_set 41 = .ok (.aload_n 0, 1) := by decide +kernel
theorem dX2_set_42 : decode cX2_set 42 = .ok (.getfield 9, 3) := by decide +kernel
theorem dX2_set_45 : decode cX2_set 45 = .ok (.iload 5, 2) := by decide +kernel
theorem dX2_set_47 : decode cX2_set 47 = .ok (.laload, 1) := by decide +kernel
theorem dX2_set_48 : decode cX2_set 48 = .ok (.lload_n 3, 1) := by decide +kernel
theorem dX2_set_49 : decode cX2_set 49 = .ok (.ldc2_w 38, 3) := by decide +kernel
theorem dX2_set_52 : decode cX2_set 52 = .ok (.lxor, 1) := by decide +kernel
theorem dX2_set_53 : decode cX2_set 53 = .ok (.land, 1) := by decide +kernel
theorem dX2_set_54 : decode cX2_set 54 = .ok (.lastore, 1) := by decide +kernel
theorem dX2_set_55 : decode cX2_set 55 = .ok (.iinc 5 1, 3) := by decide +kernel
theorem dX2_set_58 : decode cX2_set 58 = .ok (.goto (-51), 3) := by decide +kernel
theorem dX2_set_61 : decode cX2_set 61 = .ok (.return_, 1) := by decide +kernel
set_option maxRecDepth 20000 in
theorem ggX2_turn_X1_all : GoodIn wsX2_turn wsX1_all := goodIn_r _ [7, 8, 21, 22, 23, 24, 25, 26] (by decide +kernel) (by decide +kernel)
set_option maxRecDepth 20000 in
theorem gX2_turn_X1_all : GoodIn wsX2_turn (wsV RX2 22 RX1 yX1_all wsX1_all) := goodIn_app (goodIn_of _ (by decide +kernel)) ggX2_turn_X1_all
set_option maxRecDepth 20000 in
theorem ggX2_turn_X2_atLeast : GoodIn wsX2_turn wsX2_atLeast := goodIn_r _ [13, 14, 19, 20] (by decide +kernel) (by decide +kernel)
set_option maxRecDepth 20000 in
theorem gX2_turn_X2_atLeast : GoodIn wsX2_turn (wsV RX2 34 RX2 yX2_atLeast wsX2_atLeast) := goodIn_app (goodIn_of _ (by decide +kernel)) ggX2_turn_X2_atLeast
set_option maxRecDepth 20000 in
theorem ggX2_turn_X2_put : GoodIn wsX2_turn wsX2_put := goodIn_r _ [18, 14, 19, 20] (by decide +kernel) (by decide +kernel)
set_option maxRecDepth 20000 in
theorem gX2_turn_X2_put : GoodIn wsX2_turn (wsV RX2 40 RX2 yX2_put wsX2_put) := goodIn_app (goodIn_of _ (by decide +kernel)) ggX2_turn_X2_put
theorem dX2_turn_0 : decode cX2_turn 0 = .ok (.iconst 1, 1) := by decide +kernel
theorem dX2_turn_1 : decode cX2_turn 1 = .ok (.istore_n 1, 1) := by decide +kernel
theorem dX2_turn_2 : decode cX2_turn 2 = .ok (.iload_n 1, 1) := by decide +kernel
theorem dX2_turn_3 : decode cX2_turn 3 = .ok (.iconst 5, 1) := by decide +kernel
theorem dX2_turn_4 : decode cX2_turn 4 = .ok (.if_icmp .gt 61, 3) := by decide +kernel
theorem dX2_turn_7 : decode cX2_turn 7 = .ok (.aload_n 0, 1) := by decide +kernel
theorem dX2_turn_8 : decode cX2_turn 8 = .ok (.getfield 15, 3) := by decide +kernel
theorem dX2_turn_11 : decode cX2_turn 11 = .ok (.invokevirtual 22, 3) := by decide +kernel
theorem dX2_turn_14 : decode cX2_turn 14 = .ok (.aload_n 0, 1) := by decide +kernel
theorem dX2_turn_15 : decode cX2_turn 15 = .ok (.iload_n 1, 1) := by decide +kernel
theorem dX2_turn_16 : decode cX2_turn 16 = .ok (.invokevirtual 34, 3) := by decide +kernel
theorem dX2_turn_19 : decode cX2_turn 19 = .ok (.ldc2_w 38, 3) := by decide +kernel
theorem dX2_turn_22 : decode cX2_turn 22 = .ok (.lxor, 1) := by decide +kernel
theorem dX2_turn_23 : decode cX2_turn 23 = .ok (.land, 1) := by decide +kernel
theorem dX2_turn_24 : decode cX2_turn 24 = .ok (.lstore_n 2, 1) := by decide +kernel
theorem dX2_turn_25 : decode cX2_turn 25 = .ok (.aload_n 0, 1) := by decide +kernel
theorem dX2_turn_26 : decode cX2_turn 26 = .ok (.iload_n 1, 1) := by decide +kernel
theorem dX2_turn_27 : decode cX2_turn 27 = .ok (.aload_n 0, 1) := by decide +kernel
theorem dX2_turn_28 : decode cX2_turn 28 = .ok (.getfield 15, 3) := by decide +kernel
theorem dX2_turn_31 : decode cX2_turn 31 = .ok (.invokevirtual 22, 3) := by decide +kernel
theorem dX2_turn_34 : decode cX2_turn 34 = .ok (.aload_n 0, 1) := by decide +kernel
theorem dX2_turn_35 : decode cX2_turn 35 = .ok (.bipush 10, 2) := by decide +kernel
theorem dX2_turn_37 : decode cX2_turn 37 = .ok (.iload_n 1, 1) := by decide +kernel
theorem dX2_turn_38 : decode cX2_turn 38 = .ok (.isub, 1) := by decide +kernel
theorem dX2_turn_39 : decode cX2_turn 39 = .ok (.invokevirtual 34, 3) := by decide +kernel
theorem dX2_turn_42 : decode cX2_turn 42 = .ok (.ldc2_w 38, 3) := by decide +kernel
theorem dX2_turn_45 : decode cX2_turn 45 = .ok (.lxor, 1) := by decide +kernel
theorem dX2_turn_46 : decode cX2_turn 46 = .ok (.land, 1) := by decide +kernel
theorem dX2_turn_47 : decode cX2_turn 47 = .ok (.invokevirtual 40, 3) := by decide +kernel
theorem dX2_turn_50 : decode cX2_turn 50 = .ok (.aload_n 0, 1) := by decide +kernel
theorem dX2_turn_51 : decode cX2_turn 51 = .ok (.bipush 10, 2) := by decide +kernel
theorem dX2_turn_53 : decode cX2_turn 53 = .ok (.iload_n 1, 1) := by decide +kernel
theorem dX2_turn_54 : decode cX2_turn 54 = .ok (.isub, 1) := by decide +kernel
theorem dX2_turn_55 : decode cX2_turn 55 = .ok (.lload_n 2, 1) := by decide +kernel
theorem dX2_turn_56 : decode cX2_turn 56 = .ok (.invokevirtual 40, 3) := by decide +kernel
theorem dX2_turn_59 : decode cX2_turn 59 = .ok (.iinc 1 1, 3) := by decide +kernel
theorem dX2_turn_62 : decode cX2_turn 62 = .ok (.goto (-60), 3) := by decide +kernel
theorem dX2_turn_65 : decode cX2_turn 65 = .ok (.return_, 1) := by decide +kernel
theorem dX2_put_0 : decode cX2_put 0 = .ok (.iload_n 1, 1) := by decide +kernel
theorem dX2_put_1 : decode cX2_put 1 = .ok (.ifCond .lt 19, 3) := by decide +kernel
theorem dX2_put_4 : decode cX2_put 4 = .ok (.iload_n 1, 1) := by decide +kernel
theorem dX2_put_5 : decode cX2_put 5 = .ok (.aload_n 0, 1) := by decide +kernel
theorem dX2_put_6 : decode cX2_put 6 = .ok (.getfield 9, 3) := by decide +kernel
theorem dX2_put_9 : decode cX2_put 9 = .ok (.arraylength, 1) := by decide +kernel
theorem dX2_put_10 : decode cX2_put 10 = .ok (.if_icmp .ge 10, 3) := by decide +kernel
theorem dX2_put_13 : decode cX2_put 13 = .ok (.aload_n 0, 1) := by decide +kernel
theorem dX2_put_14 : decode cX2_put 14 = .ok (.getfield 9, 3) := by decide +kernel
theorem dX2_put_17 : decode cX2_put 17 = .ok (.iload_n 1, 1) := by decide +kernel
theorem dX2_put_18 : decode cX2_put 18 = .ok (.lload_n 2, 1) := by decide +kernel
theorem dX2_put_19 : decode cX2_put 19 = .ok (.lastore, 1) := by decide +kernel
theorem dX2_put_20 : decode cX2_put 20 = .ok (.return_, 1) := by decide +kernel
set_option maxRecDepth 20000 in
theorem ggX2_thin_X2_bigParts : GoodIn wsX2_thin wsX2_bigParts := goodIn_r _ [7, 8, 2, 9, 10, 11, 12, 13, 14, 15, 16, 17, 18, 19, 20, 21, 22, 23, 24, 25, 26, 27, 28, 29, 30, 31, 32, 33, 34, 6, 35, 36, 37, 38, 39, 40, 41, 42, 43, 44, 45, 46, 47, 48, 49, 50, 51, 52, 53, 54, 55, 56, 57, 58, 59, 60, 61, 62, 63] (by decide +kernel) (by decide +kernel)
set_option maxRecDepth 20000 in
theorem gX2_thin_X2_bigParts : GoodIn wsX2_thin (wsV RX2 44 RX2 yX2_bigParts wsX2_bigParts) := goodIn_app (goodIn_of _ (by decide +kernel)) ggX2_thin_X2_bigParts
set_option maxRecDepth 20000 in
theorem ggX2_thin_J13_bitCount_95d88 : GoodIn wsX2_thin wsJ13_bitCount_95d88 := goodIn_r _ [39, 40, 41, 42] (by decide +kernel) (by decide +kernel)
set_option maxRecDepth 20000 in
theorem gX2_thin_J13_bitCount_95d88 : GoodIn wsX2_thin (va_wsS RX2 28 yJ13_bitCount_95d88 wsJ13_bitCount_95d88) := goodIn_app (goodIn_of _ (by decide +kernel)) ggX2_thin_J13_bitCount_95d88
theorem dX2_thin_0 : decode cX2_thin 0 = .ok (.lconst 0, 1) := by decide +kernel
theorem dX2_thin_1 : decode cX2_thin 1 = .ok (.lstore_n 3, 1) := by decide +kernel
theorem dX2_thin_2 : decode cX2_thin 2 = .ok (.iconst 1, 1) := by decide +kernel
theorem dX2_thin_3 : decode cX2_thin 3 = .ok (.istore 5, 2) := by decide +kernel
theorem dX2_thin_5 : decode cX2_thin 5 = .ok (.iload 5, 2) := by decide +kernel
theorem dX2_thin_7 : decode cX2_thin 7 = .ok (.aload_n 0, 1) := by decide +kernel
theorem dX2_thin_8 : decode cX2_thin 8 = .ok (.getfield 9, 3) := by decide +kernel
theorem dX2_thin_11 : decode cX2_thin 11 = .ok (.arraylength, 1) := by decide +kernel
theorem dX2_thin_12 : decode cX2_thin 12 = .ok (.if_icmp .ge 50, 3) := by decide +kernel
theorem dX2_thin_15 : decode cX2_thin 15 = .ok (.aload_n 0, 1) := by decide +kernel
theorem dX2_thin_16 : decode cX2_thin 16 = .ok (.aload_n 0, 1) := by decide +kernel
theorem dX2_thin_17 : decode cX2_thin 17 = .ok (.getfield 9, 3) := by decide +kernel
theorem dX2_thin_20 : decode cX2_thin 20 = .ok (.iload 5, 2) := by decide +kernel
theorem dX2_thin_22 : decode cX2_thin 22 = .ok (.laload, 1) := by decide +kernel
theorem dX2_thin_23 : decode cX2_thin 23 = .ok (.iload_n 1, 1) := by decide +kernel
theorem dX2_thin_24 : decode cX2_thin 24 = .ok (.iload_n 2, 1) := by decide +kernel
theorem dX2_thin_25 : decode cX2_thin 25 = .ok (.invokevirtual 44, 3) := by decide +kernel
theorem dX2_thin_28 : decode cX2_thin 28 = .ok (.lstore 6, 2) := by decide +kernel
theorem dX2_thin_30 : decode cX2_thin 30 = .ok (.lload_n 3, 1) := by decide +kernel
theorem dX2_thin_31 : decode cX2_thin 31 = .ok (.aload_n 0, 1) := by decide +kernel
theorem dX2_thin_32 : decode cX2_thin 32 = .ok (.getfield 9, 3) := by decide +kernel
theorem dX2_thin_35 : decode cX2_thin 35 = .ok (.iload 5, 2) := by decide +kernel
theorem dX2_thin_37 : decode cX2_thin 37 = .ok (.laload, 1) := by decide +kernel
theorem dX2_thin_38 : decode cX2_thin 38 = .ok (.lload 6, 2) := by decide +kernel
theorem dX2_thin_40 : decode cX2_thin 40 = .ok (.ldc2_w 38, 3) := by decide +kernel
theorem dX2_thin_43 : decode cX2_thin 43 = .ok (.lxor, 1) := by decide +kernel
theorem dX2_thin_44 : decode cX2_thin 44 = .ok (.land, 1) := by decide +kernel
theorem dX2_thin_45 : decode cX2_thin 45 = .ok (.lor, 1) := by decide +kernel
theorem dX2_thin_46 : decode cX2_thin 46 = .ok (.lstore_n 3, 1) := by decide +kernel
theorem dX2_thin_47 : decode cX2_thin 47 = .ok (.aload_n 0, 1) := by decide +kernel
theorem dX2_thin_48 : decode cX2_thin 48 = .ok (.getfield 9, 3) := by decide +kernel
theorem dX2_thin_51 : decode cX2_thin 51 = .ok (.iload 5, 2) := by decide +kernel
theorem dX2_thin_53 : decode cX2_thin 53 = .ok (.lload 6, 2) := by decide +kernel
theorem dX2_thin_55 : decode cX2_thin 55 = .ok (.lastore, 1) := by decide +kernel
theorem dX2_thin_56 : decode cX2_thin 56 = .ok (.iinc 5 1, 3) := by decide +kernel
theorem dX2_thin_59 : decode cX2_thin 59 = .ok (.goto (-54), 3) := by decide +kernel
theorem dX2_thin_62 : decode cX2_thin 62 = .ok (.lload_n 3, 1) := by decide +kernel
theorem dX2_thin_63 : decode cX2_thin 63 = .ok (.invokestatic 28, 3) := by decide +kernel
theorem dX2_thin_66 : decode cX2_thin 66 = .ok (.ireturn, 1) := by decide +kernel
set_option maxRecDepth 20000 in
theorem ggX2_bigParts_X1_all : GoodIn wsX2_bigParts wsX1_all := goodIn_r _ [7, 8, 53, 54, 55, 56, 57, 58] (by decide +kernel) (by decide +kernel)
set_option maxRecDepth 20000 in
theorem gX2_bigParts_X1_all : GoodIn wsX2_bigParts (wsV RX2 22 RX1 yX1_all wsX1_all) := goodIn_app (goodIn_of _ (by decide +kernel)) ggX2_bigParts_X1_all
set_option maxRecDepth 20000 in
theorem ggX2_bigParts_X1_way : GoodIn wsX2_bigParts wsX1_way := goodIn_r _ [12, 13, 53, 54, 55, 56, 57, 58] (by decide +kernel) (by decide +kernel)
set_option maxRecDepth 20000 in
theorem gX2_bigParts_X1_way : GoodIn wsX2_bigParts (wsV RX2 48 RX1 yX1_way wsX1_way) := goodIn_app (goodIn_of _ (by decide +kernel)) ggX2_bigParts_X1_way
set_option maxRecDepth 20000 in
theorem ggX2_bigParts_X1_partAround : GoodIn wsX2_bigParts wsX1_partAround := goodIn_r _ [17, 18, 19, 20, 6, 21, 22, 23, 24, 25, 53, 54, 55, 56, 57, 58] (by decide +kernel) (by decide +kernel)
set_option maxRecDepth 20000 in
theorem gX2_bigParts_X1_partAround : GoodIn wsX2_bigParts (wsV RX2 52 RX1 yX1_partAround wsX1_partAround) := goodIn_app (goodIn_of _ (by decide +kernel)) ggX2_bigParts_X1_partAround
set_option maxRecDepth 20000 in
theorem ggX2_bigParts_X2_isBig : GoodIn wsX2_bigParts wsX2_isBig := goodIn_r _ [30, 1, 31, 32, 33, 34, 35, 36, 37, 38, 39, 40, 6, 41, 25, 24, 42, 43, 44, 45, 46, 47, 48, 49, 50, 51, 52, 53, 54, 55, 56, 57, 58] (by decide +kernel) (by decide +kernel)
set_option maxRecDepth 20000 in
theorem gX2_bigParts_X2_isBig : GoodIn wsX2_bigParts (wsV RX2 56 RX2 yX2_isBig wsX2_isBig) := goodIn_app (goodIn_of _ (by decide +kernel)) ggX2_bigParts_X2_isBig
theorem dX2_bigParts_0 : decode cX2_bigParts 0 = .ok (.lload_n 1, 1) := by decide +kernel
theorem dX2_bigParts_1 : decode cX2_bigParts 1 = .ok (.aload_n 0, 1) := by decide +kernel
theorem dX2_bigParts_2 : decode cX2_bigParts 2 = .ok (.getfield 15, 3) := by decide +kernel
theorem dX2_bigParts_5 : decode cX2_bigParts 5 = .ok (.invokevirtual 22, 3) := by decide +kernel
theorem dX2_bigParts_8 : decode cX2_bigParts 8 = .ok (.lcmp, 1) := by decide +kernel
theorem dX2_bigParts_9 : decode cX2_bigParts 9 = .ok (.ifCond .ne 5, 3) := by decide +kernel
theorem dX2_bigParts_12 : decode cX2_bigParts 12 = .ok (.lload_n 1, 1) := by decide +kernel
theorem dX2_bigParts_13 : decode cX2_bigParts 13 = .ok (.lreturn, 1) := by decide +kernel
theorem dX2_bigParts_14 : decode cX2_bigParts 14 = .ok (.lconst 0, 1) := by decide +kernel
theorem dX2_bigParts_15 : decode cX2_bigParts 15 = .ok (.lstore 5, 2) := by decide +kernel
theorem dX2_bigParts_17 : decode cX2_bigParts 17 = .ok (.lload_n 1, 1) := by decide +kernel
theorem dX2_bigParts_18 : decode cX2_bigParts 18 = .ok (.lstore 7, 2) := by decide +kernel
theorem dX2_bigParts_20 : decode cX2_bigParts 20 = .ok (.iconst 0, 1) := by decide +kernel
theorem dX2_bigParts_21 : decode cX2_bigParts 21 = .ok (.istore 9, 2) := by decide +kernel
theorem dX2_bigParts_23 : decode cX2_bigParts 23 = .ok (.iload 9, 2) := by decide +kernel
theorem dX2_bigParts_25 : decode cX2_bigParts 25 = .ok (.bipush 36, 2) := by decide +kernel
theorem dX2_bigParts_27 : decode cX2_bigParts 27 = .ok (.if_icmp .ge 69, 3) := by decide +kernel
theorem dX2_bigParts_30 : decode cX2_bigParts 30 = .ok (.lload 7, 2) := by decide +kernel
theorem dX2_bigParts_32 : decode cX2_bigParts 32 = .ok (.lconst 0, 1) := by decide +kernel
theorem dX2_bigParts_33 : decode cX2_bigParts 33 = .ok (.lcmp, 1) := by decide +kernel
theorem dX2_bigParts_34 : decode cX2_bigParts 34 = .ok (.ifCond .eq 62, 3) := by decide +kernel
theorem dX2_bigParts_37 : decode cX2_bigParts 37 = .ok (.aload_n 0, 1) := by decide +kernel
theorem dX2_bigParts_38 : decode cX2_bigParts 38 = .ok (.getfield 15, 3) := by decide +kernel
theorem dX2_bigParts_41 : decode cX2_bigParts 41 = .ok (.lload_n 1, 1) := by decide +kernel
theorem dX2_bigParts_42 : decode cX2_bigParts 42 = .ok (.lload 7, 2) := by decide +kernel
theorem dX2_bigParts_44 : decode cX2_bigParts 44 = .ok (.lload 7, 2) := by decide +kernel
theorem dX2_bigParts_46 : decode cX2_bigParts 46 = .ok (.lneg, 1) := by decide +kernel
theorem dX2_bigParts_47 : decode cX2_bigParts 47 = .ok (.land, 1) := by decide +kernel
theorem dX2_bigParts_48 : decode cX2_bigParts 48 = .ok (.aload_n 0, 1) := by decide +kernel
theorem dX2_bigParts_49 : decode cX2_bigParts 49 = .ok (.getfield 15, 3) := by decide +kernel
theorem dX2_bigParts_52 : decode cX2_bigParts 52 = .ok (.invokevirtual 48, 3) := by decide +kernel
theorem dX2_bigParts_55 : decode cX2_bigParts 55 = .ok (.invokevirtual 52, 3) := by decide +kernel
theorem dX2_bigParts_58 : decode cX2_bigParts 58 = .ok (.lstore 10, 2) := by decide +kernel
theorem dX2_bigParts_60 : decode cX2_bigParts 60 = .ok (.aload_n 0, 1) := by decide +kernel
theorem dX2_bigParts_61 : decode cX2_bigParts 61 = .ok (.lload 10, 2) := by decide +kernel
theorem dX2_bigParts_63 : decode cX2_bigParts 63 = .ok (.iload_n 3, 1) := by decide +kernel
theorem dX2_bigParts_64 : decode cX2_bigParts 64 = .ok (.iload 4, 2) := by decide +kernel
theorem dX2_bigParts_66 : decode cX2_bigParts 66 = .ok (.invokevirtual 56, 3) := by decide +kernel
theorem dX2_bigParts_69 : decode cX2_bigParts 69 = .ok (.ifCond .eq 10, 3) := by decide +kernel
theorem dX2_bigParts_72 : decode cX2_bigParts 72 = .ok (.lload 5, 2) := by decide +kernel
theorem dX2_bigParts_74 : decode cX2_bigParts 74 = .ok (.lload 10, 2) := by decide +kernel
theorem dX2_bigParts_76 : decode cX2_bigParts 76 = .ok (.lor, 1) := by decide +kernel
theorem dX2_bigParts_77 : decode cX2_bigParts 77 = .ok (.lstore 5, 2) := by decide +kernel
theorem dX2_bigParts_79 : decode cX2_bigParts 79 = .ok (.lload 7, 2) := by decide +kernel
theorem dX2_bigParts_81 : decode cX2_bigParts 81 = .ok (.lload 10, 2) := by decide +kernel
theorem dX2_bigParts_83 : decode cX2_bigParts 83 = .ok (.ldc2_w 38, 3) := by decide +kernel
theorem dX2_bigParts_86 : decode cX2_bigParts 86 = .ok (.lxor, 1) := by decide +kernel
theorem dX2_bigParts_87 : decode cX2_bigParts 87 = .ok (.land, 1) := by decide +kernel
theorem dX2_bigParts_88 : decode cX2_bigParts 88 = .ok (.lstore 7, 2) := by decide +kernel
theorem dX2_bigParts_90 : decode cX2_bigParts 90 = .ok (.iinc 9 1, 3) := by decide +kernel
theorem dX2_bigParts_93 : decode cX2_bigParts 93 = .ok (.goto (-70), 3) := by decide +kernel
theorem dX2_bigParts_96 : decode cX2_bigParts 96 = .ok (.lload 5, 2) := by decide +kernel
theorem dX2_bigParts_98 : decode cX2_bigParts 98 = .ok (.lreturn, 1) := by decide +kernel
set_option maxRecDepth 20000 in
theorem ggX2_isBig_J13_bitCount_95d88 : GoodIn wsX2_isBig wsJ13_bitCount_95d88 := goodIn_r _ [5, 6, 7, 8] (by decide +kernel) (by decide +kernel)
set_option maxRecDepth 20000 in
theorem gX2_isBig_J13_bitCount_95d88 : GoodIn wsX2_isBig (va_wsS RX2 28 yJ13_bitCount_95d88 wsJ13_bitCount_95d88) := goodIn_app (goodIn_of _ (by decide +kernel)) ggX2_isBig_J13_bitCount_95d88
set_option maxRecDepth 20000 in
theorem ggX2_isBig_X1_columnsOf : GoodIn wsX2_isBig wsX1_columnsOf := goodIn_r _ [13, 14, 15, 27, 28, 29, 30, 31, 32] (by decide +kernel) (by decide +kernel)
set_option maxRecDepth 20000 in
theorem gX2_isBig_X1_columnsOf : GoodIn wsX2_isBig (wsV RX2 60 RX1 yX1_columnsOf wsX1_columnsOf) := goodIn_app (goodIn_of _ (by decide +kernel)) ggX2_isBig_X1_columnsOf
set_option maxRecDepth 20000 in
theorem ggX2_isBig_X1_rowsOf : GoodIn wsX2_isBig wsX1_rowsOf := goodIn_r _ [19, 20, 21, 22, 23, 12, 24, 14, 27, 28, 29, 30, 31, 32] (by decide +kernel) (by decide +kernel)
set_option maxRecDepth 20000 in
theorem gX2_isBig_X1_rowsOf : GoodIn wsX2_isBig (wsV RX2 63 RX1 yX1_rowsOf wsX1_rowsOf) := goodIn_app (goodIn_of _ (by decide +kernel)) ggX2_isBig_X1_rowsOf
theorem dX2_isBig_0 : decode cX2_isBig 0 = .ok (.iload_n 3, 1) := by decide +kernel
theorem dX2_isBig_1 : decode cX2_isBig 1 = .ok (.ifCond .ne 18, 3) := by decide +kernel
theorem dX2_isBig_4 : decode cX2_isBig 4 = .ok (.lload_n 1, 1) := by decide +kernel
theorem dX2_isBig_5 : decode cX2_isBig 5 = .ok (.invokestatic 28, 3) := by decide +kernel
theorem dX2_isBig_8 : decode cX2_isBig 8 = .ok (.iload 4, 2) := by decide +kernel
theorem dX2_isBig_10 : decode cX2_isBig 10 = .ok (.if_icmp .lt 7, 3) := by decide +kernel
theorem dX2_isBig_13 : decode cX2_isBig 13 = .ok (.iconst 1, 1) := by decide +kernel
theorem dX2_isBig_14 : decode cX2_isBig 14 = .ok (.goto 4, 3) := by decide +kernel
theorem dX2_isBig_17 : decode cX2_isBig 17 = .ok (.iconst 0, 1) := by decide +kernel
theorem dX2_isBig_18 : decode cX2_isBig 18 = .ok (.ireturn, 1) := by decide +kernel
theorem dX2_isBig_19 : decode cX2_isBig 19 = .ok (.aload_n 0, 1) := by decide +kernel
theorem dX2_isBig_20 : decode cX2_isBig 20 = .ok (.getfield 15, 3) := by decide +kernel
theorem dX2_isBig_23 : decode cX2_isBig 23 = .ok (.lload_n 1, 1) := by decide +kernel
theorem dX2_isBig_24 : decode cX2_isBig 24 = .ok (.invokevirtual 60, 3) := by decide +kernel
theorem dX2_isBig_27 : decode cX2_isBig 27 = .ok (.iload 4, 2) := by decide +kernel
theorem dX2_isBig_29 : decode cX2_isBig 29 = .ok (.if_icmp .ge 16, 3) := by decide +kernel
theorem dX2_isBig_32 : decode cX2_isBig 32 = .ok (.aload_n 0, 1) := by decide +kernel
theorem dX2_isBig_33 : decode cX2_isBig 33 = .ok (.getfield 15, 3) := by decide +kernel
theorem dX2_isBig_36 : decode cX2_isBig 36 = .ok (.lload_n 1, 1) := by decide +kernel
theorem dX2_isBig_37 : decode cX2_isBig 37 = .ok (.invokevirtual 63, 3) := by decide +kernel
theorem dX2_isBig_40 : decode cX2_isBig 40 = .ok (.iload 4, 2) := by decide +kernel
theorem dX2_isBig_42 : decode cX2_isBig 42 = .ok (.if_icmp .lt 7, 3) := by decide +kernel
theorem dX2_isBig_45 : decode cX2_isBig 45 = .ok (.iconst 1, 1) := by decide +kernel
theorem dX2_isBig_46 : decode cX2_isBig 46 = .ok (.goto 4, 3) := by decide +kernel
theorem dX2_isBig_49 : decode cX2_isBig 49 = .ok (.iconst 0, 1) := by decide +kernel
theorem dX2_isBig_50 : decode cX2_isBig 50 = .ok (.ireturn, 1) := by decide +kernel
set_option maxRecDepth 20000 in
theorem ggX2_copy_X2_store : GoodIn wsX2_copy wsX2_store := goodIn_r _ [6, 1, 7, 8, 9, 10, 11, 12] (by decide +kernel) (by decide +kernel)
set_option maxRecDepth 20000 in
theorem gX2_copy_X2_store : GoodIn wsX2_copy (wsV RX2 66 RX2 yX2_store wsX2_store) := goodIn_app (goodIn_of _ (by decide +kernel)) ggX2_copy_X2_store
theorem dX2_copy_0 : decode cX2_copy 0 = .ok (.aload_n 1, 1) := by decide +kernel
theorem dX2_copy_1 : decode cX2_copy 1 = .ok (.ifnull 12, 3) := by decide +kernel
theorem dX2_copy_4 : decode cX2_copy 4 = .ok (.aload_n 1, 1) := by decide +kernel
theorem dX2_copy_5 : decode cX2_copy 5 = .ok (.aload_n 0, 1) := by decide +kernel
theorem dX2_copy_6 : decode cX2_copy 6 = .ok (.getfield 9, 3) := by decide +kernel
theorem dX2_copy_9 : decode cX2_copy 9 = .ok (.iconst 0, 1) := by decide +kernel
theorem dX2_copy_10 : decode cX2_copy 10 = .ok (.invokevirtual 66, 3) := by decide +kernel
theorem dX2_copy_13 : decode cX2_copy 13 = .ok (.return_, 1) := by decide +kernel
theorem dX2_store_0 : decode cX2_store 0 = .ok (.aload_n 1, 1) := by decide +kernel
theorem dX2_store_1 : decode cX2_store 1 = .ok (.ifnull 34, 3) := by decide +kernel
theorem dX2_store_4 : decode cX2_store 4 = .ok (.iload_n 2, 1) := by decide +kernel
theorem dX2_store_5 : decode cX2_store 5 = .ok (.ifCond .lt 30, 3) := by decide +kernel
theorem dX2_store_8 : decode cX2_store 8 = .ok (.iload_n 2, 1) := by decide +kernel
theorem dX2_store_9 : decode cX2_store 9 = .ok (.aload_n 1, 1) := by decide +kernel
theorem dX2_store_10 : decode cX2_store 10 = .ok (.arraylength, 1) := by decide +kernel
theorem dX2_store_11 : decode cX2_store 11 = .ok (.aload_n 0, 1) := by decide +kernel
theorem dX2_store_12 : decode cX2_store 12 = .ok (.getfield 9, 3) := by decide +kernel
theorem dX2_store_15 : decode cX2_store 15 = .ok (.arraylength, 1) := by decide +kernel
theorem dX2_store_16 : decode cX2_store 16 = .ok (.isub, 1) := by decide +kernel
theorem dX2_store_17 : decode cX2_store 17 = .ok (.if_icmp .gt 18, 3) := by decide +kernel
theorem dX2_store_20 : decode cX2_store 20 = .ok (.aload_n 0, 1) := by decide +kernel
theorem dX2_store_21 : decode cX2_store 21 = .ok (.getfield 9, 3) := by decide +kernel
theorem dX2_store_24 : decode cX2_store 24 = .ok (.iconst 0, 1) := by decide +kernel
theorem dX2_store_25 : decode cX2_store 25 = .ok (.aload_n 1, 1) := by decide +kernel
theorem dX2_store_26 : decode cX2_store 26 = .ok (.iload_n 2, 1) := by decide +kernel
theorem dX2_store_27 : decode cX2_store 27 = .ok (.aload_n 0, 1) := by decide +kernel
theorem dX2_store_28 : decode cX2_store 28 = .ok (.getfield 9, 3) := by decide +kernel
theorem dX2_store_31 : decode cX2_store 31 = .ok (.arraylength, 1) := by decide +kernel
theorem dX2_store_32 : decode cX2_store 32 = .ok (.invokestatic 70, 3) := by decide +kernel
theorem dX2_store_35 : decode cX2_store 35 = .ok (.return_, 1) := by decide +kernel
theorem dX2_load_0 : decode cX2_load 0 = .ok (.aload_n 1, 1) := by decide +kernel
theorem dX2_load_1 : decode cX2_load 1 = .ok (.ifnull 34, 3) := by decide +kernel
theorem dX2_load_4 : decode cX2_load 4 = .ok (.iload_n 2, 1) := by decide +kernel
theorem dX2_load_5 : decode cX2_load 5 = .ok (.ifCond .lt 30, 3) := by decide +kernel
theorem dX2_load_8 : decode cX2_load 8 = .ok (.iload_n 2, 1) := by decide +kernel
theorem dX2_load_9 : decode cX2_load 9 = .ok (.aload_n 1, 1) := by decide +kernel
theorem dX2_load_10 : decode cX2_load 10 = .ok (.arraylength, 1) := by decide +kernel
theorem dX2_load_11 : decode cX2_load 11 = .ok (.aload_n 0, 1) := by decide +kernel
theorem dX2_load_12 : decode cX2_load 12 = .ok (.getfield 9, 3) := by decide +kernel
theorem dX2_load_15 : decode cX2_load 15 = .ok (.arraylength, 1) := by decide +kernel
theorem dX2_load_16 : decode cX2_load 16 = .ok (.isub, 1) := by decide +kernel
theorem dX2_load_17 : decode cX2_load 17 = .ok (.if_icmp .gt 18, 3) := by decide +kernel
theorem dX2_load_20 : decode cX2_load 20 = .ok (.aload_n 1, 1) := by decide +kernel
theorem dX2_load_21 : decode cX2_load 21 = .ok (.iload_n 2, 1) := by decide +kernel
theorem dX2_load_22 : decode cX2_load 22 = .ok (.aload_n 0, 1) := by decide +kernel
theorem dX2_load_23 : decode cX2_load 23 = .ok (.getfield 9, 3) := by decide +kernel
theorem dX2_load_26 : decode cX2_load 26 = .ok (.iconst 0, 1) := by decide +kernel
theorem dX2_load_27 : decode cX2_load 27 = .ok (.aload_n 0, 1) := by decide +kernel
theorem dX2_load_28 : decode cX2_load 28 = .ok (.getfield 9, 3) := by decide +kernel
theorem dX2_load_31 : decode cX2_load 31 = .ok (.arraylength, 1) := by decide +kernel
theorem dX2_load_32 : decode cX2_load 32 = .ok (.invokestatic 70, 3) := by decide +kernel
theorem dX2_load_35 : decode cX2_load 35 = .ok (.return_, 1) := by decide +kernel
theorem dX3_init_0 : decode cX3_init 0 = .ok (.aload_n 0, 1) := by decide +kernel
theorem dX3_init_1 : decode cX3_init 1 = .ok (.invokespecial 1, 3) := by decide +kernel
theorem dX3_init_4 : decode cX3_init 4 = .ok (.aload_n 0, 1) := by decide +kernel
theorem dX3_init_5 : decode cX3_init 5 = .ok (.bipush 6, 2) := by decide +kernel
theorem dX3_init_7 : decode cX3_init 7 = .ok (.newarray .int, 2) := by decide +kernel
theorem dX3_init_9 : decode cX3_init 9 = .ok (.putfield 9, 3) := by decide +kernel
theorem dX3_init_12 : decode cX3_init 12 = .ok (.aload_n 0, 1) := by decide +kernel
theorem dX3_init_13 : decode cX3_init 13 = .ok (.bipush 6, 2) := by decide +kernel
theorem dX3_init_15 : decode cX3_init 15 = .ok (.newarray .int, 2) := by decide +kernel
theorem dX3_init_17 : decode cX3_init 17 = .ok (.putfield 13, 3) := by decide +kernel
theorem dX3_init_20 : decode cX3_init 20 = .ok (.aload_n 0, 1) := by decide +kernel
theorem dX3_init_21 : decode cX3_init 21 = .ok (.bipush 6, 2) := by decide +kernel
theorem dX3_init_23 : decode cX3_init 23 = .ok (.newarray .boolean, 2) := by decide +kernel
theorem dX3_init_25 : decode cX3_init 25 = .ok (.putfield 16, 3) := by decide +kernel
theorem dX3_init_28 : decode cX3_init 28 = .ok (.return_, 1) := by decide +kernel
theorem dX3_size_0 : decode cX3_size 0 = .ok (.aload_n 0, 1) := by decide +kernel
theorem dX3_size_1 : decode cX3_size 1 = .ok (.getfield 20, 3) := by decide +kernel
theorem dX3_size_4 : decode cX3_size 4 = .ok (.ireturn, 1) := by decide +kernel
theorem dX3_clear_0 : decode cX3_clear 0 = .ok (.aload_n 0, 1) := by decide +kernel
theorem dX3_clear_1 : decode cX3_clear 1 = .ok (.iconst 0, 1) := by decide +kernel
theorem dX3_clear_2 : decode cX3_clear 2 = .ok (.putfield 20, 3) := by decide +kernel
theorem dX3_clear_5 : decode cX3_clear 5 = .ok (.return_, 1) := by decide +kernel
theorem dX3_add_0 : decode cX3_add 0 = .ok (.aload_n 0, 1) := by decide +kernel
theorem dX3_add_1 : decode cX3_add 1 = .ok (.getfield 20, 3) := by decide +kernel
theorem dX3_add_4 : decode cX3_add 4 = .ok (.ifCond .lt 12, 3) := by decide +kernel
theorem dX3_add_7 : decode cX3_add 7 = .ok (.aload_n 0, 1) := by decide +kernel
theorem dX3_add_8 : decode cX3_add 8 = .ok (.getfield 20, 3) := by decide +kernel
theorem dX3_add_11 : decode cX3_add 11 = .ok (.bipush 6, 2) := by decide +kernel
theorem dX3_add_13 : decode cX3_add 13 = .ok (.if_icmp .lt 5, 3) := by decide +kernel
theorem dX3_add_16 : decode cX3_add 16 = .ok (.iconst 0, 1) := by decide +kernel
theorem dX3_add_17 : decode cX3_add 17 = .ok (.ireturn, 1) := by decide +kernel
theorem dX3_add_18 : decode cX3_add 18 = .ok (.aload_n 0, 1) := by decide +kernel
theorem dX3_add_19 : decode cX3_add 19 = .ok (.getfield 9, 3) := by decide +kernel
theorem dX3_add_22 : decode cX3_add 22 = .ok (.aload_n 0, 1) := by decide +kernel
theorem dX3_add_23 : decode cX3_add 23 = .ok (.getfield 20, 3) := by decide +kernel
theorem dX3_add_26 : decode cX3_add 26 = .ok (.iload_n 1, 1) := by decide +kernel
theorem dX3_add_27 : decode cX3_add 27 = .ok (.iastore, 1) := by decide +kernel
theorem dX3_add_28 : decode cX3_add 28 = .ok (.aload_n 0, 1) := by decide +kernel
theorem dX3_add_29 : decode cX3_add 29 = .ok (.getfield 13, 3) := by decide +kernel
theorem dX3_add_32 : decode cX3_add 32 = .ok (.aload_n 0, 1) := by decide +kernel
theorem dX3_add_33 : decode cX3_add 33 = .ok (.getfield 20, 3) := by decide +kernel
theorem dX3_add_36 : decode cX3_add 36 = .ok (.iload_n 2, 1) := by decide +kernel
theorem dX3_add_37 : decode cX3_add 37 = .ok (.iastore, 1) := by decide +kernel
theorem dX3_add_38 : decode cX3_add 38 = .ok (.aload_n 0, 1) := by decide +kernel
theorem dX3_add_39 : decode cX3_add 39 = .ok (.getfield 16, 3) := by decide +kernel
theorem dX3_add_42 : decode cX3_add 42 = .ok (.aload_n 0, 1) := by decide +kernel
theorem dX3_add_43 : decode cX3_add 43 = .ok (.getfield 20, 3) := by decide +kernel
theorem dX3_add_46 : decode cX3_add 46 = .ok (.iload_n 3, 1) := by decide +kernel
theorem dX3_add_47 : decode cX3_add 47 = .ok (.bastore, 1) := by decide +kernel
theorem dX3_add_48 : decode cX3_add 48 = .ok (.aload_n 0, 1) := by decide +kernel
theorem dX3_add_49 : decode cX3_add 49 = .ok (.dup, 1) := by decide +kernel
theorem dX3_add_50 : decode cX3_add 50 = .ok (.getfield 20, 3) := by decide +kernel
theorem dX3_add_53 : decode cX3_add 53 = .ok (.iconst 1, 1) := by decide +kernel
theorem dX3_add_54 : decode cX3_add 54 = .ok (.iadd, 1) := by decide +kernel
theorem dX3_add_55 : decode cX3_add 55 = .ok (.putfield 20, 3) := by decide +kernel
theorem dX3_add_58 : decode cX3_add 58 = .ok (.iconst 1, 1) := by decide +kernel
theorem dX3_add_59 : decode cX3_add 59 = .ok (.ireturn, 1) := by decide +kernel
set_option maxRecDepth 20000 in
theorem ggX3_hold_X1_joined : GoodIn wsX3_hold wsX1_joined := goodIn_r _ [9, 10, 11, 12, 8, 13, 14, 15, 16, 17, 18, 19, 20, 21, 22, 23, 24, 25, 26, 27, 28, 29, 30, 35, 36, 37, 38, 39, 40] (by decide +kernel) (by decide +kernel)
set_option maxRecDepth 20000 in
theorem gX3_hold_X1_joined : GoodIn wsX3_hold (wsV RX3 24 RX1 yX1_joined wsX1_joined) := goodIn_app (goodIn_of _ (by decide +kernel)) ggX3_hold_X1_joined
theorem dX3_hold_0 : decode cX3_hold 0 = .ok (.aload_n 1, 1) := by decide +kernel
theorem dX3_hold_1 : decode cX3_hold 1 = .ok (.ifnonnull 5, 3) := by decide +kernel
theorem dX3_hold_4 : decode cX3_hold 4 = .ok (.iconst 0, 1) := by decide +kernel
theorem dX3_hold_5 : decode cX3_hold 5 = .ok (.ireturn, 1) := by decide +kernel
theorem dX3_hold_6 : decode cX3_hold 6 = .ok (.iconst 0, 1) := by decide +kernel
theorem dX3_hold_7 : decode cX3_hold 7 = .ok (.istore 5, 2) := by decide +kernel
theorem dX3_hold_9 : decode cX3_hold 9 = .ok (.iload 5, 2) := by decide +kernel
theorem dX3_hold_11 : decode cX3_hold 11 = .ok (.aload_n 0, 1) := by decide +kernel
theorem dX3_hold_12 : decode cX3_hold 12 = .ok (.getfield 20, 3) := by decide +kernel
theorem dX3_hold_15 : decode cX3_hold 15 = .ok (.if_icmp .ge 49, 3) := by decide +kernel
theorem dX3_hold_18 : decode cX3_hold 18 = .ok (.iload 5, 2) := by decide +kernel
theorem dX3_hold_20 : decode cX3_hold 20 = .ok (.bipush 6, 2) := by decide +kernel
theorem dX3_hold_22 : decode cX3_hold 22 = .ok (.if_icmp .ge 42, 3) := by decide +kernel
theorem dX3_hold_25 : decode cX3_hold 25 = .ok (.aload_n 1, 1) := by decide +kernel
theorem dX3_hold_26 : decode cX3_hold 26 = .ok (.lload_n 2, 1) := by decide +kernel
theorem dX3_hold_27 : decode cX3_hold 27 = .ok (.aload_n 0, 1) := by decide +kernel
theorem dX3_hold_28 : decode cX3_hold 28 = .ok (.getfield 9, 3) := by decide +kernel
theorem dX3_hold_31 : decode cX3_hold 31 = .ok (.iload 5, 2) := by decide +kernel
theorem dX3_hold_33 : decode cX3_hold 33 = .ok (.iaload, 1) := by decide +kernel
theorem dX3_hold_34 : decode cX3_hold 34 = .ok (.aload_n 0, 1) := by decide +kernel
theorem dX3_hold_35 : decode cX3_hold 35 = .ok (.getfield 13, 3) := by decide +kernel
theorem dX3_hold_38 : decode cX3_hold 38 = .ok (.iload 5, 2) := by decide +kernel
theorem dX3_hold_40 : decode cX3_hold 40 = .ok (.iaload, 1) := by decide +kernel
theorem dX3_hold_41 : decode cX3_hold 41 = .ok (.iload 4, 2) := by decide +kernel
theorem dX3_hold_43 : decode cX3_hold 43 = .ok (.invokevirtual 24, 3) := by decide +kernel
theorem dX3_hold_46 : decode cX3_hold 46 = .ok (.aload_n 0, 1) := by decide +kernel
theorem dX3_hold_47 : decode cX3_hold 47 = .ok (.getfield 16, 3) := by decide +kernel
theorem dX3_hold_50 : decode cX3_hold 50 = .ok (.iload 5, 2) := by decide +kernel
theorem dX3_hold_52 : decode cX3_hold 52 = .ok (.baload, 1) := by decide +kernel
theorem dX3_hold_53 : decode cX3_hold 53 = .ok (.if_icmp .eq 5, 3) := by decide +kernel
theorem dX3_hold_56 : decode cX3_hold 56 = .ok (.iconst 0, 1) := by decide +kernel
theorem dX3_hold_57 : decode cX3_hold 57 = .ok (.ireturn, 1) := by decide +kernel
theorem dX3_hold_58 : decode cX3_hold 58 = .ok (.iinc 5 1, 3) := by decide +kernel
theorem dX3_hold_61 : decode cX3_hold 61 = .ok (.goto (-52), 3) := by decide +kernel
theorem dX3_hold_64 : decode cX3_hold 64 = .ok (.iconst 1, 1) := by decide +kernel
theorem dX3_hold_65 : decode cX3_hold 65 = .ok (.ireturn, 1) := by decide +kernel
theorem dX4_init_0 : decode cX4_init 0 = .ok (.aload_n 0, 1) := by decide +kernel
theorem dX4_init_1 : decode cX4_init 1 = .ok (.invokespecial 3, 3) := by decide +kernel
theorem dX4_init_4 : decode cX4_init 4 = .ok (.aload_n 0, 1) := by decide +kernel
theorem dX4_init_5 : decode cX4_init 5 = .ok (.bipush 20, 2) := by decide +kernel
theorem dX4_init_7 : decode cX4_init 7 = .ok (.newarray .long, 2) := by decide +kernel
theorem dX4_init_9 : decode cX4_init 9 = .ok (.putfield 11, 3) := by decide +kernel
theorem dX4_init_12 : decode cX4_init 12 = .ok (.aload_n 0, 1) := by decide +kernel
theorem dX4_init_13 : decode cX4_init 13 = .ok (.iconst 2, 1) := by decide +kernel
theorem dX4_init_14 : decode cX4_init 14 = .ok (.newarray .boolean, 2) := by decide +kernel
theorem dX4_init_16 : decode cX4_init 16 = .ok (.putfield 15, 3) := by decide +kernel
theorem dX4_init_19 : decode cX4_init 19 = .ok (.return_, 1) := by decide +kernel
theorem dX4_clear_0 : decode cX4_clear 0 = .ok (.iconst 0, 1) := by decide +kernel
theorem dX4_clear_1 : decode cX4_clear 1 = .ok (.istore_n 1, 1) := by decide +kernel
theorem dX4_clear_2 : decode cX4_clear 2 = .ok (.iload_n 1, 1) := by decide +kernel
theorem dX4_clear_3 : decode cX4_clear 3 = .ok (.aload_n 0, 1) := by decide +kernel
theorem dX4_clear_4 : decode cX4_clear 4 = .ok (.getfield 15, 3) := by decide +kernel
theorem dX4_clear_7 : decode cX4_clear 7 = .ok (.arraylength, 1) := by decide +kernel
theorem dX4_clear_8 : decode cX4_clear 8 = .ok (.if_icmp .ge 16, 3) := by decide +kernel
theorem dX4_clear_11 : decode cX4_clear 11 = .ok (.aload_n 0, 1) := by decide +kernel
theorem dX4_clear_12 : decode cX4_clear 12 = .ok (.getfield 15, 3) := by decide +kernel
theorem dX4_clear_15 : decode cX4_clear 15 = .ok (.iload_n 1, 1) := by decide +kernel
theorem dX4_clear_16 : decode cX4_clear 16 = .ok (.iconst 0, 1) := by decide +kernel
theorem dX4_clear_17 : decode cX4_clear 17 = .ok (.bastore, 1) := by decide +kernel
theorem dX4_clear_18 : decode cX4_clear 18 = .ok (.iinc 1 1, 3) := by decide +kernel
theorem dX4_clear_21 : decode cX4_clear 21 = .ok (.goto (-19), 3) := by decide +kernel
theorem dX4_clear_24 : decode cX4_clear 24 = .ok (.return_, 1) := by decide +kernel
theorem dX4_has_0 : decode cX4_has 0 = .ok (.iload_n 1, 1) := by decide +kernel
theorem dX4_has_1 : decode cX4_has 1 = .ok (.ifCond .lt 16, 3) := by decide +kernel
theorem dX4_has_4 : decode cX4_has 4 = .ok (.iload_n 1, 1) := by decide +kernel
theorem dX4_has_5 : decode cX4_has 5 = .ok (.aload_n 0, 1) := by decide +kernel
theorem dX4_has_6 : decode cX4_has 6 = .ok (.getfield 15, 3) := by decide +kernel
theorem dX4_has_9 : decode cX4_has 9 = .ok (.arraylength, 1) := by decide +kernel
theorem dX4_has_10 : decode cX4_has 10 = .ok (.if_icmp .ge 7, 3) := by decide +kernel
theorem dX4_has_13 : decode cX4_has 13 = .ok (.iconst 1, 1) := by decide +kernel
theorem dX4_has_14 : decode cX4_has 14 = .ok (.goto 4, 3) := by decide +kernel
theorem dX4_has_17 : decode cX4_has 17 = .ok (.iconst 0, 1) := by decide +kernel
theorem dX4_has_18 : decode cX4_has 18 = .ok (.ireturn, 1) := by decide +kernel
set_option maxRecDepth 20000 in
theorem ggX4_put_X2_store : GoodIn wsX4_put wsX2_store := goodIn_r _ [7, 8, 9, 10, 11, 12, 15, 16] (by decide +kernel) (by decide +kernel)
set_option maxRecDepth 20000 in
theorem gX4_put_X2_store : GoodIn wsX4_put (wsV RX4 19 RX2 yX2_store wsX2_store) := goodIn_app (goodIn_of _ (by decide +kernel)) ggX4_put_X2_store
theorem dX4_put_0 : decode cX4_put 0 = .ok (.aload_n 2, 1) := by decide +kernel
theorem dX4_put_1 : decode cX4_put 1 = .ok (.ifnull 16, 3) := by decide +kernel
theorem dX4_put_4 : decode cX4_put 4 = .ok (.iload_n 1, 1) := by decide +kernel
theorem dX4_put_5 : decode cX4_put 5 = .ok (.ifCond .lt 12, 3) := by decide +kernel
theorem dX4_put_8 : decode cX4_put 8 = .ok (.iload_n 1, 1) := by decide +kernel
theorem dX4_put_9 : decode cX4_put 9 = .ok (.aload_n 0, 1) := by decide +kernel
theorem dX4_put_10 : decode cX4_put 10 = .ok (.getfield 15, 3) := by decide +kernel
theorem dX4_put_13 : decode cX4_put 13 = .ok (.arraylength, 1) := by decide +kernel
theorem dX4_put_14 : decode cX4_put 14 = .ok (.if_icmp .lt 5, 3) := by decide +kernel
theorem dX4_put_17 : decode cX4_put 17 = .ok (.iconst 0, 1) := by decide +kernel
theorem dX4_put_18 : decode cX4_put 18 = .ok (.ireturn, 1) := by decide +kernel
theorem dX4_put_19 : decode cX4_put 19 = .ok (.aload_n 2, 1) := by decide +kernel
theorem dX4_put_20 : decode cX4_put 20 = .ok (.aload_n 0, 1) := by decide +kernel
theorem dX4_put_21 : decode cX4_put 21 = .ok (.getfield 11, 3) := by decide +kernel
theorem dX4_put_24 : decode cX4_put 24 = .ok (.iload_n 1, 1) := by decide +kernel
theorem dX4_put_25 : decode cX4_put 25 = .ok (.bipush 10, 2) := by decide +kernel
theorem dX4_put_27 : decode cX4_put 27 = .ok (.imul, 1) := by decide +kernel
theorem dX4_put_28 : decode cX4_put 28 = .ok (.invokevirtual 19, 3) := by decide +kernel
theorem dX4_put_31 : decode cX4_put 31 = .ok (.aload_n 0, 1) := by decide +kernel
theorem dX4_put_32 : decode cX4_put 32 = .ok (.getfield 15, 3) := by decide +kernel
theorem dX4_put_35 : decode cX4_put 35 = .ok (.iload_n 1, 1) := by decide +kernel
theorem dX4_put_36 : decode cX4_put 36 = .ok (.iconst 1, 1) := by decide +kernel
theorem dX4_put_37 : decode cX4_put 37 = .ok (.bastore, 1) := by decide +kernel
theorem dX4_put_38 : decode cX4_put 38 = .ok (.iconst 1, 1) := by decide +kernel
theorem dX4_put_39 : decode cX4_put 39 = .ok (.ireturn, 1) := by decide +kernel
set_option maxRecDepth 20000 in
theorem ggX4_bringBack_X2_load : GoodIn wsX4_bringBack wsX2_load := goodIn_r _ [7, 8, 9, 10, 11, 12, 15, 16] (by decide +kernel) (by decide +kernel)
set_option maxRecDepth 20000 in
theorem gX4_bringBack_X2_load : GoodIn wsX4_bringBack (wsV RX4 25 RX2 yX2_load wsX2_load) := goodIn_app (goodIn_of _ (by decide +kernel)) ggX4_bringBack_X2_load
theorem dX4_bringBack_0 : decode cX4_bringBack 0 = .ok (.aload_n 2, 1) := by decide +kernel
theorem dX4_bringBack_1 : decode cX4_bringBack 1 = .ok (.ifnull 25, 3) := by decide +kernel
theorem dX4_bringBack_4 : decode cX4_bringBack 4 = .ok (.iload_n 1, 1) := by decide +kernel
theorem dX4_bringBack_5 : decode cX4_bringBack 5 = .ok (.ifCond .lt 21, 3) := by decide +kernel
theorem dX4_bringBack_8 : decode cX4_bringBack 8 = .ok (.iload_n 1, 1) := by decide +kernel
theorem dX4_bringBack_9 : decode cX4_bringBack 9 = .ok (.aload_n 0, 1) := by decide +kernel
theorem dX4_bringBack_10 : decode cX4_bringBack 10 = .ok (.getfield 15, 3) := by decide +kernel
theorem dX4_bringBack_13 : decode cX4_bringBack 13 = .ok (.arraylength, 1) := by decide +kernel
theorem dX4_bringBack_14 : decode cX4_bringBack 14 = .ok (.if_icmp .ge 12, 3) := by decide +kernel
theorem dX4_bringBack_17 : decode cX4_bringBack 17 = .ok (.aload_n 0, 1) := by decide +kernel
theorem dX4_bringBack_18 : decode cX4_bringBack 18 = .ok (.getfield 15, 3) := by decide +kernel
theorem dX4_bringBack_21 : decode cX4_bringBack 21 = .ok (.iload_n 1, 1) := by decide +kernel
theorem dX4_bringBack_22 : decode cX4_bringBack 22 = .ok (.baload, 1) := by decide +kernel
theorem dX4_bringBack_23 : decode cX4_bringBack 23 = .ok (.ifCond .ne 5, 3) := by decide +kernel
theorem dX4_bringBack_26 : decode cX4_bringBack 26 = .ok (.iconst 0, 1) := by decide +kernel
theorem dX4_bringBack_27 : decode cX4_bringBack 27 = .ok (.ireturn, 1) := by decide +kernel
theorem dX4_bringBack_28 : decode cX4_bringBack 28 = .ok (.aload_n 2, 1) := by decide +kernel
theorem dX4_bringBack_29 : decode cX4_bringBack 29 = .ok (.aload_n 0, 1) := by decide +kernel
theorem dX4_bringBack_30 : decode cX4_bringBack 30 = .ok (.getfield 11, 3) := by decide +kernel
theorem dX4_bringBack_33 : decode cX4_bringBack 33 = .ok (.iload_n 1, 1) := by decide +kernel
theorem dX4_bringBack_34 : decode cX4_bringBack 34 = .ok (.bipush 10, 2) := by decide +kernel
theorem dX4_bringBack_36 : decode cX4_bringBack 36 = .ok (.imul, 1) := by decide +kernel
theorem dX4_bringBack_37 : decode cX4_bringBack 37 = .ok (.invokevirtual 25, 3) := by decide +kernel
theorem dX4_bringBack_40 : decode cX4_bringBack 40 = .ok (.iconst 1, 1) := by decide +kernel
theorem dX4_bringBack_41 : decode cX4_bringBack 41 = .ok (.ireturn, 1) := by decide +kernel
theorem dX5_init_0 : decode cX5_init 0 = .ok (.aload_n 0, 1) := by decide +kernel
theorem dX5_init_1 : decode cX5_init 1 = .ok (.invokespecial 3, 3) := by decide +kernel
theorem dX5_init_4 : decode cX5_init 4 = .ok (.aload_n 0, 1) := by decide +kernel
theorem dX5_init_5 : decode cX5_init 5 = .ok (.bipush 40, 2) := by decide +kernel
theorem dX5_init_7 : decode cX5_init 7 = .ok (.newarray .int, 2) := by decide +kernel
theorem dX5_init_9 : decode cX5_init 9 = .ok (.putfield 11, 3) := by decide +kernel
theorem dX5_init_12 : decode cX5_init 12 = .ok (.return_, 1) := by decide +kernel
theorem dX5_size_0 : decode cX5_size 0 = .ok (.aload_n 0, 1) := by decide +kernel
theorem dX5_size_1 : decode cX5_size 1 = .ok (.getfield 15, 3) := by decide +kernel
theorem dX5_size_4 : decode cX5_size 4 = .ok (.ireturn, 1) := by decide +kernel
theorem dX5_clear_0 : decode cX5_clear 0 = .ok (.aload_n 0, 1) := by decide +kernel
theorem dX5_clear_1 : decode cX5_clear 1 = .ok (.iconst 0, 1) := by decide +kernel
theorem dX5_clear_2 : decode cX5_clear 2 = .ok (.putfield 15, 3) := by decide +kernel
theorem dX5_clear_5 : decode cX5_clear 5 = .ok (.return_, 1) := by decide +kernel
theorem dX5_add_0 : decode cX5_add 0 = .ok (.aload_n 0, 1) := by decide +kernel
theorem dX5_add_1 : decode cX5_add 1 = .ok (.getfield 15, 3) := by decide +kernel
theorem dX5_add_4 : decode cX5_add 4 = .ok (.ifCond .lt 15, 3) := by decide +kernel
theorem dX5_add_7 : decode cX5_add 7 = .ok (.aload_n 0, 1) := by decide +kernel
theorem dX5_add_8 : decode cX5_add 8 = .ok (.getfield 15, 3) := by decide +kernel
theorem dX5_add_11 : decode cX5_add 11 = .ok (.aload_n 0, 1) := by decide +kernel
theorem dX5_add_12 : decode cX5_add 12 = .ok (.getfield 11, 3) := by decide +kernel
theorem dX5_add_15 : decode cX5_add 15 = .ok (.arraylength, 1) := by decide +kernel
theorem dX5_add_16 : decode cX5_add 16 = .ok (.if_icmp .lt 5, 3) := by decide +kernel
theorem dX5_add_19 : decode cX5_add 19 = .ok (.iconst 0, 1) := by decide +kernel
theorem dX5_add_20 : decode cX5_add 20 = .ok (.ireturn, 1) := by decide +kernel
theorem dX5_add_21 : decode cX5_add 21 = .ok (.aload_n 0, 1) := by decide +kernel
theorem dX5_add_22 : decode cX5_add 22 = .ok (.getfield 11, 3) := by decide +kernel
theorem dX5_add_25 : decode cX5_add 25 = .ok (.aload_n 0, 1) := by decide +kernel
theorem dX5_add_26 : decode cX5_add 26 = .ok (.getfield 15, 3) := by decide +kernel
theorem dX5_add_29 : decode cX5_add 29 = .ok (.iload_n 1, 1) := by decide +kernel
theorem dX5_add_30 : decode cX5_add 30 = .ok (.iastore, 1) := by decide +kernel
theorem dX5_add_31 : decode cX5_add 31 = .ok (.aload_n 0, 1) := by decide +kernel
theorem dX5_add_32 : decode cX5_add 32 = .ok (.dup, 1) := by decide +kernel
theorem dX5_add_33 : decode cX5_add 33 = .ok (.getfield 15, 3) := by decide +kernel
theorem dX5_add_36 : decode cX5_add 36 = .ok (.iconst 1, 1) := by decide +kernel
theorem dX5_add_37 : decode cX5_add 37 = .ok (.iadd, 1) := by decide +kernel
theorem dX5_add_38 : decode cX5_add 38 = .ok (.putfield 15, 3) := by decide +kernel
theorem dX5_add_41 : decode cX5_add 41 = .ok (.iconst 1, 1) := by decide +kernel
theorem dX5_add_42 : decode cX5_add 42 = .ok (.ireturn, 1) := by decide +kernel
theorem dX5_figure_0 : decode cX5_figure 0 = .ok (.iload_n 1, 1) := by decide +kernel
theorem dX5_figure_1 : decode cX5_figure 1 = .ok (.ifCond .lt 24, 3) := by decide +kernel
theorem dX5_figure_4 : decode cX5_figure 4 = .ok (.iload_n 1, 1) := by decide +kernel
theorem dX5_figure_5 : decode cX5_figure 5 = .ok (.aload_n 0, 1) := by decide +kernel
theorem dX5_figure_6 : decode cX5_figure 6 = .ok (.getfield 11, 3) := by decide +kernel
theorem dX5_figure_9 : decode cX5_figure 9 = .ok (.arraylength, 1) := by decide +kernel
theorem dX5_figure_10 : decode cX5_figure 10 = .ok (.if_icmp .ge 15, 3) := by decide +kernel
theorem dX5_figure_13 : decode cX5_figure 13 = .ok (.aload_n 0, 1) := by decide +kernel
theorem dX5_figure_14 : decode cX5_figure 14 = .ok (.getfield 11, 3) := by decide +kernel
theorem dX5_figure_17 : decode cX5_figure 17 = .ok (.iload_n 1, 1) := by decide +kernel
theorem dX5_figure_18 : decode cX5_figure 18 = .ok (.iaload, 1) := by decide +kernel
theorem dX5_figure_19 : decode cX5_figure 19 = .ok (.bipush 48, 2) := by decide +kernel
theorem dX5_figure_21 : decode cX5_figure 21 = .ok (.isub, 1) := by decide +kernel
theorem dX5_figure_22 : decode cX5_figure 22 = .ok (.goto 4, 3) := by decide +kernel
theorem dX5_figure_25 : decode cX5_figure 25 = .ok (.iconst 0, 1) := by decide +kernel
theorem dX5_figure_26 : decode cX5_figure 26 = .ok (.ireturn, 1) := by decide +kernel
set_option maxRecDepth 20000 in
theorem ggX5_firstFault_X5_fits : GoodIn wsX5_firstFault wsX5_fits := goodIn_r _ [6, 7, 8, 9, 5, 10, 11, 12, 13, 14, 15, 16, 17, 18, 19, 20] (by decide +kernel) (by decide +kernel)
set_option maxRecDepth 20000 in
theorem gX5_firstFault_X5_fits : GoodIn wsX5_firstFault (wsV RX5 19 RX5 yX5_fits wsX5_fits) := goodIn_app (goodIn_of _ (by decide +kernel)) ggX5_firstFault_X5_fits
set_option maxRecDepth 20000 in
theorem ggX5_firstFault_X5_wholeSize : GoodIn wsX5_firstFault wsX5_wholeSize := goodIn_r _ [15, 7, 8, 9, 5, 10, 11, 19, 20] (by decide +kernel) (by decide +kernel)
set_option maxRecDepth 20000 in
theorem gX5_firstFault_X5_wholeSize : GoodIn wsX5_firstFault (wsV RX5 23 RX5 yX5_wholeSize wsX5_wholeSize) := goodIn_app (goodIn_of _ (by decide +kernel)) ggX5_firstFault_X5_wholeSize
theorem dX5_firstFault_0 : decode cX5_firstFault 0 = .ok (.iconst 0, 1) := by decide +kernel
theorem dX5_firstFault_1 : decode cX5_firstFault 1 = .ok (.istore_n 1, 1) := by decide +kernel
theorem dX5_firstFault_2 : decode cX5_firstFault 2 = .ok (.iload_n 1, 1) := by decide +kernel
theorem dX5_firstFault_3 : decode cX5_firstFault 3 = .ok (.aload_n 0, 1) := by decide +kernel
theorem dX5_firstFault_4 : decode cX5_firstFault 4 = .ok (.getfield 15, 3) := by decide +kernel
theorem dX5_firstFault_7 : decode cX5_firstFault 7 = .ok (.if_icmp .ge 19, 3) := by decide +kernel
theorem dX5_firstFault_10 : decode cX5_firstFault 10 = .ok (.aload_n 0, 1) := by decide +kernel
theorem dX5_firstFault_11 : decode cX5_firstFault 11 = .ok (.iload_n 1, 1) := by decide +kernel
theorem dX5_firstFault_12 : decode cX5_firstFault 12 = .ok (.invokevirtual 19, 3) := by decide +kernel
theorem dX5_firstFault_15 : decode cX5_firstFault 15 = .ok (.ifCond .ne 5, 3) := by decide +kernel
theorem dX5_firstFault_18 : decode cX5_firstFault 18 = .ok (.iload_n 1, 1) := by decide +kernel
theorem dX5_firstFault_19 : decode cX5_firstFault 19 = .ok (.ireturn, 1) := by decide +kernel
theorem dX5_firstFault_20 : decode cX5_firstFault 20 = .ok (.iinc 1 1, 3) := by decide +kernel
theorem dX5_firstFault_23 : decode cX5_firstFault 23 = .ok (.goto (-21), 3) := by decide +kernel
theorem dX5_firstFault_26 : decode cX5_firstFault 26 = .ok (.aload_n 0, 1) := by decide +kernel
theorem dX5_firstFault_27 : decode cX5_firstFault 27 = .ok (.getfield 15, 3) := by decide +kernel
theorem dX5_firstFault_30 : decode cX5_firstFault 30 = .ok (.iconst 4, 1) := by decide +kernel
theorem dX5_firstFault_31 : decode cX5_firstFault 31 = .ok (.if_icmp .lt 19, 3) := by decide +kernel
theorem dX5_firstFault_34 : decode cX5_firstFault 34 = .ok (.aload_n 0, 1) := by decide +kernel
theorem dX5_firstFault_35 : decode cX5_firstFault 35 = .ok (.getfield 15, 3) := by decide +kernel
theorem dX5_firstFault_38 : decode cX5_firstFault 38 = .ok (.aload_n 0, 1) := by decide +kernel
theorem dX5_firstFault_39 : decode cX5_firstFault 39 = .ok (.invokevirtual 23, 3) := by decide +kernel
theorem dX5_firstFault_42 : decode cX5_firstFault 42 = .ok (.if_icmp .ne 8, 3) := by decide +kernel
theorem dX5_firstFault_45 : decode cX5_firstFault 45 = .ok (.bipush (-9), 2) := by decide +kernel
theorem dX5_firstFault_47 : decode cX5_firstFault 47 = .ok (.goto 7, 3) := by decide +kernel
theorem dX5_firstFault_50 : decode cX5_firstFault 50 = .ok (.aload_n 0, 1) := by decide +kernel
theorem dX5_firstFault_51 : decode cX5_firstFault 51 = .ok (.getfield 15, 3) := by decide +kernel
theorem dX5_firstFault_54 : decode cX5_firstFault 54 = .ok (.ireturn, 1) := by decide +kernel
set_option maxRecDepth 20000 in
theorem ggX5_fits_X5_figure : GoodIn wsX5_fits wsX5_figure := goodIn_r _ [5, 6, 14, 15] (by decide +kernel) (by decide +kernel)
set_option maxRecDepth 20000 in
theorem gX5_fits_X5_figure : GoodIn wsX5_fits (wsV RX5 27 RX5 yX5_figure wsX5_figure) := goodIn_app (goodIn_of _ (by decide +kernel)) ggX5_fits_X5_figure
set_option maxRecDepth 20000 in
theorem ggX5_fits_X5_wholeSize : GoodIn wsX5_fits wsX5_wholeSize := goodIn_r _ [10, 1, 2, 3, 4, 5, 6, 14, 15] (by decide +kernel) (by decide +kernel)
set_option maxRecDepth 20000 in
theorem gX5_fits_X5_wholeSize : GoodIn wsX5_fits (wsV RX5 23 RX5 yX5_wholeSize wsX5_wholeSize) := goodIn_app (goodIn_of _ (by decide +kernel)) ggX5_fits_X5_wholeSize
set_option maxRecDepth 20000 in
theorem ggX5_fits_X7_isShade : GoodIn wsX5_fits wsX7_isShade := goodIn_r _ [13] (by decide +kernel) (by decide +kernel)
set_option maxRecDepth 20000 in
theorem gX5_fits_X7_isShade_n31 : GoodIn wsX5_fits (wsX7_isShade) := ggX5_fits_X7_isShade
theorem dX5_fits_0 : decode cX5_fits 0 = .ok (.aload_n 0, 1) := by decide +kernel
theorem dX5_fits_1 : decode cX5_fits 1 = .ok (.iload_n 1, 1) := by decide +kernel
theorem dX5_fits_2 : decode cX5_fits 2 = .ok (.invokevirtual 27, 3) := by decide +kernel
theorem dX5_fits_5 : decode cX5_fits 5 = .ok (.istore_n 2, 1) := by decide +kernel
theorem dX5_fits_6 : decode cX5_fits 6 = .ok (.iload_n 1, 1) := by decide +kernel
theorem dX5_fits_7 : decode cX5_fits 7 = .ok (.tableswitch 75 0 3 #[29, 41, 58, 58], 29) := by decide +kernel
theorem dX5_fits_36 : decode cX5_fits 36 = .ok (.iload_n 2, 1) := by decide +kernel
theorem dX5_fits_37 : decode cX5_fits 37 = .ok (.bipush 32, 2) := by decide +kernel
theorem dX5_fits_39 : decode cX5_fits 39 = .ok (.if_icmp .ne 7, 3) := by decide +kernel
theorem dX5_fits_42 : decode cX5_fits 42 = .ok (.iconst 1, 1) := by decide +kernel
theorem dX5_fits_43 : decode cX5_fits 43 = .ok (.goto 4, 3) := by decide +kernel
theorem dX5_fits_46 : decode cX5_fits 46 = .ok (.iconst 0, 1) := by decide +kernel
theorem dX5_fits_47 : decode cX5_fits 47 = .ok (.ireturn, 1) := by decide +kernel
theorem dX5_fits_48 : decode cX5_fits 48 = .ok (.iload_n 2, 1) := by decide +kernel
theorem dX5_fits_49 : decode cX5_fits 49 = .ok (.iconst 4, 1) := by decide +kernel
theorem dX5_fits_50 : decode cX5_fits 50 = .ok (.if_icmp .eq 9, 3) := by decide +kernel
theorem dX5_fits_53 : decode cX5_fits 53 = .ok (.iload_n 2, 1) := by decide +kernel
theorem dX5_fits_54 : decode cX5_fits 54 = .ok (.bipush 8, 2) := by decide +kernel
theorem dX5_fits_56 : decode cX5_fits 56 = .ok (.if_icmp .ne 7, 3) := by decide +kernel
theorem dX5_fits_59 : decode cX5_fits 59 = .ok (.iconst 1, 1) := by decide +kernel
theorem dX5_fits_60 : decode cX5_fits 60 = .ok (.goto 4, 3) := by decide +kernel
theorem dX5_fits_63 : decode cX5_fits 63 = .ok (.iconst 0, 1) := by decide +kernel
theorem dX5_fits_64 : decode cX5_fits 64 = .ok (.ireturn, 1) := by decide +kernel
theorem dX5_fits_65 : decode cX5_fits 65 = .ok (.iload_n 2, 1) := by decide +kernel
theorem dX5_fits_66 : decode cX5_fits 66 = .ok (.iconst 1, 1) := by decide +kernel
theorem dX5_fits_67 : decode cX5_fits 67 = .ok (.if_icmp .lt 13, 3) := by decide +kernel
theorem dX5_fits_70 : decode cX5_fits 70 = .ok (.iload_n 2, 1) := by decide +kernel
theorem dX5_fits_71 : decode cX5_fits 71 = .ok (.bipush 6, 2) := by decide +kernel
theorem dX5_fits_73 : decode cX5_fits 73 = .ok (.if_icmp .gt 7, 3) := by decide +kernel
theorem dX5_fits_76 : decode cX5_fits 76 = .ok (.iconst 1, 1) := by decide +kernel
theorem dX5_fits_77 : decode cX5_fits 77 = .ok (.goto 4, 3) := by decide +kernel
theorem dX5_fits_80 : decode cX5_fits 80 = .ok (.iconst 0, 1) := by decide +kernel
theorem dX5_fits_81 : decode cX5_fits 81 = .ok (.ireturn, 1) := by decide +kernel
theorem dX5_fits_82 : decode cX5_fits 82 = .ok (.iload_n 1, 1) := by decide +kernel
theorem dX5_fits_83 : decode cX5_fits 83 = .ok (.aload_n 0, 1) := by decide +kernel
theorem dX5_fits_84 : decode cX5_fits 84 = .ok (.invokevirtual 23, 3) := by decide +kernel
theorem dX5_fits_87 : decode cX5_fits 87 = .ok (.if_icmp .ge 14, 3) := by decide +kernel
theorem dX5_fits_90 : decode cX5_fits 90 = .ok (.iload_n 2, 1) := by decide +kernel
theorem dX5_fits_91 : decode cX5_fits 91 = .ok (.invokestatic 31, 3) := by decide +kernel
theorem dX5_fits_94 : decode cX5_fits 94 = .ok (.ifCond .eq 7, 3) := by decide +kernel
theorem dX5_fits_97 : decode cX5_fits 97 = .ok (.iconst 1, 1) := by decide +kernel
theorem dX5_fits_98 : decode cX5_fits 98 = .ok (.goto 4, 3) := by decide +kernel
theorem dX5_fits_101 : decode cX5_fits 101 = .ok (.iconst 0, 1) := by decide +kernel
theorem dX5_fits_102 : decode cX5_fits 102 = .ok (.ireturn, 1) := by decide +kernel
set_option maxRecDepth 20000 in
theorem ggX5_wholeSize_X5_figure : GoodIn wsX5_wholeSize wsX5_figure := goodIn_r _ [5, 6, 7, 8] (by decide +kernel) (by decide +kernel)
set_option maxRecDepth 20000 in
theorem gX5_wholeSize_X5_figure : GoodIn wsX5_wholeSize (wsV RX5 27 RX5 yX5_figure wsX5_figure) := goodIn_app (goodIn_of _ (by decide +kernel)) ggX5_wholeSize_X5_figure
theorem dX5_wholeSize_0 : decode cX5_wholeSize 0 = .ok (.iconst 4, 1) := by decide +kernel
theorem dX5_wholeSize_1 : decode cX5_wholeSize 1 = .ok (.aload_n 0, 1) := by decide +kernel
theorem dX5_wholeSize_2 : decode cX5_wholeSize 2 = .ok (.iconst 2, 1) := by decide +kernel
theorem dX5_wholeSize_3 : decode cX5_wholeSize 3 = .ok (.invokevirtual 27, 3) := by decide +kernel
theorem dX5_wholeSize_6 : decode cX5_wholeSize 6 = .ok (.aload_n 0, 1) := by decide +kernel
theorem dX5_wholeSize_7 : decode cX5_wholeSize 7 = .ok (.iconst 3, 1) := by decide +kernel
theorem dX5_wholeSize_8 : decode cX5_wholeSize 8 = .ok (.invokevirtual 27, 3) := by decide +kernel
theorem dX5_wholeSize_11 : decode cX5_wholeSize 11 = .ok (.imul, 1) := by decide +kernel
theorem dX5_wholeSize_12 : decode cX5_wholeSize 12 = .ok (.iadd, 1) := by decide +kernel
theorem dX5_wholeSize_13 : decode cX5_wholeSize 13 = .ok (.ireturn, 1) := by decide +kernel
theorem dX6_init_0 : decode cX6_init 0 = .ok (.aload_n 0, 1) := by decide +kernel
theorem dX6_init_1 : decode cX6_init 1 = .ok (.invokespecial 3, 3) := by decide +kernel
theorem dX6_init_4 : decode cX6_init 4 = .ok (.aload_n 0, 1) := by decide +kernel
theorem dX6_init_5 : decode cX6_init 5 = .ok (.bipush 36, 2) := by decide +kernel
theorem dX6_init_7 : decode cX6_init 7 = .ok (.newarray .long, 2) := by decide +kernel
theorem dX6_init_9 : decode cX6_init 9 = .ok (.putfield 9, 3) := by decide +kernel
theorem dX6_init_12 : decode cX6_init 12 = .ok (.aload_n 0, 1) := by decide +kernel
theorem dX6_init_13 : decode cX6_init 13 = .ok (.bipush 36, 2) := by decide +kernel
theorem dX6_init_15 : decode cX6_init 15 = .ok (.newarray .int, 2) := by decide +kernel
theorem dX6_init_17 : decode cX6_init 17 = .ok (.putfield 15, 3) := by decide +kernel
theorem dX6_init_20 : decode cX6_init 20 = .ok (.aload_n 0, 1) := by decide +kernel
theorem dX6_init_21 : decode cX6_init 21 = .ok (.aload_n 1, 1) := by decide +kernel
theorem dX6_init_22 : decode cX6_init 22 = .ok (.putfield 19, 3) := by decide +kernel
theorem dX6_init_25 : decode cX6_init 25 = .ok (.aload_n 0, 1) := by decide +kernel
theorem dX6_init_26 : decode cX6_init 26 = .ok (.aload_n 2, 1) := by decide +kernel
theorem dX6_init_27 : decode cX6_init 27 = .ok (.putfield 23, 3) := by decide +kernel
theorem dX6_init_30 : decode cX6_init 30 = .ok (.return_, 1) := by decide +kernel
set_option maxRecDepth 20000 in
theorem ggX6_partAt_X2_atLeast : GoodIn wsX6_partAt wsX2_atLeast := goodIn_r _ [7, 8, 32, 33] (by decide +kernel) (by decide +kernel)
set_option maxRecDepth 20000 in
theorem gX6_partAt_X2_atLeast : GoodIn wsX6_partAt (wsV RX6 27 RX2 yX2_atLeast wsX2_atLeast) := goodIn_app (goodIn_of _ (by decide +kernel)) ggX6_partAt_X2_atLeast
set_option maxRecDepth 20000 in
theorem ggX6_partAt_X1_way : GoodIn wsX6_partAt wsX1_way := goodIn_r _ [13, 14, 34, 35, 36, 37, 38, 39] (by decide +kernel) (by decide +kernel)
set_option maxRecDepth 20000 in
theorem gX6_partAt_X1_way : GoodIn wsX6_partAt (wsV RX6 33 RX1 yX1_way wsX1_way) := goodIn_app (goodIn_of _ (by decide +kernel)) ggX6_partAt_X1_way
set_option maxRecDepth 20000 in
theorem ggX6_partAt_X1_partAround : GoodIn wsX6_partAt wsX1_partAround := goodIn_r _ [18, 19, 20, 21, 12, 22, 23, 24, 25, 26, 34, 35, 36, 37, 38, 39] (by decide +kernel) (by decide +kernel)
set_option maxRecDepth 20000 in
theorem gX6_partAt_X1_partAround : GoodIn wsX6_partAt (wsV RX6 39 RX1 yX1_partAround wsX1_partAround) := goodIn_app (goodIn_of _ (by decide +kernel)) ggX6_partAt_X1_partAround
theorem dX6_partAt_0 : decode cX6_partAt 0 = .ok (.aload_n 0, 1) := by decide +kernel
theorem dX6_partAt_1 : decode cX6_partAt 1 = .ok (.getfield 19, 3) := by decide +kernel
theorem dX6_partAt_4 : decode cX6_partAt 4 = .ok (.aload_n 0, 1) := by decide +kernel
theorem dX6_partAt_5 : decode cX6_partAt 5 = .ok (.getfield 23, 3) := by decide +kernel
theorem dX6_partAt_8 : decode cX6_partAt 8 = .ok (.iload_n 1, 1) := by decide +kernel
theorem dX6_partAt_9 : decode cX6_partAt 9 = .ok (.invokevirtual 27, 3) := by decide +kernel
theorem dX6_partAt_12 : decode cX6_partAt 12 = .ok (.lload_n 2, 1) := by decide +kernel
theorem dX6_partAt_13 : decode cX6_partAt 13 = .ok (.aload_n 0, 1) := by decide +kernel
theorem dX6_partAt_14 : decode cX6_partAt 14 = .ok (.getfield 19, 3) := by decide +kernel
theorem dX6_partAt_17 : decode cX6_partAt 17 = .ok (.invokevirtual 33, 3) := by decide +kernel
theorem dX6_partAt_20 : decode cX6_partAt 20 = .ok (.invokevirtual 39, 3) := by decide +kernel
theorem dX6_partAt_23 : decode cX6_partAt 23 = .ok (.lreturn, 1) := by decide +kernel
set_option maxRecDepth 20000 in
theorem ggX6_ofLevel_X2_atLeast : GoodIn wsX6_ofLevel wsX2_atLeast := goodIn_r _ [7, 8, 14, 15] (by decide +kernel) (by decide +kernel)
set_option maxRecDepth 20000 in
theorem gX6_ofLevel_X2_atLeast : GoodIn wsX6_ofLevel (wsV RX6 27 RX2 yX2_atLeast wsX2_atLeast) := goodIn_app (goodIn_of _ (by decide +kernel)) ggX6_ofLevel_X2_atLeast
theorem dX6_ofLevel_0 : decode cX6_ofLevel 0 = .ok (.aload_n 0, 1) := by decide +kernel
theorem dX6_ofLevel_1 : decode cX6_ofLevel 1 = .ok (.getfield 23, 3) := by decide +kernel
theorem dX6_ofLevel_4 : decode cX6_ofLevel 4 = .ok (.iload_n 1, 1) := by decide +kernel
theorem dX6_ofLevel_5 : decode cX6_ofLevel 5 = .ok (.invokevirtual 27, 3) := by decide +kernel
theorem dX6_ofLevel_8 : decode cX6_ofLevel 8 = .ok (.aload_n 0, 1) := by decide +kernel
theorem dX6_ofLevel_9 : decode cX6_ofLevel 9 = .ok (.getfield 23, 3) := by decide +kernel
theorem dX6_ofLevel_12 : decode cX6_ofLevel 12 = .ok (.iload_n 1, 1) := by decide +kernel
theorem dX6_ofLevel_13 : decode cX6_ofLevel 13 = .ok (.iconst 1, 1) := by decide +kernel
theorem dX6_ofLevel_14 : decode cX6_ofLevel 14 = .ok (.iadd, 1) := by decide +kernel
theorem dX6_ofLevel_15 : decode cX6_ofLevel 15 = .ok (.invokevirtual 27, 3) := by decide +kernel
theorem dX6_ofLevel_18 : decode cX6_ofLevel 18 = .ok (.ldc2_w 43, 3) := by decide +kernel
theorem dX6_ofLevel_21 : decode cX6_ofLevel 21 = .ok (.lxor, 1) := by decide +kernel
theorem dX6_ofLevel_22 : decode cX6_ofLevel 22 = .ok (.land, 1) := by decide +kernel
theorem dX6_ofLevel_23 : decode cX6_ofLevel 23 = .ok (.lreturn, 1) := by decide +kernel
set_option maxRecDepth 20000 in
theorem ggX6_nodeOf_X1_hasDot : GoodIn wsX6_nodeOf wsX1_hasDot := goodIn_r _ [7, 8, 9, 10, 6, 11, 12, 13, 50, 51, 52, 53, 54, 55] (by decide +kernel) (by decide +kernel)
set_option maxRecDepth 20000 in
theorem gX6_nodeOf_X1_hasDot : GoodIn wsX6_nodeOf (wsV RX6 45 RX1 yX1_hasDot wsX1_hasDot) := goodIn_app (goodIn_of _ (by decide +kernel)) ggX6_nodeOf_X1_hasDot
set_option maxRecDepth 20000 in
theorem ggX6_nodeOf_X2_of : GoodIn wsX6_nodeOf wsX2_of := goodIn_r _ [18, 19, 56, 57] (by decide +kernel) (by decide +kernel)
set_option maxRecDepth 20000 in
theorem gX6_nodeOf_X2_of : GoodIn wsX6_nodeOf (wsV RX6 49 RX2 yX2_of wsX2_of) := goodIn_app (goodIn_of _ (by decide +kernel)) ggX6_nodeOf_X2_of
set_option maxRecDepth 20000 in
theorem ggX6_nodeOf_X6_partAt : GoodIn wsX6_nodeOf wsX6_partAt := goodIn_r _ [24, 1, 2, 25, 26, 27, 17, 28, 19, 29, 30, 31, 6, 32, 33, 34, 35, 36, 37, 38, 39, 40, 41, 42, 43, 44, 12, 45, 46, 47, 48, 49, 56, 57, 50, 51, 52, 53, 54, 55] (by decide +kernel) (by decide +kernel)
set_option maxRecDepth 20000 in
theorem gX6_nodeOf_X6_partAt : GoodIn wsX6_nodeOf (wsV RX6 53 RX6 yX6_partAt wsX6_partAt) := goodIn_app (goodIn_of _ (by decide +kernel)) ggX6_nodeOf_X6_partAt
theorem dX6_nodeOf_0 : decode cX6_nodeOf 0 = .ok (.aload_n 0, 1) := by decide +kernel
theorem dX6_nodeOf_1 : decode cX6_nodeOf 1 = .ok (.getfield 19, 3) := by decide +kernel
theorem dX6_nodeOf_4 : decode cX6_nodeOf 4 = .ok (.iload_n 1, 1) := by decide +kernel
theorem dX6_nodeOf_5 : decode cX6_nodeOf 5 = .ok (.invokevirtual 45, 3) := by decide +kernel
theorem dX6_nodeOf_8 : decode cX6_nodeOf 8 = .ok (.ifCond .eq 21, 3) := by decide +kernel
theorem dX6_nodeOf_11 : decode cX6_nodeOf 11 = .ok (.aload_n 0, 1) := by decide +kernel
theorem dX6_nodeOf_12 : decode cX6_nodeOf 12 = .ok (.aload_n 0, 1) := by decide +kernel
theorem dX6_nodeOf_13 : decode cX6_nodeOf 13 = .ok (.getfield 23, 3) := by decide +kernel
theorem dX6_nodeOf_16 : decode cX6_nodeOf 16 = .ok (.iload_n 1, 1) := by decide +kernel
theorem dX6_nodeOf_17 : decode cX6_nodeOf 17 = .ok (.invokevirtual 49, 3) := by decide +kernel
theorem dX6_nodeOf_20 : decode cX6_nodeOf 20 = .ok (.lconst 1, 1) := by decide +kernel
theorem dX6_nodeOf_21 : decode cX6_nodeOf 21 = .ok (.iload_n 1, 1) := by decide +kernel
theorem dX6_nodeOf_22 : decode cX6_nodeOf 22 = .ok (.lshl, 1) := by decide +kernel
theorem dX6_nodeOf_23 : decode cX6_nodeOf 23 = .ok (.invokevirtual 53, 3) := by decide +kernel
theorem dX6_nodeOf_26 : decode cX6_nodeOf 26 = .ok (.goto 4, 3) := by decide +kernel
theorem dX6_nodeOf_29 : decode cX6_nodeOf 29 = .ok (.lconst 0, 1) := by decide +kernel
theorem dX6_nodeOf_30 : decode cX6_nodeOf 30 = .ok (.lreturn, 1) := by decide +kernel
set_option maxRecDepth 20000 in
theorem ggX6_head_X6_ofLevel : GoodIn wsX6_head wsX6_ofLevel := goodIn_r _ [5, 6, 7, 8, 9, 10, 11, 12, 13, 21, 22, 23, 24, 25, 26, 27] (by decide +kernel) (by decide +kernel)
set_option maxRecDepth 20000 in
theorem gX6_head_X6_ofLevel : GoodIn wsX6_head (wsV RX6 57 RX6 yX6_ofLevel wsX6_ofLevel) := goodIn_app (goodIn_of _ (by decide +kernel)) ggX6_head_X6_ofLevel
set_option maxRecDepth 20000 in
theorem ggX6_head_J13_bitCount_95d88 : GoodIn wsX6_head wsJ13_bitCount_95d88 := goodIn_r _ [17, 18, 19, 20] (by decide +kernel) (by decide +kernel)
set_option maxRecDepth 20000 in
theorem gX6_head_J13_bitCount_95d88 : GoodIn wsX6_head (va_wsS RX6 60 yJ13_bitCount_95d88 wsJ13_bitCount_95d88) := goodIn_app (goodIn_of _ (by decide +kernel)) ggX6_head_J13_bitCount_95d88
theorem dX6_head_0 : decode cX6_head 0 = .ok (.lload_n 1, 1) := by decide +kernel
theorem dX6_head_1 : decode cX6_head 1 = .ok (.aload_n 0, 1) := by decide +kernel
theorem dX6_head_2 : decode cX6_head 2 = .ok (.iload_n 3, 1) := by decide +kernel
theorem dX6_head_3 : decode cX6_head 3 = .ok (.invokevirtual 57, 3) := by decide +kernel
theorem dX6_head_6 : decode cX6_head 6 = .ok (.land, 1) := by decide +kernel
theorem dX6_head_7 : decode cX6_head 7 = .ok (.lstore 4, 2) := by decide +kernel
theorem dX6_head_9 : decode cX6_head 9 = .ok (.lload 4, 2) := by decide +kernel
theorem dX6_head_11 : decode cX6_head 11 = .ok (.lload 4, 2) := by decide +kernel
theorem dX6_head_13 : decode cX6_head 13 = .ok (.lneg, 1) := by decide +kernel
theorem dX6_head_14 : decode cX6_head 14 = .ok (.land, 1) := by decide +kernel
theorem dX6_head_15 : decode cX6_head 15 = .ok (.lconst 1, 1) := by decide +kernel
theorem dX6_head_16 : decode cX6_head 16 = .ok (.lsub, 1) := by decide +kernel
theorem dX6_head_17 : decode cX6_head 17 = .ok (.invokestatic 60, 3) := by decide +kernel
theorem dX6_head_20 : decode cX6_head 20 = .ok (.ireturn, 1) := by decide +kernel
set_option maxRecDepth 20000 in
theorem ggX6_parentLevel_X6_partAt : GoodIn wsX6_parentLevel wsX6_partAt := goodIn_r _ [5, 6, 7, 8, 9, 10, 11, 12, 13, 14, 15, 16, 17, 18, 19, 20, 21, 22, 23, 24, 25, 26, 27, 28, 29, 30, 31, 32, 33, 34, 35, 36, 37, 38, 39, 40, 41, 42, 43, 44] (by decide +kernel) (by decide +kernel)
set_option maxRecDepth 20000 in
theorem gX6_parentLevel_X6_partAt : GoodIn wsX6_parentLevel (wsV RX6 53 RX6 yX6_partAt wsX6_partAt) := goodIn_app (goodIn_of _ (by decide +kernel)) ggX6_parentLevel_X6_partAt
theorem dX6_parentLevel_0 : decode cX6_parentLevel 0 = .ok (.iload_n 3, 1) := by decide +kernel
theorem dX6_parentLevel_1 : decode cX6_parentLevel 1 = .ok (.iconst 1, 1) := by decide +kernel
theorem dX6_parentLevel_2 : decode cX6_parentLevel 2 = .ok (.isub, 1) := by decide +kernel
theorem dX6_parentLevel_3 : decode cX6_parentLevel 3 = .ok (.istore 4, 2) := by decide +kernel
theorem dX6_parentLevel_5 : decode cX6_parentLevel 5 = .ok (.iload 4, 2) := by decide +kernel
theorem dX6_parentLevel_7 : decode cX6_parentLevel 7 = .ok (.ifCond .lt 24, 3) := by decide +kernel
theorem dX6_parentLevel_10 : decode cX6_parentLevel 10 = .ok (.aload_n 0, 1) := by decide +kernel
theorem dX6_parentLevel_11 : decode cX6_parentLevel 11 = .ok (.iload 4, 2) := by decide +kernel
theorem dX6_parentLevel_13 : decode cX6_parentLevel 13 = .ok (.lload_n 1, 1) := by decide +kernel
theorem dX6_parentLevel_14 : decode cX6_parentLevel 14 = .ok (.invokevirtual 53, 3) := by decide +kernel
theorem dX6_parentLevel_17 : decode cX6_parentLevel 17 = .ok (.lload_n 1, 1) := by decide +kernel
theorem dX6_parentLevel_18 : decode cX6_parentLevel 18 = .ok (.lcmp, 1) := by decide +kernel
theorem dX6_parentLevel_19 : decode cX6_parentLevel 19 = .ok (.ifCond .eq 6, 3) := by decide +kernel
theorem dX6_parentLevel_22 : decode cX6_parentLevel 22 = .ok (.iload 4, 2) := by decide +kernel
theorem dX6_parentLevel_24 : decode cX6_parentLevel 24 = .ok (.ireturn, 1) := by decide +kernel
theorem dX6_parentLevel_25 : decode cX6_parentLevel 25 = .ok (.iinc 4 (-1), 3) := by decide +kernel
theorem dX6_parentLevel_28 : decode cX6_parentLevel 28 = .ok (.goto (-23), 3) := by decide +kernel
theorem dX6_parentLevel_31 : decode cX6_parentLevel 31 = .ok (.bipush (-9), 2) := by decide +kernel
