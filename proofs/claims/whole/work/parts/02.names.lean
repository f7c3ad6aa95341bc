/-- the words that stay when tables grow warm -/
def sk_wds : List Cond := lw_tbl.filter goodWord
/-- where the one field of a nest mate is named -/
def sk_nst : String × Nat := ("SkittleRow$Stroke", 28)
/-- words by their places in the table -/
def sk_all2 : List Cond → List Nat → Bool
  | [], _ => true
  | w :: r, i :: is => decide (lw_tbl[i]? = some w) && goodWord w && sk_all2 r is
  | _ :: _, [] => false
theorem sk_all2_mem : ∀ (ws : List Cond) (is : List Nat), sk_all2 ws is = true → ∀ w ∈ ws, w ∈ sk_wds
  | [], _, _, w, hw => absurd hw List.not_mem_nil
  | _ :: _, [], h, _, _ => by simp [sk_all2] at h
  | v :: r, i :: is, h, w, hw => by
    simp only [sk_all2, Bool.and_eq_true, decide_eq_true_eq] at h
    obtain ⟨⟨h1, h2⟩, h3⟩ := h
    rcases List.mem_cons.mp hw with rfl | hw
    · exact List.mem_filter.mpr ⟨List.mem_of_getElem? h1, h2⟩
    · exact sk_all2_mem r is h3 w hw
def RX0 : String := "SkittleRow$Acts"
def TX0 : u_T := fun k => match k with
  | 0 => ("SkittleRow$Acts", "standing", "[I", true)
  | 1 => ("SkittleRow$Acts", "turn", "[I", true)
  | 2 => ("SkittleRow$Acts", "played", "[I", true)
  | 3 => ("SkittleRow$Acts", "next", "I", false)
  | _ => ("SkittleRow$Acts", "kept", "I", false)
def tyX0 : Nat → FieldType := fun k => match k with
  | 0 => .array .int
  | 1 => .array .int
  | 2 => .array .int
  | 3 => .int
  | _ => .int
theorem nmX0 : ∀ a, a < 5 → ∀ b, b < 5 → a ≠ b → (TX0 a).2.1 ≠ (TX0 b).2.1 := by decide +kernel
theorem tyX0_ok : ∀ k, k < 5 → parseFieldDescriptor (TX0 k).2.2.1 = some (tyX0 k) := by decide +kernel
theorem inX0 : ∀ w ∈ u_ws RX0 TX0 5, w ∈ sk_wds := sk_all2_mem _ [200, 202, 204, 206, 208] (by decide +kernel)
theorem mkX0 : ∀ w ∈ [Cond.instantiable RX0 5, Cond.initialized RX0], w ∈ sk_wds := sk_all2_mem _ [189, 110] (by decide +kernel)
def RX1 : String := "SkittleRow$Alley"
def TX1 : u_T := fun k => match k with
  | 0 => ("SkittleRow$Alley", "first", "I", false)
  | 1 => ("SkittleRow$Alley", "standing", "I", false)
  | 2 => ("SkittleRow$Alley", "places", "I", false)
  | 3 => ("SkittleRow$Alley", "rows", "I", false)
  | 4 => ("SkittleRow$Alley", "hits", "I", false)
  | 5 => ("SkittleRow$Alley", "ends", "Z", false)
  | 6 => ("SkittleRow$Alley", "last", "Z", false)
  | 7 => ("SkittleRow$Alley", "stray", "I", false)
  | 8 => ("SkittleRow$Alley", "rowOf", "[I", true)
  | 9 => ("SkittleRow$Alley", "rowFirst", "[I", true)
  | 10 => ("SkittleRow$Alley", "rowSize", "[I", true)
  | 11 => ("SkittleRow$Alley", "ring", "[Z", true)
  | 12 => ("SkittleRow$Alley", "behind", "[I", true)
  | 13 => ("SkittleRow$Alley", "ahead", "[I", true)
  | 14 => ("SkittleRow$Alley", "strokes", "[LSkittleRow$Stroke;", false)
  | 15 => ("SkittleRow$Alley", "strokesOfAnyLaw", "[LSkittleRow$Stroke;", false)
  | _ => ("SkittleRow$Alley", "plainWorths", "[I", true)
def tyX1 : Nat → FieldType := fun k => match k with
  | 0 => .int
  | 1 => .int
  | 2 => .int
  | 3 => .int
  | 4 => .int
  | 5 => .boolean
  | 6 => .boolean
  | 7 => .int
  | 8 => .array .int
  | 9 => .array .int
  | 10 => .array .int
  | 11 => .array .boolean
  | 12 => .array .int
  | 13 => .array .int
  | 14 => .array (.object "SkittleRow$Stroke")
  | 15 => .array (.object "SkittleRow$Stroke")
  | _ => .array .int
theorem nmX1 : ∀ a, a < 17 → ∀ b, b < 17 → a ≠ b → (TX1 a).2.1 ≠ (TX1 b).2.1 := by decide +kernel
theorem tyX1_ok : ∀ k, k < 17 → parseFieldDescriptor (TX1 k).2.2.1 = some (tyX1 k) := by decide +kernel
theorem inX1 : ∀ w ∈ u_ws RX1 TX1 17, w ∈ sk_wds := sk_all2_mem _ [269, 271, 273, 275, 277, 279, 281, 283, 285, 287, 289, 291, 293, 295, 297, 299, 301] (by decide +kernel)
theorem mkX1 : ∀ w ∈ [Cond.instantiable RX1 17, Cond.initialized RX1], w ∈ sk_wds := sk_all2_mem _ [218, 112] (by decide +kernel)
def RX2 : String := "SkittleRow$AlleyReader"
def TX2 : u_T := fun k => match k with
  | 0 => ("SkittleRow$AlleyReader", "text", "LSkittleRow$Reader;", true)
  | _ => ("SkittleRow$AlleyReader", "told", "LSkittleRow$Alley;", true)
def tyX2 : Nat → FieldType := fun k => match k with
  | 0 => .object "SkittleRow$Reader"
  | _ => .object "SkittleRow$Alley"
theorem nmX2 : ∀ a, a < 2 → ∀ b, b < 2 → a ≠ b → (TX2 a).2.1 ≠ (TX2 b).2.1 := by decide +kernel
theorem tyX2_ok : ∀ k, k < 2 → parseFieldDescriptor (TX2 k).2.2.1 = some (tyX2 k) := by decide +kernel
theorem inX2 : ∀ w ∈ u_ws RX2 TX2 2, w ∈ sk_wds := sk_all2_mem _ [479, 481] (by decide +kernel)
theorem mkX2 : ∀ w ∈ [Cond.instantiable RX2 2, Cond.initialized RX2], w ∈ sk_wds := sk_all2_mem _ [470, 118] (by decide +kernel)
def RX3 : String := "SkittleRow$Bout"
def TX3 : u_T := fun k => match k with
  | 0 => ("SkittleRow$Bout", "look", "LSkittleRow$Look;", true)
  | 1 => ("SkittleRow$Bout", "tables", "LSkittleRow$Tables;", false)
  | 2 => ("SkittleRow$Bout", "alley", "LSkittleRow$Alley;", false)
  | 3 => ("SkittleRow$Bout", "standing", "I", false)
  | 4 => ("SkittleRow$Bout", "turn", "I", false)
  | 5 => ("SkittleRow$Bout", "played", "I", false)
  | 6 => ("SkittleRow$Bout", "x", "J", false)
  | 7 => ("SkittleRow$Bout", "wonByZero", "I", false)
  | _ => ("SkittleRow$Bout", "strokes", "I", false)
def tyX3 : Nat → FieldType := fun k => match k with
  | 0 => .object "SkittleRow$Look"
  | 1 => .object "SkittleRow$Tables"
  | 2 => .object "SkittleRow$Alley"
  | 3 => .int
  | 4 => .int
  | 5 => .int
  | 6 => .long
  | 7 => .int
  | _ => .int
theorem nmX3 : ∀ a, a < 9 → ∀ b, b < 9 → a ≠ b → (TX3 a).2.1 ≠ (TX3 b).2.1 := by decide +kernel
theorem tyX3_ok : ∀ k, k < 9 → parseFieldDescriptor (TX3 k).2.2.1 = some (tyX3 k) := by decide +kernel
theorem inX3 : ∀ w ∈ u_ws RX3 TX3 9, w ∈ sk_wds := sk_all2_mem _ [381, 383, 385, 387, 389, 391, 393, 395, 397] (by decide +kernel)
theorem mkX3 : ∀ w ∈ [Cond.instantiable RX3 9, Cond.initialized RX3], w ∈ sk_wds := sk_all2_mem _ [350, 113] (by decide +kernel)
def RX4 : String := "SkittleRow$Look"
def TX4 : u_T := fun k => match k with
  | _ => ("SkittleRow$Look", "values", "[J", true)
def tyX4 : Nat → FieldType := fun k => match k with
  | _ => .array .long
theorem nmX4 : ∀ a, a < 1 → ∀ b, b < 1 → a ≠ b → (TX4 a).2.1 ≠ (TX4 b).2.1 := by decide +kernel
theorem tyX4_ok : ∀ k, k < 1 → parseFieldDescriptor (TX4 k).2.2.1 = some (tyX4 k) := by decide +kernel
theorem inX4 : ∀ w ∈ u_ws RX4 TX4 1, w ∈ sk_wds := sk_all2_mem _ [362] (by decide +kernel)
theorem mkX4 : ∀ w ∈ [Cond.instantiable RX4 1, Cond.initialized RX4], w ∈ sk_wds := sk_all2_mem _ [356, 114] (by decide +kernel)
def RX5 : String := "SkittleRow$Reader"
def TX5 : u_T := fun k => match k with
  | 0 => ("SkittleRow$Reader", "text", "[C", true)
  | 1 => ("SkittleRow$Reader", "length", "I", true)
  | 2 => ("SkittleRow$Reader", "at", "I", false)
  | _ => ("SkittleRow$Reader", "fault", "I", false)
def tyX5 : Nat → FieldType := fun k => match k with
  | 0 => .array .char
  | 1 => .int
  | 2 => .int
  | _ => .int
theorem nmX5 : ∀ a, a < 4 → ∀ b, b < 4 → a ≠ b → (TX5 a).2.1 ≠ (TX5 b).2.1 := by decide +kernel
theorem tyX5_ok : ∀ k, k < 4 → parseFieldDescriptor (TX5 k).2.2.1 = some (tyX5 k) := by decide +kernel
theorem inX5 : ∀ w ∈ u_ws RX5 TX5 4, w ∈ sk_wds := sk_all2_mem _ [460, 462, 464, 466] (by decide +kernel)
theorem mkX5 : ∀ w ∈ [Cond.instantiable RX5 4, Cond.initialized RX5], w ∈ sk_wds := sk_all2_mem _ [445, 116] (by decide +kernel)
def RX6 : String := "SkittleRow$Rule"
def TX6 : u_T := fun k => match k with
  | 0 => ("SkittleRow$Rule", "code", "[I", false)
  | 1 => ("SkittleRow$Rule", "clauses", "I", false)
  | 2 => ("SkittleRow$Rule", "sumFrom", "[I", true)
  | 3 => ("SkittleRow$Rule", "testFrom", "[I", true)
  | 4 => ("SkittleRow$Rule", "testTo", "[I", true)
  | 5 => ("SkittleRow$Rule", "stack", "[J", true)
  | _ => ("SkittleRow$Rule", "words", "I", false)
def tyX6 : Nat → FieldType := fun k => match k with
  | 0 => .array .int
  | 1 => .int
  | 2 => .array .int
  | 3 => .array .int
  | 4 => .array .int
  | 5 => .array .long
  | _ => .int
theorem nmX6 : ∀ a, a < 7 → ∀ b, b < 7 → a ≠ b → (TX6 a).2.1 ≠ (TX6 b).2.1 := by decide +kernel
theorem tyX6_ok : ∀ k, k < 7 → parseFieldDescriptor (TX6 k).2.2.1 = some (tyX6 k) := by decide +kernel
theorem inX6 : ∀ w ∈ u_ws RX6 TX6 7, w ∈ sk_wds := sk_all2_mem _ [740, 742, 744, 746, 748, 750, 752] (by decide +kernel)
theorem mkX6 : ∀ w ∈ [Cond.instantiable RX6 7, Cond.initialized RX6], w ∈ sk_wds := sk_all2_mem _ [727, 127] (by decide +kernel)
def RX7 : String := "SkittleRow$RuleReader"
def TX7 : u_T := fun k => match k with
  | 0 => ("SkittleRow$RuleReader", "text", "LSkittleRow$Reader;", true)
  | 1 => ("SkittleRow$RuleReader", "code", "[I", true)
  | 2 => ("SkittleRow$RuleReader", "size", "I", false)
  | _ => ("SkittleRow$RuleReader", "parts", "I", false)
def tyX7 : Nat → FieldType := fun k => match k with
  | 0 => .object "SkittleRow$Reader"
  | 1 => .array .int
  | 2 => .int
  | _ => .int
theorem nmX7 : ∀ a, a < 4 → ∀ b, b < 4 → a ≠ b → (TX7 a).2.1 ≠ (TX7 b).2.1 := by decide +kernel
theorem tyX7_ok : ∀ k, k < 4 → parseFieldDescriptor (TX7 k).2.2.1 = some (tyX7 k) := by decide +kernel
theorem inX7 : ∀ w ∈ u_ws RX7 TX7 4, w ∈ sk_wds := sk_all2_mem _ [713, 715, 717, 719] (by decide +kernel)
theorem mkX7 : ∀ w ∈ [Cond.instantiable RX7 4, Cond.initialized RX7], w ∈ sk_wds := sk_all2_mem _ [704, 126] (by decide +kernel)
def RX8 : String := "SkittleRow$State"
def TX8 : u_T := fun k => match k with
  | 0 => ("SkittleRow$State", "alley", "LSkittleRow$Alley;", false)
  | 1 => ("SkittleRow$State", "standing", "I", false)
  | 2 => ("SkittleRow$State", "turn", "I", false)
  | 3 => ("SkittleRow$State", "played", "I", false)
  | 4 => ("SkittleRow$State", "x", "I", false)
  | 5 => ("SkittleRow$State", "notePlayer", "[I", true)
  | 6 => ("SkittleRow$State", "noteStanding", "[I", true)
  | _ => ("SkittleRow$State", "noteStroke", "[LSkittleRow$Stroke;", true)
def tyX8 : Nat → FieldType := fun k => match k with
  | 0 => .object "SkittleRow$Alley"
  | 1 => .int
  | 2 => .int
  | 3 => .int
  | 4 => .int
  | 5 => .array .int
  | 6 => .array .int
  | _ => .array (.object "SkittleRow$Stroke")
theorem nmX8 : ∀ a, a < 8 → ∀ b, b < 8 → a ≠ b → (TX8 a).2.1 ≠ (TX8 b).2.1 := by decide +kernel
theorem tyX8_ok : ∀ k, k < 8 → parseFieldDescriptor (TX8 k).2.2.1 = some (tyX8 k) := by decide +kernel
theorem inX8 : ∀ w ∈ u_ws RX8 TX8 8, w ∈ sk_wds := sk_all2_mem _ [168, 170, 172, 174, 176, 178, 180, 182] (by decide +kernel)
theorem mkX8 : ∀ w ∈ [Cond.instantiable RX8 8, Cond.initialized RX8], w ∈ sk_wds := sk_all2_mem _ [139, 109] (by decide +kernel)
def RX9 : String := "SkittleRow$Stroke"
def TX9 : u_T := fun k => match k with
  | 0 => ("SkittleRow$Stroke", "place", "I", true)
  | 1 => ("SkittleRow$Stroke", "many", "I", true)
  | 2 => ("SkittleRow$Stroke", "row", "I", true)
  | 3 => ("SkittleRow$Stroke", "mask", "I", true)
  | 4 => ("SkittleRow$Stroke", "behind", "I", true)
  | 5 => ("SkittleRow$Stroke", "ahead", "I", true)
  | _ => ("SkittleRow$Stroke", "laws", "J", true)
def tyX9 : Nat → FieldType := fun k => match k with
  | 0 => .int
  | 1 => .int
  | 2 => .int
  | 3 => .int
  | 4 => .int
  | 5 => .int
  | _ => .long
theorem nmX9 : ∀ a, a < 7 → ∀ b, b < 7 → a ≠ b → (TX9 a).2.1 ≠ (TX9 b).2.1 := by decide +kernel
theorem tyX9_ok : ∀ k, k < 7 → parseFieldDescriptor (TX9 k).2.2.1 = some (tyX9 k) := by decide +kernel
theorem inX9 : ∀ w ∈ u_ws RX9 TX9 7, w ∈ sk_wds := sk_all2_mem _ [649, 651, 653, 655, 657, 659, 661] (by decide +kernel)
theorem mkX9 : ∀ w ∈ [Cond.instantiable RX9 7, Cond.initialized RX9], w ∈ sk_wds := sk_all2_mem _ [618, 123] (by decide +kernel)
def RX10 : String := "SkittleRow$Tables"
def TX10 : u_T := fun k => match k with
  | 0 => ("SkittleRow$Tables", "alley", "LSkittleRow$Alley;", false)
  | 1 => ("SkittleRow$Tables", "ownLaw", "I", false)
  | 2 => ("SkittleRow$Tables", "states", "I", false)
  | 3 => ("SkittleRow$Tables", "winning", "[J", true)
  | 4 => ("SkittleRow$Tables", "lengths", "[I", true)
  | 5 => ("SkittleRow$Tables", "playCounts", "[I", true)
  | 6 => ("SkittleRow$Tables", "chances", "[I", true)
  | 7 => ("SkittleRow$Tables", "clever", "[I", true)
  | 8 => ("SkittleRow$Tables", "childish", "[I", true)
  | 9 => ("SkittleRow$Tables", "hasWinning", "Z", false)
  | 10 => ("SkittleRow$Tables", "hasLengths", "Z", false)
  | 11 => ("SkittleRow$Tables", "hasPlayCounts", "Z", false)
  | 12 => ("SkittleRow$Tables", "hasChances", "Z", false)
  | _ => ("SkittleRow$Tables", "hasClever", "Z", false)
def tyX10 : Nat → FieldType := fun k => match k with
  | 0 => .object "SkittleRow$Alley"
  | 1 => .int
  | 2 => .int
  | 3 => .array .long
  | 4 => .array .int
  | 5 => .array .int
  | 6 => .array .int
  | 7 => .array .int
  | 8 => .array .int
  | 9 => .boolean
  | 10 => .boolean
  | 11 => .boolean
  | 12 => .boolean
  | _ => .boolean
theorem nmX10 : ∀ a, a < 14 → ∀ b, b < 14 → a ≠ b → (TX10 a).2.1 ≠ (TX10 b).2.1 := by decide +kernel
theorem tyX10_ok : ∀ k, k < 14 → parseFieldDescriptor (TX10 k).2.2.1 = some (tyX10 k) := by decide +kernel
theorem inX10 : ∀ w ∈ u_ws RX10 TX10 14, w ∈ sk_wds := sk_all2_mem _ [319, 321, 323, 325, 327, 329, 331, 333, 335, 337, 339, 341, 343, 345] (by decide +kernel)
theorem mkX10 : ∀ w ∈ [Cond.instantiable RX10 14, Cond.initialized RX10], w ∈ sk_wds := sk_all2_mem _ [212, 111] (by decide +kernel)
def RX11 : String := "SkittleRow"
def TX11 : u_T := fun k => match k with
  | 0 => ("SkittleRow", "tape", "[C", true)
  | 1 => ("SkittleRow", "tapeLength", "I", false)
  | 2 => ("SkittleRow", "rules", "[LSkittleRow$Rule;", true)
  | 3 => ("SkittleRow", "ruleCount", "I", false)
  | 4 => ("SkittleRow", "now", "LSkittleRow$State;", true)
  | 5 => ("SkittleRow", "images", "[LSkittleRow$State;", true)
  | 6 => ("SkittleRow", "acts", "LSkittleRow$Acts;", true)
  | 7 => ("SkittleRow", "tables", "LSkittleRow$Tables;", true)
  | _ => ("SkittleRow", "bout", "LSkittleRow$Bout;", true)
def tyX11 : Nat → FieldType := fun k => match k with
  | 0 => .array .char
  | 1 => .int
  | 2 => .array (.object "SkittleRow$Rule")
  | 3 => .int
  | 4 => .object "SkittleRow$State"
  | 5 => .array (.object "SkittleRow$State")
  | 6 => .object "SkittleRow$Acts"
  | 7 => .object "SkittleRow$Tables"
  | _ => .object "SkittleRow$Bout"
theorem nmX11 : ∀ a, a < 9 → ∀ b, b < 9 → a ≠ b → (TX11 a).2.1 ≠ (TX11 b).2.1 := by decide +kernel
theorem tyX11_ok : ∀ k, k < 9 → parseFieldDescriptor (TX11 k).2.2.1 = some (tyX11 k) := by decide +kernel
theorem inX11 : ∀ w ∈ u_ws RX11 TX11 9, w ∈ sk_wds := sk_all2_mem _ [409, 411, 413, 415, 417, 419, 421, 423, 425] (by decide +kernel)
theorem mkX11 : ∀ w ∈ [Cond.instantiable RX11 9, Cond.initialized RX11], w ∈ sk_wds := sk_all2_mem _ [129, 108] (by decide +kernel)
def RX12 : String := "SkittleRowModel"
def TX12 : u_T := fun k => match k with
  | 0 => ("SkittleRowModel", "tape", "[B", true)
  | 1 => ("SkittleRowModel", "taped", "I", false)
  | 2 => ("SkittleRowModel", "rules", "I", false)
  | 3 => ("SkittleRowModel", "sign", "[I", true)
  | 4 => ("SkittleRowModel", "length", "[I", true)
  | 5 => ("SkittleRowModel", "clause", "[I", true)
  | 6 => ("SkittleRowModel", "clauses", "[I", true)
  | 7 => ("SkittleRowModel", "read", "[I", true)
  | 8 => ("SkittleRowModel", "next", "I", false)
  | 9 => ("SkittleRowModel", "wrong", "I", false)
  | 10 => ("SkittleRowModel", "number", "I", false)
  | 11 => ("SkittleRowModel", "text", "I", false)
  | 12 => ("SkittleRowModel", "made", "I", false)
  | 13 => ("SkittleRowModel", "deep", "I", false)
  | 14 => ("SkittleRowModel", "lines", "I", false)
  | 15 => ("SkittleRowModel", "open", "[I", true)
  | 16 => ("SkittleRowModel", "opened", "I", false)
  | 17 => ("SkittleRowModel", "stack", "[J", true)
  | 18 => ("SkittleRowModel", "top", "I", false)
  | 19 => ("SkittleRowModel", "word", "[J", true)
  | 20 => ("SkittleRowModel", "said", "[I", true)
  | 21 => ("SkittleRowModel", "x", "I", false)
  | 22 => ("SkittleRowModel", "won", "[Z", true)
  | 23 => ("SkittleRowModel", "tableLaw", "I", false)
  | 24 => ("SkittleRowModel", "wasSaid", "[I", true)
  | 25 => ("SkittleRowModel", "undone", "I", false)
  | 26 => ("SkittleRowModel", "worths", "[I", true)
  | 27 => ("SkittleRowModel", "seen", "[Z", true)
  | 28 => ("SkittleRowModel", "plains", "[I", true)
  | 29 => ("SkittleRowModel", "table", "[I", true)
  | 30 => ("SkittleRowModel", "other", "[I", true)
  | 31 => ("SkittleRowModel", "runsMany", "I", false)
  | 32 => ("SkittleRowModel", "runsLongest", "I", false)
  | 33 => ("SkittleRowModel", "runsAlone", "I", false)
  | 34 => ("SkittleRowModel", "drawX", "J", false)
  | 35 => ("SkittleRowModel", "drawnWins", "I", false)
  | 36 => ("SkittleRowModel", "drawnStrokes", "I", false)
  | 37 => ("SkittleRowModel", "images", "[I", true)
  | 38 => ("SkittleRowModel", "imageX", "[I", true)
  | _ => ("SkittleRowModel", "isMade", "[Z", true)
def tyX12 : Nat → FieldType := fun k => match k with
  | 0 => .array .byte
  | 1 => .int
  | 2 => .int
  | 3 => .array .int
  | 4 => .array .int
  | 5 => .array .int
  | 6 => .array .int
  | 7 => .array .int
  | 8 => .int
  | 9 => .int
  | 10 => .int
  | 11 => .int
  | 12 => .int
  | 13 => .int
  | 14 => .int
  | 15 => .array .int
  | 16 => .int
  | 17 => .array .long
  | 18 => .int
  | 19 => .array .long
  | 20 => .array .int
  | 21 => .int
  | 22 => .array .boolean
  | 23 => .int
  | 24 => .array .int
  | 25 => .int
  | 26 => .array .int
  | 27 => .array .boolean
  | 28 => .array .int
  | 29 => .array .int
  | 30 => .array .int
  | 31 => .int
  | 32 => .int
  | 33 => .int
  | 34 => .long
  | 35 => .int
  | 36 => .int
  | 37 => .array .int
  | 38 => .array .int
  | _ => .array .boolean
theorem nmX12 : ∀ a, a < 40 → ∀ b, b < 40 → a ≠ b → (TX12 a).2.1 ≠ (TX12 b).2.1 := by decide +kernel
theorem tyX12_ok : ∀ k, k < 40 → parseFieldDescriptor (TX12 k).2.2.1 = some (tyX12 k) := by decide +kernel
theorem inX12 : ∀ w ∈ u_ws RX12 TX12 40, w ∈ sk_wds := sk_all2_mem _ [1168, 1170, 1172, 1174, 1176, 1178, 1180, 1182, 1184, 1186, 1188, 1190, 1192, 1194, 1196, 1198, 1200, 1202, 1204, 1206, 1208, 1210, 1212, 1214, 1216, 1218, 1220, 1222, 1224, 1226, 1228, 1230, 1232, 1234, 1236, 1238, 1240, 1242, 1244, 1246] (by decide +kernel)
theorem mkX12 : ∀ w ∈ [Cond.instantiable RX12 40, Cond.initialized RX12], w ∈ sk_wds := sk_all2_mem _ [1123, 115] (by decide +kernel)
def vwCl : List vw_C := [(RX0, TX0, 5), (RX1, TX1, 17), (RX2, TX2, 2), (RX3, TX3, 9), (RX4, TX4, 1), (RX5, TX5, 4), (RX6, TX6, 7), (RX7, TX7, 4), (RX8, TX8, 8), (RX9, TX9, 7), (RX10, TX10, 14), (RX11, TX11, 9), (RX12, TX12, 40)]
def vwTy : Nat → Nat → FieldType := fun c => match c with
  | 0 => tyX0
  | 1 => tyX1
  | 2 => tyX2
  | 3 => tyX3
  | 4 => tyX4
  | 5 => tyX5
  | 6 => tyX6
  | 7 => tyX7
  | 8 => tyX8
  | 9 => tyX9
  | 10 => tyX10
  | 11 => tyX11
  | _ => tyX12
/-- the tags of the fields, by kind less one -/
def sk_ft : Nat → List Nat := fun c => match c with
  | 0 => [2, 2, 2, 0, 0]
  | 1 => [0, 0, 0, 0, 0, 3, 3, 0, 2, 2, 2, 2, 2, 2, 2, 2, 2]
  | 2 => [2, 2]
  | 3 => [2, 2, 2, 0, 0, 0, 1, 0, 0]
  | 4 => [2]
  | 5 => [2, 0, 0, 0]
  | 6 => [2, 0, 2, 2, 2, 2, 0]
  | 7 => [2, 2, 0, 0]
  | 8 => [2, 0, 0, 0, 0, 2, 2, 2]
  | 9 => [0, 0, 0, 0, 0, 0, 1]
  | 10 => [2, 0, 0, 2, 2, 2, 2, 2, 2, 3, 3, 3, 3, 3]
  | 11 => [2, 0, 2, 0, 2, 2, 2, 2, 2]
  | 12 => [2, 0, 0, 2, 2, 2, 2, 2, 0, 0, 0, 0, 0, 0, 0, 2, 0, 2, 0, 2, 2, 0, 2, 0, 2, 0, 2, 2, 2, 2, 2, 0, 0, 0, 1, 0, 0, 2, 2, 2]
  | _ => []
def sk_wl0 : List Cond := [
  (.fieldLink "SkittleRow$Acts" (28) "SkittleRow$State" "standing" "I"),
  (.fieldLink "SkittleRow$Acts" (32) "SkittleRow$State" "turn" "I"),
  (.fieldLink "SkittleRow$Acts" (34) "SkittleRow$State" "played" "I"),
  (.methodLink "SkittleRow$Acts" (3) ({ cls := "java/lang/Object", name := "<init>", desc := "()V" } : MethodName)),
  (.fieldLink "SkittleRow$Acts" (9) "SkittleRow$Acts" "standing" "[I"),
  (.fieldLink "SkittleRow$Acts" (15) "SkittleRow$Acts" "turn" "[I"),
  (.fieldLink "SkittleRow$Acts" (18) "SkittleRow$Acts" "played" "[I"),
  (.fieldLink "SkittleRow$Acts" (25) "SkittleRow$Acts" "next" "I"),
  (.fieldLink "SkittleRow$Acts" (21) "SkittleRow$Acts" "kept" "I"),
  (.methodLink "SkittleRow$Acts" (36) ({ cls := "java/lang/Math", name := "min", desc := "(II)I" } : MethodName))]
theorem sk_wl0_in : ∀ w ∈ sk_wl0, w ∈ sk_wds := sk_all2_mem _ [151, 155, 159, 193, 194, 195, 196, 197, 198, 875] (by decide +kernel)
def sk_wl1 : List Cond := [
  (.methodLink "SkittleRow$Alley" (3) ({ cls := "java/lang/Object", name := "<init>", desc := "()V" } : MethodName)),
  (.classLink "SkittleRow$Alley" (31) "SkittleRow$Stroke"),
  (.fieldLink "SkittleRow$Alley" (50) "SkittleRow$Alley" "standing" "I"),
  (.fieldLink "SkittleRow$Alley" (47) "SkittleRow$Alley" "places" "I"),
  (.fieldLink "SkittleRow$Alley" (43) "SkittleRow$Alley" "rows" "I"),
  (.fieldLink "SkittleRow$Alley" (53) "SkittleRow$Alley" "hits" "I"),
  (.fieldLink "SkittleRow$Alley" (88) "SkittleRow$Alley" "ends" "Z"),
  (.fieldLink "SkittleRow$Alley" (120) "SkittleRow$Alley" "last" "Z"),
  (.fieldLink "SkittleRow$Alley" (123) "SkittleRow$Alley" "stray" "I"),
  (.fieldLink "SkittleRow$Alley" (9) "SkittleRow$Alley" "rowOf" "[I"),
  (.fieldLink "SkittleRow$Alley" (15) "SkittleRow$Alley" "rowFirst" "[I"),
  (.fieldLink "SkittleRow$Alley" (18) "SkittleRow$Alley" "rowSize" "[I"),
  (.fieldLink "SkittleRow$Alley" (21) "SkittleRow$Alley" "ring" "[Z"),
  (.fieldLink "SkittleRow$Alley" (25) "SkittleRow$Alley" "behind" "[I"),
  (.fieldLink "SkittleRow$Alley" (28) "SkittleRow$Alley" "ahead" "[I"),
  (.fieldLink "SkittleRow$Alley" (33) "SkittleRow$Alley" "strokes" "[LSkittleRow$Stroke;"),
  (.fieldLink "SkittleRow$Alley" (37) "SkittleRow$Alley" "strokesOfAnyLaw" "[LSkittleRow$Stroke;"),
  (.fieldLink "SkittleRow$Alley" (40) "SkittleRow$Alley" "plainWorths" "[I"),
  (.methodLink "SkittleRow$Alley" (56) ({ cls := "SkittleRow$Alley", name := "listStrokes", desc := "()V" } : MethodName)),
  (.methodLink "SkittleRow$Alley" (67) ({ cls := "SkittleRow$Alley", name := "bitOf", desc := "(I)I" } : MethodName)),
  (.methodLink "SkittleRow$Alley" (71) ({ cls := "SkittleRow$Stroke", name := "<init>", desc := "(IIIIII)V" } : MethodName)),
  (.fieldLink "SkittleRow$Alley" (96) "SkittleRow$Stroke" "place" "I"),
  (.fieldLink "SkittleRow$Alley" (78) "SkittleRow$Stroke" "many" "I"),
  (.fieldLink "SkittleRow$Alley" (85) "SkittleRow$Stroke" "mask" "I"),
  (.methodLink "SkittleRow$Alley" (74) ({ cls := "SkittleRow$Alley", name := "chosen", desc := "([LSkittleRow$Stroke;II)[LSkittleRow$Stroke;" } : MethodName)),
  (.methodLink "SkittleRow$Alley" (81) ({ cls := "SkittleRow$Alley", name := "hasHit", desc := "(II)Z" } : MethodName)),
  (.methodLink "SkittleRow$Alley" (59) ({ cls := "SkittleRow$Alley", name := "plainLeavings", desc := "(I)J" } : MethodName)),
  (.methodLink "SkittleRow$Alley" (63) ({ cls := "SkittleRow$Alley", name := "leastLeftOut", desc := "(J)I" } : MethodName)),
  (.constantLong "SkittleRow$Alley" (103) (-1 : Int64)),
  (.methodLink "SkittleRow$Alley" (105) ({ cls := "java/lang/Long", name := "numberOfTrailingZeros", desc := "(J)I" } : MethodName)),
  (.methodLink "SkittleRow$Alley" (99) ({ cls := "SkittleRow$Alley", name := "allows", desc := "(ILSkittleRow$Stroke;)Z" } : MethodName)),
  (.methodLink "SkittleRow$Alley" (92) ({ cls := "SkittleRow$Stroke", name := "hasEndIn", desc := "(I)Z" } : MethodName)),
  (.methodLink "SkittleRow$Alley" (110) ({ cls := "SkittleRow$Alley", name := "isWholeRing", desc := "(II)Z" } : MethodName)),
  (.methodLink "SkittleRow$Alley" (113) ({ cls := "SkittleRow$Alley", name := "ringLeavings", desc := "(I)J" } : MethodName)),
  (.methodLink "SkittleRow$Alley" (116) ({ cls := "SkittleRow$Alley", name := "runFrom", desc := "(II)I" } : MethodName))]
theorem sk_wl1_in : ∀ w ∈ sk_wl1, w ∈ sk_wds := sk_all2_mem _ [222, 223, 227, 228, 233, 237, 241, 245, 248, 249, 251, 253, 255, 257, 259, 261, 265, 267, 614, 619, 622, 630, 634, 643, 665, 668, 671, 675, 678, 679, 843, 847, 920, 924, 928] (by decide +kernel)
def sk_wl2 : List Cond := [
  (.fieldLink "SkittleRow$AlleyReader" (63) "SkittleRow$Alley" "first" "I"),
  (.fieldLink "SkittleRow$AlleyReader" (100) "SkittleRow$Alley" "places" "I"),
  (.fieldLink "SkittleRow$AlleyReader" (85) "SkittleRow$Alley" "rows" "I"),
  (.fieldLink "SkittleRow$AlleyReader" (117) "SkittleRow$Alley" "hits" "I"),
  (.fieldLink "SkittleRow$AlleyReader" (75) "SkittleRow$Alley" "ends" "Z"),
  (.fieldLink "SkittleRow$AlleyReader" (79) "SkittleRow$Alley" "last" "Z"),
  (.fieldLink "SkittleRow$AlleyReader" (82) "SkittleRow$Alley" "stray" "I"),
  (.fieldLink "SkittleRow$AlleyReader" (96) "SkittleRow$Alley" "rowFirst" "[I"),
  (.fieldLink "SkittleRow$AlleyReader" (110) "SkittleRow$Alley" "rowSize" "[I"),
  (.fieldLink "SkittleRow$AlleyReader" (113) "SkittleRow$Alley" "ring" "[Z"),
  (.fieldLink "SkittleRow$AlleyReader" (44) "SkittleRow$Reader" "at" "I"),
  (.methodLink "SkittleRow$AlleyReader" (3) ({ cls := "java/lang/Object", name := "<init>", desc := "()V" } : MethodName)),
  (.classLink "SkittleRow$AlleyReader" (9) "SkittleRow$Alley"),
  (.methodLink "SkittleRow$AlleyReader" (11) ({ cls := "SkittleRow$Alley", name := "<init>", desc := "()V" } : MethodName)),
  (.fieldLink "SkittleRow$AlleyReader" (18) "SkittleRow$AlleyReader" "text" "LSkittleRow$Reader;"),
  (.fieldLink "SkittleRow$AlleyReader" (12) "SkittleRow$AlleyReader" "told" "LSkittleRow$Alley;"),
  (.methodLink "SkittleRow$AlleyReader" (22) ({ cls := "SkittleRow$AlleyReader", name := "readClause", desc := "(I)V" } : MethodName)),
  (.methodLink "SkittleRow$AlleyReader" (40) ({ cls := "SkittleRow$Reader", name := "wordOf", desc := "(Ljava/lang/String;)I" } : MethodName)),
  (.methodLink "SkittleRow$AlleyReader" (48) ({ cls := "SkittleRow$Reader", name := "refuse", desc := "(II)V" } : MethodName)),
  (.methodLink "SkittleRow$AlleyReader" (52) ({ cls := "SkittleRow$AlleyReader", name := "isTooMany", desc := "(II)Z" } : MethodName)),
  (.methodLink "SkittleRow$AlleyReader" (56) ({ cls := "SkittleRow$Reader", name := "skipWord", desc := "()V" } : MethodName)),
  (.methodLink "SkittleRow$AlleyReader" (59) ({ cls := "SkittleRow$Reader", name := "number", desc := "(II)I" } : MethodName)),
  (.methodLink "SkittleRow$AlleyReader" (66) ({ cls := "SkittleRow$AlleyReader", name := "readRow", desc := "()V" } : MethodName)),
  (.methodLink "SkittleRow$AlleyReader" (88) ({ cls := "SkittleRow$Reader", name := "next", desc := "()I" } : MethodName)),
  (.methodLink "SkittleRow$AlleyReader" (92) ({ cls := "SkittleRow$AlleyReader", name := "isPlace", desc := "(I)Z" } : MethodName)),
  (.methodLink "SkittleRow$AlleyReader" (32) ({ cls := "SkittleRow$Reader", name := "sound", desc := "()Z" } : MethodName)),
  (.methodLink "SkittleRow$AlleyReader" (103) ({ cls := "SkittleRow$Reader", name := "look", desc := "()I" } : MethodName)),
  (.methodLink "SkittleRow$AlleyReader" (106) ({ cls := "SkittleRow$Alley", name := "addPlace", desc := "(Z)V" } : MethodName)),
  (.methodLink "SkittleRow$AlleyReader" (69) ({ cls := "SkittleRow$AlleyReader", name := "readRing", desc := "()V" } : MethodName)),
  (.methodLink "SkittleRow$AlleyReader" (72) ({ cls := "SkittleRow$AlleyReader", name := "readHit", desc := "()V" } : MethodName)),
  (.methodLink "SkittleRow$AlleyReader" (26) ({ cls := "SkittleRow$Reader", name := "goesOn", desc := "()Z" } : MethodName)),
  (.methodLink "SkittleRow$AlleyReader" (35) ({ cls := "SkittleRow$Alley", name := "settle", desc := "()V" } : MethodName))]
theorem sk_wl2_in : ∀ w ∈ sk_wl2, w ∈ sk_wds := sk_all2_mem _ [225, 231, 234, 238, 240, 244, 246, 252, 254, 256, 456, 474, 475, 476, 477, 478, 488, 493, 553, 557, 561, 565, 573, 577, 578, 581, 585, 589, 593, 597, 601, 610] (by decide +kernel)
def sk_wl3 : List Cond := [
  (.fieldLink "SkittleRow$Bout" (29) "SkittleRow$State" "alley" "LSkittleRow$Alley;"),
  (.fieldLink "SkittleRow$Bout" (42) "SkittleRow$State" "standing" "I"),
  (.fieldLink "SkittleRow$Bout" (46) "SkittleRow$State" "turn" "I"),
  (.fieldLink "SkittleRow$Bout" (50) "SkittleRow$State" "played" "I"),
  (.fieldLink "SkittleRow$Bout" (36) "SkittleRow$State" "x" "I"),
  (.fieldLink "SkittleRow$Bout" (58) "SkittleRow$Alley" "last" "Z"),
  (.fieldLink "SkittleRow$Bout" (77) "SkittleRow$Alley" "strokes" "[LSkittleRow$Stroke;"),
  (.methodLink "SkittleRow$Bout" (3) ({ cls := "java/lang/Object", name := "<init>", desc := "()V" } : MethodName)),
  (.classLink "SkittleRow$Bout" (9) "SkittleRow$Look"),
  (.methodLink "SkittleRow$Bout" (11) ({ cls := "SkittleRow$Look", name := "<init>", desc := "()V" } : MethodName)),
  (.fieldLink "SkittleRow$Bout" (12) "SkittleRow$Bout" "look" "LSkittleRow$Look;"),
  (.fieldLink "SkittleRow$Bout" (25) "SkittleRow$Bout" "tables" "LSkittleRow$Tables;"),
  (.fieldLink "SkittleRow$Bout" (35) "SkittleRow$Bout" "alley" "LSkittleRow$Alley;"),
  (.fieldLink "SkittleRow$Bout" (45) "SkittleRow$Bout" "standing" "I"),
  (.fieldLink "SkittleRow$Bout" (49) "SkittleRow$Bout" "turn" "I"),
  (.fieldLink "SkittleRow$Bout" (53) "SkittleRow$Bout" "played" "I"),
  (.fieldLink "SkittleRow$Bout" (39) "SkittleRow$Bout" "x" "J"),
  (.fieldLink "SkittleRow$Bout" (18) "SkittleRow$Bout" "wonByZero" "I"),
  (.fieldLink "SkittleRow$Bout" (22) "SkittleRow$Bout" "strokes" "I"),
  (.fieldLink "SkittleRow$Bout" (72) "SkittleRow$Stroke" "mask" "I"),
  (.fieldLink "SkittleRow$Bout" (84) "SkittleRow$Rule" "words" "I"),
  (.methodLink "SkittleRow$Bout" (54) ({ cls := "SkittleRow$Bout", name := "playOut", desc := "(LSkittleRow$Rule;LSkittleRow$Rule;)V" } : MethodName)),
  (.methodLink "SkittleRow$Bout" (64) ({ cls := "SkittleRow$Bout", name := "drawn", desc := "()LSkittleRow$Stroke;" } : MethodName)),
  (.methodLink "SkittleRow$Bout" (80) ({ cls := "SkittleRow$Alley", name := "allows", desc := "(ILSkittleRow$Stroke;)Z" } : MethodName)),
  (.constantLong "SkittleRow$Bout" (97) (1103515245 : Int64)),
  (.constantLong "SkittleRow$Bout" (99) (12345 : Int64)),
  (.constantLong "SkittleRow$Bout" (101) (2147483647 : Int64)),
  (.constantLong "SkittleRow$Bout" (103) (65536 : Int64)),
  (.methodLink "SkittleRow$Bout" (68) ({ cls := "SkittleRow$Bout", name := "bestBy", desc := "(LSkittleRow$Rule;)LSkittleRow$Stroke;" } : MethodName)),
  (.methodLink "SkittleRow$Bout" (89) ({ cls := "SkittleRow$Look", name := "lookAt", desc := "(LSkittleRow$Bout;LSkittleRow$Stroke;I)V" } : MethodName)),
  (.methodLink "SkittleRow$Bout" (93) ({ cls := "SkittleRow$Rule", name := "valueOf", desc := "(LSkittleRow$Look;)J" } : MethodName))]
theorem sk_wl3_in : ∀ w ∈ sk_wl3, w ∈ sk_wds := sk_all2_mem _ [147, 150, 154, 158, 161, 243, 262, 354, 355, 357, 365, 366, 368, 370, 372, 374, 376, 377, 379, 641, 739, 1016, 1020, 1024, 1025, 1026, 1027, 1028, 1029, 1033, 1045] (by decide +kernel)
def sk_wl4 : List Cond := [
  (.fieldLink "SkittleRow$Look" (65) "SkittleRow$Alley" "places" "I"),
  (.methodLink "SkittleRow$Look" (3) ({ cls := "java/lang/Object", name := "<init>", desc := "()V" } : MethodName)),
  (.fieldLink "SkittleRow$Look" (9) "SkittleRow$Look" "values" "[J"),
  (.fieldLink "SkittleRow$Look" (47) "SkittleRow$Bout" "tables" "LSkittleRow$Tables;"),
  (.fieldLink "SkittleRow$Look" (57) "SkittleRow$Bout" "alley" "LSkittleRow$Alley;"),
  (.fieldLink "SkittleRow$Look" (15) "SkittleRow$Bout" "standing" "I"),
  (.fieldLink "SkittleRow$Look" (41) "SkittleRow$Bout" "turn" "I"),
  (.fieldLink "SkittleRow$Look" (44) "SkittleRow$Bout" "played" "I"),
  (.fieldLink "SkittleRow$Look" (26) "SkittleRow$Stroke" "place" "I"),
  (.fieldLink "SkittleRow$Look" (29) "SkittleRow$Stroke" "many" "I"),
  (.fieldLink "SkittleRow$Look" (32) "SkittleRow$Stroke" "row" "I"),
  (.fieldLink "SkittleRow$Look" (21) "SkittleRow$Stroke" "mask" "I"),
  (.methodLink "SkittleRow$Look" (35) ({ cls := "java/lang/Integer", name := "bitCount", desc := "(I)I" } : MethodName)),
  (.methodLink "SkittleRow$Look" (51) ({ cls := "SkittleRow$Tables", name := "canWin", desc := "(I)Z" } : MethodName)),
  (.methodLink "SkittleRow$Look" (61) ({ cls := "SkittleRow$Look", name := "countRuns", desc := "(LSkittleRow$Alley;I)V" } : MethodName)),
  (.methodLink "SkittleRow$Look" (70) ({ cls := "SkittleRow$Alley", name := "runFrom", desc := "(II)I" } : MethodName)),
  (.methodLink "SkittleRow$Look" (74) ({ cls := "java/lang/Math", name := "max", desc := "(II)I" } : MethodName))]
theorem sk_wl4_in : ∀ w ∈ sk_wl4, w ∈ sk_wds := sk_all2_mem _ [230, 360, 361, 367, 369, 371, 373, 375, 629, 633, 637, 639, 1037, 1038, 1039, 1043, 1044] (by decide +kernel)
def sk_wl5 : List Cond := [
  (.methodLink "SkittleRow$Reader" (3) ({ cls := "java/lang/Object", name := "<init>", desc := "()V" } : MethodName)),
  (.methodLink "SkittleRow$Reader" (19) ({ cls := "java/lang/Math", name := "min", desc := "(II)I" } : MethodName)),
  (.fieldLink "SkittleRow$Reader" (15) "SkittleRow$Reader" "text" "[C"),
  (.fieldLink "SkittleRow$Reader" (25) "SkittleRow$Reader" "length" "I"),
  (.fieldLink "SkittleRow$Reader" (28) "SkittleRow$Reader" "at" "I"),
  (.fieldLink "SkittleRow$Reader" (9) "SkittleRow$Reader" "fault" "I"),
  (.methodLink "SkittleRow$Reader" (35) ({ cls := "SkittleRow$Reader", name := "next", desc := "()I" } : MethodName)),
  (.methodLink "SkittleRow$Reader" (39) ({ cls := "java/lang/String", name := "length", desc := "()I" } : MethodName)),
  (.methodLink "SkittleRow$Reader" (43) ({ cls := "java/lang/String", name := "charAt", desc := "(I)C" } : MethodName)),
  (.methodLink "SkittleRow$Reader" (47) ({ cls := "SkittleRow$Reader", name := "isWord", desc := "(Ljava/lang/String;II)Z" } : MethodName)),
  (.methodLink "SkittleRow$Reader" (58) ({ cls := "SkittleRow$Reader", name := "isDigit", desc := "(I)Z" } : MethodName)),
  (.methodLink "SkittleRow$Reader" (62) ({ cls := "SkittleRow$Reader", name := "refuse", desc := "(II)V" } : MethodName)),
  (.methodLink "SkittleRow$Reader" (31) ({ cls := "SkittleRow$Reader", name := "sound", desc := "()Z" } : MethodName)),
  (.methodLink "SkittleRow$Reader" (66) ({ cls := "SkittleRow$Reader", name := "takes", desc := "(I)Z" } : MethodName)),
  (.methodLink "SkittleRow$Reader" (51) ({ cls := "SkittleRow$Reader", name := "wordOf", desc := "(Ljava/lang/String;)I" } : MethodName)),
  (.methodLink "SkittleRow$Reader" (55) ({ cls := "SkittleRow$Reader", name := "skipWord", desc := "()V" } : MethodName))]
theorem sk_wl5_in : ∀ w ∈ sk_wl5, w ∈ sk_wds := sk_all2_mem _ [449, 450, 453, 454, 457, 458, 497, 501, 511, 549, 569, 572, 605, 606, 794, 795] (by decide +kernel)
def sk_wl6 : List Cond := [
  (.methodLink "SkittleRow$Rule" (3) ({ cls := "java/lang/Object", name := "<init>", desc := "()V" } : MethodName)),
  (.fieldLink "SkittleRow$Rule" (9) "SkittleRow$Rule" "code" "[I"),
  (.fieldLink "SkittleRow$Rule" (28) "SkittleRow$Rule" "clauses" "I"),
  (.fieldLink "SkittleRow$Rule" (15) "SkittleRow$Rule" "sumFrom" "[I"),
  (.fieldLink "SkittleRow$Rule" (18) "SkittleRow$Rule" "testFrom" "[I"),
  (.fieldLink "SkittleRow$Rule" (21) "SkittleRow$Rule" "testTo" "[I"),
  (.fieldLink "SkittleRow$Rule" (24) "SkittleRow$Rule" "stack" "[J"),
  (.fieldLink "SkittleRow$Rule" (41) "SkittleRow$Rule" "words" "I"),
  (.methodLink "SkittleRow$Rule" (32) ({ cls := "java/lang/Math", name := "min", desc := "(II)I" } : MethodName)),
  (.methodLink "SkittleRow$Rule" (38) ({ cls := "java/lang/Math", name := "max", desc := "(II)I" } : MethodName)),
  (.constant "SkittleRow$Rule" (44) (100000 : Int32)),
  (.methodLink "SkittleRow$Rule" (45) ({ cls := "SkittleRow$Rule", name := "reckon", desc := "(IILSkittleRow$Look;)J" } : MethodName)),
  (.methodLink "SkittleRow$Rule" (49) ({ cls := "SkittleRow$Look", name := "word", desc := "(I)J" } : MethodName)),
  (.methodLink "SkittleRow$Rule" (55) ({ cls := "SkittleRow$Rule", name := "join", desc := "(IJJ)J" } : MethodName))]
theorem sk_wl6_in : ∀ w ∈ sk_wl6, w ∈ sk_wds := sk_all2_mem _ [731, 732, 733, 734, 735, 736, 737, 738, 826, 827, 830, 1049, 1053, 1057] (by decide +kernel)
def sk_wl7 : List Cond := [
  (.fieldLink "SkittleRow$RuleReader" (49) "SkittleRow$Reader" "at" "I"),
  (.methodLink "SkittleRow$RuleReader" (3) ({ cls := "java/lang/Object", name := "<init>", desc := "()V" } : MethodName)),
  (.fieldLink "SkittleRow$RuleReader" (15) "SkittleRow$RuleReader" "text" "LSkittleRow$Reader;"),
  (.fieldLink "SkittleRow$RuleReader" (9) "SkittleRow$RuleReader" "code" "[I"),
  (.fieldLink "SkittleRow$RuleReader" (35) "SkittleRow$RuleReader" "size" "I"),
  (.fieldLink "SkittleRow$RuleReader" (126) "SkittleRow$RuleReader" "parts" "I"),
  (.classLink "SkittleRow$RuleReader" (19) "SkittleRow$Rule"),
  (.methodLink "SkittleRow$RuleReader" (21) ({ cls := "SkittleRow$Rule", name := "<init>", desc := "()V" } : MethodName)),
  (.methodLink "SkittleRow$RuleReader" (22) ({ cls := "SkittleRow$RuleReader", name := "readClause", desc := "(ILSkittleRow$Rule;)V" } : MethodName)),
  (.methodLink "SkittleRow$RuleReader" (45) ({ cls := "SkittleRow$Reader", name := "wordOf", desc := "(Ljava/lang/String;)I" } : MethodName)),
  (.methodLink "SkittleRow$RuleReader" (52) ({ cls := "SkittleRow$Reader", name := "refuse", desc := "(II)V" } : MethodName)),
  (.methodLink "SkittleRow$RuleReader" (56) ({ cls := "SkittleRow$Reader", name := "skipWord", desc := "()V" } : MethodName)),
  (.methodLink "SkittleRow$RuleReader" (59) ({ cls := "SkittleRow$RuleReader", name := "readSum", desc := "()V" } : MethodName)),
  (.methodLink "SkittleRow$RuleReader" (108) ({ cls := "SkittleRow$RuleReader", name := "readValue", desc := "()V" } : MethodName)),
  (.methodLink "SkittleRow$RuleReader" (89) ({ cls := "SkittleRow$Reader", name := "next", desc := "()I" } : MethodName)),
  (.methodLink "SkittleRow$RuleReader" (32) ({ cls := "SkittleRow$Reader", name := "sound", desc := "()Z" } : MethodName)),
  (.methodLink "SkittleRow$RuleReader" (115) ({ cls := "SkittleRow$Reader", name := "isDigit", desc := "(I)Z" } : MethodName)),
  (.constant "SkittleRow$RuleReader" (118) (99999 : Int32)),
  (.methodLink "SkittleRow$RuleReader" (119) ({ cls := "SkittleRow$Reader", name := "number", desc := "(II)I" } : MethodName)),
  (.constant "SkittleRow$RuleReader" (125) (100000 : Int32)),
  (.methodLink "SkittleRow$RuleReader" (102) ({ cls := "SkittleRow$RuleReader", name := "countPart", desc := "(I)V" } : MethodName)),
  (.methodLink "SkittleRow$RuleReader" (81) ({ cls := "SkittleRow$RuleReader", name := "put", desc := "(I)V" } : MethodName)),
  (.methodLink "SkittleRow$RuleReader" (111) ({ cls := "SkittleRow$RuleReader", name := "codeOf", desc := "(I)I" } : MethodName)),
  (.methodLink "SkittleRow$RuleReader" (64) ({ cls := "SkittleRow$Reader", name := "takesWord", desc := "(Ljava/lang/String;)Z" } : MethodName)),
  (.methodLink "SkittleRow$RuleReader" (68) ({ cls := "SkittleRow$RuleReader", name := "readTest", desc := "(I)V" } : MethodName)),
  (.methodLink "SkittleRow$RuleReader" (76) ({ cls := "SkittleRow$RuleReader", name := "readPart", desc := "(I)V" } : MethodName)),
  (.methodLink "SkittleRow$RuleReader" (84) ({ cls := "SkittleRow$RuleReader", name := "readFact", desc := "(I)V" } : MethodName)),
  (.methodLink "SkittleRow$RuleReader" (95) ({ cls := "SkittleRow$RuleReader", name := "readSign", desc := "()I" } : MethodName)),
  (.methodLink "SkittleRow$RuleReader" (105) ({ cls := "SkittleRow$Reader", name := "look", desc := "()I" } : MethodName)),
  (.methodLink "SkittleRow$RuleReader" (98) ({ cls := "SkittleRow$Reader", name := "takes", desc := "(I)Z" } : MethodName)),
  (.methodLink "SkittleRow$RuleReader" (72) ({ cls := "SkittleRow$Rule", name := "addClause", desc := "(III)V" } : MethodName)),
  (.methodLink "SkittleRow$RuleReader" (26) ({ cls := "SkittleRow$Reader", name := "goesOn", desc := "()Z" } : MethodName)),
  (.methodLink "SkittleRow$RuleReader" (39) ({ cls := "SkittleRow$Rule", name := "settle", desc := "([II)V" } : MethodName))]
theorem sk_wl7_in : ∀ w ∈ sk_wl7, w ∈ sk_wds := sk_all2_mem _ [455, 708, 709, 710, 711, 712, 726, 728, 755, 760, 761, 762, 763, 767, 771, 772, 773, 774, 775, 777, 778, 782, 786, 790, 796, 800, 804, 809, 813, 814, 817, 821, 822] (by decide +kernel)
def sk_wl8 : List Cond := [
  (.methodLink "SkittleRow$State" (3) ({ cls := "java/lang/Object", name := "<init>", desc := "()V" } : MethodName)),
  (.classLink "SkittleRow$State" (18) "SkittleRow$Stroke"),
  (.fieldLink "SkittleRow$State" (24) "SkittleRow$State" "alley" "LSkittleRow$Alley;"),
  (.fieldLink "SkittleRow$State" (34) "SkittleRow$State" "standing" "I"),
  (.fieldLink "SkittleRow$State" (38) "SkittleRow$State" "turn" "I"),
  (.fieldLink "SkittleRow$State" (41) "SkittleRow$State" "played" "I"),
  (.fieldLink "SkittleRow$State" (57) "SkittleRow$State" "x" "I"),
  (.fieldLink "SkittleRow$State" (9) "SkittleRow$State" "notePlayer" "[I"),
  (.fieldLink "SkittleRow$State" (15) "SkittleRow$State" "noteStanding" "[I"),
  (.fieldLink "SkittleRow$State" (20) "SkittleRow$State" "noteStroke" "[LSkittleRow$Stroke;"),
  (.fieldLink "SkittleRow$State" (35) "SkittleRow$Alley" "first" "I"),
  (.fieldLink "SkittleRow$State" (28) "SkittleRow$Alley" "standing" "I"),
  (.fieldLink "SkittleRow$State" (54) "SkittleRow$Stroke" "mask" "I"),
  (.methodLink "SkittleRow$State" (44) ({ cls := "java/lang/Math", name := "min", desc := "(II)I" } : MethodName)),
  (.methodLink "SkittleRow$State" (50) ({ cls := "SkittleRow$State", name := "noted", desc := "()I" } : MethodName))]
theorem sk_wl8_in : ∀ w ∈ sk_wl8, w ∈ sk_wds := sk_all2_mem _ [143, 144, 146, 149, 153, 157, 162, 164, 165, 167, 224, 226, 642, 1068, 1073] (by decide +kernel)
def sk_wl9 : List Cond := [
  (.methodLink "SkittleRow$Stroke" (1) ({ cls := "java/lang/Object", name := "<init>", desc := "()V" } : MethodName)),
  (.fieldLink "SkittleRow$Stroke" (7) "SkittleRow$Stroke" "place" "I"),
  (.fieldLink "SkittleRow$Stroke" (13) "SkittleRow$Stroke" "many" "I"),
  (.fieldLink "SkittleRow$Stroke" (16) "SkittleRow$Stroke" "row" "I"),
  (.fieldLink "SkittleRow$Stroke" (19) "SkittleRow$Stroke" "mask" "I"),
  (.fieldLink "SkittleRow$Stroke" (22) "SkittleRow$Stroke" "behind" "I"),
  (.fieldLink "SkittleRow$Stroke" (25) "SkittleRow$Stroke" "ahead" "I"),
  (.fieldLink "SkittleRow$Stroke" (34) "SkittleRow$Stroke" "laws" "J")]
theorem sk_wl9_in : ∀ w ∈ sk_wl9, w ∈ sk_wds := sk_all2_mem _ [625, 628, 632, 636, 638, 644, 645, 647] (by decide +kernel)
def sk_wl10 : List Cond := [
  (.methodLink "SkittleRow$Tables" (3) ({ cls := "java/lang/Object", name := "<init>", desc := "()V" } : MethodName)),
  (.classLink "SkittleRow$Tables" (9) "SkittleRow$Alley"),
  (.methodLink "SkittleRow$Tables" (11) ({ cls := "SkittleRow$Alley", name := "<init>", desc := "()V" } : MethodName)),
  (.fieldLink "SkittleRow$Tables" (38) "SkittleRow$Alley" "places" "I"),
  (.fieldLink "SkittleRow$Tables" (45) "SkittleRow$Alley" "hits" "I"),
  (.fieldLink "SkittleRow$Tables" (48) "SkittleRow$Alley" "ends" "Z"),
  (.fieldLink "SkittleRow$Tables" (52) "SkittleRow$Alley" "last" "Z"),
  (.fieldLink "SkittleRow$Tables" (129) "SkittleRow$Alley" "stray" "I"),
  (.fieldLink "SkittleRow$Tables" (102) "SkittleRow$Alley" "strokes" "[LSkittleRow$Stroke;"),
  (.fieldLink "SkittleRow$Tables" (73) "SkittleRow$Alley" "strokesOfAnyLaw" "[LSkittleRow$Stroke;"),
  (.fieldLink "SkittleRow$Tables" (12) "SkittleRow$Tables" "alley" "LSkittleRow$Alley;"),
  (.fieldLink "SkittleRow$Tables" (55) "SkittleRow$Tables" "ownLaw" "I"),
  (.fieldLink "SkittleRow$Tables" (42) "SkittleRow$Tables" "states" "I"),
  (.fieldLink "SkittleRow$Tables" (18) "SkittleRow$Tables" "winning" "[J"),
  (.fieldLink "SkittleRow$Tables" (22) "SkittleRow$Tables" "lengths" "[I"),
  (.fieldLink "SkittleRow$Tables" (26) "SkittleRow$Tables" "playCounts" "[I"),
  (.fieldLink "SkittleRow$Tables" (29) "SkittleRow$Tables" "chances" "[I"),
  (.fieldLink "SkittleRow$Tables" (32) "SkittleRow$Tables" "clever" "[I"),
  (.fieldLink "SkittleRow$Tables" (35) "SkittleRow$Tables" "childish" "[I"),
  (.fieldLink "SkittleRow$Tables" (58) "SkittleRow$Tables" "hasWinning" "Z"),
  (.fieldLink "SkittleRow$Tables" (61) "SkittleRow$Tables" "hasLengths" "Z"),
  (.fieldLink "SkittleRow$Tables" (64) "SkittleRow$Tables" "hasPlayCounts" "Z"),
  (.fieldLink "SkittleRow$Tables" (67) "SkittleRow$Tables" "hasChances" "Z"),
  (.fieldLink "SkittleRow$Tables" (70) "SkittleRow$Tables" "hasClever" "Z"),
  (.fieldLink "SkittleRow$Tables" (77) "SkittleRow$Stroke" "mask" "I"),
  (.fieldLink "SkittleRow$Tables" (126) "SkittleRow$Stroke" "ahead" "I"),
  (.fieldLink "SkittleRow$Tables" (86) "SkittleRow$Stroke" "laws" "J"),
  (.methodLink "SkittleRow$Tables" (99) ({ cls := "SkittleRow$Tables", name := "canWin", desc := "(I)Z" } : MethodName)),
  (.methodLink "SkittleRow$Tables" (96) ({ cls := "SkittleRow$Tables", name := "fillWinning", desc := "()V" } : MethodName)),
  (.methodLink "SkittleRow$Tables" (82) ({ cls := "SkittleRow$Stroke", name := "hasEndIn", desc := "(I)Z" } : MethodName)),
  (.constantLong "SkittleRow$Tables" (90) (230584300921369395 : Int64)),
  (.constantLong "SkittleRow$Tables" (92) (-1 : Int64)),
  (.constantLong "SkittleRow$Tables" (94) (768614336404564650 : Int64)),
  (.methodLink "SkittleRow$Tables" (118) ({ cls := "SkittleRow$Tables", name := "fillLengths", desc := "()V" } : MethodName)),
  (.methodLink "SkittleRow$Tables" (105) ({ cls := "SkittleRow$Alley", name := "allows", desc := "(ILSkittleRow$Stroke;)Z" } : MethodName)),
  (.methodLink "SkittleRow$Tables" (109) ({ cls := "SkittleRow$Tables", name := "winsBy", desc := "(ILSkittleRow$Stroke;)Z" } : MethodName)),
  (.methodLink "SkittleRow$Tables" (112) ({ cls := "java/lang/Math", name := "max", desc := "(II)I" } : MethodName)),
  (.methodLink "SkittleRow$Tables" (123) ({ cls := "SkittleRow$Tables", name := "fillPlayCounts", desc := "()V" } : MethodName)),
  (.constantLong "SkittleRow$Tables" (121) (1000000007 : Int64)),
  (.methodLink "SkittleRow$Tables" (132) ({ cls := "SkittleRow$Tables", name := "fillChances", desc := "()V" } : MethodName)),
  (.methodLink "SkittleRow$Tables" (135) ({ cls := "SkittleRow$Tables", name := "fillClever", desc := "()V" } : MethodName))]
theorem sk_wl10_in : ∀ w ∈ sk_wl10, w ∈ sk_wds := sk_all2_mem _ [216, 217, 219, 229, 236, 239, 242, 247, 263, 266, 305, 306, 307, 308, 309, 310, 311, 312, 313, 314, 315, 316, 317, 318, 640, 646, 648, 855, 859, 863, 864, 865, 866, 952, 956, 957, 958, 967, 971, 988, 1000] (by decide +kernel)
def sk_wl11 : List Cond := [
  (.methodLink "SkittleRow" (3) ({ cls := "java/lang/Object", name := "<init>", desc := "()V" } : MethodName)),
  (.classLink "SkittleRow" (13) "SkittleRow$Rule"),
  (.classLink "SkittleRow" (19) "SkittleRow$State"),
  (.methodLink "SkittleRow" (21) ({ cls := "SkittleRow$State", name := "<init>", desc := "()V" } : MethodName)),
  (.fieldLink "SkittleRow" (104) "SkittleRow$State" "alley" "LSkittleRow$Alley;"),
  (.fieldLink "SkittleRow" (108) "SkittleRow$State" "standing" "I"),
  (.fieldLink "SkittleRow" (143) "SkittleRow$State" "turn" "I"),
  (.fieldLink "SkittleRow" (240) "SkittleRow$State" "played" "I"),
  (.fieldLink "SkittleRow" (234) "SkittleRow$State" "x" "I"),
  (.fieldLink "SkittleRow" (217) "SkittleRow$State" "noteStanding" "[I"),
  (.classLink "SkittleRow" (30) "SkittleRow$Acts"),
  (.methodLink "SkittleRow" (32) ({ cls := "SkittleRow$Acts", name := "<init>", desc := "()V" } : MethodName)),
  (.fieldLink "SkittleRow" (243) "SkittleRow$Acts" "kept" "I"),
  (.classLink "SkittleRow" (37) "SkittleRow$Tables"),
  (.methodLink "SkittleRow" (39) ({ cls := "SkittleRow$Tables", name := "<init>", desc := "()V" } : MethodName)),
  (.fieldLink "SkittleRow" (90) "SkittleRow$Alley" "places" "I"),
  (.fieldLink "SkittleRow" (169) "SkittleRow$Alley" "rows" "I"),
  (.fieldLink "SkittleRow" (111) "SkittleRow$Alley" "rowOf" "[I"),
  (.fieldLink "SkittleRow" (115) "SkittleRow$Alley" "behind" "[I"),
  (.fieldLink "SkittleRow" (118) "SkittleRow$Alley" "ahead" "[I"),
  (.fieldLink "SkittleRow" (154) "SkittleRow$Alley" "strokes" "[LSkittleRow$Stroke;"),
  (.fieldLink "SkittleRow" (176) "SkittleRow$Alley" "plainWorths" "[I"),
  (.classLink "SkittleRow" (44) "SkittleRow$Bout"),
  (.methodLink "SkittleRow" (46) ({ cls := "SkittleRow$Bout", name := "<init>", desc := "()V" } : MethodName)),
  (.fieldLink "SkittleRow" (207) "SkittleRow$Bout" "wonByZero" "I"),
  (.fieldLink "SkittleRow" (205) "SkittleRow$Bout" "strokes" "I"),
  (.fieldLink "SkittleRow" (9) "SkittleRow" "tape" "[C"),
  (.fieldLink "SkittleRow" (51) "SkittleRow" "tapeLength" "I"),
  (.fieldLink "SkittleRow" (15) "SkittleRow" "rules" "[LSkittleRow$Rule;"),
  (.fieldLink "SkittleRow" (95) "SkittleRow" "ruleCount" "I"),
  (.fieldLink "SkittleRow" (22) "SkittleRow" "now" "LSkittleRow$State;"),
  (.fieldLink "SkittleRow" (26) "SkittleRow" "images" "[LSkittleRow$State;"),
  (.fieldLink "SkittleRow" (33) "SkittleRow" "acts" "LSkittleRow$Acts;"),
  (.fieldLink "SkittleRow" (40) "SkittleRow" "tables" "LSkittleRow$Tables;"),
  (.fieldLink "SkittleRow" (47) "SkittleRow" "bout" "LSkittleRow$Bout;"),
  (.methodLink "SkittleRow" (55) ({ cls := "SkittleRow", name := "putBytes", desc := "(I)V" } : MethodName)),
  (.classLink "SkittleRow" (59) "SkittleRow$Reader"),
  (.methodLink "SkittleRow" (61) ({ cls := "SkittleRow$Reader", name := "<init>", desc := "([CI)V" } : MethodName)),
  (.fieldLink "SkittleRow" (77) "SkittleRow$Reader" "fault" "I"),
  (.classLink "SkittleRow" (64) "SkittleRow$AlleyReader"),
  (.methodLink "SkittleRow" (66) ({ cls := "SkittleRow$AlleyReader", name := "<init>", desc := "(LSkittleRow$Reader;)V" } : MethodName)),
  (.methodLink "SkittleRow" (69) ({ cls := "SkittleRow$AlleyReader", name := "read", desc := "()LSkittleRow$Alley;" } : MethodName)),
  (.fieldLink "SkittleRow" (161) "SkittleRow$Stroke" "place" "I"),
  (.fieldLink "SkittleRow" (166) "SkittleRow$Stroke" "many" "I"),
  (.methodLink "SkittleRow" (73) ({ cls := "SkittleRow$Reader", name := "sound", desc := "()Z" } : MethodName)),
  (.methodLink "SkittleRow" (80) ({ cls := "SkittleRow$State", name := "begin", desc := "(LSkittleRow$Alley;)V" } : MethodName)),
  (.methodLink "SkittleRow" (84) ({ cls := "SkittleRow$Acts", name := "forget", desc := "()V" } : MethodName)),
  (.methodLink "SkittleRow" (87) ({ cls := "SkittleRow$Tables", name := "use", desc := "(LSkittleRow$Alley;)V" } : MethodName)),
  (.classLink "SkittleRow" (98) "SkittleRow$RuleReader"),
  (.methodLink "SkittleRow" (100) ({ cls := "SkittleRow$RuleReader", name := "<init>", desc := "(LSkittleRow$Reader;)V" } : MethodName)),
  (.methodLink "SkittleRow" (101) ({ cls := "SkittleRow$RuleReader", name := "read", desc := "()LSkittleRow$Rule;" } : MethodName)),
  (.methodLink "SkittleRow" (121) ({ cls := "SkittleRow$Alley", name := "strokeOf", desc := "(III)LSkittleRow$Stroke;" } : MethodName)),
  (.methodLink "SkittleRow" (125) ({ cls := "SkittleRow$Tables", name := "winsBy", desc := "(ILSkittleRow$Stroke;)Z" } : MethodName)),
  (.methodLink "SkittleRow" (129) ({ cls := "SkittleRow$Acts", name := "keep", desc := "(LSkittleRow$State;)V" } : MethodName)),
  (.methodLink "SkittleRow" (133) ({ cls := "SkittleRow$State", name := "play", desc := "(LSkittleRow$Stroke;)V" } : MethodName)),
  (.methodLink "SkittleRow" (137) ({ cls := "java/lang/Integer", name := "bitCount", desc := "(I)I" } : MethodName)),
  (.methodLink "SkittleRow" (146) ({ cls := "SkittleRow$Acts", name := "takeBack", desc := "(LSkittleRow$State;)I" } : MethodName)),
  (.methodLink "SkittleRow" (150) ({ cls := "SkittleRow$Tables", name := "canWin", desc := "(I)Z" } : MethodName)),
  (.methodLink "SkittleRow" (158) ({ cls := "SkittleRow$Alley", name := "allows", desc := "(ILSkittleRow$Stroke;)Z" } : MethodName)),
  (.methodLink "SkittleRow" (172) ({ cls := "SkittleRow$Alley", name := "rowWorth", desc := "(II)I" } : MethodName)),
  (.methodLink "SkittleRow" (179) ({ cls := "SkittleRow$Alley", name := "sameFrom", desc := "(I)I" } : MethodName)),
  (.methodLink "SkittleRow" (182) ({ cls := "SkittleRow$Tables", name := "lengthAt", desc := "(I)I" } : MethodName)),
  (.methodLink "SkittleRow" (185) ({ cls := "SkittleRow$Tables", name := "playsAt", desc := "(I)I" } : MethodName)),
  (.methodLink "SkittleRow" (188) ({ cls := "SkittleRow", name := "fairSet", desc := "()I" } : MethodName)),
  (.methodLink "SkittleRow" (192) ({ cls := "SkittleRow$Tables", name := "chanceAt", desc := "(I)I" } : MethodName)),
  (.methodLink "SkittleRow" (195) ({ cls := "SkittleRow$Tables", name := "childAt", desc := "(I)I" } : MethodName)),
  (.methodLink "SkittleRow" (198) ({ cls := "SkittleRow", name := "isRule", desc := "(I)Z" } : MethodName)),
  (.methodLink "SkittleRow" (201) ({ cls := "SkittleRow$Bout", name := "playTimes", desc := "(LSkittleRow$State;LSkittleRow$Tables;LSkittleRow$Rule;LSkittleRow$Rule;I)V" } : MethodName)),
  (.methodLink "SkittleRow" (210) ({ cls := "SkittleRow$State", name := "noted", desc := "()I" } : MethodName)),
  (.methodLink "SkittleRow" (213) ({ cls := "SkittleRow$State", name := "strokeNoted", desc := "(II)LSkittleRow$Stroke;" } : MethodName)),
  (.constantLong "SkittleRow" (220) (1152921504606846975 : Int64)),
  (.methodLink "SkittleRow" (222) ({ cls := "SkittleRow$Tables", name := "lawsBehind", desc := "(ILSkittleRow$Stroke;)J" } : MethodName)),
  (.methodLink "SkittleRow" (226) ({ cls := "java/lang/Long", name := "bitCount", desc := "(J)I" } : MethodName)),
  (.methodLink "SkittleRow" (231) ({ cls := "java/lang/Long", name := "numberOfTrailingZeros", desc := "(J)I" } : MethodName)),
  (.methodLink "SkittleRow" (237) ({ cls := "SkittleRow$Alley", name := "number", desc := "(I)I" } : MethodName)),
  (.methodLink "SkittleRow" (246) ({ cls := "SkittleRow$State", name := "copyOf", desc := "(LSkittleRow$State;)V" } : MethodName))]
theorem sk_wl11_in : ∀ w ∈ sk_wl11, w ∈ sk_wds := sk_all2_mem _ [133, 136, 138, 140, 148, 152, 156, 160, 163, 166, 188, 190, 199, 211, 213, 232, 235, 250, 258, 260, 264, 268, 349, 351, 378, 380, 400, 401, 402, 403, 404, 405, 406, 407, 408, 432, 444, 446, 459, 469, 471, 484, 631, 635, 686, 687, 691, 695, 703, 705, 722, 839, 851, 871, 876, 880, 898, 906, 911, 916, 940, 948, 963, 976, 984, 996, 1008, 1012, 1064, 1069, 1078, 1079, 1083, 1089, 1106, 1114] (by decide +kernel)
def sk_wl12 : List Cond := [
  (.methodLink "SkittleRowModel" (1) ({ cls := "java/lang/Object", name := "<init>", desc := "()V" } : MethodName)),
  (.fieldLink "SkittleRowModel" (7) "SkittleRowModel" "tape" "[B"),
  (.fieldLink "SkittleRowModel" (77) "SkittleRowModel" "taped" "I"),
  (.fieldLink "SkittleRowModel" (263) "SkittleRowModel" "rules" "I"),
  (.fieldLink "SkittleRowModel" (13) "SkittleRowModel" "sign" "[I"),
  (.fieldLink "SkittleRowModel" (17) "SkittleRowModel" "length" "[I"),
  (.fieldLink "SkittleRowModel" (20) "SkittleRowModel" "clause" "[I"),
  (.fieldLink "SkittleRowModel" (23) "SkittleRowModel" "clauses" "[I"),
  (.fieldLink "SkittleRowModel" (26) "SkittleRowModel" "read" "[I"),
  (.fieldLink "SkittleRowModel" (87) "SkittleRowModel" "next" "I"),
  (.fieldLink "SkittleRowModel" (84) "SkittleRowModel" "wrong" "I"),
  (.fieldLink "SkittleRowModel" (112) "SkittleRowModel" "number" "I"),
  (.fieldLink "SkittleRowModel" (141) "SkittleRowModel" "text" "I"),
  (.fieldLink "SkittleRowModel" (144) "SkittleRowModel" "made" "I"),
  (.fieldLink "SkittleRowModel" (147) "SkittleRowModel" "deep" "I"),
  (.fieldLink "SkittleRowModel" (251) "SkittleRowModel" "lines" "I"),
  (.fieldLink "SkittleRowModel" (29) "SkittleRowModel" "open" "[I"),
  (.fieldLink "SkittleRowModel" (150) "SkittleRowModel" "opened" "I"),
  (.fieldLink "SkittleRowModel" (32) "SkittleRowModel" "stack" "[J"),
  (.fieldLink "SkittleRowModel" (272) "SkittleRowModel" "top" "I"),
  (.fieldLink "SkittleRowModel" (36) "SkittleRowModel" "word" "[J"),
  (.fieldLink "SkittleRowModel" (39) "SkittleRowModel" "said" "[I"),
  (.fieldLink "SkittleRowModel" (433) "SkittleRowModel" "x" "I"),
  (.fieldLink "SkittleRowModel" (42) "SkittleRowModel" "won" "[Z"),
  (.fieldLink "SkittleRowModel" (46) "SkittleRowModel" "tableLaw" "I"),
  (.fieldLink "SkittleRowModel" (50) "SkittleRowModel" "wasSaid" "[I"),
  (.fieldLink "SkittleRowModel" (269) "SkittleRowModel" "undone" "I"),
  (.fieldLink "SkittleRowModel" (53) "SkittleRowModel" "worths" "[I"),
  (.fieldLink "SkittleRowModel" (56) "SkittleRowModel" "seen" "[Z"),
  (.fieldLink "SkittleRowModel" (59) "SkittleRowModel" "plains" "[I"),
  (.fieldLink "SkittleRowModel" (62) "SkittleRowModel" "table" "[I"),
  (.fieldLink "SkittleRowModel" (65) "SkittleRowModel" "other" "[I"),
  (.fieldLink "SkittleRowModel" (380) "SkittleRowModel" "runsMany" "I"),
  (.fieldLink "SkittleRowModel" (383) "SkittleRowModel" "runsLongest" "I"),
  (.fieldLink "SkittleRowModel" (386) "SkittleRowModel" "runsAlone" "I"),
  (.fieldLink "SkittleRowModel" (436) "SkittleRowModel" "drawX" "J"),
  (.fieldLink "SkittleRowModel" (451) "SkittleRowModel" "drawnWins" "I"),
  (.fieldLink "SkittleRowModel" (454) "SkittleRowModel" "drawnStrokes" "I"),
  (.fieldLink "SkittleRowModel" (68) "SkittleRowModel" "images" "[I"),
  (.fieldLink "SkittleRowModel" (71) "SkittleRowModel" "imageX" "[I"),
  (.fieldLink "SkittleRowModel" (74) "SkittleRowModel" "isMade" "[Z"),
  (.methodLink "SkittleRowModel" (80) ({ cls := "SkittleRowModel", name := "four", desc := "(I)V" } : MethodName)),
  (.methodLink "SkittleRowModel" (266) ({ cls := "SkittleRowModel", name := "readsAll", desc := "()Z" } : MethodName)),
  (.methodLink "SkittleRowModel" (260) ({ cls := "SkittleRowModel", name := "clauseHere", desc := "()Z" } : MethodName)),
  (.methodLink "SkittleRowModel" (90) ({ cls := "SkittleRowModel", name := "see", desc := "()I" } : MethodName)),
  (.methodLink "SkittleRowModel" (246) ({ cls := "SkittleRowModel", name := "isAlleyWord", desc := "()Z" } : MethodName)),
  (.constantLong "SkittleRowModel" (216) (418430870905 : Int64)),
  (.methodLink "SkittleRowModel" (98) ({ cls := "SkittleRowModel", name := "isWord", desc := "(J)Z" } : MethodName)),
  (.methodLink "SkittleRowModel" (94) ({ cls := "SkittleRowModel", name := "isLetter", desc := "(I)Z" } : MethodName)),
  (.constantLong "SkittleRowModel" (123) (7499639 : Int64)),
  (.constantLong "SkittleRowModel" (224) (1919512167 : Int64)),
  (.constantLong "SkittleRowModel" (229) (6842740 : Int64)),
  (.constantLong "SkittleRowModel" (234) (1701733491 : Int64)),
  (.constantLong "SkittleRowModel" (239) (1818325876 : Int64)),
  (.constantLong "SkittleRowModel" (244) (495874892153 : Int64)),
  (.constantLong "SkittleRowModel" (249) (126943973305189 : Int64)),
  (.methodLink "SkittleRowModel" (108) ({ cls := "SkittleRowModel", name := "fails", desc := "(II)Z" } : MethodName)),
  (.methodLink "SkittleRowModel" (254) ({ cls := "SkittleRowModel", name := "alleyLineHere", desc := "(I)Z" } : MethodName)),
  (.methodLink "SkittleRowModel" (218) ({ cls := "SkittleRowModel", name := "isAlleyHere", desc := "(I)Z" } : MethodName)),
  (.methodLink "SkittleRowModel" (102) ({ cls := "SkittleRowModel", name := "passWord", desc := "()V" } : MethodName)),
  (.methodLink "SkittleRowModel" (162) ({ cls := "SkittleRowModel", name := "numberHere", desc := "(II)Z" } : MethodName)),
  (.methodLink "SkittleRowModel" (105) ({ cls := "SkittleRowModel", name := "isDigit", desc := "(I)Z" } : MethodName)),
  (.methodLink "SkittleRowModel" (115) ({ cls := "SkittleRowModel", name := "in", desc := "(JJJ)Z" } : MethodName)),
  (.methodLink "SkittleRowModel" (221) ({ cls := "SkittleRowModel", name := "isRowHere", desc := "(I)Z" } : MethodName)),
  (.methodLink "SkittleRowModel" (213) ({ cls := "SkittleRowModel", name := "isPlaceHere", desc := "()Z" } : MethodName)),
  (.methodLink "SkittleRowModel" (226) ({ cls := "SkittleRowModel", name := "isRingHere", desc := "()Z" } : MethodName)),
  (.methodLink "SkittleRowModel" (231) ({ cls := "SkittleRowModel", name := "isHitHere", desc := "()Z" } : MethodName)),
  (.methodLink "SkittleRowModel" (236) ({ cls := "SkittleRowModel", name := "isOnceHere", desc := "(II)Z" } : MethodName)),
  (.methodLink "SkittleRowModel" (241) ({ cls := "SkittleRowModel", name := "isStrayHere", desc := "()Z" } : MethodName)),
  (.methodLink "SkittleRowModel" (257) ({ cls := "SkittleRowModel", name := "isStrokeHere", desc := "()Z" } : MethodName)),
  (.methodLink "SkittleRowModel" (178) ({ cls := "SkittleRowModel", name := "sum", desc := "()Z" } : MethodName)),
  (.methodLink "SkittleRowModel" (175) ({ cls := "SkittleRowModel", name := "term", desc := "()Z" } : MethodName)),
  (.methodLink "SkittleRowModel" (171) ({ cls := "SkittleRowModel", name := "value", desc := "()Z" } : MethodName)),
  (.constant "SkittleRowModel" (161) (99999 : Int32)),
  (.methodLink "SkittleRowModel" (165) ({ cls := "SkittleRowModel", name := "makes", desc := "(I)Z" } : MethodName)),
  (.methodLink "SkittleRowModel" (157) ({ cls := "SkittleRowModel", name := "puts", desc := "(II)V" } : MethodName)),
  (.methodLink "SkittleRowModel" (168) ({ cls := "SkittleRowModel", name := "wordHere", desc := "()I" } : MethodName)),
  (.constantLong "SkittleRowModel" (119) (482854658917 : Int64)),
  (.constantLong "SkittleRowModel" (121) (1835101817 : Int64)),
  (.constantLong "SkittleRowModel" (125) (8319381538419076711 : Int64)),
  (.constantLong "SkittleRowModel" (127) (1818584692 : Int64)),
  (.constantLong "SkittleRowModel" (129) (1920298611 : Int64)),
  (.constantLong "SkittleRowModel" (131) (30521817456538484 : Int64)),
  (.constantLong "SkittleRowModel" (133) (418431069797 : Int64)),
  (.constantLong "SkittleRowModel" (135) (7827310 : Int64)),
  (.constantLong "SkittleRowModel" (137) (1953854062 : Int64)),
  (.constantLong "SkittleRowModel" (139) (32497657166128499 : Int64)),
  (.constantLong "SkittleRowModel" (205) (26982 : Int64)),
  (.methodLink "SkittleRowModel" (207) ({ cls := "SkittleRowModel", name := "takesWord", desc := "(J)Z" } : MethodName)),
  (.methodLink "SkittleRowModel" (210) ({ cls := "SkittleRowModel", name := "tested", desc := "()Z" } : MethodName)),
  (.methodLink "SkittleRowModel" (195) ({ cls := "SkittleRowModel", name := "fact", desc := "()Z" } : MethodName)),
  (.constantLong "SkittleRowModel" (181) (7237492 : Int64)),
  (.methodLink "SkittleRowModel" (183) ({ cls := "SkittleRowModel", name := "opens", desc := "(I)Z" } : MethodName)),
  (.methodLink "SkittleRowModel" (186) ({ cls := "SkittleRowModel", name := "compare", desc := "()Z" } : MethodName)),
  (.methodLink "SkittleRowModel" (198) ({ cls := "SkittleRowModel", name := "closes", desc := "()V" } : MethodName)),
  (.methodLink "SkittleRowModel" (189) ({ cls := "SkittleRowModel", name := "settles", desc := "(I)V" } : MethodName)),
  (.methodLink "SkittleRowModel" (153) ({ cls := "SkittleRowModel", name := "strength", desc := "(I)I" } : MethodName)),
  (.methodLink "SkittleRowModel" (192) ({ cls := "SkittleRowModel", name := "isInside", desc := "()Z" } : MethodName)),
  (.constantLong "SkittleRowModel" (201) (6385252 : Int64)),
  (.constantLong "SkittleRowModel" (203) (28530 : Int64)),
  (.methodLink "SkittleRowModel" (321) ({ cls := "SkittleRowModel", name := "isPlace", desc := "(I)Z" } : MethodName)),
  (.constantLong "SkittleRowModel" (324) (3 : Int64)),
  (.methodLink "SkittleRowModel" (287) ({ cls := "SkittleRowModel", name := "rowOf", desc := "(I)I" } : MethodName)),
  (.methodLink "SkittleRowModel" (293) ({ cls := "SkittleRowModel", name := "beside", desc := "(II)I" } : MethodName)),
  (.methodLink "SkittleRowModel" (326) ({ cls := "SkittleRowModel", name := "isAlley", desc := "()Z" } : MethodName)),
  (.constantLong "SkittleRowModel" (329) (4 : Int64)),
  (.methodLink "SkittleRowModel" (314) ({ cls := "SkittleRowModel", name := "canBeNow", desc := "(III)Z" } : MethodName)),
  (.methodLink "SkittleRowModel" (303) ({ cls := "SkittleRowModel", name := "canBe", desc := "(IIIIZ)Z" } : MethodName)),
  (.methodLink "SkittleRowModel" (290) ({ cls := "SkittleRowModel", name := "isOf", desc := "(II)Z" } : MethodName)),
  (.methodLink "SkittleRowModel" (297) ({ cls := "SkittleRowModel", name := "strokeBits", desc := "(II)I" } : MethodName)),
  (.methodLink "SkittleRowModel" (300) ({ cls := "SkittleRowModel", name := "lastOf", desc := "(II)I" } : MethodName)),
  (.methodLink "SkittleRowModel" (331) ({ cls := "SkittleRowModel", name := "winsBy", desc := "(III)Z" } : MethodName)),
  (.methodLink "SkittleRowModel" (318) ({ cls := "SkittleRowModel", name := "isWonAt", desc := "(I)Z" } : MethodName)),
  (.methodLink "SkittleRowModel" (311) ({ cls := "SkittleRowModel", name := "fillsNow", desc := "()V" } : MethodName)),
  (.methodLink "SkittleRowModel" (307) ({ cls := "SkittleRowModel", name := "fillsWon", desc := "(III)V" } : MethodName)),
  (.methodLink "SkittleRowModel" (334) ({ cls := "SkittleRowModel", name := "keepsAct", desc := "()V" } : MethodName)),
  (.methodLink "SkittleRowModel" (337) ({ cls := "SkittleRowModel", name := "notes", desc := "(II)V" } : MethodName)),
  (.methodLink "SkittleRowModel" (340) ({ cls := "SkittleRowModel", name := "bits", desc := "(I)I" } : MethodName)),
  (.constantLong "SkittleRowModel" (343) (2 : Int64)),
  (.methodLink "SkittleRowModel" (345) ({ cls := "SkittleRowModel", name := "clearsSeen", desc := "()V" } : MethodName)),
  (.methodLink "SkittleRowModel" (348) ({ cls := "SkittleRowModel", name := "leastUnseen", desc := "()I" } : MethodName)),
  (.constantLong "SkittleRowModel" (351) (40 : Int64)),
  (.methodLink "SkittleRowModel" (353) ({ cls := "SkittleRowModel", name := "fillsPlains", desc := "()V" } : MethodName)),
  (.methodLink "SkittleRowModel" (356) ({ cls := "SkittleRowModel", name := "comesAgain", desc := "(II)Z" } : MethodName)),
  (.methodLink "SkittleRowModel" (359) ({ cls := "SkittleRowModel", name := "lastsAt", desc := "(I)I" } : MethodName)),
  (.methodLink "SkittleRowModel" (364) ({ cls := "SkittleRowModel", name := "playsAt", desc := "(I)I" } : MethodName)),
  (.constantLong "SkittleRowModel" (362) (1000000007 : Int64)),
  (.methodLink "SkittleRowModel" (371) ({ cls := "SkittleRowModel", name := "chanceAt", desc := "(I)I" } : MethodName)),
  (.methodLink "SkittleRowModel" (367) ({ cls := "SkittleRowModel", name := "strayed", desc := "(III)I" } : MethodName)),
  (.methodLink "SkittleRowModel" (374) ({ cls := "SkittleRowModel", name := "bestAt", desc := "(I)I" } : MethodName)),
  (.methodLink "SkittleRowModel" (377) ({ cls := "SkittleRowModel", name := "childAt", desc := "(I)I" } : MethodName)),
  (.methodLink "SkittleRowModel" (410) ({ cls := "SkittleRowModel", name := "isRule", desc := "(I)Z" } : MethodName)),
  (.methodLink "SkittleRowModel" (413) ({ cls := "SkittleRowModel", name := "strokeBy", desc := "(IIII)I" } : MethodName)),
  (.methodLink "SkittleRowModel" (402) ({ cls := "SkittleRowModel", name := "words", desc := "(IIIII)V" } : MethodName)),
  (.methodLink "SkittleRowModel" (395) ({ cls := "SkittleRowModel", name := "countsRuns", desc := "(I)V" } : MethodName)),
  (.methodLink "SkittleRowModel" (392) ({ cls := "SkittleRowModel", name := "countsRow", desc := "(II)V" } : MethodName)),
  (.methodLink "SkittleRowModel" (389) ({ cls := "SkittleRowModel", name := "countsRun", desc := "(I)V" } : MethodName)),
  (.methodLink "SkittleRowModel" (406) ({ cls := "SkittleRowModel", name := "summedBy", desc := "(I)J" } : MethodName)),
  (.methodLink "SkittleRowModel" (398) ({ cls := "SkittleRowModel", name := "reckons", desc := "(III)J" } : MethodName)),
  (.methodLink "SkittleRowModel" (275) ({ cls := "SkittleRowModel", name := "push", desc := "(J)V" } : MethodName)),
  (.methodLink "SkittleRowModel" (279) ({ cls := "SkittleRowModel", name := "pop", desc := "()J" } : MethodName)),
  (.methodLink "SkittleRowModel" (283) ({ cls := "SkittleRowModel", name := "one", desc := "(IJJ)J" } : MethodName)),
  (.methodLink "SkittleRowModel" (417) ({ cls := "SkittleRowModel", name := "winner", desc := "(I)I" } : MethodName)),
  (.methodLink "SkittleRowModel" (420) ({ cls := "SkittleRowModel", name := "noted", desc := "(II)I" } : MethodName)),
  (.methodLink "SkittleRowModel" (423) ({ cls := "SkittleRowModel", name := "isOverAt", desc := "(I)Z" } : MethodName)),
  (.methodLink "SkittleRowModel" (426) ({ cls := "SkittleRowModel", name := "winsNoted", desc := "(I)Z" } : MethodName)),
  (.methodLink "SkittleRowModel" (429) ({ cls := "SkittleRowModel", name := "fitsLaw", desc := "(IIII)Z" } : MethodName)),
  (.constantLong "SkittleRowModel" (460) (50 : Int64)),
  (.methodLink "SkittleRowModel" (462) ({ cls := "SkittleRowModel", name := "playsDrawn", desc := "(II)V" } : MethodName)),
  (.methodLink "SkittleRowModel" (457) ({ cls := "SkittleRowModel", name := "strokeDrawn", desc := "(I)I" } : MethodName)),
  (.methodLink "SkittleRowModel" (448) ({ cls := "SkittleRowModel", name := "draw", desc := "(I)I" } : MethodName)),
  (.constantLong "SkittleRowModel" (440) (1103515245 : Int64)),
  (.constantLong "SkittleRowModel" (442) (12345 : Int64)),
  (.constantLong "SkittleRowModel" (444) (2147483648 : Int64)),
  (.constantLong "SkittleRowModel" (446) (65536 : Int64))]
theorem sk_wl12_in : ∀ w ∈ sk_wl12, w ∈ sk_wds := sk_all2_mem _ [1127, 1128, 1129, 1130, 1131, 1132, 1133, 1134, 1135, 1136, 1137, 1138, 1139, 1140, 1141, 1142, 1143, 1144, 1145, 1146, 1147, 1148, 1149, 1150, 1151, 1152, 1153, 1154, 1155, 1156, 1157, 1158, 1159, 1160, 1161, 1162, 1163, 1164, 1165, 1166, 1167, 1253, 1265, 1269, 1273, 1277, 1281, 1282, 1286, 1290, 1291, 1292, 1293, 1294, 1295, 1296, 1297, 1301, 1305, 1309, 1313, 1317, 1321, 1324, 1328, 1332, 1336, 1340, 1344, 1348, 1352, 1356, 1360, 1364, 1365, 1369, 1373, 1377, 1378, 1379, 1380, 1381, 1382, 1383, 1384, 1385, 1386, 1387, 1388, 1392, 1396, 1400, 1401, 1405, 1409, 1413, 1417, 1420, 1424, 1425, 1434, 1438, 1439, 1443, 1451, 1455, 1456, 1460, 1464, 1467, 1471, 1475, 1479, 1483, 1487, 1499, 1503, 1507, 1526, 1531, 1535, 1543, 1544, 1552, 1560, 1568, 1572, 1581, 1585, 1593, 1597, 1605, 1609, 1613, 1617, 1621, 1625, 1629, 1633, 1637, 1641, 1645, 1648, 1656, 1660, 1664, 1672, 1684, 1685, 1689, 1693, 1697, 1698, 1699, 1700] (by decide +kernel)
def sk_wl13 : List Cond := [
  (.classLink "SkittleRowLaw" (7) "SkittleRow"),
  (.methodLink "SkittleRowLaw" (9) ({ cls := "SkittleRow", name := "<init>", desc := "()V" } : MethodName)),
  (.methodLink "SkittleRowLaw" (13) ({ cls := "SkittleRow", name := "feed", desc := "(IIIII)I" } : MethodName)),
  (.methodLink "SkittleRowLaw" (18) ({ cls := "SkittleRow", name := "end", desc := "(I)I" } : MethodName)),
  (.methodLink "SkittleRowLaw" (23) ({ cls := "SkittleRow", name := "alley", desc := "()I" } : MethodName)),
  (.methodLink "SkittleRowLaw" (28) ({ cls := "SkittleRow", name := "rule", desc := "()I" } : MethodName)),
  (.methodLink "SkittleRowLaw" (32) ({ cls := "SkittleRow", name := "place", desc := "(II)I" } : MethodName)),
  (.methodLink "SkittleRowLaw" (37) ({ cls := "SkittleRow", name := "can", desc := "(II)I" } : MethodName)),
  (.methodLink "SkittleRowLaw" (41) ({ cls := "SkittleRow", name := "stroke", desc := "(II)I" } : MethodName)),
  (.methodLink "SkittleRowLaw" (45) ({ cls := "SkittleRow", name := "up", desc := "(I)I" } : MethodName)),
  (.methodLink "SkittleRowLaw" (49) ({ cls := "SkittleRow", name := "pass", desc := "()I" } : MethodName)),
  (.methodLink "SkittleRowLaw" (53) ({ cls := "SkittleRow", name := "undo", desc := "()I" } : MethodName)),
  (.methodLink "SkittleRowLaw" (57) ({ cls := "SkittleRow", name := "won", desc := "()I" } : MethodName)),
  (.methodLink "SkittleRowLaw" (61) ({ cls := "SkittleRow", name := "wins", desc := "(I)I" } : MethodName)),
  (.methodLink "SkittleRowLaw" (65) ({ cls := "SkittleRow", name := "worth", desc := "(I)I" } : MethodName)),
  (.methodLink "SkittleRowLaw" (69) ({ cls := "SkittleRow", name := "plain", desc := "(I)I" } : MethodName)),
  (.methodLink "SkittleRowLaw" (73) ({ cls := "SkittleRow", name := "again", desc := "(I)I" } : MethodName)),
  (.methodLink "SkittleRowLaw" (77) ({ cls := "SkittleRow", name := "lasts", desc := "()I" } : MethodName)),
  (.methodLink "SkittleRowLaw" (81) ({ cls := "SkittleRow", name := "plays", desc := "()I" } : MethodName)),
  (.methodLink "SkittleRowLaw" (85) ({ cls := "SkittleRow", name := "fair", desc := "(I)I" } : MethodName)),
  (.methodLink "SkittleRowLaw" (89) ({ cls := "SkittleRow", name := "chance", desc := "()I" } : MethodName)),
  (.methodLink "SkittleRowLaw" (93) ({ cls := "SkittleRow", name := "child", desc := "()I" } : MethodName)),
  (.methodLink "SkittleRowLaw" (97) ({ cls := "SkittleRow", name := "match", desc := "(III)I" } : MethodName)),
  (.methodLink "SkittleRowLaw" (102) ({ cls := "SkittleRow", name := "knew", desc := "(II)I" } : MethodName)),
  (.methodLink "SkittleRowLaw" (106) ({ cls := "SkittleRow", name := "law", desc := "(II)I" } : MethodName)),
  (.methodLink "SkittleRowLaw" (110) ({ cls := "SkittleRow", name := "seed", desc := "(I)I" } : MethodName)),
  (.methodLink "SkittleRowLaw" (114) ({ cls := "SkittleRow", name := "games", desc := "(II)I" } : MethodName)),
  (.methodLink "SkittleRowLaw" (118) ({ cls := "SkittleRow", name := "against", desc := "(III)I" } : MethodName)),
  (.methodLink "SkittleRowLaw" (122) ({ cls := "SkittleRow", name := "count", desc := "(I)I" } : MethodName)),
  (.methodLink "SkittleRowLaw" (126) ({ cls := "SkittleRow", name := "image", desc := "(I)I" } : MethodName)),
  (.methodLink "SkittleRowLaw" (130) ({ cls := "SkittleRow", name := "back", desc := "(I)I" } : MethodName)),
  (.classLink "SkittleRowLaw" (10) "SkittleRowModel"),
  (.methodLink "SkittleRowLaw" (12) ({ cls := "SkittleRowModel", name := "<init>", desc := "()V" } : MethodName)),
  (.methodLink "SkittleRowLaw" (17) ({ cls := "SkittleRowModel", name := "feed", desc := "(IIIII)I" } : MethodName)),
  (.methodLink "SkittleRowLaw" (22) ({ cls := "SkittleRowModel", name := "end", desc := "(I)I" } : MethodName)),
  (.methodLink "SkittleRowLaw" (31) ({ cls := "SkittleRowModel", name := "rule", desc := "()I" } : MethodName)),
  (.methodLink "SkittleRowLaw" (27) ({ cls := "SkittleRowModel", name := "alley", desc := "()I" } : MethodName)),
  (.methodLink "SkittleRowLaw" (36) ({ cls := "SkittleRowModel", name := "place", desc := "(II)I" } : MethodName)),
  (.methodLink "SkittleRowLaw" (40) ({ cls := "SkittleRowModel", name := "can", desc := "(II)I" } : MethodName)),
  (.methodLink "SkittleRowLaw" (56) ({ cls := "SkittleRowModel", name := "undo", desc := "()I" } : MethodName)),
  (.methodLink "SkittleRowLaw" (44) ({ cls := "SkittleRowModel", name := "stroke", desc := "(II)I" } : MethodName)),
  (.methodLink "SkittleRowLaw" (48) ({ cls := "SkittleRowModel", name := "up", desc := "(I)I" } : MethodName)),
  (.methodLink "SkittleRowLaw" (52) ({ cls := "SkittleRowModel", name := "pass", desc := "()I" } : MethodName)),
  (.methodLink "SkittleRowLaw" (60) ({ cls := "SkittleRowModel", name := "won", desc := "()I" } : MethodName)),
  (.methodLink "SkittleRowLaw" (64) ({ cls := "SkittleRowModel", name := "wins", desc := "(I)I" } : MethodName)),
  (.methodLink "SkittleRowLaw" (68) ({ cls := "SkittleRowModel", name := "worth", desc := "(I)I" } : MethodName)),
  (.methodLink "SkittleRowLaw" (72) ({ cls := "SkittleRowModel", name := "plain", desc := "(I)I" } : MethodName)),
  (.methodLink "SkittleRowLaw" (76) ({ cls := "SkittleRowModel", name := "again", desc := "(I)I" } : MethodName)),
  (.methodLink "SkittleRowLaw" (80) ({ cls := "SkittleRowModel", name := "lasts", desc := "()I" } : MethodName)),
  (.methodLink "SkittleRowLaw" (84) ({ cls := "SkittleRowModel", name := "plays", desc := "()I" } : MethodName)),
  (.methodLink "SkittleRowLaw" (88) ({ cls := "SkittleRowModel", name := "fair", desc := "(I)I" } : MethodName)),
  (.methodLink "SkittleRowLaw" (92) ({ cls := "SkittleRowModel", name := "chance", desc := "()I" } : MethodName)),
  (.methodLink "SkittleRowLaw" (96) ({ cls := "SkittleRowModel", name := "child", desc := "()I" } : MethodName)),
  (.methodLink "SkittleRowLaw" (101) ({ cls := "SkittleRowModel", name := "match", desc := "(III)I" } : MethodName)),
  (.methodLink "SkittleRowLaw" (105) ({ cls := "SkittleRowModel", name := "knew", desc := "(II)I" } : MethodName)),
  (.methodLink "SkittleRowLaw" (109) ({ cls := "SkittleRowModel", name := "law", desc := "(II)I" } : MethodName)),
  (.methodLink "SkittleRowLaw" (113) ({ cls := "SkittleRowModel", name := "seed", desc := "(I)I" } : MethodName)),
  (.methodLink "SkittleRowLaw" (117) ({ cls := "SkittleRowModel", name := "games", desc := "(II)I" } : MethodName)),
  (.methodLink "SkittleRowLaw" (121) ({ cls := "SkittleRowModel", name := "against", desc := "(III)I" } : MethodName)),
  (.methodLink "SkittleRowLaw" (125) ({ cls := "SkittleRowModel", name := "count", desc := "(I)I" } : MethodName)),
  (.methodLink "SkittleRowLaw" (129) ({ cls := "SkittleRowModel", name := "image", desc := "(I)I" } : MethodName)),
  (.methodLink "SkittleRowLaw" (133) ({ cls := "SkittleRowModel", name := "back", desc := "(I)I" } : MethodName))]
theorem sk_wl13_in : ∀ w ∈ sk_wl13, w ∈ sk_wds := sk_all2_mem _ [128, 130, 428, 436, 440, 699, 831, 835, 867, 886, 890, 894, 902, 907, 912, 932, 936, 944, 959, 972, 980, 992, 1004, 1060, 1074, 1090, 1094, 1098, 1102, 1110, 1118, 1122, 1124, 1249, 1257, 1261, 1426, 1430, 1447, 1491, 1495, 1510, 1514, 1518, 1522, 1527, 1539, 1548, 1556, 1564, 1573, 1577, 1589, 1601, 1652, 1668, 1676, 1680, 1701, 1705, 1709, 1713] (by decide +kernel)
def sk_wl14 : List Cond := [
  (.constant "java/lang/Integer" (264) (65536 : Int32)),
  (.constant "java/lang/Integer" (265) (1431655765 : Int32)),
  (.constant "java/lang/Integer" (266) (858993459 : Int32)),
  (.constant "java/lang/Integer" (267) (252645135 : Int32))]
theorem sk_wl14_in : ∀ w ∈ sk_wl14, w ∈ sk_wds := sk_all2_mem _ [685, 883, 884, 885] (by decide +kernel)
def sk_wl15 : List Cond := [
  (.methodLink "java/lang/Long" (311) ({ cls := "java/lang/Integer", name := "numberOfTrailingZeros", desc := "(I)I" } : MethodName)),
  (.constantLong "java/lang/Long" (314) (6148914691236517205 : Int64)),
  (.constantLong "java/lang/Long" (316) (3689348814741910323 : Int64)),
  (.constantLong "java/lang/Long" (318) (1085102592571150095 : Int64))]
theorem sk_wl15_in : ∀ w ∈ sk_wl15, w ∈ sk_wds := sk_all2_mem _ [682, 1086, 1087, 1088] (by decide +kernel)
def sk_wl16 : List Cond := []
theorem sk_wl16_in : ∀ w ∈ sk_wl16, w ∈ sk_wds := sk_all2_mem _ [] (by decide +kernel)
def sk_wl17 : List Cond := [
  (.methodLink "java/lang/String" (335) ({ cls := "java/lang/String", name := "coder", desc := "()B" } : MethodName)),
  (.fieldLink "java/lang/String" (38) "java/lang/String" "COMPACT_STRINGS" "Z"),
  (.methodLink "java/lang/String" (492) ({ cls := "java/lang/String", name := "isLatin1", desc := "()Z" } : MethodName)),
  (.methodLink "java/lang/String" (495) ({ cls := "java/lang/StringLatin1", name := "charAt", desc := "([BI)C" } : MethodName)),
  (.fieldLink "java/lang/String" (1053) "jdk/internal/util/Preconditions" "SIOOBE_FORMATTER" "Ljava/util/function/BiFunction;"),
  (.methodLink "java/lang/String" (1059) ({ cls := "jdk/internal/util/Preconditions", name := "checkIndex", desc := "(IILjava/util/function/BiFunction;)I" } : MethodName)),
  (.methodLink "java/lang/String" (498) ({ cls := "java/lang/StringUTF16", name := "charAt", desc := "([BI)C" } : MethodName)),
  (.fieldLink "java/lang/String" (9) "java/lang/String" "value" "[B"),
  (.fieldLink "java/lang/String" (15) "java/lang/String" "coder" "B")]
theorem sk_wl17_in : ∀ w ∈ sk_wl17, w ∈ sk_wds := sk_all2_mem _ [505, 509, 515, 519, 525, 527, 530, 1717, 1718] (by decide +kernel)
def sk_wl18 : List Cond := [
  (.methodLink "java/lang/StringLatin1" (9) ({ cls := "java/lang/String", name := "checkIndex", desc := "(II)V" } : MethodName))]
theorem sk_wl18_in : ∀ w ∈ sk_wl18, w ∈ sk_wds := sk_all2_mem _ [522] (by decide +kernel)
def sk_wl19 : List Cond := [
  (.methodLink "java/lang/StringUTF16" (67) ({ cls := "java/lang/StringUTF16", name := "checkIndex", desc := "(I[B)V" } : MethodName)),
  (.methodLink "java/lang/StringUTF16" (48) ({ cls := "java/lang/StringUTF16", name := "length", desc := "([B)I" } : MethodName)),
  (.methodLink "java/lang/StringUTF16" (414) ({ cls := "java/lang/String", name := "checkIndex", desc := "(II)V" } : MethodName)),
  (.methodLink "java/lang/StringUTF16" (71) ({ cls := "java/lang/StringUTF16", name := "getChar", desc := "([BI)C" } : MethodName)),
  (.fieldLink "java/lang/StringUTF16" (44) "java/lang/StringUTF16" "$assertionsDisabled" "Z"),
  (.fieldLink "java/lang/StringUTF16" (59) "java/lang/StringUTF16" "HI_BYTE_SHIFT" "I"),
  (.fieldLink "java/lang/StringUTF16" (63) "java/lang/StringUTF16" "LO_BYTE_SHIFT" "I")]
theorem sk_wl19_in : ∀ w ∈ sk_wl19, w ∈ sk_wds := sk_all2_mem _ [533, 536, 539, 540, 543, 545, 547] (by decide +kernel)
def sk_wl20 : List Cond := []
theorem sk_wl20_in : ∀ w ∈ sk_wl20, w ∈ sk_wds := sk_all2_mem _ [] (by decide +kernel)
def sk_wl : Nat → List Cond := fun c => match c with
  | 0 => sk_wl0
  | 1 => sk_wl1
  | 2 => sk_wl2
  | 3 => sk_wl3
  | 4 => sk_wl4
  | 5 => sk_wl5
  | 6 => sk_wl6
  | 7 => sk_wl7
  | 8 => sk_wl8
  | 9 => sk_wl9
  | 10 => sk_wl10
  | 11 => sk_wl11
  | 12 => sk_wl12
  | 13 => sk_wl13
  | 14 => sk_wl14
  | 15 => sk_wl15
  | 16 => sk_wl16
  | 17 => sk_wl17
  | 18 => sk_wl18
  | 19 => sk_wl19
  | 20 => sk_wl20
  | _ => []
theorem sk_wl_in : ∀ (c : Nat) (w : Cond), w ∈ sk_wl c → w ∈ sk_wds
  | 0, w, h => sk_wl0_in w h
  | 1, w, h => sk_wl1_in w h
  | 2, w, h => sk_wl2_in w h
  | 3, w, h => sk_wl3_in w h
  | 4, w, h => sk_wl4_in w h
  | 5, w, h => sk_wl5_in w h
  | 6, w, h => sk_wl6_in w h
  | 7, w, h => sk_wl7_in w h
  | 8, w, h => sk_wl8_in w h
  | 9, w, h => sk_wl9_in w h
  | 10, w, h => sk_wl10_in w h
  | 11, w, h => sk_wl11_in w h
  | 12, w, h => sk_wl12_in w h
  | 13, w, h => sk_wl13_in w h
  | 14, w, h => sk_wl14_in w h
  | 15, w, h => sk_wl15_in w h
  | 16, w, h => sk_wl16_in w h
  | 17, w, h => sk_wl17_in w h
  | 18, w, h => sk_wl18_in w h
  | 19, w, h => sk_wl19_in w h
  | 20, w, h => sk_wl20_in w h
  | _ + 21, _, h => absurd h List.not_mem_nil
/-- name, code, slots, answer, rank, how many it takes, how it is called (0 by no object, 1 by one, 2 a maker), its own links -/
def sk_info : List (MethodName × ByteArray × Nat × Option FieldType × Nat × Nat × Nat × Nat) := [
  (⟨"SkittleRow$Acts", "<init>", "()V"⟩, prog_2_method_1_code, 1, none, 1, 0, 2, 0),
  (⟨"SkittleRow$Acts", "forget", "()V"⟩, prog_2_method_2_code, 1, none, 1, 0, 1, 0),
  (⟨"SkittleRow$Acts", "keep", "(LSkittleRow$State;)V"⟩, prog_2_method_3_code, 2, none, 1, 1, 1, 0),
  (⟨"SkittleRow$Acts", "takeBack", "(LSkittleRow$State;)I"⟩, prog_2_method_4_code, 2, some .int, 1, 1, 1, 0),
  (⟨"SkittleRow$Alley", "<init>", "()V"⟩, prog_3_method_1_code, 1, none, 1, 0, 2, 1),
  (⟨"SkittleRow$Alley", "addPlace", "(Z)V"⟩, prog_3_method_2_code, 3, none, 1, 1, 1, 1),
  (⟨"SkittleRow$Alley", "settle", "()V"⟩, prog_3_method_3_code, 4, none, 4, 0, 1, 1),
  (⟨"SkittleRow$Alley", "listStrokes", "()V"⟩, prog_3_method_4_code, 7, none, 3, 0, 1, 1),
  (⟨"SkittleRow$Alley", "chosen", "([LSkittleRow$Stroke;II)[LSkittleRow$Stroke;"⟩, prog_3_method_5_code, 7, some (.array (.object "SkittleRow$Stroke")), 2, 3, 0, 1),
  (⟨"SkittleRow$Alley", "hasHit", "(II)Z"⟩, prog_3_method_6_code, 2, some .boolean, 1, 2, 0, 1),
  (⟨"SkittleRow$Alley", "bitOf", "(I)I"⟩, prog_3_method_7_code, 1, some .int, 1, 1, 0, 1),
  (⟨"SkittleRow$Alley", "allows", "(ILSkittleRow$Stroke;)Z"⟩, prog_3_method_8_code, 3, some .boolean, 2, 2, 1, 1),
  (⟨"SkittleRow$Alley", "strokeOf", "(III)LSkittleRow$Stroke;"⟩, prog_3_method_9_code, 8, some (.object "SkittleRow$Stroke"), 3, 3, 1, 1),
  (⟨"SkittleRow$Alley", "plainLeavings", "(I)J"⟩, prog_3_method_10_code, 7, some .long, 2, 1, 1, 1),
  (⟨"SkittleRow$Alley", "leastLeftOut", "(J)I"⟩, prog_3_method_11_code, 2, some .int, 3, 1, 0, 1),
  (⟨"SkittleRow$Alley", "isWholeRing", "(II)Z"⟩, prog_3_method_12_code, 4, some .boolean, 1, 2, 1, 1),
  (⟨"SkittleRow$Alley", "runFrom", "(II)I"⟩, prog_3_method_13_code, 6, some .int, 2, 2, 1, 1),
  (⟨"SkittleRow$Alley", "rowWorth", "(II)I"⟩, prog_3_method_14_code, 5, some .int, 4, 2, 1, 1),
  (⟨"SkittleRow$Alley", "ringLeavings", "(I)J"⟩, prog_3_method_15_code, 5, some .long, 2, 1, 1, 1),
  (⟨"SkittleRow$Alley", "sameFrom", "(I)I"⟩, prog_3_method_16_code, 3, some .int, 1, 1, 1, 1),
  (⟨"SkittleRow$Alley", "number", "(I)I"⟩, prog_3_method_17_code, 2, some .int, 1, 1, 1, 1),
  (⟨"SkittleRow$AlleyReader", "<init>", "(LSkittleRow$Reader;)V"⟩, prog_4_method_1_code, 2, none, 2, 1, 2, 2),
  (⟨"SkittleRow$AlleyReader", "read", "()LSkittleRow$Alley;"⟩, prog_4_method_2_code, 2, some (.object "SkittleRow$Alley"), 9, 0, 1, 2),
  (⟨"SkittleRow$AlleyReader", "readClause", "(I)V"⟩, prog_4_method_3_code, 3, none, 8, 1, 1, 2),
  (⟨"SkittleRow$AlleyReader", "isTooMany", "(II)Z"⟩, prog_4_method_4_code, 3, some .boolean, 1, 2, 1, 2),
  (⟨"SkittleRow$AlleyReader", "readRow", "()V"⟩, prog_4_method_5_code, 2, none, 2, 0, 1, 2),
  (⟨"SkittleRow$AlleyReader", "isPlace", "(I)Z"⟩, prog_4_method_6_code, 1, some .boolean, 1, 1, 0, 2),
  (⟨"SkittleRow$AlleyReader", "readRing", "()V"⟩, prog_4_method_7_code, 3, none, 3, 0, 1, 2),
  (⟨"SkittleRow$AlleyReader", "readHit", "()V"⟩, prog_4_method_8_code, 2, none, 3, 0, 1, 2),
  (⟨"SkittleRow$Bout", "<init>", "()V"⟩, prog_5_method_1_code, 1, none, 2, 0, 2, 3),
  (⟨"SkittleRow$Bout", "playTimes", "(LSkittleRow$State;LSkittleRow$Tables;LSkittleRow$Rule;LSkittleRow$Rule;I)V"⟩, prog_5_method_2_code, 7, none, 7, 5, 1, 3),
  (⟨"SkittleRow$Bout", "playOut", "(LSkittleRow$Rule;LSkittleRow$Rule;)V"⟩, prog_5_method_3_code, 6, none, 6, 2, 1, 3),
  (⟨"SkittleRow$Bout", "bestBy", "(LSkittleRow$Rule;)LSkittleRow$Stroke;"⟩, prog_5_method_4_code, 11, some (.object "SkittleRow$Stroke"), 5, 1, 1, 3),
  (⟨"SkittleRow$Bout", "drawn", "()LSkittleRow$Stroke;"⟩, prog_5_method_5_code, 8, some (.object "SkittleRow$Stroke"), 3, 0, 1, 3),
  (⟨"SkittleRow$Look", "<init>", "()V"⟩, prog_6_method_1_code, 1, none, 1, 0, 2, 4),
  (⟨"SkittleRow$Look", "word", "(I)J"⟩, prog_6_method_2_code, 2, some .long, 1, 1, 1, 4),
  (⟨"SkittleRow$Look", "lookAt", "(LSkittleRow$Bout;LSkittleRow$Stroke;I)V"⟩, prog_6_method_3_code, 5, none, 4, 3, 1, 4),
  (⟨"SkittleRow$Look", "countRuns", "(LSkittleRow$Alley;I)V"⟩, prog_6_method_4_code, 8, none, 3, 2, 1, 4),
  (⟨"SkittleRow$Reader", "<init>", "([CI)V"⟩, prog_7_method_1_code, 3, none, 1, 2, 2, 5),
  (⟨"SkittleRow$Reader", "sound", "()Z"⟩, prog_7_method_2_code, 1, some .boolean, 1, 0, 1, 5),
  (⟨"SkittleRow$Reader", "refuse", "(II)V"⟩, prog_7_method_3_code, 3, none, 1, 2, 1, 5),
  (⟨"SkittleRow$Reader", "look", "()I"⟩, prog_7_method_4_code, 1, some .int, 1, 0, 1, 5),
  (⟨"SkittleRow$Reader", "next", "()I"⟩, prog_7_method_5_code, 1, some .int, 1, 0, 1, 5),
  (⟨"SkittleRow$Reader", "takes", "(I)Z"⟩, prog_7_method_6_code, 2, some .boolean, 2, 1, 1, 5),
  (⟨"SkittleRow$Reader", "wordOf", "(Ljava/lang/String;)I"⟩, prog_7_method_7_code, 5, some .int, 7, 1, 1, 5),
  (⟨"SkittleRow$Reader", "isWord", "(Ljava/lang/String;II)Z"⟩, prog_7_method_8_code, 6, some .boolean, 6, 3, 1, 5),
  (⟨"SkittleRow$Reader", "skipWord", "()V"⟩, prog_7_method_9_code, 1, none, 1, 0, 1, 5),
  (⟨"SkittleRow$Reader", "takesWord", "(Ljava/lang/String;)Z"⟩, prog_7_method_10_code, 2, some .boolean, 8, 1, 1, 5),
  (⟨"SkittleRow$Reader", "isDigit", "(I)Z"⟩, prog_7_method_11_code, 1, some .boolean, 1, 1, 0, 5),
  (⟨"SkittleRow$Reader", "number", "(II)I"⟩, prog_7_method_12_code, 5, some .int, 2, 2, 1, 5),
  (⟨"SkittleRow$Reader", "goesOn", "()Z"⟩, prog_7_method_13_code, 1, some .boolean, 3, 0, 1, 5),
  (⟨"SkittleRow$Rule", "<init>", "()V"⟩, prog_8_method_1_code, 1, none, 1, 0, 2, 6),
  (⟨"SkittleRow$Rule", "addClause", "(III)V"⟩, prog_8_method_2_code, 4, none, 1, 3, 1, 6),
  (⟨"SkittleRow$Rule", "settle", "([II)V"⟩, prog_8_method_3_code, 5, none, 1, 2, 1, 6),
  (⟨"SkittleRow$Rule", "valueOf", "(LSkittleRow$Look;)J"⟩, prog_8_method_4_code, 4, some .long, 3, 1, 1, 6),
  (⟨"SkittleRow$Rule", "reckon", "(IILSkittleRow$Look;)J"⟩, prog_8_method_5_code, 7, some .long, 2, 3, 1, 6),
  (⟨"SkittleRow$Rule", "join", "(IJJ)J"⟩, prog_8_method_6_code, 5, some .long, 1, 3, 0, 6),
  (⟨"SkittleRow$RuleReader", "<init>", "(LSkittleRow$Reader;)V"⟩, prog_9_method_1_code, 2, none, 1, 1, 2, 7),
  (⟨"SkittleRow$RuleReader", "read", "()LSkittleRow$Rule;"⟩, prog_9_method_2_code, 3, some (.object "SkittleRow$Rule"), 11, 0, 1, 7),
  (⟨"SkittleRow$RuleReader", "readClause", "(ILSkittleRow$Rule;)V"⟩, prog_9_method_3_code, 5, none, 10, 2, 1, 7),
  (⟨"SkittleRow$RuleReader", "readTest", "(I)V"⟩, prog_9_method_4_code, 3, none, 9, 1, 1, 7),
  (⟨"SkittleRow$RuleReader", "readPart", "(I)V"⟩, prog_9_method_5_code, 3, none, 9, 1, 1, 7),
  (⟨"SkittleRow$RuleReader", "readFact", "(I)V"⟩, prog_9_method_6_code, 5, none, 10, 1, 1, 7),
  (⟨"SkittleRow$RuleReader", "readSign", "()I"⟩, prog_9_method_7_code, 4, some .int, 3, 0, 1, 7),
  (⟨"SkittleRow$RuleReader", "readSum", "()V"⟩, prog_9_method_8_code, 4, none, 9, 0, 1, 7),
  (⟨"SkittleRow$RuleReader", "codeOf", "(I)I"⟩, prog_9_method_9_code, 1, some .int, 1, 1, 0, 7),
  (⟨"SkittleRow$RuleReader", "readValue", "()V"⟩, prog_9_method_10_code, 5, none, 8, 0, 1, 7),
  (⟨"SkittleRow$RuleReader", "countPart", "(I)V"⟩, prog_9_method_11_code, 2, none, 2, 1, 1, 7),
  (⟨"SkittleRow$RuleReader", "put", "(I)V"⟩, prog_9_method_12_code, 2, none, 2, 1, 1, 7),
  (⟨"SkittleRow$State", "<init>", "()V"⟩, prog_10_method_1_code, 1, none, 1, 0, 2, 8),
  (⟨"SkittleRow$State", "begin", "(LSkittleRow$Alley;)V"⟩, prog_10_method_2_code, 2, none, 1, 1, 1, 8),
  (⟨"SkittleRow$State", "noted", "()I"⟩, prog_10_method_3_code, 1, some .int, 1, 0, 1, 8),
  (⟨"SkittleRow$State", "strokeNoted", "(II)LSkittleRow$Stroke;"⟩, prog_10_method_4_code, 3, some (.object "SkittleRow$Stroke"), 2, 2, 1, 8),
  (⟨"SkittleRow$State", "play", "(LSkittleRow$Stroke;)V"⟩, prog_10_method_5_code, 2, none, 1, 1, 1, 8),
  (⟨"SkittleRow$State", "copyOf", "(LSkittleRow$State;)V"⟩, prog_10_method_6_code, 3, none, 1, 1, 1, 8),
  (⟨"SkittleRow$Stroke", "<init>", "(IIIIII)V"⟩, prog_11_method_1_code, 7, none, 1, 6, 2, 9),
  (⟨"SkittleRow$Stroke", "hasEndIn", "(I)Z"⟩, prog_11_method_2_code, 2, some .boolean, 1, 1, 1, 9),
  (⟨"SkittleRow$Tables", "<init>", "()V"⟩, prog_12_method_1_code, 1, none, 2, 0, 2, 10),
  (⟨"SkittleRow$Tables", "use", "(LSkittleRow$Alley;)V"⟩, prog_12_method_2_code, 2, none, 1, 1, 1, 10),
  (⟨"SkittleRow$Tables", "fillWinning", "()V"⟩, prog_12_method_3_code, 12, none, 2, 0, 1, 10),
  (⟨"SkittleRow$Tables", "canWin", "(I)Z"⟩, prog_12_method_4_code, 2, some .boolean, 3, 1, 1, 10),
  (⟨"SkittleRow$Tables", "winsBy", "(ILSkittleRow$Stroke;)Z"⟩, prog_12_method_5_code, 3, some .boolean, 4, 2, 1, 10),
  (⟨"SkittleRow$Tables", "lawsBehind", "(ILSkittleRow$Stroke;)J"⟩, prog_12_method_6_code, 5, some .long, 3, 2, 1, 10),
  (⟨"SkittleRow$Tables", "fillLengths", "()V"⟩, prog_12_method_7_code, 10, none, 5, 0, 1, 10),
  (⟨"SkittleRow$Tables", "lengthAt", "(I)I"⟩, prog_12_method_8_code, 2, some .int, 6, 1, 1, 10),
  (⟨"SkittleRow$Tables", "fillPlayCounts", "()V"⟩, prog_12_method_9_code, 9, none, 3, 0, 1, 10),
  (⟨"SkittleRow$Tables", "playsAt", "(I)I"⟩, prog_12_method_10_code, 2, some .int, 4, 1, 1, 10),
  (⟨"SkittleRow$Tables", "fillChances", "()V"⟩, prog_12_method_11_code, 11, none, 3, 0, 1, 10),
  (⟨"SkittleRow$Tables", "chanceAt", "(I)I"⟩, prog_12_method_12_code, 2, some .int, 4, 1, 1, 10),
  (⟨"SkittleRow$Tables", "fillClever", "()V"⟩, prog_12_method_13_code, 10, none, 3, 0, 1, 10),
  (⟨"SkittleRow$Tables", "childAt", "(I)I"⟩, prog_12_method_14_code, 2, some .int, 4, 1, 1, 10),
  (⟨"SkittleRow", "<init>", "()V"⟩, prog_1_method_1_code, 1, none, 3, 0, 2, 11),
  (⟨"SkittleRow", "feed", "(IIIII)I"⟩, prog_1_method_2_code, 6, some .int, 2, 5, 1, 11),
  (⟨"SkittleRow", "putBytes", "(I)V"⟩, prog_1_method_3_code, 3, none, 1, 1, 1, 11),
  (⟨"SkittleRow", "end", "(I)I"⟩, prog_1_method_4_code, 2, some .int, 1, 1, 1, 11),
  (⟨"SkittleRow", "alley", "()I"⟩, prog_1_method_5_code, 3, some .int, 10, 0, 1, 11),
  (⟨"SkittleRow", "rule", "()I"⟩, prog_1_method_6_code, 3, some .int, 12, 0, 1, 11),
  (⟨"SkittleRow", "place", "(II)I"⟩, prog_1_method_7_code, 4, some .int, 1, 2, 1, 11),
  (⟨"SkittleRow", "can", "(II)I"⟩, prog_1_method_8_code, 4, some .int, 5, 2, 1, 11),
  (⟨"SkittleRow", "stroke", "(II)I"⟩, prog_1_method_9_code, 4, some .int, 4, 2, 1, 11),
  (⟨"SkittleRow", "up", "(I)I"⟩, prog_1_method_10_code, 2, some .int, 2, 1, 1, 11),
  (⟨"SkittleRow", "pass", "()I"⟩, prog_1_method_11_code, 1, some .int, 2, 0, 1, 11),
  (⟨"SkittleRow", "undo", "()I"⟩, prog_1_method_12_code, 1, some .int, 2, 0, 1, 11),
  (⟨"SkittleRow", "won", "()I"⟩, prog_1_method_13_code, 1, some .int, 4, 0, 1, 11),
  (⟨"SkittleRow", "wins", "(I)I"⟩, prog_1_method_14_code, 8, some .int, 5, 1, 1, 11),
  (⟨"SkittleRow", "worth", "(I)I"⟩, prog_1_method_15_code, 2, some .int, 5, 1, 1, 11),
  (⟨"SkittleRow", "plain", "(I)I"⟩, prog_1_method_16_code, 2, some .int, 1, 1, 1, 11),
  (⟨"SkittleRow", "again", "(I)I"⟩, prog_1_method_17_code, 4, some .int, 2, 1, 1, 11),
  (⟨"SkittleRow", "lasts", "()I"⟩, prog_1_method_18_code, 1, some .int, 7, 0, 1, 11),
  (⟨"SkittleRow", "plays", "()I"⟩, prog_1_method_19_code, 1, some .int, 5, 0, 1, 11),
  (⟨"SkittleRow", "fair", "(I)I"⟩, prog_1_method_20_code, 3, some .int, 5, 1, 1, 11),
  (⟨"SkittleRow", "fairSet", "()I"⟩, prog_1_method_21_code, 5, some .int, 4, 0, 1, 11),
  (⟨"SkittleRow", "chance", "()I"⟩, prog_1_method_22_code, 1, some .int, 5, 0, 1, 11),
  (⟨"SkittleRow", "child", "()I"⟩, prog_1_method_23_code, 1, some .int, 5, 0, 1, 11),
  (⟨"SkittleRow", "match", "(III)I"⟩, prog_1_method_24_code, 4, some .int, 8, 3, 1, 11),
  (⟨"SkittleRow", "isRule", "(I)Z"⟩, prog_1_method_25_code, 2, some .boolean, 1, 1, 1, 11),
  (⟨"SkittleRow", "knew", "(II)I"⟩, prog_1_method_26_code, 10, some .int, 5, 2, 1, 11),
  (⟨"SkittleRow", "law", "(II)I"⟩, prog_1_method_27_code, 7, some .int, 4, 2, 1, 11),
  (⟨"SkittleRow", "seed", "(I)I"⟩, prog_1_method_28_code, 3, some .int, 1, 1, 1, 11),
  (⟨"SkittleRow", "games", "(II)I"⟩, prog_1_method_29_code, 3, some .int, 8, 2, 1, 11),
  (⟨"SkittleRow", "against", "(III)I"⟩, prog_1_method_30_code, 4, some .int, 8, 3, 1, 11),
  (⟨"SkittleRow", "count", "(I)I"⟩, prog_1_method_31_code, 2, some .int, 2, 1, 1, 11),
  (⟨"SkittleRow", "image", "(I)I"⟩, prog_1_method_32_code, 2, some .int, 2, 1, 1, 11),
  (⟨"SkittleRow", "back", "(I)I"⟩, prog_1_method_33_code, 2, some .int, 2, 1, 1, 11),
  (⟨"SkittleRowModel", "<init>", "()V"⟩, prog_14_method_1_code, 1, none, 1, 0, 2, 12),
  (⟨"SkittleRowModel", "in", "(JJJ)Z"⟩, prog_14_method_2_code, 6, some .boolean, 1, 3, 0, 12),
  (⟨"SkittleRowModel", "isOf", "(II)Z"⟩, prog_14_method_3_code, 2, some .boolean, 1, 2, 0, 12),
  (⟨"SkittleRowModel", "bits", "(I)I"⟩, prog_14_method_4_code, 3, some .int, 1, 1, 0, 12),
  (⟨"SkittleRowModel", "four", "(I)V"⟩, prog_14_method_5_code, 3, none, 1, 1, 1, 12),
  (⟨"SkittleRowModel", "feed", "(IIIII)I"⟩, prog_14_method_6_code, 6, some .int, 2, 5, 1, 12),
  (⟨"SkittleRowModel", "end", "(I)I"⟩, prog_14_method_7_code, 2, some .int, 1, 1, 1, 12),
  (⟨"SkittleRowModel", "fails", "(II)Z"⟩, prog_14_method_8_code, 3, some .boolean, 1, 2, 1, 12),
  (⟨"SkittleRowModel", "see", "()I"⟩, prog_14_method_9_code, 1, some .int, 1, 0, 1, 12),
  (⟨"SkittleRowModel", "isDigit", "(I)Z"⟩, prog_14_method_10_code, 2, some .boolean, 1, 1, 1, 12),
  (⟨"SkittleRowModel", "isLetter", "(I)Z"⟩, prog_14_method_11_code, 2, some .boolean, 1, 1, 1, 12),
  (⟨"SkittleRowModel", "isWord", "(J)Z"⟩, prog_14_method_12_code, 6, some .boolean, 2, 1, 1, 12),
  (⟨"SkittleRowModel", "passWord", "()V"⟩, prog_14_method_13_code, 1, none, 2, 0, 1, 12),
  (⟨"SkittleRowModel", "takesWord", "(J)Z"⟩, prog_14_method_14_code, 3, some .boolean, 3, 1, 1, 12),
  (⟨"SkittleRowModel", "numberHere", "(II)Z"⟩, prog_14_method_15_code, 5, some .boolean, 2, 2, 1, 12),
  (⟨"SkittleRowModel", "wordHere", "()I"⟩, prog_14_method_16_code, 1, some .int, 3, 0, 1, 12),
  (⟨"SkittleRowModel", "puts", "(II)V"⟩, prog_14_method_17_code, 3, none, 1, 2, 1, 12),
  (⟨"SkittleRowModel", "makes", "(I)Z"⟩, prog_14_method_18_code, 2, some .boolean, 2, 1, 1, 12),
  (⟨"SkittleRowModel", "opens", "(I)Z"⟩, prog_14_method_19_code, 2, some .boolean, 2, 1, 1, 12),
  (⟨"SkittleRowModel", "strength", "(I)I"⟩, prog_14_method_20_code, 1, some .int, 1, 1, 0, 12),
  (⟨"SkittleRowModel", "settles", "(I)V"⟩, prog_14_method_21_code, 2, none, 2, 1, 1, 12),
  (⟨"SkittleRowModel", "value", "()Z"⟩, prog_14_method_22_code, 3, some .boolean, 4, 0, 1, 12),
  (⟨"SkittleRowModel", "term", "()Z"⟩, prog_14_method_23_code, 2, some .boolean, 5, 0, 1, 12),
  (⟨"SkittleRowModel", "sum", "()Z"⟩, prog_14_method_24_code, 2, some .boolean, 6, 0, 1, 12),
  (⟨"SkittleRowModel", "compare", "()Z"⟩, prog_14_method_25_code, 5, some .boolean, 7, 0, 1, 12),
  (⟨"SkittleRowModel", "fact", "()Z"⟩, prog_14_method_26_code, 3, some .boolean, 8, 0, 1, 12),
  (⟨"SkittleRowModel", "isInside", "()Z"⟩, prog_14_method_27_code, 2, some .boolean, 1, 0, 1, 12),
  (⟨"SkittleRowModel", "closes", "()V"⟩, prog_14_method_28_code, 1, none, 3, 0, 1, 12),
  (⟨"SkittleRowModel", "tested", "()Z"⟩, prog_14_method_29_code, 3, some .boolean, 9, 0, 1, 12),
  (⟨"SkittleRowModel", "isStrokeHere", "()Z"⟩, prog_14_method_30_code, 2, some .boolean, 10, 0, 1, 12),
  (⟨"SkittleRowModel", "isAlleyHere", "(I)Z"⟩, prog_14_method_31_code, 2, some .boolean, 3, 1, 1, 12),
  (⟨"SkittleRowModel", "isPlaceHere", "()Z"⟩, prog_14_method_32_code, 1, some .boolean, 1, 0, 1, 12),
  (⟨"SkittleRowModel", "isRowHere", "(I)Z"⟩, prog_14_method_33_code, 3, some .boolean, 3, 1, 1, 12),
  (⟨"SkittleRowModel", "isRingHere", "()Z"⟩, prog_14_method_34_code, 2, some .boolean, 3, 0, 1, 12),
  (⟨"SkittleRowModel", "isHitHere", "()Z"⟩, prog_14_method_35_code, 1, some .boolean, 3, 0, 1, 12),
  (⟨"SkittleRowModel", "isOnceHere", "(II)Z"⟩, prog_14_method_36_code, 3, some .boolean, 3, 2, 1, 12),
  (⟨"SkittleRowModel", "isStrayHere", "()Z"⟩, prog_14_method_37_code, 1, some .boolean, 3, 0, 1, 12),
  (⟨"SkittleRowModel", "alleyLineHere", "(I)Z"⟩, prog_14_method_38_code, 2, some .boolean, 4, 1, 1, 12),
  (⟨"SkittleRowModel", "isAlleyWord", "()Z"⟩, prog_14_method_39_code, 2, some .boolean, 3, 0, 1, 12),
  (⟨"SkittleRowModel", "clauseHere", "()Z"⟩, prog_14_method_40_code, 3, some .boolean, 11, 0, 1, 12),
  (⟨"SkittleRowModel", "readsAll", "()Z"⟩, prog_14_method_41_code, 2, some .boolean, 12, 0, 1, 12),
  (⟨"SkittleRowModel", "rule", "()I"⟩, prog_14_method_42_code, 1, some .int, 13, 0, 1, 12),
  (⟨"SkittleRowModel", "alley", "()I"⟩, prog_14_method_43_code, 2, some .int, 13, 0, 1, 12),
  (⟨"SkittleRowModel", "isRule", "(I)Z"⟩, prog_14_method_44_code, 2, some .boolean, 1, 1, 1, 12),
  (⟨"SkittleRowModel", "push", "(J)V"⟩, prog_14_method_45_code, 3, none, 1, 1, 1, 12),
  (⟨"SkittleRowModel", "pop", "()J"⟩, prog_14_method_46_code, 1, some .long, 1, 0, 1, 12),
  (⟨"SkittleRowModel", "one", "(IJJ)J"⟩, prog_14_method_47_code, 5, some .long, 1, 3, 0, 12),
  (⟨"SkittleRowModel", "reckons", "(III)J"⟩, prog_14_method_48_code, 11, some .long, 2, 3, 1, 12),
  (⟨"SkittleRowModel", "isAlley", "()Z"⟩, prog_14_method_49_code, 1, some .boolean, 1, 0, 1, 12),
  (⟨"SkittleRowModel", "isPlace", "(I)Z"⟩, prog_14_method_50_code, 2, some .boolean, 1, 1, 1, 12),
  (⟨"SkittleRowModel", "rowOf", "(I)I"⟩, prog_14_method_51_code, 3, some .int, 1, 1, 1, 12),
  (⟨"SkittleRowModel", "beside", "(II)I"⟩, prog_14_method_52_code, 5, some .int, 2, 2, 1, 12),
  (⟨"SkittleRowModel", "strokeBits", "(II)I"⟩, prog_14_method_53_code, 6, some .int, 3, 2, 1, 12),
  (⟨"SkittleRowModel", "lastOf", "(II)I"⟩, prog_14_method_54_code, 5, some .int, 3, 2, 1, 12),
  (⟨"SkittleRowModel", "canBe", "(IIIIZ)Z"⟩, prog_14_method_55_code, 10, some .boolean, 4, 5, 1, 12),
  (⟨"SkittleRowModel", "canBeNow", "(III)Z"⟩, prog_14_method_56_code, 4, some .boolean, 5, 3, 1, 12),
  (⟨"SkittleRowModel", "fillsWon", "(III)V"⟩, prog_14_method_57_code, 10, none, 5, 3, 1, 12),
  (⟨"SkittleRowModel", "fillsNow", "()V"⟩, prog_14_method_58_code, 1, none, 6, 0, 1, 12),
  (⟨"SkittleRowModel", "isWonAt", "(I)Z"⟩, prog_14_method_59_code, 2, some .boolean, 7, 1, 1, 12),
  (⟨"SkittleRowModel", "winsBy", "(III)Z"⟩, prog_14_method_60_code, 4, some .boolean, 8, 3, 1, 12),
  (⟨"SkittleRowModel", "isOverAt", "(I)Z"⟩, prog_14_method_61_code, 4, some .boolean, 6, 1, 1, 12),
  (⟨"SkittleRowModel", "place", "(II)I"⟩, prog_14_method_62_code, 3, some .int, 3, 2, 1, 12),
  (⟨"SkittleRowModel", "can", "(II)I"⟩, prog_14_method_63_code, 3, some .int, 9, 2, 1, 12),
  (⟨"SkittleRowModel", "keepsAct", "()V"⟩, prog_14_method_64_code, 2, none, 1, 0, 1, 12),
  (⟨"SkittleRowModel", "undo", "()I"⟩, prog_14_method_65_code, 2, some .int, 1, 0, 1, 12),
  (⟨"SkittleRowModel", "notes", "(II)V"⟩, prog_14_method_66_code, 4, none, 1, 2, 1, 12),
  (⟨"SkittleRowModel", "stroke", "(II)I"⟩, prog_14_method_67_code, 3, some .int, 6, 2, 1, 12),
  (⟨"SkittleRowModel", "up", "(I)I"⟩, prog_14_method_68_code, 2, some .int, 2, 1, 1, 12),
  (⟨"SkittleRowModel", "pass", "()I"⟩, prog_14_method_69_code, 1, some .int, 2, 0, 1, 12),
  (⟨"SkittleRowModel", "won", "()I"⟩, prog_14_method_70_code, 1, some .int, 8, 0, 1, 12),
  (⟨"SkittleRowModel", "wins", "(I)I"⟩, prog_14_method_71_code, 7, some .int, 9, 1, 1, 12),
  (⟨"SkittleRowModel", "leastUnseen", "()I"⟩, prog_14_method_72_code, 2, some .int, 1, 0, 1, 12),
  (⟨"SkittleRowModel", "clearsSeen", "()V"⟩, prog_14_method_73_code, 2, none, 1, 0, 1, 12),
  (⟨"SkittleRowModel", "worth", "(I)I"⟩, prog_14_method_74_code, 8, some .int, 6, 1, 1, 12),
  (⟨"SkittleRowModel", "fillsPlains", "()V"⟩, prog_14_method_75_code, 5, none, 2, 0, 1, 12),
  (⟨"SkittleRowModel", "plain", "(I)I"⟩, prog_14_method_76_code, 2, some .int, 3, 1, 1, 12),
  (⟨"SkittleRowModel", "comesAgain", "(II)Z"⟩, prog_14_method_77_code, 4, some .boolean, 1, 2, 1, 12),
  (⟨"SkittleRowModel", "again", "(I)I"⟩, prog_14_method_78_code, 4, some .int, 3, 1, 1, 12),
  (⟨"SkittleRowModel", "lastsAt", "(I)I"⟩, prog_14_method_79_code, 8, some .int, 6, 1, 1, 12),
  (⟨"SkittleRowModel", "lasts", "()I"⟩, prog_14_method_80_code, 2, some .int, 7, 0, 1, 12),
  (⟨"SkittleRowModel", "playsAt", "(I)I"⟩, prog_14_method_81_code, 7, some .int, 6, 1, 1, 12),
  (⟨"SkittleRowModel", "plays", "()I"⟩, prog_14_method_82_code, 2, some .int, 7, 0, 1, 12),
  (⟨"SkittleRowModel", "fair", "(I)I"⟩, prog_14_method_83_code, 5, some .int, 8, 1, 1, 12),
  (⟨"SkittleRowModel", "strayed", "(III)I"⟩, prog_14_method_84_code, 5, some .int, 4, 3, 1, 12),
  (⟨"SkittleRowModel", "chanceAt", "(I)I"⟩, prog_14_method_85_code, 7, some .int, 6, 1, 1, 12),
  (⟨"SkittleRowModel", "chance", "()I"⟩, prog_14_method_86_code, 2, some .int, 7, 0, 1, 12),
  (⟨"SkittleRowModel", "bestAt", "(I)I"⟩, prog_14_method_87_code, 6, some .int, 6, 1, 1, 12),
  (⟨"SkittleRowModel", "childAt", "(I)I"⟩, prog_14_method_88_code, 6, some .int, 6, 1, 1, 12),
  (⟨"SkittleRowModel", "child", "()I"⟩, prog_14_method_89_code, 2, some .int, 7, 0, 1, 12),
  (⟨"SkittleRowModel", "countsRun", "(I)V"⟩, prog_14_method_90_code, 2, none, 1, 1, 1, 12),
  (⟨"SkittleRowModel", "countsRow", "(II)V"⟩, prog_14_method_91_code, 8, none, 2, 2, 1, 12),
  (⟨"SkittleRowModel", "countsRuns", "(I)V"⟩, prog_14_method_92_code, 3, none, 3, 1, 1, 12),
  (⟨"SkittleRowModel", "words", "(IIIII)V"⟩, prog_14_method_93_code, 7, none, 8, 5, 1, 12),
  (⟨"SkittleRowModel", "summedBy", "(I)J"⟩, prog_14_method_94_code, 4, some .long, 3, 1, 1, 12),
  (⟨"SkittleRowModel", "strokeBy", "(IIII)I"⟩, prog_14_method_95_code, 12, some .int, 9, 4, 1, 12),
  (⟨"SkittleRowModel", "winner", "(I)I"⟩, prog_14_method_96_code, 2, some .int, 1, 1, 1, 12),
  (⟨"SkittleRowModel", "match", "(III)I"⟩, prog_14_method_97_code, 8, some .int, 10, 3, 1, 12),
  (⟨"SkittleRowModel", "noted", "(II)I"⟩, prog_14_method_98_code, 3, some .int, 1, 2, 1, 12),
  (⟨"SkittleRowModel", "winsNoted", "(I)Z"⟩, prog_14_method_99_code, 2, some .boolean, 4, 1, 1, 12),
  (⟨"SkittleRowModel", "knew", "(II)I"⟩, prog_14_method_100_code, 8, some .int, 7, 2, 1, 12),
  (⟨"SkittleRowModel", "fitsLaw", "(IIII)Z"⟩, prog_14_method_101_code, 6, some .boolean, 6, 4, 1, 12),
  (⟨"SkittleRowModel", "law", "(II)I"⟩, prog_14_method_102_code, 6, some .int, 7, 2, 1, 12),
  (⟨"SkittleRowModel", "seed", "(I)I"⟩, prog_14_method_103_code, 3, some .int, 1, 1, 1, 12),
  (⟨"SkittleRowModel", "draw", "(I)I"⟩, prog_14_method_104_code, 2, some .int, 1, 1, 1, 12),
  (⟨"SkittleRowModel", "strokeDrawn", "(I)I"⟩, prog_14_method_105_code, 6, some .int, 6, 1, 1, 12),
  (⟨"SkittleRowModel", "playsDrawn", "(II)V"⟩, prog_14_method_106_code, 9, none, 10, 2, 1, 12),
  (⟨"SkittleRowModel", "games", "(II)I"⟩, prog_14_method_107_code, 3, some .int, 11, 2, 1, 12),
  (⟨"SkittleRowModel", "against", "(III)I"⟩, prog_14_method_108_code, 4, some .int, 11, 3, 1, 12),
  (⟨"SkittleRowModel", "count", "(I)I"⟩, prog_14_method_109_code, 2, some .int, 1, 1, 1, 12),
  (⟨"SkittleRowModel", "image", "(I)I"⟩, prog_14_method_110_code, 3, some .int, 2, 1, 1, 12),
  (⟨"SkittleRowModel", "back", "(I)I"⟩, prog_14_method_111_code, 3, some .int, 2, 1, 1, 12),
  (⟨"java/lang/Integer", "numberOfTrailingZeros", "(I)I"⟩, prog_15_method_48_code, 2, some .int, 1, 1, 0, 14),
  (⟨"java/lang/Integer", "bitCount", "(I)I"⟩, prog_15_method_49_code, 1, some .int, 1, 1, 0, 14),
  (⟨"java/lang/Long", "numberOfTrailingZeros", "(J)I"⟩, prog_16_method_49_code, 3, some .int, 2, 1, 0, 15),
  (⟨"java/lang/Long", "bitCount", "(J)I"⟩, prog_16_method_50_code, 2, some .int, 1, 1, 0, 15),
  (⟨"java/lang/Math", "max", "(II)I"⟩, prog_17_method_65_code, 2, some .int, 1, 2, 3, 16),
  (⟨"java/lang/Math", "min", "(II)I"⟩, prog_17_method_69_code, 2, some .int, 1, 2, 3, 16),
  (⟨"java/lang/String", "length", "()I"⟩, prog_18_method_54_code, 1, some .int, 2, 0, 1, 17),
  (⟨"java/lang/String", "charAt", "(I)C"⟩, prog_18_method_56_code, 2, some .char, 5, 1, 1, 17),
  (⟨"java/lang/String", "coder", "()B"⟩, prog_18_method_152_code, 1, some .byte, 1, 0, 1, 17),
  (⟨"java/lang/String", "isLatin1", "()Z"⟩, prog_18_method_154_code, 1, some .boolean, 1, 0, 1, 17),
  (⟨"java/lang/String", "checkIndex", "(II)V"⟩, prog_18_method_155_code, 2, none, 2, 2, 0, 17),
  (⟨"java/lang/StringLatin1", "charAt", "([BI)C"⟩, prog_19_method_2_code, 2, some .char, 3, 2, 0, 18),
  (⟨"java/lang/StringUTF16", "getChar", "([BI)C"⟩, prog_20_method_5_code, 2, some .char, 2, 2, 0, 19),
  (⟨"java/lang/StringUTF16", "length", "([B)I"⟩, prog_20_method_6_code, 1, some .int, 1, 1, 0, 19),
  (⟨"java/lang/StringUTF16", "charAt", "([BI)C"⟩, prog_20_method_83_code, 2, some .char, 4, 2, 0, 19),
  (⟨"java/lang/StringUTF16", "checkIndex", "(I[B)V"⟩, prog_20_method_91_code, 2, none, 3, 2, 0, 19),
  (⟨"jdk/internal/util/Preconditions", "checkIndex", "(IILjava/util/function/BiFunction;)I"⟩, prog_21_method_11_code, 3, some .int, 1, 3, 0, 20),
  (⟨"SkittleRowLaw", "law", "([I)Z"⟩, code, 4, some .boolean, 14, 1, 0, 13)]
def sk_nfo (m : Nat) : MethodName × ByteArray × Nat × Option FieldType × Nat × Nat × Nat × Nat := sk_info.getD m (⟨"", "", ""⟩, ⟨#[]⟩, 0, none, 0, 0, 0, 99)
def sk_mix : List (List Nat) := [
  [192, 110, 191],
  [694, 110, 692, 693],
  [874, 110, 872, 873],
  [901, 110, 899, 900],
  [221, 112, 220],
  [592, 112, 590, 591],
  [613, 112, 611, 612],
  [617, 112, 616, 7],
  [667, 112, 666],
  [670, 112, 669],
  [621, 112, 620],
  [846, 112, 844, 845],
  [842, 112, 840, 841],
  [674, 112, 673, 8],
  [677, 112, 676],
  [923, 112, 921, 922],
  [931, 112, 929, 930],
  [919, 112, 917, 918],
  [927, 112, 926, 19],
  [943, 112, 941, 942],
  [1109, 112, 1107, 1108],
  [473, 118, 472],
  [487, 118, 485, 486],
  [491, 118, 490, 1],
  [560, 118, 559, 3],
  [576, 118, 575, 4],
  [580, 118, 579],
  [596, 118, 595, 5],
  [600, 118, 599, 6],
  [353, 113, 352],
  [1015, 113, 1013, 1014],
  [1019, 113, 1018, 26],
  [1032, 113, 1031, 28],
  [1023, 113, 1022, 27],
  [359, 114, 358],
  [1056, 114, 1054, 1055],
  [1036, 114, 1034, 1035],
  [1042, 114, 1041, 29],
  [448, 116, 447],
  [584, 116, 582, 583],
  [556, 116, 554, 555],
  [588, 116, 586, 587],
  [500, 116, 498, 499],
  [609, 116, 607, 608],
  [496, 116, 494, 495],
  [552, 116, 551, 2],
  [564, 116, 562, 563],
  [793, 116, 791, 792],
  [571, 116, 570],
  [568, 116, 566, 567],
  [604, 116, 602, 603],
  [730, 127, 729],
  [820, 127, 818, 819],
  [825, 127, 823, 824],
  [1048, 127, 1046, 1047],
  [1052, 127, 1051, 30],
  [1059, 127, 1058],
  [707, 126, 706],
  [725, 126, 723, 724],
  [758, 126, 757, 9],
  [799, 126, 798, 14],
  [803, 126, 802, 15],
  [807, 126, 806, 16],
  [812, 126, 811, 17],
  [766, 126, 765, 10],
  [788, 126, 787],
  [770, 126, 769, 11],
  [781, 126, 780, 12],
  [785, 126, 784, 13],
  [142, 109, 141],
  [690, 109, 688, 689],
  [1067, 109, 1065, 1066],
  [1072, 109, 1070, 1071],
  [879, 109, 877, 878],
  [1117, 109, 1115, 1116],
  [624, 123, 623],
  [850, 123, 848, 849],
  [215, 111, 214],
  [698, 111, 696, 697],
  [862, 111, 861, 18],
  [858, 111, 856, 857],
  [854, 111, 852, 853],
  [1082, 111, 1080, 1081],
  [955, 111, 954, 20],
  [951, 111, 949, 950],
  [970, 111, 969, 21],
  [966, 111, 964, 965],
  [991, 111, 990, 23],
  [987, 111, 985, 986],
  [1003, 111, 1002, 24],
  [999, 111, 997, 998],
  [132, 108, 131],
  [431, 108, 429, 430],
  [435, 108, 434, 0],
  [439, 108, 437, 438],
  [443, 108, 441, 442],
  [702, 108, 700, 701],
  [834, 108, 832, 833],
  [838, 108, 836, 837],
  [870, 108, 868, 869],
  [889, 108, 887, 888],
  [893, 108, 891, 892],
  [897, 108, 895, 896],
  [905, 108, 903, 904],
  [910, 108, 908, 909],
  [915, 108, 913, 914],
  [935, 108, 933, 934],
  [939, 108, 937, 938],
  [947, 108, 945, 946],
  [962, 108, 960, 961],
  [975, 108, 973, 974],
  [979, 108, 978, 22],
  [983, 108, 981, 982],
  [995, 108, 993, 994],
  [1007, 108, 1005, 1006],
  [1011, 108, 1010, 25],
  [1063, 108, 1061, 1062],
  [1077, 108, 1075, 1076],
  [1093, 108, 1091, 1092],
  [1097, 108, 1095, 1096],
  [1101, 108, 1099, 1100],
  [1105, 108, 1103, 1104],
  [1113, 108, 1111, 1112],
  [1121, 108, 1119, 1120],
  [1126, 115, 1125],
  [1323, 115, 1322],
  [1466, 115, 1465],
  [1509, 115, 1508],
  [1256, 115, 1255, 31],
  [1252, 115, 1250, 1251],
  [1260, 115, 1258, 1259],
  [1300, 115, 1299, 38],
  [1276, 115, 1275, 34],
  [1320, 115, 1319, 43],
  [1289, 115, 1288, 37],
  [1285, 115, 1284, 36],
  [1312, 115, 1311, 41],
  [1391, 115, 1390, 57],
  [1316, 115, 1315, 42],
  [1376, 115, 1375, 56],
  [1372, 115, 1371, 55],
  [1368, 115, 1367, 54],
  [1404, 115, 1403, 60],
  [1419, 115, 1418],
  [1416, 115, 1415, 63],
  [1363, 115, 1362, 53],
  [1359, 115, 1358, 52],
  [1355, 115, 1354, 51],
  [1408, 115, 1407, 61],
  [1399, 115, 1398, 59],
  [1423, 115, 1422, 64],
  [1412, 115, 1411, 62],
  [1395, 115, 1394, 58],
  [1351, 115, 1350, 50],
  [1308, 115, 1307, 40],
  [1331, 115, 1330, 45],
  [1327, 115, 1326, 44],
  [1335, 115, 1334, 46],
  [1339, 115, 1338, 47],
  [1343, 115, 1342, 48],
  [1347, 115, 1346, 49],
  [1304, 115, 1303, 39],
  [1280, 115, 1279, 35],
  [1272, 115, 1271, 33],
  [1268, 115, 1267, 32],
  [1264, 115, 1262, 1263],
  [1429, 115, 1427, 1428],
  [1608, 115, 1607, 89],
  [1640, 115, 1639, 97],
  [1644, 115, 1643, 98],
  [1647, 115, 1646],
  [1636, 115, 1635, 96],
  [1454, 115, 1453, 68],
  [1437, 115, 1436, 65],
  [1442, 115, 1441, 66],
  [1446, 115, 1445, 67],
  [1470, 115, 1469, 71],
  [1474, 115, 1473, 72],
  [1463, 115, 1462, 70],
  [1459, 115, 1458, 69],
  [1490, 115, 1489, 76],
  [1486, 115, 1485, 75],
  [1482, 115, 1481, 74],
  [1478, 115, 1477, 73],
  [1663, 115, 1662, 101],
  [1433, 115, 1431, 1432],
  [1450, 115, 1448, 1449],
  [1502, 115, 1501, 77],
  [1494, 115, 1492, 1493],
  [1506, 115, 1505, 78],
  [1498, 115, 1496, 1497],
  [1513, 115, 1511, 1512],
  [1517, 115, 1515, 1516],
  [1521, 115, 1519, 1520],
  [1525, 115, 1523, 1524],
  [1538, 115, 1537, 80],
  [1534, 115, 1533, 79],
  [1530, 115, 1528, 1529],
  [1547, 115, 1546, 81],
  [1542, 115, 1540, 1541],
  [1555, 115, 1554, 82],
  [1551, 115, 1549, 1550],
  [1563, 115, 1562, 83],
  [1559, 115, 1557, 1558],
  [1571, 115, 1570, 84],
  [1567, 115, 1565, 1566],
  [1576, 115, 1574, 1575],
  [1588, 115, 1587, 86],
  [1584, 115, 1583, 85],
  [1580, 115, 1578, 1579],
  [1596, 115, 1595, 87],
  [1600, 115, 1599, 88],
  [1592, 115, 1590, 1591],
  [1628, 115, 1627, 94],
  [1624, 115, 1623, 93],
  [1620, 115, 1619, 92],
  [1616, 115, 1615, 91],
  [1632, 115, 1631, 95],
  [1612, 115, 1611, 90],
  [1651, 115, 1650, 99],
  [1604, 115, 1602, 1603],
  [1659, 115, 1658, 100],
  [1667, 115, 1666, 102],
  [1655, 115, 1653, 1654],
  [1675, 115, 1674, 103],
  [1671, 115, 1669, 1670],
  [1679, 115, 1677, 1678],
  [1696, 115, 1695, 106],
  [1692, 115, 1691, 105],
  [1688, 115, 1687, 104],
  [1683, 115, 1681, 1682],
  [1704, 115, 1702, 1703],
  [1708, 115, 1706, 1707],
  [1712, 115, 1710, 1711],
  [1716, 115, 1714, 1715],
  [684, 125, 683],
  [882, 125, 881],
  [681, 124, 680],
  [1085, 124, 1084],
  [],
  [],
  [504, 119, 502, 503],
  [514, 119, 512, 513],
  [508, 119, 506, 507],
  [518, 119, 516, 517],
  [524, 119, 523],
  [521, 120, 520],
  [542, 122, 541],
  [538, 122, 537],
  [532, 122, 531],
  [535, 122, 534],
  [529, 121, 528],
  []]
/-- the texts: where they are named, their signs -/
def sk_str : List (String × Nat × String × Nat × List Int32) := [("SkittleRow$AlleyReader", 38, "alley row ring hit ends last stray", 34, [97, 108, 108, 101, 121, 32, 114, 111, 119, 32, 114, 105, 110, 103, 32, 104, 105, 116, 32, 101, 110, 100, 115, 32, 108, 97, 115, 116, 32, 115, 116, 114, 97, 121]), ("SkittleRow$RuleReader", 43, "stroke", 6, [115, 116, 114, 111, 107, 101]), ("SkittleRow$RuleReader", 123, "place many row standing left runs longest alone won turn strokes", 64, [112, 108, 97, 99, 101, 32, 109, 97, 110, 121, 32, 114, 111, 119, 32, 115, 116, 97, 110, 100, 105, 110, 103, 32, 108, 101, 102, 116, 32, 114, 117, 110, 115, 32, 108, 111, 110, 103, 101, 115, 116, 32, 97, 108, 111, 110, 101, 32, 119, 111, 110, 32, 116, 117, 114, 110, 32, 115, 116, 114, 111, 107, 101, 115]), ("SkittleRow$RuleReader", 62, "if", 2, [105, 102]), ("SkittleRow$RuleReader", 93, "not", 3, [110, 111, 116]), ("SkittleRow$RuleReader", 87, "and", 3, [97, 110, 100]), ("SkittleRow$RuleReader", 79, "or", 2, [111, 114])]
def sk_laws : List Int64 := [0, 1085102592571150095, 1148435428713435120, 1152903912689233920, 1152921504338411520]
