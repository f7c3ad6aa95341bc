/-- the words that stay when tables grow warm -/
def sk_wds : List Cond := lw_tbl.filter goodWord
/-- where the one field of a nest mate is named -/
def sk_nst : String × Nat := ("SkittleRow$Stroke", 28)
def RX0 : String := "SkittleRow$Acts"
def TX0 : u_T := fun k => match k with
  | 0 => ("SkittleRow$Acts", "standing", "[I", true)
  | 1 => ("SkittleRow$Acts", "turn", "[I", true)
  | 2 => ("SkittleRow$Acts", "played", "[I", true)
  | 3 => ("SkittleRow$Acts", "next", "I", false)
  | _ => ("SkittleRow$Acts", "kept", "I", false)
def tyX0 : Nat → FieldType := fun k => match k with
  | 0 => .array .int
  | 1 => .array .int
  | 2 => .array .int
  | 3 => .int
  | _ => .int
theorem nmX0 : ∀ a, a < 5 → ∀ b, b < 5 → a ≠ b → (TX0 a).2.1 ≠ (TX0 b).2.1 := by decide +kernel
theorem tyX0_ok : ∀ k, k < 5 → parseFieldDescriptor (TX0 k).2.2.1 = some (tyX0 k) := by decide +kernel
theorem inX0 : ∀ w ∈ u_ws RX0 TX0 5, w ∈ sk_wds := by decide +kernel
def RX1 : String := "SkittleRow$Alley"
def TX1 : u_T := fun k => match k with
  | 0 => ("SkittleRow$Alley", "first", "I", false)
  | 1 => ("SkittleRow$Alley", "standing", "I", false)
  | 2 => ("SkittleRow$Alley", "places", "I", false)
  | 3 => ("SkittleRow$Alley", "rows", "I", false)
  | 4 => ("SkittleRow$Alley", "hits", "I", false)
  | 5 => ("SkittleRow$Alley", "ends", "Z", false)
  | 6 => ("SkittleRow$Alley", "last", "Z", false)
  | 7 => ("SkittleRow$Alley", "stray", "I", false)
  | 8 => ("SkittleRow$Alley", "rowOf", "[I", true)
  | 9 => ("SkittleRow$Alley", "rowFirst", "[I", true)
  | 10 => ("SkittleRow$Alley", "rowSize", "[I", true)
  | 11 => ("SkittleRow$Alley", "ring", "[Z", true)
  | 12 => ("SkittleRow$Alley", "behind", "[I", true)
  | 13 => ("SkittleRow$Alley", "ahead", "[I", true)
  | 14 => ("SkittleRow$Alley", "strokes", "[LSkittleRow$Stroke;", false)
  | 15 => ("SkittleRow$Alley", "strokesOfAnyLaw", "[LSkittleRow$Stroke;", false)
  | _ => ("SkittleRow$Alley", "plainWorths", "[I", true)
def tyX1 : Nat → FieldType := fun k => match k with
  | 0 => .int
  | 1 => .int
  | 2 => .int
  | 3 => .int
  | 4 => .int
  | 5 => .boolean
  | 6 => .boolean
  | 7 => .int
  | 8 => .array .int
  | 9 => .array .int
  | 10 => .array .int
  | 11 => .array .boolean
  | 12 => .array .int
  | 13 => .array .int
  | 14 => .array (.object "SkittleRow$Stroke")
  | 15 => .array (.object "SkittleRow$Stroke")
  | _ => .array .int
theorem nmX1 : ∀ a, a < 17 → ∀ b, b < 17 → a ≠ b → (TX1 a).2.1 ≠ (TX1 b).2.1 := by decide +kernel
theorem tyX1_ok : ∀ k, k < 17 → parseFieldDescriptor (TX1 k).2.2.1 = some (tyX1 k) := by decide +kernel
theorem inX1 : ∀ w ∈ u_ws RX1 TX1 17, w ∈ sk_wds := by decide +kernel
def RX2 : String := "SkittleRow$AlleyReader"
def TX2 : u_T := fun k => match k with
  | 0 => ("SkittleRow$AlleyReader", "text", "LSkittleRow$Reader;", true)
  | _ => ("SkittleRow$AlleyReader", "told", "LSkittleRow$Alley;", true)
def tyX2 : Nat → FieldType := fun k => match k with
  | 0 => .object "SkittleRow$Reader"
  | _ => .object "SkittleRow$Alley"
theorem nmX2 : ∀ a, a < 2 → ∀ b, b < 2 → a ≠ b → (TX2 a).2.1 ≠ (TX2 b).2.1 := by decide +kernel
theorem tyX2_ok : ∀ k, k < 2 → parseFieldDescriptor (TX2 k).2.2.1 = some (tyX2 k) := by decide +kernel
theorem inX2 : ∀ w ∈ u_ws RX2 TX2 2, w ∈ sk_wds := by decide +kernel
def RX3 : String := "SkittleRow$Bout"
def TX3 : u_T := fun k => match k with
  | 0 => ("SkittleRow$Bout", "look", "LSkittleRow$Look;", true)
  | 1 => ("SkittleRow$Bout", "tables", "LSkittleRow$Tables;", false)
  | 2 => ("SkittleRow$Bout", "alley", "LSkittleRow$Alley;", false)
  | 3 => ("SkittleRow$Bout", "standing", "I", false)
  | 4 => ("SkittleRow$Bout", "turn", "I", false)
  | 5 => ("SkittleRow$Bout", "played", "I", false)
  | 6 => ("SkittleRow$Bout", "x", "J", false)
  | 7 => ("SkittleRow$Bout", "wonByZero", "I", false)
  | _ => ("SkittleRow$Bout", "strokes", "I", false)
def tyX3 : Nat → FieldType := fun k => match k with
  | 0 => .object "SkittleRow$Look"
  | 1 => .object "SkittleRow$Tables"
  | 2 => .object "SkittleRow$Alley"
  | 3 => .int
  | 4 => .int
  | 5 => .int
  | 6 => .long
  | 7 => .int
  | _ => .int
theorem nmX3 : ∀ a, a < 9 → ∀ b, b < 9 → a ≠ b → (TX3 a).2.1 ≠ (TX3 b).2.1 := by decide +kernel
theorem tyX3_ok : ∀ k, k < 9 → parseFieldDescriptor (TX3 k).2.2.1 = some (tyX3 k) := by decide +kernel
theorem inX3 : ∀ w ∈ u_ws RX3 TX3 9, w ∈ sk_wds := by decide +kernel
def RX4 : String := "SkittleRow$Look"
def TX4 : u_T := fun k => match k with
  | _ => ("SkittleRow$Look", "values", "[J", true)
def tyX4 : Nat → FieldType := fun k => match k with
  | _ => .array .long
theorem nmX4 : ∀ a, a < 1 → ∀ b, b < 1 → a ≠ b → (TX4 a).2.1 ≠ (TX4 b).2.1 := by decide +kernel
theorem tyX4_ok : ∀ k, k < 1 → parseFieldDescriptor (TX4 k).2.2.1 = some (tyX4 k) := by decide +kernel
theorem inX4 : ∀ w ∈ u_ws RX4 TX4 1, w ∈ sk_wds := by decide +kernel
def RX5 : String := "SkittleRow$Reader"
def TX5 : u_T := fun k => match k with
  | 0 => ("SkittleRow$Reader", "text", "[C", true)
  | 1 => ("SkittleRow$Reader", "length", "I", true)
  | 2 => ("SkittleRow$Reader", "at", "I", false)
  | _ => ("SkittleRow$Reader", "fault", "I", false)
def tyX5 : Nat → FieldType := fun k => match k with
  | 0 => .array .char
  | 1 => .int
  | 2 => .int
  | _ => .int
theorem nmX5 : ∀ a, a < 4 → ∀ b, b < 4 → a ≠ b → (TX5 a).2.1 ≠ (TX5 b).2.1 := by decide +kernel
theorem tyX5_ok : ∀ k, k < 4 → parseFieldDescriptor (TX5 k).2.2.1 = some (tyX5 k) := by decide +kernel
theorem inX5 : ∀ w ∈ u_ws RX5 TX5 4, w ∈ sk_wds := by decide +kernel
def RX6 : String := "SkittleRow$Rule"
def TX6 : u_T := fun k => match k with
  | 0 => ("SkittleRow$Rule", "code", "[I", false)
  | 1 => ("SkittleRow$Rule", "clauses", "I", false)
  | 2 => ("SkittleRow$Rule", "sumFrom", "[I", true)
  | 3 => ("SkittleRow$Rule", "testFrom", "[I", true)
  | 4 => ("SkittleRow$Rule", "testTo", "[I", true)
  | 5 => ("SkittleRow$Rule", "stack", "[J", true)
  | _ => ("SkittleRow$Rule", "words", "I", false)
def tyX6 : Nat → FieldType := fun k => match k with
  | 0 => .array .int
  | 1 => .int
  | 2 => .array .int
  | 3 => .array .int
  | 4 => .array .int
  | 5 => .array .long
  | _ => .int
theorem nmX6 : ∀ a, a < 7 → ∀ b, b < 7 → a ≠ b → (TX6 a).2.1 ≠ (TX6 b).2.1 := by decide +kernel
theorem tyX6_ok : ∀ k, k < 7 → parseFieldDescriptor (TX6 k).2.2.1 = some (tyX6 k) := by decide +kernel
theorem inX6 : ∀ w ∈ u_ws RX6 TX6 7, w ∈ sk_wds := by decide +kernel
def RX7 : String := "SkittleRow$RuleReader"
def TX7 : u_T := fun k => match k with
  | 0 => ("SkittleRow$RuleReader", "text", "LSkittleRow$Reader;", true)
  | 1 => ("SkittleRow$RuleReader", "code", "[I", true)
  | 2 => ("SkittleRow$RuleReader", "size", "I", false)
  | _ => ("SkittleRow$RuleReader", "parts", "I", false)
def tyX7 : Nat → FieldType := fun k => match k with
  | 0 => .object "SkittleRow$Reader"
  | 1 => .array .int
  | 2 => .int
  | _ => .int
theorem nmX7 : ∀ a, a < 4 → ∀ b, b < 4 → a ≠ b → (TX7 a).2.1 ≠ (TX7 b).2.1 := by decide +kernel
theorem tyX7_ok : ∀ k, k < 4 → parseFieldDescriptor (TX7 k).2.2.1 = some (tyX7 k) := by decide +kernel
theorem inX7 : ∀ w ∈ u_ws RX7 TX7 4, w ∈ sk_wds := by decide +kernel
def RX8 : String := "SkittleRow$State"
def TX8 : u_T := fun k => match k with
  | 0 => ("SkittleRow$State", "alley", "LSkittleRow$Alley;", false)
  | 1 => ("SkittleRow$State", "standing", "I", false)
  | 2 => ("SkittleRow$State", "turn", "I", false)
  | 3 => ("SkittleRow$State", "played", "I", false)
  | 4 => ("SkittleRow$State", "x", "I", false)
  | 5 => ("SkittleRow$State", "notePlayer", "[I", true)
  | 6 => ("SkittleRow$State", "noteStanding", "[I", true)
  | _ => ("SkittleRow$State", "noteStroke", "[LSkittleRow$Stroke;", true)
def tyX8 : Nat → FieldType := fun k => match k with
  | 0 => .object "SkittleRow$Alley"
  | 1 => .int
  | 2 => .int
  | 3 => .int
  | 4 => .int
  | 5 => .array .int
  | 6 => .array .int
  | _ => .array (.object "SkittleRow$Stroke")
theorem nmX8 : ∀ a, a < 8 → ∀ b, b < 8 → a ≠ b → (TX8 a).2.1 ≠ (TX8 b).2.1 := by decide +kernel
theorem tyX8_ok : ∀ k, k < 8 → parseFieldDescriptor (TX8 k).2.2.1 = some (tyX8 k) := by decide +kernel
theorem inX8 : ∀ w ∈ u_ws RX8 TX8 8, w ∈ sk_wds := by decide +kernel
def RX9 : String := "SkittleRow$Stroke"
def TX9 : u_T := fun k => match k with
  | 0 => ("SkittleRow$Stroke", "place", "I", true)
  | 1 => ("SkittleRow$Stroke", "many", "I", true)
  | 2 => ("SkittleRow$Stroke", "row", "I", true)
  | 3 => ("SkittleRow$Stroke", "mask", "I", true)
  | 4 => ("SkittleRow$Stroke", "behind", "I", true)
  | 5 => ("SkittleRow$Stroke", "ahead", "I", true)
  | _ => ("SkittleRow$Stroke", "laws", "J", true)
def tyX9 : Nat → FieldType := fun k => match k with
  | 0 => .int
  | 1 => .int
  | 2 => .int
  | 3 => .int
  | 4 => .int
  | 5 => .int
  | _ => .long
theorem nmX9 : ∀ a, a < 7 → ∀ b, b < 7 → a ≠ b → (TX9 a).2.1 ≠ (TX9 b).2.1 := by decide +kernel
theorem tyX9_ok : ∀ k, k < 7 → parseFieldDescriptor (TX9 k).2.2.1 = some (tyX9 k) := by decide +kernel
theorem inX9 : ∀ w ∈ u_ws RX9 TX9 7, w ∈ sk_wds := by decide +kernel
def RX10 : String := "SkittleRow$Tables"
def TX10 : u_T := fun k => match k with
  | 0 => ("SkittleRow$Tables", "alley", "LSkittleRow$Alley;", false)
  | 1 => ("SkittleRow$Tables", "ownLaw", "I", false)
  | 2 => ("SkittleRow$Tables", "states", "I", false)
  | 3 => ("SkittleRow$Tables", "winning", "[J", true)
  | 4 => ("SkittleRow$Tables", "lengths", "[I", true)
  | 5 => ("SkittleRow$Tables", "playCounts", "[I", true)
  | 6 => ("SkittleRow$Tables", "chances", "[I", true)
  | 7 => ("SkittleRow$Tables", "clever", "[I", true)
  | 8 => ("SkittleRow$Tables", "childish", "[I", true)
  | 9 => ("SkittleRow$Tables", "hasWinning", "Z", false)
  | 10 => ("SkittleRow$Tables", "hasLengths", "Z", false)
  | 11 => ("SkittleRow$Tables", "hasPlayCounts", "Z", false)
  | 12 => ("SkittleRow$Tables", "hasChances", "Z", false)
  | _ => ("SkittleRow$Tables", "hasClever", "Z", false)
def tyX10 : Nat → FieldType := fun k => match k with
  | 0 => .object "SkittleRow$Alley"
  | 1 => .int
  | 2 => .int
  | 3 => .array .long
  | 4 => .array .int
  | 5 => .array .int
  | 6 => .array .int
  | 7 => .array .int
  | 8 => .array .int
  | 9 => .boolean
  | 10 => .boolean
  | 11 => .boolean
  | 12 => .boolean
  | _ => .boolean
theorem nmX10 : ∀ a, a < 14 → ∀ b, b < 14 → a ≠ b → (TX10 a).2.1 ≠ (TX10 b).2.1 := by decide +kernel
theorem tyX10_ok : ∀ k, k < 14 → parseFieldDescriptor (TX10 k).2.2.1 = some (tyX10 k) := by decide +kernel
theorem inX10 : ∀ w ∈ u_ws RX10 TX10 14, w ∈ sk_wds := by decide +kernel
def RX11 : String := "SkittleRow"
def TX11 : u_T := fun k => match k with
  | 0 => ("SkittleRow", "tape", "[C", true)
  | 1 => ("SkittleRow", "tapeLength", "I", false)
  | 2 => ("SkittleRow", "rules", "[LSkittleRow$Rule;", true)
  | 3 => ("SkittleRow", "ruleCount", "I", false)
  | 4 => ("SkittleRow", "now", "LSkittleRow$State;", true)
  | 5 => ("SkittleRow", "images", "[LSkittleRow$State;", true)
  | 6 => ("SkittleRow", "acts", "LSkittleRow$Acts;", true)
  | 7 => ("SkittleRow", "tables", "LSkittleRow$Tables;", true)
  | _ => ("SkittleRow", "bout", "LSkittleRow$Bout;", true)
def tyX11 : Nat → FieldType := fun k => match k with
  | 0 => .array .char
  | 1 => .int
  | 2 => .array (.object "SkittleRow$Rule")
  | 3 => .int
  | 4 => .object "SkittleRow$State"
  | 5 => .array (.object "SkittleRow$State")
  | 6 => .object "SkittleRow$Acts"
  | 7 => .object "SkittleRow$Tables"
  | _ => .object "SkittleRow$Bout"
theorem nmX11 : ∀ a, a < 9 → ∀ b, b < 9 → a ≠ b → (TX11 a).2.1 ≠ (TX11 b).2.1 := by decide +kernel
theorem tyX11_ok : ∀ k, k < 9 → parseFieldDescriptor (TX11 k).2.2.1 = some (tyX11 k) := by decide +kernel
theorem inX11 : ∀ w ∈ u_ws RX11 TX11 9, w ∈ sk_wds := by decide +kernel
def RX12 : String := "SkittleRowModel"
def TX12 : u_T := fun k => match k with
  | 0 => ("SkittleRowModel", "tape", "[B", true)
  | 1 => ("SkittleRowModel", "taped", "I", false)
  | 2 => ("SkittleRowModel", "rules", "I", false)
  | 3 => ("SkittleRowModel", "sign", "[I", true)
  | 4 => ("SkittleRowModel", "length", "[I", true)
  | 5 => ("SkittleRowModel", "clause", "[I", true)
  | 6 => ("SkittleRowModel", "clauses", "[I", true)
  | 7 => ("SkittleRowModel", "read", "[I", true)
  | 8 => ("SkittleRowModel", "next", "I", false)
  | 9 => ("SkittleRowModel", "wrong", "I", false)
  | 10 => ("SkittleRowModel", "number", "I", false)
  | 11 => ("SkittleRowModel", "text", "I", false)
  | 12 => ("SkittleRowModel", "made", "I", false)
  | 13 => ("SkittleRowModel", "deep", "I", false)
  | 14 => ("SkittleRowModel", "lines", "I", false)
  | 15 => ("SkittleRowModel", "open", "[I", true)
  | 16 => ("SkittleRowModel", "opened", "I", false)
  | 17 => ("SkittleRowModel", "stack", "[J", true)
  | 18 => ("SkittleRowModel", "top", "I", false)
  | 19 => ("SkittleRowModel", "word", "[J", true)
  | 20 => ("SkittleRowModel", "said", "[I", true)
  | 21 => ("SkittleRowModel", "x", "I", false)
  | 22 => ("SkittleRowModel", "won", "[Z", true)
  | 23 => ("SkittleRowModel", "tableLaw", "I", false)
  | 24 => ("SkittleRowModel", "wasSaid", "[I", true)
  | 25 => ("SkittleRowModel", "undone", "I", false)
  | 26 => ("SkittleRowModel", "worths", "[I", true)
  | 27 => ("SkittleRowModel", "seen", "[Z", true)
  | 28 => ("SkittleRowModel", "plains", "[I", true)
  | 29 => ("SkittleRowModel", "table", "[I", true)
  | 30 => ("SkittleRowModel", "other", "[I", true)
  | 31 => ("SkittleRowModel", "runsMany", "I", false)
  | 32 => ("SkittleRowModel", "runsLongest", "I", false)
  | 33 => ("SkittleRowModel", "runsAlone", "I", false)
  | 34 => ("SkittleRowModel", "drawX", "J", false)
  | 35 => ("SkittleRowModel", "drawnWins", "I", false)
  | 36 => ("SkittleRowModel", "drawnStrokes", "I", false)
  | 37 => ("SkittleRowModel", "images", "[I", true)
  | 38 => ("SkittleRowModel", "imageX", "[I", true)
  | _ => ("SkittleRowModel", "isMade", "[Z", true)
def tyX12 : Nat → FieldType := fun k => match k with
  | 0 => .array .byte
  | 1 => .int
  | 2 => .int
  | 3 => .array .int
  | 4 => .array .int
  | 5 => .array .int
  | 6 => .array .int
  | 7 => .array .int
  | 8 => .int
  | 9 => .int
  | 10 => .int
  | 11 => .int
  | 12 => .int
  | 13 => .int
  | 14 => .int
  | 15 => .array .int
  | 16 => .int
  | 17 => .array .long
  | 18 => .int
  | 19 => .array .long
  | 20 => .array .int
  | 21 => .int
  | 22 => .array .boolean
  | 23 => .int
  | 24 => .array .int
  | 25 => .int
  | 26 => .array .int
  | 27 => .array .boolean
  | 28 => .array .int
  | 29 => .array .int
  | 30 => .array .int
  | 31 => .int
  | 32 => .int
  | 33 => .int
  | 34 => .long
  | 35 => .int
  | 36 => .int
  | 37 => .array .int
  | 38 => .array .int
  | _ => .array .boolean
theorem nmX12 : ∀ a, a < 40 → ∀ b, b < 40 → a ≠ b → (TX12 a).2.1 ≠ (TX12 b).2.1 := by decide +kernel
theorem tyX12_ok : ∀ k, k < 40 → parseFieldDescriptor (TX12 k).2.2.1 = some (tyX12 k) := by decide +kernel
theorem inX12 : ∀ w ∈ u_ws RX12 TX12 40, w ∈ sk_wds := by decide +kernel
def vwCl : List vw_C := [(RX0, TX0, 5), (RX1, TX1, 17), (RX2, TX2, 2), (RX3, TX3, 9), (RX4, TX4, 1), (RX5, TX5, 4), (RX6, TX6, 7), (RX7, TX7, 4), (RX8, TX8, 8), (RX9, TX9, 7), (RX10, TX10, 14), (RX11, TX11, 9), (RX12, TX12, 40)]
def vwTy : Nat → Nat → FieldType := fun c => match c with
  | 0 => tyX0
  | 1 => tyX1
  | 2 => tyX2
  | 3 => tyX3
  | 4 => tyX4
  | 5 => tyX5
  | 6 => tyX6
  | 7 => tyX7
  | 8 => tyX8
  | 9 => tyX9
  | 10 => tyX10
  | 11 => tyX11
  | _ => tyX12
/-- the tags of the fields, by kind less one -/
def sk_ft : Nat → List Nat := fun c => match c with
  | 0 => [2, 2, 2, 0, 0]
  | 1 => [0, 0, 0, 0, 0, 3, 3, 0, 2, 2, 2, 2, 2, 2, 2, 2, 2]
  | 2 => [2, 2]
  | 3 => [2, 2, 2, 0, 0, 0, 1, 0, 0]
  | 4 => [2]
  | 5 => [2, 0, 0, 0]
  | 6 => [2, 0, 2, 2, 2, 2, 0]
  | 7 => [2, 2, 0, 0]
  | 8 => [2, 0, 0, 0, 0, 2, 2, 2]
  | 9 => [0, 0, 0, 0, 0, 0, 1]
  | 10 => [2, 0, 0, 2, 2, 2, 2, 2, 2, 3, 3, 3, 3, 3]
  | 11 => [2, 0, 2, 0, 2, 2, 2, 2, 2]
  | 12 => [2, 0, 0, 2, 2, 2, 2, 2, 0, 0, 0, 0, 0, 0, 0, 2, 0, 2, 0, 2, 2, 0, 2, 0, 2, 0, 2, 2, 2, 2, 2, 0, 0, 0, 1, 0, 0, 2, 2, 2]
  | _ => []
def sk_info : List (MethodName × ByteArray × Nat × Option FieldType × Nat) := [
  (⟨"SkittleRow$Acts", "<init>", "()V"⟩, prog_2_method_1_code, 1, none, 1),
  (⟨"SkittleRow$Acts", "forget", "()V"⟩, prog_2_method_2_code, 1, none, 1),
  (⟨"SkittleRow$Acts", "keep", "(LSkittleRow$State;)V"⟩, prog_2_method_3_code, 2, none, 1),
  (⟨"SkittleRow$Acts", "takeBack", "(LSkittleRow$State;)I"⟩, prog_2_method_4_code, 2, some .int, 1),
  (⟨"SkittleRow$Alley", "<init>", "()V"⟩, prog_3_method_1_code, 1, none, 1),
  (⟨"SkittleRow$Alley", "addPlace", "(Z)V"⟩, prog_3_method_2_code, 3, none, 1),
  (⟨"SkittleRow$Alley", "settle", "()V"⟩, prog_3_method_3_code, 4, none, 4),
  (⟨"SkittleRow$Alley", "listStrokes", "()V"⟩, prog_3_method_4_code, 7, none, 3),
  (⟨"SkittleRow$Alley", "chosen", "([LSkittleRow$Stroke;II)[LSkittleRow$Stroke;"⟩, prog_3_method_5_code, 7, some (.array (.object "SkittleRow$Stroke")), 2),
  (⟨"SkittleRow$Alley", "hasHit", "(II)Z"⟩, prog_3_method_6_code, 2, some .boolean, 1),
  (⟨"SkittleRow$Alley", "bitOf", "(I)I"⟩, prog_3_method_7_code, 1, some .int, 1),
  (⟨"SkittleRow$Alley", "allows", "(ILSkittleRow$Stroke;)Z"⟩, prog_3_method_8_code, 3, some .boolean, 2),
  (⟨"SkittleRow$Alley", "strokeOf", "(III)LSkittleRow$Stroke;"⟩, prog_3_method_9_code, 8, some (.object "SkittleRow$Stroke"), 3),
  (⟨"SkittleRow$Alley", "plainLeavings", "(I)J"⟩, prog_3_method_10_code, 7, some .long, 2),
  (⟨"SkittleRow$Alley", "leastLeftOut", "(J)I"⟩, prog_3_method_11_code, 2, some .int, 3),
  (⟨"SkittleRow$Alley", "isWholeRing", "(II)Z"⟩, prog_3_method_12_code, 4, some .boolean, 1),
  (⟨"SkittleRow$Alley", "runFrom", "(II)I"⟩, prog_3_method_13_code, 6, some .int, 2),
  (⟨"SkittleRow$Alley", "rowWorth", "(II)I"⟩, prog_3_method_14_code, 5, some .int, 4),
  (⟨"SkittleRow$Alley", "ringLeavings", "(I)J"⟩, prog_3_method_15_code, 5, some .long, 2),
  (⟨"SkittleRow$Alley", "sameFrom", "(I)I"⟩, prog_3_method_16_code, 3, some .int, 1),
  (⟨"SkittleRow$Alley", "number", "(I)I"⟩, prog_3_method_17_code, 2, some .int, 1),
  (⟨"SkittleRow$AlleyReader", "<init>", "(LSkittleRow$Reader;)V"⟩, prog_4_method_1_code, 2, none, 2),
  (⟨"SkittleRow$AlleyReader", "read", "()LSkittleRow$Alley;"⟩, prog_4_method_2_code, 2, some (.object "SkittleRow$Alley"), 9),
  (⟨"SkittleRow$AlleyReader", "readClause", "(I)V"⟩, prog_4_method_3_code, 3, none, 8),
  (⟨"SkittleRow$AlleyReader", "isTooMany", "(II)Z"⟩, prog_4_method_4_code, 3, some .boolean, 1),
  (⟨"SkittleRow$AlleyReader", "readRow", "()V"⟩, prog_4_method_5_code, 1, none, 2),
  (⟨"SkittleRow$AlleyReader", "isPlace", "(I)Z"⟩, prog_4_method_6_code, 1, some .boolean, 1),
  (⟨"SkittleRow$AlleyReader", "readRing", "()V"⟩, prog_4_method_7_code, 3, none, 3),
  (⟨"SkittleRow$AlleyReader", "readHit", "()V"⟩, prog_4_method_8_code, 2, none, 3),
  (⟨"SkittleRow$Bout", "<init>", "()V"⟩, prog_5_method_1_code, 1, none, 2),
  (⟨"SkittleRow$Bout", "playTimes", "(LSkittleRow$State;LSkittleRow$Tables;LSkittleRow$Rule;LSkittleRow$Rule;I)V"⟩, prog_5_method_2_code, 7, none, 7),
  (⟨"SkittleRow$Bout", "playOut", "(LSkittleRow$Rule;LSkittleRow$Rule;)V"⟩, prog_5_method_3_code, 6, none, 6),
  (⟨"SkittleRow$Bout", "bestBy", "(LSkittleRow$Rule;)LSkittleRow$Stroke;"⟩, prog_5_method_4_code, 11, some (.object "SkittleRow$Stroke"), 5),
  (⟨"SkittleRow$Bout", "drawn", "()LSkittleRow$Stroke;"⟩, prog_5_method_5_code, 8, some (.object "SkittleRow$Stroke"), 3),
  (⟨"SkittleRow$Look", "<init>", "()V"⟩, prog_6_method_1_code, 1, none, 1),
  (⟨"SkittleRow$Look", "word", "(I)J"⟩, prog_6_method_2_code, 2, some .long, 1),
  (⟨"SkittleRow$Look", "lookAt", "(LSkittleRow$Bout;LSkittleRow$Stroke;I)V"⟩, prog_6_method_3_code, 5, none, 4),
  (⟨"SkittleRow$Look", "countRuns", "(LSkittleRow$Alley;I)V"⟩, prog_6_method_4_code, 8, none, 3),
  (⟨"SkittleRow$Reader", "<init>", "([CI)V"⟩, prog_7_method_1_code, 3, none, 1),
  (⟨"SkittleRow$Reader", "sound", "()Z"⟩, prog_7_method_2_code, 1, some .boolean, 1),
  (⟨"SkittleRow$Reader", "refuse", "(II)V"⟩, prog_7_method_3_code, 3, none, 1),
  (⟨"SkittleRow$Reader", "look", "()I"⟩, prog_7_method_4_code, 1, some .int, 1),
  (⟨"SkittleRow$Reader", "next", "()I"⟩, prog_7_method_5_code, 1, some .int, 1),
  (⟨"SkittleRow$Reader", "takes", "(I)Z"⟩, prog_7_method_6_code, 2, some .boolean, 2),
  (⟨"SkittleRow$Reader", "wordOf", "(Ljava/lang/String;)I"⟩, prog_7_method_7_code, 5, some .int, 7),
  (⟨"SkittleRow$Reader", "isWord", "(Ljava/lang/String;II)Z"⟩, prog_7_method_8_code, 6, some .boolean, 6),
  (⟨"SkittleRow$Reader", "skipWord", "()V"⟩, prog_7_method_9_code, 1, none, 1),
  (⟨"SkittleRow$Reader", "takesWord", "(Ljava/lang/String;)Z"⟩, prog_7_method_10_code, 2, some .boolean, 8),
  (⟨"SkittleRow$Reader", "isDigit", "(I)Z"⟩, prog_7_method_11_code, 1, some .boolean, 1),
  (⟨"SkittleRow$Reader", "number", "(II)I"⟩, prog_7_method_12_code, 5, some .int, 2),
  (⟨"SkittleRow$Reader", "goesOn", "()Z"⟩, prog_7_method_13_code, 1, some .boolean, 3),
  (⟨"SkittleRow$Rule", "<init>", "()V"⟩, prog_8_method_1_code, 1, none, 1),
  (⟨"SkittleRow$Rule", "addClause", "(III)V"⟩, prog_8_method_2_code, 4, none, 1),
  (⟨"SkittleRow$Rule", "settle", "([II)V"⟩, prog_8_method_3_code, 5, none, 1),
  (⟨"SkittleRow$Rule", "valueOf", "(LSkittleRow$Look;)J"⟩, prog_8_method_4_code, 4, some .long, 3),
  (⟨"SkittleRow$Rule", "reckon", "(IILSkittleRow$Look;)J"⟩, prog_8_method_5_code, 7, some .long, 2),
  (⟨"SkittleRow$Rule", "join", "(IJJ)J"⟩, prog_8_method_6_code, 5, some .long, 1),
  (⟨"SkittleRow$RuleReader", "<init>", "(LSkittleRow$Reader;)V"⟩, prog_9_method_1_code, 2, none, 1),
  (⟨"SkittleRow$RuleReader", "read", "()LSkittleRow$Rule;"⟩, prog_9_method_2_code, 3, some (.object "SkittleRow$Rule"), 11),
  (⟨"SkittleRow$RuleReader", "readClause", "(ILSkittleRow$Rule;)V"⟩, prog_9_method_3_code, 5, none, 10),
  (⟨"SkittleRow$RuleReader", "readTest", "(I)V"⟩, prog_9_method_4_code, 3, none, 9),
  (⟨"SkittleRow$RuleReader", "readPart", "(I)V"⟩, prog_9_method_5_code, 3, none, 9),
  (⟨"SkittleRow$RuleReader", "readFact", "(I)V"⟩, prog_9_method_6_code, 4, none, 11),
  (⟨"SkittleRow$RuleReader", "readComparison", "()V"⟩, prog_9_method_7_code, 2, none, 10),
  (⟨"SkittleRow$RuleReader", "readSign", "()I"⟩, prog_9_method_8_code, 4, some .int, 3),
  (⟨"SkittleRow$RuleReader", "readSum", "()V"⟩, prog_9_method_9_code, 4, none, 9),
  (⟨"SkittleRow$RuleReader", "codeOf", "(I)I"⟩, prog_9_method_10_code, 1, some .int, 1),
  (⟨"SkittleRow$RuleReader", "readValue", "()V"⟩, prog_9_method_11_code, 5, none, 8),
  (⟨"SkittleRow$RuleReader", "countPart", "(I)V"⟩, prog_9_method_12_code, 2, none, 2),
  (⟨"SkittleRow$RuleReader", "put", "(I)V"⟩, prog_9_method_13_code, 2, none, 2),
  (⟨"SkittleRow$State", "<init>", "()V"⟩, prog_10_method_1_code, 1, none, 1),
  (⟨"SkittleRow$State", "begin", "(LSkittleRow$Alley;)V"⟩, prog_10_method_2_code, 2, none, 1),
  (⟨"SkittleRow$State", "noted", "()I"⟩, prog_10_method_3_code, 1, some .int, 1),
  (⟨"SkittleRow$State", "strokeNoted", "(II)LSkittleRow$Stroke;"⟩, prog_10_method_4_code, 3, some (.object "SkittleRow$Stroke"), 2),
  (⟨"SkittleRow$State", "play", "(LSkittleRow$Stroke;)V"⟩, prog_10_method_5_code, 2, none, 1),
  (⟨"SkittleRow$State", "copyOf", "(LSkittleRow$State;)V"⟩, prog_10_method_6_code, 3, none, 1),
  (⟨"SkittleRow$Stroke", "<init>", "(IIIIII)V"⟩, prog_11_method_1_code, 7, none, 1),
  (⟨"SkittleRow$Stroke", "hasEndIn", "(I)Z"⟩, prog_11_method_2_code, 2, some .boolean, 1),
  (⟨"SkittleRow$Tables", "<init>", "()V"⟩, prog_12_method_1_code, 1, none, 2),
  (⟨"SkittleRow$Tables", "use", "(LSkittleRow$Alley;)V"⟩, prog_12_method_2_code, 2, none, 1),
  (⟨"SkittleRow$Tables", "fillWinning", "()V"⟩, prog_12_method_3_code, 12, none, 2),
  (⟨"SkittleRow$Tables", "canWin", "(I)Z"⟩, prog_12_method_4_code, 2, some .boolean, 3),
  (⟨"SkittleRow$Tables", "winsBy", "(ILSkittleRow$Stroke;)Z"⟩, prog_12_method_5_code, 3, some .boolean, 4),
  (⟨"SkittleRow$Tables", "lawsBehind", "(ILSkittleRow$Stroke;)J"⟩, prog_12_method_6_code, 5, some .long, 3),
  (⟨"SkittleRow$Tables", "fillLengths", "()V"⟩, prog_12_method_7_code, 10, none, 5),
  (⟨"SkittleRow$Tables", "lengthAt", "(I)I"⟩, prog_12_method_8_code, 2, some .int, 6),
  (⟨"SkittleRow$Tables", "fillPlayCounts", "()V"⟩, prog_12_method_9_code, 9, none, 3),
  (⟨"SkittleRow$Tables", "playsAt", "(I)I"⟩, prog_12_method_10_code, 2, some .int, 4),
  (⟨"SkittleRow$Tables", "fillChances", "()V"⟩, prog_12_method_11_code, 11, none, 3),
  (⟨"SkittleRow$Tables", "chanceAt", "(I)I"⟩, prog_12_method_12_code, 2, some .int, 4),
  (⟨"SkittleRow$Tables", "fillClever", "()V"⟩, prog_12_method_13_code, 10, none, 3),
  (⟨"SkittleRow$Tables", "childAt", "(I)I"⟩, prog_12_method_14_code, 2, some .int, 4),
  (⟨"SkittleRow", "<init>", "()V"⟩, prog_1_method_1_code, 1, none, 3),
  (⟨"SkittleRow", "feed", "(IIIII)I"⟩, prog_1_method_2_code, 6, some .int, 2),
  (⟨"SkittleRow", "putBytes", "(I)V"⟩, prog_1_method_3_code, 3, none, 1),
  (⟨"SkittleRow", "end", "(I)I"⟩, prog_1_method_4_code, 2, some .int, 1),
  (⟨"SkittleRow", "alley", "()I"⟩, prog_1_method_5_code, 3, some .int, 10),
  (⟨"SkittleRow", "rule", "()I"⟩, prog_1_method_6_code, 3, some .int, 12),
  (⟨"SkittleRow", "place", "(II)I"⟩, prog_1_method_7_code, 4, some .int, 1),
  (⟨"SkittleRow", "can", "(II)I"⟩, prog_1_method_8_code, 4, some .int, 5),
  (⟨"SkittleRow", "stroke", "(II)I"⟩, prog_1_method_9_code, 4, some .int, 4),
  (⟨"SkittleRow", "up", "(I)I"⟩, prog_1_method_10_code, 2, some .int, 2),
  (⟨"SkittleRow", "pass", "()I"⟩, prog_1_method_11_code, 1, some .int, 2),
  (⟨"SkittleRow", "undo", "()I"⟩, prog_1_method_12_code, 1, some .int, 2),
  (⟨"SkittleRow", "won", "()I"⟩, prog_1_method_13_code, 1, some .int, 4),
  (⟨"SkittleRow", "wins", "(I)I"⟩, prog_1_method_14_code, 8, some .int, 5),
  (⟨"SkittleRow", "worth", "(I)I"⟩, prog_1_method_15_code, 2, some .int, 5),
  (⟨"SkittleRow", "plain", "(I)I"⟩, prog_1_method_16_code, 2, some .int, 1),
  (⟨"SkittleRow", "again", "(I)I"⟩, prog_1_method_17_code, 4, some .int, 2),
  (⟨"SkittleRow", "lasts", "()I"⟩, prog_1_method_18_code, 1, some .int, 7),
  (⟨"SkittleRow", "plays", "()I"⟩, prog_1_method_19_code, 1, some .int, 5),
  (⟨"SkittleRow", "fair", "(I)I"⟩, prog_1_method_20_code, 3, some .int, 5),
  (⟨"SkittleRow", "fairSet", "()I"⟩, prog_1_method_21_code, 5, some .int, 4),
  (⟨"SkittleRow", "chance", "()I"⟩, prog_1_method_22_code, 1, some .int, 5),
  (⟨"SkittleRow", "child", "()I"⟩, prog_1_method_23_code, 1, some .int, 5),
  (⟨"SkittleRow", "match", "(III)I"⟩, prog_1_method_24_code, 4, some .int, 8),
  (⟨"SkittleRow", "isRule", "(I)Z"⟩, prog_1_method_25_code, 2, some .boolean, 1),
  (⟨"SkittleRow", "knew", "(II)I"⟩, prog_1_method_26_code, 10, some .int, 5),
  (⟨"SkittleRow", "law", "(II)I"⟩, prog_1_method_27_code, 7, some .int, 4),
  (⟨"SkittleRow", "seed", "(I)I"⟩, prog_1_method_28_code, 3, some .int, 1),
  (⟨"SkittleRow", "games", "(II)I"⟩, prog_1_method_29_code, 3, some .int, 8),
  (⟨"SkittleRow", "against", "(III)I"⟩, prog_1_method_30_code, 4, some .int, 8),
  (⟨"SkittleRow", "count", "(I)I"⟩, prog_1_method_31_code, 2, some .int, 2),
  (⟨"SkittleRow", "image", "(I)I"⟩, prog_1_method_32_code, 2, some .int, 2),
  (⟨"SkittleRow", "back", "(I)I"⟩, prog_1_method_33_code, 2, some .int, 2),
  (⟨"SkittleRowModel", "<init>", "()V"⟩, prog_14_method_1_code, 1, none, 1),
  (⟨"SkittleRowModel", "in", "(JJJ)Z"⟩, prog_14_method_2_code, 6, some .boolean, 1),
  (⟨"SkittleRowModel", "isOf", "(II)Z"⟩, prog_14_method_3_code, 2, some .boolean, 1),
  (⟨"SkittleRowModel", "bits", "(I)I"⟩, prog_14_method_4_code, 3, some .int, 1),
  (⟨"SkittleRowModel", "four", "(I)V"⟩, prog_14_method_5_code, 3, none, 1),
  (⟨"SkittleRowModel", "feed", "(IIIII)I"⟩, prog_14_method_6_code, 6, some .int, 2),
  (⟨"SkittleRowModel", "end", "(I)I"⟩, prog_14_method_7_code, 2, some .int, 1),
  (⟨"SkittleRowModel", "fails", "(II)Z"⟩, prog_14_method_8_code, 3, some .boolean, 1),
  (⟨"SkittleRowModel", "see", "()I"⟩, prog_14_method_9_code, 1, some .int, 1),
  (⟨"SkittleRowModel", "isDigit", "(I)Z"⟩, prog_14_method_10_code, 2, some .boolean, 1),
  (⟨"SkittleRowModel", "isLetter", "(I)Z"⟩, prog_14_method_11_code, 2, some .boolean, 1),
  (⟨"SkittleRowModel", "isWord", "(J)Z"⟩, prog_14_method_12_code, 6, some .boolean, 2),
  (⟨"SkittleRowModel", "passWord", "()V"⟩, prog_14_method_13_code, 1, none, 2),
  (⟨"SkittleRowModel", "takesWord", "(J)Z"⟩, prog_14_method_14_code, 3, some .boolean, 3),
  (⟨"SkittleRowModel", "numberHere", "(II)Z"⟩, prog_14_method_15_code, 5, some .boolean, 2),
  (⟨"SkittleRowModel", "wordHere", "()I"⟩, prog_14_method_16_code, 1, some .int, 3),
  (⟨"SkittleRowModel", "puts", "(II)V"⟩, prog_14_method_17_code, 3, none, 1),
  (⟨"SkittleRowModel", "makes", "(I)Z"⟩, prog_14_method_18_code, 2, some .boolean, 2),
  (⟨"SkittleRowModel", "opens", "(I)Z"⟩, prog_14_method_19_code, 2, some .boolean, 2),
  (⟨"SkittleRowModel", "strength", "(I)I"⟩, prog_14_method_20_code, 1, some .int, 1),
  (⟨"SkittleRowModel", "settles", "(I)V"⟩, prog_14_method_21_code, 2, none, 2),
  (⟨"SkittleRowModel", "value", "()Z"⟩, prog_14_method_22_code, 3, some .boolean, 4),
  (⟨"SkittleRowModel", "term", "()Z"⟩, prog_14_method_23_code, 2, some .boolean, 5),
  (⟨"SkittleRowModel", "sum", "()Z"⟩, prog_14_method_24_code, 2, some .boolean, 6),
  (⟨"SkittleRowModel", "compare", "()Z"⟩, prog_14_method_25_code, 5, some .boolean, 7),
  (⟨"SkittleRowModel", "fact", "()Z"⟩, prog_14_method_26_code, 3, some .boolean, 8),
  (⟨"SkittleRowModel", "isInside", "()Z"⟩, prog_14_method_27_code, 2, some .boolean, 1),
  (⟨"SkittleRowModel", "closes", "()V"⟩, prog_14_method_28_code, 1, none, 3),
  (⟨"SkittleRowModel", "tested", "()Z"⟩, prog_14_method_29_code, 3, some .boolean, 9),
  (⟨"SkittleRowModel", "isStrokeHere", "()Z"⟩, prog_14_method_30_code, 2, some .boolean, 10),
  (⟨"SkittleRowModel", "isAlleyHere", "(I)Z"⟩, prog_14_method_31_code, 2, some .boolean, 3),
  (⟨"SkittleRowModel", "isPlaceHere", "()Z"⟩, prog_14_method_32_code, 1, some .boolean, 1),
  (⟨"SkittleRowModel", "isRowHere", "(I)Z"⟩, prog_14_method_33_code, 3, some .boolean, 3),
  (⟨"SkittleRowModel", "isRingHere", "()Z"⟩, prog_14_method_34_code, 2, some .boolean, 3),
  (⟨"SkittleRowModel", "isHitHere", "()Z"⟩, prog_14_method_35_code, 1, some .boolean, 3),
  (⟨"SkittleRowModel", "isOnceHere", "(II)Z"⟩, prog_14_method_36_code, 3, some .boolean, 3),
  (⟨"SkittleRowModel", "isStrayHere", "()Z"⟩, prog_14_method_37_code, 1, some .boolean, 3),
  (⟨"SkittleRowModel", "alleyLineHere", "(I)Z"⟩, prog_14_method_38_code, 2, some .boolean, 4),
  (⟨"SkittleRowModel", "isAlleyWord", "()Z"⟩, prog_14_method_39_code, 2, some .boolean, 3),
  (⟨"SkittleRowModel", "clauseHere", "()Z"⟩, prog_14_method_40_code, 3, some .boolean, 11),
  (⟨"SkittleRowModel", "readsAll", "()Z"⟩, prog_14_method_41_code, 2, some .boolean, 12),
  (⟨"SkittleRowModel", "rule", "()I"⟩, prog_14_method_42_code, 1, some .int, 13),
  (⟨"SkittleRowModel", "alley", "()I"⟩, prog_14_method_43_code, 2, some .int, 13),
  (⟨"SkittleRowModel", "isRule", "(I)Z"⟩, prog_14_method_44_code, 2, some .boolean, 1),
  (⟨"SkittleRowModel", "push", "(J)V"⟩, prog_14_method_45_code, 3, none, 1),
  (⟨"SkittleRowModel", "pop", "()J"⟩, prog_14_method_46_code, 1, some .long, 1),
  (⟨"SkittleRowModel", "one", "(IJJ)J"⟩, prog_14_method_47_code, 5, some .long, 1),
  (⟨"SkittleRowModel", "reckons", "(III)J"⟩, prog_14_method_48_code, 11, some .long, 2),
  (⟨"SkittleRowModel", "isAlley", "()Z"⟩, prog_14_method_49_code, 1, some .boolean, 1),
  (⟨"SkittleRowModel", "isPlace", "(I)Z"⟩, prog_14_method_50_code, 2, some .boolean, 1),
  (⟨"SkittleRowModel", "rowOf", "(I)I"⟩, prog_14_method_51_code, 3, some .int, 1),
  (⟨"SkittleRowModel", "beside", "(II)I"⟩, prog_14_method_52_code, 5, some .int, 2),
  (⟨"SkittleRowModel", "strokeBits", "(II)I"⟩, prog_14_method_53_code, 6, some .int, 3),
  (⟨"SkittleRowModel", "lastOf", "(II)I"⟩, prog_14_method_54_code, 5, some .int, 3),
  (⟨"SkittleRowModel", "canBe", "(IIIIZ)Z"⟩, prog_14_method_55_code, 10, some .boolean, 4),
  (⟨"SkittleRowModel", "canBeNow", "(III)Z"⟩, prog_14_method_56_code, 4, some .boolean, 5),
  (⟨"SkittleRowModel", "fillsWon", "(III)V"⟩, prog_14_method_57_code, 10, none, 5),
  (⟨"SkittleRowModel", "fillsNow", "()V"⟩, prog_14_method_58_code, 1, none, 6),
  (⟨"SkittleRowModel", "isWonAt", "(I)Z"⟩, prog_14_method_59_code, 2, some .boolean, 7),
  (⟨"SkittleRowModel", "winsBy", "(III)Z"⟩, prog_14_method_60_code, 4, some .boolean, 8),
  (⟨"SkittleRowModel", "isOverAt", "(I)Z"⟩, prog_14_method_61_code, 4, some .boolean, 6),
  (⟨"SkittleRowModel", "place", "(II)I"⟩, prog_14_method_62_code, 3, some .int, 3),
  (⟨"SkittleRowModel", "can", "(II)I"⟩, prog_14_method_63_code, 3, some .int, 9),
  (⟨"SkittleRowModel", "keepsAct", "()V"⟩, prog_14_method_64_code, 2, none, 1),
  (⟨"SkittleRowModel", "undo", "()I"⟩, prog_14_method_65_code, 2, some .int, 1),
  (⟨"SkittleRowModel", "notes", "(II)V"⟩, prog_14_method_66_code, 4, none, 1),
  (⟨"SkittleRowModel", "stroke", "(II)I"⟩, prog_14_method_67_code, 3, some .int, 6),
  (⟨"SkittleRowModel", "up", "(I)I"⟩, prog_14_method_68_code, 2, some .int, 2),
  (⟨"SkittleRowModel", "pass", "()I"⟩, prog_14_method_69_code, 1, some .int, 2),
  (⟨"SkittleRowModel", "won", "()I"⟩, prog_14_method_70_code, 1, some .int, 8),
  (⟨"SkittleRowModel", "wins", "(I)I"⟩, prog_14_method_71_code, 7, some .int, 9),
  (⟨"SkittleRowModel", "leastUnseen", "()I"⟩, prog_14_method_72_code, 2, some .int, 1),
  (⟨"SkittleRowModel", "clearsSeen", "()V"⟩, prog_14_method_73_code, 2, none, 1),
  (⟨"SkittleRowModel", "worth", "(I)I"⟩, prog_14_method_74_code, 8, some .int, 6),
  (⟨"SkittleRowModel", "fillsPlains", "()V"⟩, prog_14_method_75_code, 5, none, 2),
  (⟨"SkittleRowModel", "plain", "(I)I"⟩, prog_14_method_76_code, 2, some .int, 3),
  (⟨"SkittleRowModel", "comesAgain", "(II)Z"⟩, prog_14_method_77_code, 4, some .boolean, 1),
  (⟨"SkittleRowModel", "again", "(I)I"⟩, prog_14_method_78_code, 4, some .int, 3),
  (⟨"SkittleRowModel", "lastsAt", "(I)I"⟩, prog_14_method_79_code, 8, some .int, 6),
  (⟨"SkittleRowModel", "lasts", "()I"⟩, prog_14_method_80_code, 2, some .int, 7),
  (⟨"SkittleRowModel", "playsAt", "(I)I"⟩, prog_14_method_81_code, 7, some .int, 6),
  (⟨"SkittleRowModel", "plays", "()I"⟩, prog_14_method_82_code, 2, some .int, 7),
  (⟨"SkittleRowModel", "fair", "(I)I"⟩, prog_14_method_83_code, 5, some .int, 8),
  (⟨"SkittleRowModel", "strayed", "(III)I"⟩, prog_14_method_84_code, 5, some .int, 4),
  (⟨"SkittleRowModel", "chanceAt", "(I)I"⟩, prog_14_method_85_code, 7, some .int, 6),
  (⟨"SkittleRowModel", "chance", "()I"⟩, prog_14_method_86_code, 2, some .int, 7),
  (⟨"SkittleRowModel", "bestAt", "(I)I"⟩, prog_14_method_87_code, 6, some .int, 6),
  (⟨"SkittleRowModel", "childAt", "(I)I"⟩, prog_14_method_88_code, 6, some .int, 6),
  (⟨"SkittleRowModel", "child", "()I"⟩, prog_14_method_89_code, 2, some .int, 7),
  (⟨"SkittleRowModel", "countsRun", "(I)V"⟩, prog_14_method_90_code, 2, none, 1),
  (⟨"SkittleRowModel", "countsRow", "(II)V"⟩, prog_14_method_91_code, 8, none, 2),
  (⟨"SkittleRowModel", "countsRuns", "(I)V"⟩, prog_14_method_92_code, 3, none, 3),
  (⟨"SkittleRowModel", "words", "(IIIII)V"⟩, prog_14_method_93_code, 7, none, 8),
  (⟨"SkittleRowModel", "summedBy", "(I)J"⟩, prog_14_method_94_code, 4, some .long, 3),
  (⟨"SkittleRowModel", "strokeBy", "(IIII)I"⟩, prog_14_method_95_code, 12, some .int, 9),
  (⟨"SkittleRowModel", "winner", "(I)I"⟩, prog_14_method_96_code, 2, some .int, 1),
  (⟨"SkittleRowModel", "match", "(III)I"⟩, prog_14_method_97_code, 8, some .int, 10),
  (⟨"SkittleRowModel", "noted", "(II)I"⟩, prog_14_method_98_code, 3, some .int, 1),
  (⟨"SkittleRowModel", "winsNoted", "(I)Z"⟩, prog_14_method_99_code, 2, some .boolean, 4),
  (⟨"SkittleRowModel", "knew", "(II)I"⟩, prog_14_method_100_code, 8, some .int, 7),
  (⟨"SkittleRowModel", "fitsLaw", "(IIII)Z"⟩, prog_14_method_101_code, 6, some .boolean, 6),
  (⟨"SkittleRowModel", "law", "(II)I"⟩, prog_14_method_102_code, 6, some .int, 7),
  (⟨"SkittleRowModel", "seed", "(I)I"⟩, prog_14_method_103_code, 3, some .int, 1),
  (⟨"SkittleRowModel", "draw", "(I)I"⟩, prog_14_method_104_code, 2, some .int, 1),
  (⟨"SkittleRowModel", "strokeDrawn", "(I)I"⟩, prog_14_method_105_code, 6, some .int, 6),
  (⟨"SkittleRowModel", "playsDrawn", "(II)V"⟩, prog_14_method_106_code, 9, none, 10),
  (⟨"SkittleRowModel", "games", "(II)I"⟩, prog_14_method_107_code, 3, some .int, 11),
  (⟨"SkittleRowModel", "against", "(III)I"⟩, prog_14_method_108_code, 4, some .int, 11),
  (⟨"SkittleRowModel", "count", "(I)I"⟩, prog_14_method_109_code, 2, some .int, 1),
  (⟨"SkittleRowModel", "image", "(I)I"⟩, prog_14_method_110_code, 3, some .int, 2),
  (⟨"SkittleRowModel", "back", "(I)I"⟩, prog_14_method_111_code, 3, some .int, 2),
  (⟨"java/lang/Integer", "numberOfTrailingZeros", "(I)I"⟩, prog_15_method_48_code, 2, some .int, 1),
  (⟨"java/lang/Integer", "bitCount", "(I)I"⟩, prog_15_method_49_code, 1, some .int, 1),
  (⟨"java/lang/Long", "numberOfTrailingZeros", "(J)I"⟩, prog_16_method_49_code, 3, some .int, 2),
  (⟨"java/lang/Long", "bitCount", "(J)I"⟩, prog_16_method_50_code, 2, some .int, 1),
  (⟨"java/lang/Math", "max", "(II)I"⟩, prog_17_method_65_code, 2, some .int, 1),
  (⟨"java/lang/Math", "min", "(II)I"⟩, prog_17_method_69_code, 2, some .int, 1),
  (⟨"java/lang/String", "length", "()I"⟩, prog_18_method_54_code, 1, some .int, 2),
  (⟨"java/lang/String", "charAt", "(I)C"⟩, prog_18_method_56_code, 2, some .char, 5),
  (⟨"java/lang/String", "coder", "()B"⟩, prog_18_method_152_code, 1, some .byte, 1),
  (⟨"java/lang/String", "isLatin1", "()Z"⟩, prog_18_method_154_code, 1, some .boolean, 1),
  (⟨"java/lang/String", "checkIndex", "(II)V"⟩, prog_18_method_155_code, 2, none, 2),
  (⟨"java/lang/StringLatin1", "charAt", "([BI)C"⟩, prog_19_method_2_code, 2, some .char, 3),
  (⟨"java/lang/StringUTF16", "getChar", "([BI)C"⟩, prog_20_method_5_code, 2, some .char, 2),
  (⟨"java/lang/StringUTF16", "length", "([B)I"⟩, prog_20_method_6_code, 1, some .int, 1),
  (⟨"java/lang/StringUTF16", "charAt", "([BI)C"⟩, prog_20_method_83_code, 2, some .char, 4),
  (⟨"java/lang/StringUTF16", "checkIndex", "(I[B)V"⟩, prog_20_method_91_code, 2, none, 3),
  (⟨"jdk/internal/util/Preconditions", "checkIndex", "(IILjava/util/function/BiFunction;)I"⟩, prog_21_method_11_code, 3, some .int, 1),
  (⟨"SkittleRowLaw", "law", "([I)Z"⟩, code, 4, some .boolean, 14)]
def sk_nfo (m : Nat) : MethodName × ByteArray × Nat × Option FieldType × Nat := sk_info.getD m (⟨"", "", ""⟩, ⟨#[]⟩, 0, none, 0)
/-- the texts: where they are named, their signs -/
def sk_str : List (String × Nat × String × Nat × List Int32) := [("SkittleRow$AlleyReader", 38, "alley row ring hit ends last stray", 34, [97, 108, 108, 101, 121, 32, 114, 111, 119, 32, 114, 105, 110, 103, 32, 104, 105, 116, 32, 101, 110, 100, 115, 32, 108, 97, 115, 116, 32, 115, 116, 114, 97, 121]), ("SkittleRow$RuleReader", 43, "stroke", 6, [115, 116, 114, 111, 107, 101]), ("SkittleRow$RuleReader", 126, "place many row standing left runs longest alone won turn strokes", 64, [112, 108, 97, 99, 101, 32, 109, 97, 110, 121, 32, 114, 111, 119, 32, 115, 116, 97, 110, 100, 105, 110, 103, 32, 108, 101, 102, 116, 32, 114, 117, 110, 115, 32, 108, 111, 110, 103, 101, 115, 116, 32, 97, 108, 111, 110, 101, 32, 119, 111, 110, 32, 116, 117, 114, 110, 32, 115, 116, 114, 111, 107, 101, 115]), ("SkittleRow$RuleReader", 62, "if", 2, [105, 102]), ("SkittleRow$RuleReader", 93, "not", 3, [110, 111, 116]), ("SkittleRow$RuleReader", 87, "and", 3, [97, 110, 100]), ("SkittleRow$RuleReader", 79, "or", 2, [111, 114])]
def sk_laws : List Int64 := [0, 1085102592571150095, 1148435428713435120, 1152903912689233920, 1152921504338411520]
