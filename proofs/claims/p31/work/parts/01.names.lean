def RX0 : String := "TropicRanks$Cones"
def TX0 : u_T := fun k => match k with
  | _ => ("", "", "", false)
def tyX0 : Nat → FieldType := fun k => match k with
  | _ => .int
theorem nmX0 : ∀ a, a < 0 → ∀ b, b < 0 → a ≠ b → (TX0 a).2.1 ≠ (TX0 b).2.1 := by decide +kernel
theorem tyX0_ok : ∀ k, k < 0 → parseFieldDescriptor (TX0 k).2.2.1 = some (tyX0 k) := by decide +kernel
abbrev cX0_greatestDifference : ByteArray := prog_2_method_2_code
def yX0_greatestDifference : MethodName := ⟨RX0, "greatestDifference", "(LTropicRanks$Grid;II)I"⟩
abbrev cX0_missedRows : ByteArray := prog_2_method_3_code
def yX0_missedRows : MethodName := ⟨RX0, "missedRows", "(LTropicRanks$Grid;II)I"⟩
abbrev cX0_neededColumns : ByteArray := prog_2_method_4_code
def yX0_neededColumns : MethodName := ⟨RX0, "neededColumns", "(LTropicRanks$Grid;)I"⟩
def RX1 : String := "TropicRanks$Covers"
def TX1 : u_T := fun k => match k with
  | 0 => ("TropicRanks$Covers", "untouchable", "[J", true)
  | 1 => ("TropicRanks$Covers", "firstRow", "[I", true)
  | 2 => ("TropicRanks$Covers", "placesWith", "[I", true)
  | _ => ("TropicRanks$Covers", "places", "I", false)
def tyX1 : Nat → FieldType := fun k => match k with
  | 0 => .array .long
  | 1 => .array .int
  | 2 => .array .int
  | _ => .int
theorem nmX1 : ∀ a, a < 4 → ∀ b, b < 4 → a ≠ b → (TX1 a).2.1 ≠ (TX1 b).2.1 := by decide +kernel
theorem tyX1_ok : ∀ k, k < 4 → parseFieldDescriptor (TX1 k).2.2.1 = some (tyX1 k) := by decide +kernel
abbrev cX1_init : ByteArray := prog_3_method_1_code
def yX1_init : MethodName := ⟨RX1, "<init>", "()V"⟩
abbrev cX1_study : ByteArray := prog_3_method_2_code
def yX1_study : MethodName := ⟨RX1, "study", "(LTropicRanks$Grid;LTropicRanks$Ways;)V"⟩
abbrev cX1_markLesser : ByteArray := prog_3_method_3_code
def yX1_markLesser : MethodName := ⟨RX1, "markLesser", "(LTropicRanks$Ways;)V"⟩
abbrev cX1_markSupersets : ByteArray := prog_3_method_4_code
def yX1_markSupersets : MethodName := ⟨RX1, "markSupersets", "()V"⟩
abbrev cX1_canTouchAll : ByteArray := prog_3_method_5_code
def yX1_canTouchAll : MethodName := ⟨RX1, "canTouchAll", "(I)Z"⟩
abbrev cX1_touchableSets : ByteArray := prog_3_method_6_code
def yX1_touchableSets : MethodName := ⟨RX1, "touchableSets", "()I"⟩
abbrev cX1_greatestSet : ByteArray := prog_3_method_7_code
def yX1_greatestSet : MethodName := ⟨RX1, "greatestSet", "()I"⟩
abbrev cX1_findFirstRow : ByteArray := prog_3_method_8_code
def yX1_findFirstRow : MethodName := ⟨RX1, "findFirstRow", "()I"⟩
abbrev cX1_fill : ByteArray := prog_3_method_9_code
def yX1_fill : MethodName := ⟨RX1, "fill", "(LTropicRanks$Covers;II)Z"⟩
def RX2 : String := "TropicRanks$Grid"
def TX2 : u_T := fun k => match k with
  | 0 => ("TropicRanks$Grid", "entries", "[I", true)
  | 1 => ("TropicRanks$Grid", "rows", "I", false)
  | _ => ("TropicRanks$Grid", "columns", "I", false)
def tyX2 : Nat → FieldType := fun k => match k with
  | 0 => .array .int
  | 1 => .int
  | _ => .int
theorem nmX2 : ∀ a, a < 3 → ∀ b, b < 3 → a ≠ b → (TX2 a).2.1 ≠ (TX2 b).2.1 := by decide +kernel
theorem tyX2_ok : ∀ k, k < 3 → parseFieldDescriptor (TX2 k).2.2.1 = some (tyX2 k) := by decide +kernel
abbrev cX2_init : ByteArray := prog_4_method_1_code
def yX2_init : MethodName := ⟨RX2, "<init>", "()V"⟩
abbrev cX2_size : ByteArray := prog_4_method_2_code
def yX2_size : MethodName := ⟨RX2, "size", "()I"⟩
abbrev cX2_has : ByteArray := prog_4_method_3_code
def yX2_has : MethodName := ⟨RX2, "has", "(II)Z"⟩
abbrev cX2_place : ByteArray := prog_4_method_4_code
def yX2_place : MethodName := ⟨RX2, "place", "(II)I"⟩
abbrev cX2_at : ByteArray := prog_4_method_5_code
def yX2_at : MethodName := ⟨RX2, "at", "(II)I"⟩
abbrev cX2_assign : ByteArray := prog_4_method_6_code
def yX2_assign : MethodName := ⟨RX2, "assign", "(III)V"⟩
abbrev cX2_reshape : ByteArray := prog_4_method_7_code
def yX2_reshape : MethodName := ⟨RX2, "reshape", "(II)V"⟩
abbrev cX2_become : ByteArray := prog_4_method_8_code
def yX2_become : MethodName := ⟨RX2, "become", "(LTropicRanks$Grid;)V"⟩
abbrev cX2_becomeTurned : ByteArray := prog_4_method_9_code
def yX2_becomeTurned : MethodName := ⟨RX2, "becomeTurned", "(LTropicRanks$Grid;)V"⟩
abbrev cX2_becomeProduct : ByteArray := prog_4_method_10_code
def yX2_becomeProduct : MethodName := ⟨RX2, "becomeProduct", "(LTropicRanks$Grid;LTropicRanks$Grid;)V"⟩
abbrev cX2_shortenWays : ByteArray := prog_4_method_11_code
def yX2_shortenWays : MethodName := ⟨RX2, "shortenWays", "()V"⟩
abbrev cX2_greatest : ByteArray := prog_4_method_12_code
def yX2_greatest : MethodName := ⟨RX2, "greatest", "()I"⟩
abbrev cX2_least : ByteArray := prog_4_method_13_code
def yX2_least : MethodName := ⟨RX2, "least", "()I"⟩
abbrev cX2_unlikeEntries : ByteArray := prog_4_method_14_code
def yX2_unlikeEntries : MethodName := ⟨RX2, "unlikeEntries", "()I"⟩
abbrev cX2_unlikeIn : ByteArray := prog_4_method_15_code
def yX2_unlikeIn : MethodName := ⟨RX2, "unlikeIn", "(LTropicRanks$Grid;)I"⟩
abbrev cX2_lines : ByteArray := prog_4_method_16_code
def yX2_lines : MethodName := ⟨RX2, "lines", "(Z)I"⟩
abbrev cX2_hasLine : ByteArray := prog_4_method_17_code
def yX2_hasLine : MethodName := ⟨RX2, "hasLine", "(ZI)Z"⟩
abbrev cX2_placeInLine : ByteArray := prog_4_method_18_code
def yX2_placeInLine : MethodName := ⟨RX2, "placeInLine", "(ZII)I"⟩
abbrev cX2_canAdd : ByteArray := prog_4_method_19_code
def yX2_canAdd : MethodName := ⟨RX2, "canAdd", "(ZII)Z"⟩
abbrev cX2_add : ByteArray := prog_4_method_20_code
def yX2_add : MethodName := ⟨RX2, "add", "(ZII)V"⟩
abbrev cX2_swapLines : ByteArray := prog_4_method_21_code
def yX2_swapLines : MethodName := ⟨RX2, "swapLines", "(ZII)Z"⟩
abbrev cX2_removeLine : ByteArray := prog_4_method_22_code
def yX2_removeLine : MethodName := ⟨RX2, "removeLine", "(ZI)V"⟩
def RX3 : String := "TropicRanks$History"
def TX3 : u_T := fun k => match k with
  | 0 => ("TropicRanks$History", "states", "[LTropicRanks$State;", true)
  | 1 => ("TropicRanks$History", "next", "I", false)
  | _ => ("TropicRanks$History", "size", "I", false)
def tyX3 : Nat → FieldType := fun k => match k with
  | 0 => .array (.object "TropicRanks$State")
  | 1 => .int
  | _ => .int
theorem nmX3 : ∀ a, a < 3 → ∀ b, b < 3 → a ≠ b → (TX3 a).2.1 ≠ (TX3 b).2.1 := by decide +kernel
theorem tyX3_ok : ∀ k, k < 3 → parseFieldDescriptor (TX3 k).2.2.1 = some (tyX3 k) := by decide +kernel
abbrev cX3_init : ByteArray := prog_5_method_1_code
def yX3_init : MethodName := ⟨RX3, "<init>", "()V"⟩
abbrev cX3_remember : ByteArray := prog_5_method_2_code
def yX3_remember : MethodName := ⟨RX3, "remember", "(LTropicRanks$State;)V"⟩
def RX4 : String := "TropicRanks$Pad"
def TX4 : u_T := fun k => match k with
  | 0 => ("TropicRanks$Pad", "characters", "[C", true)
  | 1 => ("TropicRanks$Pad", "length", "I", false)
  | 2 => ("TropicRanks$Pad", "rows", "I", false)
  | 3 => ("TropicRanks$Pad", "entries", "I", false)
  | 4 => ("TropicRanks$Pad", "longestRow", "I", false)
  | _ => ("TropicRanks$Pad", "shortestRow", "I", false)
def tyX4 : Nat → FieldType := fun k => match k with
  | 0 => .array .char
  | 1 => .int
  | 2 => .int
  | 3 => .int
  | 4 => .int
  | _ => .int
theorem nmX4 : ∀ a, a < 6 → ∀ b, b < 6 → a ≠ b → (TX4 a).2.1 ≠ (TX4 b).2.1 := by decide +kernel
theorem tyX4_ok : ∀ k, k < 6 → parseFieldDescriptor (TX4 k).2.2.1 = some (tyX4 k) := by decide +kernel
abbrev cX4_init : ByteArray := prog_6_method_1_code
def yX4_init : MethodName := ⟨RX4, "<init>", "()V"⟩
abbrev cX4_charactersIn : ByteArray := prog_6_method_2_code
def yX4_charactersIn : MethodName := ⟨RX4, "charactersIn", "(J)I"⟩
abbrev cX4_append : ByteArray := prog_6_method_3_code
def yX4_append : MethodName := ⟨RX4, "append", "(JI)V"⟩
abbrev cX4_isDigit : ByteArray := prog_6_method_4_code
def yX4_isDigit : MethodName := ⟨RX4, "isDigit", "(C)Z"⟩
abbrev cX4_firstFault : ByteArray := prog_6_method_5_code
def yX4_firstFault : MethodName := ⟨RX4, "firstFault", "()I"⟩
abbrev cX4_withDigit : ByteArray := prog_6_method_6_code
def yX4_withDigit : MethodName := ⟨RX4, "withDigit", "(IC)I"⟩
abbrev cX4_measure : ByteArray := prog_6_method_7_code
def yX4_measure : MethodName := ⟨RX4, "measure", "()V"⟩
abbrev cX4_readInto : ByteArray := prog_6_method_8_code
def yX4_readInto : MethodName := ⟨RX4, "readInto", "(LTropicRanks$Grid;)V"⟩
def RX5 : String := "TropicRanks$Parts"
def TX5 : u_T := fun k => match k with
  | 0 => ("TropicRanks$Parts", "rank", "I", false)
  | 1 => ("TropicRanks$Parts", "rows", "I", false)
  | 2 => ("TropicRanks$Parts", "columns", "I", false)
  | _ => ("TropicRanks$Parts", "regular", "I", false)
def tyX5 : Nat → FieldType := fun k => match k with
  | 0 => .int
  | 1 => .int
  | 2 => .int
  | _ => .int
theorem nmX5 : ∀ a, a < 4 → ∀ b, b < 4 → a ≠ b → (TX5 a).2.1 ≠ (TX5 b).2.1 := by decide +kernel
theorem tyX5_ok : ∀ k, k < 4 → parseFieldDescriptor (TX5 k).2.2.1 = some (tyX5 k) := by decide +kernel
abbrev cX5_init : ByteArray := prog_7_method_1_code
def yX5_init : MethodName := ⟨RX5, "<init>", "()V"⟩
abbrev cX5_study : ByteArray := prog_7_method_2_code
def yX5_study : MethodName := ⟨RX5, "study", "(LTropicRanks$Grid;LTropicRanks$Ways;)V"⟩
abbrev cX5_look : ByteArray := prog_7_method_3_code
def yX5_look : MethodName := ⟨RX5, "look", "(LTropicRanks$Grid;LTropicRanks$Ways;II)V"⟩
def RX6 : String := "TropicRanks$Rings"
def TX6 : u_T := fun k => match k with
  | 0 => ("TropicRanks$Rings", "found", "I", false)
  | 1 => ("TropicRanks$Rings", "bestSum", "I", false)
  | _ => ("TropicRanks$Rings", "bestLength", "I", false)
def tyX6 : Nat → FieldType := fun k => match k with
  | 0 => .int
  | 1 => .int
  | _ => .int
theorem nmX6 : ∀ a, a < 3 → ∀ b, b < 3 → a ≠ b → (TX6 a).2.1 ≠ (TX6 b).2.1 := by decide +kernel
theorem tyX6_ok : ∀ k, k < 3 → parseFieldDescriptor (TX6 k).2.2.1 = some (tyX6 k) := by decide +kernel
abbrev cX6_init : ByteArray := prog_8_method_1_code
def yX6_init : MethodName := ⟨RX6, "<init>", "()V"⟩
abbrev cX6_study : ByteArray := prog_8_method_2_code
def yX6_study : MethodName := ⟨RX6, "study", "(LTropicRanks$Grid;)V"⟩
abbrev cX6_goOn : ByteArray := prog_8_method_3_code
def yX6_goOn : MethodName := ⟨RX6, "goOn", "(LTropicRanks$Rings;LTropicRanks$Grid;IIIII)V"⟩
abbrev cX6_keep : ByteArray := prog_8_method_4_code
def yX6_keep : MethodName := ⟨RX6, "keep", "(II)V"⟩
def RX7 : String := "TropicRanks$State"
def TX7 : u_T := fun k => match k with
  | _ => ("TropicRanks$State", "grids", "[LTropicRanks$Grid;", true)
def tyX7 : Nat → FieldType := fun k => match k with
  | _ => .array (.object "TropicRanks$Grid")
theorem nmX7 : ∀ a, a < 1 → ∀ b, b < 1 → a ≠ b → (TX7 a).2.1 ≠ (TX7 b).2.1 := by decide +kernel
theorem tyX7_ok : ∀ k, k < 1 → parseFieldDescriptor (TX7 k).2.2.1 = some (tyX7 k) := by decide +kernel
abbrev cX7_init : ByteArray := prog_9_method_1_code
def yX7_init : MethodName := ⟨RX7, "<init>", "()V"⟩
abbrev cX7_become : ByteArray := prog_9_method_2_code
def yX7_become : MethodName := ⟨RX7, "become", "(LTropicRanks$State;)V"⟩
abbrev cX7_size : ByteArray := prog_9_method_3_code
def yX7_size : MethodName := ⟨RX7, "size", "()I"⟩
def RX8 : String := "TropicRanks$Ways"
def TX8 : u_T := fun k => match k with
  | 0 => ("TropicRanks$Ways", "sums", "[I", true)
  | 1 => ("TropicRanks$Ways", "places", "[I", true)
  | _ => ("TropicRanks$Ways", "found", "I", false)
def tyX8 : Nat → FieldType := fun k => match k with
  | 0 => .array .int
  | 1 => .array .int
  | _ => .int
theorem nmX8 : ∀ a, a < 3 → ∀ b, b < 3 → a ≠ b → (TX8 a).2.1 ≠ (TX8 b).2.1 := by decide +kernel
theorem tyX8_ok : ∀ k, k < 3 → parseFieldDescriptor (TX8 k).2.2.1 = some (tyX8 k) := by decide +kernel
abbrev cX8_init : ByteArray := prog_10_method_1_code
def yX8_init : MethodName := ⟨RX8, "<init>", "()V"⟩
abbrev cX8_gather : ByteArray := prog_10_method_2_code
def yX8_gather : MethodName := ⟨RX8, "gather", "(LTropicRanks$Grid;II)V"⟩
abbrev cX8_goOn : ByteArray := prog_10_method_3_code
def yX8_goOn : MethodName := ⟨RX8, "goOn", "(LTropicRanks$Ways;LTropicRanks$Grid;IIIII)V"⟩
abbrev cX8_keep : ByteArray := prog_10_method_4_code
def yX8_keep : MethodName := ⟨RX8, "keep", "(II)V"⟩
abbrev cX8_leastSum : ByteArray := prog_10_method_5_code
def yX8_leastSum : MethodName := ⟨RX8, "leastSum", "()I"⟩
abbrev cX8_greatestSum : ByteArray := prog_10_method_6_code
def yX8_greatestSum : MethodName := ⟨RX8, "greatestSum", "()I"⟩
abbrev cX8_withLeastSum : ByteArray := prog_10_method_7_code
def yX8_withLeastSum : MethodName := ⟨RX8, "withLeastSum", "()I"⟩
def RX9 : String := "TropicRanks"
def TX9 : u_T := fun k => match k with
  | 0 => ("TropicRanks", "now", "LTropicRanks$State;", true)
  | 1 => ("TropicRanks", "history", "LTropicRanks$History;", true)
  | 2 => ("TropicRanks", "slots", "[LTropicRanks$State;", true)
  | 3 => ("TropicRanks", "saved", "[Z", true)
  | 4 => ("TropicRanks", "pad", "LTropicRanks$Pad;", true)
  | 5 => ("TropicRanks", "spare", "LTropicRanks$Grid;", true)
  | 6 => ("TropicRanks", "turned", "LTropicRanks$Grid;", true)
  | 7 => ("TropicRanks", "ways", "LTropicRanks$Ways;", true)
  | 8 => ("TropicRanks", "parts", "LTropicRanks$Parts;", true)
  | 9 => ("TropicRanks", "covers", "LTropicRanks$Covers;", true)
  | _ => ("TropicRanks", "rings", "LTropicRanks$Rings;", true)
def tyX9 : Nat → FieldType := fun k => match k with
  | 0 => .object "TropicRanks$State"
  | 1 => .object "TropicRanks$History"
  | 2 => .array (.object "TropicRanks$State")
  | 3 => .array .boolean
  | 4 => .object "TropicRanks$Pad"
  | 5 => .object "TropicRanks$Grid"
  | 6 => .object "TropicRanks$Grid"
  | 7 => .object "TropicRanks$Ways"
  | 8 => .object "TropicRanks$Parts"
  | 9 => .object "TropicRanks$Covers"
  | _ => .object "TropicRanks$Rings"
theorem nmX9 : ∀ a, a < 11 → ∀ b, b < 11 → a ≠ b → (TX9 a).2.1 ≠ (TX9 b).2.1 := by decide +kernel
theorem tyX9_ok : ∀ k, k < 11 → parseFieldDescriptor (TX9 k).2.2.1 = some (tyX9 k) := by decide +kernel
abbrev cX9_init : ByteArray := prog_1_method_1_code
def yX9_init : MethodName := ⟨RX9, "<init>", "()V"⟩
abbrev cX9_load : ByteArray := prog_1_method_2_code
def yX9_load : MethodName := ⟨RX9, "load", "(I)I"⟩
abbrev cX9_set : ByteArray := prog_1_method_3_code
def yX9_set : MethodName := ⟨RX9, "set", "(IIII)I"⟩
abbrev cX9_raise : ByteArray := prog_1_method_4_code
def yX9_raise : MethodName := ⟨RX9, "raise", "(IZII)I"⟩
abbrev cX9_exchange : ByteArray := prog_1_method_5_code
def yX9_exchange : MethodName := ⟨RX9, "exchange", "(IZII)I"⟩
abbrev cX9_drop : ByteArray := prog_1_method_6_code
def yX9_drop : MethodName := ⟨RX9, "drop", "(IZI)I"⟩
abbrev cX9_turn : ByteArray := prog_1_method_7_code
def yX9_turn : MethodName := ⟨RX9, "turn", "(I)I"⟩
abbrev cX9_product : ByteArray := prog_1_method_8_code
def yX9_product : MethodName := ⟨RX9, "product", "(III)I"⟩
abbrev cX9_close : ByteArray := prog_1_method_9_code
def yX9_close : MethodName := ⟨RX9, "close", "(I)I"⟩
abbrev cX9_entry : ByteArray := prog_1_method_10_code
def yX9_entry : MethodName := ⟨RX9, "entry", "(III)I"⟩
abbrev cX9_permanent : ByteArray := prog_1_method_11_code
def yX9_permanent : MethodName := ⟨RX9, "permanent", "(IIII)I"⟩
abbrev cX9_byParts : ByteArray := prog_1_method_12_code
def yX9_byParts : MethodName := ⟨RX9, "byParts", "(II)I"⟩
abbrev cX9_canTouch : ByteArray := prog_1_method_13_code
def yX9_canTouch : MethodName := ⟨RX9, "canTouch", "(II)I"⟩
abbrev cX9_byCovers : ByteArray := prog_1_method_14_code
def yX9_byCovers : MethodName := ⟨RX9, "byCovers", "(II)I"⟩
abbrev cX9_cover : ByteArray := prog_1_method_15_code
def yX9_cover : MethodName := ⟨RX9, "cover", "(II)I"⟩
abbrev cX9_cone : ByteArray := prog_1_method_16_code
def yX9_cone : MethodName := ⟨RX9, "cone", "(IIII)I"⟩
abbrev cX9_factor : ByteArray := prog_1_method_17_code
def yX9_factor : MethodName := ⟨RX9, "factor", "(III)I"⟩
abbrev cX9_byCone : ByteArray := prog_1_method_18_code
def yX9_byCone : MethodName := ⟨RX9, "byCone", "(IZI)I"⟩
abbrev cX9_arrayOf : ByteArray := prog_1_method_19_code
def yX9_arrayOf : MethodName := ⟨RX9, "arrayOf", "(II)I"⟩
abbrev cX9_ring : ByteArray := prog_1_method_20_code
def yX9_ring : MethodName := ⟨RX9, "ring", "(II)I"⟩
abbrev cX9_count : ByteArray := prog_1_method_21_code
def yX9_count : MethodName := ⟨RX9, "count", "(I)I"⟩
abbrev cX9_ifSet : ByteArray := prog_1_method_22_code
def yX9_ifSet : MethodName := ⟨RX9, "ifSet", "(IIIII)I"⟩
abbrev cX9_bestZero : ByteArray := prog_1_method_23_code
def yX9_bestZero : MethodName := ⟨RX9, "bestZero", "(I)I"⟩
abbrev cX9_put : ByteArray := prog_1_method_24_code
def yX9_put : MethodName := ⟨RX9, "put", "(J)I"⟩
abbrev cX9_wipe : ByteArray := prog_1_method_25_code
def yX9_wipe : MethodName := ⟨RX9, "wipe", "()I"⟩
abbrev cX9_isArray : ByteArray := prog_1_method_30_code
def yX9_isArray : MethodName := ⟨RX9, "isArray", "(I)Z"⟩
abbrev cX9_isValue : ByteArray := prog_1_method_32_code
def yX9_isValue : MethodName := ⟨RX9, "isValue", "(I)Z"⟩
abbrev cX9_isSet : ByteArray := prog_1_method_33_code
def yX9_isSet : MethodName := ⟨RX9, "isSet", "(II)Z"⟩
abbrev cX9_isPart : ByteArray := prog_1_method_34_code
def yX9_isPart : MethodName := ⟨RX9, "isPart", "(LTropicRanks$Grid;II)Z"⟩
abbrev cX9_rank : ByteArray := prog_1_method_35_code
def yX9_rank : MethodName := ⟨RX9, "rank", "(LTropicRanks$Grid;I)I"⟩
abbrev cX9_neededLines : ByteArray := prog_1_method_36_code
def yX9_neededLines : MethodName := ⟨RX9, "neededLines", "(LTropicRanks$Grid;Z)I"⟩
def RX10 : String := "TropicRanksModel"
def TX10 : u_T := fun k => match k with
  | _ => ("", "", "", false)
def tyX10 : Nat → FieldType := fun k => match k with
  | _ => .int
theorem nmX10 : ∀ a, a < 0 → ∀ b, b < 0 → a ≠ b → (TX10 a).2.1 ≠ (TX10 b).2.1 := by decide +kernel
theorem tyX10_ok : ∀ k, k < 0 → parseFieldDescriptor (TX10 k).2.2.1 = some (tyX10 k) := by decide +kernel
def RJ6 : String := "java/lang/Integer"
def TJ6 : u_T := fun k => match k with
  | _ => ("", "", "", false)
def tyJ6 : Nat → FieldType := fun k => match k with
  | _ => .int
theorem nmJ6 : ∀ a, a < 0 → ∀ b, b < 0 → a ≠ b → (TJ6 a).2.1 ≠ (TJ6 b).2.1 := by decide +kernel
theorem tyJ6_ok : ∀ k, k < 0 → parseFieldDescriptor (TJ6 k).2.2.1 = some (tyJ6 k) := by decide +kernel
abbrev cJ6_bitCount_0f7a4 : ByteArray := prog_13_method_49_code
def yJ6_bitCount_0f7a4 : MethodName := ⟨RJ6, "bitCount", "(I)I"⟩
def RJ13 : String := "java/lang/Long"
def TJ13 : u_T := fun k => match k with
  | _ => ("", "", "", false)
def tyJ13 : Nat → FieldType := fun k => match k with
  | _ => .int
theorem nmJ13 : ∀ a, a < 0 → ∀ b, b < 0 → a ≠ b → (TJ13 a).2.1 ≠ (TJ13 b).2.1 := by decide +kernel
theorem tyJ13_ok : ∀ k, k < 0 → parseFieldDescriptor (TJ13 k).2.2.1 = some (tyJ13 k) := by decide +kernel
abbrev cJ13_bitCount_95d88 : ByteArray := prog_14_method_50_code
def yJ13_bitCount_95d88 : MethodName := ⟨RJ13, "bitCount", "(J)I"⟩
def RJ9 : String := "java/lang/Math"
def TJ9 : u_T := fun k => match k with
  | _ => ("", "", "", false)
def tyJ9 : Nat → FieldType := fun k => match k with
  | _ => .int
theorem nmJ9 : ∀ a, a < 0 → ∀ b, b < 0 → a ≠ b → (TJ9 a).2.1 ≠ (TJ9 b).2.1 := by decide +kernel
theorem tyJ9_ok : ∀ k, k < 0 → parseFieldDescriptor (TJ9 k).2.2.1 = some (tyJ9 k) := by decide +kernel
abbrev cJ9_max_7cf53 : ByteArray := prog_15_method_65_code
def yJ9_max_7cf53 : MethodName := ⟨RJ9, "max", "(II)I"⟩
abbrev cJ9_min_7cf53 : ByteArray := prog_15_method_69_code
def yJ9_min_7cf53 : MethodName := ⟨RJ9, "min", "(II)I"⟩
def RJ10 : String := "java/lang/System"
def TJ10 : u_T := fun k => match k with
  | _ => ("", "", "", false)
def tyJ10 : Nat → FieldType := fun k => match k with
  | _ => .int
theorem nmJ10 : ∀ a, a < 0 → ∀ b, b < 0 → a ≠ b → (TJ10 a).2.1 ≠ (TJ10 b).2.1 := by decide +kernel
theorem tyJ10_ok : ∀ k, k < 0 → parseFieldDescriptor (TJ10 k).2.2.1 = some (tyJ10 k) := by decide +kernel
def RL : String := "TropicRanksLaw"
abbrev cL_cell : ByteArray := method_2_code
def yL_cell : MethodName := ⟨RL, "cell", "([II)I"⟩
abbrev cL_low : ByteArray := method_3_code
def yL_low : MethodName := ⟨RL, "low", "(II)I"⟩
abbrev cL_at : ByteArray := method_4_code
def yL_at : MethodName := ⟨RL, "at", "(III[I)I"⟩
abbrev cL_many : ByteArray := method_5_code
def yL_many : MethodName := ⟨RL, "many", "(I[I)I"⟩
abbrev cL_bits : ByteArray := method_6_code
def yL_bits : MethodName := ⟨RL, "bits", "(I)I"⟩
abbrev cL_touches : ByteArray := method_7_code
def yL_touches : MethodName := ⟨RL, "touches", "(II[I[I)Z"⟩
abbrev cL_sets : ByteArray := method_8_code
def yL_sets : MethodName := ⟨RL, "sets", "(I[I[I[J)I"⟩
abbrev cL_colors : ByteArray := method_9_code
def yL_colors : MethodName := ⟨RL, "colors", "(I[I[J[I)I"⟩
abbrev cL_ways : ByteArray := method_10_code
def yL_ways : MethodName := ⟨RL, "ways", "(III[I)I"⟩
abbrev cL_factor : ByteArray := method_11_code
def yL_factor : MethodName := ⟨RL, "factor", "(III[I)I"⟩
abbrev cL_misses : ByteArray := method_12_code
def yL_misses : MethodName := ⟨RL, "misses", "(III[I)I"⟩
abbrev cL_stay : ByteArray := method_13_code
def yL_stay : MethodName := ⟨RL, "stay", "(I[I)I"⟩
abbrev cL_turn : ByteArray := method_14_code
def yL_turn : MethodName := ⟨RL, "turn", "(I[I)V"⟩
abbrev cL_same : ByteArray := method_15_code
def yL_same : MethodName := ⟨RL, "same", "(LTropicRanks;II[I[I[I[J)Z"⟩
abbrev cL_law : ByteArray := code
def yL_law : MethodName := ⟨RL, "law", "([I)Z"⟩
abbrev vwCl : List vw_C := [(RX1, TX1, 4), (RX2, TX2, 3), (RX3, TX3, 3), (RX4, TX4, 6), (RX5, TX5, 4), (RX6, TX6, 3), (RX7, TX7, 1), (RX8, TX8, 3), (RX9, TX9, 11)]
