def TX0 : u_T := fun k => match k with
  | 0 => ("HexTable$Board", "size", "I", true)
  | 1 => ("HexTable$Board", "stones", "[I", true)
  | 2 => ("HexTable$Board", "near", "[I", true)
  | 3 => ("HexTable$Board", "edges", "[I", true)
  | 4 => ("HexTable$Board", "marks", "[I", true)
  | _ => ("HexTable$Board", "stack", "[I", true)
def tyX0 : Nat → FieldType := fun k => match k with
  | 0 => .int
  | 1 => .array .int
  | 2 => .array .int
  | 3 => .array .int
  | 4 => .array .int
  | _ => .array .int
theorem nmX0 : ∀ a, a < 6 → ∀ b, b < 6 → a ≠ b → (TX0 a).2.1 ≠ (TX0 b).2.1 := by decide +kernel
theorem tyX0_ok : ∀ k, k < 6 → parseFieldDescriptor (TX0 k).2.2.1 = some (tyX0 k) := by decide +kernel
def TX1 : u_T := fun k => match k with
  | 0 => ("HexTable$Checker", "bench", "LHexTable$Board;", true)
  | 1 => ("HexTable$Checker", "tree", "LHexTable$Entries;", true)
  | 2 => ("HexTable$Checker", "behind", "[I", false)
  | 3 => ("HexTable$Checker", "nextOne", "[I", false)
  | 4 => ("HexTable$Checker", "side", "I", false)
  | _ => ("HexTable$Checker", "mover", "I", false)
def tyX1 : Nat → FieldType := fun k => match k with
  | 0 => .object "HexTable$Board"
  | 1 => .object "HexTable$Entries"
  | 2 => .array .int
  | 3 => .array .int
  | 4 => .int
  | _ => .int
theorem nmX1 : ∀ a, a < 6 → ∀ b, b < 6 → a ≠ b → (TX1 a).2.1 ≠ (TX1 b).2.1 := by decide +kernel
theorem tyX1_ok : ∀ k, k < 6 → parseFieldDescriptor (TX1 k).2.2.1 = some (tyX1 k) := by decide +kernel
def TX2 : u_T := fun k => match k with
  | 0 => ("HexTable$Entries", "ahead", "[I", false)
  | 1 => ("HexTable$Entries", "cells", "[I", false)
  | _ => ("HexTable$Entries", "count", "I", false)
def tyX2 : Nat → FieldType := fun k => match k with
  | 0 => .array .int
  | 1 => .array .int
  | _ => .int
theorem nmX2 : ∀ a, a < 3 → ∀ b, b < 3 → a ≠ b → (TX2 a).2.1 ≠ (TX2 b).2.1 := by decide +kernel
theorem tyX2_ok : ∀ k, k < 3 → parseFieldDescriptor (TX2 k).2.2.1 = some (tyX2 k) := by decide +kernel
def TX3 : u_T := fun k => match k with
  | 0 => ("HexTable$Nodes", "cells", "[I", false)
  | 1 => ("HexTable$Nodes", "ahead", "[I", false)
  | 2 => ("HexTable$Nodes", "proof", "[I", false)
  | 3 => ("HexTable$Nodes", "disproof", "[I", false)
  | 4 => ("HexTable$Nodes", "child", "[I", false)
  | 5 => ("HexTable$Nodes", "children", "[I", false)
  | _ => ("HexTable$Nodes", "count", "I", false)
def tyX3 : Nat → FieldType := fun k => match k with
  | 0 => .array .int
  | 1 => .array .int
  | 2 => .array .int
  | 3 => .array .int
  | 4 => .array .int
  | 5 => .array .int
  | _ => .int
theorem nmX3 : ∀ a, a < 7 → ∀ b, b < 7 → a ≠ b → (TX3 a).2.1 ≠ (TX3 b).2.1 := by decide +kernel
theorem tyX3_ok : ∀ k, k < 7 → parseFieldDescriptor (TX3 k).2.2.1 = some (tyX3 k) := by decide +kernel
def TX4 : u_T := fun k => match k with
  | 0 => ("HexTable$Seeker", "bench", "LHexTable$Board;", true)
  | 1 => ("HexTable$Seeker", "nodes", "LHexTable$Nodes;", true)
  | 2 => ("HexTable$Seeker", "plan", "LHexTable$Entries;", true)
  | 3 => ("HexTable$Seeker", "first", "I", false)
  | _ => ("HexTable$Seeker", "mover", "I", false)
def tyX4 : Nat → FieldType := fun k => match k with
  | 0 => .object "HexTable$Board"
  | 1 => .object "HexTable$Nodes"
  | 2 => .object "HexTable$Entries"
  | 3 => .int
  | _ => .int
theorem nmX4 : ∀ a, a < 5 → ∀ b, b < 5 → a ≠ b → (TX4 a).2.1 ≠ (TX4 b).2.1 := by decide +kernel
theorem tyX4_ok : ∀ k, k < 5 → parseFieldDescriptor (TX4 k).2.2.1 = some (tyX4 k) := by decide +kernel
def TX5 : u_T := fun k => match k with
  | 0 => ("HexTable$Walker", "board", "LHexTable$Board;", true)
  | 1 => ("HexTable$Walker", "oneX", "I", false)
  | 2 => ("HexTable$Walker", "oneY", "I", false)
  | 3 => ("HexTable$Walker", "twoX", "I", false)
  | 4 => ("HexTable$Walker", "twoY", "I", false)
  | 5 => ("HexTable$Walker", "thirdX", "I", false)
  | 6 => ("HexTable$Walker", "thirdY", "I", false)
  | _ => ("HexTable$Walker", "thirdSide", "I", false)
def tyX5 : Nat → FieldType := fun k => match k with
  | 0 => .object "HexTable$Board"
  | 1 => .int
  | 2 => .int
  | 3 => .int
  | 4 => .int
  | 5 => .int
  | 6 => .int
  | _ => .int
theorem nmX5 : ∀ a, a < 8 → ∀ b, b < 8 → a ≠ b → (TX5 a).2.1 ≠ (TX5 b).2.1 := by decide +kernel
theorem tyX5_ok : ∀ k, k < 8 → parseFieldDescriptor (TX5 k).2.2.1 = some (tyX5 k) := by decide +kernel
def TX6 : u_T := fun k => match k with
  | 0 => ("HexTable", "board", "LHexTable$Board;", true)
  | 1 => ("HexTable", "bench", "LHexTable$Board;", true)
  | 2 => ("HexTable", "walker", "LHexTable$Walker;", true)
  | 3 => ("HexTable", "seeker", "LHexTable$Seeker;", true)
  | 4 => ("HexTable", "tree", "LHexTable$Entries;", true)
  | 5 => ("HexTable", "checker", "LHexTable$Checker;", true)
  | 6 => ("HexTable", "plays", "[I", true)
  | 7 => ("HexTable", "playCount", "I", false)
  | _ => ("HexTable", "mover", "I", false)
def tyX6 : Nat → FieldType := fun k => match k with
  | 0 => .object "HexTable$Board"
  | 1 => .object "HexTable$Board"
  | 2 => .object "HexTable$Walker"
  | 3 => .object "HexTable$Seeker"
  | 4 => .object "HexTable$Entries"
  | 5 => .object "HexTable$Checker"
  | 6 => .array .int
  | 7 => .int
  | _ => .int
theorem nmX6 : ∀ a, a < 9 → ∀ b, b < 9 → a ≠ b → (TX6 a).2.1 ≠ (TX6 b).2.1 := by decide +kernel
theorem tyX6_ok : ∀ k, k < 9 → parseFieldDescriptor (TX6 k).2.2.1 = some (tyX6 k) := by decide +kernel
def TX7 : u_T := fun k => match k with
  | 0 => ("HexTableModel", "board", "[B", true)
  | 1 => ("HexTableModel", "size", "I", false)
  | 2 => ("HexTableModel", "cells", "I", false)
  | 3 => ("HexTableModel", "turn", "I", false)
  | 4 => ("HexTableModel", "plays", "I", false)
  | 5 => ("HexTableModel", "played", "[I", true)
  | 6 => ("HexTableModel", "cellOf", "[I", true)
  | 7 => ("HexTableModel", "ahead", "[I", true)
  | 8 => ("HexTableModel", "proof", "[I", true)
  | 9 => ("HexTableModel", "disproof", "[I", true)
  | 10 => ("HexTableModel", "child", "[I", true)
  | 11 => ("HexTableModel", "many", "[I", true)
  | 12 => ("HexTableModel", "nodes", "I", false)
  | 13 => ("HexTableModel", "budgetOf", "I", false)
  | 14 => ("HexTableModel", "wins", "I", false)
  | 15 => ("HexTableModel", "strategyAhead", "[I", true)
  | 16 => ("HexTableModel", "strategyCell", "[I", true)
  | 17 => ("HexTableModel", "entries", "I", false)
  | 18 => ("HexTableModel", "treeAhead", "[I", true)
  | 19 => ("HexTableModel", "treeCell", "[I", true)
  | 20 => ("HexTableModel", "planted", "I", false)
  | 21 => ("HexTableModel", "seen", "[Z", true)
  | 22 => ("HexTableModel", "wave", "[I", true)
  | 23 => ("HexTableModel", "waves", "I", false)
  | 24 => ("HexTableModel", "ax", "I", false)
  | 25 => ("HexTableModel", "ay", "I", false)
  | 26 => ("HexTableModel", "bx", "I", false)
  | 27 => ("HexTableModel", "by", "I", false)
  | 28 => ("HexTableModel", "fx", "I", false)
  | 29 => ("HexTableModel", "fy", "I", false)
  | 30 => ("HexTableModel", "tx", "I", false)
  | 31 => ("HexTableModel", "ty", "I", false)
  | 32 => ("HexTableModel", "first", "I", false)
  | 33 => ("HexTableModel", "open", "[I", true)
  | 34 => ("HexTableModel", "behind", "[I", true)
  | 35 => ("HexTableModel", "heir", "[I", true)
  | 36 => ("HexTableModel", "beside", "[I", true)
  | _ => ("HexTableModel", "wave2", "[I", true)
def tyX7 : Nat → FieldType := fun k => match k with
  | 0 => .array .byte
  | 1 => .int
  | 2 => .int
  | 3 => .int
  | 4 => .int
  | 5 => .array .int
  | 6 => .array .int
  | 7 => .array .int
  | 8 => .array .int
  | 9 => .array .int
  | 10 => .array .int
  | 11 => .array .int
  | 12 => .int
  | 13 => .int
  | 14 => .int
  | 15 => .array .int
  | 16 => .array .int
  | 17 => .int
  | 18 => .array .int
  | 19 => .array .int
  | 20 => .int
  | 21 => .array .boolean
  | 22 => .array .int
  | 23 => .int
  | 24 => .int
  | 25 => .int
  | 26 => .int
  | 27 => .int
  | 28 => .int
  | 29 => .int
  | 30 => .int
  | 31 => .int
  | 32 => .int
  | 33 => .array .int
  | 34 => .array .int
  | 35 => .array .int
  | 36 => .array .int
  | _ => .array .int
theorem nmX7 : ∀ a, a < 38 → ∀ b, b < 38 → a ≠ b → (TX7 a).2.1 ≠ (TX7 b).2.1 := by decide +kernel
theorem tyX7_ok : ∀ k, k < 38 → parseFieldDescriptor (TX7 k).2.2.1 = some (tyX7 k) := by decide +kernel
abbrev vwCl : List vw_C := [("HexTable$Board", TX0, 6), ("HexTable$Checker", TX1, 6), ("HexTable$Entries", TX2, 3), ("HexTable$Nodes", TX3, 7), ("HexTable$Seeker", TX4, 5), ("HexTable$Walker", TX5, 8), ("HexTable", TX6, 9), ("HexTableModel", TX7, 38)]
abbrev cX0_init : ByteArray := prog_2_method_1_code
abbrev yX0_init : MethodName := { cls := "HexTable$Board", name := "<init>", desc := "(I)V" }
abbrev cX0_edgeMarks : ByteArray := prog_2_method_2_code
abbrev yX0_edgeMarks : MethodName := { cls := "HexTable$Board", name := "edgeMarks", desc := "(II)I" }
abbrev cX0_numberIn : ByteArray := prog_2_method_3_code
abbrev yX0_numberIn : MethodName := { cls := "HexTable$Board", name := "numberIn", desc := "(III)I" }
abbrev cX0_numberOf : ByteArray := prog_2_method_4_code
abbrev yX0_numberOf : MethodName := { cls := "HexTable$Board", name := "numberOf", desc := "(II)I" }
abbrev cX0_has : ByteArray := prog_2_method_5_code
abbrev yX0_has : MethodName := { cls := "HexTable$Board", name := "has", desc := "(I)Z" }
abbrev cX0_isEmpty : ByteArray := prog_2_method_6_code
abbrev yX0_isEmpty : MethodName := { cls := "HexTable$Board", name := "isEmpty", desc := "(I)Z" }
abbrev cX0_stoneAt : ByteArray := prog_2_method_7_code
abbrev yX0_stoneAt : MethodName := { cls := "HexTable$Board", name := "stoneAt", desc := "(I)I" }
abbrev cX0_put : ByteArray := prog_2_method_8_code
abbrev yX0_put : MethodName := { cls := "HexTable$Board", name := "put", desc := "(II)V" }
abbrev cX0_copyStones : ByteArray := prog_2_method_9_code
abbrev yX0_copyStones : MethodName := { cls := "HexTable$Board", name := "copyStones", desc := "(LHexTable$Board;)V" }
abbrev cX0_countEmpty : ByteArray := prog_2_method_10_code
abbrev yX0_countEmpty : MethodName := { cls := "HexTable$Board", name := "countEmpty", desc := "()I" }
abbrev cX0_sideAt : ByteArray := prog_2_method_11_code
abbrev yX0_sideAt : MethodName := { cls := "HexTable$Board", name := "sideAt", desc := "(II)I" }
abbrev cX0_clearMarks : ByteArray := prog_2_method_12_code
abbrev yX0_clearMarks : MethodName := { cls := "HexTable$Board", name := "clearMarks", desc := "()V" }
abbrev cX0_markEmpty : ByteArray := prog_2_method_13_code
abbrev yX0_markEmpty : MethodName := { cls := "HexTable$Board", name := "markEmpty", desc := "(I)Z" }
abbrev cX0_markChain : ByteArray := prog_2_method_14_code
abbrev yX0_markChain : MethodName := { cls := "HexTable$Board", name := "markChain", desc := "(II)V" }
abbrev cX0_openAround : ByteArray := prog_2_method_15_code
abbrev yX0_openAround : MethodName := { cls := "HexTable$Board", name := "openAround", desc := "(III)I" }
abbrev cX0_chainName : ByteArray := prog_2_method_16_code
abbrev yX0_chainName : MethodName := { cls := "HexTable$Board", name := "chainName", desc := "(I)I" }
abbrev cX0_countChains : ByteArray := prog_2_method_17_code
abbrev yX0_countChains : MethodName := { cls := "HexTable$Board", name := "countChains", desc := "()I" }
abbrev cX0_edgesOf : ByteArray := prog_2_method_18_code
abbrev yX0_edgesOf : MethodName := { cls := "HexTable$Board", name := "edgesOf", desc := "(II)I" }
abbrev cX0_markFromEdges : ByteArray := prog_2_method_19_code
abbrev yX0_markFromEdges : MethodName := { cls := "HexTable$Board", name := "markFromEdges", desc := "(I)V" }
abbrev cX0_wins : ByteArray := prog_2_method_20_code
abbrev yX0_wins : MethodName := { cls := "HexTable$Board", name := "wins", desc := "(I)Z" }
abbrev cX0_winner : ByteArray := prog_2_method_21_code
abbrev yX0_winner : MethodName := { cls := "HexTable$Board", name := "winner", desc := "()I" }
abbrev cX0_wouldWin : ByteArray := prog_2_method_22_code
abbrev yX0_wouldWin : MethodName := { cls := "HexTable$Board", name := "wouldWin", desc := "(II)Z" }
abbrev cX1_init : ByteArray := prog_3_method_1_code
abbrev yX1_init : MethodName := { cls := "HexTable$Checker", name := "<init>", desc := "(LHexTable$Board;LHexTable$Entries;)V" }
abbrev cX1_judge : ByteArray := prog_3_method_2_code
abbrev yX1_judge : MethodName := { cls := "HexTable$Checker", name := "judge", desc := "(II)I" }
abbrev cX1_climbToNext : ByteArray := prog_3_method_3_code
abbrev yX1_climbToNext : MethodName := { cls := "HexTable$Checker", name := "climbToNext", desc := "(I)I" }
abbrev cX1_linkEntries : ByteArray := prog_3_method_4_code
abbrev yX1_linkEntries : MethodName := { cls := "HexTable$Checker", name := "linkEntries", desc := "()V" }
abbrev cX1_wrongAt : ByteArray := prog_3_method_5_code
abbrev yX1_wrongAt : MethodName := { cls := "HexTable$Checker", name := "wrongAt", desc := "(I)I" }
abbrev cX1_wrongBehind : ByteArray := prog_3_method_6_code
abbrev yX1_wrongBehind : MethodName := { cls := "HexTable$Checker", name := "wrongBehind", desc := "(I)I" }
abbrev cX1_coversEmptyCells : ByteArray := prog_3_method_7_code
abbrev yX1_coversEmptyCells : MethodName := { cls := "HexTable$Checker", name := "coversEmptyCells", desc := "(I)Z" }
abbrev cX2_init : ByteArray := prog_4_method_1_code
abbrev yX2_init : MethodName := { cls := "HexTable$Entries", name := "<init>", desc := "()V" }
abbrev cX2_has : ByteArray := prog_4_method_2_code
abbrev yX2_has : MethodName := { cls := "HexTable$Entries", name := "has", desc := "(I)Z" }
abbrev cX2_add : ByteArray := prog_4_method_3_code
abbrev yX2_add : MethodName := { cls := "HexTable$Entries", name := "add", desc := "(II)I" }
abbrev cX2_copyEntries : ByteArray := prog_4_method_4_code
abbrev yX2_copyEntries : MethodName := { cls := "HexTable$Entries", name := "copyEntries", desc := "(LHexTable$Entries;)V" }
abbrev cX3_init : ByteArray := prog_5_method_1_code
abbrev yX3_init : MethodName := { cls := "HexTable$Nodes", name := "<init>", desc := "()V" }
abbrev cX3_add : ByteArray := prog_5_method_2_code
abbrev yX3_add : MethodName := { cls := "HexTable$Nodes", name := "add", desc := "(II)I" }
abbrev cX3_lengthen : ByteArray := prog_5_method_3_code
abbrev yX3_lengthen : MethodName := { cls := "HexTable$Nodes", name := "lengthen", desc := "()V" }
abbrev cX3_tell : ByteArray := prog_5_method_4_code
abbrev yX3_tell : MethodName := { cls := "HexTable$Nodes", name := "tell", desc := "(II)I" }
abbrev cX3_leastChild : ByteArray := prog_5_method_5_code
abbrev yX3_leastChild : MethodName := { cls := "HexTable$Nodes", name := "leastChild", desc := "(I[I)I" }
abbrev cX3_sumOfChildren : ByteArray := prog_5_method_6_code
abbrev yX3_sumOfChildren : MethodName := { cls := "HexTable$Nodes", name := "sumOfChildren", desc := "(I[I)I" }
abbrev cX3_nextSibling : ByteArray := prog_5_method_7_code
abbrev yX3_nextSibling : MethodName := { cls := "HexTable$Nodes", name := "nextSibling", desc := "(I)I" }
abbrev cX4_init : ByteArray := prog_6_method_1_code
abbrev yX4_init : MethodName := { cls := "HexTable$Seeker", name := "<init>", desc := "(LHexTable$Board;)V" }
abbrev cX4_seek : ByteArray := prog_6_method_2_code
abbrev yX4_seek : MethodName := { cls := "HexTable$Seeker", name := "seek", desc := "(II)I" }
abbrev cX4_isSettled : ByteArray := prog_6_method_3_code
abbrev yX4_isSettled : MethodName := { cls := "HexTable$Seeker", name := "isSettled", desc := "(I)Z" }
abbrev cX4_foundAt : ByteArray := prog_6_method_4_code
abbrev yX4_foundAt : MethodName := { cls := "HexTable$Seeker", name := "foundAt", desc := "(I)I" }
abbrev cX4_descend : ByteArray := prog_6_method_5_code
abbrev yX4_descend : MethodName := { cls := "HexTable$Seeker", name := "descend", desc := "(I)I" }
abbrev cX4_expand : ByteArray := prog_6_method_6_code
abbrev yX4_expand : MethodName := { cls := "HexTable$Seeker", name := "expand", desc := "(II)Z" }
abbrev cX4_addChild : ByteArray := prog_6_method_7_code
abbrev yX4_addChild : MethodName := { cls := "HexTable$Seeker", name := "addChild", desc := "(II)V" }
abbrev cX4_climb : ByteArray := prog_6_method_8_code
abbrev yX4_climb : MethodName := { cls := "HexTable$Seeker", name := "climb", desc := "(I)V" }
abbrev cX4_reckon : ByteArray := prog_6_method_9_code
abbrev yX4_reckon : MethodName := { cls := "HexTable$Seeker", name := "reckon", desc := "(I)V" }
abbrev cX4_writePlan : ByteArray := prog_6_method_10_code
abbrev yX4_writePlan : MethodName := { cls := "HexTable$Seeker", name := "writePlan", desc := "(II)V" }
abbrev cX4_firstInPlan : ByteArray := prog_6_method_11_code
abbrev yX4_firstInPlan : MethodName := { cls := "HexTable$Seeker", name := "firstInPlan", desc := "(IZ[I)I" }
abbrev cX5_init : ByteArray := prog_7_method_1_code
abbrev yX5_init : MethodName := { cls := "HexTable$Walker", name := "<init>", desc := "(LHexTable$Board;)V" }
abbrev cX5_follow : ByteArray := prog_7_method_2_code
abbrev yX5_follow : MethodName := { cls := "HexTable$Walker", name := "follow", desc := "(I)I" }
abbrev cX5_goOn : ByteArray := prog_7_method_3_code
abbrev yX5_goOn : MethodName := { cls := "HexTable$Walker", name := "goOn", desc := "()V" }
abbrev cX5_lookBeyond : ByteArray := prog_7_method_4_code
abbrev yX5_lookBeyond : MethodName := { cls := "HexTable$Walker", name := "lookBeyond", desc := "(II)V" }
abbrev cX6_init : ByteArray := prog_1_method_1_code
abbrev yX6_init : MethodName := { cls := "HexTable", name := "<init>", desc := "(I)V" }
abbrev cX6_set : ByteArray := prog_1_method_2_code
abbrev yX6_set : MethodName := { cls := "HexTable", name := "set", desc := "(III)Z" }
abbrev cX6_turn : ByteArray := prog_1_method_3_code
abbrev yX6_turn : MethodName := { cls := "HexTable", name := "turn", desc := "(I)Z" }
abbrev cX6_play : ByteArray := prog_1_method_4_code
abbrev yX6_play : MethodName := { cls := "HexTable", name := "play", desc := "(II)Z" }
abbrev cX6_undo : ByteArray := prog_1_method_5_code
abbrev yX6_undo : MethodName := { cls := "HexTable", name := "undo", desc := "()I" }
abbrev cX6_cell : ByteArray := prog_1_method_6_code
abbrev yX6_cell : MethodName := { cls := "HexTable", name := "cell", desc := "(II)I" }
abbrev cX6_chain : ByteArray := prog_1_method_7_code
abbrev yX6_chain : MethodName := { cls := "HexTable", name := "chain", desc := "(II)I" }
abbrev cX6_about : ByteArray := prog_1_method_8_code
abbrev yX6_about : MethodName := { cls := "HexTable", name := "about", desc := "(I)I" }
abbrev cX6_walk : ByteArray := prog_1_method_9_code
abbrev yX6_walk : MethodName := { cls := "HexTable", name := "walk", desc := "()I" }
abbrev cX6_step : ByteArray := prog_1_method_10_code
abbrev yX6_step : MethodName := { cls := "HexTable", name := "step", desc := "(II)I" }
abbrev cX6_search : ByteArray := prog_1_method_11_code
abbrev yX6_search : MethodName := { cls := "HexTable", name := "search", desc := "(I)I" }
abbrev cX6_node : ByteArray := prog_1_method_12_code
abbrev yX6_node : MethodName := { cls := "HexTable", name := "node", desc := "(II)I" }
abbrev cX6_strategy : ByteArray := prog_1_method_13_code
abbrev yX6_strategy : MethodName := { cls := "HexTable", name := "strategy", desc := "(II)I" }
abbrev cX6_load : ByteArray := prog_1_method_14_code
abbrev yX6_load : MethodName := { cls := "HexTable", name := "load", desc := "()I" }
abbrev cX6_plant : ByteArray := prog_1_method_15_code
abbrev yX6_plant : MethodName := { cls := "HexTable", name := "plant", desc := "(II)I" }
abbrev cX6_graft : ByteArray := prog_1_method_16_code
abbrev yX6_graft : MethodName := { cls := "HexTable", name := "graft", desc := "(II)Z" }
abbrev cX6_prune : ByteArray := prog_1_method_17_code
abbrev yX6_prune : MethodName := { cls := "HexTable", name := "prune", desc := "(I)I" }
abbrev cX6_check : ByteArray := prog_1_method_18_code
abbrev yX6_check : MethodName := { cls := "HexTable", name := "check", desc := "(I)I" }
abbrev cX6_isSide : ByteArray := prog_1_method_19_code
abbrev yX6_isSide : MethodName := { cls := "HexTable", name := "isSide", desc := "(I)Z" }
abbrev cX6_otherSide : ByteArray := prog_1_method_20_code
abbrev yX6_otherSide : MethodName := { cls := "HexTable", name := "otherSide", desc := "(I)I" }
abbrev cX6_roomierLength : ByteArray := prog_1_method_21_code
abbrev yX6_roomierLength : MethodName := { cls := "HexTable", name := "roomierLength", desc := "(I)I" }
abbrev cX7_init : ByteArray := prog_9_method_1_code
abbrev yX7_init : MethodName := { cls := "HexTableModel", name := "<init>", desc := "(I)V" }
abbrev cX7_isCell : ByteArray := prog_9_method_2_code
abbrev yX7_isCell : MethodName := { cls := "HexTableModel", name := "isCell", desc := "(II)Z" }
abbrev cX7_neighbour : ByteArray := prog_9_method_3_code
abbrev yX7_neighbour : MethodName := { cls := "HexTableModel", name := "neighbour", desc := "(II)I" }
abbrev cX7_forget : ByteArray := prog_9_method_4_code
abbrev yX7_forget : MethodName := { cls := "HexTableModel", name := "forget", desc := "()V" }
abbrev cX7_reach : ByteArray := prog_9_method_5_code
abbrev yX7_reach : MethodName := { cls := "HexTableModel", name := "reach", desc := "(I)V" }
abbrev cX7_spread : ByteArray := prog_9_method_6_code
abbrev yX7_spread : MethodName := { cls := "HexTableModel", name := "spread", desc := "(I)V" }
abbrev cX7_isWon : ByteArray := prog_9_method_7_code
abbrev yX7_isWon : MethodName := { cls := "HexTableModel", name := "isWon", desc := "(I)Z" }
abbrev cX7_winner : ByteArray := prog_9_method_8_code
abbrev yX7_winner : MethodName := { cls := "HexTableModel", name := "winner", desc := "()I" }
abbrev cX7_empty : ByteArray := prog_9_method_9_code
abbrev yX7_empty : MethodName := { cls := "HexTableModel", name := "empty", desc := "()I" }
abbrev cX7_chains : ByteArray := prog_9_method_10_code
abbrev yX7_chains : MethodName := { cls := "HexTableModel", name := "chains", desc := "()I" }
abbrev cX7_nameOf : ByteArray := prog_9_method_11_code
abbrev yX7_nameOf : MethodName := { cls := "HexTableModel", name := "nameOf", desc := "(I)I" }
abbrev cX7_set : ByteArray := prog_9_method_12_code
abbrev yX7_set : MethodName := { cls := "HexTableModel", name := "set", desc := "(III)Z" }
abbrev cX7_turn : ByteArray := prog_9_method_13_code
abbrev yX7_turn : MethodName := { cls := "HexTableModel", name := "turn", desc := "(I)Z" }
abbrev cX7_play : ByteArray := prog_9_method_14_code
abbrev yX7_play : MethodName := { cls := "HexTableModel", name := "play", desc := "(II)Z" }
abbrev cX7_undo : ByteArray := prog_9_method_15_code
abbrev yX7_undo : MethodName := { cls := "HexTableModel", name := "undo", desc := "()I" }
abbrev cX7_cell : ByteArray := prog_9_method_16_code
abbrev yX7_cell : MethodName := { cls := "HexTableModel", name := "cell", desc := "(II)I" }
abbrev cX7_chain : ByteArray := prog_9_method_17_code
abbrev yX7_chain : MethodName := { cls := "HexTableModel", name := "chain", desc := "(II)I" }
abbrev cX7_about : ByteArray := prog_9_method_18_code
abbrev yX7_about : MethodName := { cls := "HexTableModel", name := "about", desc := "(I)I" }
abbrev cX7_sideAt : ByteArray := prog_9_method_19_code
abbrev yX7_sideAt : MethodName := { cls := "HexTableModel", name := "sideAt", desc := "(II)I" }
abbrev cX7_isBeside : ByteArray := prog_9_method_20_code
abbrev yX7_isBeside : MethodName := { cls := "HexTableModel", name := "isBeside", desc := "(IIII)Z" }
abbrev cX7_third : ByteArray := prog_9_method_21_code
abbrev yX7_third : MethodName := { cls := "HexTableModel", name := "third", desc := "()V" }
abbrev cX7_walked : ByteArray := prog_9_method_22_code
abbrev yX7_walked : MethodName := { cls := "HexTableModel", name := "walked", desc := "(I)I" }
abbrev cX7_walk : ByteArray := prog_9_method_23_code
abbrev yX7_walk : MethodName := { cls := "HexTableModel", name := "walk", desc := "()I" }
abbrev cX7_step : ByteArray := prog_9_method_24_code
abbrev yX7_step : MethodName := { cls := "HexTableModel", name := "step", desc := "(II)I" }
abbrev cX7_makeNode : ByteArray := prog_9_method_25_code
abbrev yX7_makeNode : MethodName := { cls := "HexTableModel", name := "makeNode", desc := "(II)V" }
abbrev cX7_reckon : ByteArray := prog_9_method_26_code
abbrev yX7_reckon : MethodName := { cls := "HexTableModel", name := "reckon", desc := "(IZ)V" }
abbrev cX7_best : ByteArray := prog_9_method_27_code
abbrev yX7_best : MethodName := { cls := "HexTableModel", name := "best", desc := "(IZ)I" }
abbrev cX7_grow : ByteArray := prog_9_method_28_code
abbrev yX7_grow : MethodName := { cls := "HexTableModel", name := "grow", desc := "()Z" }
abbrev cX7_search : ByteArray := prog_9_method_29_code
abbrev yX7_search : MethodName := { cls := "HexTableModel", name := "search", desc := "(I)I" }
abbrev cX7_isEnd : ByteArray := prog_9_method_30_code
abbrev yX7_isEnd : MethodName := { cls := "HexTableModel", name := "isEnd", desc := "(I)Z" }
abbrev cX7_isOwn : ByteArray := prog_9_method_31_code
abbrev yX7_isOwn : MethodName := { cls := "HexTableModel", name := "isOwn", desc := "(I)Z" }
abbrev cX7_isSure : ByteArray := prog_9_method_32_code
abbrev yX7_isSure : MethodName := { cls := "HexTableModel", name := "isSure", desc := "(I)Z" }
abbrev cX7_gather : ByteArray := prog_9_method_33_code
abbrev yX7_gather : MethodName := { cls := "HexTableModel", name := "gather", desc := "()V" }
abbrev cX7_node : ByteArray := prog_9_method_34_code
abbrev yX7_node : MethodName := { cls := "HexTableModel", name := "node", desc := "(II)I" }
abbrev cX7_strategy : ByteArray := prog_9_method_35_code
abbrev yX7_strategy : MethodName := { cls := "HexTableModel", name := "strategy", desc := "(II)I" }
abbrev cX7_load : ByteArray := prog_9_method_36_code
abbrev yX7_load : MethodName := { cls := "HexTableModel", name := "load", desc := "()I" }
abbrev cX7_plant : ByteArray := prog_9_method_37_code
abbrev yX7_plant : MethodName := { cls := "HexTableModel", name := "plant", desc := "(II)I" }
abbrev cX7_graft : ByteArray := prog_9_method_38_code
abbrev yX7_graft : MethodName := { cls := "HexTableModel", name := "graft", desc := "(II)Z" }
abbrev cX7_prune : ByteArray := prog_9_method_39_code
abbrev yX7_prune : MethodName := { cls := "HexTableModel", name := "prune", desc := "(I)I" }
abbrev cX7_link : ByteArray := prog_9_method_40_code
abbrev yX7_link : MethodName := { cls := "HexTableModel", name := "link", desc := "()V" }
abbrev cX7_isFree : ByteArray := prog_9_method_41_code
abbrev yX7_isFree : MethodName := { cls := "HexTableModel", name := "isFree", desc := "(I)Z" }
abbrev cX7_wrongBehind : ByteArray := prog_9_method_42_code
abbrev yX7_wrongBehind : MethodName := { cls := "HexTableModel", name := "wrongBehind", desc := "(IZ)I" }
abbrev cX7_wrong : ByteArray := prog_9_method_43_code
abbrev yX7_wrong : MethodName := { cls := "HexTableModel", name := "wrong", desc := "(IIZ)I" }
abbrev cX7_check : ByteArray := prog_9_method_44_code
abbrev yX7_check : MethodName := { cls := "HexTableModel", name := "check", desc := "(I)I" }
abbrev cJ9_max_7cf53 : ByteArray := prog_11_method_65_code
abbrev yJ9_max_7cf53 : MethodName := { cls := "java/lang/Math", name := "max", desc := "(II)I" }
abbrev cJ9_min_7cf53 : ByteArray := prog_11_method_69_code
abbrev yJ9_min_7cf53 : MethodName := { cls := "java/lang/Math", name := "min", desc := "(II)I" }
abbrev cJ7_fill_53178 : ByteArray := prog_13_method_103_code
abbrev yJ7_fill_53178 : MethodName := { cls := "java/util/Arrays", name := "fill", desc := "([II)V" }
abbrev cJ7_copyOf_59c91 : ByteArray := prog_13_method_123_code
abbrev yJ7_copyOf_59c91 : MethodName := { cls := "java/util/Arrays", name := "copyOf", desc := "([II)[I" }
abbrev cL_cell : ByteArray := method_2_code
abbrev yL_cell : MethodName := { cls := "HexTableLaw", name := "cell", desc := "([II)I" }
abbrev cL_law : ByteArray := code
abbrev yL_law : MethodName := { cls := "HexTableLaw", name := "law", desc := "([I)Z" }
def gt : List Cond := lw_tbl.filter goodWord
theorem gt_lw {w : Cond} (h : w ∈ gt) : w ∈ lw_tbl := (List.mem_filter.mp h).1
theorem gt_good {w : Cond} (h : w ∈ gt) : (w.onTables && w.keeps) = true ∨ ∃ ty, w = .arrayClass ty := good_of_word (List.mem_filter.mp h).2
theorem gt_of {w : Cond} (h : w ∈ lw_tbl) (hg : goodWord w = true) : w ∈ gt := List.mem_filter.mpr ⟨h, hg⟩
theorem in_p {w : Cond} (h : w ∈ k2_sels lw_privs) : w ∈ lw_tbl := List.mem_append_left _ h
theorem in_1 {w : Cond} (h : w ∈ tables_1_1) : w ∈ lw_tbl := List.mem_append_right _ (List.mem_append_left _ h)
theorem in_2 {w : Cond} (h : w ∈ tables_1_2) : w ∈ lw_tbl := List.mem_append_right _ (List.mem_append_right _ (List.mem_append_left _ h))
theorem in_3 {w : Cond} (h : w ∈ tables_1_3) : w ∈ lw_tbl := List.mem_append_right _ (List.mem_append_right _ (List.mem_append_right _ (List.mem_append_left _ h)))
theorem in_4 {w : Cond} (h : w ∈ tables_1_4) : w ∈ lw_tbl := List.mem_append_right _ (List.mem_append_right _ (List.mem_append_right _ (List.mem_append_right _ h)))
theorem lyX0_0 : (Jvm.Cond.laysFinal "HexTable$Board" "HexTable$Board" "size" "I") ∈ gt := gt_of (in_1 (List.mem_of_getElem? (i := 51) (by decide +kernel))) rfl
theorem lyX0_1 : (Jvm.Cond.laysFinal "HexTable$Board" "HexTable$Board" "stones" "[I") ∈ gt := gt_of (in_1 (List.mem_of_getElem? (i := 53) (by decide +kernel))) rfl
theorem lyX0_2 : (Jvm.Cond.laysFinal "HexTable$Board" "HexTable$Board" "near" "[I") ∈ gt := gt_of (in_1 (List.mem_of_getElem? (i := 55) (by decide +kernel))) rfl
theorem lyX0_3 : (Jvm.Cond.laysFinal "HexTable$Board" "HexTable$Board" "edges" "[I") ∈ gt := gt_of (in_1 (List.mem_of_getElem? (i := 57) (by decide +kernel))) rfl
theorem lyX0_4 : (Jvm.Cond.laysFinal "HexTable$Board" "HexTable$Board" "marks" "[I") ∈ gt := gt_of (in_1 (List.mem_of_getElem? (i := 59) (by decide +kernel))) rfl
theorem lyX0_5 : (Jvm.Cond.laysFinal "HexTable$Board" "HexTable$Board" "stack" "[I") ∈ gt := gt_of (in_1 (List.mem_of_getElem? (i := 61) (by decide +kernel))) rfl
theorem inX0 : ∀ w ∈ u_ws "HexTable$Board" TX0 6, w ∈ gt := List.forall_mem_cons.mpr ⟨lyX0_0, List.forall_mem_cons.mpr ⟨lyX0_1, List.forall_mem_cons.mpr ⟨lyX0_2, List.forall_mem_cons.mpr ⟨lyX0_3, List.forall_mem_cons.mpr ⟨lyX0_4, List.forall_mem_cons.mpr ⟨lyX0_5, fun w h => absurd h List.not_mem_nil⟩⟩⟩⟩⟩⟩
theorem lyX1_0 : (Jvm.Cond.laysFinal "HexTable$Checker" "HexTable$Checker" "bench" "LHexTable$Board;") ∈ gt := gt_of (in_1 (List.mem_of_getElem? (i := 197) (by decide +kernel))) rfl
theorem lyX1_1 : (Jvm.Cond.laysFinal "HexTable$Checker" "HexTable$Checker" "tree" "LHexTable$Entries;") ∈ gt := gt_of (in_1 (List.mem_of_getElem? (i := 199) (by decide +kernel))) rfl
theorem lyX1_2 : (Jvm.Cond.lays "HexTable$Checker" "HexTable$Checker" "behind" "[I") ∈ gt := gt_of (in_1 (List.mem_of_getElem? (i := 201) (by decide +kernel))) rfl
theorem lyX1_3 : (Jvm.Cond.lays "HexTable$Checker" "HexTable$Checker" "nextOne" "[I") ∈ gt := gt_of (in_1 (List.mem_of_getElem? (i := 203) (by decide +kernel))) rfl
theorem lyX1_4 : (Jvm.Cond.lays "HexTable$Checker" "HexTable$Checker" "side" "I") ∈ gt := gt_of (in_1 (List.mem_of_getElem? (i := 205) (by decide +kernel))) rfl
theorem lyX1_5 : (Jvm.Cond.lays "HexTable$Checker" "HexTable$Checker" "mover" "I") ∈ gt := gt_of (in_1 (List.mem_of_getElem? (i := 207) (by decide +kernel))) rfl
theorem inX1 : ∀ w ∈ u_ws "HexTable$Checker" TX1 6, w ∈ gt := List.forall_mem_cons.mpr ⟨lyX1_0, List.forall_mem_cons.mpr ⟨lyX1_1, List.forall_mem_cons.mpr ⟨lyX1_2, List.forall_mem_cons.mpr ⟨lyX1_3, List.forall_mem_cons.mpr ⟨lyX1_4, List.forall_mem_cons.mpr ⟨lyX1_5, fun w h => absurd h List.not_mem_nil⟩⟩⟩⟩⟩⟩
theorem lyX2_0 : (Jvm.Cond.lays "HexTable$Entries" "HexTable$Entries" "ahead" "[I") ∈ gt := gt_of (in_1 (List.mem_of_getElem? (i := 158) (by decide +kernel))) rfl
theorem lyX2_1 : (Jvm.Cond.lays "HexTable$Entries" "HexTable$Entries" "cells" "[I") ∈ gt := gt_of (in_1 (List.mem_of_getElem? (i := 160) (by decide +kernel))) rfl
theorem lyX2_2 : (Jvm.Cond.lays "HexTable$Entries" "HexTable$Entries" "count" "I") ∈ gt := gt_of (in_1 (List.mem_of_getElem? (i := 162) (by decide +kernel))) rfl
theorem inX2 : ∀ w ∈ u_ws "HexTable$Entries" TX2 3, w ∈ gt := List.forall_mem_cons.mpr ⟨lyX2_0, List.forall_mem_cons.mpr ⟨lyX2_1, List.forall_mem_cons.mpr ⟨lyX2_2, fun w h => absurd h List.not_mem_nil⟩⟩⟩
theorem lyX3_0 : (Jvm.Cond.lays "HexTable$Nodes" "HexTable$Nodes" "cells" "[I") ∈ gt := gt_of (in_1 (List.mem_of_getElem? (i := 126) (by decide +kernel))) rfl
theorem lyX3_1 : (Jvm.Cond.lays "HexTable$Nodes" "HexTable$Nodes" "ahead" "[I") ∈ gt := gt_of (in_1 (List.mem_of_getElem? (i := 128) (by decide +kernel))) rfl
theorem lyX3_2 : (Jvm.Cond.lays "HexTable$Nodes" "HexTable$Nodes" "proof" "[I") ∈ gt := gt_of (in_1 (List.mem_of_getElem? (i := 130) (by decide +kernel))) rfl
theorem lyX3_3 : (Jvm.Cond.lays "HexTable$Nodes" "HexTable$Nodes" "disproof" "[I") ∈ gt := gt_of (in_1 (List.mem_of_getElem? (i := 132) (by decide +kernel))) rfl
theorem lyX3_4 : (Jvm.Cond.lays "HexTable$Nodes" "HexTable$Nodes" "child" "[I") ∈ gt := gt_of (in_1 (List.mem_of_getElem? (i := 134) (by decide +kernel))) rfl
theorem lyX3_5 : (Jvm.Cond.lays "HexTable$Nodes" "HexTable$Nodes" "children" "[I") ∈ gt := gt_of (in_1 (List.mem_of_getElem? (i := 136) (by decide +kernel))) rfl
theorem lyX3_6 : (Jvm.Cond.lays "HexTable$Nodes" "HexTable$Nodes" "count" "I") ∈ gt := gt_of (in_1 (List.mem_of_getElem? (i := 138) (by decide +kernel))) rfl
theorem inX3 : ∀ w ∈ u_ws "HexTable$Nodes" TX3 7, w ∈ gt := List.forall_mem_cons.mpr ⟨lyX3_0, List.forall_mem_cons.mpr ⟨lyX3_1, List.forall_mem_cons.mpr ⟨lyX3_2, List.forall_mem_cons.mpr ⟨lyX3_3, List.forall_mem_cons.mpr ⟨lyX3_4, List.forall_mem_cons.mpr ⟨lyX3_5, List.forall_mem_cons.mpr ⟨lyX3_6, fun w h => absurd h List.not_mem_nil⟩⟩⟩⟩⟩⟩⟩
theorem lyX4_0 : (Jvm.Cond.laysFinal "HexTable$Seeker" "HexTable$Seeker" "bench" "LHexTable$Board;") ∈ gt := gt_of (in_1 (List.mem_of_getElem? (i := 172) (by decide +kernel))) rfl
theorem lyX4_1 : (Jvm.Cond.laysFinal "HexTable$Seeker" "HexTable$Seeker" "nodes" "LHexTable$Nodes;") ∈ gt := gt_of (in_1 (List.mem_of_getElem? (i := 174) (by decide +kernel))) rfl
theorem lyX4_2 : (Jvm.Cond.laysFinal "HexTable$Seeker" "HexTable$Seeker" "plan" "LHexTable$Entries;") ∈ gt := gt_of (in_1 (List.mem_of_getElem? (i := 176) (by decide +kernel))) rfl
theorem lyX4_3 : (Jvm.Cond.lays "HexTable$Seeker" "HexTable$Seeker" "first" "I") ∈ gt := gt_of (in_1 (List.mem_of_getElem? (i := 178) (by decide +kernel))) rfl
theorem lyX4_4 : (Jvm.Cond.lays "HexTable$Seeker" "HexTable$Seeker" "mover" "I") ∈ gt := gt_of (in_1 (List.mem_of_getElem? (i := 180) (by decide +kernel))) rfl
theorem inX4 : ∀ w ∈ u_ws "HexTable$Seeker" TX4 5, w ∈ gt := List.forall_mem_cons.mpr ⟨lyX4_0, List.forall_mem_cons.mpr ⟨lyX4_1, List.forall_mem_cons.mpr ⟨lyX4_2, List.forall_mem_cons.mpr ⟨lyX4_3, List.forall_mem_cons.mpr ⟨lyX4_4, fun w h => absurd h List.not_mem_nil⟩⟩⟩⟩⟩
theorem lyX5_0 : (Jvm.Cond.laysFinal "HexTable$Walker" "HexTable$Walker" "board" "LHexTable$Board;") ∈ gt := gt_of (in_1 (List.mem_of_getElem? (i := 82) (by decide +kernel))) rfl
theorem lyX5_1 : (Jvm.Cond.lays "HexTable$Walker" "HexTable$Walker" "oneX" "I") ∈ gt := gt_of (in_1 (List.mem_of_getElem? (i := 84) (by decide +kernel))) rfl
theorem lyX5_2 : (Jvm.Cond.lays "HexTable$Walker" "HexTable$Walker" "oneY" "I") ∈ gt := gt_of (in_1 (List.mem_of_getElem? (i := 86) (by decide +kernel))) rfl
theorem lyX5_3 : (Jvm.Cond.lays "HexTable$Walker" "HexTable$Walker" "twoX" "I") ∈ gt := gt_of (in_1 (List.mem_of_getElem? (i := 88) (by decide +kernel))) rfl
theorem lyX5_4 : (Jvm.Cond.lays "HexTable$Walker" "HexTable$Walker" "twoY" "I") ∈ gt := gt_of (in_1 (List.mem_of_getElem? (i := 90) (by decide +kernel))) rfl
theorem lyX5_5 : (Jvm.Cond.lays "HexTable$Walker" "HexTable$Walker" "thirdX" "I") ∈ gt := gt_of (in_1 (List.mem_of_getElem? (i := 92) (by decide +kernel))) rfl
theorem lyX5_6 : (Jvm.Cond.lays "HexTable$Walker" "HexTable$Walker" "thirdY" "I") ∈ gt := gt_of (in_1 (List.mem_of_getElem? (i := 94) (by decide +kernel))) rfl
theorem lyX5_7 : (Jvm.Cond.lays "HexTable$Walker" "HexTable$Walker" "thirdSide" "I") ∈ gt := gt_of (in_1 (List.mem_of_getElem? (i := 96) (by decide +kernel))) rfl
theorem inX5 : ∀ w ∈ u_ws "HexTable$Walker" TX5 8, w ∈ gt := List.forall_mem_cons.mpr ⟨lyX5_0, List.forall_mem_cons.mpr ⟨lyX5_1, List.forall_mem_cons.mpr ⟨lyX5_2, List.forall_mem_cons.mpr ⟨lyX5_3, List.forall_mem_cons.mpr ⟨lyX5_4, List.forall_mem_cons.mpr ⟨lyX5_5, List.forall_mem_cons.mpr ⟨lyX5_6, List.forall_mem_cons.mpr ⟨lyX5_7, fun w h => absurd h List.not_mem_nil⟩⟩⟩⟩⟩⟩⟩⟩
theorem lyX6_0 : (Jvm.Cond.laysFinal "HexTable" "HexTable" "board" "LHexTable$Board;") ∈ gt := gt_of (in_1 (List.mem_of_getElem? (i := 219) (by decide +kernel))) rfl
theorem lyX6_1 : (Jvm.Cond.laysFinal "HexTable" "HexTable" "bench" "LHexTable$Board;") ∈ gt := gt_of (in_1 (List.mem_of_getElem? (i := 221) (by decide +kernel))) rfl
theorem lyX6_2 : (Jvm.Cond.laysFinal "HexTable" "HexTable" "walker" "LHexTable$Walker;") ∈ gt := gt_of (in_1 (List.mem_of_getElem? (i := 223) (by decide +kernel))) rfl
theorem lyX6_3 : (Jvm.Cond.laysFinal "HexTable" "HexTable" "seeker" "LHexTable$Seeker;") ∈ gt := gt_of (in_1 (List.mem_of_getElem? (i := 225) (by decide +kernel))) rfl
theorem lyX6_4 : (Jvm.Cond.laysFinal "HexTable" "HexTable" "tree" "LHexTable$Entries;") ∈ gt := gt_of (in_1 (List.mem_of_getElem? (i := 227) (by decide +kernel))) rfl
theorem lyX6_5 : (Jvm.Cond.laysFinal "HexTable" "HexTable" "checker" "LHexTable$Checker;") ∈ gt := gt_of (in_1 (List.mem_of_getElem? (i := 229) (by decide +kernel))) rfl
theorem lyX6_6 : (Jvm.Cond.laysFinal "HexTable" "HexTable" "plays" "[I") ∈ gt := gt_of (in_1 (List.mem_of_getElem? (i := 231) (by decide +kernel))) rfl
theorem lyX6_7 : (Jvm.Cond.lays "HexTable" "HexTable" "playCount" "I") ∈ gt := gt_of (in_1 (List.mem_of_getElem? (i := 233) (by decide +kernel))) rfl
theorem lyX6_8 : (Jvm.Cond.lays "HexTable" "HexTable" "mover" "I") ∈ gt := gt_of (in_1 (List.mem_of_getElem? (i := 235) (by decide +kernel))) rfl
theorem inX6 : ∀ w ∈ u_ws "HexTable" TX6 9, w ∈ gt := List.forall_mem_cons.mpr ⟨lyX6_0, List.forall_mem_cons.mpr ⟨lyX6_1, List.forall_mem_cons.mpr ⟨lyX6_2, List.forall_mem_cons.mpr ⟨lyX6_3, List.forall_mem_cons.mpr ⟨lyX6_4, List.forall_mem_cons.mpr ⟨lyX6_5, List.forall_mem_cons.mpr ⟨lyX6_6, List.forall_mem_cons.mpr ⟨lyX6_7, List.forall_mem_cons.mpr ⟨lyX6_8, fun w h => absurd h List.not_mem_nil⟩⟩⟩⟩⟩⟩⟩⟩⟩
theorem lyX7_0 : (Jvm.Cond.laysFinal "HexTableModel" "HexTableModel" "board" "[B") ∈ gt := gt_of (in_3 (List.mem_of_getElem? (i := 111) (by decide +kernel))) rfl
theorem lyX7_1 : (Jvm.Cond.lays "HexTableModel" "HexTableModel" "size" "I") ∈ gt := gt_of (in_3 (List.mem_of_getElem? (i := 113) (by decide +kernel))) rfl
theorem lyX7_2 : (Jvm.Cond.lays "HexTableModel" "HexTableModel" "cells" "I") ∈ gt := gt_of (in_3 (List.mem_of_getElem? (i := 115) (by decide +kernel))) rfl
theorem lyX7_3 : (Jvm.Cond.lays "HexTableModel" "HexTableModel" "turn" "I") ∈ gt := gt_of (in_3 (List.mem_of_getElem? (i := 117) (by decide +kernel))) rfl
theorem lyX7_4 : (Jvm.Cond.lays "HexTableModel" "HexTableModel" "plays" "I") ∈ gt := gt_of (in_3 (List.mem_of_getElem? (i := 119) (by decide +kernel))) rfl
theorem lyX7_5 : (Jvm.Cond.laysFinal "HexTableModel" "HexTableModel" "played" "[I") ∈ gt := gt_of (in_3 (List.mem_of_getElem? (i := 121) (by decide +kernel))) rfl
theorem lyX7_6 : (Jvm.Cond.laysFinal "HexTableModel" "HexTableModel" "cellOf" "[I") ∈ gt := gt_of (in_3 (List.mem_of_getElem? (i := 123) (by decide +kernel))) rfl
theorem lyX7_7 : (Jvm.Cond.laysFinal "HexTableModel" "HexTableModel" "ahead" "[I") ∈ gt := gt_of (in_3 (List.mem_of_getElem? (i := 125) (by decide +kernel))) rfl
theorem lyX7_8 : (Jvm.Cond.laysFinal "HexTableModel" "HexTableModel" "proof" "[I") ∈ gt := gt_of (in_3 (List.mem_of_getElem? (i := 127) (by decide +kernel))) rfl
theorem lyX7_9 : (Jvm.Cond.laysFinal "HexTableModel" "HexTableModel" "disproof" "[I") ∈ gt := gt_of (in_3 (List.mem_of_getElem? (i := 129) (by decide +kernel))) rfl
theorem lyX7_10 : (Jvm.Cond.laysFinal "HexTableModel" "HexTableModel" "child" "[I") ∈ gt := gt_of (in_3 (List.mem_of_getElem? (i := 131) (by decide +kernel))) rfl
theorem lyX7_11 : (Jvm.Cond.laysFinal "HexTableModel" "HexTableModel" "many" "[I") ∈ gt := gt_of (in_3 (List.mem_of_getElem? (i := 133) (by decide +kernel))) rfl
theorem lyX7_12 : (Jvm.Cond.lays "HexTableModel" "HexTableModel" "nodes" "I") ∈ gt := gt_of (in_3 (List.mem_of_getElem? (i := 135) (by decide +kernel))) rfl
theorem lyX7_13 : (Jvm.Cond.lays "HexTableModel" "HexTableModel" "budgetOf" "I") ∈ gt := gt_of (in_3 (List.mem_of_getElem? (i := 137) (by decide +kernel))) rfl
theorem lyX7_14 : (Jvm.Cond.lays "HexTableModel" "HexTableModel" "wins" "I") ∈ gt := gt_of (in_3 (List.mem_of_getElem? (i := 139) (by decide +kernel))) rfl
theorem lyX7_15 : (Jvm.Cond.laysFinal "HexTableModel" "HexTableModel" "strategyAhead" "[I") ∈ gt := gt_of (in_3 (List.mem_of_getElem? (i := 141) (by decide +kernel))) rfl
theorem lyX7_16 : (Jvm.Cond.laysFinal "HexTableModel" "HexTableModel" "strategyCell" "[I") ∈ gt := gt_of (in_3 (List.mem_of_getElem? (i := 143) (by decide +kernel))) rfl
theorem lyX7_17 : (Jvm.Cond.lays "HexTableModel" "HexTableModel" "entries" "I") ∈ gt := gt_of (in_3 (List.mem_of_getElem? (i := 145) (by decide +kernel))) rfl
theorem lyX7_18 : (Jvm.Cond.laysFinal "HexTableModel" "HexTableModel" "treeAhead" "[I") ∈ gt := gt_of (in_3 (List.mem_of_getElem? (i := 147) (by decide +kernel))) rfl
theorem lyX7_19 : (Jvm.Cond.laysFinal "HexTableModel" "HexTableModel" "treeCell" "[I") ∈ gt := gt_of (in_3 (List.mem_of_getElem? (i := 149) (by decide +kernel))) rfl
theorem lyX7_20 : (Jvm.Cond.lays "HexTableModel" "HexTableModel" "planted" "I") ∈ gt := gt_of (in_3 (List.mem_of_getElem? (i := 151) (by decide +kernel))) rfl
theorem lyX7_21 : (Jvm.Cond.laysFinal "HexTableModel" "HexTableModel" "seen" "[Z") ∈ gt := gt_of (in_3 (List.mem_of_getElem? (i := 153) (by decide +kernel))) rfl
theorem lyX7_22 : (Jvm.Cond.laysFinal "HexTableModel" "HexTableModel" "wave" "[I") ∈ gt := gt_of (in_3 (List.mem_of_getElem? (i := 155) (by decide +kernel))) rfl
theorem lyX7_23 : (Jvm.Cond.lays "HexTableModel" "HexTableModel" "waves" "I") ∈ gt := gt_of (in_3 (List.mem_of_getElem? (i := 157) (by decide +kernel))) rfl
theorem lyX7_24 : (Jvm.Cond.lays "HexTableModel" "HexTableModel" "ax" "I") ∈ gt := gt_of (in_3 (List.mem_of_getElem? (i := 159) (by decide +kernel))) rfl
theorem lyX7_25 : (Jvm.Cond.lays "HexTableModel" "HexTableModel" "ay" "I") ∈ gt := gt_of (in_3 (List.mem_of_getElem? (i := 161) (by decide +kernel))) rfl
theorem lyX7_26 : (Jvm.Cond.lays "HexTableModel" "HexTableModel" "bx" "I") ∈ gt := gt_of (in_3 (List.mem_of_getElem? (i := 163) (by decide +kernel))) rfl
theorem lyX7_27 : (Jvm.Cond.lays "HexTableModel" "HexTableModel" "by" "I") ∈ gt := gt_of (in_3 (List.mem_of_getElem? (i := 165) (by decide +kernel))) rfl
theorem lyX7_28 : (Jvm.Cond.lays "HexTableModel" "HexTableModel" "fx" "I") ∈ gt := gt_of (in_3 (List.mem_of_getElem? (i := 167) (by decide +kernel))) rfl
theorem lyX7_29 : (Jvm.Cond.lays "HexTableModel" "HexTableModel" "fy" "I") ∈ gt := gt_of (in_3 (List.mem_of_getElem? (i := 169) (by decide +kernel))) rfl
theorem lyX7_30 : (Jvm.Cond.lays "HexTableModel" "HexTableModel" "tx" "I") ∈ gt := gt_of (in_3 (List.mem_of_getElem? (i := 171) (by decide +kernel))) rfl
theorem lyX7_31 : (Jvm.Cond.lays "HexTableModel" "HexTableModel" "ty" "I") ∈ gt := gt_of (in_3 (List.mem_of_getElem? (i := 173) (by decide +kernel))) rfl
theorem lyX7_32 : (Jvm.Cond.lays "HexTableModel" "HexTableModel" "first" "I") ∈ gt := gt_of (in_3 (List.mem_of_getElem? (i := 175) (by decide +kernel))) rfl
theorem lyX7_33 : (Jvm.Cond.laysFinal "HexTableModel" "HexTableModel" "open" "[I") ∈ gt := gt_of (in_3 (List.mem_of_getElem? (i := 177) (by decide +kernel))) rfl
theorem lyX7_34 : (Jvm.Cond.laysFinal "HexTableModel" "HexTableModel" "behind" "[I") ∈ gt := gt_of (in_3 (List.mem_of_getElem? (i := 179) (by decide +kernel))) rfl
theorem lyX7_35 : (Jvm.Cond.laysFinal "HexTableModel" "HexTableModel" "heir" "[I") ∈ gt := gt_of (in_3 (List.mem_of_getElem? (i := 181) (by decide +kernel))) rfl
theorem lyX7_36 : (Jvm.Cond.laysFinal "HexTableModel" "HexTableModel" "beside" "[I") ∈ gt := gt_of (in_3 (List.mem_of_getElem? (i := 183) (by decide +kernel))) rfl
theorem lyX7_37 : (Jvm.Cond.laysFinal "HexTableModel" "HexTableModel" "wave2" "[I") ∈ gt := gt_of (in_3 (List.mem_of_getElem? (i := 185) (by decide +kernel))) rfl
theorem inX7 : ∀ w ∈ u_ws "HexTableModel" TX7 38, w ∈ gt := List.forall_mem_cons.mpr ⟨lyX7_0, List.forall_mem_cons.mpr ⟨lyX7_1, List.forall_mem_cons.mpr ⟨lyX7_2, List.forall_mem_cons.mpr ⟨lyX7_3, List.forall_mem_cons.mpr ⟨lyX7_4, List.forall_mem_cons.mpr ⟨lyX7_5, List.forall_mem_cons.mpr ⟨lyX7_6, List.forall_mem_cons.mpr ⟨lyX7_7, List.forall_mem_cons.mpr ⟨lyX7_8, List.forall_mem_cons.mpr ⟨lyX7_9, List.forall_mem_cons.mpr ⟨lyX7_10, List.forall_mem_cons.mpr ⟨lyX7_11, List.forall_mem_cons.mpr ⟨lyX7_12, List.forall_mem_cons.mpr ⟨lyX7_13, List.forall_mem_cons.mpr ⟨lyX7_14, List.forall_mem_cons.mpr ⟨lyX7_15, List.forall_mem_cons.mpr ⟨lyX7_16, List.forall_mem_cons.mpr ⟨lyX7_17, List.forall_mem_cons.mpr ⟨lyX7_18, List.forall_mem_cons.mpr ⟨lyX7_19, List.forall_mem_cons.mpr ⟨lyX7_20, List.forall_mem_cons.mpr ⟨lyX7_21, List.forall_mem_cons.mpr ⟨lyX7_22, List.forall_mem_cons.mpr ⟨lyX7_23, List.forall_mem_cons.mpr ⟨lyX7_24, List.forall_mem_cons.mpr ⟨lyX7_25, List.forall_mem_cons.mpr ⟨lyX7_26, List.forall_mem_cons.mpr ⟨lyX7_27, List.forall_mem_cons.mpr ⟨lyX7_28, List.forall_mem_cons.mpr ⟨lyX7_29, List.forall_mem_cons.mpr ⟨lyX7_30, List.forall_mem_cons.mpr ⟨lyX7_31, List.forall_mem_cons.mpr ⟨lyX7_32, List.forall_mem_cons.mpr ⟨lyX7_33, List.forall_mem_cons.mpr ⟨lyX7_34, List.forall_mem_cons.mpr ⟨lyX7_35, List.forall_mem_cons.mpr ⟨lyX7_36, List.forall_mem_cons.mpr ⟨lyX7_37, fun w h => absurd h List.not_mem_nil⟩⟩⟩⟩⟩⟩⟩⟩⟩⟩⟩⟩⟩⟩⟩⟩⟩⟩⟩⟩⟩⟩⟩⟩⟩⟩⟩⟩⟩⟩⟩⟩⟩⟩⟩⟩⟩⟩
theorem wd_1_0 : (Jvm.Cond.initialized "HexTableLaw") ∈ gt := gt_of (in_1 (List.mem_of_getElem? (i := 0) (by decide +kernel))) rfl
theorem wd_1_1 : (Jvm.Cond.initialized "HexTable") ∈ gt := gt_of (in_1 (List.mem_of_getElem? (i := 1) (by decide +kernel))) rfl
theorem wd_1_2 : (Jvm.Cond.initialized "java/lang/Math") ∈ gt := gt_of (in_1 (List.mem_of_getElem? (i := 2) (by decide +kernel))) rfl
theorem wd_1_3 : (Jvm.Cond.initialized "HexTable$Board") ∈ gt := gt_of (in_1 (List.mem_of_getElem? (i := 3) (by decide +kernel))) rfl
theorem wd_1_4 : (Jvm.Cond.initialized "HexTable$Walker") ∈ gt := gt_of (in_1 (List.mem_of_getElem? (i := 4) (by decide +kernel))) rfl
theorem wd_1_5 : (Jvm.Cond.initialized "HexTable$Seeker") ∈ gt := gt_of (in_1 (List.mem_of_getElem? (i := 5) (by decide +kernel))) rfl
theorem wd_1_6 : (Jvm.Cond.initialized "HexTable$Nodes") ∈ gt := gt_of (in_1 (List.mem_of_getElem? (i := 6) (by decide +kernel))) rfl
theorem wd_1_7 : (Jvm.Cond.initialized "HexTable$Entries") ∈ gt := gt_of (in_1 (List.mem_of_getElem? (i := 7) (by decide +kernel))) rfl
theorem wd_1_8 : (Jvm.Cond.initialized "HexTable$Checker") ∈ gt := gt_of (in_1 (List.mem_of_getElem? (i := 8) (by decide +kernel))) rfl
theorem wd_1_9 : (Jvm.Cond.initialized "HexTableModel") ∈ gt := gt_of (in_1 (List.mem_of_getElem? (i := 9) (by decide +kernel))) rfl
theorem wd_1_10 : (Jvm.Cond.initialized "java/util/Arrays") ∈ gt := gt_of (in_1 (List.mem_of_getElem? (i := 10) (by decide +kernel))) rfl
theorem wd_1_11 : (Jvm.Cond.initialized "java/lang/System") ∈ gt := gt_of (in_1 (List.mem_of_getElem? (i := 11) (by decide +kernel))) rfl
theorem wd_1_12 : (Jvm.Cond.classLink "HexTableLaw" (7 : Nat) "HexTable") ∈ gt := gt_of (in_1 (List.mem_of_getElem? (i := 12) (by decide +kernel))) rfl
theorem wd_1_13 : (Jvm.Cond.instantiable "HexTable" (9 : Nat)) ∈ gt := gt_of (in_1 (List.mem_of_getElem? (i := 13) (by decide +kernel))) rfl
theorem wd_1_14 : (Jvm.Cond.methodLink "HexTableLaw" (15 : Nat) ({ cls := "HexTable", name := "<init>", desc := "(I)V" } : Jvm.MethodName)) ∈ gt := gt_of (in_1 (List.mem_of_getElem? (i := 14) (by decide +kernel))) rfl
theorem wd_1_15 : (Jvm.Cond.instanceMethod ({ cls := "HexTable", name := "<init>", desc := "(I)V" } : Jvm.MethodName)) ∈ gt := gt_of (in_1 (List.mem_of_getElem? (i := 15) (by decide +kernel))) rfl
theorem wd_1_16 : (Jvm.Cond.code ({ cls := "HexTable", name := "<init>", desc := "(I)V" } : Jvm.MethodName) prog_1_method_1_code (3 : Nat) (Option.none : Option Jvm.ClassFile.FieldType)) ∈ gt := gt_of (in_1 (List.mem_of_getElem? (i := 16) (by decide +kernel))) rfl
theorem wd_1_17 : (Jvm.Cond.methodLink "HexTable" (3 : Nat) ({ cls := "java/lang/Object", name := "<init>", desc := "()V" } : Jvm.MethodName)) ∈ gt := gt_of (in_1 (List.mem_of_getElem? (i := 17) (by decide +kernel))) rfl
theorem wd_1_18 : (Jvm.Cond.instanceMethod ({ cls := "java/lang/Object", name := "<init>", desc := "()V" } : Jvm.MethodName)) ∈ gt := gt_of (in_1 (List.mem_of_getElem? (i := 18) (by decide +kernel))) rfl
theorem wd_1_19 : (Jvm.Cond.code ({ cls := "java/lang/Object", name := "<init>", desc := "()V" } : Jvm.MethodName) object_method_1_code (1 : Nat) (Option.none : Option Jvm.ClassFile.FieldType)) ∈ gt := gt_of (in_1 (List.mem_of_getElem? (i := 19) (by decide +kernel))) rfl
theorem wd_1_20 : (Jvm.Cond.methodLink "HexTable" (9 : Nat) ({ cls := "java/lang/Math", name := "min", desc := "(II)I" } : Jvm.MethodName)) ∈ gt := gt_of (in_1 (List.mem_of_getElem? (i := 20) (by decide +kernel))) rfl
theorem wd_1_21 : (Jvm.Cond.static ({ cls := "java/lang/Math", name := "min", desc := "(II)I" } : Jvm.MethodName)) ∈ gt := gt_of (in_1 (List.mem_of_getElem? (i := 21) (by decide +kernel))) rfl
theorem wd_1_22 : (Jvm.Cond.code ({ cls := "java/lang/Math", name := "min", desc := "(II)I" } : Jvm.MethodName) prog_11_method_69_code (2 : Nat) (Option.some Jvm.ClassFile.FieldType.int)) ∈ gt := gt_of (in_1 (List.mem_of_getElem? (i := 22) (by decide +kernel))) rfl
theorem wd_1_23 : (Jvm.Cond.methodLink "HexTable" (15 : Nat) ({ cls := "java/lang/Math", name := "max", desc := "(II)I" } : Jvm.MethodName)) ∈ gt := gt_of (in_1 (List.mem_of_getElem? (i := 23) (by decide +kernel))) rfl
theorem wd_1_24 : (Jvm.Cond.static ({ cls := "java/lang/Math", name := "max", desc := "(II)I" } : Jvm.MethodName)) ∈ gt := gt_of (in_1 (List.mem_of_getElem? (i := 24) (by decide +kernel))) rfl
theorem wd_1_25 : (Jvm.Cond.code ({ cls := "java/lang/Math", name := "max", desc := "(II)I" } : Jvm.MethodName) prog_11_method_65_code (2 : Nat) (Option.some Jvm.ClassFile.FieldType.int)) ∈ gt := gt_of (in_1 (List.mem_of_getElem? (i := 25) (by decide +kernel))) rfl
theorem wd_1_26 : (Jvm.Cond.classLink "HexTable" (18 : Nat) "HexTable$Board") ∈ gt := gt_of (in_1 (List.mem_of_getElem? (i := 26) (by decide +kernel))) rfl
theorem wd_1_27 : (Jvm.Cond.instantiable "HexTable$Board" (6 : Nat)) ∈ gt := gt_of (in_1 (List.mem_of_getElem? (i := 27) (by decide +kernel))) rfl
theorem wd_1_28 : (Jvm.Cond.methodLink "HexTable" (20 : Nat) ({ cls := "HexTable$Board", name := "<init>", desc := "(I)V" } : Jvm.MethodName)) ∈ gt := gt_of (in_1 (List.mem_of_getElem? (i := 28) (by decide +kernel))) rfl
theorem wd_1_29 : (Jvm.Cond.instanceMethod ({ cls := "HexTable$Board", name := "<init>", desc := "(I)V" } : Jvm.MethodName)) ∈ gt := gt_of (in_1 (List.mem_of_getElem? (i := 29) (by decide +kernel))) rfl
theorem wd_1_30 : (Jvm.Cond.code ({ cls := "HexTable$Board", name := "<init>", desc := "(I)V" } : Jvm.MethodName) prog_2_method_1_code (7 : Nat) (Option.none : Option Jvm.ClassFile.FieldType)) ∈ gt := gt_of (in_1 (List.mem_of_getElem? (i := 30) (by decide +kernel))) rfl
theorem wd_1_31 : (Jvm.Cond.methodLink "HexTable$Board" (3 : Nat) ({ cls := "java/lang/Object", name := "<init>", desc := "()V" } : Jvm.MethodName)) ∈ gt := gt_of (in_1 (List.mem_of_getElem? (i := 31) (by decide +kernel))) rfl
theorem wd_1_32 : (Jvm.Cond.methodLink "HexTable$Board" (31 : Nat) ({ cls := "HexTable$Board", name := "edgeMarks", desc := "(II)I" } : Jvm.MethodName)) ∈ gt := gt_of (in_1 (List.mem_of_getElem? (i := 32) (by decide +kernel))) rfl
theorem wd_1_33 : (Jvm.Cond.static ({ cls := "HexTable$Board", name := "edgeMarks", desc := "(II)I" } : Jvm.MethodName)) ∈ gt := gt_of (in_1 (List.mem_of_getElem? (i := 33) (by decide +kernel))) rfl
theorem wd_1_34 : (Jvm.Cond.code ({ cls := "HexTable$Board", name := "edgeMarks", desc := "(II)I" } : Jvm.MethodName) prog_2_method_2_code (2 : Nat) (Option.some Jvm.ClassFile.FieldType.int)) ∈ gt := gt_of (in_1 (List.mem_of_getElem? (i := 34) (by decide +kernel))) rfl
theorem wd_1_35 : (Jvm.Cond.fieldLink "HexTable$Board" (35 : Nat) "HexTable$Board" "AROUND_X" "[I") ∈ gt := gt_of (in_1 (List.mem_of_getElem? (i := 35) (by decide +kernel))) rfl
theorem wd_1_37 : (Jvm.Cond.fieldLink "HexTable$Board" (38 : Nat) "HexTable$Board" "AROUND_Y" "[I") ∈ gt := gt_of (in_1 (List.mem_of_getElem? (i := 37) (by decide +kernel))) rfl
theorem wd_1_39 : (Jvm.Cond.methodLink "HexTable$Board" (41 : Nat) ({ cls := "HexTable$Board", name := "numberIn", desc := "(III)I" } : Jvm.MethodName)) ∈ gt := gt_of (in_1 (List.mem_of_getElem? (i := 39) (by decide +kernel))) rfl
theorem wd_1_40 : (Jvm.Cond.static ({ cls := "HexTable$Board", name := "numberIn", desc := "(III)I" } : Jvm.MethodName)) ∈ gt := gt_of (in_1 (List.mem_of_getElem? (i := 40) (by decide +kernel))) rfl
theorem wd_1_41 : (Jvm.Cond.code ({ cls := "HexTable$Board", name := "numberIn", desc := "(III)I" } : Jvm.MethodName) prog_2_method_3_code (3 : Nat) (Option.some Jvm.ClassFile.FieldType.int)) ∈ gt := gt_of (in_1 (List.mem_of_getElem? (i := 41) (by decide +kernel))) rfl
theorem wd_1_42 : (Jvm.Cond.fieldLink "HexTable$Board" (9 : Nat) "HexTable$Board" "size" "I") ∈ gt := gt_of (in_1 (List.mem_of_getElem? (i := 42) (by decide +kernel))) rfl
theorem wd_1_44 : (Jvm.Cond.fieldLink "HexTable$Board" (15 : Nat) "HexTable$Board" "stones" "[I") ∈ gt := gt_of (in_1 (List.mem_of_getElem? (i := 44) (by decide +kernel))) rfl
theorem wd_1_47 : (Jvm.Cond.fieldLink "HexTable$Board" (19 : Nat) "HexTable$Board" "near" "[I") ∈ gt := gt_of (in_1 (List.mem_of_getElem? (i := 47) (by decide +kernel))) rfl
theorem wd_1_48 : (Jvm.Cond.fieldLink "HexTable$Board" (22 : Nat) "HexTable$Board" "edges" "[I") ∈ gt := gt_of (in_1 (List.mem_of_getElem? (i := 48) (by decide +kernel))) rfl
theorem wd_1_49 : (Jvm.Cond.fieldLink "HexTable$Board" (25 : Nat) "HexTable$Board" "marks" "[I") ∈ gt := gt_of (in_1 (List.mem_of_getElem? (i := 49) (by decide +kernel))) rfl
theorem wd_1_50 : (Jvm.Cond.fieldLink "HexTable$Board" (28 : Nat) "HexTable$Board" "stack" "[I") ∈ gt := gt_of (in_1 (List.mem_of_getElem? (i := 50) (by decide +kernel))) rfl
theorem wd_1_64 : (Jvm.Cond.arrayClass Jvm.ClassFile.FieldType.int) ∈ gt := gt_of (in_1 (List.mem_of_getElem? (i := 64) (by decide +kernel))) rfl
theorem wd_1_65 : (Jvm.Cond.classLink "HexTable" (30 : Nat) "HexTable$Walker") ∈ gt := gt_of (in_1 (List.mem_of_getElem? (i := 65) (by decide +kernel))) rfl
theorem wd_1_66 : (Jvm.Cond.instantiable "HexTable$Walker" (8 : Nat)) ∈ gt := gt_of (in_1 (List.mem_of_getElem? (i := 66) (by decide +kernel))) rfl
theorem wd_1_67 : (Jvm.Cond.methodLink "HexTable" (32 : Nat) ({ cls := "HexTable$Walker", name := "<init>", desc := "(LHexTable$Board;)V" } : Jvm.MethodName)) ∈ gt := gt_of (in_1 (List.mem_of_getElem? (i := 67) (by decide +kernel))) rfl
theorem wd_1_68 : (Jvm.Cond.instanceMethod ({ cls := "HexTable$Walker", name := "<init>", desc := "(LHexTable$Board;)V" } : Jvm.MethodName)) ∈ gt := gt_of (in_1 (List.mem_of_getElem? (i := 68) (by decide +kernel))) rfl
theorem wd_1_69 : (Jvm.Cond.code ({ cls := "HexTable$Walker", name := "<init>", desc := "(LHexTable$Board;)V" } : Jvm.MethodName) prog_7_method_1_code (2 : Nat) (Option.none : Option Jvm.ClassFile.FieldType)) ∈ gt := gt_of (in_1 (List.mem_of_getElem? (i := 69) (by decide +kernel))) rfl
theorem wd_1_70 : (Jvm.Cond.methodLink "HexTable$Walker" (1 : Nat) ({ cls := "java/lang/Object", name := "<init>", desc := "()V" } : Jvm.MethodName)) ∈ gt := gt_of (in_1 (List.mem_of_getElem? (i := 70) (by decide +kernel))) rfl
theorem wd_1_71 : (Jvm.Cond.fieldLink "HexTable$Walker" (7 : Nat) "HexTable$Walker" "board" "LHexTable$Board;") ∈ gt := gt_of (in_1 (List.mem_of_getElem? (i := 71) (by decide +kernel))) rfl
theorem wd_1_72 : (Jvm.Cond.fieldLink "HexTable$Walker" (13 : Nat) "HexTable$Walker" "oneX" "I") ∈ gt := gt_of (in_1 (List.mem_of_getElem? (i := 72) (by decide +kernel))) rfl
theorem wd_1_73 : (Jvm.Cond.fieldLink "HexTable$Walker" (17 : Nat) "HexTable$Walker" "oneY" "I") ∈ gt := gt_of (in_1 (List.mem_of_getElem? (i := 73) (by decide +kernel))) rfl
theorem wd_1_74 : (Jvm.Cond.fieldLink "HexTable$Walker" (20 : Nat) "HexTable$Walker" "twoX" "I") ∈ gt := gt_of (in_1 (List.mem_of_getElem? (i := 74) (by decide +kernel))) rfl
theorem wd_1_75 : (Jvm.Cond.fieldLink "HexTable$Walker" (23 : Nat) "HexTable$Walker" "twoY" "I") ∈ gt := gt_of (in_1 (List.mem_of_getElem? (i := 75) (by decide +kernel))) rfl
theorem wd_1_76 : (Jvm.Cond.fieldLink "HexTable$Walker" (36 : Nat) "HexTable$Walker" "thirdX" "I") ∈ gt := gt_of (in_1 (List.mem_of_getElem? (i := 76) (by decide +kernel))) rfl
theorem wd_1_78 : (Jvm.Cond.fieldLink "HexTable$Walker" (39 : Nat) "HexTable$Walker" "thirdY" "I") ∈ gt := gt_of (in_1 (List.mem_of_getElem? (i := 78) (by decide +kernel))) rfl
theorem wd_1_80 : (Jvm.Cond.fieldLink "HexTable$Walker" (30 : Nat) "HexTable$Walker" "thirdSide" "I") ∈ gt := gt_of (in_1 (List.mem_of_getElem? (i := 80) (by decide +kernel))) rfl
theorem wd_1_99 : (Jvm.Cond.classLink "HexTable" (39 : Nat) "HexTable$Seeker") ∈ gt := gt_of (in_1 (List.mem_of_getElem? (i := 99) (by decide +kernel))) rfl
theorem wd_1_100 : (Jvm.Cond.instantiable "HexTable$Seeker" (5 : Nat)) ∈ gt := gt_of (in_1 (List.mem_of_getElem? (i := 100) (by decide +kernel))) rfl
theorem wd_1_101 : (Jvm.Cond.methodLink "HexTable" (41 : Nat) ({ cls := "HexTable$Seeker", name := "<init>", desc := "(LHexTable$Board;)V" } : Jvm.MethodName)) ∈ gt := gt_of (in_1 (List.mem_of_getElem? (i := 101) (by decide +kernel))) rfl
theorem wd_1_102 : (Jvm.Cond.instanceMethod ({ cls := "HexTable$Seeker", name := "<init>", desc := "(LHexTable$Board;)V" } : Jvm.MethodName)) ∈ gt := gt_of (in_1 (List.mem_of_getElem? (i := 102) (by decide +kernel))) rfl
theorem wd_1_103 : (Jvm.Cond.code ({ cls := "HexTable$Seeker", name := "<init>", desc := "(LHexTable$Board;)V" } : Jvm.MethodName) prog_6_method_1_code (2 : Nat) (Option.none : Option Jvm.ClassFile.FieldType)) ∈ gt := gt_of (in_1 (List.mem_of_getElem? (i := 103) (by decide +kernel))) rfl
theorem wd_1_104 : (Jvm.Cond.methodLink "HexTable$Seeker" (3 : Nat) ({ cls := "java/lang/Object", name := "<init>", desc := "()V" } : Jvm.MethodName)) ∈ gt := gt_of (in_1 (List.mem_of_getElem? (i := 104) (by decide +kernel))) rfl
theorem wd_1_105 : (Jvm.Cond.classLink "HexTable$Seeker" (9 : Nat) "HexTable$Nodes") ∈ gt := gt_of (in_1 (List.mem_of_getElem? (i := 105) (by decide +kernel))) rfl
theorem wd_1_106 : (Jvm.Cond.instantiable "HexTable$Nodes" (7 : Nat)) ∈ gt := gt_of (in_1 (List.mem_of_getElem? (i := 106) (by decide +kernel))) rfl
theorem wd_1_108 : (Jvm.Cond.instanceMethod ({ cls := "HexTable$Nodes", name := "<init>", desc := "()V" } : Jvm.MethodName)) ∈ gt := gt_of (in_1 (List.mem_of_getElem? (i := 108) (by decide +kernel))) rfl
theorem wd_1_109 : (Jvm.Cond.code ({ cls := "HexTable$Nodes", name := "<init>", desc := "()V" } : Jvm.MethodName) prog_5_method_1_code (1 : Nat) (Option.none : Option Jvm.ClassFile.FieldType)) ∈ gt := gt_of (in_1 (List.mem_of_getElem? (i := 109) (by decide +kernel))) rfl
theorem wd_1_110 : (Jvm.Cond.methodLink "HexTable$Nodes" (3 : Nat) ({ cls := "java/lang/Object", name := "<init>", desc := "()V" } : Jvm.MethodName)) ∈ gt := gt_of (in_1 (List.mem_of_getElem? (i := 110) (by decide +kernel))) rfl
theorem wd_1_111 : (Jvm.Cond.fieldLink "HexTable$Nodes" (9 : Nat) "HexTable$Nodes" "cells" "[I") ∈ gt := gt_of (in_1 (List.mem_of_getElem? (i := 111) (by decide +kernel))) rfl
theorem wd_1_113 : (Jvm.Cond.fieldLink "HexTable$Nodes" (15 : Nat) "HexTable$Nodes" "ahead" "[I") ∈ gt := gt_of (in_1 (List.mem_of_getElem? (i := 113) (by decide +kernel))) rfl
theorem wd_1_115 : (Jvm.Cond.fieldLink "HexTable$Nodes" (18 : Nat) "HexTable$Nodes" "proof" "[I") ∈ gt := gt_of (in_1 (List.mem_of_getElem? (i := 115) (by decide +kernel))) rfl
theorem wd_1_117 : (Jvm.Cond.fieldLink "HexTable$Nodes" (21 : Nat) "HexTable$Nodes" "disproof" "[I") ∈ gt := gt_of (in_1 (List.mem_of_getElem? (i := 117) (by decide +kernel))) rfl
theorem wd_1_119 : (Jvm.Cond.fieldLink "HexTable$Nodes" (24 : Nat) "HexTable$Nodes" "child" "[I") ∈ gt := gt_of (in_1 (List.mem_of_getElem? (i := 119) (by decide +kernel))) rfl
theorem wd_1_121 : (Jvm.Cond.fieldLink "HexTable$Nodes" (27 : Nat) "HexTable$Nodes" "children" "[I") ∈ gt := gt_of (in_1 (List.mem_of_getElem? (i := 121) (by decide +kernel))) rfl
theorem wd_1_123 : (Jvm.Cond.fieldLink "HexTable$Nodes" (30 : Nat) "HexTable$Nodes" "count" "I") ∈ gt := gt_of (in_1 (List.mem_of_getElem? (i := 123) (by decide +kernel))) rfl
theorem wd_1_141 : (Jvm.Cond.classLink "HexTable$Seeker" (18 : Nat) "HexTable$Entries") ∈ gt := gt_of (in_1 (List.mem_of_getElem? (i := 141) (by decide +kernel))) rfl
theorem wd_1_142 : (Jvm.Cond.instantiable "HexTable$Entries" (3 : Nat)) ∈ gt := gt_of (in_1 (List.mem_of_getElem? (i := 142) (by decide +kernel))) rfl
theorem wd_1_144 : (Jvm.Cond.instanceMethod ({ cls := "HexTable$Entries", name := "<init>", desc := "()V" } : Jvm.MethodName)) ∈ gt := gt_of (in_1 (List.mem_of_getElem? (i := 144) (by decide +kernel))) rfl
theorem wd_1_145 : (Jvm.Cond.code ({ cls := "HexTable$Entries", name := "<init>", desc := "()V" } : Jvm.MethodName) prog_4_method_1_code (1 : Nat) (Option.none : Option Jvm.ClassFile.FieldType)) ∈ gt := gt_of (in_1 (List.mem_of_getElem? (i := 145) (by decide +kernel))) rfl
theorem wd_1_146 : (Jvm.Cond.methodLink "HexTable$Entries" (3 : Nat) ({ cls := "java/lang/Object", name := "<init>", desc := "()V" } : Jvm.MethodName)) ∈ gt := gt_of (in_1 (List.mem_of_getElem? (i := 146) (by decide +kernel))) rfl
theorem wd_1_147 : (Jvm.Cond.fieldLink "HexTable$Entries" (9 : Nat) "HexTable$Entries" "ahead" "[I") ∈ gt := gt_of (in_1 (List.mem_of_getElem? (i := 147) (by decide +kernel))) rfl
theorem wd_1_151 : (Jvm.Cond.fieldLink "HexTable$Entries" (15 : Nat) "HexTable$Entries" "cells" "[I") ∈ gt := gt_of (in_1 (List.mem_of_getElem? (i := 151) (by decide +kernel))) rfl
theorem wd_1_154 : (Jvm.Cond.fieldLink "HexTable$Entries" (18 : Nat) "HexTable$Entries" "count" "I") ∈ gt := gt_of (in_1 (List.mem_of_getElem? (i := 154) (by decide +kernel))) rfl
theorem wd_1_165 : (Jvm.Cond.fieldLink "HexTable$Seeker" (32 : Nat) "HexTable$Seeker" "bench" "LHexTable$Board;") ∈ gt := gt_of (in_1 (List.mem_of_getElem? (i := 165) (by decide +kernel))) rfl
theorem wd_1_166 : (Jvm.Cond.fieldLink "HexTable$Seeker" (12 : Nat) "HexTable$Seeker" "nodes" "LHexTable$Nodes;") ∈ gt := gt_of (in_1 (List.mem_of_getElem? (i := 166) (by decide +kernel))) rfl
theorem wd_1_168 : (Jvm.Cond.fieldLink "HexTable$Seeker" (21 : Nat) "HexTable$Seeker" "plan" "LHexTable$Entries;") ∈ gt := gt_of (in_1 (List.mem_of_getElem? (i := 168) (by decide +kernel))) rfl
theorem wd_1_170 : (Jvm.Cond.fieldLink "HexTable$Seeker" (25 : Nat) "HexTable$Seeker" "first" "I") ∈ gt := gt_of (in_1 (List.mem_of_getElem? (i := 170) (by decide +kernel))) rfl
theorem wd_1_171 : (Jvm.Cond.fieldLink "HexTable$Seeker" (29 : Nat) "HexTable$Seeker" "mover" "I") ∈ gt := gt_of (in_1 (List.mem_of_getElem? (i := 171) (by decide +kernel))) rfl
theorem wd_1_183 : (Jvm.Cond.classLink "HexTable" (46 : Nat) "HexTable$Entries") ∈ gt := gt_of (in_1 (List.mem_of_getElem? (i := 183) (by decide +kernel))) rfl
theorem wd_1_185 : (Jvm.Cond.classLink "HexTable" (53 : Nat) "HexTable$Checker") ∈ gt := gt_of (in_1 (List.mem_of_getElem? (i := 185) (by decide +kernel))) rfl
theorem wd_1_186 : (Jvm.Cond.instantiable "HexTable$Checker" (6 : Nat)) ∈ gt := gt_of (in_1 (List.mem_of_getElem? (i := 186) (by decide +kernel))) rfl
theorem wd_1_187 : (Jvm.Cond.methodLink "HexTable" (55 : Nat) ({ cls := "HexTable$Checker", name := "<init>", desc := "(LHexTable$Board;LHexTable$Entries;)V" } : Jvm.MethodName)) ∈ gt := gt_of (in_1 (List.mem_of_getElem? (i := 187) (by decide +kernel))) rfl
theorem wd_1_188 : (Jvm.Cond.instanceMethod ({ cls := "HexTable$Checker", name := "<init>", desc := "(LHexTable$Board;LHexTable$Entries;)V" } : Jvm.MethodName)) ∈ gt := gt_of (in_1 (List.mem_of_getElem? (i := 188) (by decide +kernel))) rfl
theorem wd_1_189 : (Jvm.Cond.code ({ cls := "HexTable$Checker", name := "<init>", desc := "(LHexTable$Board;LHexTable$Entries;)V" } : Jvm.MethodName) prog_3_method_1_code (3 : Nat) (Option.none : Option Jvm.ClassFile.FieldType)) ∈ gt := gt_of (in_1 (List.mem_of_getElem? (i := 189) (by decide +kernel))) rfl
theorem wd_1_190 : (Jvm.Cond.methodLink "HexTable$Checker" (3 : Nat) ({ cls := "java/lang/Object", name := "<init>", desc := "()V" } : Jvm.MethodName)) ∈ gt := gt_of (in_1 (List.mem_of_getElem? (i := 190) (by decide +kernel))) rfl
theorem wd_1_191 : (Jvm.Cond.fieldLink "HexTable$Checker" (25 : Nat) "HexTable$Checker" "bench" "LHexTable$Board;") ∈ gt := gt_of (in_1 (List.mem_of_getElem? (i := 191) (by decide +kernel))) rfl
theorem wd_1_192 : (Jvm.Cond.fieldLink "HexTable$Checker" (29 : Nat) "HexTable$Checker" "tree" "LHexTable$Entries;") ∈ gt := gt_of (in_1 (List.mem_of_getElem? (i := 192) (by decide +kernel))) rfl
theorem wd_1_193 : (Jvm.Cond.fieldLink "HexTable$Checker" (9 : Nat) "HexTable$Checker" "behind" "[I") ∈ gt := gt_of (in_1 (List.mem_of_getElem? (i := 193) (by decide +kernel))) rfl
theorem wd_1_194 : (Jvm.Cond.fieldLink "HexTable$Checker" (15 : Nat) "HexTable$Checker" "nextOne" "[I") ∈ gt := gt_of (in_1 (List.mem_of_getElem? (i := 194) (by decide +kernel))) rfl
theorem wd_1_195 : (Jvm.Cond.fieldLink "HexTable$Checker" (18 : Nat) "HexTable$Checker" "side" "I") ∈ gt := gt_of (in_1 (List.mem_of_getElem? (i := 195) (by decide +kernel))) rfl
theorem wd_1_196 : (Jvm.Cond.fieldLink "HexTable$Checker" (22 : Nat) "HexTable$Checker" "mover" "I") ∈ gt := gt_of (in_1 (List.mem_of_getElem? (i := 196) (by decide +kernel))) rfl
theorem wd_1_210 : (Jvm.Cond.fieldLink "HexTable" (23 : Nat) "HexTable" "board" "LHexTable$Board;") ∈ gt := gt_of (in_1 (List.mem_of_getElem? (i := 210) (by decide +kernel))) rfl
theorem wd_1_211 : (Jvm.Cond.fieldLink "HexTable" (27 : Nat) "HexTable" "bench" "LHexTable$Board;") ∈ gt := gt_of (in_1 (List.mem_of_getElem? (i := 211) (by decide +kernel))) rfl
theorem wd_1_212 : (Jvm.Cond.fieldLink "HexTable" (35 : Nat) "HexTable" "walker" "LHexTable$Walker;") ∈ gt := gt_of (in_1 (List.mem_of_getElem? (i := 212) (by decide +kernel))) rfl
theorem wd_1_213 : (Jvm.Cond.fieldLink "HexTable" (42 : Nat) "HexTable" "seeker" "LHexTable$Seeker;") ∈ gt := gt_of (in_1 (List.mem_of_getElem? (i := 213) (by decide +kernel))) rfl
theorem wd_1_214 : (Jvm.Cond.fieldLink "HexTable" (49 : Nat) "HexTable" "tree" "LHexTable$Entries;") ∈ gt := gt_of (in_1 (List.mem_of_getElem? (i := 214) (by decide +kernel))) rfl
theorem wd_1_215 : (Jvm.Cond.fieldLink "HexTable" (58 : Nat) "HexTable" "checker" "LHexTable$Checker;") ∈ gt := gt_of (in_1 (List.mem_of_getElem? (i := 215) (by decide +kernel))) rfl
theorem wd_1_216 : (Jvm.Cond.fieldLink "HexTable" (62 : Nat) "HexTable" "plays" "[I") ∈ gt := gt_of (in_1 (List.mem_of_getElem? (i := 216) (by decide +kernel))) rfl
theorem wd_1_217 : (Jvm.Cond.fieldLink "HexTable" (66 : Nat) "HexTable" "playCount" "I") ∈ gt := gt_of (in_1 (List.mem_of_getElem? (i := 217) (by decide +kernel))) rfl
theorem wd_1_218 : (Jvm.Cond.fieldLink "HexTable" (70 : Nat) "HexTable" "mover" "I") ∈ gt := gt_of (in_1 (List.mem_of_getElem? (i := 218) (by decide +kernel))) rfl
theorem wd_1_238 : (Jvm.Cond.methodLink "HexTableLaw" (21 : Nat) ({ cls := "HexTable", name := "set", desc := "(III)Z" } : Jvm.MethodName)) ∈ gt := gt_of (in_1 (List.mem_of_getElem? (i := 238) (by decide +kernel))) rfl
theorem wd_1_239 : (Jvm.Cond.instanceMethod ({ cls := "HexTable", name := "set", desc := "(III)Z" } : Jvm.MethodName)) ∈ gt := gt_of (in_1 (List.mem_of_getElem? (i := 239) (by decide +kernel))) rfl
theorem wd_2_0 : (Jvm.Cond.selects "HexTable" ({ cls := "HexTable", name := "set", desc := "(III)Z" } : Jvm.MethodName) ({ cls := "HexTable", name := "set", desc := "(III)Z" } : Jvm.MethodName)) ∈ gt := gt_of (in_2 (List.mem_of_getElem? (i := 0) (by decide +kernel))) rfl
theorem wd_2_1 : (Jvm.Cond.code ({ cls := "HexTable", name := "set", desc := "(III)Z" } : Jvm.MethodName) prog_1_method_2_code (5 : Nat) (Option.some Jvm.ClassFile.FieldType.boolean)) ∈ gt := gt_of (in_2 (List.mem_of_getElem? (i := 1) (by decide +kernel))) rfl
theorem wd_2_2 : (Jvm.Cond.methodLink "HexTable" (73 : Nat) ({ cls := "HexTable$Board", name := "numberOf", desc := "(II)I" } : Jvm.MethodName)) ∈ gt := gt_of (in_2 (List.mem_of_getElem? (i := 2) (by decide +kernel))) rfl
theorem wd_2_3 : (Jvm.Cond.instanceMethod ({ cls := "HexTable$Board", name := "numberOf", desc := "(II)I" } : Jvm.MethodName)) ∈ gt := gt_of (in_2 (List.mem_of_getElem? (i := 3) (by decide +kernel))) rfl
theorem wd_2_4 : (Jvm.Cond.selects "HexTable$Board" ({ cls := "HexTable$Board", name := "numberOf", desc := "(II)I" } : Jvm.MethodName) ({ cls := "HexTable$Board", name := "numberOf", desc := "(II)I" } : Jvm.MethodName)) ∈ gt := gt_of (in_2 (List.mem_of_getElem? (i := 4) (by decide +kernel))) rfl
theorem wd_2_5 : (Jvm.Cond.code ({ cls := "HexTable$Board", name := "numberOf", desc := "(II)I" } : Jvm.MethodName) prog_2_method_4_code (3 : Nat) (Option.some Jvm.ClassFile.FieldType.int)) ∈ gt := gt_of (in_2 (List.mem_of_getElem? (i := 5) (by decide +kernel))) rfl
theorem wd_2_6 : (Jvm.Cond.methodLink "HexTable" (76 : Nat) ({ cls := "HexTable$Board", name := "put", desc := "(II)V" } : Jvm.MethodName)) ∈ gt := gt_of (in_2 (List.mem_of_getElem? (i := 6) (by decide +kernel))) rfl
theorem wd_2_7 : (Jvm.Cond.instanceMethod ({ cls := "HexTable$Board", name := "put", desc := "(II)V" } : Jvm.MethodName)) ∈ gt := gt_of (in_2 (List.mem_of_getElem? (i := 7) (by decide +kernel))) rfl
theorem wd_2_8 : (Jvm.Cond.selects "HexTable$Board" ({ cls := "HexTable$Board", name := "put", desc := "(II)V" } : Jvm.MethodName) ({ cls := "HexTable$Board", name := "put", desc := "(II)V" } : Jvm.MethodName)) ∈ gt := gt_of (in_2 (List.mem_of_getElem? (i := 8) (by decide +kernel))) rfl
theorem wd_2_9 : (Jvm.Cond.code ({ cls := "HexTable$Board", name := "put", desc := "(II)V" } : Jvm.MethodName) prog_2_method_8_code (3 : Nat) (Option.none : Option Jvm.ClassFile.FieldType)) ∈ gt := gt_of (in_2 (List.mem_of_getElem? (i := 9) (by decide +kernel))) rfl
theorem wd_2_10 : (Jvm.Cond.methodLink "HexTable$Board" (45 : Nat) ({ cls := "HexTable$Board", name := "has", desc := "(I)Z" } : Jvm.MethodName)) ∈ gt := gt_of (in_2 (List.mem_of_getElem? (i := 10) (by decide +kernel))) rfl
theorem wd_2_11 : (Jvm.Cond.instanceMethod ({ cls := "HexTable$Board", name := "has", desc := "(I)Z" } : Jvm.MethodName)) ∈ gt := gt_of (in_2 (List.mem_of_getElem? (i := 11) (by decide +kernel))) rfl
theorem wd_2_12 : (Jvm.Cond.selects "HexTable$Board" ({ cls := "HexTable$Board", name := "has", desc := "(I)Z" } : Jvm.MethodName) ({ cls := "HexTable$Board", name := "has", desc := "(I)Z" } : Jvm.MethodName)) ∈ gt := gt_of (in_2 (List.mem_of_getElem? (i := 12) (by decide +kernel))) rfl
theorem wd_2_13 : (Jvm.Cond.code ({ cls := "HexTable$Board", name := "has", desc := "(I)Z" } : Jvm.MethodName) prog_2_method_5_code (2 : Nat) (Option.some Jvm.ClassFile.FieldType.boolean)) ∈ gt := gt_of (in_2 (List.mem_of_getElem? (i := 13) (by decide +kernel))) rfl
theorem wd_2_14 : (Jvm.Cond.methodLink "HexTableLaw" (26 : Nat) ({ cls := "HexTable", name := "turn", desc := "(I)Z" } : Jvm.MethodName)) ∈ gt := gt_of (in_2 (List.mem_of_getElem? (i := 14) (by decide +kernel))) rfl
theorem wd_2_15 : (Jvm.Cond.instanceMethod ({ cls := "HexTable", name := "turn", desc := "(I)Z" } : Jvm.MethodName)) ∈ gt := gt_of (in_2 (List.mem_of_getElem? (i := 15) (by decide +kernel))) rfl
theorem wd_2_16 : (Jvm.Cond.selects "HexTable" ({ cls := "HexTable", name := "turn", desc := "(I)Z" } : Jvm.MethodName) ({ cls := "HexTable", name := "turn", desc := "(I)Z" } : Jvm.MethodName)) ∈ gt := gt_of (in_2 (List.mem_of_getElem? (i := 16) (by decide +kernel))) rfl
theorem wd_2_17 : (Jvm.Cond.code ({ cls := "HexTable", name := "turn", desc := "(I)Z" } : Jvm.MethodName) prog_1_method_3_code (2 : Nat) (Option.some Jvm.ClassFile.FieldType.boolean)) ∈ gt := gt_of (in_2 (List.mem_of_getElem? (i := 17) (by decide +kernel))) rfl
theorem wd_2_18 : (Jvm.Cond.methodLink "HexTable" (80 : Nat) ({ cls := "HexTable", name := "isSide", desc := "(I)Z" } : Jvm.MethodName)) ∈ gt := gt_of (in_2 (List.mem_of_getElem? (i := 18) (by decide +kernel))) rfl
theorem wd_2_19 : (Jvm.Cond.static ({ cls := "HexTable", name := "isSide", desc := "(I)Z" } : Jvm.MethodName)) ∈ gt := gt_of (in_2 (List.mem_of_getElem? (i := 19) (by decide +kernel))) rfl
theorem wd_2_20 : (Jvm.Cond.code ({ cls := "HexTable", name := "isSide", desc := "(I)Z" } : Jvm.MethodName) prog_1_method_19_code (1 : Nat) (Option.some Jvm.ClassFile.FieldType.boolean)) ∈ gt := gt_of (in_2 (List.mem_of_getElem? (i := 20) (by decide +kernel))) rfl
theorem wd_2_21 : (Jvm.Cond.methodLink "HexTableLaw" (31 : Nat) ({ cls := "HexTable", name := "play", desc := "(II)Z" } : Jvm.MethodName)) ∈ gt := gt_of (in_2 (List.mem_of_getElem? (i := 21) (by decide +kernel))) rfl
theorem wd_2_22 : (Jvm.Cond.instanceMethod ({ cls := "HexTable", name := "play", desc := "(II)Z" } : Jvm.MethodName)) ∈ gt := gt_of (in_2 (List.mem_of_getElem? (i := 22) (by decide +kernel))) rfl
theorem wd_2_23 : (Jvm.Cond.selects "HexTable" ({ cls := "HexTable", name := "play", desc := "(II)Z" } : Jvm.MethodName) ({ cls := "HexTable", name := "play", desc := "(II)Z" } : Jvm.MethodName)) ∈ gt := gt_of (in_2 (List.mem_of_getElem? (i := 23) (by decide +kernel))) rfl
theorem wd_2_24 : (Jvm.Cond.code ({ cls := "HexTable", name := "play", desc := "(II)Z" } : Jvm.MethodName) prog_1_method_4_code (4 : Nat) (Option.some Jvm.ClassFile.FieldType.boolean)) ∈ gt := gt_of (in_2 (List.mem_of_getElem? (i := 24) (by decide +kernel))) rfl
theorem wd_2_25 : (Jvm.Cond.methodLink "HexTable" (84 : Nat) ({ cls := "HexTable$Board", name := "isEmpty", desc := "(I)Z" } : Jvm.MethodName)) ∈ gt := gt_of (in_2 (List.mem_of_getElem? (i := 25) (by decide +kernel))) rfl
theorem wd_2_26 : (Jvm.Cond.instanceMethod ({ cls := "HexTable$Board", name := "isEmpty", desc := "(I)Z" } : Jvm.MethodName)) ∈ gt := gt_of (in_2 (List.mem_of_getElem? (i := 26) (by decide +kernel))) rfl
theorem wd_2_27 : (Jvm.Cond.selects "HexTable$Board" ({ cls := "HexTable$Board", name := "isEmpty", desc := "(I)Z" } : Jvm.MethodName) ({ cls := "HexTable$Board", name := "isEmpty", desc := "(I)Z" } : Jvm.MethodName)) ∈ gt := gt_of (in_2 (List.mem_of_getElem? (i := 27) (by decide +kernel))) rfl
theorem wd_2_28 : (Jvm.Cond.code ({ cls := "HexTable$Board", name := "isEmpty", desc := "(I)Z" } : Jvm.MethodName) prog_2_method_6_code (2 : Nat) (Option.some Jvm.ClassFile.FieldType.boolean)) ∈ gt := gt_of (in_2 (List.mem_of_getElem? (i := 28) (by decide +kernel))) rfl
theorem wd_2_29 : (Jvm.Cond.methodLink "HexTable" (87 : Nat) ({ cls := "HexTable$Board", name := "winner", desc := "()I" } : Jvm.MethodName)) ∈ gt := gt_of (in_2 (List.mem_of_getElem? (i := 29) (by decide +kernel))) rfl
theorem wd_2_30 : (Jvm.Cond.instanceMethod ({ cls := "HexTable$Board", name := "winner", desc := "()I" } : Jvm.MethodName)) ∈ gt := gt_of (in_2 (List.mem_of_getElem? (i := 30) (by decide +kernel))) rfl
theorem wd_2_31 : (Jvm.Cond.selects "HexTable$Board" ({ cls := "HexTable$Board", name := "winner", desc := "()I" } : Jvm.MethodName) ({ cls := "HexTable$Board", name := "winner", desc := "()I" } : Jvm.MethodName)) ∈ gt := gt_of (in_2 (List.mem_of_getElem? (i := 31) (by decide +kernel))) rfl
theorem wd_2_32 : (Jvm.Cond.code ({ cls := "HexTable$Board", name := "winner", desc := "()I" } : Jvm.MethodName) prog_2_method_21_code (1 : Nat) (Option.some Jvm.ClassFile.FieldType.int)) ∈ gt := gt_of (in_2 (List.mem_of_getElem? (i := 32) (by decide +kernel))) rfl
theorem wd_2_33 : (Jvm.Cond.methodLink "HexTable$Board" (89 : Nat) ({ cls := "HexTable$Board", name := "wins", desc := "(I)Z" } : Jvm.MethodName)) ∈ gt := gt_of (in_2 (List.mem_of_getElem? (i := 33) (by decide +kernel))) rfl
theorem wd_2_34 : (Jvm.Cond.instanceMethod ({ cls := "HexTable$Board", name := "wins", desc := "(I)Z" } : Jvm.MethodName)) ∈ gt := gt_of (in_2 (List.mem_of_getElem? (i := 34) (by decide +kernel))) rfl
theorem wd_2_35 : (Jvm.Cond.selects "HexTable$Board" ({ cls := "HexTable$Board", name := "wins", desc := "(I)Z" } : Jvm.MethodName) ({ cls := "HexTable$Board", name := "wins", desc := "(I)Z" } : Jvm.MethodName)) ∈ gt := gt_of (in_2 (List.mem_of_getElem? (i := 35) (by decide +kernel))) rfl
theorem wd_2_36 : (Jvm.Cond.code ({ cls := "HexTable$Board", name := "wins", desc := "(I)Z" } : Jvm.MethodName) prog_2_method_20_code (6 : Nat) (Option.some Jvm.ClassFile.FieldType.boolean)) ∈ gt := gt_of (in_2 (List.mem_of_getElem? (i := 36) (by decide +kernel))) rfl
theorem wd_2_37 : (Jvm.Cond.methodLink "HexTable$Board" (85 : Nat) ({ cls := "HexTable$Board", name := "markFromEdges", desc := "(I)V" } : Jvm.MethodName)) ∈ gt := gt_of (in_2 (List.mem_of_getElem? (i := 37) (by decide +kernel))) rfl
theorem wd_2_38 : (Jvm.Cond.instanceMethod ({ cls := "HexTable$Board", name := "markFromEdges", desc := "(I)V" } : Jvm.MethodName)) ∈ gt := gt_of (in_2 (List.mem_of_getElem? (i := 38) (by decide +kernel))) rfl
theorem wd_2_39 : (Jvm.Cond.selects "HexTable$Board" ({ cls := "HexTable$Board", name := "markFromEdges", desc := "(I)V" } : Jvm.MethodName) ({ cls := "HexTable$Board", name := "markFromEdges", desc := "(I)V" } : Jvm.MethodName)) ∈ gt := gt_of (in_2 (List.mem_of_getElem? (i := 39) (by decide +kernel))) rfl
theorem wd_2_40 : (Jvm.Cond.code ({ cls := "HexTable$Board", name := "markFromEdges", desc := "(I)V" } : Jvm.MethodName) prog_2_method_19_code (3 : Nat) (Option.none : Option Jvm.ClassFile.FieldType)) ∈ gt := gt_of (in_2 (List.mem_of_getElem? (i := 40) (by decide +kernel))) rfl
theorem wd_2_41 : (Jvm.Cond.methodLink "HexTable$Board" (75 : Nat) ({ cls := "HexTable$Board", name := "clearMarks", desc := "()V" } : Jvm.MethodName)) ∈ gt := gt_of (in_2 (List.mem_of_getElem? (i := 41) (by decide +kernel))) rfl
theorem wd_2_42 : (Jvm.Cond.instanceMethod ({ cls := "HexTable$Board", name := "clearMarks", desc := "()V" } : Jvm.MethodName)) ∈ gt := gt_of (in_2 (List.mem_of_getElem? (i := 42) (by decide +kernel))) rfl
theorem wd_2_43 : (Jvm.Cond.selects "HexTable$Board" ({ cls := "HexTable$Board", name := "clearMarks", desc := "()V" } : Jvm.MethodName) ({ cls := "HexTable$Board", name := "clearMarks", desc := "()V" } : Jvm.MethodName)) ∈ gt := gt_of (in_2 (List.mem_of_getElem? (i := 43) (by decide +kernel))) rfl
theorem wd_2_44 : (Jvm.Cond.code ({ cls := "HexTable$Board", name := "clearMarks", desc := "()V" } : Jvm.MethodName) prog_2_method_12_code (1 : Nat) (Option.none : Option Jvm.ClassFile.FieldType)) ∈ gt := gt_of (in_2 (List.mem_of_getElem? (i := 44) (by decide +kernel))) rfl
theorem wd_2_45 : (Jvm.Cond.methodLink "HexTable$Board" (63 : Nat) ({ cls := "java/util/Arrays", name := "fill", desc := "([II)V" } : Jvm.MethodName)) ∈ gt := gt_of (in_2 (List.mem_of_getElem? (i := 45) (by decide +kernel))) rfl
theorem wd_2_46 : (Jvm.Cond.static ({ cls := "java/util/Arrays", name := "fill", desc := "([II)V" } : Jvm.MethodName)) ∈ gt := gt_of (in_2 (List.mem_of_getElem? (i := 46) (by decide +kernel))) rfl
theorem wd_2_47 : (Jvm.Cond.code ({ cls := "java/util/Arrays", name := "fill", desc := "([II)V" } : Jvm.MethodName) prog_13_method_103_code (4 : Nat) (Option.none : Option Jvm.ClassFile.FieldType)) ∈ gt := gt_of (in_2 (List.mem_of_getElem? (i := 47) (by decide +kernel))) rfl
theorem wd_2_48 : (Jvm.Cond.methodLink "HexTable$Board" (82 : Nat) ({ cls := "HexTable$Board", name := "edgesOf", desc := "(II)I" } : Jvm.MethodName)) ∈ gt := gt_of (in_2 (List.mem_of_getElem? (i := 48) (by decide +kernel))) rfl
theorem wd_2_50 : (Jvm.Cond.instanceMethod ({ cls := "HexTable$Board", name := "edgesOf", desc := "(II)I" } : Jvm.MethodName)) ∈ gt := gt_of (in_2 (List.mem_of_getElem? (i := 50) (by decide +kernel))) rfl
theorem wd_2_51 : (Jvm.Cond.code ({ cls := "HexTable$Board", name := "edgesOf", desc := "(II)I" } : Jvm.MethodName) prog_2_method_18_code (3 : Nat) (Option.some Jvm.ClassFile.FieldType.int)) ∈ gt := gt_of (in_2 (List.mem_of_getElem? (i := 51) (by decide +kernel))) rfl
theorem wd_2_52 : (Jvm.Cond.methodLink "HexTable$Board" (78 : Nat) ({ cls := "HexTable$Board", name := "markChain", desc := "(II)V" } : Jvm.MethodName)) ∈ gt := gt_of (in_2 (List.mem_of_getElem? (i := 52) (by decide +kernel))) rfl
theorem wd_2_54 : (Jvm.Cond.instanceMethod ({ cls := "HexTable$Board", name := "markChain", desc := "(II)V" } : Jvm.MethodName)) ∈ gt := gt_of (in_2 (List.mem_of_getElem? (i := 54) (by decide +kernel))) rfl
theorem wd_2_55 : (Jvm.Cond.code ({ cls := "HexTable$Board", name := "markChain", desc := "(II)V" } : Jvm.MethodName) prog_2_method_14_code (5 : Nat) (Option.none : Option Jvm.ClassFile.FieldType)) ∈ gt := gt_of (in_2 (List.mem_of_getElem? (i := 55) (by decide +kernel))) rfl
theorem wd_2_56 : (Jvm.Cond.methodLink "HexTable$Board" (72 : Nat) ({ cls := "HexTable$Board", name := "openAround", desc := "(III)I" } : Jvm.MethodName)) ∈ gt := gt_of (in_2 (List.mem_of_getElem? (i := 56) (by decide +kernel))) rfl
theorem wd_2_58 : (Jvm.Cond.instanceMethod ({ cls := "HexTable$Board", name := "openAround", desc := "(III)I" } : Jvm.MethodName)) ∈ gt := gt_of (in_2 (List.mem_of_getElem? (i := 58) (by decide +kernel))) rfl
theorem wd_2_59 : (Jvm.Cond.code ({ cls := "HexTable$Board", name := "openAround", desc := "(III)I" } : Jvm.MethodName) prog_2_method_15_code (7 : Nat) (Option.some Jvm.ClassFile.FieldType.int)) ∈ gt := gt_of (in_2 (List.mem_of_getElem? (i := 59) (by decide +kernel))) rfl
theorem wd_2_60 : (Jvm.Cond.methodLink "HexTable" (91 : Nat) ({ cls := "HexTable", name := "otherSide", desc := "(I)I" } : Jvm.MethodName)) ∈ gt := gt_of (in_2 (List.mem_of_getElem? (i := 60) (by decide +kernel))) rfl
theorem wd_2_61 : (Jvm.Cond.static ({ cls := "HexTable", name := "otherSide", desc := "(I)I" } : Jvm.MethodName)) ∈ gt := gt_of (in_2 (List.mem_of_getElem? (i := 61) (by decide +kernel))) rfl
theorem wd_2_62 : (Jvm.Cond.code ({ cls := "HexTable", name := "otherSide", desc := "(I)I" } : Jvm.MethodName) prog_1_method_20_code (1 : Nat) (Option.some Jvm.ClassFile.FieldType.int)) ∈ gt := gt_of (in_2 (List.mem_of_getElem? (i := 62) (by decide +kernel))) rfl
theorem wd_2_63 : (Jvm.Cond.methodLink "HexTableLaw" (36 : Nat) ({ cls := "HexTable", name := "undo", desc := "()I" } : Jvm.MethodName)) ∈ gt := gt_of (in_2 (List.mem_of_getElem? (i := 63) (by decide +kernel))) rfl
theorem wd_2_64 : (Jvm.Cond.instanceMethod ({ cls := "HexTable", name := "undo", desc := "()I" } : Jvm.MethodName)) ∈ gt := gt_of (in_2 (List.mem_of_getElem? (i := 64) (by decide +kernel))) rfl
theorem wd_2_65 : (Jvm.Cond.selects "HexTable" ({ cls := "HexTable", name := "undo", desc := "()I" } : Jvm.MethodName) ({ cls := "HexTable", name := "undo", desc := "()I" } : Jvm.MethodName)) ∈ gt := gt_of (in_2 (List.mem_of_getElem? (i := 65) (by decide +kernel))) rfl
theorem wd_2_66 : (Jvm.Cond.code ({ cls := "HexTable", name := "undo", desc := "()I" } : Jvm.MethodName) prog_1_method_5_code (2 : Nat) (Option.some Jvm.ClassFile.FieldType.int)) ∈ gt := gt_of (in_2 (List.mem_of_getElem? (i := 66) (by decide +kernel))) rfl
theorem wd_2_67 : (Jvm.Cond.methodLink "HexTableLaw" (41 : Nat) ({ cls := "HexTable", name := "cell", desc := "(II)I" } : Jvm.MethodName)) ∈ gt := gt_of (in_2 (List.mem_of_getElem? (i := 67) (by decide +kernel))) rfl
theorem wd_2_68 : (Jvm.Cond.instanceMethod ({ cls := "HexTable", name := "cell", desc := "(II)I" } : Jvm.MethodName)) ∈ gt := gt_of (in_2 (List.mem_of_getElem? (i := 68) (by decide +kernel))) rfl
theorem wd_2_69 : (Jvm.Cond.selects "HexTable" ({ cls := "HexTable", name := "cell", desc := "(II)I" } : Jvm.MethodName) ({ cls := "HexTable", name := "cell", desc := "(II)I" } : Jvm.MethodName)) ∈ gt := gt_of (in_2 (List.mem_of_getElem? (i := 69) (by decide +kernel))) rfl
theorem wd_2_70 : (Jvm.Cond.code ({ cls := "HexTable", name := "cell", desc := "(II)I" } : Jvm.MethodName) prog_1_method_6_code (4 : Nat) (Option.some Jvm.ClassFile.FieldType.int)) ∈ gt := gt_of (in_2 (List.mem_of_getElem? (i := 70) (by decide +kernel))) rfl
theorem wd_2_71 : (Jvm.Cond.methodLink "HexTable" (95 : Nat) ({ cls := "HexTable$Board", name := "stoneAt", desc := "(I)I" } : Jvm.MethodName)) ∈ gt := gt_of (in_2 (List.mem_of_getElem? (i := 71) (by decide +kernel))) rfl
theorem wd_2_72 : (Jvm.Cond.instanceMethod ({ cls := "HexTable$Board", name := "stoneAt", desc := "(I)I" } : Jvm.MethodName)) ∈ gt := gt_of (in_2 (List.mem_of_getElem? (i := 72) (by decide +kernel))) rfl
theorem wd_2_73 : (Jvm.Cond.selects "HexTable$Board" ({ cls := "HexTable$Board", name := "stoneAt", desc := "(I)I" } : Jvm.MethodName) ({ cls := "HexTable$Board", name := "stoneAt", desc := "(I)I" } : Jvm.MethodName)) ∈ gt := gt_of (in_2 (List.mem_of_getElem? (i := 73) (by decide +kernel))) rfl
theorem wd_2_74 : (Jvm.Cond.code ({ cls := "HexTable$Board", name := "stoneAt", desc := "(I)I" } : Jvm.MethodName) prog_2_method_7_code (2 : Nat) (Option.some Jvm.ClassFile.FieldType.int)) ∈ gt := gt_of (in_2 (List.mem_of_getElem? (i := 74) (by decide +kernel))) rfl
theorem wd_2_75 : (Jvm.Cond.methodLink "HexTableLaw" (45 : Nat) ({ cls := "HexTable", name := "chain", desc := "(II)I" } : Jvm.MethodName)) ∈ gt := gt_of (in_2 (List.mem_of_getElem? (i := 75) (by decide +kernel))) rfl
theorem wd_2_76 : (Jvm.Cond.instanceMethod ({ cls := "HexTable", name := "chain", desc := "(II)I" } : Jvm.MethodName)) ∈ gt := gt_of (in_2 (List.mem_of_getElem? (i := 76) (by decide +kernel))) rfl
theorem wd_2_77 : (Jvm.Cond.selects "HexTable" ({ cls := "HexTable", name := "chain", desc := "(II)I" } : Jvm.MethodName) ({ cls := "HexTable", name := "chain", desc := "(II)I" } : Jvm.MethodName)) ∈ gt := gt_of (in_2 (List.mem_of_getElem? (i := 77) (by decide +kernel))) rfl
theorem wd_2_78 : (Jvm.Cond.code ({ cls := "HexTable", name := "chain", desc := "(II)I" } : Jvm.MethodName) prog_1_method_7_code (3 : Nat) (Option.some Jvm.ClassFile.FieldType.int)) ∈ gt := gt_of (in_2 (List.mem_of_getElem? (i := 78) (by decide +kernel))) rfl
theorem wd_2_79 : (Jvm.Cond.methodLink "HexTable" (98 : Nat) ({ cls := "HexTable$Board", name := "chainName", desc := "(I)I" } : Jvm.MethodName)) ∈ gt := gt_of (in_2 (List.mem_of_getElem? (i := 79) (by decide +kernel))) rfl
theorem wd_2_80 : (Jvm.Cond.instanceMethod ({ cls := "HexTable$Board", name := "chainName", desc := "(I)I" } : Jvm.MethodName)) ∈ gt := gt_of (in_2 (List.mem_of_getElem? (i := 80) (by decide +kernel))) rfl
theorem wd_2_81 : (Jvm.Cond.selects "HexTable$Board" ({ cls := "HexTable$Board", name := "chainName", desc := "(I)I" } : Jvm.MethodName) ({ cls := "HexTable$Board", name := "chainName", desc := "(I)I" } : Jvm.MethodName)) ∈ gt := gt_of (in_2 (List.mem_of_getElem? (i := 81) (by decide +kernel))) rfl
theorem wd_2_82 : (Jvm.Cond.code ({ cls := "HexTable$Board", name := "chainName", desc := "(I)I" } : Jvm.MethodName) prog_2_method_16_code (3 : Nat) (Option.some Jvm.ClassFile.FieldType.int)) ∈ gt := gt_of (in_2 (List.mem_of_getElem? (i := 82) (by decide +kernel))) rfl
theorem wd_2_83 : (Jvm.Cond.methodLink "HexTableLaw" (49 : Nat) ({ cls := "HexTable", name := "about", desc := "(I)I" } : Jvm.MethodName)) ∈ gt := gt_of (in_2 (List.mem_of_getElem? (i := 83) (by decide +kernel))) rfl
theorem wd_2_84 : (Jvm.Cond.instanceMethod ({ cls := "HexTable", name := "about", desc := "(I)I" } : Jvm.MethodName)) ∈ gt := gt_of (in_2 (List.mem_of_getElem? (i := 84) (by decide +kernel))) rfl
theorem wd_2_85 : (Jvm.Cond.selects "HexTable" ({ cls := "HexTable", name := "about", desc := "(I)I" } : Jvm.MethodName) ({ cls := "HexTable", name := "about", desc := "(I)I" } : Jvm.MethodName)) ∈ gt := gt_of (in_2 (List.mem_of_getElem? (i := 85) (by decide +kernel))) rfl
theorem wd_2_86 : (Jvm.Cond.code ({ cls := "HexTable", name := "about", desc := "(I)I" } : Jvm.MethodName) prog_1_method_8_code (2 : Nat) (Option.some Jvm.ClassFile.FieldType.int)) ∈ gt := gt_of (in_2 (List.mem_of_getElem? (i := 86) (by decide +kernel))) rfl
theorem wd_2_87 : (Jvm.Cond.methodLink "HexTable" (104 : Nat) ({ cls := "HexTable$Board", name := "countEmpty", desc := "()I" } : Jvm.MethodName)) ∈ gt := gt_of (in_2 (List.mem_of_getElem? (i := 87) (by decide +kernel))) rfl
theorem wd_2_88 : (Jvm.Cond.instanceMethod ({ cls := "HexTable$Board", name := "countEmpty", desc := "()I" } : Jvm.MethodName)) ∈ gt := gt_of (in_2 (List.mem_of_getElem? (i := 88) (by decide +kernel))) rfl
theorem wd_2_89 : (Jvm.Cond.selects "HexTable$Board" ({ cls := "HexTable$Board", name := "countEmpty", desc := "()I" } : Jvm.MethodName) ({ cls := "HexTable$Board", name := "countEmpty", desc := "()I" } : Jvm.MethodName)) ∈ gt := gt_of (in_2 (List.mem_of_getElem? (i := 89) (by decide +kernel))) rfl
theorem wd_2_90 : (Jvm.Cond.code ({ cls := "HexTable$Board", name := "countEmpty", desc := "()I" } : Jvm.MethodName) prog_2_method_10_code (6 : Nat) (Option.some Jvm.ClassFile.FieldType.int)) ∈ gt := gt_of (in_2 (List.mem_of_getElem? (i := 90) (by decide +kernel))) rfl
theorem wd_2_91 : (Jvm.Cond.methodLink "HexTable" (107 : Nat) ({ cls := "HexTable$Board", name := "countChains", desc := "()I" } : Jvm.MethodName)) ∈ gt := gt_of (in_2 (List.mem_of_getElem? (i := 91) (by decide +kernel))) rfl
theorem wd_2_92 : (Jvm.Cond.instanceMethod ({ cls := "HexTable$Board", name := "countChains", desc := "()I" } : Jvm.MethodName)) ∈ gt := gt_of (in_2 (List.mem_of_getElem? (i := 92) (by decide +kernel))) rfl
theorem wd_2_93 : (Jvm.Cond.selects "HexTable$Board" ({ cls := "HexTable$Board", name := "countChains", desc := "()I" } : Jvm.MethodName) ({ cls := "HexTable$Board", name := "countChains", desc := "()I" } : Jvm.MethodName)) ∈ gt := gt_of (in_2 (List.mem_of_getElem? (i := 93) (by decide +kernel))) rfl
theorem wd_2_94 : (Jvm.Cond.code ({ cls := "HexTable$Board", name := "countChains", desc := "()I" } : Jvm.MethodName) prog_2_method_17_code (3 : Nat) (Option.some Jvm.ClassFile.FieldType.int)) ∈ gt := gt_of (in_2 (List.mem_of_getElem? (i := 94) (by decide +kernel))) rfl
theorem wd_2_95 : (Jvm.Cond.methodLink "HexTableLaw" (54 : Nat) ({ cls := "HexTable", name := "walk", desc := "()I" } : Jvm.MethodName)) ∈ gt := gt_of (in_2 (List.mem_of_getElem? (i := 95) (by decide +kernel))) rfl
theorem wd_2_96 : (Jvm.Cond.instanceMethod ({ cls := "HexTable", name := "walk", desc := "()I" } : Jvm.MethodName)) ∈ gt := gt_of (in_2 (List.mem_of_getElem? (i := 96) (by decide +kernel))) rfl
theorem wd_2_97 : (Jvm.Cond.selects "HexTable" ({ cls := "HexTable", name := "walk", desc := "()I" } : Jvm.MethodName) ({ cls := "HexTable", name := "walk", desc := "()I" } : Jvm.MethodName)) ∈ gt := gt_of (in_2 (List.mem_of_getElem? (i := 97) (by decide +kernel))) rfl
theorem wd_2_98 : (Jvm.Cond.code ({ cls := "HexTable", name := "walk", desc := "()I" } : Jvm.MethodName) prog_1_method_9_code (1 : Nat) (Option.some Jvm.ClassFile.FieldType.int)) ∈ gt := gt_of (in_2 (List.mem_of_getElem? (i := 98) (by decide +kernel))) rfl
theorem wd_2_99 : (Jvm.Cond.methodLink "HexTable" (123 : Nat) ({ cls := "HexTable$Walker", name := "follow", desc := "(I)I" } : Jvm.MethodName)) ∈ gt := gt_of (in_2 (List.mem_of_getElem? (i := 99) (by decide +kernel))) rfl
theorem wd_2_100 : (Jvm.Cond.instanceMethod ({ cls := "HexTable$Walker", name := "follow", desc := "(I)I" } : Jvm.MethodName)) ∈ gt := gt_of (in_2 (List.mem_of_getElem? (i := 100) (by decide +kernel))) rfl
theorem wd_2_101 : (Jvm.Cond.selects "HexTable$Walker" ({ cls := "HexTable$Walker", name := "follow", desc := "(I)I" } : Jvm.MethodName) ({ cls := "HexTable$Walker", name := "follow", desc := "(I)I" } : Jvm.MethodName)) ∈ gt := gt_of (in_2 (List.mem_of_getElem? (i := 101) (by decide +kernel))) rfl
theorem wd_2_102 : (Jvm.Cond.code ({ cls := "HexTable$Walker", name := "follow", desc := "(I)I" } : Jvm.MethodName) prog_7_method_2_code (3 : Nat) (Option.some Jvm.ClassFile.FieldType.int)) ∈ gt := gt_of (in_2 (List.mem_of_getElem? (i := 102) (by decide +kernel))) rfl
theorem wd_2_103 : (Jvm.Cond.methodLink "HexTable$Walker" (26 : Nat) ({ cls := "HexTable$Walker", name := "lookBeyond", desc := "(II)V" } : Jvm.MethodName)) ∈ gt := gt_of (in_2 (List.mem_of_getElem? (i := 103) (by decide +kernel))) rfl
theorem wd_2_105 : (Jvm.Cond.instanceMethod ({ cls := "HexTable$Walker", name := "lookBeyond", desc := "(II)V" } : Jvm.MethodName)) ∈ gt := gt_of (in_2 (List.mem_of_getElem? (i := 105) (by decide +kernel))) rfl
theorem wd_2_106 : (Jvm.Cond.code ({ cls := "HexTable$Walker", name := "lookBeyond", desc := "(II)V" } : Jvm.MethodName) prog_7_method_4_code (3 : Nat) (Option.none : Option Jvm.ClassFile.FieldType)) ∈ gt := gt_of (in_2 (List.mem_of_getElem? (i := 106) (by decide +kernel))) rfl
theorem wd_2_107 : (Jvm.Cond.methodLink "HexTable$Walker" (42 : Nat) ({ cls := "HexTable$Board", name := "sideAt", desc := "(II)I" } : Jvm.MethodName)) ∈ gt := gt_of (in_2 (List.mem_of_getElem? (i := 107) (by decide +kernel))) rfl
theorem wd_2_108 : (Jvm.Cond.instanceMethod ({ cls := "HexTable$Board", name := "sideAt", desc := "(II)I" } : Jvm.MethodName)) ∈ gt := gt_of (in_2 (List.mem_of_getElem? (i := 108) (by decide +kernel))) rfl
theorem wd_2_109 : (Jvm.Cond.selects "HexTable$Board" ({ cls := "HexTable$Board", name := "sideAt", desc := "(II)I" } : Jvm.MethodName) ({ cls := "HexTable$Board", name := "sideAt", desc := "(II)I" } : Jvm.MethodName)) ∈ gt := gt_of (in_2 (List.mem_of_getElem? (i := 109) (by decide +kernel))) rfl
theorem wd_2_110 : (Jvm.Cond.code ({ cls := "HexTable$Board", name := "sideAt", desc := "(II)I" } : Jvm.MethodName) prog_2_method_11_code (4 : Nat) (Option.some Jvm.ClassFile.FieldType.int)) ∈ gt := gt_of (in_2 (List.mem_of_getElem? (i := 110) (by decide +kernel))) rfl
theorem wd_2_111 : (Jvm.Cond.methodLink "HexTable$Board" (60 : Nat) ({ cls := "HexTable$Board", name := "numberOf", desc := "(II)I" } : Jvm.MethodName)) ∈ gt := gt_of (in_2 (List.mem_of_getElem? (i := 111) (by decide +kernel))) rfl
theorem wd_2_112 : (Jvm.Cond.methodLink "HexTable$Walker" (33 : Nat) ({ cls := "HexTable$Walker", name := "goOn", desc := "()V" } : Jvm.MethodName)) ∈ gt := gt_of (in_2 (List.mem_of_getElem? (i := 112) (by decide +kernel))) rfl
theorem wd_2_114 : (Jvm.Cond.instanceMethod ({ cls := "HexTable$Walker", name := "goOn", desc := "()V" } : Jvm.MethodName)) ∈ gt := gt_of (in_2 (List.mem_of_getElem? (i := 114) (by decide +kernel))) rfl
theorem wd_2_115 : (Jvm.Cond.code ({ cls := "HexTable$Walker", name := "goOn", desc := "()V" } : Jvm.MethodName) prog_7_method_3_code (3 : Nat) (Option.none : Option Jvm.ClassFile.FieldType)) ∈ gt := gt_of (in_2 (List.mem_of_getElem? (i := 115) (by decide +kernel))) rfl
theorem wd_2_116 : (Jvm.Cond.methodLink "HexTableLaw" (58 : Nat) ({ cls := "HexTable", name := "step", desc := "(II)I" } : Jvm.MethodName)) ∈ gt := gt_of (in_2 (List.mem_of_getElem? (i := 116) (by decide +kernel))) rfl
theorem wd_2_117 : (Jvm.Cond.instanceMethod ({ cls := "HexTable", name := "step", desc := "(II)I" } : Jvm.MethodName)) ∈ gt := gt_of (in_2 (List.mem_of_getElem? (i := 117) (by decide +kernel))) rfl
theorem wd_2_118 : (Jvm.Cond.selects "HexTable" ({ cls := "HexTable", name := "step", desc := "(II)I" } : Jvm.MethodName) ({ cls := "HexTable", name := "step", desc := "(II)I" } : Jvm.MethodName)) ∈ gt := gt_of (in_2 (List.mem_of_getElem? (i := 118) (by decide +kernel))) rfl
theorem wd_2_119 : (Jvm.Cond.code ({ cls := "HexTable", name := "step", desc := "(II)I" } : Jvm.MethodName) prog_1_method_10_code (3 : Nat) (Option.some Jvm.ClassFile.FieldType.int)) ∈ gt := gt_of (in_2 (List.mem_of_getElem? (i := 119) (by decide +kernel))) rfl
theorem wd_2_120 : (Jvm.Cond.methodLink "HexTableLaw" (62 : Nat) ({ cls := "HexTable", name := "search", desc := "(I)I" } : Jvm.MethodName)) ∈ gt := gt_of (in_2 (List.mem_of_getElem? (i := 120) (by decide +kernel))) rfl
theorem wd_2_121 : (Jvm.Cond.instanceMethod ({ cls := "HexTable", name := "search", desc := "(I)I" } : Jvm.MethodName)) ∈ gt := gt_of (in_2 (List.mem_of_getElem? (i := 121) (by decide +kernel))) rfl
theorem wd_2_122 : (Jvm.Cond.selects "HexTable" ({ cls := "HexTable", name := "search", desc := "(I)I" } : Jvm.MethodName) ({ cls := "HexTable", name := "search", desc := "(I)I" } : Jvm.MethodName)) ∈ gt := gt_of (in_2 (List.mem_of_getElem? (i := 122) (by decide +kernel))) rfl
theorem wd_2_123 : (Jvm.Cond.code ({ cls := "HexTable", name := "search", desc := "(I)I" } : Jvm.MethodName) prog_1_method_11_code (2 : Nat) (Option.some Jvm.ClassFile.FieldType.int)) ∈ gt := gt_of (in_2 (List.mem_of_getElem? (i := 123) (by decide +kernel))) rfl
theorem wd_2_124 : (Jvm.Cond.methodLink "HexTable" (135 : Nat) ({ cls := "HexTable$Board", name := "copyStones", desc := "(LHexTable$Board;)V" } : Jvm.MethodName)) ∈ gt := gt_of (in_2 (List.mem_of_getElem? (i := 124) (by decide +kernel))) rfl
theorem wd_2_125 : (Jvm.Cond.instanceMethod ({ cls := "HexTable$Board", name := "copyStones", desc := "(LHexTable$Board;)V" } : Jvm.MethodName)) ∈ gt := gt_of (in_2 (List.mem_of_getElem? (i := 125) (by decide +kernel))) rfl
theorem wd_2_126 : (Jvm.Cond.selects "HexTable$Board" ({ cls := "HexTable$Board", name := "copyStones", desc := "(LHexTable$Board;)V" } : Jvm.MethodName) ({ cls := "HexTable$Board", name := "copyStones", desc := "(LHexTable$Board;)V" } : Jvm.MethodName)) ∈ gt := gt_of (in_2 (List.mem_of_getElem? (i := 126) (by decide +kernel))) rfl
theorem wd_2_127 : (Jvm.Cond.code ({ cls := "HexTable$Board", name := "copyStones", desc := "(LHexTable$Board;)V" } : Jvm.MethodName) prog_2_method_9_code (2 : Nat) (Option.none : Option Jvm.ClassFile.FieldType)) ∈ gt := gt_of (in_2 (List.mem_of_getElem? (i := 127) (by decide +kernel))) rfl
theorem wd_2_128 : (Jvm.Cond.methodLink "HexTable$Board" (49 : Nat) ({ cls := "java/lang/Math", name := "min", desc := "(II)I" } : Jvm.MethodName)) ∈ gt := gt_of (in_2 (List.mem_of_getElem? (i := 128) (by decide +kernel))) rfl
theorem wd_2_129 : (Jvm.Cond.methodLink "HexTable$Board" (54 : Nat) ({ cls := "java/lang/System", name := "arraycopy", desc := "(Ljava/lang/Object;ILjava/lang/Object;II)V" } : Jvm.MethodName)) ∈ gt := gt_of (in_2 (List.mem_of_getElem? (i := 129) (by decide +kernel))) rfl
theorem wd_2_130 : (Jvm.Cond.static ({ cls := "java/lang/System", name := "arraycopy", desc := "(Ljava/lang/Object;ILjava/lang/Object;II)V" } : Jvm.MethodName)) ∈ gt := gt_of (in_2 (List.mem_of_getElem? (i := 130) (by decide +kernel))) rfl
theorem wd_2_131 : (Jvm.Cond.native ({ cls := "java/lang/System", name := "arraycopy", desc := "(Ljava/lang/Object;ILjava/lang/Object;II)V" } : Jvm.MethodName)) ∈ gt := gt_of (in_2 (List.mem_of_getElem? (i := 131) (by decide +kernel))) rfl
theorem wd_2_132 : (Jvm.Cond.methodLink "HexTable" (138 : Nat) ({ cls := "HexTable$Seeker", name := "seek", desc := "(II)I" } : Jvm.MethodName)) ∈ gt := gt_of (in_2 (List.mem_of_getElem? (i := 132) (by decide +kernel))) rfl
theorem wd_2_133 : (Jvm.Cond.instanceMethod ({ cls := "HexTable$Seeker", name := "seek", desc := "(II)I" } : Jvm.MethodName)) ∈ gt := gt_of (in_2 (List.mem_of_getElem? (i := 133) (by decide +kernel))) rfl
theorem wd_2_134 : (Jvm.Cond.selects "HexTable$Seeker" ({ cls := "HexTable$Seeker", name := "seek", desc := "(II)I" } : Jvm.MethodName) ({ cls := "HexTable$Seeker", name := "seek", desc := "(II)I" } : Jvm.MethodName)) ∈ gt := gt_of (in_2 (List.mem_of_getElem? (i := 134) (by decide +kernel))) rfl
theorem wd_2_135 : (Jvm.Cond.code ({ cls := "HexTable$Seeker", name := "seek", desc := "(II)I" } : Jvm.MethodName) prog_6_method_2_code (7 : Nat) (Option.some Jvm.ClassFile.FieldType.int)) ∈ gt := gt_of (in_2 (List.mem_of_getElem? (i := 135) (by decide +kernel))) rfl
theorem wd_2_136 : (Jvm.Cond.methodLink "HexTable$Seeker" (40 : Nat) ({ cls := "HexTable$Nodes", name := "add", desc := "(II)I" } : Jvm.MethodName)) ∈ gt := gt_of (in_2 (List.mem_of_getElem? (i := 136) (by decide +kernel))) rfl
theorem wd_2_137 : (Jvm.Cond.instanceMethod ({ cls := "HexTable$Nodes", name := "add", desc := "(II)I" } : Jvm.MethodName)) ∈ gt := gt_of (in_2 (List.mem_of_getElem? (i := 137) (by decide +kernel))) rfl
theorem wd_2_138 : (Jvm.Cond.selects "HexTable$Nodes" ({ cls := "HexTable$Nodes", name := "add", desc := "(II)I" } : Jvm.MethodName) ({ cls := "HexTable$Nodes", name := "add", desc := "(II)I" } : Jvm.MethodName)) ∈ gt := gt_of (in_2 (List.mem_of_getElem? (i := 138) (by decide +kernel))) rfl
theorem wd_2_139 : (Jvm.Cond.code ({ cls := "HexTable$Nodes", name := "add", desc := "(II)I" } : Jvm.MethodName) prog_5_method_2_code (3 : Nat) (Option.some Jvm.ClassFile.FieldType.int)) ∈ gt := gt_of (in_2 (List.mem_of_getElem? (i := 139) (by decide +kernel))) rfl
theorem wd_2_140 : (Jvm.Cond.methodLink "HexTable$Nodes" (34 : Nat) ({ cls := "HexTable$Nodes", name := "lengthen", desc := "()V" } : Jvm.MethodName)) ∈ gt := gt_of (in_2 (List.mem_of_getElem? (i := 140) (by decide +kernel))) rfl
theorem wd_2_142 : (Jvm.Cond.instanceMethod ({ cls := "HexTable$Nodes", name := "lengthen", desc := "()V" } : Jvm.MethodName)) ∈ gt := gt_of (in_2 (List.mem_of_getElem? (i := 142) (by decide +kernel))) rfl
theorem wd_2_143 : (Jvm.Cond.code ({ cls := "HexTable$Nodes", name := "lengthen", desc := "()V" } : Jvm.MethodName) prog_5_method_3_code (2 : Nat) (Option.none : Option Jvm.ClassFile.FieldType)) ∈ gt := gt_of (in_2 (List.mem_of_getElem? (i := 143) (by decide +kernel))) rfl
theorem wd_2_145 : (Jvm.Cond.static ({ cls := "HexTable", name := "roomierLength", desc := "(I)I" } : Jvm.MethodName)) ∈ gt := gt_of (in_2 (List.mem_of_getElem? (i := 145) (by decide +kernel))) rfl
theorem wd_2_146 : (Jvm.Cond.code ({ cls := "HexTable", name := "roomierLength", desc := "(I)I" } : Jvm.MethodName) prog_1_method_21_code (1 : Nat) (Option.some Jvm.ClassFile.FieldType.int)) ∈ gt := gt_of (in_2 (List.mem_of_getElem? (i := 146) (by decide +kernel))) rfl
theorem wd_2_147 : (Jvm.Cond.methodLink "HexTable$Nodes" (41 : Nat) ({ cls := "java/util/Arrays", name := "copyOf", desc := "([II)[I" } : Jvm.MethodName)) ∈ gt := gt_of (in_2 (List.mem_of_getElem? (i := 147) (by decide +kernel))) rfl
theorem wd_2_148 : (Jvm.Cond.static ({ cls := "java/util/Arrays", name := "copyOf", desc := "([II)[I" } : Jvm.MethodName)) ∈ gt := gt_of (in_2 (List.mem_of_getElem? (i := 148) (by decide +kernel))) rfl
theorem wd_2_149 : (Jvm.Cond.code ({ cls := "java/util/Arrays", name := "copyOf", desc := "([II)[I" } : Jvm.MethodName) prog_13_method_123_code (3 : Nat) (Option.some (Jvm.ClassFile.FieldType.array Jvm.ClassFile.FieldType.int))) ∈ gt := gt_of (in_2 (List.mem_of_getElem? (i := 149) (by decide +kernel))) rfl
theorem wd_2_150 : (Jvm.Cond.methodLink "java/util/Arrays" (316 : Nat) ({ cls := "[I", name := "clone", desc := "()Ljava/lang/Object;" } : Jvm.MethodName)) ∈ gt := gt_of (in_2 (List.mem_of_getElem? (i := 150) (by decide +kernel))) rfl
theorem wd_2_151 : (Jvm.Cond.sameMethod "[I" "java/lang/Object" "clone" "()Ljava/lang/Object;") ∈ gt := gt_of (in_2 (List.mem_of_getElem? (i := 151) (by decide +kernel))) rfl
theorem wd_2_152 : (Jvm.Cond.native ({ cls := "java/lang/Object", name := "clone", desc := "()Ljava/lang/Object;" } : Jvm.MethodName)) ∈ gt := gt_of (in_2 (List.mem_of_getElem? (i := 152) (by decide +kernel))) rfl
theorem wd_2_153 : (Jvm.Cond.instanceMethod ({ cls := "java/lang/Object", name := "clone", desc := "()Ljava/lang/Object;" } : Jvm.MethodName)) ∈ gt := gt_of (in_2 (List.mem_of_getElem? (i := 153) (by decide +kernel))) rfl
theorem wd_2_154 : (Jvm.Cond.selects "[I" ({ cls := "[I", name := "clone", desc := "()Ljava/lang/Object;" } : Jvm.MethodName) ({ cls := "java/lang/Object", name := "clone", desc := "()Ljava/lang/Object;" } : Jvm.MethodName)) ∈ gt := gt_of (in_2 (List.mem_of_getElem? (i := 154) (by decide +kernel))) rfl
theorem wd_2_156 : (Jvm.Cond.classLink "java/util/Arrays" (317 : Nat) "[I") ∈ gt := gt_of (in_2 (List.mem_of_getElem? (i := 156) (by decide +kernel))) rfl
theorem wd_2_157 : (Jvm.Cond.methodLink "java/util/Arrays" (304 : Nat) ({ cls := "java/lang/Math", name := "min", desc := "(II)I" } : Jvm.MethodName)) ∈ gt := gt_of (in_2 (List.mem_of_getElem? (i := 157) (by decide +kernel))) rfl
theorem wd_2_158 : (Jvm.Cond.methodLink "java/util/Arrays" (150 : Nat) ({ cls := "java/lang/System", name := "arraycopy", desc := "(Ljava/lang/Object;ILjava/lang/Object;II)V" } : Jvm.MethodName)) ∈ gt := gt_of (in_2 (List.mem_of_getElem? (i := 158) (by decide +kernel))) rfl
theorem wd_2_159 : (Jvm.Cond.methodLink "HexTable$Seeker" (44 : Nat) ({ cls := "HexTable$Seeker", name := "isSettled", desc := "(I)Z" } : Jvm.MethodName)) ∈ gt := gt_of (in_2 (List.mem_of_getElem? (i := 159) (by decide +kernel))) rfl
theorem wd_2_161 : (Jvm.Cond.instanceMethod ({ cls := "HexTable$Seeker", name := "isSettled", desc := "(I)Z" } : Jvm.MethodName)) ∈ gt := gt_of (in_2 (List.mem_of_getElem? (i := 161) (by decide +kernel))) rfl
theorem wd_2_162 : (Jvm.Cond.code ({ cls := "HexTable$Seeker", name := "isSettled", desc := "(I)Z" } : Jvm.MethodName) prog_6_method_3_code (2 : Nat) (Option.some Jvm.ClassFile.FieldType.boolean)) ∈ gt := gt_of (in_2 (List.mem_of_getElem? (i := 162) (by decide +kernel))) rfl
theorem wd_2_163 : (Jvm.Cond.methodLink "HexTable$Seeker" (48 : Nat) ({ cls := "HexTable$Seeker", name := "descend", desc := "(I)I" } : Jvm.MethodName)) ∈ gt := gt_of (in_2 (List.mem_of_getElem? (i := 163) (by decide +kernel))) rfl
theorem wd_2_165 : (Jvm.Cond.instanceMethod ({ cls := "HexTable$Seeker", name := "descend", desc := "(I)I" } : Jvm.MethodName)) ∈ gt := gt_of (in_2 (List.mem_of_getElem? (i := 165) (by decide +kernel))) rfl
theorem wd_2_166 : (Jvm.Cond.code ({ cls := "HexTable$Seeker", name := "descend", desc := "(I)I" } : Jvm.MethodName) prog_6_method_5_code (4 : Nat) (Option.some Jvm.ClassFile.FieldType.int)) ∈ gt := gt_of (in_2 (List.mem_of_getElem? (i := 166) (by decide +kernel))) rfl
theorem wd_2_167 : (Jvm.Cond.methodLink "HexTable$Seeker" (85 : Nat) ({ cls := "HexTable$Nodes", name := "leastChild", desc := "(I[I)I" } : Jvm.MethodName)) ∈ gt := gt_of (in_2 (List.mem_of_getElem? (i := 167) (by decide +kernel))) rfl
theorem wd_2_168 : (Jvm.Cond.instanceMethod ({ cls := "HexTable$Nodes", name := "leastChild", desc := "(I[I)I" } : Jvm.MethodName)) ∈ gt := gt_of (in_2 (List.mem_of_getElem? (i := 168) (by decide +kernel))) rfl
theorem wd_2_169 : (Jvm.Cond.selects "HexTable$Nodes" ({ cls := "HexTable$Nodes", name := "leastChild", desc := "(I[I)I" } : Jvm.MethodName) ({ cls := "HexTable$Nodes", name := "leastChild", desc := "(I[I)I" } : Jvm.MethodName)) ∈ gt := gt_of (in_2 (List.mem_of_getElem? (i := 169) (by decide +kernel))) rfl
theorem wd_2_170 : (Jvm.Cond.code ({ cls := "HexTable$Nodes", name := "leastChild", desc := "(I[I)I" } : Jvm.MethodName) prog_5_method_5_code (6 : Nat) (Option.some Jvm.ClassFile.FieldType.int)) ∈ gt := gt_of (in_2 (List.mem_of_getElem? (i := 170) (by decide +kernel))) rfl
theorem wd_2_171 : (Jvm.Cond.methodLink "HexTable$Seeker" (92 : Nat) ({ cls := "HexTable$Board", name := "put", desc := "(II)V" } : Jvm.MethodName)) ∈ gt := gt_of (in_2 (List.mem_of_getElem? (i := 171) (by decide +kernel))) rfl
theorem wd_2_173 : (Jvm.Cond.methodLink "HexTable$Seeker" (52 : Nat) ({ cls := "HexTable$Seeker", name := "expand", desc := "(II)Z" } : Jvm.MethodName)) ∈ gt := gt_of (in_2 (List.mem_of_getElem? (i := 173) (by decide +kernel))) rfl
theorem wd_2_175 : (Jvm.Cond.instanceMethod ({ cls := "HexTable$Seeker", name := "expand", desc := "(II)Z" } : Jvm.MethodName)) ∈ gt := gt_of (in_2 (List.mem_of_getElem? (i := 175) (by decide +kernel))) rfl
theorem wd_2_176 : (Jvm.Cond.code ({ cls := "HexTable$Seeker", name := "expand", desc := "(II)Z" } : Jvm.MethodName) prog_6_method_6_code (5 : Nat) (Option.some Jvm.ClassFile.FieldType.boolean)) ∈ gt := gt_of (in_2 (List.mem_of_getElem? (i := 176) (by decide +kernel))) rfl
theorem wd_2_177 : (Jvm.Cond.methodLink "HexTable$Seeker" (95 : Nat) ({ cls := "HexTable$Board", name := "countEmpty", desc := "()I" } : Jvm.MethodName)) ∈ gt := gt_of (in_2 (List.mem_of_getElem? (i := 177) (by decide +kernel))) rfl
theorem wd_2_178 : (Jvm.Cond.methodLink "HexTable$Seeker" (99 : Nat) ({ cls := "HexTable$Board", name := "markFromEdges", desc := "(I)V" } : Jvm.MethodName)) ∈ gt := gt_of (in_2 (List.mem_of_getElem? (i := 178) (by decide +kernel))) rfl
theorem wd_2_179 : (Jvm.Cond.methodLink "HexTable$Seeker" (105 : Nat) ({ cls := "HexTable$Board", name := "isEmpty", desc := "(I)Z" } : Jvm.MethodName)) ∈ gt := gt_of (in_2 (List.mem_of_getElem? (i := 179) (by decide +kernel))) rfl
theorem wd_2_180 : (Jvm.Cond.methodLink "HexTable$Seeker" (108 : Nat) ({ cls := "HexTable$Seeker", name := "addChild", desc := "(II)V" } : Jvm.MethodName)) ∈ gt := gt_of (in_2 (List.mem_of_getElem? (i := 180) (by decide +kernel))) rfl
theorem wd_2_182 : (Jvm.Cond.instanceMethod ({ cls := "HexTable$Seeker", name := "addChild", desc := "(II)V" } : Jvm.MethodName)) ∈ gt := gt_of (in_2 (List.mem_of_getElem? (i := 182) (by decide +kernel))) rfl
theorem wd_2_183 : (Jvm.Cond.code ({ cls := "HexTable$Seeker", name := "addChild", desc := "(II)V" } : Jvm.MethodName) prog_6_method_7_code (4 : Nat) (Option.none : Option Jvm.ClassFile.FieldType)) ∈ gt := gt_of (in_2 (List.mem_of_getElem? (i := 183) (by decide +kernel))) rfl
theorem wd_2_184 : (Jvm.Cond.methodLink "HexTable$Seeker" (111 : Nat) ({ cls := "HexTable$Board", name := "wouldWin", desc := "(II)Z" } : Jvm.MethodName)) ∈ gt := gt_of (in_2 (List.mem_of_getElem? (i := 184) (by decide +kernel))) rfl
theorem wd_2_185 : (Jvm.Cond.instanceMethod ({ cls := "HexTable$Board", name := "wouldWin", desc := "(II)Z" } : Jvm.MethodName)) ∈ gt := gt_of (in_2 (List.mem_of_getElem? (i := 185) (by decide +kernel))) rfl
theorem wd_2_186 : (Jvm.Cond.selects "HexTable$Board" ({ cls := "HexTable$Board", name := "wouldWin", desc := "(II)Z" } : Jvm.MethodName) ({ cls := "HexTable$Board", name := "wouldWin", desc := "(II)Z" } : Jvm.MethodName)) ∈ gt := gt_of (in_2 (List.mem_of_getElem? (i := 186) (by decide +kernel))) rfl
theorem wd_2_187 : (Jvm.Cond.code ({ cls := "HexTable$Board", name := "wouldWin", desc := "(II)Z" } : Jvm.MethodName) prog_2_method_22_code (6 : Nat) (Option.some Jvm.ClassFile.FieldType.boolean)) ∈ gt := gt_of (in_2 (List.mem_of_getElem? (i := 187) (by decide +kernel))) rfl
theorem wd_2_188 : (Jvm.Cond.constant "HexTable$Seeker" (114 : Nat) (1000000000 : Int32)) ∈ gt := gt_of (in_2 (List.mem_of_getElem? (i := 188) (by decide +kernel))) rfl
theorem wd_2_189 : (Jvm.Cond.methodLink "HexTable$Seeker" (56 : Nat) ({ cls := "HexTable$Seeker", name := "climb", desc := "(I)V" } : Jvm.MethodName)) ∈ gt := gt_of (in_2 (List.mem_of_getElem? (i := 189) (by decide +kernel))) rfl
theorem wd_2_191 : (Jvm.Cond.instanceMethod ({ cls := "HexTable$Seeker", name := "climb", desc := "(I)V" } : Jvm.MethodName)) ∈ gt := gt_of (in_2 (List.mem_of_getElem? (i := 191) (by decide +kernel))) rfl
theorem wd_2_192 : (Jvm.Cond.code ({ cls := "HexTable$Seeker", name := "climb", desc := "(I)V" } : Jvm.MethodName) prog_6_method_8_code (4 : Nat) (Option.none : Option Jvm.ClassFile.FieldType)) ∈ gt := gt_of (in_2 (List.mem_of_getElem? (i := 192) (by decide +kernel))) rfl
theorem wd_2_193 : (Jvm.Cond.methodLink "HexTable$Seeker" (115 : Nat) ({ cls := "HexTable$Seeker", name := "reckon", desc := "(I)V" } : Jvm.MethodName)) ∈ gt := gt_of (in_2 (List.mem_of_getElem? (i := 193) (by decide +kernel))) rfl
theorem wd_2_195 : (Jvm.Cond.instanceMethod ({ cls := "HexTable$Seeker", name := "reckon", desc := "(I)V" } : Jvm.MethodName)) ∈ gt := gt_of (in_2 (List.mem_of_getElem? (i := 195) (by decide +kernel))) rfl
theorem wd_2_196 : (Jvm.Cond.code ({ cls := "HexTable$Seeker", name := "reckon", desc := "(I)V" } : Jvm.MethodName) prog_6_method_9_code (4 : Nat) (Option.none : Option Jvm.ClassFile.FieldType)) ∈ gt := gt_of (in_2 (List.mem_of_getElem? (i := 196) (by decide +kernel))) rfl
theorem wd_2_197 : (Jvm.Cond.methodLink "HexTable$Seeker" (121 : Nat) ({ cls := "HexTable$Nodes", name := "sumOfChildren", desc := "(I[I)I" } : Jvm.MethodName)) ∈ gt := gt_of (in_2 (List.mem_of_getElem? (i := 197) (by decide +kernel))) rfl
theorem wd_2_198 : (Jvm.Cond.instanceMethod ({ cls := "HexTable$Nodes", name := "sumOfChildren", desc := "(I[I)I" } : Jvm.MethodName)) ∈ gt := gt_of (in_2 (List.mem_of_getElem? (i := 198) (by decide +kernel))) rfl
theorem wd_2_199 : (Jvm.Cond.selects "HexTable$Nodes" ({ cls := "HexTable$Nodes", name := "sumOfChildren", desc := "(I[I)I" } : Jvm.MethodName) ({ cls := "HexTable$Nodes", name := "sumOfChildren", desc := "(I[I)I" } : Jvm.MethodName)) ∈ gt := gt_of (in_2 (List.mem_of_getElem? (i := 199) (by decide +kernel))) rfl
theorem wd_2_200 : (Jvm.Cond.code ({ cls := "HexTable$Nodes", name := "sumOfChildren", desc := "(I[I)I" } : Jvm.MethodName) prog_5_method_6_code (5 : Nat) (Option.some Jvm.ClassFile.FieldType.int)) ∈ gt := gt_of (in_2 (List.mem_of_getElem? (i := 200) (by decide +kernel))) rfl
theorem wd_2_201 : (Jvm.Cond.constant "HexTable$Nodes" (47 : Nat) (1000000000 : Int32)) ∈ gt := gt_of (in_2 (List.mem_of_getElem? (i := 201) (by decide +kernel))) rfl
theorem wd_2_202 : (Jvm.Cond.methodLink "HexTable$Nodes" (48 : Nat) ({ cls := "java/lang/Math", name := "min", desc := "(II)I" } : Jvm.MethodName)) ∈ gt := gt_of (in_2 (List.mem_of_getElem? (i := 202) (by decide +kernel))) rfl
theorem wd_2_203 : (Jvm.Cond.methodLink "HexTable$Seeker" (60 : Nat) ({ cls := "HexTable$Seeker", name := "foundAt", desc := "(I)I" } : Jvm.MethodName)) ∈ gt := gt_of (in_2 (List.mem_of_getElem? (i := 203) (by decide +kernel))) rfl
theorem wd_2_205 : (Jvm.Cond.instanceMethod ({ cls := "HexTable$Seeker", name := "foundAt", desc := "(I)I" } : Jvm.MethodName)) ∈ gt := gt_of (in_2 (List.mem_of_getElem? (i := 205) (by decide +kernel))) rfl
theorem wd_2_206 : (Jvm.Cond.code ({ cls := "HexTable$Seeker", name := "foundAt", desc := "(I)I" } : Jvm.MethodName) prog_6_method_4_code (2 : Nat) (Option.some Jvm.ClassFile.FieldType.int)) ∈ gt := gt_of (in_2 (List.mem_of_getElem? (i := 206) (by decide +kernel))) rfl
theorem wd_2_207 : (Jvm.Cond.methodLink "HexTable$Seeker" (63 : Nat) ({ cls := "HexTable$Seeker", name := "writePlan", desc := "(II)V" } : Jvm.MethodName)) ∈ gt := gt_of (in_2 (List.mem_of_getElem? (i := 207) (by decide +kernel))) rfl
theorem wd_2_209 : (Jvm.Cond.instanceMethod ({ cls := "HexTable$Seeker", name := "writePlan", desc := "(II)V" } : Jvm.MethodName)) ∈ gt := gt_of (in_2 (List.mem_of_getElem? (i := 209) (by decide +kernel))) rfl
theorem wd_2_210 : (Jvm.Cond.code ({ cls := "HexTable$Seeker", name := "writePlan", desc := "(II)V" } : Jvm.MethodName) prog_6_method_10_code (10 : Nat) (Option.none : Option Jvm.ClassFile.FieldType)) ∈ gt := gt_of (in_2 (List.mem_of_getElem? (i := 210) (by decide +kernel))) rfl
theorem wd_2_211 : (Jvm.Cond.methodLink "HexTable$Seeker" (124 : Nat) ({ cls := "HexTable$Seeker", name := "firstInPlan", desc := "(IZ[I)I" } : Jvm.MethodName)) ∈ gt := gt_of (in_2 (List.mem_of_getElem? (i := 211) (by decide +kernel))) rfl
theorem wd_2_213 : (Jvm.Cond.instanceMethod ({ cls := "HexTable$Seeker", name := "firstInPlan", desc := "(IZ[I)I" } : Jvm.MethodName)) ∈ gt := gt_of (in_2 (List.mem_of_getElem? (i := 213) (by decide +kernel))) rfl
theorem wd_2_214 : (Jvm.Cond.code ({ cls := "HexTable$Seeker", name := "firstInPlan", desc := "(IZ[I)I" } : Jvm.MethodName) prog_6_method_11_code (4 : Nat) (Option.some Jvm.ClassFile.FieldType.int)) ∈ gt := gt_of (in_2 (List.mem_of_getElem? (i := 214) (by decide +kernel))) rfl
theorem wd_2_215 : (Jvm.Cond.methodLink "HexTable$Seeker" (128 : Nat) ({ cls := "HexTable$Entries", name := "add", desc := "(II)I" } : Jvm.MethodName)) ∈ gt := gt_of (in_2 (List.mem_of_getElem? (i := 215) (by decide +kernel))) rfl
theorem wd_2_216 : (Jvm.Cond.instanceMethod ({ cls := "HexTable$Entries", name := "add", desc := "(II)I" } : Jvm.MethodName)) ∈ gt := gt_of (in_2 (List.mem_of_getElem? (i := 216) (by decide +kernel))) rfl
theorem wd_2_217 : (Jvm.Cond.selects "HexTable$Entries" ({ cls := "HexTable$Entries", name := "add", desc := "(II)I" } : Jvm.MethodName) ({ cls := "HexTable$Entries", name := "add", desc := "(II)I" } : Jvm.MethodName)) ∈ gt := gt_of (in_2 (List.mem_of_getElem? (i := 217) (by decide +kernel))) rfl
theorem wd_2_218 : (Jvm.Cond.code ({ cls := "HexTable$Entries", name := "add", desc := "(II)I" } : Jvm.MethodName) prog_4_method_3_code (4 : Nat) (Option.some Jvm.ClassFile.FieldType.int)) ∈ gt := gt_of (in_2 (List.mem_of_getElem? (i := 218) (by decide +kernel))) rfl
theorem wd_2_220 : (Jvm.Cond.methodLink "HexTable$Entries" (26 : Nat) ({ cls := "java/util/Arrays", name := "copyOf", desc := "([II)[I" } : Jvm.MethodName)) ∈ gt := gt_of (in_2 (List.mem_of_getElem? (i := 220) (by decide +kernel))) rfl
theorem wd_2_221 : (Jvm.Cond.methodLink "HexTable$Seeker" (129 : Nat) ({ cls := "HexTable$Nodes", name := "nextSibling", desc := "(I)I" } : Jvm.MethodName)) ∈ gt := gt_of (in_2 (List.mem_of_getElem? (i := 221) (by decide +kernel))) rfl
theorem wd_2_222 : (Jvm.Cond.instanceMethod ({ cls := "HexTable$Nodes", name := "nextSibling", desc := "(I)I" } : Jvm.MethodName)) ∈ gt := gt_of (in_2 (List.mem_of_getElem? (i := 222) (by decide +kernel))) rfl
theorem wd_2_223 : (Jvm.Cond.selects "HexTable$Nodes" ({ cls := "HexTable$Nodes", name := "nextSibling", desc := "(I)I" } : Jvm.MethodName) ({ cls := "HexTable$Nodes", name := "nextSibling", desc := "(I)I" } : Jvm.MethodName)) ∈ gt := gt_of (in_2 (List.mem_of_getElem? (i := 223) (by decide +kernel))) rfl
theorem wd_2_224 : (Jvm.Cond.code ({ cls := "HexTable$Nodes", name := "nextSibling", desc := "(I)I" } : Jvm.MethodName) prog_5_method_7_code (3 : Nat) (Option.some Jvm.ClassFile.FieldType.int)) ∈ gt := gt_of (in_2 (List.mem_of_getElem? (i := 224) (by decide +kernel))) rfl
theorem wd_2_225 : (Jvm.Cond.methodLink "HexTable$Seeker" (132 : Nat) ({ cls := "HexTable$Entries", name := "has", desc := "(I)Z" } : Jvm.MethodName)) ∈ gt := gt_of (in_2 (List.mem_of_getElem? (i := 225) (by decide +kernel))) rfl
theorem wd_2_226 : (Jvm.Cond.instanceMethod ({ cls := "HexTable$Entries", name := "has", desc := "(I)Z" } : Jvm.MethodName)) ∈ gt := gt_of (in_2 (List.mem_of_getElem? (i := 226) (by decide +kernel))) rfl
theorem wd_2_227 : (Jvm.Cond.selects "HexTable$Entries" ({ cls := "HexTable$Entries", name := "has", desc := "(I)Z" } : Jvm.MethodName) ({ cls := "HexTable$Entries", name := "has", desc := "(I)Z" } : Jvm.MethodName)) ∈ gt := gt_of (in_2 (List.mem_of_getElem? (i := 227) (by decide +kernel))) rfl
theorem wd_2_228 : (Jvm.Cond.code ({ cls := "HexTable$Entries", name := "has", desc := "(I)Z" } : Jvm.MethodName) prog_4_method_2_code (2 : Nat) (Option.some Jvm.ClassFile.FieldType.boolean)) ∈ gt := gt_of (in_2 (List.mem_of_getElem? (i := 228) (by decide +kernel))) rfl
theorem wd_2_229 : (Jvm.Cond.methodLink "HexTableLaw" (66 : Nat) ({ cls := "HexTable", name := "node", desc := "(II)I" } : Jvm.MethodName)) ∈ gt := gt_of (in_2 (List.mem_of_getElem? (i := 229) (by decide +kernel))) rfl
theorem wd_2_230 : (Jvm.Cond.instanceMethod ({ cls := "HexTable", name := "node", desc := "(II)I" } : Jvm.MethodName)) ∈ gt := gt_of (in_2 (List.mem_of_getElem? (i := 230) (by decide +kernel))) rfl
theorem wd_2_231 : (Jvm.Cond.selects "HexTable" ({ cls := "HexTable", name := "node", desc := "(II)I" } : Jvm.MethodName) ({ cls := "HexTable", name := "node", desc := "(II)I" } : Jvm.MethodName)) ∈ gt := gt_of (in_2 (List.mem_of_getElem? (i := 231) (by decide +kernel))) rfl
theorem wd_2_232 : (Jvm.Cond.code ({ cls := "HexTable", name := "node", desc := "(II)I" } : Jvm.MethodName) prog_1_method_12_code (3 : Nat) (Option.some Jvm.ClassFile.FieldType.int)) ∈ gt := gt_of (in_2 (List.mem_of_getElem? (i := 232) (by decide +kernel))) rfl
theorem wd_2_233 : (Jvm.Cond.methodLink "HexTable" (141 : Nat) ({ cls := "HexTable$Nodes", name := "tell", desc := "(II)I" } : Jvm.MethodName)) ∈ gt := gt_of (in_2 (List.mem_of_getElem? (i := 233) (by decide +kernel))) rfl
theorem wd_2_234 : (Jvm.Cond.instanceMethod ({ cls := "HexTable$Nodes", name := "tell", desc := "(II)I" } : Jvm.MethodName)) ∈ gt := gt_of (in_2 (List.mem_of_getElem? (i := 234) (by decide +kernel))) rfl
theorem wd_2_235 : (Jvm.Cond.selects "HexTable$Nodes" ({ cls := "HexTable$Nodes", name := "tell", desc := "(II)I" } : Jvm.MethodName) ({ cls := "HexTable$Nodes", name := "tell", desc := "(II)I" } : Jvm.MethodName)) ∈ gt := gt_of (in_2 (List.mem_of_getElem? (i := 235) (by decide +kernel))) rfl
theorem wd_2_236 : (Jvm.Cond.code ({ cls := "HexTable$Nodes", name := "tell", desc := "(II)I" } : Jvm.MethodName) prog_5_method_4_code (3 : Nat) (Option.some Jvm.ClassFile.FieldType.int)) ∈ gt := gt_of (in_2 (List.mem_of_getElem? (i := 236) (by decide +kernel))) rfl
theorem wd_2_237 : (Jvm.Cond.methodLink "HexTableLaw" (70 : Nat) ({ cls := "HexTable", name := "strategy", desc := "(II)I" } : Jvm.MethodName)) ∈ gt := gt_of (in_2 (List.mem_of_getElem? (i := 237) (by decide +kernel))) rfl
theorem wd_2_238 : (Jvm.Cond.instanceMethod ({ cls := "HexTable", name := "strategy", desc := "(II)I" } : Jvm.MethodName)) ∈ gt := gt_of (in_2 (List.mem_of_getElem? (i := 238) (by decide +kernel))) rfl
theorem wd_2_239 : (Jvm.Cond.selects "HexTable" ({ cls := "HexTable", name := "strategy", desc := "(II)I" } : Jvm.MethodName) ({ cls := "HexTable", name := "strategy", desc := "(II)I" } : Jvm.MethodName)) ∈ gt := gt_of (in_2 (List.mem_of_getElem? (i := 239) (by decide +kernel))) rfl
theorem wd_3_0 : (Jvm.Cond.code ({ cls := "HexTable", name := "strategy", desc := "(II)I" } : Jvm.MethodName) prog_1_method_13_code (3 : Nat) (Option.some Jvm.ClassFile.FieldType.int)) ∈ gt := gt_of (in_3 (List.mem_of_getElem? (i := 0) (by decide +kernel))) rfl
theorem wd_3_1 : (Jvm.Cond.methodLink "HexTable" (144 : Nat) ({ cls := "HexTable$Entries", name := "has", desc := "(I)Z" } : Jvm.MethodName)) ∈ gt := gt_of (in_3 (List.mem_of_getElem? (i := 1) (by decide +kernel))) rfl
theorem wd_3_2 : (Jvm.Cond.methodLink "HexTableLaw" (74 : Nat) ({ cls := "HexTable", name := "load", desc := "()I" } : Jvm.MethodName)) ∈ gt := gt_of (in_3 (List.mem_of_getElem? (i := 2) (by decide +kernel))) rfl
theorem wd_3_3 : (Jvm.Cond.instanceMethod ({ cls := "HexTable", name := "load", desc := "()I" } : Jvm.MethodName)) ∈ gt := gt_of (in_3 (List.mem_of_getElem? (i := 3) (by decide +kernel))) rfl
theorem wd_3_4 : (Jvm.Cond.selects "HexTable" ({ cls := "HexTable", name := "load", desc := "()I" } : Jvm.MethodName) ({ cls := "HexTable", name := "load", desc := "()I" } : Jvm.MethodName)) ∈ gt := gt_of (in_3 (List.mem_of_getElem? (i := 4) (by decide +kernel))) rfl
theorem wd_3_5 : (Jvm.Cond.code ({ cls := "HexTable", name := "load", desc := "()I" } : Jvm.MethodName) prog_1_method_14_code (1 : Nat) (Option.some Jvm.ClassFile.FieldType.int)) ∈ gt := gt_of (in_3 (List.mem_of_getElem? (i := 5) (by decide +kernel))) rfl
theorem wd_3_6 : (Jvm.Cond.methodLink "HexTable" (153 : Nat) ({ cls := "HexTable$Entries", name := "copyEntries", desc := "(LHexTable$Entries;)V" } : Jvm.MethodName)) ∈ gt := gt_of (in_3 (List.mem_of_getElem? (i := 6) (by decide +kernel))) rfl
theorem wd_3_7 : (Jvm.Cond.instanceMethod ({ cls := "HexTable$Entries", name := "copyEntries", desc := "(LHexTable$Entries;)V" } : Jvm.MethodName)) ∈ gt := gt_of (in_3 (List.mem_of_getElem? (i := 7) (by decide +kernel))) rfl
theorem wd_3_8 : (Jvm.Cond.selects "HexTable$Entries" ({ cls := "HexTable$Entries", name := "copyEntries", desc := "(LHexTable$Entries;)V" } : Jvm.MethodName) ({ cls := "HexTable$Entries", name := "copyEntries", desc := "(LHexTable$Entries;)V" } : Jvm.MethodName)) ∈ gt := gt_of (in_3 (List.mem_of_getElem? (i := 8) (by decide +kernel))) rfl
theorem wd_3_9 : (Jvm.Cond.code ({ cls := "HexTable$Entries", name := "copyEntries", desc := "(LHexTable$Entries;)V" } : Jvm.MethodName) prog_4_method_4_code (3 : Nat) (Option.none : Option Jvm.ClassFile.FieldType)) ∈ gt := gt_of (in_3 (List.mem_of_getElem? (i := 9) (by decide +kernel))) rfl
theorem wd_3_10 : (Jvm.Cond.methodLink "HexTable$Entries" (32 : Nat) ({ cls := "HexTable$Entries", name := "add", desc := "(II)I" } : Jvm.MethodName)) ∈ gt := gt_of (in_3 (List.mem_of_getElem? (i := 10) (by decide +kernel))) rfl
theorem wd_3_11 : (Jvm.Cond.methodLink "HexTableLaw" (78 : Nat) ({ cls := "HexTable", name := "plant", desc := "(II)I" } : Jvm.MethodName)) ∈ gt := gt_of (in_3 (List.mem_of_getElem? (i := 11) (by decide +kernel))) rfl
theorem wd_3_12 : (Jvm.Cond.instanceMethod ({ cls := "HexTable", name := "plant", desc := "(II)I" } : Jvm.MethodName)) ∈ gt := gt_of (in_3 (List.mem_of_getElem? (i := 12) (by decide +kernel))) rfl
theorem wd_3_13 : (Jvm.Cond.selects "HexTable" ({ cls := "HexTable", name := "plant", desc := "(II)I" } : Jvm.MethodName) ({ cls := "HexTable", name := "plant", desc := "(II)I" } : Jvm.MethodName)) ∈ gt := gt_of (in_3 (List.mem_of_getElem? (i := 13) (by decide +kernel))) rfl
theorem wd_3_14 : (Jvm.Cond.code ({ cls := "HexTable", name := "plant", desc := "(II)I" } : Jvm.MethodName) prog_1_method_15_code (3 : Nat) (Option.some Jvm.ClassFile.FieldType.int)) ∈ gt := gt_of (in_3 (List.mem_of_getElem? (i := 14) (by decide +kernel))) rfl
theorem wd_3_15 : (Jvm.Cond.methodLink "HexTable" (157 : Nat) ({ cls := "HexTable$Entries", name := "add", desc := "(II)I" } : Jvm.MethodName)) ∈ gt := gt_of (in_3 (List.mem_of_getElem? (i := 15) (by decide +kernel))) rfl
theorem wd_3_16 : (Jvm.Cond.methodLink "HexTableLaw" (82 : Nat) ({ cls := "HexTable", name := "graft", desc := "(II)Z" } : Jvm.MethodName)) ∈ gt := gt_of (in_3 (List.mem_of_getElem? (i := 16) (by decide +kernel))) rfl
theorem wd_3_17 : (Jvm.Cond.instanceMethod ({ cls := "HexTable", name := "graft", desc := "(II)Z" } : Jvm.MethodName)) ∈ gt := gt_of (in_3 (List.mem_of_getElem? (i := 17) (by decide +kernel))) rfl
theorem wd_3_18 : (Jvm.Cond.selects "HexTable" ({ cls := "HexTable", name := "graft", desc := "(II)Z" } : Jvm.MethodName) ({ cls := "HexTable", name := "graft", desc := "(II)Z" } : Jvm.MethodName)) ∈ gt := gt_of (in_3 (List.mem_of_getElem? (i := 18) (by decide +kernel))) rfl
theorem wd_3_19 : (Jvm.Cond.code ({ cls := "HexTable", name := "graft", desc := "(II)Z" } : Jvm.MethodName) prog_1_method_16_code (3 : Nat) (Option.some Jvm.ClassFile.FieldType.boolean)) ∈ gt := gt_of (in_3 (List.mem_of_getElem? (i := 19) (by decide +kernel))) rfl
theorem wd_3_20 : (Jvm.Cond.methodLink "HexTableLaw" (86 : Nat) ({ cls := "HexTable", name := "prune", desc := "(I)I" } : Jvm.MethodName)) ∈ gt := gt_of (in_3 (List.mem_of_getElem? (i := 20) (by decide +kernel))) rfl
theorem wd_3_21 : (Jvm.Cond.instanceMethod ({ cls := "HexTable", name := "prune", desc := "(I)I" } : Jvm.MethodName)) ∈ gt := gt_of (in_3 (List.mem_of_getElem? (i := 21) (by decide +kernel))) rfl
theorem wd_3_22 : (Jvm.Cond.selects "HexTable" ({ cls := "HexTable", name := "prune", desc := "(I)I" } : Jvm.MethodName) ({ cls := "HexTable", name := "prune", desc := "(I)I" } : Jvm.MethodName)) ∈ gt := gt_of (in_3 (List.mem_of_getElem? (i := 22) (by decide +kernel))) rfl
theorem wd_3_23 : (Jvm.Cond.code ({ cls := "HexTable", name := "prune", desc := "(I)I" } : Jvm.MethodName) prog_1_method_17_code (2 : Nat) (Option.some Jvm.ClassFile.FieldType.int)) ∈ gt := gt_of (in_3 (List.mem_of_getElem? (i := 23) (by decide +kernel))) rfl
theorem wd_3_24 : (Jvm.Cond.methodLink "HexTableLaw" (90 : Nat) ({ cls := "HexTable", name := "check", desc := "(I)I" } : Jvm.MethodName)) ∈ gt := gt_of (in_3 (List.mem_of_getElem? (i := 24) (by decide +kernel))) rfl
theorem wd_3_25 : (Jvm.Cond.instanceMethod ({ cls := "HexTable", name := "check", desc := "(I)I" } : Jvm.MethodName)) ∈ gt := gt_of (in_3 (List.mem_of_getElem? (i := 25) (by decide +kernel))) rfl
theorem wd_3_26 : (Jvm.Cond.selects "HexTable" ({ cls := "HexTable", name := "check", desc := "(I)I" } : Jvm.MethodName) ({ cls := "HexTable", name := "check", desc := "(I)I" } : Jvm.MethodName)) ∈ gt := gt_of (in_3 (List.mem_of_getElem? (i := 26) (by decide +kernel))) rfl
theorem wd_3_27 : (Jvm.Cond.code ({ cls := "HexTable", name := "check", desc := "(I)I" } : Jvm.MethodName) prog_1_method_18_code (2 : Nat) (Option.some Jvm.ClassFile.FieldType.int)) ∈ gt := gt_of (in_3 (List.mem_of_getElem? (i := 27) (by decide +kernel))) rfl
theorem wd_3_28 : (Jvm.Cond.methodLink "HexTable" (160 : Nat) ({ cls := "HexTable$Checker", name := "judge", desc := "(II)I" } : Jvm.MethodName)) ∈ gt := gt_of (in_3 (List.mem_of_getElem? (i := 28) (by decide +kernel))) rfl
theorem wd_3_29 : (Jvm.Cond.instanceMethod ({ cls := "HexTable$Checker", name := "judge", desc := "(II)I" } : Jvm.MethodName)) ∈ gt := gt_of (in_3 (List.mem_of_getElem? (i := 29) (by decide +kernel))) rfl
theorem wd_3_30 : (Jvm.Cond.selects "HexTable$Checker" ({ cls := "HexTable$Checker", name := "judge", desc := "(II)I" } : Jvm.MethodName) ({ cls := "HexTable$Checker", name := "judge", desc := "(II)I" } : Jvm.MethodName)) ∈ gt := gt_of (in_3 (List.mem_of_getElem? (i := 30) (by decide +kernel))) rfl
theorem wd_3_31 : (Jvm.Cond.code ({ cls := "HexTable$Checker", name := "judge", desc := "(II)I" } : Jvm.MethodName) prog_3_method_2_code (7 : Nat) (Option.some Jvm.ClassFile.FieldType.int)) ∈ gt := gt_of (in_3 (List.mem_of_getElem? (i := 31) (by decide +kernel))) rfl
theorem wd_3_32 : (Jvm.Cond.methodLink "HexTable$Checker" (33 : Nat) ({ cls := "HexTable$Checker", name := "linkEntries", desc := "()V" } : Jvm.MethodName)) ∈ gt := gt_of (in_3 (List.mem_of_getElem? (i := 32) (by decide +kernel))) rfl
theorem wd_3_34 : (Jvm.Cond.instanceMethod ({ cls := "HexTable$Checker", name := "linkEntries", desc := "()V" } : Jvm.MethodName)) ∈ gt := gt_of (in_3 (List.mem_of_getElem? (i := 34) (by decide +kernel))) rfl
theorem wd_3_35 : (Jvm.Cond.code ({ cls := "HexTable$Checker", name := "linkEntries", desc := "()V" } : Jvm.MethodName) prog_3_method_4_code (3 : Nat) (Option.none : Option Jvm.ClassFile.FieldType)) ∈ gt := gt_of (in_3 (List.mem_of_getElem? (i := 35) (by decide +kernel))) rfl
theorem wd_3_36 : (Jvm.Cond.methodLink "HexTable$Checker" (69 : Nat) ({ cls := "java/util/Arrays", name := "fill", desc := "([II)V" } : Jvm.MethodName)) ∈ gt := gt_of (in_3 (List.mem_of_getElem? (i := 36) (by decide +kernel))) rfl
theorem wd_3_37 : (Jvm.Cond.methodLink "HexTable$Checker" (36 : Nat) ({ cls := "HexTable$Checker", name := "wrongBehind", desc := "(I)I" } : Jvm.MethodName)) ∈ gt := gt_of (in_3 (List.mem_of_getElem? (i := 37) (by decide +kernel))) rfl
theorem wd_3_39 : (Jvm.Cond.instanceMethod ({ cls := "HexTable$Checker", name := "wrongBehind", desc := "(I)I" } : Jvm.MethodName)) ∈ gt := gt_of (in_3 (List.mem_of_getElem? (i := 39) (by decide +kernel))) rfl
theorem wd_3_40 : (Jvm.Cond.code ({ cls := "HexTable$Checker", name := "wrongBehind", desc := "(I)I" } : Jvm.MethodName) prog_3_method_6_code (3 : Nat) (Option.some Jvm.ClassFile.FieldType.int)) ∈ gt := gt_of (in_3 (List.mem_of_getElem? (i := 40) (by decide +kernel))) rfl
theorem wd_3_41 : (Jvm.Cond.methodLink "HexTable$Checker" (82 : Nat) ({ cls := "HexTable$Checker", name := "coversEmptyCells", desc := "(I)Z" } : Jvm.MethodName)) ∈ gt := gt_of (in_3 (List.mem_of_getElem? (i := 41) (by decide +kernel))) rfl
theorem wd_3_43 : (Jvm.Cond.instanceMethod ({ cls := "HexTable$Checker", name := "coversEmptyCells", desc := "(I)Z" } : Jvm.MethodName)) ∈ gt := gt_of (in_3 (List.mem_of_getElem? (i := 43) (by decide +kernel))) rfl
theorem wd_3_44 : (Jvm.Cond.code ({ cls := "HexTable$Checker", name := "coversEmptyCells", desc := "(I)Z" } : Jvm.MethodName) prog_3_method_7_code (4 : Nat) (Option.some Jvm.ClassFile.FieldType.boolean)) ∈ gt := gt_of (in_3 (List.mem_of_getElem? (i := 44) (by decide +kernel))) rfl
theorem wd_3_45 : (Jvm.Cond.methodLink "HexTable$Checker" (85 : Nat) ({ cls := "HexTable$Board", name := "clearMarks", desc := "()V" } : Jvm.MethodName)) ∈ gt := gt_of (in_3 (List.mem_of_getElem? (i := 45) (by decide +kernel))) rfl
theorem wd_3_46 : (Jvm.Cond.methodLink "HexTable$Checker" (88 : Nat) ({ cls := "HexTable$Board", name := "markEmpty", desc := "(I)Z" } : Jvm.MethodName)) ∈ gt := gt_of (in_3 (List.mem_of_getElem? (i := 46) (by decide +kernel))) rfl
theorem wd_3_47 : (Jvm.Cond.instanceMethod ({ cls := "HexTable$Board", name := "markEmpty", desc := "(I)Z" } : Jvm.MethodName)) ∈ gt := gt_of (in_3 (List.mem_of_getElem? (i := 47) (by decide +kernel))) rfl
theorem wd_3_48 : (Jvm.Cond.selects "HexTable$Board" ({ cls := "HexTable$Board", name := "markEmpty", desc := "(I)Z" } : Jvm.MethodName) ({ cls := "HexTable$Board", name := "markEmpty", desc := "(I)Z" } : Jvm.MethodName)) ∈ gt := gt_of (in_3 (List.mem_of_getElem? (i := 48) (by decide +kernel))) rfl
theorem wd_3_49 : (Jvm.Cond.code ({ cls := "HexTable$Board", name := "markEmpty", desc := "(I)Z" } : Jvm.MethodName) prog_2_method_13_code (2 : Nat) (Option.some Jvm.ClassFile.FieldType.boolean)) ∈ gt := gt_of (in_3 (List.mem_of_getElem? (i := 49) (by decide +kernel))) rfl
theorem wd_3_50 : (Jvm.Cond.methodLink "HexTable$Board" (69 : Nat) ({ cls := "HexTable$Board", name := "isEmpty", desc := "(I)Z" } : Jvm.MethodName)) ∈ gt := gt_of (in_3 (List.mem_of_getElem? (i := 50) (by decide +kernel))) rfl
theorem wd_3_51 : (Jvm.Cond.methodLink "HexTable$Checker" (91 : Nat) ({ cls := "HexTable$Board", name := "countEmpty", desc := "()I" } : Jvm.MethodName)) ∈ gt := gt_of (in_3 (List.mem_of_getElem? (i := 51) (by decide +kernel))) rfl
theorem wd_3_52 : (Jvm.Cond.methodLink "HexTable$Checker" (40 : Nat) ({ cls := "HexTable$Checker", name := "wrongAt", desc := "(I)I" } : Jvm.MethodName)) ∈ gt := gt_of (in_3 (List.mem_of_getElem? (i := 52) (by decide +kernel))) rfl
theorem wd_3_54 : (Jvm.Cond.instanceMethod ({ cls := "HexTable$Checker", name := "wrongAt", desc := "(I)I" } : Jvm.MethodName)) ∈ gt := gt_of (in_3 (List.mem_of_getElem? (i := 54) (by decide +kernel))) rfl
theorem wd_3_55 : (Jvm.Cond.code ({ cls := "HexTable$Checker", name := "wrongAt", desc := "(I)I" } : Jvm.MethodName) prog_3_method_5_code (4 : Nat) (Option.some Jvm.ClassFile.FieldType.int)) ∈ gt := gt_of (in_3 (List.mem_of_getElem? (i := 55) (by decide +kernel))) rfl
theorem wd_3_56 : (Jvm.Cond.methodLink "HexTable$Checker" (75 : Nat) ({ cls := "HexTable$Board", name := "isEmpty", desc := "(I)Z" } : Jvm.MethodName)) ∈ gt := gt_of (in_3 (List.mem_of_getElem? (i := 56) (by decide +kernel))) rfl
theorem wd_3_57 : (Jvm.Cond.methodLink "HexTable$Checker" (56 : Nat) ({ cls := "HexTable$Board", name := "put", desc := "(II)V" } : Jvm.MethodName)) ∈ gt := gt_of (in_3 (List.mem_of_getElem? (i := 57) (by decide +kernel))) rfl
theorem wd_3_59 : (Jvm.Cond.methodLink "HexTable$Checker" (79 : Nat) ({ cls := "HexTable$Board", name := "wins", desc := "(I)Z" } : Jvm.MethodName)) ∈ gt := gt_of (in_3 (List.mem_of_getElem? (i := 59) (by decide +kernel))) rfl
theorem wd_3_60 : (Jvm.Cond.methodLink "HexTable$Checker" (43 : Nat) ({ cls := "HexTable$Checker", name := "climbToNext", desc := "(I)I" } : Jvm.MethodName)) ∈ gt := gt_of (in_3 (List.mem_of_getElem? (i := 60) (by decide +kernel))) rfl
theorem wd_3_62 : (Jvm.Cond.instanceMethod ({ cls := "HexTable$Checker", name := "climbToNext", desc := "(I)I" } : Jvm.MethodName)) ∈ gt := gt_of (in_3 (List.mem_of_getElem? (i := 62) (by decide +kernel))) rfl
theorem wd_3_63 : (Jvm.Cond.code ({ cls := "HexTable$Checker", name := "climbToNext", desc := "(I)I" } : Jvm.MethodName) prog_3_method_3_code (5 : Nat) (Option.some Jvm.ClassFile.FieldType.int)) ∈ gt := gt_of (in_3 (List.mem_of_getElem? (i := 63) (by decide +kernel))) rfl
theorem wd_3_64 : (Jvm.Cond.methodLink "HexTableLaw" (9 : Nat) ({ cls := "HexTableLaw", name := "cell", desc := "([II)I" } : Jvm.MethodName)) ∈ gt := gt_of (in_3 (List.mem_of_getElem? (i := 64) (by decide +kernel))) rfl
theorem wd_3_65 : (Jvm.Cond.static ({ cls := "HexTableLaw", name := "cell", desc := "([II)I" } : Jvm.MethodName)) ∈ gt := gt_of (in_3 (List.mem_of_getElem? (i := 65) (by decide +kernel))) rfl
theorem wd_3_66 : (Jvm.Cond.code ({ cls := "HexTableLaw", name := "cell", desc := "([II)I" } : Jvm.MethodName) method_2_code (2 : Nat) (Option.some Jvm.ClassFile.FieldType.int)) ∈ gt := gt_of (in_3 (List.mem_of_getElem? (i := 66) (by decide +kernel))) rfl
theorem wd_3_67 : (Jvm.Cond.classLink "HexTableLaw" (18 : Nat) "HexTableModel") ∈ gt := gt_of (in_3 (List.mem_of_getElem? (i := 67) (by decide +kernel))) rfl
theorem wd_3_68 : (Jvm.Cond.instantiable "HexTableModel" (38 : Nat)) ∈ gt := gt_of (in_3 (List.mem_of_getElem? (i := 68) (by decide +kernel))) rfl
theorem wd_3_69 : (Jvm.Cond.methodLink "HexTableLaw" (20 : Nat) ({ cls := "HexTableModel", name := "<init>", desc := "(I)V" } : Jvm.MethodName)) ∈ gt := gt_of (in_3 (List.mem_of_getElem? (i := 69) (by decide +kernel))) rfl
theorem wd_3_70 : (Jvm.Cond.instanceMethod ({ cls := "HexTableModel", name := "<init>", desc := "(I)V" } : Jvm.MethodName)) ∈ gt := gt_of (in_3 (List.mem_of_getElem? (i := 70) (by decide +kernel))) rfl
theorem wd_3_71 : (Jvm.Cond.code ({ cls := "HexTableModel", name := "<init>", desc := "(I)V" } : Jvm.MethodName) prog_9_method_1_code (2 : Nat) (Option.none : Option Jvm.ClassFile.FieldType)) ∈ gt := gt_of (in_3 (List.mem_of_getElem? (i := 71) (by decide +kernel))) rfl
theorem wd_3_72 : (Jvm.Cond.methodLink "HexTableModel" (1 : Nat) ({ cls := "java/lang/Object", name := "<init>", desc := "()V" } : Jvm.MethodName)) ∈ gt := gt_of (in_3 (List.mem_of_getElem? (i := 72) (by decide +kernel))) rfl
theorem wd_3_73 : (Jvm.Cond.fieldLink "HexTableModel" (7 : Nat) "HexTableModel" "board" "[B") ∈ gt := gt_of (in_3 (List.mem_of_getElem? (i := 73) (by decide +kernel))) rfl
theorem wd_3_74 : (Jvm.Cond.fieldLink "HexTableModel" (73 : Nat) "HexTableModel" "size" "I") ∈ gt := gt_of (in_3 (List.mem_of_getElem? (i := 74) (by decide +kernel))) rfl
theorem wd_3_75 : (Jvm.Cond.fieldLink "HexTableModel" (76 : Nat) "HexTableModel" "cells" "I") ∈ gt := gt_of (in_3 (List.mem_of_getElem? (i := 75) (by decide +kernel))) rfl
theorem wd_3_76 : (Jvm.Cond.fieldLink "HexTableModel" (13 : Nat) "HexTableModel" "turn" "I") ∈ gt := gt_of (in_3 (List.mem_of_getElem? (i := 76) (by decide +kernel))) rfl
theorem wd_3_77 : (Jvm.Cond.fieldLink "HexTableModel" (108 : Nat) "HexTableModel" "plays" "I") ∈ gt := gt_of (in_3 (List.mem_of_getElem? (i := 77) (by decide +kernel))) rfl
theorem wd_3_78 : (Jvm.Cond.fieldLink "HexTableModel" (17 : Nat) "HexTableModel" "played" "[I") ∈ gt := gt_of (in_3 (List.mem_of_getElem? (i := 78) (by decide +kernel))) rfl
theorem wd_3_79 : (Jvm.Cond.fieldLink "HexTableModel" (21 : Nat) "HexTableModel" "cellOf" "[I") ∈ gt := gt_of (in_3 (List.mem_of_getElem? (i := 79) (by decide +kernel))) rfl
theorem wd_3_80 : (Jvm.Cond.fieldLink "HexTableModel" (24 : Nat) "HexTableModel" "ahead" "[I") ∈ gt := gt_of (in_3 (List.mem_of_getElem? (i := 80) (by decide +kernel))) rfl
theorem wd_3_81 : (Jvm.Cond.fieldLink "HexTableModel" (27 : Nat) "HexTableModel" "proof" "[I") ∈ gt := gt_of (in_3 (List.mem_of_getElem? (i := 81) (by decide +kernel))) rfl
theorem wd_3_82 : (Jvm.Cond.fieldLink "HexTableModel" (30 : Nat) "HexTableModel" "disproof" "[I") ∈ gt := gt_of (in_3 (List.mem_of_getElem? (i := 82) (by decide +kernel))) rfl
theorem wd_3_83 : (Jvm.Cond.fieldLink "HexTableModel" (33 : Nat) "HexTableModel" "child" "[I") ∈ gt := gt_of (in_3 (List.mem_of_getElem? (i := 83) (by decide +kernel))) rfl
theorem wd_3_84 : (Jvm.Cond.fieldLink "HexTableModel" (36 : Nat) "HexTableModel" "many" "[I") ∈ gt := gt_of (in_3 (List.mem_of_getElem? (i := 84) (by decide +kernel))) rfl
theorem wd_3_85 : (Jvm.Cond.fieldLink "HexTableModel" (121 : Nat) "HexTableModel" "nodes" "I") ∈ gt := gt_of (in_3 (List.mem_of_getElem? (i := 85) (by decide +kernel))) rfl
theorem wd_3_86 : (Jvm.Cond.fieldLink "HexTableModel" (178 : Nat) "HexTableModel" "budgetOf" "I") ∈ gt := gt_of (in_3 (List.mem_of_getElem? (i := 86) (by decide +kernel))) rfl
theorem wd_3_87 : (Jvm.Cond.fieldLink "HexTableModel" (193 : Nat) "HexTableModel" "wins" "I") ∈ gt := gt_of (in_3 (List.mem_of_getElem? (i := 87) (by decide +kernel))) rfl
theorem wd_3_88 : (Jvm.Cond.fieldLink "HexTableModel" (39 : Nat) "HexTableModel" "strategyAhead" "[I") ∈ gt := gt_of (in_3 (List.mem_of_getElem? (i := 88) (by decide +kernel))) rfl
theorem wd_3_89 : (Jvm.Cond.fieldLink "HexTableModel" (42 : Nat) "HexTableModel" "strategyCell" "[I") ∈ gt := gt_of (in_3 (List.mem_of_getElem? (i := 89) (by decide +kernel))) rfl
theorem wd_3_90 : (Jvm.Cond.fieldLink "HexTableModel" (124 : Nat) "HexTableModel" "entries" "I") ∈ gt := gt_of (in_3 (List.mem_of_getElem? (i := 90) (by decide +kernel))) rfl
theorem wd_3_91 : (Jvm.Cond.fieldLink "HexTableModel" (45 : Nat) "HexTableModel" "treeAhead" "[I") ∈ gt := gt_of (in_3 (List.mem_of_getElem? (i := 91) (by decide +kernel))) rfl
theorem wd_3_92 : (Jvm.Cond.fieldLink "HexTableModel" (48 : Nat) "HexTableModel" "treeCell" "[I") ∈ gt := gt_of (in_3 (List.mem_of_getElem? (i := 92) (by decide +kernel))) rfl
theorem wd_3_93 : (Jvm.Cond.fieldLink "HexTableModel" (127 : Nat) "HexTableModel" "planted" "I") ∈ gt := gt_of (in_3 (List.mem_of_getElem? (i := 93) (by decide +kernel))) rfl
theorem wd_3_94 : (Jvm.Cond.fieldLink "HexTableModel" (51 : Nat) "HexTableModel" "seen" "[Z") ∈ gt := gt_of (in_3 (List.mem_of_getElem? (i := 94) (by decide +kernel))) rfl
theorem wd_3_95 : (Jvm.Cond.fieldLink "HexTableModel" (55 : Nat) "HexTableModel" "wave" "[I") ∈ gt := gt_of (in_3 (List.mem_of_getElem? (i := 95) (by decide +kernel))) rfl
theorem wd_3_96 : (Jvm.Cond.fieldLink "HexTableModel" (83 : Nat) "HexTableModel" "waves" "I") ∈ gt := gt_of (in_3 (List.mem_of_getElem? (i := 96) (by decide +kernel))) rfl
theorem wd_3_97 : (Jvm.Cond.fieldLink "HexTableModel" (130 : Nat) "HexTableModel" "ax" "I") ∈ gt := gt_of (in_3 (List.mem_of_getElem? (i := 97) (by decide +kernel))) rfl
theorem wd_3_98 : (Jvm.Cond.fieldLink "HexTableModel" (133 : Nat) "HexTableModel" "ay" "I") ∈ gt := gt_of (in_3 (List.mem_of_getElem? (i := 98) (by decide +kernel))) rfl
theorem wd_3_99 : (Jvm.Cond.fieldLink "HexTableModel" (140 : Nat) "HexTableModel" "bx" "I") ∈ gt := gt_of (in_3 (List.mem_of_getElem? (i := 99) (by decide +kernel))) rfl
theorem wd_3_100 : (Jvm.Cond.fieldLink "HexTableModel" (143 : Nat) "HexTableModel" "by" "I") ∈ gt := gt_of (in_3 (List.mem_of_getElem? (i := 100) (by decide +kernel))) rfl
theorem wd_3_101 : (Jvm.Cond.fieldLink "HexTableModel" (146 : Nat) "HexTableModel" "fx" "I") ∈ gt := gt_of (in_3 (List.mem_of_getElem? (i := 101) (by decide +kernel))) rfl
theorem wd_3_102 : (Jvm.Cond.fieldLink "HexTableModel" (149 : Nat) "HexTableModel" "fy" "I") ∈ gt := gt_of (in_3 (List.mem_of_getElem? (i := 102) (by decide +kernel))) rfl
theorem wd_3_103 : (Jvm.Cond.fieldLink "HexTableModel" (152 : Nat) "HexTableModel" "tx" "I") ∈ gt := gt_of (in_3 (List.mem_of_getElem? (i := 103) (by decide +kernel))) rfl
theorem wd_3_104 : (Jvm.Cond.fieldLink "HexTableModel" (155 : Nat) "HexTableModel" "ty" "I") ∈ gt := gt_of (in_3 (List.mem_of_getElem? (i := 104) (by decide +kernel))) rfl
theorem wd_3_105 : (Jvm.Cond.fieldLink "HexTableModel" (168 : Nat) "HexTableModel" "first" "I") ∈ gt := gt_of (in_3 (List.mem_of_getElem? (i := 105) (by decide +kernel))) rfl
theorem wd_3_106 : (Jvm.Cond.fieldLink "HexTableModel" (58 : Nat) "HexTableModel" "open" "[I") ∈ gt := gt_of (in_3 (List.mem_of_getElem? (i := 106) (by decide +kernel))) rfl
theorem wd_3_107 : (Jvm.Cond.fieldLink "HexTableModel" (61 : Nat) "HexTableModel" "behind" "[I") ∈ gt := gt_of (in_3 (List.mem_of_getElem? (i := 107) (by decide +kernel))) rfl
theorem wd_3_108 : (Jvm.Cond.fieldLink "HexTableModel" (64 : Nat) "HexTableModel" "heir" "[I") ∈ gt := gt_of (in_3 (List.mem_of_getElem? (i := 108) (by decide +kernel))) rfl
theorem wd_3_109 : (Jvm.Cond.fieldLink "HexTableModel" (67 : Nat) "HexTableModel" "beside" "[I") ∈ gt := gt_of (in_3 (List.mem_of_getElem? (i := 109) (by decide +kernel))) rfl
theorem wd_3_110 : (Jvm.Cond.fieldLink "HexTableModel" (70 : Nat) "HexTableModel" "wave2" "[I") ∈ gt := gt_of (in_3 (List.mem_of_getElem? (i := 110) (by decide +kernel))) rfl
theorem wd_3_188 : (Jvm.Cond.arrayClass Jvm.ClassFile.FieldType.byte) ∈ gt := gt_of (in_3 (List.mem_of_getElem? (i := 188) (by decide +kernel))) rfl
theorem wd_3_189 : (Jvm.Cond.arrayClass Jvm.ClassFile.FieldType.boolean) ∈ gt := gt_of (in_3 (List.mem_of_getElem? (i := 189) (by decide +kernel))) rfl
theorem wd_3_190 : (Jvm.Cond.methodLink "HexTableLaw" (25 : Nat) ({ cls := "HexTableModel", name := "set", desc := "(III)Z" } : Jvm.MethodName)) ∈ gt := gt_of (in_3 (List.mem_of_getElem? (i := 190) (by decide +kernel))) rfl
theorem wd_3_191 : (Jvm.Cond.instanceMethod ({ cls := "HexTableModel", name := "set", desc := "(III)Z" } : Jvm.MethodName)) ∈ gt := gt_of (in_3 (List.mem_of_getElem? (i := 191) (by decide +kernel))) rfl
theorem wd_3_192 : (Jvm.Cond.selects "HexTableModel" ({ cls := "HexTableModel", name := "set", desc := "(III)Z" } : Jvm.MethodName) ({ cls := "HexTableModel", name := "set", desc := "(III)Z" } : Jvm.MethodName)) ∈ gt := gt_of (in_3 (List.mem_of_getElem? (i := 192) (by decide +kernel))) rfl
theorem wd_3_193 : (Jvm.Cond.code ({ cls := "HexTableModel", name := "set", desc := "(III)Z" } : Jvm.MethodName) prog_9_method_12_code (4 : Nat) (Option.some Jvm.ClassFile.FieldType.boolean)) ∈ gt := gt_of (in_3 (List.mem_of_getElem? (i := 193) (by decide +kernel))) rfl
theorem wd_3_194 : (Jvm.Cond.methodLink "HexTableModel" (79 : Nat) ({ cls := "HexTableModel", name := "isCell", desc := "(II)Z" } : Jvm.MethodName)) ∈ gt := gt_of (in_3 (List.mem_of_getElem? (i := 194) (by decide +kernel))) rfl
theorem wd_3_196 : (Jvm.Cond.instanceMethod ({ cls := "HexTableModel", name := "isCell", desc := "(II)Z" } : Jvm.MethodName)) ∈ gt := gt_of (in_3 (List.mem_of_getElem? (i := 196) (by decide +kernel))) rfl
theorem wd_3_197 : (Jvm.Cond.code ({ cls := "HexTableModel", name := "isCell", desc := "(II)Z" } : Jvm.MethodName) prog_9_method_2_code (3 : Nat) (Option.some Jvm.ClassFile.FieldType.boolean)) ∈ gt := gt_of (in_3 (List.mem_of_getElem? (i := 197) (by decide +kernel))) rfl
theorem wd_3_198 : (Jvm.Cond.methodLink "HexTableLaw" (30 : Nat) ({ cls := "HexTableModel", name := "turn", desc := "(I)Z" } : Jvm.MethodName)) ∈ gt := gt_of (in_3 (List.mem_of_getElem? (i := 198) (by decide +kernel))) rfl
theorem wd_3_199 : (Jvm.Cond.instanceMethod ({ cls := "HexTableModel", name := "turn", desc := "(I)Z" } : Jvm.MethodName)) ∈ gt := gt_of (in_3 (List.mem_of_getElem? (i := 199) (by decide +kernel))) rfl
theorem wd_3_200 : (Jvm.Cond.selects "HexTableModel" ({ cls := "HexTableModel", name := "turn", desc := "(I)Z" } : Jvm.MethodName) ({ cls := "HexTableModel", name := "turn", desc := "(I)Z" } : Jvm.MethodName)) ∈ gt := gt_of (in_3 (List.mem_of_getElem? (i := 200) (by decide +kernel))) rfl
theorem wd_3_201 : (Jvm.Cond.code ({ cls := "HexTableModel", name := "turn", desc := "(I)Z" } : Jvm.MethodName) prog_9_method_13_code (2 : Nat) (Option.some Jvm.ClassFile.FieldType.boolean)) ∈ gt := gt_of (in_3 (List.mem_of_getElem? (i := 201) (by decide +kernel))) rfl
theorem wd_3_202 : (Jvm.Cond.methodLink "HexTableLaw" (35 : Nat) ({ cls := "HexTableModel", name := "play", desc := "(II)Z" } : Jvm.MethodName)) ∈ gt := gt_of (in_3 (List.mem_of_getElem? (i := 202) (by decide +kernel))) rfl
theorem wd_3_203 : (Jvm.Cond.instanceMethod ({ cls := "HexTableModel", name := "play", desc := "(II)Z" } : Jvm.MethodName)) ∈ gt := gt_of (in_3 (List.mem_of_getElem? (i := 203) (by decide +kernel))) rfl
theorem wd_3_204 : (Jvm.Cond.selects "HexTableModel" ({ cls := "HexTableModel", name := "play", desc := "(II)Z" } : Jvm.MethodName) ({ cls := "HexTableModel", name := "play", desc := "(II)Z" } : Jvm.MethodName)) ∈ gt := gt_of (in_3 (List.mem_of_getElem? (i := 204) (by decide +kernel))) rfl
theorem wd_3_205 : (Jvm.Cond.code ({ cls := "HexTableModel", name := "play", desc := "(II)Z" } : Jvm.MethodName) prog_9_method_14_code (3 : Nat) (Option.some Jvm.ClassFile.FieldType.boolean)) ∈ gt := gt_of (in_3 (List.mem_of_getElem? (i := 205) (by decide +kernel))) rfl
theorem wd_3_206 : (Jvm.Cond.methodLink "HexTableModel" (111 : Nat) ({ cls := "HexTableModel", name := "winner", desc := "()I" } : Jvm.MethodName)) ∈ gt := gt_of (in_3 (List.mem_of_getElem? (i := 206) (by decide +kernel))) rfl
theorem wd_3_208 : (Jvm.Cond.instanceMethod ({ cls := "HexTableModel", name := "winner", desc := "()I" } : Jvm.MethodName)) ∈ gt := gt_of (in_3 (List.mem_of_getElem? (i := 208) (by decide +kernel))) rfl
theorem wd_3_209 : (Jvm.Cond.code ({ cls := "HexTableModel", name := "winner", desc := "()I" } : Jvm.MethodName) prog_9_method_8_code (1 : Nat) (Option.some Jvm.ClassFile.FieldType.int)) ∈ gt := gt_of (in_3 (List.mem_of_getElem? (i := 209) (by decide +kernel))) rfl
theorem wd_3_210 : (Jvm.Cond.methodLink "HexTableModel" (100 : Nat) ({ cls := "HexTableModel", name := "isWon", desc := "(I)Z" } : Jvm.MethodName)) ∈ gt := gt_of (in_3 (List.mem_of_getElem? (i := 210) (by decide +kernel))) rfl
theorem wd_3_212 : (Jvm.Cond.instanceMethod ({ cls := "HexTableModel", name := "isWon", desc := "(I)Z" } : Jvm.MethodName)) ∈ gt := gt_of (in_3 (List.mem_of_getElem? (i := 212) (by decide +kernel))) rfl
theorem wd_3_213 : (Jvm.Cond.code ({ cls := "HexTableModel", name := "isWon", desc := "(I)Z" } : Jvm.MethodName) prog_9_method_7_code (4 : Nat) (Option.some Jvm.ClassFile.FieldType.boolean)) ∈ gt := gt_of (in_3 (List.mem_of_getElem? (i := 213) (by decide +kernel))) rfl
theorem wd_3_214 : (Jvm.Cond.methodLink "HexTableModel" (94 : Nat) ({ cls := "HexTableModel", name := "forget", desc := "()V" } : Jvm.MethodName)) ∈ gt := gt_of (in_3 (List.mem_of_getElem? (i := 214) (by decide +kernel))) rfl
theorem wd_3_216 : (Jvm.Cond.instanceMethod ({ cls := "HexTableModel", name := "forget", desc := "()V" } : Jvm.MethodName)) ∈ gt := gt_of (in_3 (List.mem_of_getElem? (i := 216) (by decide +kernel))) rfl
theorem wd_3_217 : (Jvm.Cond.code ({ cls := "HexTableModel", name := "forget", desc := "()V" } : Jvm.MethodName) prog_9_method_4_code (2 : Nat) (Option.none : Option Jvm.ClassFile.FieldType)) ∈ gt := gt_of (in_3 (List.mem_of_getElem? (i := 217) (by decide +kernel))) rfl
theorem wd_3_218 : (Jvm.Cond.methodLink "HexTableModel" (90 : Nat) ({ cls := "HexTableModel", name := "reach", desc := "(I)V" } : Jvm.MethodName)) ∈ gt := gt_of (in_3 (List.mem_of_getElem? (i := 218) (by decide +kernel))) rfl
theorem wd_3_220 : (Jvm.Cond.instanceMethod ({ cls := "HexTableModel", name := "reach", desc := "(I)V" } : Jvm.MethodName)) ∈ gt := gt_of (in_3 (List.mem_of_getElem? (i := 220) (by decide +kernel))) rfl
theorem wd_3_221 : (Jvm.Cond.code ({ cls := "HexTableModel", name := "reach", desc := "(I)V" } : Jvm.MethodName) prog_9_method_5_code (2 : Nat) (Option.none : Option Jvm.ClassFile.FieldType)) ∈ gt := gt_of (in_3 (List.mem_of_getElem? (i := 221) (by decide +kernel))) rfl
theorem wd_3_222 : (Jvm.Cond.methodLink "HexTableModel" (97 : Nat) ({ cls := "HexTableModel", name := "spread", desc := "(I)V" } : Jvm.MethodName)) ∈ gt := gt_of (in_3 (List.mem_of_getElem? (i := 222) (by decide +kernel))) rfl
theorem wd_3_224 : (Jvm.Cond.instanceMethod ({ cls := "HexTableModel", name := "spread", desc := "(I)V" } : Jvm.MethodName)) ∈ gt := gt_of (in_3 (List.mem_of_getElem? (i := 224) (by decide +kernel))) rfl
theorem wd_3_225 : (Jvm.Cond.code ({ cls := "HexTableModel", name := "spread", desc := "(I)V" } : Jvm.MethodName) prog_9_method_6_code (5 : Nat) (Option.none : Option Jvm.ClassFile.FieldType)) ∈ gt := gt_of (in_3 (List.mem_of_getElem? (i := 225) (by decide +kernel))) rfl
theorem wd_3_226 : (Jvm.Cond.methodLink "HexTableModel" (86 : Nat) ({ cls := "HexTableModel", name := "neighbour", desc := "(II)I" } : Jvm.MethodName)) ∈ gt := gt_of (in_3 (List.mem_of_getElem? (i := 226) (by decide +kernel))) rfl
theorem wd_3_228 : (Jvm.Cond.instanceMethod ({ cls := "HexTableModel", name := "neighbour", desc := "(II)I" } : Jvm.MethodName)) ∈ gt := gt_of (in_3 (List.mem_of_getElem? (i := 228) (by decide +kernel))) rfl
theorem wd_3_229 : (Jvm.Cond.code ({ cls := "HexTableModel", name := "neighbour", desc := "(II)I" } : Jvm.MethodName) prog_9_method_3_code (5 : Nat) (Option.some Jvm.ClassFile.FieldType.int)) ∈ gt := gt_of (in_3 (List.mem_of_getElem? (i := 229) (by decide +kernel))) rfl
theorem wd_3_230 : (Jvm.Cond.methodLink "HexTableLaw" (40 : Nat) ({ cls := "HexTableModel", name := "undo", desc := "()I" } : Jvm.MethodName)) ∈ gt := gt_of (in_3 (List.mem_of_getElem? (i := 230) (by decide +kernel))) rfl
theorem wd_3_231 : (Jvm.Cond.instanceMethod ({ cls := "HexTableModel", name := "undo", desc := "()I" } : Jvm.MethodName)) ∈ gt := gt_of (in_3 (List.mem_of_getElem? (i := 231) (by decide +kernel))) rfl
theorem wd_3_232 : (Jvm.Cond.selects "HexTableModel" ({ cls := "HexTableModel", name := "undo", desc := "()I" } : Jvm.MethodName) ({ cls := "HexTableModel", name := "undo", desc := "()I" } : Jvm.MethodName)) ∈ gt := gt_of (in_3 (List.mem_of_getElem? (i := 232) (by decide +kernel))) rfl
theorem wd_3_233 : (Jvm.Cond.code ({ cls := "HexTableModel", name := "undo", desc := "()I" } : Jvm.MethodName) prog_9_method_15_code (1 : Nat) (Option.some Jvm.ClassFile.FieldType.int)) ∈ gt := gt_of (in_3 (List.mem_of_getElem? (i := 233) (by decide +kernel))) rfl
theorem wd_3_234 : (Jvm.Cond.methodLink "HexTableLaw" (44 : Nat) ({ cls := "HexTableModel", name := "cell", desc := "(II)I" } : Jvm.MethodName)) ∈ gt := gt_of (in_3 (List.mem_of_getElem? (i := 234) (by decide +kernel))) rfl
theorem wd_3_235 : (Jvm.Cond.instanceMethod ({ cls := "HexTableModel", name := "cell", desc := "(II)I" } : Jvm.MethodName)) ∈ gt := gt_of (in_3 (List.mem_of_getElem? (i := 235) (by decide +kernel))) rfl
theorem wd_3_236 : (Jvm.Cond.selects "HexTableModel" ({ cls := "HexTableModel", name := "cell", desc := "(II)I" } : Jvm.MethodName) ({ cls := "HexTableModel", name := "cell", desc := "(II)I" } : Jvm.MethodName)) ∈ gt := gt_of (in_3 (List.mem_of_getElem? (i := 236) (by decide +kernel))) rfl
theorem wd_3_237 : (Jvm.Cond.code ({ cls := "HexTableModel", name := "cell", desc := "(II)I" } : Jvm.MethodName) prog_9_method_16_code (3 : Nat) (Option.some Jvm.ClassFile.FieldType.int)) ∈ gt := gt_of (in_3 (List.mem_of_getElem? (i := 237) (by decide +kernel))) rfl
theorem wd_3_238 : (Jvm.Cond.methodLink "HexTableLaw" (48 : Nat) ({ cls := "HexTableModel", name := "chain", desc := "(II)I" } : Jvm.MethodName)) ∈ gt := gt_of (in_3 (List.mem_of_getElem? (i := 238) (by decide +kernel))) rfl
theorem wd_3_239 : (Jvm.Cond.instanceMethod ({ cls := "HexTableModel", name := "chain", desc := "(II)I" } : Jvm.MethodName)) ∈ gt := gt_of (in_3 (List.mem_of_getElem? (i := 239) (by decide +kernel))) rfl
theorem wd_4_0 : (Jvm.Cond.selects "HexTableModel" ({ cls := "HexTableModel", name := "chain", desc := "(II)I" } : Jvm.MethodName) ({ cls := "HexTableModel", name := "chain", desc := "(II)I" } : Jvm.MethodName)) ∈ gt := gt_of (in_4 (List.mem_of_getElem? (i := 0) (by decide +kernel))) rfl
theorem wd_4_1 : (Jvm.Cond.code ({ cls := "HexTableModel", name := "chain", desc := "(II)I" } : Jvm.MethodName) prog_9_method_17_code (3 : Nat) (Option.some Jvm.ClassFile.FieldType.int)) ∈ gt := gt_of (in_4 (List.mem_of_getElem? (i := 1) (by decide +kernel))) rfl
theorem wd_4_2 : (Jvm.Cond.methodLink "HexTableModel" (104 : Nat) ({ cls := "HexTableModel", name := "nameOf", desc := "(I)I" } : Jvm.MethodName)) ∈ gt := gt_of (in_4 (List.mem_of_getElem? (i := 2) (by decide +kernel))) rfl
theorem wd_4_4 : (Jvm.Cond.instanceMethod ({ cls := "HexTableModel", name := "nameOf", desc := "(I)I" } : Jvm.MethodName)) ∈ gt := gt_of (in_4 (List.mem_of_getElem? (i := 4) (by decide +kernel))) rfl
theorem wd_4_5 : (Jvm.Cond.code ({ cls := "HexTableModel", name := "nameOf", desc := "(I)I" } : Jvm.MethodName) prog_9_method_11_code (3 : Nat) (Option.some Jvm.ClassFile.FieldType.int)) ∈ gt := gt_of (in_4 (List.mem_of_getElem? (i := 5) (by decide +kernel))) rfl
theorem wd_4_6 : (Jvm.Cond.methodLink "HexTableLaw" (53 : Nat) ({ cls := "HexTableModel", name := "about", desc := "(I)I" } : Jvm.MethodName)) ∈ gt := gt_of (in_4 (List.mem_of_getElem? (i := 6) (by decide +kernel))) rfl
theorem wd_4_7 : (Jvm.Cond.instanceMethod ({ cls := "HexTableModel", name := "about", desc := "(I)I" } : Jvm.MethodName)) ∈ gt := gt_of (in_4 (List.mem_of_getElem? (i := 7) (by decide +kernel))) rfl
theorem wd_4_8 : (Jvm.Cond.selects "HexTableModel" ({ cls := "HexTableModel", name := "about", desc := "(I)I" } : Jvm.MethodName) ({ cls := "HexTableModel", name := "about", desc := "(I)I" } : Jvm.MethodName)) ∈ gt := gt_of (in_4 (List.mem_of_getElem? (i := 8) (by decide +kernel))) rfl
theorem wd_4_9 : (Jvm.Cond.code ({ cls := "HexTableModel", name := "about", desc := "(I)I" } : Jvm.MethodName) prog_9_method_18_code (2 : Nat) (Option.some Jvm.ClassFile.FieldType.int)) ∈ gt := gt_of (in_4 (List.mem_of_getElem? (i := 9) (by decide +kernel))) rfl
theorem wd_4_10 : (Jvm.Cond.methodLink "HexTableModel" (115 : Nat) ({ cls := "HexTableModel", name := "empty", desc := "()I" } : Jvm.MethodName)) ∈ gt := gt_of (in_4 (List.mem_of_getElem? (i := 10) (by decide +kernel))) rfl
theorem wd_4_12 : (Jvm.Cond.instanceMethod ({ cls := "HexTableModel", name := "empty", desc := "()I" } : Jvm.MethodName)) ∈ gt := gt_of (in_4 (List.mem_of_getElem? (i := 12) (by decide +kernel))) rfl
theorem wd_4_13 : (Jvm.Cond.code ({ cls := "HexTableModel", name := "empty", desc := "()I" } : Jvm.MethodName) prog_9_method_9_code (3 : Nat) (Option.some Jvm.ClassFile.FieldType.int)) ∈ gt := gt_of (in_4 (List.mem_of_getElem? (i := 13) (by decide +kernel))) rfl
theorem wd_4_14 : (Jvm.Cond.methodLink "HexTableModel" (118 : Nat) ({ cls := "HexTableModel", name := "chains", desc := "()I" } : Jvm.MethodName)) ∈ gt := gt_of (in_4 (List.mem_of_getElem? (i := 14) (by decide +kernel))) rfl
theorem wd_4_16 : (Jvm.Cond.instanceMethod ({ cls := "HexTableModel", name := "chains", desc := "()I" } : Jvm.MethodName)) ∈ gt := gt_of (in_4 (List.mem_of_getElem? (i := 16) (by decide +kernel))) rfl
theorem wd_4_17 : (Jvm.Cond.code ({ cls := "HexTableModel", name := "chains", desc := "()I" } : Jvm.MethodName) prog_9_method_10_code (3 : Nat) (Option.some Jvm.ClassFile.FieldType.int)) ∈ gt := gt_of (in_4 (List.mem_of_getElem? (i := 17) (by decide +kernel))) rfl
theorem wd_4_18 : (Jvm.Cond.methodLink "HexTableLaw" (57 : Nat) ({ cls := "HexTableModel", name := "walk", desc := "()I" } : Jvm.MethodName)) ∈ gt := gt_of (in_4 (List.mem_of_getElem? (i := 18) (by decide +kernel))) rfl
theorem wd_4_19 : (Jvm.Cond.instanceMethod ({ cls := "HexTableModel", name := "walk", desc := "()I" } : Jvm.MethodName)) ∈ gt := gt_of (in_4 (List.mem_of_getElem? (i := 19) (by decide +kernel))) rfl
theorem wd_4_20 : (Jvm.Cond.selects "HexTableModel" ({ cls := "HexTableModel", name := "walk", desc := "()I" } : Jvm.MethodName) ({ cls := "HexTableModel", name := "walk", desc := "()I" } : Jvm.MethodName)) ∈ gt := gt_of (in_4 (List.mem_of_getElem? (i := 20) (by decide +kernel))) rfl
theorem wd_4_21 : (Jvm.Cond.code ({ cls := "HexTableModel", name := "walk", desc := "()I" } : Jvm.MethodName) prog_9_method_23_code (1 : Nat) (Option.some Jvm.ClassFile.FieldType.int)) ∈ gt := gt_of (in_4 (List.mem_of_getElem? (i := 21) (by decide +kernel))) rfl
theorem wd_4_22 : (Jvm.Cond.constant "HexTableModel" (164 : Nat) (100000 : Int32)) ∈ gt := gt_of (in_4 (List.mem_of_getElem? (i := 22) (by decide +kernel))) rfl
theorem wd_4_23 : (Jvm.Cond.methodLink "HexTableModel" (165 : Nat) ({ cls := "HexTableModel", name := "walked", desc := "(I)I" } : Jvm.MethodName)) ∈ gt := gt_of (in_4 (List.mem_of_getElem? (i := 23) (by decide +kernel))) rfl
theorem wd_4_25 : (Jvm.Cond.instanceMethod ({ cls := "HexTableModel", name := "walked", desc := "(I)I" } : Jvm.MethodName)) ∈ gt := gt_of (in_4 (List.mem_of_getElem? (i := 25) (by decide +kernel))) rfl
theorem wd_4_26 : (Jvm.Cond.code ({ cls := "HexTableModel", name := "walked", desc := "(I)I" } : Jvm.MethodName) prog_9_method_22_code (3 : Nat) (Option.some Jvm.ClassFile.FieldType.int)) ∈ gt := gt_of (in_4 (List.mem_of_getElem? (i := 26) (by decide +kernel))) rfl
theorem wd_4_27 : (Jvm.Cond.methodLink "HexTableModel" (158 : Nat) ({ cls := "HexTableModel", name := "third", desc := "()V" } : Jvm.MethodName)) ∈ gt := gt_of (in_4 (List.mem_of_getElem? (i := 27) (by decide +kernel))) rfl
theorem wd_4_29 : (Jvm.Cond.instanceMethod ({ cls := "HexTableModel", name := "third", desc := "()V" } : Jvm.MethodName)) ∈ gt := gt_of (in_4 (List.mem_of_getElem? (i := 29) (by decide +kernel))) rfl
theorem wd_4_30 : (Jvm.Cond.code ({ cls := "HexTableModel", name := "third", desc := "()V" } : Jvm.MethodName) prog_9_method_21_code (5 : Nat) (Option.none : Option Jvm.ClassFile.FieldType)) ∈ gt := gt_of (in_4 (List.mem_of_getElem? (i := 30) (by decide +kernel))) rfl
theorem wd_4_31 : (Jvm.Cond.methodLink "HexTableModel" (136 : Nat) ({ cls := "HexTableModel", name := "isBeside", desc := "(IIII)Z" } : Jvm.MethodName)) ∈ gt := gt_of (in_4 (List.mem_of_getElem? (i := 31) (by decide +kernel))) rfl
theorem wd_4_32 : (Jvm.Cond.static ({ cls := "HexTableModel", name := "isBeside", desc := "(IIII)Z" } : Jvm.MethodName)) ∈ gt := gt_of (in_4 (List.mem_of_getElem? (i := 32) (by decide +kernel))) rfl
theorem wd_4_33 : (Jvm.Cond.code ({ cls := "HexTableModel", name := "isBeside", desc := "(IIII)Z" } : Jvm.MethodName) prog_9_method_20_code (6 : Nat) (Option.some Jvm.ClassFile.FieldType.boolean)) ∈ gt := gt_of (in_4 (List.mem_of_getElem? (i := 33) (by decide +kernel))) rfl
theorem wd_4_34 : (Jvm.Cond.methodLink "HexTableModel" (161 : Nat) ({ cls := "HexTableModel", name := "sideAt", desc := "(II)I" } : Jvm.MethodName)) ∈ gt := gt_of (in_4 (List.mem_of_getElem? (i := 34) (by decide +kernel))) rfl
theorem wd_4_36 : (Jvm.Cond.instanceMethod ({ cls := "HexTableModel", name := "sideAt", desc := "(II)I" } : Jvm.MethodName)) ∈ gt := gt_of (in_4 (List.mem_of_getElem? (i := 36) (by decide +kernel))) rfl
theorem wd_4_37 : (Jvm.Cond.code ({ cls := "HexTableModel", name := "sideAt", desc := "(II)I" } : Jvm.MethodName) prog_9_method_19_code (3 : Nat) (Option.some Jvm.ClassFile.FieldType.int)) ∈ gt := gt_of (in_4 (List.mem_of_getElem? (i := 37) (by decide +kernel))) rfl
theorem wd_4_38 : (Jvm.Cond.methodLink "HexTableLaw" (61 : Nat) ({ cls := "HexTableModel", name := "step", desc := "(II)I" } : Jvm.MethodName)) ∈ gt := gt_of (in_4 (List.mem_of_getElem? (i := 38) (by decide +kernel))) rfl
theorem wd_4_39 : (Jvm.Cond.instanceMethod ({ cls := "HexTableModel", name := "step", desc := "(II)I" } : Jvm.MethodName)) ∈ gt := gt_of (in_4 (List.mem_of_getElem? (i := 39) (by decide +kernel))) rfl
theorem wd_4_40 : (Jvm.Cond.selects "HexTableModel" ({ cls := "HexTableModel", name := "step", desc := "(II)I" } : Jvm.MethodName) ({ cls := "HexTableModel", name := "step", desc := "(II)I" } : Jvm.MethodName)) ∈ gt := gt_of (in_4 (List.mem_of_getElem? (i := 40) (by decide +kernel))) rfl
theorem wd_4_41 : (Jvm.Cond.code ({ cls := "HexTableModel", name := "step", desc := "(II)I" } : Jvm.MethodName) prog_9_method_24_code (3 : Nat) (Option.some Jvm.ClassFile.FieldType.int)) ∈ gt := gt_of (in_4 (List.mem_of_getElem? (i := 41) (by decide +kernel))) rfl
theorem wd_4_42 : (Jvm.Cond.methodLink "HexTableLaw" (65 : Nat) ({ cls := "HexTableModel", name := "search", desc := "(I)I" } : Jvm.MethodName)) ∈ gt := gt_of (in_4 (List.mem_of_getElem? (i := 42) (by decide +kernel))) rfl
theorem wd_4_43 : (Jvm.Cond.instanceMethod ({ cls := "HexTableModel", name := "search", desc := "(I)I" } : Jvm.MethodName)) ∈ gt := gt_of (in_4 (List.mem_of_getElem? (i := 43) (by decide +kernel))) rfl
theorem wd_4_44 : (Jvm.Cond.selects "HexTableModel" ({ cls := "HexTableModel", name := "search", desc := "(I)I" } : Jvm.MethodName) ({ cls := "HexTableModel", name := "search", desc := "(I)I" } : Jvm.MethodName)) ∈ gt := gt_of (in_4 (List.mem_of_getElem? (i := 44) (by decide +kernel))) rfl
theorem wd_4_45 : (Jvm.Cond.code ({ cls := "HexTableModel", name := "search", desc := "(I)I" } : Jvm.MethodName) prog_9_method_29_code (3 : Nat) (Option.some Jvm.ClassFile.FieldType.int)) ∈ gt := gt_of (in_4 (List.mem_of_getElem? (i := 45) (by decide +kernel))) rfl
theorem wd_4_46 : (Jvm.Cond.methodLink "HexTableModel" (181 : Nat) ({ cls := "HexTableModel", name := "makeNode", desc := "(II)V" } : Jvm.MethodName)) ∈ gt := gt_of (in_4 (List.mem_of_getElem? (i := 46) (by decide +kernel))) rfl
theorem wd_4_48 : (Jvm.Cond.instanceMethod ({ cls := "HexTableModel", name := "makeNode", desc := "(II)V" } : Jvm.MethodName)) ∈ gt := gt_of (in_4 (List.mem_of_getElem? (i := 48) (by decide +kernel))) rfl
theorem wd_4_49 : (Jvm.Cond.code ({ cls := "HexTableModel", name := "makeNode", desc := "(II)V" } : Jvm.MethodName) prog_9_method_25_code (4 : Nat) (Option.none : Option Jvm.ClassFile.FieldType)) ∈ gt := gt_of (in_4 (List.mem_of_getElem? (i := 49) (by decide +kernel))) rfl
theorem wd_4_50 : (Jvm.Cond.constant "HexTableModel" (171 : Nat) (1000000000 : Int32)) ∈ gt := gt_of (in_4 (List.mem_of_getElem? (i := 50) (by decide +kernel))) rfl
theorem wd_4_51 : (Jvm.Cond.methodLink "HexTableModel" (189 : Nat) ({ cls := "HexTableModel", name := "grow", desc := "()Z" } : Jvm.MethodName)) ∈ gt := gt_of (in_4 (List.mem_of_getElem? (i := 51) (by decide +kernel))) rfl
theorem wd_4_53 : (Jvm.Cond.instanceMethod ({ cls := "HexTableModel", name := "grow", desc := "()Z" } : Jvm.MethodName)) ∈ gt := gt_of (in_4 (List.mem_of_getElem? (i := 53) (by decide +kernel))) rfl
theorem wd_4_54 : (Jvm.Cond.code ({ cls := "HexTableModel", name := "grow", desc := "()Z" } : Jvm.MethodName) prog_9_method_28_code (5 : Nat) (Option.some Jvm.ClassFile.FieldType.boolean)) ∈ gt := gt_of (in_4 (List.mem_of_getElem? (i := 54) (by decide +kernel))) rfl
theorem wd_4_55 : (Jvm.Cond.methodLink "HexTableModel" (174 : Nat) ({ cls := "HexTableModel", name := "best", desc := "(IZ)I" } : Jvm.MethodName)) ∈ gt := gt_of (in_4 (List.mem_of_getElem? (i := 55) (by decide +kernel))) rfl
theorem wd_4_57 : (Jvm.Cond.instanceMethod ({ cls := "HexTableModel", name := "best", desc := "(IZ)I" } : Jvm.MethodName)) ∈ gt := gt_of (in_4 (List.mem_of_getElem? (i := 57) (by decide +kernel))) rfl
theorem wd_4_58 : (Jvm.Cond.code ({ cls := "HexTableModel", name := "best", desc := "(IZ)I" } : Jvm.MethodName) prog_9_method_27_code (5 : Nat) (Option.some Jvm.ClassFile.FieldType.int)) ∈ gt := gt_of (in_4 (List.mem_of_getElem? (i := 58) (by decide +kernel))) rfl
theorem wd_4_59 : (Jvm.Cond.methodLink "HexTableModel" (185 : Nat) ({ cls := "HexTableModel", name := "reckon", desc := "(IZ)V" } : Jvm.MethodName)) ∈ gt := gt_of (in_4 (List.mem_of_getElem? (i := 59) (by decide +kernel))) rfl
theorem wd_4_61 : (Jvm.Cond.instanceMethod ({ cls := "HexTableModel", name := "reckon", desc := "(IZ)V" } : Jvm.MethodName)) ∈ gt := gt_of (in_4 (List.mem_of_getElem? (i := 61) (by decide +kernel))) rfl
theorem wd_4_62 : (Jvm.Cond.code ({ cls := "HexTableModel", name := "reckon", desc := "(IZ)V" } : Jvm.MethodName) prog_9_method_26_code (10 : Nat) (Option.none : Option Jvm.ClassFile.FieldType)) ∈ gt := gt_of (in_4 (List.mem_of_getElem? (i := 62) (by decide +kernel))) rfl
theorem wd_4_63 : (Jvm.Cond.constantLong "HexTableModel" (172 : Nat) (1000000000 : Int64)) ∈ gt := gt_of (in_4 (List.mem_of_getElem? (i := 63) (by decide +kernel))) rfl
theorem wd_4_64 : (Jvm.Cond.methodLink "HexTableModel" (196 : Nat) ({ cls := "HexTableModel", name := "gather", desc := "()V" } : Jvm.MethodName)) ∈ gt := gt_of (in_4 (List.mem_of_getElem? (i := 64) (by decide +kernel))) rfl
theorem wd_4_66 : (Jvm.Cond.instanceMethod ({ cls := "HexTableModel", name := "gather", desc := "()V" } : Jvm.MethodName)) ∈ gt := gt_of (in_4 (List.mem_of_getElem? (i := 66) (by decide +kernel))) rfl
theorem wd_4_67 : (Jvm.Cond.code ({ cls := "HexTableModel", name := "gather", desc := "()V" } : Jvm.MethodName) prog_9_method_33_code (6 : Nat) (Option.none : Option Jvm.ClassFile.FieldType)) ∈ gt := gt_of (in_4 (List.mem_of_getElem? (i := 67) (by decide +kernel))) rfl
theorem wd_4_68 : (Jvm.Cond.methodLink "HexTableModel" (199 : Nat) ({ cls := "HexTableModel", name := "isEnd", desc := "(I)Z" } : Jvm.MethodName)) ∈ gt := gt_of (in_4 (List.mem_of_getElem? (i := 68) (by decide +kernel))) rfl
theorem wd_4_70 : (Jvm.Cond.instanceMethod ({ cls := "HexTableModel", name := "isEnd", desc := "(I)Z" } : Jvm.MethodName)) ∈ gt := gt_of (in_4 (List.mem_of_getElem? (i := 70) (by decide +kernel))) rfl
theorem wd_4_71 : (Jvm.Cond.code ({ cls := "HexTableModel", name := "isEnd", desc := "(I)Z" } : Jvm.MethodName) prog_9_method_30_code (2 : Nat) (Option.some Jvm.ClassFile.FieldType.boolean)) ∈ gt := gt_of (in_4 (List.mem_of_getElem? (i := 71) (by decide +kernel))) rfl
theorem wd_4_72 : (Jvm.Cond.methodLink "HexTableModel" (202 : Nat) ({ cls := "HexTableModel", name := "isOwn", desc := "(I)Z" } : Jvm.MethodName)) ∈ gt := gt_of (in_4 (List.mem_of_getElem? (i := 72) (by decide +kernel))) rfl
theorem wd_4_74 : (Jvm.Cond.instanceMethod ({ cls := "HexTableModel", name := "isOwn", desc := "(I)Z" } : Jvm.MethodName)) ∈ gt := gt_of (in_4 (List.mem_of_getElem? (i := 74) (by decide +kernel))) rfl
theorem wd_4_75 : (Jvm.Cond.code ({ cls := "HexTableModel", name := "isOwn", desc := "(I)Z" } : Jvm.MethodName) prog_9_method_31_code (4 : Nat) (Option.some Jvm.ClassFile.FieldType.boolean)) ∈ gt := gt_of (in_4 (List.mem_of_getElem? (i := 75) (by decide +kernel))) rfl
theorem wd_4_76 : (Jvm.Cond.methodLink "HexTableModel" (205 : Nat) ({ cls := "HexTableModel", name := "isSure", desc := "(I)Z" } : Jvm.MethodName)) ∈ gt := gt_of (in_4 (List.mem_of_getElem? (i := 76) (by decide +kernel))) rfl
theorem wd_4_78 : (Jvm.Cond.instanceMethod ({ cls := "HexTableModel", name := "isSure", desc := "(I)Z" } : Jvm.MethodName)) ∈ gt := gt_of (in_4 (List.mem_of_getElem? (i := 78) (by decide +kernel))) rfl
theorem wd_4_79 : (Jvm.Cond.code ({ cls := "HexTableModel", name := "isSure", desc := "(I)Z" } : Jvm.MethodName) prog_9_method_32_code (2 : Nat) (Option.some Jvm.ClassFile.FieldType.boolean)) ∈ gt := gt_of (in_4 (List.mem_of_getElem? (i := 79) (by decide +kernel))) rfl
theorem wd_4_80 : (Jvm.Cond.methodLink "HexTableLaw" (69 : Nat) ({ cls := "HexTableModel", name := "node", desc := "(II)I" } : Jvm.MethodName)) ∈ gt := gt_of (in_4 (List.mem_of_getElem? (i := 80) (by decide +kernel))) rfl
theorem wd_4_81 : (Jvm.Cond.instanceMethod ({ cls := "HexTableModel", name := "node", desc := "(II)I" } : Jvm.MethodName)) ∈ gt := gt_of (in_4 (List.mem_of_getElem? (i := 81) (by decide +kernel))) rfl
theorem wd_4_82 : (Jvm.Cond.selects "HexTableModel" ({ cls := "HexTableModel", name := "node", desc := "(II)I" } : Jvm.MethodName) ({ cls := "HexTableModel", name := "node", desc := "(II)I" } : Jvm.MethodName)) ∈ gt := gt_of (in_4 (List.mem_of_getElem? (i := 82) (by decide +kernel))) rfl
theorem wd_4_83 : (Jvm.Cond.code ({ cls := "HexTableModel", name := "node", desc := "(II)I" } : Jvm.MethodName) prog_9_method_34_code (3 : Nat) (Option.some Jvm.ClassFile.FieldType.int)) ∈ gt := gt_of (in_4 (List.mem_of_getElem? (i := 83) (by decide +kernel))) rfl
theorem wd_4_84 : (Jvm.Cond.methodLink "HexTableLaw" (73 : Nat) ({ cls := "HexTableModel", name := "strategy", desc := "(II)I" } : Jvm.MethodName)) ∈ gt := gt_of (in_4 (List.mem_of_getElem? (i := 84) (by decide +kernel))) rfl
theorem wd_4_85 : (Jvm.Cond.instanceMethod ({ cls := "HexTableModel", name := "strategy", desc := "(II)I" } : Jvm.MethodName)) ∈ gt := gt_of (in_4 (List.mem_of_getElem? (i := 85) (by decide +kernel))) rfl
theorem wd_4_86 : (Jvm.Cond.selects "HexTableModel" ({ cls := "HexTableModel", name := "strategy", desc := "(II)I" } : Jvm.MethodName) ({ cls := "HexTableModel", name := "strategy", desc := "(II)I" } : Jvm.MethodName)) ∈ gt := gt_of (in_4 (List.mem_of_getElem? (i := 86) (by decide +kernel))) rfl
theorem wd_4_87 : (Jvm.Cond.code ({ cls := "HexTableModel", name := "strategy", desc := "(II)I" } : Jvm.MethodName) prog_9_method_35_code (3 : Nat) (Option.some Jvm.ClassFile.FieldType.int)) ∈ gt := gt_of (in_4 (List.mem_of_getElem? (i := 87) (by decide +kernel))) rfl
theorem wd_4_88 : (Jvm.Cond.methodLink "HexTableLaw" (77 : Nat) ({ cls := "HexTableModel", name := "load", desc := "()I" } : Jvm.MethodName)) ∈ gt := gt_of (in_4 (List.mem_of_getElem? (i := 88) (by decide +kernel))) rfl
theorem wd_4_89 : (Jvm.Cond.instanceMethod ({ cls := "HexTableModel", name := "load", desc := "()I" } : Jvm.MethodName)) ∈ gt := gt_of (in_4 (List.mem_of_getElem? (i := 89) (by decide +kernel))) rfl
theorem wd_4_90 : (Jvm.Cond.selects "HexTableModel" ({ cls := "HexTableModel", name := "load", desc := "()I" } : Jvm.MethodName) ({ cls := "HexTableModel", name := "load", desc := "()I" } : Jvm.MethodName)) ∈ gt := gt_of (in_4 (List.mem_of_getElem? (i := 90) (by decide +kernel))) rfl
theorem wd_4_91 : (Jvm.Cond.code ({ cls := "HexTableModel", name := "load", desc := "()I" } : Jvm.MethodName) prog_9_method_36_code (2 : Nat) (Option.some Jvm.ClassFile.FieldType.int)) ∈ gt := gt_of (in_4 (List.mem_of_getElem? (i := 91) (by decide +kernel))) rfl
theorem wd_4_92 : (Jvm.Cond.methodLink "HexTableLaw" (81 : Nat) ({ cls := "HexTableModel", name := "plant", desc := "(II)I" } : Jvm.MethodName)) ∈ gt := gt_of (in_4 (List.mem_of_getElem? (i := 92) (by decide +kernel))) rfl
theorem wd_4_93 : (Jvm.Cond.instanceMethod ({ cls := "HexTableModel", name := "plant", desc := "(II)I" } : Jvm.MethodName)) ∈ gt := gt_of (in_4 (List.mem_of_getElem? (i := 93) (by decide +kernel))) rfl
theorem wd_4_94 : (Jvm.Cond.selects "HexTableModel" ({ cls := "HexTableModel", name := "plant", desc := "(II)I" } : Jvm.MethodName) ({ cls := "HexTableModel", name := "plant", desc := "(II)I" } : Jvm.MethodName)) ∈ gt := gt_of (in_4 (List.mem_of_getElem? (i := 94) (by decide +kernel))) rfl
theorem wd_4_95 : (Jvm.Cond.code ({ cls := "HexTableModel", name := "plant", desc := "(II)I" } : Jvm.MethodName) prog_9_method_37_code (3 : Nat) (Option.some Jvm.ClassFile.FieldType.int)) ∈ gt := gt_of (in_4 (List.mem_of_getElem? (i := 95) (by decide +kernel))) rfl
theorem wd_4_96 : (Jvm.Cond.methodLink "HexTableLaw" (85 : Nat) ({ cls := "HexTableModel", name := "graft", desc := "(II)Z" } : Jvm.MethodName)) ∈ gt := gt_of (in_4 (List.mem_of_getElem? (i := 96) (by decide +kernel))) rfl
theorem wd_4_97 : (Jvm.Cond.instanceMethod ({ cls := "HexTableModel", name := "graft", desc := "(II)Z" } : Jvm.MethodName)) ∈ gt := gt_of (in_4 (List.mem_of_getElem? (i := 97) (by decide +kernel))) rfl
theorem wd_4_98 : (Jvm.Cond.selects "HexTableModel" ({ cls := "HexTableModel", name := "graft", desc := "(II)Z" } : Jvm.MethodName) ({ cls := "HexTableModel", name := "graft", desc := "(II)Z" } : Jvm.MethodName)) ∈ gt := gt_of (in_4 (List.mem_of_getElem? (i := 98) (by decide +kernel))) rfl
theorem wd_4_99 : (Jvm.Cond.code ({ cls := "HexTableModel", name := "graft", desc := "(II)Z" } : Jvm.MethodName) prog_9_method_38_code (3 : Nat) (Option.some Jvm.ClassFile.FieldType.boolean)) ∈ gt := gt_of (in_4 (List.mem_of_getElem? (i := 99) (by decide +kernel))) rfl
theorem wd_4_100 : (Jvm.Cond.methodLink "HexTableLaw" (89 : Nat) ({ cls := "HexTableModel", name := "prune", desc := "(I)I" } : Jvm.MethodName)) ∈ gt := gt_of (in_4 (List.mem_of_getElem? (i := 100) (by decide +kernel))) rfl
theorem wd_4_101 : (Jvm.Cond.instanceMethod ({ cls := "HexTableModel", name := "prune", desc := "(I)I" } : Jvm.MethodName)) ∈ gt := gt_of (in_4 (List.mem_of_getElem? (i := 101) (by decide +kernel))) rfl
theorem wd_4_102 : (Jvm.Cond.selects "HexTableModel" ({ cls := "HexTableModel", name := "prune", desc := "(I)I" } : Jvm.MethodName) ({ cls := "HexTableModel", name := "prune", desc := "(I)I" } : Jvm.MethodName)) ∈ gt := gt_of (in_4 (List.mem_of_getElem? (i := 102) (by decide +kernel))) rfl
theorem wd_4_103 : (Jvm.Cond.code ({ cls := "HexTableModel", name := "prune", desc := "(I)I" } : Jvm.MethodName) prog_9_method_39_code (2 : Nat) (Option.some Jvm.ClassFile.FieldType.int)) ∈ gt := gt_of (in_4 (List.mem_of_getElem? (i := 103) (by decide +kernel))) rfl
theorem wd_4_104 : (Jvm.Cond.methodLink "HexTableLaw" (93 : Nat) ({ cls := "HexTableModel", name := "check", desc := "(I)I" } : Jvm.MethodName)) ∈ gt := gt_of (in_4 (List.mem_of_getElem? (i := 104) (by decide +kernel))) rfl
theorem wd_4_105 : (Jvm.Cond.instanceMethod ({ cls := "HexTableModel", name := "check", desc := "(I)I" } : Jvm.MethodName)) ∈ gt := gt_of (in_4 (List.mem_of_getElem? (i := 105) (by decide +kernel))) rfl
theorem wd_4_106 : (Jvm.Cond.selects "HexTableModel" ({ cls := "HexTableModel", name := "check", desc := "(I)I" } : Jvm.MethodName) ({ cls := "HexTableModel", name := "check", desc := "(I)I" } : Jvm.MethodName)) ∈ gt := gt_of (in_4 (List.mem_of_getElem? (i := 106) (by decide +kernel))) rfl
theorem wd_4_107 : (Jvm.Cond.code ({ cls := "HexTableModel", name := "check", desc := "(I)I" } : Jvm.MethodName) prog_9_method_44_code (10 : Nat) (Option.some Jvm.ClassFile.FieldType.int)) ∈ gt := gt_of (in_4 (List.mem_of_getElem? (i := 107) (by decide +kernel))) rfl
theorem wd_4_108 : (Jvm.Cond.methodLink "HexTableModel" (214 : Nat) ({ cls := "HexTableModel", name := "link", desc := "()V" } : Jvm.MethodName)) ∈ gt := gt_of (in_4 (List.mem_of_getElem? (i := 108) (by decide +kernel))) rfl
theorem wd_4_110 : (Jvm.Cond.instanceMethod ({ cls := "HexTableModel", name := "link", desc := "()V" } : Jvm.MethodName)) ∈ gt := gt_of (in_4 (List.mem_of_getElem? (i := 110) (by decide +kernel))) rfl
theorem wd_4_111 : (Jvm.Cond.code ({ cls := "HexTableModel", name := "link", desc := "()V" } : Jvm.MethodName) prog_9_method_40_code (2 : Nat) (Option.none : Option Jvm.ClassFile.FieldType)) ∈ gt := gt_of (in_4 (List.mem_of_getElem? (i := 111) (by decide +kernel))) rfl
theorem wd_4_112 : (Jvm.Cond.methodLink "HexTableModel" (211 : Nat) ({ cls := "HexTableModel", name := "wrongBehind", desc := "(IZ)I" } : Jvm.MethodName)) ∈ gt := gt_of (in_4 (List.mem_of_getElem? (i := 112) (by decide +kernel))) rfl
theorem wd_4_114 : (Jvm.Cond.instanceMethod ({ cls := "HexTableModel", name := "wrongBehind", desc := "(IZ)I" } : Jvm.MethodName)) ∈ gt := gt_of (in_4 (List.mem_of_getElem? (i := 114) (by decide +kernel))) rfl
theorem wd_4_115 : (Jvm.Cond.code ({ cls := "HexTableModel", name := "wrongBehind", desc := "(IZ)I" } : Jvm.MethodName) prog_9_method_42_code (6 : Nat) (Option.some Jvm.ClassFile.FieldType.int)) ∈ gt := gt_of (in_4 (List.mem_of_getElem? (i := 115) (by decide +kernel))) rfl
theorem wd_4_116 : (Jvm.Cond.methodLink "HexTableModel" (208 : Nat) ({ cls := "HexTableModel", name := "isFree", desc := "(I)Z" } : Jvm.MethodName)) ∈ gt := gt_of (in_4 (List.mem_of_getElem? (i := 116) (by decide +kernel))) rfl
theorem wd_4_118 : (Jvm.Cond.instanceMethod ({ cls := "HexTableModel", name := "isFree", desc := "(I)Z" } : Jvm.MethodName)) ∈ gt := gt_of (in_4 (List.mem_of_getElem? (i := 118) (by decide +kernel))) rfl
theorem wd_4_119 : (Jvm.Cond.code ({ cls := "HexTableModel", name := "isFree", desc := "(I)Z" } : Jvm.MethodName) prog_9_method_41_code (2 : Nat) (Option.some Jvm.ClassFile.FieldType.boolean)) ∈ gt := gt_of (in_4 (List.mem_of_getElem? (i := 119) (by decide +kernel))) rfl
theorem wd_4_120 : (Jvm.Cond.methodLink "HexTableModel" (217 : Nat) ({ cls := "HexTableModel", name := "wrong", desc := "(IIZ)I" } : Jvm.MethodName)) ∈ gt := gt_of (in_4 (List.mem_of_getElem? (i := 120) (by decide +kernel))) rfl
theorem wd_4_122 : (Jvm.Cond.instanceMethod ({ cls := "HexTableModel", name := "wrong", desc := "(IIZ)I" } : Jvm.MethodName)) ∈ gt := gt_of (in_4 (List.mem_of_getElem? (i := 122) (by decide +kernel))) rfl
theorem wd_4_123 : (Jvm.Cond.code ({ cls := "HexTableModel", name := "wrong", desc := "(IIZ)I" } : Jvm.MethodName) prog_9_method_43_code (5 : Nat) (Option.some Jvm.ClassFile.FieldType.int)) ∈ gt := gt_of (in_4 (List.mem_of_getElem? (i := 123) (by decide +kernel))) rfl
def nw : List Cond := [(Jvm.Cond.fieldLinkNest "HexTable" (101 : Nat) "HexTable$Board" "size" "I" "HexTable"), (Jvm.Cond.fieldLinkNest "HexTable$Checker" (46 : Nat) "HexTable$Board" "stones" "[I" "HexTable"), (Jvm.Cond.fieldLinkNest "HexTable$Seeker" (77 : Nat) "HexTable$Board" "stones" "[I" "HexTable"), (Jvm.Cond.fieldLinkNest "HexTable" (126 : Nat) "HexTable$Walker" "thirdX" "I" "HexTable"), (Jvm.Cond.fieldLinkNest "HexTable" (129 : Nat) "HexTable$Walker" "thirdY" "I" "HexTable"), (Jvm.Cond.fieldLinkNest "HexTable" (132 : Nat) "HexTable$Walker" "thirdSide" "I" "HexTable"), (Jvm.Cond.methodLinkNest "HexTable$Seeker" (11 : Nat) ({ cls := "HexTable$Nodes", name := "<init>", desc := "()V" } : Jvm.MethodName) "HexTable"), (Jvm.Cond.fieldLinkNest "HexTable$Seeker" (89 : Nat) "HexTable$Nodes" "cells" "[I" "HexTable"), (Jvm.Cond.fieldLinkNest "HexTable$Seeker" (118 : Nat) "HexTable$Nodes" "ahead" "[I" "HexTable"), (Jvm.Cond.fieldLinkNest "HexTable$Seeker" (67 : Nat) "HexTable$Nodes" "proof" "[I" "HexTable"), (Jvm.Cond.fieldLinkNest "HexTable$Seeker" (71 : Nat) "HexTable$Nodes" "disproof" "[I" "HexTable"), (Jvm.Cond.fieldLinkNest "HexTable$Seeker" (102 : Nat) "HexTable$Nodes" "child" "[I" "HexTable"), (Jvm.Cond.fieldLinkNest "HexTable$Seeker" (82 : Nat) "HexTable$Nodes" "children" "[I" "HexTable"), (Jvm.Cond.fieldLinkNest "HexTable$Seeker" (36 : Nat) "HexTable$Nodes" "count" "I" "HexTable"), (Jvm.Cond.fieldLinkNest "HexTable" (114 : Nat) "HexTable$Nodes" "count" "I" "HexTable"), (Jvm.Cond.methodLinkNest "HexTable$Seeker" (20 : Nat) ({ cls := "HexTable$Entries", name := "<init>", desc := "()V" } : Jvm.MethodName) "HexTable"), (Jvm.Cond.fieldLinkNest "HexTable$Checker" (63 : Nat) "HexTable$Entries" "ahead" "[I" "HexTable"), (Jvm.Cond.fieldLinkNest "HexTable$Seeker" (135 : Nat) "HexTable$Entries" "ahead" "[I" "HexTable"), (Jvm.Cond.fieldLinkNest "HexTable" (147 : Nat) "HexTable$Entries" "ahead" "[I" "HexTable"), (Jvm.Cond.fieldLinkNest "HexTable$Checker" (51 : Nat) "HexTable$Entries" "cells" "[I" "HexTable"), (Jvm.Cond.fieldLinkNest "HexTable" (150 : Nat) "HexTable$Entries" "cells" "[I" "HexTable"), (Jvm.Cond.fieldLinkNest "HexTable$Seeker" (39 : Nat) "HexTable$Entries" "count" "I" "HexTable"), (Jvm.Cond.fieldLinkNest "HexTable$Checker" (66 : Nat) "HexTable$Entries" "count" "I" "HexTable"), (Jvm.Cond.fieldLinkNest "HexTable" (122 : Nat) "HexTable$Entries" "count" "I" "HexTable"), (Jvm.Cond.fieldLinkNest "HexTable" (110 : Nat) "HexTable$Seeker" "nodes" "LHexTable$Nodes;" "HexTable"), (Jvm.Cond.fieldLinkNest "HexTable" (119 : Nat) "HexTable$Seeker" "plan" "LHexTable$Entries;" "HexTable"), (Jvm.Cond.methodLinkNest "HexTable" (48 : Nat) ({ cls := "HexTable$Entries", name := "<init>", desc := "()V" } : Jvm.MethodName) "HexTable"), (Jvm.Cond.methodLinkNest "HexTable$Nodes" (37 : Nat) ({ cls := "HexTable", name := "roomierLength", desc := "(I)I" } : Jvm.MethodName) "HexTable"), (Jvm.Cond.methodLinkNest "HexTable$Seeker" (74 : Nat) ({ cls := "HexTable", name := "otherSide", desc := "(I)I" } : Jvm.MethodName) "HexTable"), (Jvm.Cond.methodLinkNest "HexTable$Entries" (22 : Nat) ({ cls := "HexTable", name := "roomierLength", desc := "(I)I" } : Jvm.MethodName) "HexTable"), (Jvm.Cond.methodLinkNest "HexTable$Checker" (60 : Nat) ({ cls := "HexTable", name := "otherSide", desc := "(I)I" } : Jvm.MethodName) "HexTable")]
theorem nw_0 : (Jvm.Cond.fieldLinkNest "HexTable" (101 : Nat) "HexTable$Board" "size" "I" "HexTable") ∈ nw := List.mem_of_getElem? (i := 0) (by decide +kernel)
theorem nl_0 : (Jvm.Cond.fieldLinkNest "HexTable" (101 : Nat) "HexTable$Board" "size" "I" "HexTable") ∈ lw_tbl := in_1 (List.mem_of_getElem? (i := 43) (by decide +kernel))
theorem nw_1 : (Jvm.Cond.fieldLinkNest "HexTable$Checker" (46 : Nat) "HexTable$Board" "stones" "[I" "HexTable") ∈ nw := List.mem_of_getElem? (i := 1) (by decide +kernel)
theorem nl_1 : (Jvm.Cond.fieldLinkNest "HexTable$Checker" (46 : Nat) "HexTable$Board" "stones" "[I" "HexTable") ∈ lw_tbl := in_1 (List.mem_of_getElem? (i := 45) (by decide +kernel))
theorem nw_2 : (Jvm.Cond.fieldLinkNest "HexTable$Seeker" (77 : Nat) "HexTable$Board" "stones" "[I" "HexTable") ∈ nw := List.mem_of_getElem? (i := 2) (by decide +kernel)
theorem nl_2 : (Jvm.Cond.fieldLinkNest "HexTable$Seeker" (77 : Nat) "HexTable$Board" "stones" "[I" "HexTable") ∈ lw_tbl := in_1 (List.mem_of_getElem? (i := 46) (by decide +kernel))
theorem nw_3 : (Jvm.Cond.fieldLinkNest "HexTable" (126 : Nat) "HexTable$Walker" "thirdX" "I" "HexTable") ∈ nw := List.mem_of_getElem? (i := 3) (by decide +kernel)
theorem nl_3 : (Jvm.Cond.fieldLinkNest "HexTable" (126 : Nat) "HexTable$Walker" "thirdX" "I" "HexTable") ∈ lw_tbl := in_1 (List.mem_of_getElem? (i := 77) (by decide +kernel))
theorem nw_4 : (Jvm.Cond.fieldLinkNest "HexTable" (129 : Nat) "HexTable$Walker" "thirdY" "I" "HexTable") ∈ nw := List.mem_of_getElem? (i := 4) (by decide +kernel)
theorem nl_4 : (Jvm.Cond.fieldLinkNest "HexTable" (129 : Nat) "HexTable$Walker" "thirdY" "I" "HexTable") ∈ lw_tbl := in_1 (List.mem_of_getElem? (i := 79) (by decide +kernel))
theorem nw_5 : (Jvm.Cond.fieldLinkNest "HexTable" (132 : Nat) "HexTable$Walker" "thirdSide" "I" "HexTable") ∈ nw := List.mem_of_getElem? (i := 5) (by decide +kernel)
theorem nl_5 : (Jvm.Cond.fieldLinkNest "HexTable" (132 : Nat) "HexTable$Walker" "thirdSide" "I" "HexTable") ∈ lw_tbl := in_1 (List.mem_of_getElem? (i := 81) (by decide +kernel))
theorem nw_6 : (Jvm.Cond.methodLinkNest "HexTable$Seeker" (11 : Nat) ({ cls := "HexTable$Nodes", name := "<init>", desc := "()V" } : Jvm.MethodName) "HexTable") ∈ nw := List.mem_of_getElem? (i := 6) (by decide +kernel)
theorem nl_6 : (Jvm.Cond.methodLinkNest "HexTable$Seeker" (11 : Nat) ({ cls := "HexTable$Nodes", name := "<init>", desc := "()V" } : Jvm.MethodName) "HexTable") ∈ lw_tbl := in_1 (List.mem_of_getElem? (i := 107) (by decide +kernel))
theorem nw_7 : (Jvm.Cond.fieldLinkNest "HexTable$Seeker" (89 : Nat) "HexTable$Nodes" "cells" "[I" "HexTable") ∈ nw := List.mem_of_getElem? (i := 7) (by decide +kernel)
theorem nl_7 : (Jvm.Cond.fieldLinkNest "HexTable$Seeker" (89 : Nat) "HexTable$Nodes" "cells" "[I" "HexTable") ∈ lw_tbl := in_1 (List.mem_of_getElem? (i := 112) (by decide +kernel))
theorem nw_8 : (Jvm.Cond.fieldLinkNest "HexTable$Seeker" (118 : Nat) "HexTable$Nodes" "ahead" "[I" "HexTable") ∈ nw := List.mem_of_getElem? (i := 8) (by decide +kernel)
theorem nl_8 : (Jvm.Cond.fieldLinkNest "HexTable$Seeker" (118 : Nat) "HexTable$Nodes" "ahead" "[I" "HexTable") ∈ lw_tbl := in_1 (List.mem_of_getElem? (i := 114) (by decide +kernel))
theorem nw_9 : (Jvm.Cond.fieldLinkNest "HexTable$Seeker" (67 : Nat) "HexTable$Nodes" "proof" "[I" "HexTable") ∈ nw := List.mem_of_getElem? (i := 9) (by decide +kernel)
theorem nl_9 : (Jvm.Cond.fieldLinkNest "HexTable$Seeker" (67 : Nat) "HexTable$Nodes" "proof" "[I" "HexTable") ∈ lw_tbl := in_1 (List.mem_of_getElem? (i := 116) (by decide +kernel))
theorem nw_10 : (Jvm.Cond.fieldLinkNest "HexTable$Seeker" (71 : Nat) "HexTable$Nodes" "disproof" "[I" "HexTable") ∈ nw := List.mem_of_getElem? (i := 10) (by decide +kernel)
theorem nl_10 : (Jvm.Cond.fieldLinkNest "HexTable$Seeker" (71 : Nat) "HexTable$Nodes" "disproof" "[I" "HexTable") ∈ lw_tbl := in_1 (List.mem_of_getElem? (i := 118) (by decide +kernel))
theorem nw_11 : (Jvm.Cond.fieldLinkNest "HexTable$Seeker" (102 : Nat) "HexTable$Nodes" "child" "[I" "HexTable") ∈ nw := List.mem_of_getElem? (i := 11) (by decide +kernel)
theorem nl_11 : (Jvm.Cond.fieldLinkNest "HexTable$Seeker" (102 : Nat) "HexTable$Nodes" "child" "[I" "HexTable") ∈ lw_tbl := in_1 (List.mem_of_getElem? (i := 120) (by decide +kernel))
theorem nw_12 : (Jvm.Cond.fieldLinkNest "HexTable$Seeker" (82 : Nat) "HexTable$Nodes" "children" "[I" "HexTable") ∈ nw := List.mem_of_getElem? (i := 12) (by decide +kernel)
theorem nl_12 : (Jvm.Cond.fieldLinkNest "HexTable$Seeker" (82 : Nat) "HexTable$Nodes" "children" "[I" "HexTable") ∈ lw_tbl := in_1 (List.mem_of_getElem? (i := 122) (by decide +kernel))
theorem nw_13 : (Jvm.Cond.fieldLinkNest "HexTable$Seeker" (36 : Nat) "HexTable$Nodes" "count" "I" "HexTable") ∈ nw := List.mem_of_getElem? (i := 13) (by decide +kernel)
theorem nl_13 : (Jvm.Cond.fieldLinkNest "HexTable$Seeker" (36 : Nat) "HexTable$Nodes" "count" "I" "HexTable") ∈ lw_tbl := in_1 (List.mem_of_getElem? (i := 124) (by decide +kernel))
theorem nw_14 : (Jvm.Cond.fieldLinkNest "HexTable" (114 : Nat) "HexTable$Nodes" "count" "I" "HexTable") ∈ nw := List.mem_of_getElem? (i := 14) (by decide +kernel)
theorem nl_14 : (Jvm.Cond.fieldLinkNest "HexTable" (114 : Nat) "HexTable$Nodes" "count" "I" "HexTable") ∈ lw_tbl := in_1 (List.mem_of_getElem? (i := 125) (by decide +kernel))
theorem nw_15 : (Jvm.Cond.methodLinkNest "HexTable$Seeker" (20 : Nat) ({ cls := "HexTable$Entries", name := "<init>", desc := "()V" } : Jvm.MethodName) "HexTable") ∈ nw := List.mem_of_getElem? (i := 15) (by decide +kernel)
theorem nl_15 : (Jvm.Cond.methodLinkNest "HexTable$Seeker" (20 : Nat) ({ cls := "HexTable$Entries", name := "<init>", desc := "()V" } : Jvm.MethodName) "HexTable") ∈ lw_tbl := in_1 (List.mem_of_getElem? (i := 143) (by decide +kernel))
theorem nw_16 : (Jvm.Cond.fieldLinkNest "HexTable$Checker" (63 : Nat) "HexTable$Entries" "ahead" "[I" "HexTable") ∈ nw := List.mem_of_getElem? (i := 16) (by decide +kernel)
theorem nl_16 : (Jvm.Cond.fieldLinkNest "HexTable$Checker" (63 : Nat) "HexTable$Entries" "ahead" "[I" "HexTable") ∈ lw_tbl := in_1 (List.mem_of_getElem? (i := 148) (by decide +kernel))
theorem nw_17 : (Jvm.Cond.fieldLinkNest "HexTable$Seeker" (135 : Nat) "HexTable$Entries" "ahead" "[I" "HexTable") ∈ nw := List.mem_of_getElem? (i := 17) (by decide +kernel)
theorem nl_17 : (Jvm.Cond.fieldLinkNest "HexTable$Seeker" (135 : Nat) "HexTable$Entries" "ahead" "[I" "HexTable") ∈ lw_tbl := in_1 (List.mem_of_getElem? (i := 149) (by decide +kernel))
theorem nw_18 : (Jvm.Cond.fieldLinkNest "HexTable" (147 : Nat) "HexTable$Entries" "ahead" "[I" "HexTable") ∈ nw := List.mem_of_getElem? (i := 18) (by decide +kernel)
theorem nl_18 : (Jvm.Cond.fieldLinkNest "HexTable" (147 : Nat) "HexTable$Entries" "ahead" "[I" "HexTable") ∈ lw_tbl := in_1 (List.mem_of_getElem? (i := 150) (by decide +kernel))
theorem nw_19 : (Jvm.Cond.fieldLinkNest "HexTable$Checker" (51 : Nat) "HexTable$Entries" "cells" "[I" "HexTable") ∈ nw := List.mem_of_getElem? (i := 19) (by decide +kernel)
theorem nl_19 : (Jvm.Cond.fieldLinkNest "HexTable$Checker" (51 : Nat) "HexTable$Entries" "cells" "[I" "HexTable") ∈ lw_tbl := in_1 (List.mem_of_getElem? (i := 152) (by decide +kernel))
theorem nw_20 : (Jvm.Cond.fieldLinkNest "HexTable" (150 : Nat) "HexTable$Entries" "cells" "[I" "HexTable") ∈ nw := List.mem_of_getElem? (i := 20) (by decide +kernel)
theorem nl_20 : (Jvm.Cond.fieldLinkNest "HexTable" (150 : Nat) "HexTable$Entries" "cells" "[I" "HexTable") ∈ lw_tbl := in_1 (List.mem_of_getElem? (i := 153) (by decide +kernel))
theorem nw_21 : (Jvm.Cond.fieldLinkNest "HexTable$Seeker" (39 : Nat) "HexTable$Entries" "count" "I" "HexTable") ∈ nw := List.mem_of_getElem? (i := 21) (by decide +kernel)
theorem nl_21 : (Jvm.Cond.fieldLinkNest "HexTable$Seeker" (39 : Nat) "HexTable$Entries" "count" "I" "HexTable") ∈ lw_tbl := in_1 (List.mem_of_getElem? (i := 155) (by decide +kernel))
theorem nw_22 : (Jvm.Cond.fieldLinkNest "HexTable$Checker" (66 : Nat) "HexTable$Entries" "count" "I" "HexTable") ∈ nw := List.mem_of_getElem? (i := 22) (by decide +kernel)
theorem nl_22 : (Jvm.Cond.fieldLinkNest "HexTable$Checker" (66 : Nat) "HexTable$Entries" "count" "I" "HexTable") ∈ lw_tbl := in_1 (List.mem_of_getElem? (i := 156) (by decide +kernel))
theorem nw_23 : (Jvm.Cond.fieldLinkNest "HexTable" (122 : Nat) "HexTable$Entries" "count" "I" "HexTable") ∈ nw := List.mem_of_getElem? (i := 23) (by decide +kernel)
theorem nl_23 : (Jvm.Cond.fieldLinkNest "HexTable" (122 : Nat) "HexTable$Entries" "count" "I" "HexTable") ∈ lw_tbl := in_1 (List.mem_of_getElem? (i := 157) (by decide +kernel))
theorem nw_24 : (Jvm.Cond.fieldLinkNest "HexTable" (110 : Nat) "HexTable$Seeker" "nodes" "LHexTable$Nodes;" "HexTable") ∈ nw := List.mem_of_getElem? (i := 24) (by decide +kernel)
theorem nl_24 : (Jvm.Cond.fieldLinkNest "HexTable" (110 : Nat) "HexTable$Seeker" "nodes" "LHexTable$Nodes;" "HexTable") ∈ lw_tbl := in_1 (List.mem_of_getElem? (i := 167) (by decide +kernel))
theorem nw_25 : (Jvm.Cond.fieldLinkNest "HexTable" (119 : Nat) "HexTable$Seeker" "plan" "LHexTable$Entries;" "HexTable") ∈ nw := List.mem_of_getElem? (i := 25) (by decide +kernel)
theorem nl_25 : (Jvm.Cond.fieldLinkNest "HexTable" (119 : Nat) "HexTable$Seeker" "plan" "LHexTable$Entries;" "HexTable") ∈ lw_tbl := in_1 (List.mem_of_getElem? (i := 169) (by decide +kernel))
theorem nw_26 : (Jvm.Cond.methodLinkNest "HexTable" (48 : Nat) ({ cls := "HexTable$Entries", name := "<init>", desc := "()V" } : Jvm.MethodName) "HexTable") ∈ nw := List.mem_of_getElem? (i := 26) (by decide +kernel)
theorem nl_26 : (Jvm.Cond.methodLinkNest "HexTable" (48 : Nat) ({ cls := "HexTable$Entries", name := "<init>", desc := "()V" } : Jvm.MethodName) "HexTable") ∈ lw_tbl := in_1 (List.mem_of_getElem? (i := 184) (by decide +kernel))
theorem nw_27 : (Jvm.Cond.methodLinkNest "HexTable$Nodes" (37 : Nat) ({ cls := "HexTable", name := "roomierLength", desc := "(I)I" } : Jvm.MethodName) "HexTable") ∈ nw := List.mem_of_getElem? (i := 27) (by decide +kernel)
theorem nl_27 : (Jvm.Cond.methodLinkNest "HexTable$Nodes" (37 : Nat) ({ cls := "HexTable", name := "roomierLength", desc := "(I)I" } : Jvm.MethodName) "HexTable") ∈ lw_tbl := in_2 (List.mem_of_getElem? (i := 144) (by decide +kernel))
theorem nw_28 : (Jvm.Cond.methodLinkNest "HexTable$Seeker" (74 : Nat) ({ cls := "HexTable", name := "otherSide", desc := "(I)I" } : Jvm.MethodName) "HexTable") ∈ nw := List.mem_of_getElem? (i := 28) (by decide +kernel)
theorem nl_28 : (Jvm.Cond.methodLinkNest "HexTable$Seeker" (74 : Nat) ({ cls := "HexTable", name := "otherSide", desc := "(I)I" } : Jvm.MethodName) "HexTable") ∈ lw_tbl := in_2 (List.mem_of_getElem? (i := 172) (by decide +kernel))
theorem nw_29 : (Jvm.Cond.methodLinkNest "HexTable$Entries" (22 : Nat) ({ cls := "HexTable", name := "roomierLength", desc := "(I)I" } : Jvm.MethodName) "HexTable") ∈ nw := List.mem_of_getElem? (i := 29) (by decide +kernel)
theorem nl_29 : (Jvm.Cond.methodLinkNest "HexTable$Entries" (22 : Nat) ({ cls := "HexTable", name := "roomierLength", desc := "(I)I" } : Jvm.MethodName) "HexTable") ∈ lw_tbl := in_2 (List.mem_of_getElem? (i := 219) (by decide +kernel))
theorem nw_30 : (Jvm.Cond.methodLinkNest "HexTable$Checker" (60 : Nat) ({ cls := "HexTable", name := "otherSide", desc := "(I)I" } : Jvm.MethodName) "HexTable") ∈ nw := List.mem_of_getElem? (i := 30) (by decide +kernel)
theorem nl_30 : (Jvm.Cond.methodLinkNest "HexTable$Checker" (60 : Nat) ({ cls := "HexTable", name := "otherSide", desc := "(I)I" } : Jvm.MethodName) "HexTable") ∈ lw_tbl := in_3 (List.mem_of_getElem? (i := 58) (by decide +kernel))
theorem nw_lw : ∀ w ∈ nw, w ∈ lw_tbl := List.forall_mem_cons.mpr ⟨nl_0, List.forall_mem_cons.mpr ⟨nl_1, List.forall_mem_cons.mpr ⟨nl_2, List.forall_mem_cons.mpr ⟨nl_3, List.forall_mem_cons.mpr ⟨nl_4, List.forall_mem_cons.mpr ⟨nl_5, List.forall_mem_cons.mpr ⟨nl_6, List.forall_mem_cons.mpr ⟨nl_7, List.forall_mem_cons.mpr ⟨nl_8, List.forall_mem_cons.mpr ⟨nl_9, List.forall_mem_cons.mpr ⟨nl_10, List.forall_mem_cons.mpr ⟨nl_11, List.forall_mem_cons.mpr ⟨nl_12, List.forall_mem_cons.mpr ⟨nl_13, List.forall_mem_cons.mpr ⟨nl_14, List.forall_mem_cons.mpr ⟨nl_15, List.forall_mem_cons.mpr ⟨nl_16, List.forall_mem_cons.mpr ⟨nl_17, List.forall_mem_cons.mpr ⟨nl_18, List.forall_mem_cons.mpr ⟨nl_19, List.forall_mem_cons.mpr ⟨nl_20, List.forall_mem_cons.mpr ⟨nl_21, List.forall_mem_cons.mpr ⟨nl_22, List.forall_mem_cons.mpr ⟨nl_23, List.forall_mem_cons.mpr ⟨nl_24, List.forall_mem_cons.mpr ⟨nl_25, List.forall_mem_cons.mpr ⟨nl_26, List.forall_mem_cons.mpr ⟨nl_27, List.forall_mem_cons.mpr ⟨nl_28, List.forall_mem_cons.mpr ⟨nl_29, List.forall_mem_cons.mpr ⟨nl_30, fun w h => absurd h List.not_mem_nil⟩⟩⟩⟩⟩⟩⟩⟩⟩⟩⟩⟩⟩⟩⟩⟩⟩⟩⟩⟩⟩⟩⟩⟩⟩⟩⟩⟩⟩⟩⟩
theorem wp_0 : (Jvm.Cond.selects "HexTable$Board" ({ cls := "HexTable$Board", name := "edgesOf", desc := "(II)I" } : Jvm.MethodName) ({ cls := "HexTable$Board", name := "edgesOf", desc := "(II)I" } : Jvm.MethodName)) ∈ gt := gt_of (in_p (List.mem_of_getElem? (i := 0) (by decide +kernel))) rfl
theorem wp_1 : (Jvm.Cond.selects "HexTable$Board" ({ cls := "HexTable$Board", name := "markChain", desc := "(II)V" } : Jvm.MethodName) ({ cls := "HexTable$Board", name := "markChain", desc := "(II)V" } : Jvm.MethodName)) ∈ gt := gt_of (in_p (List.mem_of_getElem? (i := 1) (by decide +kernel))) rfl
theorem wp_2 : (Jvm.Cond.selects "HexTable$Board" ({ cls := "HexTable$Board", name := "openAround", desc := "(III)I" } : Jvm.MethodName) ({ cls := "HexTable$Board", name := "openAround", desc := "(III)I" } : Jvm.MethodName)) ∈ gt := gt_of (in_p (List.mem_of_getElem? (i := 2) (by decide +kernel))) rfl
theorem wp_3 : (Jvm.Cond.selects "HexTable$Walker" ({ cls := "HexTable$Walker", name := "lookBeyond", desc := "(II)V" } : Jvm.MethodName) ({ cls := "HexTable$Walker", name := "lookBeyond", desc := "(II)V" } : Jvm.MethodName)) ∈ gt := gt_of (in_p (List.mem_of_getElem? (i := 3) (by decide +kernel))) rfl
theorem wp_4 : (Jvm.Cond.selects "HexTable$Walker" ({ cls := "HexTable$Walker", name := "goOn", desc := "()V" } : Jvm.MethodName) ({ cls := "HexTable$Walker", name := "goOn", desc := "()V" } : Jvm.MethodName)) ∈ gt := gt_of (in_p (List.mem_of_getElem? (i := 4) (by decide +kernel))) rfl
theorem wp_5 : (Jvm.Cond.selects "HexTable$Nodes" ({ cls := "HexTable$Nodes", name := "lengthen", desc := "()V" } : Jvm.MethodName) ({ cls := "HexTable$Nodes", name := "lengthen", desc := "()V" } : Jvm.MethodName)) ∈ gt := gt_of (in_p (List.mem_of_getElem? (i := 5) (by decide +kernel))) rfl
theorem wp_6 : (Jvm.Cond.selects "HexTable$Seeker" ({ cls := "HexTable$Seeker", name := "isSettled", desc := "(I)Z" } : Jvm.MethodName) ({ cls := "HexTable$Seeker", name := "isSettled", desc := "(I)Z" } : Jvm.MethodName)) ∈ gt := gt_of (in_p (List.mem_of_getElem? (i := 6) (by decide +kernel))) rfl
theorem wp_7 : (Jvm.Cond.selects "HexTable$Seeker" ({ cls := "HexTable$Seeker", name := "descend", desc := "(I)I" } : Jvm.MethodName) ({ cls := "HexTable$Seeker", name := "descend", desc := "(I)I" } : Jvm.MethodName)) ∈ gt := gt_of (in_p (List.mem_of_getElem? (i := 7) (by decide +kernel))) rfl
theorem wp_8 : (Jvm.Cond.selects "HexTable$Seeker" ({ cls := "HexTable$Seeker", name := "expand", desc := "(II)Z" } : Jvm.MethodName) ({ cls := "HexTable$Seeker", name := "expand", desc := "(II)Z" } : Jvm.MethodName)) ∈ gt := gt_of (in_p (List.mem_of_getElem? (i := 8) (by decide +kernel))) rfl
theorem wp_9 : (Jvm.Cond.selects "HexTable$Seeker" ({ cls := "HexTable$Seeker", name := "addChild", desc := "(II)V" } : Jvm.MethodName) ({ cls := "HexTable$Seeker", name := "addChild", desc := "(II)V" } : Jvm.MethodName)) ∈ gt := gt_of (in_p (List.mem_of_getElem? (i := 9) (by decide +kernel))) rfl
theorem wp_10 : (Jvm.Cond.selects "HexTable$Seeker" ({ cls := "HexTable$Seeker", name := "climb", desc := "(I)V" } : Jvm.MethodName) ({ cls := "HexTable$Seeker", name := "climb", desc := "(I)V" } : Jvm.MethodName)) ∈ gt := gt_of (in_p (List.mem_of_getElem? (i := 10) (by decide +kernel))) rfl
theorem wp_11 : (Jvm.Cond.selects "HexTable$Seeker" ({ cls := "HexTable$Seeker", name := "reckon", desc := "(I)V" } : Jvm.MethodName) ({ cls := "HexTable$Seeker", name := "reckon", desc := "(I)V" } : Jvm.MethodName)) ∈ gt := gt_of (in_p (List.mem_of_getElem? (i := 11) (by decide +kernel))) rfl
theorem wp_12 : (Jvm.Cond.selects "HexTable$Seeker" ({ cls := "HexTable$Seeker", name := "foundAt", desc := "(I)I" } : Jvm.MethodName) ({ cls := "HexTable$Seeker", name := "foundAt", desc := "(I)I" } : Jvm.MethodName)) ∈ gt := gt_of (in_p (List.mem_of_getElem? (i := 12) (by decide +kernel))) rfl
theorem wp_13 : (Jvm.Cond.selects "HexTable$Seeker" ({ cls := "HexTable$Seeker", name := "writePlan", desc := "(II)V" } : Jvm.MethodName) ({ cls := "HexTable$Seeker", name := "writePlan", desc := "(II)V" } : Jvm.MethodName)) ∈ gt := gt_of (in_p (List.mem_of_getElem? (i := 13) (by decide +kernel))) rfl
theorem wp_14 : (Jvm.Cond.selects "HexTable$Seeker" ({ cls := "HexTable$Seeker", name := "firstInPlan", desc := "(IZ[I)I" } : Jvm.MethodName) ({ cls := "HexTable$Seeker", name := "firstInPlan", desc := "(IZ[I)I" } : Jvm.MethodName)) ∈ gt := gt_of (in_p (List.mem_of_getElem? (i := 14) (by decide +kernel))) rfl
theorem wp_15 : (Jvm.Cond.selects "HexTable$Checker" ({ cls := "HexTable$Checker", name := "linkEntries", desc := "()V" } : Jvm.MethodName) ({ cls := "HexTable$Checker", name := "linkEntries", desc := "()V" } : Jvm.MethodName)) ∈ gt := gt_of (in_p (List.mem_of_getElem? (i := 15) (by decide +kernel))) rfl
theorem wp_16 : (Jvm.Cond.selects "HexTable$Checker" ({ cls := "HexTable$Checker", name := "wrongBehind", desc := "(I)I" } : Jvm.MethodName) ({ cls := "HexTable$Checker", name := "wrongBehind", desc := "(I)I" } : Jvm.MethodName)) ∈ gt := gt_of (in_p (List.mem_of_getElem? (i := 16) (by decide +kernel))) rfl
theorem wp_17 : (Jvm.Cond.selects "HexTable$Checker" ({ cls := "HexTable$Checker", name := "coversEmptyCells", desc := "(I)Z" } : Jvm.MethodName) ({ cls := "HexTable$Checker", name := "coversEmptyCells", desc := "(I)Z" } : Jvm.MethodName)) ∈ gt := gt_of (in_p (List.mem_of_getElem? (i := 17) (by decide +kernel))) rfl
theorem wp_18 : (Jvm.Cond.selects "HexTable$Checker" ({ cls := "HexTable$Checker", name := "wrongAt", desc := "(I)I" } : Jvm.MethodName) ({ cls := "HexTable$Checker", name := "wrongAt", desc := "(I)I" } : Jvm.MethodName)) ∈ gt := gt_of (in_p (List.mem_of_getElem? (i := 18) (by decide +kernel))) rfl
theorem wp_19 : (Jvm.Cond.selects "HexTable$Checker" ({ cls := "HexTable$Checker", name := "climbToNext", desc := "(I)I" } : Jvm.MethodName) ({ cls := "HexTable$Checker", name := "climbToNext", desc := "(I)I" } : Jvm.MethodName)) ∈ gt := gt_of (in_p (List.mem_of_getElem? (i := 19) (by decide +kernel))) rfl
theorem wp_20 : (Jvm.Cond.selects "HexTableModel" ({ cls := "HexTableModel", name := "isCell", desc := "(II)Z" } : Jvm.MethodName) ({ cls := "HexTableModel", name := "isCell", desc := "(II)Z" } : Jvm.MethodName)) ∈ gt := gt_of (in_p (List.mem_of_getElem? (i := 20) (by decide +kernel))) rfl
theorem wp_21 : (Jvm.Cond.selects "HexTableModel" ({ cls := "HexTableModel", name := "winner", desc := "()I" } : Jvm.MethodName) ({ cls := "HexTableModel", name := "winner", desc := "()I" } : Jvm.MethodName)) ∈ gt := gt_of (in_p (List.mem_of_getElem? (i := 21) (by decide +kernel))) rfl
theorem wp_22 : (Jvm.Cond.selects "HexTableModel" ({ cls := "HexTableModel", name := "isWon", desc := "(I)Z" } : Jvm.MethodName) ({ cls := "HexTableModel", name := "isWon", desc := "(I)Z" } : Jvm.MethodName)) ∈ gt := gt_of (in_p (List.mem_of_getElem? (i := 22) (by decide +kernel))) rfl
theorem wp_23 : (Jvm.Cond.selects "HexTableModel" ({ cls := "HexTableModel", name := "forget", desc := "()V" } : Jvm.MethodName) ({ cls := "HexTableModel", name := "forget", desc := "()V" } : Jvm.MethodName)) ∈ gt := gt_of (in_p (List.mem_of_getElem? (i := 23) (by decide +kernel))) rfl
theorem wp_24 : (Jvm.Cond.selects "HexTableModel" ({ cls := "HexTableModel", name := "reach", desc := "(I)V" } : Jvm.MethodName) ({ cls := "HexTableModel", name := "reach", desc := "(I)V" } : Jvm.MethodName)) ∈ gt := gt_of (in_p (List.mem_of_getElem? (i := 24) (by decide +kernel))) rfl
theorem wp_25 : (Jvm.Cond.selects "HexTableModel" ({ cls := "HexTableModel", name := "spread", desc := "(I)V" } : Jvm.MethodName) ({ cls := "HexTableModel", name := "spread", desc := "(I)V" } : Jvm.MethodName)) ∈ gt := gt_of (in_p (List.mem_of_getElem? (i := 25) (by decide +kernel))) rfl
theorem wp_26 : (Jvm.Cond.selects "HexTableModel" ({ cls := "HexTableModel", name := "neighbour", desc := "(II)I" } : Jvm.MethodName) ({ cls := "HexTableModel", name := "neighbour", desc := "(II)I" } : Jvm.MethodName)) ∈ gt := gt_of (in_p (List.mem_of_getElem? (i := 26) (by decide +kernel))) rfl
theorem wp_27 : (Jvm.Cond.selects "HexTableModel" ({ cls := "HexTableModel", name := "nameOf", desc := "(I)I" } : Jvm.MethodName) ({ cls := "HexTableModel", name := "nameOf", desc := "(I)I" } : Jvm.MethodName)) ∈ gt := gt_of (in_p (List.mem_of_getElem? (i := 27) (by decide +kernel))) rfl
theorem wp_28 : (Jvm.Cond.selects "HexTableModel" ({ cls := "HexTableModel", name := "empty", desc := "()I" } : Jvm.MethodName) ({ cls := "HexTableModel", name := "empty", desc := "()I" } : Jvm.MethodName)) ∈ gt := gt_of (in_p (List.mem_of_getElem? (i := 28) (by decide +kernel))) rfl
theorem wp_29 : (Jvm.Cond.selects "HexTableModel" ({ cls := "HexTableModel", name := "chains", desc := "()I" } : Jvm.MethodName) ({ cls := "HexTableModel", name := "chains", desc := "()I" } : Jvm.MethodName)) ∈ gt := gt_of (in_p (List.mem_of_getElem? (i := 29) (by decide +kernel))) rfl
theorem wp_30 : (Jvm.Cond.selects "HexTableModel" ({ cls := "HexTableModel", name := "walked", desc := "(I)I" } : Jvm.MethodName) ({ cls := "HexTableModel", name := "walked", desc := "(I)I" } : Jvm.MethodName)) ∈ gt := gt_of (in_p (List.mem_of_getElem? (i := 30) (by decide +kernel))) rfl
theorem wp_31 : (Jvm.Cond.selects "HexTableModel" ({ cls := "HexTableModel", name := "third", desc := "()V" } : Jvm.MethodName) ({ cls := "HexTableModel", name := "third", desc := "()V" } : Jvm.MethodName)) ∈ gt := gt_of (in_p (List.mem_of_getElem? (i := 31) (by decide +kernel))) rfl
theorem wp_32 : (Jvm.Cond.selects "HexTableModel" ({ cls := "HexTableModel", name := "sideAt", desc := "(II)I" } : Jvm.MethodName) ({ cls := "HexTableModel", name := "sideAt", desc := "(II)I" } : Jvm.MethodName)) ∈ gt := gt_of (in_p (List.mem_of_getElem? (i := 32) (by decide +kernel))) rfl
theorem wp_33 : (Jvm.Cond.selects "HexTableModel" ({ cls := "HexTableModel", name := "makeNode", desc := "(II)V" } : Jvm.MethodName) ({ cls := "HexTableModel", name := "makeNode", desc := "(II)V" } : Jvm.MethodName)) ∈ gt := gt_of (in_p (List.mem_of_getElem? (i := 33) (by decide +kernel))) rfl
theorem wp_34 : (Jvm.Cond.selects "HexTableModel" ({ cls := "HexTableModel", name := "grow", desc := "()Z" } : Jvm.MethodName) ({ cls := "HexTableModel", name := "grow", desc := "()Z" } : Jvm.MethodName)) ∈ gt := gt_of (in_p (List.mem_of_getElem? (i := 34) (by decide +kernel))) rfl
theorem wp_35 : (Jvm.Cond.selects "HexTableModel" ({ cls := "HexTableModel", name := "best", desc := "(IZ)I" } : Jvm.MethodName) ({ cls := "HexTableModel", name := "best", desc := "(IZ)I" } : Jvm.MethodName)) ∈ gt := gt_of (in_p (List.mem_of_getElem? (i := 35) (by decide +kernel))) rfl
theorem wp_36 : (Jvm.Cond.selects "HexTableModel" ({ cls := "HexTableModel", name := "reckon", desc := "(IZ)V" } : Jvm.MethodName) ({ cls := "HexTableModel", name := "reckon", desc := "(IZ)V" } : Jvm.MethodName)) ∈ gt := gt_of (in_p (List.mem_of_getElem? (i := 36) (by decide +kernel))) rfl
theorem wp_37 : (Jvm.Cond.selects "HexTableModel" ({ cls := "HexTableModel", name := "gather", desc := "()V" } : Jvm.MethodName) ({ cls := "HexTableModel", name := "gather", desc := "()V" } : Jvm.MethodName)) ∈ gt := gt_of (in_p (List.mem_of_getElem? (i := 37) (by decide +kernel))) rfl
theorem wp_38 : (Jvm.Cond.selects "HexTableModel" ({ cls := "HexTableModel", name := "isEnd", desc := "(I)Z" } : Jvm.MethodName) ({ cls := "HexTableModel", name := "isEnd", desc := "(I)Z" } : Jvm.MethodName)) ∈ gt := gt_of (in_p (List.mem_of_getElem? (i := 38) (by decide +kernel))) rfl
theorem wp_39 : (Jvm.Cond.selects "HexTableModel" ({ cls := "HexTableModel", name := "isOwn", desc := "(I)Z" } : Jvm.MethodName) ({ cls := "HexTableModel", name := "isOwn", desc := "(I)Z" } : Jvm.MethodName)) ∈ gt := gt_of (in_p (List.mem_of_getElem? (i := 39) (by decide +kernel))) rfl
theorem wp_40 : (Jvm.Cond.selects "HexTableModel" ({ cls := "HexTableModel", name := "isSure", desc := "(I)Z" } : Jvm.MethodName) ({ cls := "HexTableModel", name := "isSure", desc := "(I)Z" } : Jvm.MethodName)) ∈ gt := gt_of (in_p (List.mem_of_getElem? (i := 40) (by decide +kernel))) rfl
theorem wp_41 : (Jvm.Cond.selects "HexTableModel" ({ cls := "HexTableModel", name := "link", desc := "()V" } : Jvm.MethodName) ({ cls := "HexTableModel", name := "link", desc := "()V" } : Jvm.MethodName)) ∈ gt := gt_of (in_p (List.mem_of_getElem? (i := 41) (by decide +kernel))) rfl
theorem wp_42 : (Jvm.Cond.selects "HexTableModel" ({ cls := "HexTableModel", name := "wrongBehind", desc := "(IZ)I" } : Jvm.MethodName) ({ cls := "HexTableModel", name := "wrongBehind", desc := "(IZ)I" } : Jvm.MethodName)) ∈ gt := gt_of (in_p (List.mem_of_getElem? (i := 42) (by decide +kernel))) rfl
theorem wp_43 : (Jvm.Cond.selects "HexTableModel" ({ cls := "HexTableModel", name := "isFree", desc := "(I)Z" } : Jvm.MethodName) ({ cls := "HexTableModel", name := "isFree", desc := "(I)Z" } : Jvm.MethodName)) ∈ gt := gt_of (in_p (List.mem_of_getElem? (i := 43) (by decide +kernel))) rfl
theorem wp_44 : (Jvm.Cond.selects "HexTableModel" ({ cls := "HexTableModel", name := "wrong", desc := "(IIZ)I" } : Jvm.MethodName) ({ cls := "HexTableModel", name := "wrong", desc := "(IIZ)I" } : Jvm.MethodName)) ∈ gt := gt_of (in_p (List.mem_of_getElem? (i := 44) (by decide +kernel))) rfl
