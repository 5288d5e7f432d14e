def RX0 : String := "SightChart$Chart"
def TX0 : u_T := fun k => match k with
  | 0 => ("SightChart$Chart", "nodes", "[LSightChart$Node;", true)
  | 1 => ("SightChart$Chart", "nodeCount", "I", false)
  | _ => ("SightChart$Chart", "worldCount", "I", false)
def tyX0 : Nat → FieldType := fun k => match k with
  | 0 => .array (.object "SightChart$Node")
  | 1 => .int
  | _ => .int
abbrev wsX00 : List Cond := u_ws RX0 TX0 3
theorem nmX0 : ∀ a, a < 3 → ∀ b, b < 3 → a ≠ b → (TX0 a).2.1 ≠ (TX0 b).2.1 := by decide +kernel
theorem tyX0_ok : ∀ k, k < 3 → parseFieldDescriptor (TX0 k).2.2.1 = some (tyX0 k) := by decide +kernel
def RX1 : String := "SightChart$Forgetting"
def TX1 : u_T := fun k => match k with
  | 0 => ("SightChart$Forgetting", "slotStates", "[I", true)
  | 1 => ("SightChart$Forgetting", "need", "[I", true)
  | 2 => ("SightChart$Forgetting", "slotCount", "I", false)
  | _ => ("SightChart$Forgetting", "planCount", "I", false)
def tyX1 : Nat → FieldType := fun k => match k with
  | 0 => .array .int
  | 1 => .array .int
  | 2 => .int
  | _ => .int
abbrev wsX10 : List Cond := u_ws RX1 TX1 4
theorem nmX1 : ∀ a, a < 4 → ∀ b, b < 4 → a ≠ b → (TX1 a).2.1 ≠ (TX1 b).2.1 := by decide +kernel
theorem tyX1_ok : ∀ k, k < 4 → parseFieldDescriptor (TX1 k).2.2.1 = some (tyX1 k) := by decide +kernel
def RX2 : String := "SightChart$Node"
def TX2 : u_T := fun k => match k with
  | 0 => ("SightChart$Node", "kind", "I", false)
  | 1 => ("SightChart$Node", "states", "I", false)
  | 2 => ("SightChart$Node", "stride", "I", false)
  | 3 => ("SightChart$Node", "firmState", "I", false)
  | 4 => ("SightChart$Node", "sights", "I", false)
  | 5 => ("SightChart$Node", "parentCount", "I", false)
  | 6 => ("SightChart$Node", "places", "I", false)
  | 7 => ("SightChart$Node", "parents", "[I", true)
  | _ => ("SightChart$Node", "table", "[I", true)
def tyX2 : Nat → FieldType := fun k => match k with
  | 0 => .int
  | 1 => .int
  | 2 => .int
  | 3 => .int
  | 4 => .int
  | 5 => .int
  | 6 => .int
  | 7 => .array .int
  | _ => .array .int
abbrev wsX20 : List Cond := u_ws RX2 TX2 9
theorem nmX2 : ∀ a, a < 9 → ∀ b, b < 9 → a ≠ b → (TX2 a).2.1 ≠ (TX2 b).2.1 := by decide +kernel
theorem tyX2_ok : ∀ k, k < 9 → parseFieldDescriptor (TX2 k).2.2.1 = some (tyX2 k) := by decide +kernel
def RX3 : String := "SightChart$Worlds"
def TX3 : u_T := fun k => match k with
  | 0 => ("SightChart$Worlds", "chart", "LSightChart$Chart;", true)
  | 1 => ("SightChart$Worlds", "sights", "[I", true)
  | 2 => ("SightChart$Worlds", "known", "[I", true)
  | 3 => ("SightChart$Worlds", "weight", "[I", true)
  | 4 => ("SightChart$Worlds", "worth", "[I", true)
  | 5 => ("SightChart$Worlds", "key", "[I", true)
  | 6 => ("SightChart$Worlds", "sum", "[J", true)
  | 7 => ("SightChart$Worlds", "keptWeight", "[I", true)
  | 8 => ("SightChart$Worlds", "moved", "[I", true)
  | 9 => ("SightChart$Worlds", "movedCount", "I", false)
  | 10 => ("SightChart$Worlds", "size", "I", false)
  | _ => ("SightChart$Worlds", "handNode", "I", false)
def tyX3 : Nat → FieldType := fun k => match k with
  | 0 => .object "SightChart$Chart"
  | 1 => .array .int
  | 2 => .array .int
  | 3 => .array .int
  | 4 => .array .int
  | 5 => .array .int
  | 6 => .array .long
  | 7 => .array .int
  | 8 => .array .int
  | 9 => .int
  | 10 => .int
  | _ => .int
abbrev wsX30 : List Cond := u_ws RX3 TX3 12
theorem nmX3 : ∀ a, a < 12 → ∀ b, b < 12 → a ≠ b → (TX3 a).2.1 ≠ (TX3 b).2.1 := by decide +kernel
theorem tyX3_ok : ∀ k, k < 12 → parseFieldDescriptor (TX3 k).2.2.1 = some (tyX3 k) := by decide +kernel
def RX4 : String := "SightChart"
def TX4 : u_T := fun k => match k with
  | 0 => ("SightChart", "worlds", "LSightChart$Worlds;", true)
  | 1 => ("SightChart", "chart", "LSightChart$Chart;", true)
  | 2 => ("SightChart", "forgetting", "LSightChart$Forgetting;", true)
  | 3 => ("SightChart", "rows", "[[I", true)
  | 4 => ("SightChart", "sizes", "[I", true)
  | 5 => ("SightChart", "foundTimes", "[I", true)
  | 6 => ("SightChart", "lastFound", "I", false)
  | 7 => ("SightChart", "lastAsked", "I", false)
  | 8 => ("SightChart", "upperTold", "J", false)
  | _ => ("SightChart", "lowerTold", "J", false)
def tyX4 : Nat → FieldType := fun k => match k with
  | 0 => .object "SightChart$Worlds"
  | 1 => .object "SightChart$Chart"
  | 2 => .object "SightChart$Forgetting"
  | 3 => .array (.array .int)
  | 4 => .array .int
  | 5 => .array .int
  | 6 => .int
  | 7 => .int
  | 8 => .long
  | _ => .long
abbrev wsX40 : List Cond := u_ws RX4 TX4 10
theorem nmX4 : ∀ a, a < 10 → ∀ b, b < 10 → a ≠ b → (TX4 a).2.1 ≠ (TX4 b).2.1 := by decide +kernel
theorem tyX4_ok : ∀ k, k < 10 → parseFieldDescriptor (TX4 k).2.2.1 = some (tyX4 k) := by decide +kernel
def RX5 : String := "SightChartModel"
def TX5 : u_T := fun k => match k with
  | 0 => ("SightChartModel", "finding", "I", false)
  | 1 => ("SightChartModel", "findings", "[I", true)
  | 2 => ("SightChartModel", "asked", "I", false)
  | 3 => ("SightChartModel", "upper", "J", false)
  | 4 => ("SightChartModel", "lower", "J", false)
  | 5 => ("SightChartModel", "nodes", "I", false)
  | 6 => ("SightChartModel", "kinds", "[I", true)
  | 7 => ("SightChartModel", "states", "[I", true)
  | 8 => ("SightChartModel", "parents", "[I", true)
  | 9 => ("SightChartModel", "parentRow", "[I", true)
  | 10 => ("SightChartModel", "sights", "[I", true)
  | 11 => ("SightChartModel", "firms", "[I", true)
  | 12 => ("SightChartModel", "tables", "[I", true)
  | 13 => ("SightChartModel", "hand", "I", false)
  | 14 => ("SightChartModel", "now", "[I", true)
  | 15 => ("SightChartModel", "plan", "[I", true)
  | 16 => ("SightChartModel", "sums", "[J", true)
  | 17 => ("SightChartModel", "canBe", "[Z", true)
  | 18 => ("SightChartModel", "known", "[I", true)
  | 19 => ("SightChartModel", "had", "[I", true)
  | 20 => ("SightChartModel", "sizes", "[I", true)
  | 21 => ("SightChartModel", "rows", "[I", true)
  | _ => ("SightChartModel", "moving", "[I", true)
def tyX5 : Nat → FieldType := fun k => match k with
  | 0 => .int
  | 1 => .array .int
  | 2 => .int
  | 3 => .long
  | 4 => .long
  | 5 => .int
  | 6 => .array .int
  | 7 => .array .int
  | 8 => .array .int
  | 9 => .array .int
  | 10 => .array .int
  | 11 => .array .int
  | 12 => .array .int
  | 13 => .int
  | 14 => .array .int
  | 15 => .array .int
  | 16 => .array .long
  | 17 => .array .boolean
  | 18 => .array .int
  | 19 => .array .int
  | 20 => .array .int
  | 21 => .array .int
  | _ => .array .int
abbrev wsX50 : List Cond := u_ws RX5 TX5 23
theorem nmX5 : ∀ a, a < 23 → ∀ b, b < 23 → a ≠ b → (TX5 a).2.1 ≠ (TX5 b).2.1 := by decide +kernel
theorem tyX5_ok : ∀ k, k < 23 → parseFieldDescriptor (TX5 k).2.2.1 = some (tyX5 k) := by decide +kernel
abbrev vwCl : List vw_C := [(RX0, TX0, 3), (RX1, TX1, 4), (RX2, TX2, 9), (RX3, TX3, 12), (RX4, TX4, 10), (RX5, TX5, 23)]
/-- the words that a call may hand on -/
def sc_gw : List Cond := lw_tbl.filter goodWord
theorem sc_gw_of {w : Cond} (h : w ∈ lw_tbl) (hg : goodWord w = true) : w ∈ sc_gw := List.mem_filter.mpr ⟨h, hg⟩
theorem sc_gw_good {w : Cond} (h : w ∈ sc_gw) : (w.onTables && w.keeps) = true ∨ ∃ ty, w = .arrayClass ty := good_of_word (List.mem_filter.mp h).2
theorem sc_gw_goodIn : GoodIn sc_gw sc_gw := fun _ h => ⟨h, sc_gw_good h⟩
theorem sc_in0 : ∀ w ∈ wsX00, w ∈ sc_gw := fun w h => sc_gw_of ((by decide +kernel : ∀ w ∈ wsX00, w ∈ lw_tbl) w h) ((by decide +kernel : ∀ w ∈ wsX00, goodWord w = true) w h)
theorem sc_in1 : ∀ w ∈ wsX10, w ∈ sc_gw := fun w h => sc_gw_of ((by decide +kernel : ∀ w ∈ wsX10, w ∈ lw_tbl) w h) ((by decide +kernel : ∀ w ∈ wsX10, goodWord w = true) w h)
theorem sc_in2 : ∀ w ∈ wsX20, w ∈ sc_gw := fun w h => sc_gw_of ((by decide +kernel : ∀ w ∈ wsX20, w ∈ lw_tbl) w h) ((by decide +kernel : ∀ w ∈ wsX20, goodWord w = true) w h)
theorem sc_in3 : ∀ w ∈ wsX30, w ∈ sc_gw := fun w h => sc_gw_of ((by decide +kernel : ∀ w ∈ wsX30, w ∈ lw_tbl) w h) ((by decide +kernel : ∀ w ∈ wsX30, goodWord w = true) w h)
theorem sc_in4 : ∀ w ∈ wsX40, w ∈ sc_gw := fun w h => sc_gw_of ((by decide +kernel : ∀ w ∈ wsX40, w ∈ lw_tbl) w h) ((by decide +kernel : ∀ w ∈ wsX40, goodWord w = true) w h)
theorem sc_in5 : ∀ w ∈ wsX50, w ∈ sc_gw := fun w h => sc_gw_of ((by decide +kernel : ∀ w ∈ wsX50, w ∈ lw_tbl) w h) ((by decide +kernel : ∀ w ∈ wsX50, goodWord w = true) w h)
/-- a method: its name, its bytes, how many locals it has, what it gives back -/
abbrev sc_Q : Type := MethodName × ByteArray × Nat × Option FieldType
abbrev mq_Sc_init : sc_Q := (⟨"SightChart", "<init>", "()V"⟩, prog_1_method_1_code, 1, none)
abbrev mq_Wo_init : sc_Q := (⟨"SightChart$Worlds", "<init>", "()V"⟩, prog_5_method_1_code, 1, none)
abbrev mq_Ch_init : sc_Q := (⟨"SightChart$Chart", "<init>", "()V"⟩, prog_2_method_1_code, 2, none)
abbrev mq_No_init : sc_Q := (⟨"SightChart$Node", "<init>", "()V"⟩, prog_4_method_1_code, 1, none)
abbrev mq_Fo_init : sc_Q := (⟨"SightChart$Forgetting", "<init>", "()V"⟩, prog_3_method_1_code, 1, none)
abbrev mq_Ar_fillI : sc_Q := (⟨"java/util/Arrays", "fill", "([II)V"⟩, prog_11_method_103_code, 4, none)
abbrev mq_Sc_node : sc_Q := (⟨"SightChart", "node", "(II)I"⟩, prog_1_method_2_code, 3, (some FieldType.int))
abbrev mq_Ch_add : sc_Q := (⟨"SightChart$Chart", "add", "(II)I"⟩, prog_2_method_3_code, 3, (some FieldType.int))
abbrev mq_No_begin : sc_Q := (⟨"SightChart$Node", "begin", "(III)V"⟩, prog_4_method_2_code, 4, none)
abbrev mq_No_clearTable : sc_Q := (⟨"SightChart$Node", "clearTable", "()V"⟩, prog_4_method_3_code, 2, none)
abbrev mq_Sc_parent : sc_Q := (⟨"SightChart", "parent", "(II)I"⟩, prog_1_method_3_code, 5, (some FieldType.int))
abbrev mq_Ch_has : sc_Q := (⟨"SightChart$Chart", "has", "(I)Z"⟩, prog_2_method_2_code, 2, (some FieldType.boolean))
abbrev mq_No_isChildOf : sc_Q := (⟨"SightChart$Node", "isChildOf", "(I)Z"⟩, prog_4_method_6_code, 3, (some FieldType.boolean))
abbrev mq_Sc_find : sc_Q := (⟨"SightChart", "find", "(I)I"⟩, prog_1_method_41_code, 2, (some FieldType.int))
abbrev mq_No_mostParents : sc_Q := (⟨"SightChart$Node", "mostParents", "()I"⟩, prog_4_method_5_code, 1, (some FieldType.int))
abbrev mq_No_addParent : sc_Q := (⟨"SightChart$Node", "addParent", "(II)V"⟩, prog_4_method_7_code, 3, none)
abbrev mq_Sc_sight : sc_Q := (⟨"SightChart", "sight", "(II)I"⟩, prog_1_method_4_code, 5, (some FieldType.int))
abbrev mq_Sc_refuseSight : sc_Q := (⟨"SightChart", "refuseSight", "(II)I"⟩, prog_1_method_39_code, 4, (some FieldType.int))
abbrev mq_No_sees : sc_Q := (⟨"SightChart$Node", "sees", "(I)Z"⟩, prog_4_method_11_code, 2, (some FieldType.boolean))
abbrev mq_In_bitCount : sc_Q := (⟨"java/lang/Integer", "bitCount", "(I)I"⟩, prog_8_method_49_code, 1, (some FieldType.int))
abbrev mq_Sc_blind : sc_Q := (⟨"SightChart", "blind", "(II)I"⟩, prog_1_method_5_code, 5, (some FieldType.int))
abbrev mq_Sc_refuseBlind : sc_Q := (⟨"SightChart", "refuseBlind", "(II)I"⟩, prog_1_method_40_code, 4, (some FieldType.int))
abbrev mq_Sc_weigh : sc_Q := (⟨"SightChart", "weigh", "(IIII)I"⟩, prog_1_method_6_code, 7, (some FieldType.int))
abbrev mq_Sc_areWeights : sc_Q := (⟨"SightChart", "areWeights", "(II)Z"⟩, prog_1_method_38_code, 2, (some FieldType.boolean))
abbrev mq_No_mayLeave : sc_Q := (⟨"SightChart$Node", "mayLeave", "(I)Z"⟩, prog_4_method_4_code, 2, (some FieldType.boolean))
abbrev mq_No_hasPlace : sc_Q := (⟨"SightChart$Node", "hasPlace", "(I)Z"⟩, prog_4_method_13_code, 2, (some FieldType.boolean))
abbrev mq_No_put : sc_Q := (⟨"SightChart$Node", "put", "(II)V"⟩, prog_4_method_16_code, 3, none)
abbrev mq_Sc_weight : sc_Q := (⟨"SightChart", "weight", "(III)I"⟩, prog_1_method_7_code, 5, (some FieldType.int))
abbrev mq_No_hasState : sc_Q := (⟨"SightChart$Node", "hasState", "(I)Z"⟩, prog_4_method_12_code, 2, (some FieldType.boolean))
abbrev mq_No_get : sc_Q := (⟨"SightChart$Node", "get", "(I)I"⟩, prog_4_method_15_code, 2, (some FieldType.int))
abbrev mq_Sc_worth : sc_Q := (⟨"SightChart", "worth", "(III)I"⟩, prog_1_method_8_code, 6, (some FieldType.int))
abbrev mq_Sc_ask : sc_Q := (⟨"SightChart", "ask", "(I)I"⟩, prog_1_method_42_code, 2, (some FieldType.int))
abbrev mq_Sc_firm : sc_Q := (⟨"SightChart", "firm", "(II)I"⟩, prog_1_method_9_code, 5, (some FieldType.int))
abbrev mq_Sc_told : sc_Q := (⟨"SightChart", "told", "(II)I"⟩, prog_1_method_10_code, 3, (some FieldType.int))
abbrev mq_No_tell : sc_Q := (⟨"SightChart$Node", "tell", "(I)I"⟩, prog_4_method_17_code, 2, (some FieldType.int))
abbrev mq_No_isFirm : sc_Q := (⟨"SightChart$Node", "isFirm", "()Z"⟩, prog_4_method_9_code, 1, (some FieldType.boolean))
abbrev mq_Sc_mark : sc_Q := (⟨"SightChart", "mark", "(II)I"⟩, prog_1_method_11_code, 4, (some FieldType.int))
abbrev mq_No_is : sc_Q := (⟨"SightChart$Node", "is", "(I)Z"⟩, prog_4_method_8_code, 2, (some FieldType.boolean))
abbrev mq_Ch_countSeeing : sc_Q := (⟨"SightChart$Chart", "countSeeing", "(I)I"⟩, prog_2_method_5_code, 4, (some FieldType.int))
abbrev mq_Ch_countChildren : sc_Q := (⟨"SightChart$Chart", "countChildren", "(I)I"⟩, prog_2_method_6_code, 4, (some FieldType.int))
abbrev mq_Sc_mean : sc_Q := (⟨"SightChart", "mean", "(I)I"⟩, prog_1_method_12_code, 5, (some FieldType.int))
abbrev mq_Sc_meanSights : sc_Q := (⟨"SightChart", "meanSights", "()I"⟩, prog_1_method_13_code, 4, (some FieldType.int))
abbrev mq_Ch_countKind : sc_Q := (⟨"SightChart$Chart", "countKind", "(I)I"⟩, prog_2_method_4_code, 4, (some FieldType.int))
abbrev mq_Sc_best : sc_Q := (⟨"SightChart", "best", "()I"⟩, prog_1_method_14_code, 1, (some FieldType.int))
abbrev mq_Sc_bestOfChart : sc_Q := (⟨"SightChart", "bestOfChart", "()J"⟩, prog_1_method_43_code, 1, (some FieldType.long))
abbrev mq_Wo_takeChart : sc_Q := (⟨"SightChart$Worlds", "takeChart", "()V"⟩, prog_5_method_2_code, 2, none)
abbrev mq_Wo_greatest : sc_Q := (⟨"SightChart$Worlds", "greatest", "()J"⟩, prog_5_method_15_code, 4, (some FieldType.long))
abbrev mq_Wo_layOut : sc_Q := (⟨"SightChart$Worlds", "layOut", "()V"⟩, prog_5_method_8_code, 1, none)
abbrev mq_Wo_layKnown : sc_Q := (⟨"SightChart$Worlds", "layKnown", "()V"⟩, prog_5_method_9_code, 3, none)
abbrev mq_Wo_layWeights : sc_Q := (⟨"SightChart$Worlds", "layWeights", "()V"⟩, prog_5_method_10_code, 3, none)
abbrev mq_Wo_spreadWeights : sc_Q := (⟨"SightChart$Worlds", "spreadWeights", "(ILSightChart$Node;)V"⟩, prog_5_method_11_code, 6, none)
abbrev mq_Ch_placeIn : sc_Q := (⟨"SightChart$Chart", "placeIn", "(LSightChart$Node;I)I"⟩, prog_2_method_9_code, 7, (some FieldType.int))
abbrev mq_No_stateIn : sc_Q := (⟨"SightChart$Node", "stateIn", "(I)I"⟩, prog_4_method_14_code, 2, (some FieldType.int))
abbrev mq_Wo_weightOfState : sc_Q := (⟨"SightChart$Worlds", "weightOfState", "(ILSightChart$Node;II)I"⟩, prog_5_method_12_code, 5, (some FieldType.int))
abbrev mq_Wo_layWorths : sc_Q := (⟨"SightChart$Worlds", "layWorths", "()V"⟩, prog_5_method_13_code, 4, none)
abbrev mq_Wo_settleBehind : sc_Q := (⟨"SightChart$Worlds", "settleBehind", "(I)V"⟩, prog_5_method_17_code, 3, none)
abbrev mq_Wo_isFree : sc_Q := (⟨"SightChart$Worlds", "isFree", "(I)Z"⟩, prog_5_method_7_code, 2, (some FieldType.boolean))
abbrev mq_No_isFree : sc_Q := (⟨"SightChart$Node", "isFree", "()Z"⟩, prog_4_method_10_code, 1, (some FieldType.boolean))
abbrev mq_Wo_sumUp : sc_Q := (⟨"SightChart$Worlds", "sumUp", "(I)V"⟩, prog_5_method_19_code, 3, none)
abbrev mq_Wo_layKeys : sc_Q := (⟨"SightChart$Worlds", "layKeys", "(I)V"⟩, prog_5_method_14_code, 8, none)
abbrev mq_Ar_fillJ : sc_Q := (⟨"java/util/Arrays", "fill", "([JJ)V"⟩, prog_11_method_101_code, 5, none)
abbrev mq_Wo_dropOthers : sc_Q := (⟨"SightChart$Worlds", "dropOthers", "(LSightChart$Node;)V"⟩, prog_5_method_18_code, 4, none)
abbrev mq_Wo_greatestState : sc_Q := (⟨"SightChart$Worlds", "greatestState", "(LSightChart$Node;I)I"⟩, prog_5_method_20_code, 6, (some FieldType.int))
abbrev mq_Sc_tellFraction : sc_Q := (⟨"SightChart", "tellFraction", "(J)I"⟩, prog_1_method_44_code, 7, (some FieldType.int))
abbrev mq_Ch_wholeWeight : sc_Q := (⟨"SightChart$Chart", "wholeWeight", "()J"⟩, prog_2_method_8_code, 4, (some FieldType.long))
abbrev mq_Ma_abs : sc_Q := (⟨"java/lang/Math", "abs", "(J)J"⟩, prog_9_method_61_code, 2, (some FieldType.long))
abbrev mq_Sc_commonDivisor : sc_Q := (⟨"SightChart", "commonDivisor", "(JJ)J"⟩, prog_1_method_45_code, 11, (some FieldType.long))
abbrev mq_Sc_does : sc_Q := (⟨"SightChart", "does", "(II)I"⟩, prog_1_method_15_code, 5, (some FieldType.int))
abbrev mq_Sc_isRow : sc_Q := (⟨"SightChart", "isRow", "(I)Z"⟩, prog_1_method_37_code, 1, (some FieldType.boolean))
abbrev mq_Wo_keyOfRow : sc_Q := (⟨"SightChart$Worlds", "keyOfRow", "(I[I)I"⟩, prog_5_method_22_code, 5, (some FieldType.int))
abbrev mq_Wo_decide : sc_Q := (⟨"SightChart$Worlds", "decide", "(II)I"⟩, prog_5_method_21_code, 3, (some FieldType.int))
abbrev mq_Sc_bestForgetting : sc_Q := (⟨"SightChart", "bestForgetting", "()I"⟩, prog_1_method_16_code, 1, (some FieldType.int))
abbrev mq_Fo_countPlans : sc_Q := (⟨"SightChart$Forgetting", "countPlans", "(LSightChart$Chart;)I"⟩, prog_3_method_2_code, 3, (some FieldType.int))
abbrev mq_Fo_addSlots : sc_Q := (⟨"SightChart$Forgetting", "addSlots", "(LSightChart$Chart;LSightChart$Node;)V"⟩, prog_3_method_3_code, 5, none)
abbrev mq_Fo_sightWays : sc_Q := (⟨"SightChart$Forgetting", "sightWays", "(LSightChart$Chart;LSightChart$Node;)I"⟩, prog_3_method_4_code, 5, (some FieldType.int))
abbrev mq_Fo_greatest : sc_Q := (⟨"SightChart$Forgetting", "greatest", "(LSightChart$Worlds;)J"⟩, prog_3_method_6_code, 5, (some FieldType.long))
abbrev mq_Fo_layNeeds : sc_Q := (⟨"SightChart$Forgetting", "layNeeds", "(LSightChart$Worlds;)V"⟩, prog_3_method_7_code, 7, none)
abbrev mq_Fo_wayIn : sc_Q := (⟨"SightChart$Forgetting", "wayIn", "(LSightChart$Chart;LSightChart$Node;I)I"⟩, prog_3_method_5_code, 7, (some FieldType.int))
abbrev mq_Fo_bit : sc_Q := (⟨"SightChart$Forgetting", "bit", "(II)I"⟩, prog_3_method_8_code, 2, (some FieldType.int))
abbrev mq_Fo_planBits : sc_Q := (⟨"SightChart$Forgetting", "planBits", "(I)I"⟩, prog_3_method_9_code, 6, (some FieldType.int))
abbrev mq_Fo_meanOf : sc_Q := (⟨"SightChart$Forgetting", "meanOf", "(LSightChart$Worlds;I)J"⟩, prog_3_method_10_code, 6, (some FieldType.long))
abbrev mq_Ma_maxJ : sc_Q := (⟨"java/lang/Math", "max", "(JJ)J"⟩, prog_9_method_66_code, 4, (some FieldType.long))
abbrev mq_Sc_lost : sc_Q := (⟨"SightChart", "lost", "()I"⟩, prog_1_method_17_code, 1, (some FieldType.int))
abbrev mq_Sc_worthOf : sc_Q := (⟨"SightChart", "worthOf", "(II)I"⟩, prog_1_method_18_code, 6, (some FieldType.int))
abbrev mq_Wo_supposeSight : sc_Q := (⟨"SightChart$Worlds", "supposeSight", "(II)V"⟩, prog_5_method_3_code, 3, none)
abbrev mq_Sc_knowing : sc_Q := (⟨"SightChart", "knowing", "()I"⟩, prog_1_method_19_code, 3, (some FieldType.int))
abbrev mq_Wo_supposeAllSights : sc_Q := (⟨"SightChart$Worlds", "supposeAllSights", "()V"⟩, prog_5_method_5_code, 3, none)
abbrev mq_Sc_inHand : sc_Q := (⟨"SightChart", "inHand", "(I)I"⟩, prog_1_method_20_code, 4, (some FieldType.int))
abbrev mq_Wo_supposeInHand : sc_Q := (⟨"SightChart$Worlds", "supposeInHand", "(I)V"⟩, prog_5_method_6_code, 3, none)
abbrev mq_Sc_needless : sc_Q := (⟨"SightChart", "needless", "(II)I"⟩, prog_1_method_21_code, 6, (some FieldType.int))
abbrev mq_Wo_supposeBlind : sc_Q := (⟨"SightChart$Worlds", "supposeBlind", "(II)V"⟩, prog_5_method_4_code, 3, none)
abbrev mq_Sc_span : sc_Q := (⟨"SightChart", "span", "(IIZ)I"⟩, prog_1_method_22_code, 6, (some FieldType.int))
abbrev mq_Ch_firstFree : sc_Q := (⟨"SightChart$Chart", "firstFree", "()I"⟩, prog_2_method_7_code, 2, (some FieldType.int))
abbrev mq_Wo_farthest : sc_Q := (⟨"SightChart$Worlds", "farthest", "(ILSightChart$Node;II)I"⟩, prog_5_method_24_code, 10, (some FieldType.int))
abbrev mq_Wo_keyOfFirst : sc_Q := (⟨"SightChart$Worlds", "keyOfFirst", "(I)I"⟩, prog_5_method_23_code, 5, (some FieldType.int))
abbrev mq_Wo_keepWorldsOf : sc_Q := (⟨"SightChart$Worlds", "keepWorldsOf", "(II)V"⟩, prog_5_method_25_code, 4, none)
abbrev mq_Wo_listMoved : sc_Q := (⟨"SightChart$Worlds", "listMoved", "(LSightChart$Node;I)V"⟩, prog_5_method_26_code, 4, none)
abbrev mq_Wo_decideAgain : sc_Q := (⟨"SightChart$Worlds", "decideAgain", "(II)I"⟩, prog_5_method_27_code, 3, (some FieldType.int))
abbrev mq_Sc_chance : sc_Q := (⟨"SightChart", "chance", "(II)I"⟩, prog_1_method_23_code, 4, (some FieldType.int))
abbrev mq_Wo_settle : sc_Q := (⟨"SightChart$Worlds", "settle", "()V"⟩, prog_5_method_16_code, 1, none)
abbrev mq_Wo_weightOf : sc_Q := (⟨"SightChart$Worlds", "weightOf", "(LSightChart$Node;I)J"⟩, prog_5_method_28_code, 6, (some FieldType.long))
abbrev mq_Sc_end : sc_Q := (⟨"SightChart", "end", "(Z)I"⟩, prog_1_method_24_code, 2, (some FieldType.int))
abbrev mq_Wo_outermostWorth : sc_Q := (⟨"SightChart$Worlds", "outermostWorth", "(Z)I"⟩, prog_5_method_29_code, 5, (some FieldType.int))
abbrev mq_Sc_row : sc_Q := (⟨"SightChart", "row", "(II)I"⟩, prog_1_method_25_code, 3, (some FieldType.int))
abbrev mq_Sc_lay : sc_Q := (⟨"SightChart", "lay", "(III)I"⟩, prog_1_method_26_code, 5, (some FieldType.int))
abbrev mq_Sc_tear : sc_Q := (⟨"SightChart", "tear", "(I)I"⟩, prog_1_method_27_code, 2, (some FieldType.int))
abbrev mq_Sc_copy : sc_Q := (⟨"SightChart", "copy", "(IIIII)I"⟩, prog_1_method_28_code, 6, (some FieldType.int))
abbrev mq_Sc_fill : sc_Q := (⟨"SightChart", "fill", "(II)I"⟩, prog_1_method_29_code, 6, (some FieldType.int))
abbrev mq_Ma_min : sc_Q := (⟨"java/lang/Math", "min", "(II)I"⟩, prog_9_method_69_code, 2, (some FieldType.int))
abbrev mq_Ma_maxI : sc_Q := (⟨"java/lang/Math", "max", "(II)I"⟩, prog_9_method_65_code, 2, (some FieldType.int))
abbrev mq_Sc_asked : sc_Q := (⟨"SightChart", "asked", "()I"⟩, prog_1_method_30_code, 1, (some FieldType.int))
abbrev mq_Sc_upper : sc_Q := (⟨"SightChart", "upper", "()J"⟩, prog_1_method_31_code, 1, (some FieldType.long))
abbrev mq_Sc_lower : sc_Q := (⟨"SightChart", "lower", "()J"⟩, prog_1_method_32_code, 1, (some FieldType.long))
abbrev mq_Sc_count : sc_Q := (⟨"SightChart", "count", "(I)I"⟩, prog_1_method_33_code, 2, (some FieldType.int))
abbrev mq_Sc_finding : sc_Q := (⟨"SightChart", "finding", "()I"⟩, prog_1_method_34_code, 1, (some FieldType.int))
abbrev mq_Sc_findings : sc_Q := (⟨"SightChart", "findings", "(I)I"⟩, prog_1_method_35_code, 2, (some FieldType.int))
abbrev mq_Sc_digest : sc_Q := (⟨"SightChart", "digest", "()J"⟩, prog_1_method_36_code, 5, (some FieldType.long))
abbrev mq_No_digestOn : sc_Q := (⟨"SightChart$Node", "digestOn", "(J)J"⟩, prog_4_method_18_code, 7, (some FieldType.long))
abbrev mq_Mo_init : sc_Q := (⟨"SightChartModel", "<init>", "()V"⟩, prog_7_method_1_code, 2, none)
abbrev mq_Mo_node : sc_Q := (⟨"SightChartModel", "node", "(II)I"⟩, prog_7_method_12_code, 3, (some FieldType.int))
abbrev mq_Mo_in : sc_Q := (⟨"SightChartModel", "in", "(III)Z"⟩, prog_7_method_3_code, 3, (some FieldType.boolean))
abbrev mq_Mo_worlds : sc_Q := (⟨"SightChartModel", "worlds", "()I"⟩, prog_7_method_8_code, 3, (some FieldType.int))
abbrev mq_Mo_clearTable : sc_Q := (⟨"SightChartModel", "clearTable", "(I)V"⟩, prog_7_method_11_code, 3, none)
abbrev mq_Mo_rowsOf : sc_Q := (⟨"SightChartModel", "rowsOf", "(I)I"⟩, prog_7_method_9_code, 4, (some FieldType.int))
abbrev mq_Mo_parent : sc_Q := (⟨"SightChartModel", "parent", "(II)I"⟩, prog_7_method_13_code, 5, (some FieldType.int))
abbrev mq_Mo_isNode : sc_Q := (⟨"SightChartModel", "isNode", "(I)Z"⟩, prog_7_method_7_code, 2, (some FieldType.boolean))
abbrev mq_Mo_meets : sc_Q := (⟨"SightChartModel", "meets", "(I)I"⟩, prog_7_method_4_code, 2, (some FieldType.int))
abbrev mq_Mo_sight : sc_Q := (⟨"SightChartModel", "sight", "(II)I"⟩, prog_7_method_16_code, 4, (some FieldType.int))
abbrev mq_Mo_askedSight : sc_Q := (⟨"SightChartModel", "askedSight", "(IIZ)I"⟩, prog_7_method_15_code, 4, (some FieldType.int))
abbrev mq_Mo_bits : sc_Q := (⟨"SightChartModel", "bits", "(I)I"⟩, prog_7_method_14_code, 3, (some FieldType.int))
abbrev mq_Mo_blind : sc_Q := (⟨"SightChartModel", "blind", "(II)I"⟩, prog_7_method_18_code, 4, (some FieldType.int))
abbrev mq_Mo_askedBlind : sc_Q := (⟨"SightChartModel", "askedBlind", "(II)I"⟩, prog_7_method_17_code, 3, (some FieldType.int))
abbrev mq_Mo_weigh : sc_Q := (⟨"SightChartModel", "weigh", "(IIII)I"⟩, prog_7_method_19_code, 6, (some FieldType.int))
abbrev mq_Mo_weight : sc_Q := (⟨"SightChartModel", "weight", "(III)I"⟩, prog_7_method_20_code, 4, (some FieldType.int))
abbrev mq_Mo_worth : sc_Q := (⟨"SightChartModel", "worth", "(III)I"⟩, prog_7_method_21_code, 4, (some FieldType.int))
abbrev mq_Mo_firm : sc_Q := (⟨"SightChartModel", "firm", "(II)I"⟩, prog_7_method_22_code, 4, (some FieldType.int))
abbrev mq_Mo_told : sc_Q := (⟨"SightChartModel", "told", "(II)I"⟩, prog_7_method_25_code, 3, (some FieldType.int))
abbrev mq_Mo_tells : sc_Q := (⟨"SightChartModel", "tells", "(II)I"⟩, prog_7_method_24_code, 3, (some FieldType.int))
abbrev mq_Mo_kindOf : sc_Q := (⟨"SightChartModel", "kindOf", "(I)I"⟩, prog_7_method_23_code, 2, (some FieldType.int))
abbrev mq_Mo_placesOf : sc_Q := (⟨"SightChartModel", "placesOf", "(I)I"⟩, prog_7_method_10_code, 2, (some FieldType.int))
abbrev mq_Mo_mark : sc_Q := (⟨"SightChartModel", "mark", "(II)I"⟩, prog_7_method_26_code, 7, (some FieldType.int))
abbrev mq_Mo_mean : sc_Q := (⟨"SightChartModel", "mean", "(I)I"⟩, prog_7_method_27_code, 4, (some FieldType.int))
abbrev mq_Mo_ask : sc_Q := (⟨"SightChartModel", "ask", "(I)I"⟩, prog_7_method_5_code, 2, (some FieldType.int))
abbrev mq_Mo_meanSights : sc_Q := (⟨"SightChartModel", "meanSights", "()I"⟩, prog_7_method_28_code, 4, (some FieldType.int))
abbrev mq_Mo_best : sc_Q := (⟨"SightChartModel", "best", "()I"⟩, prog_7_method_44_code, 1, (some FieldType.int))
abbrev mq_Mo_bestSum : sc_Q := (⟨"SightChartModel", "bestSum", "()J"⟩, prog_7_method_43_code, 1, (some FieldType.long))
abbrev mq_Mo_setPlan : sc_Q := (⟨"SightChartModel", "setPlan", "()V"⟩, prog_7_method_40_code, 2, none)
abbrev mq_Mo_isChoice : sc_Q := (⟨"SightChartModel", "isChoice", "(I)Z"⟩, prog_7_method_29_code, 2, (some FieldType.boolean))
abbrev mq_Mo_knownAt : sc_Q := (⟨"SightChartModel", "knownAt", "(I)I"⟩, prog_7_method_37_code, 4, (some FieldType.int))
abbrev mq_Mo_sightsOf : sc_Q := (⟨"SightChartModel", "sightsOf", "(I)I"⟩, prog_7_method_36_code, 5, (some FieldType.int))
abbrev mq_Mo_planAt : sc_Q := (⟨"SightChartModel", "planAt", "(I)V"⟩, prog_7_method_39_code, 10, none)
abbrev mq_Mo_setWorld : sc_Q := (⟨"SightChartModel", "setWorld", "(I)V"⟩, prog_7_method_30_code, 4, none)
abbrev mq_Mo_weightNow : sc_Q := (⟨"SightChartModel", "weightNow", "()J"⟩, prog_7_method_33_code, 4, (some FieldType.long))
abbrev mq_Mo_rowNow : sc_Q := (⟨"SightChartModel", "rowNow", "(I)I"⟩, prog_7_method_32_code, 6, (some FieldType.int))
abbrev mq_Mo_numberOf : sc_Q := (⟨"SightChartModel", "numberOf", "(I)I"⟩, prog_7_method_31_code, 5, (some FieldType.int))
abbrev mq_Mo_goes : sc_Q := (⟨"SightChartModel", "goes", "(I)Z"⟩, prog_7_method_38_code, 2, (some FieldType.boolean))
abbrev mq_Mo_worthNow : sc_Q := (⟨"SightChartModel", "worthNow", "()I"⟩, prog_7_method_34_code, 3, (some FieldType.int))
abbrev mq_Mo_sumOfPlan : sc_Q := (⟨"SightChartModel", "sumOfPlan", "()J"⟩, prog_7_method_42_code, 5, (some FieldType.long))
abbrev mq_Mo_comes : sc_Q := (⟨"SightChartModel", "comes", "()Z"⟩, prog_7_method_41_code, 3, (some FieldType.boolean))
abbrev mq_Mo_allWeights : sc_Q := (⟨"SightChartModel", "allWeights", "()J"⟩, prog_7_method_35_code, 4, (some FieldType.long))
abbrev mq_Mo_tell : sc_Q := (⟨"SightChartModel", "tell", "(JJ)I"⟩, prog_7_method_6_code, 11, (some FieldType.int))
abbrev mq_Mo_does : sc_Q := (⟨"SightChartModel", "does", "(II)I"⟩, prog_7_method_45_code, 7, (some FieldType.int))
abbrev mq_Mo_bestForgetting : sc_Q := (⟨"SightChartModel", "bestForgetting", "()I"⟩, prog_7_method_49_code, 1, (some FieldType.int))
abbrev mq_Mo_isTooMuch : sc_Q := (⟨"SightChartModel", "isTooMuch", "()Z"⟩, prog_7_method_48_code, 6, (some FieldType.boolean))
abbrev mq_Mo_forgettingSum : sc_Q := (⟨"SightChartModel", "forgettingSum", "()J"⟩, prog_7_method_46_code, 5, (some FieldType.long))
abbrev mq_Mo_nextPlan : sc_Q := (⟨"SightChartModel", "nextPlan", "()Z"⟩, prog_7_method_47_code, 5, (some FieldType.boolean))
abbrev mq_Mo_lost : sc_Q := (⟨"SightChartModel", "lost", "()I"⟩, prog_7_method_50_code, 3, (some FieldType.int))
abbrev mq_Mo_worthOf : sc_Q := (⟨"SightChartModel", "worthOf", "(II)I"⟩, prog_7_method_51_code, 8, (some FieldType.int))
abbrev mq_Mo_knowing : sc_Q := (⟨"SightChartModel", "knowing", "()I"⟩, prog_7_method_52_code, 6, (some FieldType.int))
abbrev mq_Mo_inHand : sc_Q := (⟨"SightChartModel", "inHand", "(I)I"⟩, prog_7_method_53_code, 6, (some FieldType.int))
abbrev mq_Mo_needless : sc_Q := (⟨"SightChartModel", "needless", "(II)I"⟩, prog_7_method_54_code, 8, (some FieldType.int))
abbrev mq_Mo_span : sc_Q := (⟨"SightChartModel", "span", "(IIZ)I"⟩, prog_7_method_56_code, 11, (some FieldType.int))
abbrev mq_Mo_firstDoes : sc_Q := (⟨"SightChartModel", "firstDoes", "(I)I"⟩, prog_7_method_55_code, 3, (some FieldType.int))
abbrev mq_Mo_chance : sc_Q := (⟨"SightChartModel", "chance", "(II)I"⟩, prog_7_method_57_code, 7, (some FieldType.int))
abbrev mq_Mo_end : sc_Q := (⟨"SightChartModel", "end", "(Z)I"⟩, prog_7_method_58_code, 7, (some FieldType.int))
abbrev mq_Mo_row : sc_Q := (⟨"SightChartModel", "row", "(II)I"⟩, prog_7_method_61_code, 4, (some FieldType.int))
abbrev mq_Mo_isRow : sc_Q := (⟨"SightChartModel", "isRow", "(I)Z"⟩, prog_7_method_59_code, 1, (some FieldType.boolean))
abbrev mq_Mo_lay : sc_Q := (⟨"SightChartModel", "lay", "(III)I"⟩, prog_7_method_62_code, 5, (some FieldType.int))
abbrev mq_Mo_looked : sc_Q := (⟨"SightChartModel", "looked", "(I)I"⟩, prog_7_method_60_code, 2, (some FieldType.int))
abbrev mq_Mo_tear : sc_Q := (⟨"SightChartModel", "tear", "(I)I"⟩, prog_7_method_63_code, 3, (some FieldType.int))
abbrev mq_Mo_copy : sc_Q := (⟨"SightChartModel", "copy", "(IIIII)I"⟩, prog_7_method_64_code, 7, (some FieldType.int))
abbrev mq_Mo_fill : sc_Q := (⟨"SightChartModel", "fill", "(II)I"⟩, prog_7_method_65_code, 6, (some FieldType.int))
abbrev mq_Mo_asked : sc_Q := (⟨"SightChartModel", "asked", "()I"⟩, prog_7_method_66_code, 1, (some FieldType.int))
abbrev mq_Mo_upper : sc_Q := (⟨"SightChartModel", "upper", "()J"⟩, prog_7_method_67_code, 1, (some FieldType.long))
abbrev mq_Mo_lower : sc_Q := (⟨"SightChartModel", "lower", "()J"⟩, prog_7_method_68_code, 1, (some FieldType.long))
abbrev mq_Mo_count : sc_Q := (⟨"SightChartModel", "count", "(I)I"⟩, prog_7_method_69_code, 4, (some FieldType.int))
abbrev mq_Mo_finding : sc_Q := (⟨"SightChartModel", "finding", "()I"⟩, prog_7_method_70_code, 1, (some FieldType.int))
abbrev mq_Mo_findings : sc_Q := (⟨"SightChartModel", "findings", "(I)I"⟩, prog_7_method_71_code, 2, (some FieldType.int))
abbrev mq_Mo_digest : sc_Q := (⟨"SightChartModel", "digest", "()J"⟩, prog_7_method_72_code, 7, (some FieldType.long))
set_option maxRecDepth 100000 in
theorem cm_Sc_init : Cond.code mq_Sc_init.1 mq_Sc_init.2.1 mq_Sc_init.2.2.1 mq_Sc_init.2.2.2 ∈ sc_gw := sc_gw_of (List.mem_of_getElem? (i := 53) rfl) rfl
set_option maxRecDepth 100000 in
theorem cm_Wo_init : Cond.code mq_Wo_init.1 mq_Wo_init.2.1 mq_Wo_init.2.2.1 mq_Wo_init.2.2.2 ∈ sc_gw := sc_gw_of (List.mem_of_getElem? (i := 61) rfl) rfl
set_option maxRecDepth 100000 in
theorem cm_Ch_init : Cond.code mq_Ch_init.1 mq_Ch_init.2.1 mq_Ch_init.2.2.1 mq_Ch_init.2.2.2 ∈ sc_gw := sc_gw_of (List.mem_of_getElem? (i := 67) rfl) rfl
set_option maxRecDepth 100000 in
theorem cm_No_init : Cond.code mq_No_init.1 mq_No_init.2.1 mq_No_init.2.2.1 mq_No_init.2.2.2 ∈ sc_gw := sc_gw_of (List.mem_of_getElem? (i := 74) rfl) rfl
set_option maxRecDepth 100000 in
theorem cm_Fo_init : Cond.code mq_Fo_init.1 mq_Fo_init.2.1 mq_Fo_init.2.2.1 mq_Fo_init.2.2.2 ∈ sc_gw := sc_gw_of (List.mem_of_getElem? (i := 185) rfl) rfl
set_option maxRecDepth 100000 in
theorem cm_Ar_fillI : Cond.code mq_Ar_fillI.1 mq_Ar_fillI.2.1 mq_Ar_fillI.2.2.1 mq_Ar_fillI.2.2.2 ∈ sc_gw := sc_gw_of (List.mem_of_getElem? (i := 204) rfl) rfl
set_option maxRecDepth 100000 in
theorem cm_Sc_node : Cond.code mq_Sc_node.1 mq_Sc_node.2.1 mq_Sc_node.2.2.1 mq_Sc_node.2.2.2 ∈ sc_gw := sc_gw_of (List.mem_of_getElem? (i := 239) rfl) rfl
set_option maxRecDepth 100000 in
theorem cm_Ch_add : Cond.code mq_Ch_add.1 mq_Ch_add.2.1 mq_Ch_add.2.2.1 mq_Ch_add.2.2.2 ∈ sc_gw := sc_gw_of (List.mem_of_getElem? (i := 243) rfl) rfl
set_option maxRecDepth 100000 in
theorem cm_No_begin : Cond.code mq_No_begin.1 mq_No_begin.2.1 mq_No_begin.2.2.1 mq_No_begin.2.2.2 ∈ sc_gw := sc_gw_of (List.mem_of_getElem? (i := 247) rfl) rfl
set_option maxRecDepth 100000 in
theorem cm_No_clearTable : Cond.code mq_No_clearTable.1 mq_No_clearTable.2.1 mq_No_clearTable.2.2.1 mq_No_clearTable.2.2.2 ∈ sc_gw := sc_gw_of (List.mem_of_getElem? (i := 251) rfl) rfl
set_option maxRecDepth 100000 in
theorem cm_Sc_parent : Cond.code mq_Sc_parent.1 mq_Sc_parent.2.1 mq_Sc_parent.2.2.1 mq_Sc_parent.2.2.2 ∈ sc_gw := sc_gw_of (List.mem_of_getElem? (i := 256) rfl) rfl
set_option maxRecDepth 100000 in
theorem cm_Ch_has : Cond.code mq_Ch_has.1 mq_Ch_has.2.1 mq_Ch_has.2.2.1 mq_Ch_has.2.2.2 ∈ sc_gw := sc_gw_of (List.mem_of_getElem? (i := 260) rfl) rfl
set_option maxRecDepth 100000 in
theorem cm_No_isChildOf : Cond.code mq_No_isChildOf.1 mq_No_isChildOf.2.1 mq_No_isChildOf.2.2.1 mq_No_isChildOf.2.2.2 ∈ sc_gw := sc_gw_of (List.mem_of_getElem? (i := 264) rfl) rfl
set_option maxRecDepth 100000 in
theorem cm_Sc_find : Cond.code mq_Sc_find.1 mq_Sc_find.2.1 mq_Sc_find.2.2.1 mq_Sc_find.2.2.2 ∈ sc_gw := sc_gw_of (List.mem_of_getElem? (i := 268) rfl) rfl
set_option maxRecDepth 100000 in
theorem cm_No_mostParents : Cond.code mq_No_mostParents.1 mq_No_mostParents.2.1 mq_No_mostParents.2.2.1 mq_No_mostParents.2.2.2 ∈ sc_gw := sc_gw_of (List.mem_of_getElem? (i := 272) rfl) rfl
set_option maxRecDepth 100000 in
theorem cm_No_addParent : Cond.code mq_No_addParent.1 mq_No_addParent.2.1 mq_No_addParent.2.2.1 mq_No_addParent.2.2.2 ∈ sc_gw := sc_gw_of (List.mem_of_getElem? (i := 276) rfl) rfl
set_option maxRecDepth 100000 in
theorem cm_Sc_sight : Cond.code mq_Sc_sight.1 mq_Sc_sight.2.1 mq_Sc_sight.2.2.1 mq_Sc_sight.2.2.2 ∈ sc_gw := sc_gw_of (List.mem_of_getElem? (i := 280) rfl) rfl
set_option maxRecDepth 100000 in
theorem cm_Sc_refuseSight : Cond.code mq_Sc_refuseSight.1 mq_Sc_refuseSight.2.1 mq_Sc_refuseSight.2.2.1 mq_Sc_refuseSight.2.2.2 ∈ sc_gw := sc_gw_of (List.mem_of_getElem? (i := 284) rfl) rfl
set_option maxRecDepth 100000 in
theorem cm_No_sees : Cond.code mq_No_sees.1 mq_No_sees.2.1 mq_No_sees.2.2.1 mq_No_sees.2.2.2 ∈ sc_gw := sc_gw_of (List.mem_of_getElem? (i := 288) rfl) rfl
set_option maxRecDepth 100000 in
theorem cm_In_bitCount : Cond.code mq_In_bitCount.1 mq_In_bitCount.2.1 mq_In_bitCount.2.2.1 mq_In_bitCount.2.2.2 ∈ sc_gw := sc_gw_of (List.mem_of_getElem? (i := 291) rfl) rfl
set_option maxRecDepth 100000 in
theorem cm_Sc_blind : Cond.code mq_Sc_blind.1 mq_Sc_blind.2.1 mq_Sc_blind.2.2.1 mq_Sc_blind.2.2.2 ∈ sc_gw := sc_gw_of (List.mem_of_getElem? (i := 298) rfl) rfl
set_option maxRecDepth 100000 in
theorem cm_Sc_refuseBlind : Cond.code mq_Sc_refuseBlind.1 mq_Sc_refuseBlind.2.1 mq_Sc_refuseBlind.2.2.1 mq_Sc_refuseBlind.2.2.2 ∈ sc_gw := sc_gw_of (List.mem_of_getElem? (i := 302) rfl) rfl
set_option maxRecDepth 100000 in
theorem cm_Sc_weigh : Cond.code mq_Sc_weigh.1 mq_Sc_weigh.2.1 mq_Sc_weigh.2.2.1 mq_Sc_weigh.2.2.2 ∈ sc_gw := sc_gw_of (List.mem_of_getElem? (i := 306) rfl) rfl
set_option maxRecDepth 100000 in
theorem cm_Sc_areWeights : Cond.code mq_Sc_areWeights.1 mq_Sc_areWeights.2.1 mq_Sc_areWeights.2.2.1 mq_Sc_areWeights.2.2.2 ∈ sc_gw := sc_gw_of (List.mem_of_getElem? (i := 309) rfl) rfl
set_option maxRecDepth 100000 in
theorem cm_No_mayLeave : Cond.code mq_No_mayLeave.1 mq_No_mayLeave.2.1 mq_No_mayLeave.2.2.1 mq_No_mayLeave.2.2.2 ∈ sc_gw := sc_gw_of (List.mem_of_getElem? (i := 313) rfl) rfl
set_option maxRecDepth 100000 in
theorem cm_No_hasPlace : Cond.code mq_No_hasPlace.1 mq_No_hasPlace.2.1 mq_No_hasPlace.2.2.1 mq_No_hasPlace.2.2.2 ∈ sc_gw := sc_gw_of (List.mem_of_getElem? (i := 317) rfl) rfl
set_option maxRecDepth 100000 in
theorem cm_No_put : Cond.code mq_No_put.1 mq_No_put.2.1 mq_No_put.2.2.1 mq_No_put.2.2.2 ∈ sc_gw := sc_gw_of (List.mem_of_getElem? (i := 321) rfl) rfl
set_option maxRecDepth 100000 in
theorem cm_Sc_weight : Cond.code mq_Sc_weight.1 mq_Sc_weight.2.1 mq_Sc_weight.2.2.1 mq_Sc_weight.2.2.2 ∈ sc_gw := sc_gw_of (List.mem_of_getElem? (i := 325) rfl) rfl
set_option maxRecDepth 100000 in
theorem cm_No_hasState : Cond.code mq_No_hasState.1 mq_No_hasState.2.1 mq_No_hasState.2.2.1 mq_No_hasState.2.2.2 ∈ sc_gw := sc_gw_of (List.mem_of_getElem? (i := 329) rfl) rfl
set_option maxRecDepth 100000 in
theorem cm_No_get : Cond.code mq_No_get.1 mq_No_get.2.1 mq_No_get.2.2.1 mq_No_get.2.2.2 ∈ sc_gw := sc_gw_of (List.mem_of_getElem? (i := 333) rfl) rfl
set_option maxRecDepth 100000 in
theorem cm_Sc_worth : Cond.code mq_Sc_worth.1 mq_Sc_worth.2.1 mq_Sc_worth.2.2.1 mq_Sc_worth.2.2.2 ∈ sc_gw := sc_gw_of (List.mem_of_getElem? (i := 337) rfl) rfl
set_option maxRecDepth 100000 in
theorem cm_Sc_ask : Cond.code mq_Sc_ask.1 mq_Sc_ask.2.1 mq_Sc_ask.2.2.1 mq_Sc_ask.2.2.2 ∈ sc_gw := sc_gw_of (List.mem_of_getElem? (i := 341) rfl) rfl
set_option maxRecDepth 100000 in
theorem cm_Sc_firm : Cond.code mq_Sc_firm.1 mq_Sc_firm.2.1 mq_Sc_firm.2.2.1 mq_Sc_firm.2.2.2 ∈ sc_gw := sc_gw_of (List.mem_of_getElem? (i := 345) rfl) rfl
set_option maxRecDepth 100000 in
theorem cm_Sc_told : Cond.code mq_Sc_told.1 mq_Sc_told.2.1 mq_Sc_told.2.2.1 mq_Sc_told.2.2.2 ∈ sc_gw := sc_gw_of (List.mem_of_getElem? (i := 349) rfl) rfl
set_option maxRecDepth 100000 in
theorem cm_No_tell : Cond.code mq_No_tell.1 mq_No_tell.2.1 mq_No_tell.2.2.1 mq_No_tell.2.2.2 ∈ sc_gw := sc_gw_of (List.mem_of_getElem? (i := 353) rfl) rfl
set_option maxRecDepth 100000 in
theorem cm_No_isFirm : Cond.code mq_No_isFirm.1 mq_No_isFirm.2.1 mq_No_isFirm.2.2.1 mq_No_isFirm.2.2.2 ∈ sc_gw := sc_gw_of (List.mem_of_getElem? (i := 357) rfl) rfl
set_option maxRecDepth 100000 in
theorem cm_Sc_mark : Cond.code mq_Sc_mark.1 mq_Sc_mark.2.1 mq_Sc_mark.2.2.1 mq_Sc_mark.2.2.2 ∈ sc_gw := sc_gw_of (List.mem_of_getElem? (i := 362) rfl) rfl
set_option maxRecDepth 100000 in
theorem cm_No_is : Cond.code mq_No_is.1 mq_No_is.2.1 mq_No_is.2.2.1 mq_No_is.2.2.2 ∈ sc_gw := sc_gw_of (List.mem_of_getElem? (i := 366) rfl) rfl
set_option maxRecDepth 100000 in
theorem cm_Ch_countSeeing : Cond.code mq_Ch_countSeeing.1 mq_Ch_countSeeing.2.1 mq_Ch_countSeeing.2.2.1 mq_Ch_countSeeing.2.2.2 ∈ sc_gw := sc_gw_of (List.mem_of_getElem? (i := 370) rfl) rfl
set_option maxRecDepth 100000 in
theorem cm_Ch_countChildren : Cond.code mq_Ch_countChildren.1 mq_Ch_countChildren.2.1 mq_Ch_countChildren.2.2.1 mq_Ch_countChildren.2.2.2 ∈ sc_gw := sc_gw_of (List.mem_of_getElem? (i := 375) rfl) rfl
set_option maxRecDepth 100000 in
theorem cm_Sc_mean : Cond.code mq_Sc_mean.1 mq_Sc_mean.2.1 mq_Sc_mean.2.2.1 mq_Sc_mean.2.2.2 ∈ sc_gw := sc_gw_of (List.mem_of_getElem? (i := 380) rfl) rfl
set_option maxRecDepth 100000 in
theorem cm_Sc_meanSights : Cond.code mq_Sc_meanSights.1 mq_Sc_meanSights.2.1 mq_Sc_meanSights.2.2.1 mq_Sc_meanSights.2.2.2 ∈ sc_gw := sc_gw_of (List.mem_of_getElem? (i := 384) rfl) rfl
set_option maxRecDepth 100000 in
theorem cm_Ch_countKind : Cond.code mq_Ch_countKind.1 mq_Ch_countKind.2.1 mq_Ch_countKind.2.2.1 mq_Ch_countKind.2.2.2 ∈ sc_gw := sc_gw_of (List.mem_of_getElem? (i := 388) rfl) rfl
set_option maxRecDepth 100000 in
theorem cm_Sc_best : Cond.code mq_Sc_best.1 mq_Sc_best.2.1 mq_Sc_best.2.2.1 mq_Sc_best.2.2.2 ∈ sc_gw := sc_gw_of (List.mem_of_getElem? (i := 392) rfl) rfl
set_option maxRecDepth 100000 in
theorem cm_Sc_bestOfChart : Cond.code mq_Sc_bestOfChart.1 mq_Sc_bestOfChart.2.1 mq_Sc_bestOfChart.2.2.1 mq_Sc_bestOfChart.2.2.2 ∈ sc_gw := sc_gw_of (List.mem_of_getElem? (i := 396) rfl) rfl
set_option maxRecDepth 100000 in
theorem cm_Wo_takeChart : Cond.code mq_Wo_takeChart.1 mq_Wo_takeChart.2.1 mq_Wo_takeChart.2.2.1 mq_Wo_takeChart.2.2.2 ∈ sc_gw := sc_gw_of (List.mem_of_getElem? (i := 400) rfl) rfl
set_option maxRecDepth 100000 in
theorem cm_Wo_greatest : Cond.code mq_Wo_greatest.1 mq_Wo_greatest.2.1 mq_Wo_greatest.2.2.1 mq_Wo_greatest.2.2.2 ∈ sc_gw := sc_gw_of (List.mem_of_getElem? (i := 404) rfl) rfl
set_option maxRecDepth 100000 in
theorem cm_Wo_layOut : Cond.code mq_Wo_layOut.1 mq_Wo_layOut.2.1 mq_Wo_layOut.2.2.1 mq_Wo_layOut.2.2.2 ∈ sc_gw := sc_gw_of (List.mem_of_getElem? (i := 408) rfl) rfl
set_option maxRecDepth 100000 in
theorem cm_Wo_layKnown : Cond.code mq_Wo_layKnown.1 mq_Wo_layKnown.2.1 mq_Wo_layKnown.2.2.1 mq_Wo_layKnown.2.2.2 ∈ sc_gw := sc_gw_of (List.mem_of_getElem? (i := 412) rfl) rfl
set_option maxRecDepth 100000 in
theorem cm_Wo_layWeights : Cond.code mq_Wo_layWeights.1 mq_Wo_layWeights.2.1 mq_Wo_layWeights.2.2.1 mq_Wo_layWeights.2.2.2 ∈ sc_gw := sc_gw_of (List.mem_of_getElem? (i := 416) rfl) rfl
set_option maxRecDepth 100000 in
theorem cm_Wo_spreadWeights : Cond.code mq_Wo_spreadWeights.1 mq_Wo_spreadWeights.2.1 mq_Wo_spreadWeights.2.2.1 mq_Wo_spreadWeights.2.2.2 ∈ sc_gw := sc_gw_of (List.mem_of_getElem? (i := 420) rfl) rfl
set_option maxRecDepth 100000 in
theorem cm_Ch_placeIn : Cond.code mq_Ch_placeIn.1 mq_Ch_placeIn.2.1 mq_Ch_placeIn.2.2.1 mq_Ch_placeIn.2.2.2 ∈ sc_gw := sc_gw_of (List.mem_of_getElem? (i := 424) rfl) rfl
set_option maxRecDepth 100000 in
theorem cm_No_stateIn : Cond.code mq_No_stateIn.1 mq_No_stateIn.2.1 mq_No_stateIn.2.2.1 mq_No_stateIn.2.2.2 ∈ sc_gw := sc_gw_of (List.mem_of_getElem? (i := 429) rfl) rfl
set_option maxRecDepth 100000 in
theorem cm_Wo_weightOfState : Cond.code mq_Wo_weightOfState.1 mq_Wo_weightOfState.2.1 mq_Wo_weightOfState.2.2.1 mq_Wo_weightOfState.2.2.2 ∈ sc_gw := sc_gw_of (List.mem_of_getElem? (i := 433) rfl) rfl
set_option maxRecDepth 100000 in
theorem cm_Wo_layWorths : Cond.code mq_Wo_layWorths.1 mq_Wo_layWorths.2.1 mq_Wo_layWorths.2.2.1 mq_Wo_layWorths.2.2.2 ∈ sc_gw := sc_gw_of (List.mem_of_getElem? (i := 438) rfl) rfl
set_option maxRecDepth 100000 in
theorem cm_Wo_settleBehind : Cond.code mq_Wo_settleBehind.1 mq_Wo_settleBehind.2.1 mq_Wo_settleBehind.2.2.1 mq_Wo_settleBehind.2.2.2 ∈ sc_gw := sc_gw_of (List.mem_of_getElem? (i := 443) rfl) rfl
set_option maxRecDepth 100000 in
theorem cm_Wo_isFree : Cond.code mq_Wo_isFree.1 mq_Wo_isFree.2.1 mq_Wo_isFree.2.2.1 mq_Wo_isFree.2.2.2 ∈ sc_gw := sc_gw_of (List.mem_of_getElem? (i := 447) rfl) rfl
set_option maxRecDepth 100000 in
theorem cm_No_isFree : Cond.code mq_No_isFree.1 mq_No_isFree.2.1 mq_No_isFree.2.2.1 mq_No_isFree.2.2.2 ∈ sc_gw := sc_gw_of (List.mem_of_getElem? (i := 451) rfl) rfl
set_option maxRecDepth 100000 in
theorem cm_Wo_sumUp : Cond.code mq_Wo_sumUp.1 mq_Wo_sumUp.2.1 mq_Wo_sumUp.2.2.1 mq_Wo_sumUp.2.2.2 ∈ sc_gw := sc_gw_of (List.mem_of_getElem? (i := 455) rfl) rfl
set_option maxRecDepth 100000 in
theorem cm_Wo_layKeys : Cond.code mq_Wo_layKeys.1 mq_Wo_layKeys.2.1 mq_Wo_layKeys.2.2.1 mq_Wo_layKeys.2.2.2 ∈ sc_gw := sc_gw_of (List.mem_of_getElem? (i := 459) rfl) rfl
set_option maxRecDepth 100000 in
theorem cm_Ar_fillJ : Cond.code mq_Ar_fillJ.1 mq_Ar_fillJ.2.1 mq_Ar_fillJ.2.2.1 mq_Ar_fillJ.2.2.2 ∈ sc_gw := sc_gw_of (List.mem_of_getElem? (i := 462) rfl) rfl
set_option maxRecDepth 100000 in
theorem cm_Wo_dropOthers : Cond.code mq_Wo_dropOthers.1 mq_Wo_dropOthers.2.1 mq_Wo_dropOthers.2.2.1 mq_Wo_dropOthers.2.2.2 ∈ sc_gw := sc_gw_of (List.mem_of_getElem? (i := 466) rfl) rfl
set_option maxRecDepth 100000 in
theorem cm_Wo_greatestState : Cond.code mq_Wo_greatestState.1 mq_Wo_greatestState.2.1 mq_Wo_greatestState.2.2.1 mq_Wo_greatestState.2.2.2 ∈ sc_gw := sc_gw_of (List.mem_of_getElem? (i := 471) rfl) rfl
set_option maxRecDepth 100000 in
theorem cm_Sc_tellFraction : Cond.code mq_Sc_tellFraction.1 mq_Sc_tellFraction.2.1 mq_Sc_tellFraction.2.2.1 mq_Sc_tellFraction.2.2.2 ∈ sc_gw := sc_gw_of (List.mem_of_getElem? (i := 475) rfl) rfl
set_option maxRecDepth 100000 in
theorem cm_Ch_wholeWeight : Cond.code mq_Ch_wholeWeight.1 mq_Ch_wholeWeight.2.1 mq_Ch_wholeWeight.2.2.1 mq_Ch_wholeWeight.2.2.2 ∈ sc_gw := sc_gw_of (List.mem_of_getElem? (i := 479) rfl) rfl
set_option maxRecDepth 100000 in
theorem cm_Ma_abs : Cond.code mq_Ma_abs.1 mq_Ma_abs.2.1 mq_Ma_abs.2.2.1 mq_Ma_abs.2.2.2 ∈ sc_gw := sc_gw_of (List.mem_of_getElem? (i := 483) rfl) rfl
set_option maxRecDepth 100000 in
theorem cm_Sc_commonDivisor : Cond.code mq_Sc_commonDivisor.1 mq_Sc_commonDivisor.2.1 mq_Sc_commonDivisor.2.2.1 mq_Sc_commonDivisor.2.2.2 ∈ sc_gw := sc_gw_of (List.mem_of_getElem? (i := 486) rfl) rfl
set_option maxRecDepth 100000 in
theorem cm_Sc_does : Cond.code mq_Sc_does.1 mq_Sc_does.2.1 mq_Sc_does.2.2.1 mq_Sc_does.2.2.2 ∈ sc_gw := sc_gw_of (List.mem_of_getElem? (i := 490) rfl) rfl
set_option maxRecDepth 100000 in
theorem cm_Sc_isRow : Cond.code mq_Sc_isRow.1 mq_Sc_isRow.2.1 mq_Sc_isRow.2.2.1 mq_Sc_isRow.2.2.2 ∈ sc_gw := sc_gw_of (List.mem_of_getElem? (i := 493) rfl) rfl
set_option maxRecDepth 100000 in
theorem cm_Wo_keyOfRow : Cond.code mq_Wo_keyOfRow.1 mq_Wo_keyOfRow.2.1 mq_Wo_keyOfRow.2.2.1 mq_Wo_keyOfRow.2.2.2 ∈ sc_gw := sc_gw_of (List.mem_of_getElem? (i := 498) rfl) rfl
set_option maxRecDepth 100000 in
theorem cm_Wo_decide : Cond.code mq_Wo_decide.1 mq_Wo_decide.2.1 mq_Wo_decide.2.2.1 mq_Wo_decide.2.2.2 ∈ sc_gw := sc_gw_of (List.mem_of_getElem? (i := 504) rfl) rfl
set_option maxRecDepth 100000 in
theorem cm_Sc_bestForgetting : Cond.code mq_Sc_bestForgetting.1 mq_Sc_bestForgetting.2.1 mq_Sc_bestForgetting.2.2.1 mq_Sc_bestForgetting.2.2.2 ∈ sc_gw := sc_gw_of (List.mem_of_getElem? (i := 508) rfl) rfl
set_option maxRecDepth 100000 in
theorem cm_Fo_countPlans : Cond.code mq_Fo_countPlans.1 mq_Fo_countPlans.2.1 mq_Fo_countPlans.2.2.1 mq_Fo_countPlans.2.2.2 ∈ sc_gw := sc_gw_of (List.mem_of_getElem? (i := 512) rfl) rfl
set_option maxRecDepth 100000 in
theorem cm_Fo_addSlots : Cond.code mq_Fo_addSlots.1 mq_Fo_addSlots.2.1 mq_Fo_addSlots.2.2.1 mq_Fo_addSlots.2.2.2 ∈ sc_gw := sc_gw_of (List.mem_of_getElem? (i := 517) rfl) rfl
set_option maxRecDepth 100000 in
theorem cm_Fo_sightWays : Cond.code mq_Fo_sightWays.1 mq_Fo_sightWays.2.1 mq_Fo_sightWays.2.2.1 mq_Fo_sightWays.2.2.2 ∈ sc_gw := sc_gw_of (List.mem_of_getElem? (i := 521) rfl) rfl
set_option maxRecDepth 100000 in
theorem cm_Fo_greatest : Cond.code mq_Fo_greatest.1 mq_Fo_greatest.2.1 mq_Fo_greatest.2.2.1 mq_Fo_greatest.2.2.2 ∈ sc_gw := sc_gw_of (List.mem_of_getElem? (i := 526) rfl) rfl
set_option maxRecDepth 100000 in
theorem cm_Fo_layNeeds : Cond.code mq_Fo_layNeeds.1 mq_Fo_layNeeds.2.1 mq_Fo_layNeeds.2.2.1 mq_Fo_layNeeds.2.2.2 ∈ sc_gw := sc_gw_of (List.mem_of_getElem? (i := 532) rfl) rfl
set_option maxRecDepth 100000 in
theorem cm_Fo_wayIn : Cond.code mq_Fo_wayIn.1 mq_Fo_wayIn.2.1 mq_Fo_wayIn.2.2.1 mq_Fo_wayIn.2.2.2 ∈ sc_gw := sc_gw_of (List.mem_of_getElem? (i := 537) rfl) rfl
set_option maxRecDepth 100000 in
theorem cm_Fo_bit : Cond.code mq_Fo_bit.1 mq_Fo_bit.2.1 mq_Fo_bit.2.2.1 mq_Fo_bit.2.2.2 ∈ sc_gw := sc_gw_of (List.mem_of_getElem? (i := 541) rfl) rfl
set_option maxRecDepth 100000 in
theorem cm_Fo_planBits : Cond.code mq_Fo_planBits.1 mq_Fo_planBits.2.1 mq_Fo_planBits.2.2.1 mq_Fo_planBits.2.2.2 ∈ sc_gw := sc_gw_of (List.mem_of_getElem? (i := 545) rfl) rfl
set_option maxRecDepth 100000 in
theorem cm_Fo_meanOf : Cond.code mq_Fo_meanOf.1 mq_Fo_meanOf.2.1 mq_Fo_meanOf.2.2.1 mq_Fo_meanOf.2.2.2 ∈ sc_gw := sc_gw_of (List.mem_of_getElem? (i := 549) rfl) rfl
set_option maxRecDepth 100000 in
theorem cm_Ma_maxJ : Cond.code mq_Ma_maxJ.1 mq_Ma_maxJ.2.1 mq_Ma_maxJ.2.2.1 mq_Ma_maxJ.2.2.2 ∈ sc_gw := sc_gw_of (List.mem_of_getElem? (i := 552) rfl) rfl
set_option maxRecDepth 100000 in
theorem cm_Sc_lost : Cond.code mq_Sc_lost.1 mq_Sc_lost.2.1 mq_Sc_lost.2.2.1 mq_Sc_lost.2.2.2 ∈ sc_gw := sc_gw_of (List.mem_of_getElem? (i := 556) rfl) rfl
set_option maxRecDepth 100000 in
theorem cm_Sc_worthOf : Cond.code mq_Sc_worthOf.1 mq_Sc_worthOf.2.1 mq_Sc_worthOf.2.2.1 mq_Sc_worthOf.2.2.2 ∈ sc_gw := sc_gw_of (List.mem_of_getElem? (i := 560) rfl) rfl
set_option maxRecDepth 100000 in
theorem cm_Wo_supposeSight : Cond.code mq_Wo_supposeSight.1 mq_Wo_supposeSight.2.1 mq_Wo_supposeSight.2.2.1 mq_Wo_supposeSight.2.2.2 ∈ sc_gw := sc_gw_of (List.mem_of_getElem? (i := 564) rfl) rfl
set_option maxRecDepth 100000 in
theorem cm_Sc_knowing : Cond.code mq_Sc_knowing.1 mq_Sc_knowing.2.1 mq_Sc_knowing.2.2.1 mq_Sc_knowing.2.2.2 ∈ sc_gw := sc_gw_of (List.mem_of_getElem? (i := 568) rfl) rfl
set_option maxRecDepth 100000 in
theorem cm_Wo_supposeAllSights : Cond.code mq_Wo_supposeAllSights.1 mq_Wo_supposeAllSights.2.1 mq_Wo_supposeAllSights.2.2.1 mq_Wo_supposeAllSights.2.2.2 ∈ sc_gw := sc_gw_of (List.mem_of_getElem? (i := 572) rfl) rfl
set_option maxRecDepth 100000 in
theorem cm_Sc_inHand : Cond.code mq_Sc_inHand.1 mq_Sc_inHand.2.1 mq_Sc_inHand.2.2.1 mq_Sc_inHand.2.2.2 ∈ sc_gw := sc_gw_of (List.mem_of_getElem? (i := 576) rfl) rfl
set_option maxRecDepth 100000 in
theorem cm_Wo_supposeInHand : Cond.code mq_Wo_supposeInHand.1 mq_Wo_supposeInHand.2.1 mq_Wo_supposeInHand.2.2.1 mq_Wo_supposeInHand.2.2.2 ∈ sc_gw := sc_gw_of (List.mem_of_getElem? (i := 580) rfl) rfl
set_option maxRecDepth 100000 in
theorem cm_Sc_needless : Cond.code mq_Sc_needless.1 mq_Sc_needless.2.1 mq_Sc_needless.2.2.1 mq_Sc_needless.2.2.2 ∈ sc_gw := sc_gw_of (List.mem_of_getElem? (i := 585) rfl) rfl
set_option maxRecDepth 100000 in
theorem cm_Wo_supposeBlind : Cond.code mq_Wo_supposeBlind.1 mq_Wo_supposeBlind.2.1 mq_Wo_supposeBlind.2.2.1 mq_Wo_supposeBlind.2.2.2 ∈ sc_gw := sc_gw_of (List.mem_of_getElem? (i := 589) rfl) rfl
set_option maxRecDepth 100000 in
theorem cm_Sc_span : Cond.code mq_Sc_span.1 mq_Sc_span.2.1 mq_Sc_span.2.2.1 mq_Sc_span.2.2.2 ∈ sc_gw := sc_gw_of (List.mem_of_getElem? (i := 593) rfl) rfl
set_option maxRecDepth 100000 in
theorem cm_Ch_firstFree : Cond.code mq_Ch_firstFree.1 mq_Ch_firstFree.2.1 mq_Ch_firstFree.2.2.1 mq_Ch_firstFree.2.2.2 ∈ sc_gw := sc_gw_of (List.mem_of_getElem? (i := 597) rfl) rfl
set_option maxRecDepth 100000 in
theorem cm_Wo_farthest : Cond.code mq_Wo_farthest.1 mq_Wo_farthest.2.1 mq_Wo_farthest.2.2.1 mq_Wo_farthest.2.2.2 ∈ sc_gw := sc_gw_of (List.mem_of_getElem? (i := 602) rfl) rfl
set_option maxRecDepth 100000 in
theorem cm_Wo_keyOfFirst : Cond.code mq_Wo_keyOfFirst.1 mq_Wo_keyOfFirst.2.1 mq_Wo_keyOfFirst.2.2.1 mq_Wo_keyOfFirst.2.2.2 ∈ sc_gw := sc_gw_of (List.mem_of_getElem? (i := 606) rfl) rfl
set_option maxRecDepth 100000 in
theorem cm_Wo_keepWorldsOf : Cond.code mq_Wo_keepWorldsOf.1 mq_Wo_keepWorldsOf.2.1 mq_Wo_keepWorldsOf.2.2.1 mq_Wo_keepWorldsOf.2.2.2 ∈ sc_gw := sc_gw_of (List.mem_of_getElem? (i := 611) rfl) rfl
set_option maxRecDepth 100000 in
theorem cm_Wo_listMoved : Cond.code mq_Wo_listMoved.1 mq_Wo_listMoved.2.1 mq_Wo_listMoved.2.2.1 mq_Wo_listMoved.2.2.2 ∈ sc_gw := sc_gw_of (List.mem_of_getElem? (i := 615) rfl) rfl
set_option maxRecDepth 100000 in
theorem cm_Wo_decideAgain : Cond.code mq_Wo_decideAgain.1 mq_Wo_decideAgain.2.1 mq_Wo_decideAgain.2.2.1 mq_Wo_decideAgain.2.2.2 ∈ sc_gw := sc_gw_of (List.mem_of_getElem? (i := 619) rfl) rfl
set_option maxRecDepth 100000 in
theorem cm_Sc_chance : Cond.code mq_Sc_chance.1 mq_Sc_chance.2.1 mq_Sc_chance.2.2.1 mq_Sc_chance.2.2.2 ∈ sc_gw := sc_gw_of (List.mem_of_getElem? (i := 627) rfl) rfl
set_option maxRecDepth 100000 in
theorem cm_Wo_settle : Cond.code mq_Wo_settle.1 mq_Wo_settle.2.1 mq_Wo_settle.2.2.1 mq_Wo_settle.2.2.2 ∈ sc_gw := sc_gw_of (List.mem_of_getElem? (i := 631) rfl) rfl
set_option maxRecDepth 100000 in
theorem cm_Wo_weightOf : Cond.code mq_Wo_weightOf.1 mq_Wo_weightOf.2.1 mq_Wo_weightOf.2.2.1 mq_Wo_weightOf.2.2.2 ∈ sc_gw := sc_gw_of (List.mem_of_getElem? (i := 635) rfl) rfl
set_option maxRecDepth 100000 in
theorem cm_Sc_end : Cond.code mq_Sc_end.1 mq_Sc_end.2.1 mq_Sc_end.2.2.1 mq_Sc_end.2.2.2 ∈ sc_gw := sc_gw_of (List.mem_of_getElem? (i := 639) rfl) rfl
set_option maxRecDepth 100000 in
theorem cm_Wo_outermostWorth : Cond.code mq_Wo_outermostWorth.1 mq_Wo_outermostWorth.2.1 mq_Wo_outermostWorth.2.2.1 mq_Wo_outermostWorth.2.2.2 ∈ sc_gw := sc_gw_of (List.mem_of_getElem? (i := 643) rfl) rfl
set_option maxRecDepth 100000 in
theorem cm_Sc_row : Cond.code mq_Sc_row.1 mq_Sc_row.2.1 mq_Sc_row.2.2.1 mq_Sc_row.2.2.2 ∈ sc_gw := sc_gw_of (List.mem_of_getElem? (i := 647) rfl) rfl
set_option maxRecDepth 100000 in
theorem cm_Sc_lay : Cond.code mq_Sc_lay.1 mq_Sc_lay.2.1 mq_Sc_lay.2.2.1 mq_Sc_lay.2.2.2 ∈ sc_gw := sc_gw_of (List.mem_of_getElem? (i := 651) rfl) rfl
set_option maxRecDepth 100000 in
theorem cm_Sc_tear : Cond.code mq_Sc_tear.1 mq_Sc_tear.2.1 mq_Sc_tear.2.2.1 mq_Sc_tear.2.2.2 ∈ sc_gw := sc_gw_of (List.mem_of_getElem? (i := 655) rfl) rfl
set_option maxRecDepth 100000 in
theorem cm_Sc_copy : Cond.code mq_Sc_copy.1 mq_Sc_copy.2.1 mq_Sc_copy.2.2.1 mq_Sc_copy.2.2.2 ∈ sc_gw := sc_gw_of (List.mem_of_getElem? (i := 659) rfl) rfl
set_option maxRecDepth 100000 in
theorem cm_Sc_fill : Cond.code mq_Sc_fill.1 mq_Sc_fill.2.1 mq_Sc_fill.2.2.1 mq_Sc_fill.2.2.2 ∈ sc_gw := sc_gw_of (List.mem_of_getElem? (i := 664) rfl) rfl
set_option maxRecDepth 100000 in
theorem cm_Ma_min : Cond.code mq_Ma_min.1 mq_Ma_min.2.1 mq_Ma_min.2.2.1 mq_Ma_min.2.2.2 ∈ sc_gw := sc_gw_of (List.mem_of_getElem? (i := 667) rfl) rfl
set_option maxRecDepth 100000 in
theorem cm_Ma_maxI : Cond.code mq_Ma_maxI.1 mq_Ma_maxI.2.1 mq_Ma_maxI.2.2.1 mq_Ma_maxI.2.2.2 ∈ sc_gw := sc_gw_of (List.mem_of_getElem? (i := 670) rfl) rfl
set_option maxRecDepth 100000 in
theorem cm_Sc_asked : Cond.code mq_Sc_asked.1 mq_Sc_asked.2.1 mq_Sc_asked.2.2.1 mq_Sc_asked.2.2.2 ∈ sc_gw := sc_gw_of (List.mem_of_getElem? (i := 674) rfl) rfl
set_option maxRecDepth 100000 in
theorem cm_Sc_upper : Cond.code mq_Sc_upper.1 mq_Sc_upper.2.1 mq_Sc_upper.2.2.1 mq_Sc_upper.2.2.2 ∈ sc_gw := sc_gw_of (List.mem_of_getElem? (i := 678) rfl) rfl
set_option maxRecDepth 100000 in
theorem cm_Sc_lower : Cond.code mq_Sc_lower.1 mq_Sc_lower.2.1 mq_Sc_lower.2.2.1 mq_Sc_lower.2.2.2 ∈ sc_gw := sc_gw_of (List.mem_of_getElem? (i := 682) rfl) rfl
set_option maxRecDepth 100000 in
theorem cm_Sc_count : Cond.code mq_Sc_count.1 mq_Sc_count.2.1 mq_Sc_count.2.2.1 mq_Sc_count.2.2.2 ∈ sc_gw := sc_gw_of (List.mem_of_getElem? (i := 686) rfl) rfl
set_option maxRecDepth 100000 in
theorem cm_Sc_finding : Cond.code mq_Sc_finding.1 mq_Sc_finding.2.1 mq_Sc_finding.2.2.1 mq_Sc_finding.2.2.2 ∈ sc_gw := sc_gw_of (List.mem_of_getElem? (i := 690) rfl) rfl
set_option maxRecDepth 100000 in
theorem cm_Sc_findings : Cond.code mq_Sc_findings.1 mq_Sc_findings.2.1 mq_Sc_findings.2.2.1 mq_Sc_findings.2.2.2 ∈ sc_gw := sc_gw_of (List.mem_of_getElem? (i := 694) rfl) rfl
set_option maxRecDepth 100000 in
theorem cm_Sc_digest : Cond.code mq_Sc_digest.1 mq_Sc_digest.2.1 mq_Sc_digest.2.2.1 mq_Sc_digest.2.2.2 ∈ sc_gw := sc_gw_of (List.mem_of_getElem? (i := 698) rfl) rfl
set_option maxRecDepth 100000 in
theorem cm_No_digestOn : Cond.code mq_No_digestOn.1 mq_No_digestOn.2.1 mq_No_digestOn.2.2.1 mq_No_digestOn.2.2.2 ∈ sc_gw := sc_gw_of (List.mem_of_getElem? (i := 703) rfl) rfl
set_option maxRecDepth 100000 in
theorem cm_Mo_init : Cond.code mq_Mo_init.1 mq_Mo_init.2.1 mq_Mo_init.2.2.1 mq_Mo_init.2.2.2 ∈ sc_gw := sc_gw_of (List.mem_of_getElem? (i := 712) rfl) rfl
set_option maxRecDepth 100000 in
theorem cm_Mo_node : Cond.code mq_Mo_node.1 mq_Mo_node.2.1 mq_Mo_node.2.2.1 mq_Mo_node.2.2.2 ∈ sc_gw := sc_gw_of (List.mem_of_getElem? (i := 788) rfl) rfl
set_option maxRecDepth 100000 in
theorem cm_Mo_in : Cond.code mq_Mo_in.1 mq_Mo_in.2.1 mq_Mo_in.2.2.1 mq_Mo_in.2.2.2 ∈ sc_gw := sc_gw_of (List.mem_of_getElem? (i := 791) rfl) rfl
set_option maxRecDepth 100000 in
theorem cm_Mo_worlds : Cond.code mq_Mo_worlds.1 mq_Mo_worlds.2.1 mq_Mo_worlds.2.2.1 mq_Mo_worlds.2.2.2 ∈ sc_gw := sc_gw_of (List.mem_of_getElem? (i := 795) rfl) rfl
set_option maxRecDepth 100000 in
theorem cm_Mo_clearTable : Cond.code mq_Mo_clearTable.1 mq_Mo_clearTable.2.1 mq_Mo_clearTable.2.2.1 mq_Mo_clearTable.2.2.2 ∈ sc_gw := sc_gw_of (List.mem_of_getElem? (i := 799) rfl) rfl
set_option maxRecDepth 100000 in
theorem cm_Mo_rowsOf : Cond.code mq_Mo_rowsOf.1 mq_Mo_rowsOf.2.1 mq_Mo_rowsOf.2.2.1 mq_Mo_rowsOf.2.2.2 ∈ sc_gw := sc_gw_of (List.mem_of_getElem? (i := 803) rfl) rfl
set_option maxRecDepth 100000 in
theorem cm_Mo_parent : Cond.code mq_Mo_parent.1 mq_Mo_parent.2.1 mq_Mo_parent.2.2.1 mq_Mo_parent.2.2.2 ∈ sc_gw := sc_gw_of (List.mem_of_getElem? (i := 807) rfl) rfl
set_option maxRecDepth 100000 in
theorem cm_Mo_isNode : Cond.code mq_Mo_isNode.1 mq_Mo_isNode.2.1 mq_Mo_isNode.2.2.1 mq_Mo_isNode.2.2.2 ∈ sc_gw := sc_gw_of (List.mem_of_getElem? (i := 811) rfl) rfl
set_option maxRecDepth 100000 in
theorem cm_Mo_meets : Cond.code mq_Mo_meets.1 mq_Mo_meets.2.1 mq_Mo_meets.2.2.1 mq_Mo_meets.2.2.2 ∈ sc_gw := sc_gw_of (List.mem_of_getElem? (i := 815) rfl) rfl
set_option maxRecDepth 100000 in
theorem cm_Mo_sight : Cond.code mq_Mo_sight.1 mq_Mo_sight.2.1 mq_Mo_sight.2.2.1 mq_Mo_sight.2.2.2 ∈ sc_gw := sc_gw_of (List.mem_of_getElem? (i := 819) rfl) rfl
set_option maxRecDepth 100000 in
theorem cm_Mo_askedSight : Cond.code mq_Mo_askedSight.1 mq_Mo_askedSight.2.1 mq_Mo_askedSight.2.2.1 mq_Mo_askedSight.2.2.2 ∈ sc_gw := sc_gw_of (List.mem_of_getElem? (i := 823) rfl) rfl
set_option maxRecDepth 100000 in
theorem cm_Mo_bits : Cond.code mq_Mo_bits.1 mq_Mo_bits.2.1 mq_Mo_bits.2.2.1 mq_Mo_bits.2.2.2 ∈ sc_gw := sc_gw_of (List.mem_of_getElem? (i := 826) rfl) rfl
set_option maxRecDepth 100000 in
theorem cm_Mo_blind : Cond.code mq_Mo_blind.1 mq_Mo_blind.2.1 mq_Mo_blind.2.2.1 mq_Mo_blind.2.2.2 ∈ sc_gw := sc_gw_of (List.mem_of_getElem? (i := 830) rfl) rfl
set_option maxRecDepth 100000 in
theorem cm_Mo_askedBlind : Cond.code mq_Mo_askedBlind.1 mq_Mo_askedBlind.2.1 mq_Mo_askedBlind.2.2.1 mq_Mo_askedBlind.2.2.2 ∈ sc_gw := sc_gw_of (List.mem_of_getElem? (i := 834) rfl) rfl
set_option maxRecDepth 100000 in
theorem cm_Mo_weigh : Cond.code mq_Mo_weigh.1 mq_Mo_weigh.2.1 mq_Mo_weigh.2.2.1 mq_Mo_weigh.2.2.2 ∈ sc_gw := sc_gw_of (List.mem_of_getElem? (i := 838) rfl) rfl
set_option maxRecDepth 100000 in
theorem cm_Mo_weight : Cond.code mq_Mo_weight.1 mq_Mo_weight.2.1 mq_Mo_weight.2.2.1 mq_Mo_weight.2.2.2 ∈ sc_gw := sc_gw_of (List.mem_of_getElem? (i := 842) rfl) rfl
set_option maxRecDepth 100000 in
theorem cm_Mo_worth : Cond.code mq_Mo_worth.1 mq_Mo_worth.2.1 mq_Mo_worth.2.2.1 mq_Mo_worth.2.2.2 ∈ sc_gw := sc_gw_of (List.mem_of_getElem? (i := 846) rfl) rfl
set_option maxRecDepth 100000 in
theorem cm_Mo_firm : Cond.code mq_Mo_firm.1 mq_Mo_firm.2.1 mq_Mo_firm.2.2.1 mq_Mo_firm.2.2.2 ∈ sc_gw := sc_gw_of (List.mem_of_getElem? (i := 850) rfl) rfl
set_option maxRecDepth 100000 in
theorem cm_Mo_told : Cond.code mq_Mo_told.1 mq_Mo_told.2.1 mq_Mo_told.2.2.1 mq_Mo_told.2.2.2 ∈ sc_gw := sc_gw_of (List.mem_of_getElem? (i := 854) rfl) rfl
set_option maxRecDepth 100000 in
theorem cm_Mo_tells : Cond.code mq_Mo_tells.1 mq_Mo_tells.2.1 mq_Mo_tells.2.2.1 mq_Mo_tells.2.2.2 ∈ sc_gw := sc_gw_of (List.mem_of_getElem? (i := 858) rfl) rfl
set_option maxRecDepth 100000 in
theorem cm_Mo_kindOf : Cond.code mq_Mo_kindOf.1 mq_Mo_kindOf.2.1 mq_Mo_kindOf.2.2.1 mq_Mo_kindOf.2.2.2 ∈ sc_gw := sc_gw_of (List.mem_of_getElem? (i := 862) rfl) rfl
set_option maxRecDepth 100000 in
theorem cm_Mo_placesOf : Cond.code mq_Mo_placesOf.1 mq_Mo_placesOf.2.1 mq_Mo_placesOf.2.2.1 mq_Mo_placesOf.2.2.2 ∈ sc_gw := sc_gw_of (List.mem_of_getElem? (i := 866) rfl) rfl
set_option maxRecDepth 100000 in
theorem cm_Mo_mark : Cond.code mq_Mo_mark.1 mq_Mo_mark.2.1 mq_Mo_mark.2.2.1 mq_Mo_mark.2.2.2 ∈ sc_gw := sc_gw_of (List.mem_of_getElem? (i := 870) rfl) rfl
set_option maxRecDepth 100000 in
theorem cm_Mo_mean : Cond.code mq_Mo_mean.1 mq_Mo_mean.2.1 mq_Mo_mean.2.2.1 mq_Mo_mean.2.2.2 ∈ sc_gw := sc_gw_of (List.mem_of_getElem? (i := 874) rfl) rfl
set_option maxRecDepth 100000 in
theorem cm_Mo_ask : Cond.code mq_Mo_ask.1 mq_Mo_ask.2.1 mq_Mo_ask.2.2.1 mq_Mo_ask.2.2.2 ∈ sc_gw := sc_gw_of (List.mem_of_getElem? (i := 878) rfl) rfl
set_option maxRecDepth 100000 in
theorem cm_Mo_meanSights : Cond.code mq_Mo_meanSights.1 mq_Mo_meanSights.2.1 mq_Mo_meanSights.2.2.1 mq_Mo_meanSights.2.2.2 ∈ sc_gw := sc_gw_of (List.mem_of_getElem? (i := 882) rfl) rfl
set_option maxRecDepth 100000 in
theorem cm_Mo_best : Cond.code mq_Mo_best.1 mq_Mo_best.2.1 mq_Mo_best.2.2.1 mq_Mo_best.2.2.2 ∈ sc_gw := sc_gw_of (List.mem_of_getElem? (i := 886) rfl) rfl
set_option maxRecDepth 100000 in
theorem cm_Mo_bestSum : Cond.code mq_Mo_bestSum.1 mq_Mo_bestSum.2.1 mq_Mo_bestSum.2.2.1 mq_Mo_bestSum.2.2.2 ∈ sc_gw := sc_gw_of (List.mem_of_getElem? (i := 890) rfl) rfl
set_option maxRecDepth 100000 in
theorem cm_Mo_setPlan : Cond.code mq_Mo_setPlan.1 mq_Mo_setPlan.2.1 mq_Mo_setPlan.2.2.1 mq_Mo_setPlan.2.2.2 ∈ sc_gw := sc_gw_of (List.mem_of_getElem? (i := 894) rfl) rfl
set_option maxRecDepth 100000 in
theorem cm_Mo_isChoice : Cond.code mq_Mo_isChoice.1 mq_Mo_isChoice.2.1 mq_Mo_isChoice.2.2.1 mq_Mo_isChoice.2.2.2 ∈ sc_gw := sc_gw_of (List.mem_of_getElem? (i := 898) rfl) rfl
set_option maxRecDepth 100000 in
theorem cm_Mo_knownAt : Cond.code mq_Mo_knownAt.1 mq_Mo_knownAt.2.1 mq_Mo_knownAt.2.2.1 mq_Mo_knownAt.2.2.2 ∈ sc_gw := sc_gw_of (List.mem_of_getElem? (i := 902) rfl) rfl
set_option maxRecDepth 100000 in
theorem cm_Mo_sightsOf : Cond.code mq_Mo_sightsOf.1 mq_Mo_sightsOf.2.1 mq_Mo_sightsOf.2.2.1 mq_Mo_sightsOf.2.2.2 ∈ sc_gw := sc_gw_of (List.mem_of_getElem? (i := 906) rfl) rfl
set_option maxRecDepth 100000 in
theorem cm_Mo_planAt : Cond.code mq_Mo_planAt.1 mq_Mo_planAt.2.1 mq_Mo_planAt.2.2.1 mq_Mo_planAt.2.2.2 ∈ sc_gw := sc_gw_of (List.mem_of_getElem? (i := 910) rfl) rfl
set_option maxRecDepth 100000 in
theorem cm_Mo_setWorld : Cond.code mq_Mo_setWorld.1 mq_Mo_setWorld.2.1 mq_Mo_setWorld.2.2.1 mq_Mo_setWorld.2.2.2 ∈ sc_gw := sc_gw_of (List.mem_of_getElem? (i := 914) rfl) rfl
set_option maxRecDepth 100000 in
theorem cm_Mo_weightNow : Cond.code mq_Mo_weightNow.1 mq_Mo_weightNow.2.1 mq_Mo_weightNow.2.2.1 mq_Mo_weightNow.2.2.2 ∈ sc_gw := sc_gw_of (List.mem_of_getElem? (i := 918) rfl) rfl
set_option maxRecDepth 100000 in
theorem cm_Mo_rowNow : Cond.code mq_Mo_rowNow.1 mq_Mo_rowNow.2.1 mq_Mo_rowNow.2.2.1 mq_Mo_rowNow.2.2.2 ∈ sc_gw := sc_gw_of (List.mem_of_getElem? (i := 922) rfl) rfl
set_option maxRecDepth 100000 in
theorem cm_Mo_numberOf : Cond.code mq_Mo_numberOf.1 mq_Mo_numberOf.2.1 mq_Mo_numberOf.2.2.1 mq_Mo_numberOf.2.2.2 ∈ sc_gw := sc_gw_of (List.mem_of_getElem? (i := 926) rfl) rfl
set_option maxRecDepth 100000 in
theorem cm_Mo_goes : Cond.code mq_Mo_goes.1 mq_Mo_goes.2.1 mq_Mo_goes.2.2.1 mq_Mo_goes.2.2.2 ∈ sc_gw := sc_gw_of (List.mem_of_getElem? (i := 930) rfl) rfl
set_option maxRecDepth 100000 in
theorem cm_Mo_worthNow : Cond.code mq_Mo_worthNow.1 mq_Mo_worthNow.2.1 mq_Mo_worthNow.2.2.1 mq_Mo_worthNow.2.2.2 ∈ sc_gw := sc_gw_of (List.mem_of_getElem? (i := 934) rfl) rfl
set_option maxRecDepth 100000 in
theorem cm_Mo_sumOfPlan : Cond.code mq_Mo_sumOfPlan.1 mq_Mo_sumOfPlan.2.1 mq_Mo_sumOfPlan.2.2.1 mq_Mo_sumOfPlan.2.2.2 ∈ sc_gw := sc_gw_of (List.mem_of_getElem? (i := 938) rfl) rfl
set_option maxRecDepth 100000 in
theorem cm_Mo_comes : Cond.code mq_Mo_comes.1 mq_Mo_comes.2.1 mq_Mo_comes.2.2.1 mq_Mo_comes.2.2.2 ∈ sc_gw := sc_gw_of (List.mem_of_getElem? (i := 942) rfl) rfl
set_option maxRecDepth 100000 in
theorem cm_Mo_allWeights : Cond.code mq_Mo_allWeights.1 mq_Mo_allWeights.2.1 mq_Mo_allWeights.2.2.1 mq_Mo_allWeights.2.2.2 ∈ sc_gw := sc_gw_of (List.mem_of_getElem? (i := 946) rfl) rfl
set_option maxRecDepth 100000 in
theorem cm_Mo_tell : Cond.code mq_Mo_tell.1 mq_Mo_tell.2.1 mq_Mo_tell.2.2.1 mq_Mo_tell.2.2.2 ∈ sc_gw := sc_gw_of (List.mem_of_getElem? (i := 951) rfl) rfl
set_option maxRecDepth 100000 in
theorem cm_Mo_does : Cond.code mq_Mo_does.1 mq_Mo_does.2.1 mq_Mo_does.2.2.1 mq_Mo_does.2.2.2 ∈ sc_gw := sc_gw_of (List.mem_of_getElem? (i := 955) rfl) rfl
set_option maxRecDepth 100000 in
theorem cm_Mo_bestForgetting : Cond.code mq_Mo_bestForgetting.1 mq_Mo_bestForgetting.2.1 mq_Mo_bestForgetting.2.2.1 mq_Mo_bestForgetting.2.2.2 ∈ sc_gw := sc_gw_of (List.mem_of_getElem? (i := 959) rfl) rfl
set_option maxRecDepth 100000 in
theorem cm_Mo_isTooMuch : Cond.code mq_Mo_isTooMuch.1 mq_Mo_isTooMuch.2.1 mq_Mo_isTooMuch.2.2.1 mq_Mo_isTooMuch.2.2.2 ∈ sc_gw := sc_gw_of (List.mem_of_getElem? (i := 963) rfl) rfl
set_option maxRecDepth 100000 in
theorem cm_Mo_forgettingSum : Cond.code mq_Mo_forgettingSum.1 mq_Mo_forgettingSum.2.1 mq_Mo_forgettingSum.2.2.1 mq_Mo_forgettingSum.2.2.2 ∈ sc_gw := sc_gw_of (List.mem_of_getElem? (i := 968) rfl) rfl
set_option maxRecDepth 100000 in
theorem cm_Mo_nextPlan : Cond.code mq_Mo_nextPlan.1 mq_Mo_nextPlan.2.1 mq_Mo_nextPlan.2.2.1 mq_Mo_nextPlan.2.2.2 ∈ sc_gw := sc_gw_of (List.mem_of_getElem? (i := 972) rfl) rfl
set_option maxRecDepth 100000 in
theorem cm_Mo_lost : Cond.code mq_Mo_lost.1 mq_Mo_lost.2.1 mq_Mo_lost.2.2.1 mq_Mo_lost.2.2.2 ∈ sc_gw := sc_gw_of (List.mem_of_getElem? (i := 976) rfl) rfl
set_option maxRecDepth 100000 in
theorem cm_Mo_worthOf : Cond.code mq_Mo_worthOf.1 mq_Mo_worthOf.2.1 mq_Mo_worthOf.2.2.1 mq_Mo_worthOf.2.2.2 ∈ sc_gw := sc_gw_of (List.mem_of_getElem? (i := 980) rfl) rfl
set_option maxRecDepth 100000 in
theorem cm_Mo_knowing : Cond.code mq_Mo_knowing.1 mq_Mo_knowing.2.1 mq_Mo_knowing.2.2.1 mq_Mo_knowing.2.2.2 ∈ sc_gw := sc_gw_of (List.mem_of_getElem? (i := 984) rfl) rfl
set_option maxRecDepth 100000 in
theorem cm_Mo_inHand : Cond.code mq_Mo_inHand.1 mq_Mo_inHand.2.1 mq_Mo_inHand.2.2.1 mq_Mo_inHand.2.2.2 ∈ sc_gw := sc_gw_of (List.mem_of_getElem? (i := 988) rfl) rfl
set_option maxRecDepth 100000 in
theorem cm_Mo_needless : Cond.code mq_Mo_needless.1 mq_Mo_needless.2.1 mq_Mo_needless.2.2.1 mq_Mo_needless.2.2.2 ∈ sc_gw := sc_gw_of (List.mem_of_getElem? (i := 992) rfl) rfl
set_option maxRecDepth 100000 in
theorem cm_Mo_span : Cond.code mq_Mo_span.1 mq_Mo_span.2.1 mq_Mo_span.2.2.1 mq_Mo_span.2.2.2 ∈ sc_gw := sc_gw_of (List.mem_of_getElem? (i := 996) rfl) rfl
set_option maxRecDepth 100000 in
theorem cm_Mo_firstDoes : Cond.code mq_Mo_firstDoes.1 mq_Mo_firstDoes.2.1 mq_Mo_firstDoes.2.2.1 mq_Mo_firstDoes.2.2.2 ∈ sc_gw := sc_gw_of (List.mem_of_getElem? (i := 1000) rfl) rfl
set_option maxRecDepth 100000 in
theorem cm_Mo_chance : Cond.code mq_Mo_chance.1 mq_Mo_chance.2.1 mq_Mo_chance.2.2.1 mq_Mo_chance.2.2.2 ∈ sc_gw := sc_gw_of (List.mem_of_getElem? (i := 1004) rfl) rfl
set_option maxRecDepth 100000 in
theorem cm_Mo_end : Cond.code mq_Mo_end.1 mq_Mo_end.2.1 mq_Mo_end.2.2.1 mq_Mo_end.2.2.2 ∈ sc_gw := sc_gw_of (List.mem_of_getElem? (i := 1008) rfl) rfl
set_option maxRecDepth 100000 in
theorem cm_Mo_row : Cond.code mq_Mo_row.1 mq_Mo_row.2.1 mq_Mo_row.2.2.1 mq_Mo_row.2.2.2 ∈ sc_gw := sc_gw_of (List.mem_of_getElem? (i := 1012) rfl) rfl
set_option maxRecDepth 100000 in
theorem cm_Mo_isRow : Cond.code mq_Mo_isRow.1 mq_Mo_isRow.2.1 mq_Mo_isRow.2.2.1 mq_Mo_isRow.2.2.2 ∈ sc_gw := sc_gw_of (List.mem_of_getElem? (i := 1015) rfl) rfl
set_option maxRecDepth 100000 in
theorem cm_Mo_lay : Cond.code mq_Mo_lay.1 mq_Mo_lay.2.1 mq_Mo_lay.2.2.1 mq_Mo_lay.2.2.2 ∈ sc_gw := sc_gw_of (List.mem_of_getElem? (i := 1019) rfl) rfl
set_option maxRecDepth 100000 in
theorem cm_Mo_looked : Cond.code mq_Mo_looked.1 mq_Mo_looked.2.1 mq_Mo_looked.2.2.1 mq_Mo_looked.2.2.2 ∈ sc_gw := sc_gw_of (List.mem_of_getElem? (i := 1023) rfl) rfl
set_option maxRecDepth 100000 in
theorem cm_Mo_tear : Cond.code mq_Mo_tear.1 mq_Mo_tear.2.1 mq_Mo_tear.2.2.1 mq_Mo_tear.2.2.2 ∈ sc_gw := sc_gw_of (List.mem_of_getElem? (i := 1027) rfl) rfl
set_option maxRecDepth 100000 in
theorem cm_Mo_copy : Cond.code mq_Mo_copy.1 mq_Mo_copy.2.1 mq_Mo_copy.2.2.1 mq_Mo_copy.2.2.2 ∈ sc_gw := sc_gw_of (List.mem_of_getElem? (i := 1031) rfl) rfl
set_option maxRecDepth 100000 in
theorem cm_Mo_fill : Cond.code mq_Mo_fill.1 mq_Mo_fill.2.1 mq_Mo_fill.2.2.1 mq_Mo_fill.2.2.2 ∈ sc_gw := sc_gw_of (List.mem_of_getElem? (i := 1035) rfl) rfl
set_option maxRecDepth 100000 in
theorem cm_Mo_asked : Cond.code mq_Mo_asked.1 mq_Mo_asked.2.1 mq_Mo_asked.2.2.1 mq_Mo_asked.2.2.2 ∈ sc_gw := sc_gw_of (List.mem_of_getElem? (i := 1039) rfl) rfl
set_option maxRecDepth 100000 in
theorem cm_Mo_upper : Cond.code mq_Mo_upper.1 mq_Mo_upper.2.1 mq_Mo_upper.2.2.1 mq_Mo_upper.2.2.2 ∈ sc_gw := sc_gw_of (List.mem_of_getElem? (i := 1043) rfl) rfl
set_option maxRecDepth 100000 in
theorem cm_Mo_lower : Cond.code mq_Mo_lower.1 mq_Mo_lower.2.1 mq_Mo_lower.2.2.1 mq_Mo_lower.2.2.2 ∈ sc_gw := sc_gw_of (List.mem_of_getElem? (i := 1047) rfl) rfl
set_option maxRecDepth 100000 in
theorem cm_Mo_count : Cond.code mq_Mo_count.1 mq_Mo_count.2.1 mq_Mo_count.2.2.1 mq_Mo_count.2.2.2 ∈ sc_gw := sc_gw_of (List.mem_of_getElem? (i := 1051) rfl) rfl
set_option maxRecDepth 100000 in
theorem cm_Mo_finding : Cond.code mq_Mo_finding.1 mq_Mo_finding.2.1 mq_Mo_finding.2.2.1 mq_Mo_finding.2.2.2 ∈ sc_gw := sc_gw_of (List.mem_of_getElem? (i := 1055) rfl) rfl
set_option maxRecDepth 100000 in
theorem cm_Mo_findings : Cond.code mq_Mo_findings.1 mq_Mo_findings.2.1 mq_Mo_findings.2.2.1 mq_Mo_findings.2.2.2 ∈ sc_gw := sc_gw_of (List.mem_of_getElem? (i := 1059) rfl) rfl
set_option maxRecDepth 100000 in
theorem cm_Mo_digest : Cond.code mq_Mo_digest.1 mq_Mo_digest.2.1 mq_Mo_digest.2.2.1 mq_Mo_digest.2.2.2 ∈ sc_gw := sc_gw_of (List.mem_of_getElem? (i := 1063) rfl) rfl
