
def RX0 : String := "OnlyFar$Drawing"
def TX0 : u_T := fun k => match k with
  | 0 => ("OnlyFar$Drawing", "laid", "I", false)
  | 1 => ("OnlyFar$Drawing", "groups", "I", false)
  | 2 => ("OnlyFar$Drawing", "stands", "Z", false)
  | 3 => ("OnlyFar$Drawing", "table", "LOnlyFar$Table;", true)
  | 4 => ("OnlyFar$Drawing", "sixthOf", "LOnlyFar$Sixth;", true)
  | 5 => ("OnlyFar$Drawing", "sides", "[I", true)
  | 6 => ("OnlyFar$Drawing", "bonds", "[I", true)
  | _ => ("OnlyFar$Drawing", "offLine", "I", false)
def tyX0 : Nat → FieldType := fun k => match k with
  | 0 => .int
  | 1 => .int
  | 2 => .boolean
  | 3 => .object "OnlyFar$Table"
  | 4 => .object "OnlyFar$Sixth"
  | 5 => .array .int
  | 6 => .array .int
  | _ => .int
theorem nmX0 : ∀ a, a < 8 → ∀ b, b < 8 → a ≠ b → (TX0 a).2.1 ≠ (TX0 b).2.1 := by decide +kernel
theorem tyX0_ok : ∀ k, k < 8 → parseFieldDescriptor (TX0 k).2.2.1 = some (tyX0 k) := by decide +kernel
abbrev cX0_init : ByteArray := prog_2_method_1_code
def yX0_init : MethodName := ⟨RX0, "<init>", "(LOnlyFar$Table;)V"⟩
abbrev cX0_draw : ByteArray := prog_2_method_2_code
def yX0_draw : MethodName := ⟨RX0, "draw", "(III)V"⟩
abbrev cX0_ways : ByteArray := prog_2_method_3_code
def yX0_ways : MethodName := ⟨RX0, "ways", "()I"⟩
abbrev cX0_isLaid : ByteArray := prog_2_method_4_code
def yX0_isLaid : MethodName := ⟨RX0, "isLaid", "(I)Z"⟩
abbrev cX0_sideOf : ByteArray := prog_2_method_5_code
def yX0_sideOf : MethodName := ⟨RX0, "sideOf", "(I)I"⟩
abbrev cX0_layPlaces : ByteArray := prog_2_method_6_code
def yX0_layPlaces : MethodName := ⟨RX0, "layPlaces", "(II)V"⟩
abbrev cX0_bondOf : ByteArray := prog_2_method_7_code
def yX0_bondOf : MethodName := ⟨RX0, "bondOf", "(IIII)I"⟩
abbrev cX0_findGroups : ByteArray := prog_2_method_8_code
def yX0_findGroups : MethodName := ⟨RX0, "findGroups", "()V"⟩
abbrev cX0_spreadSides : ByteArray := prog_2_method_9_code
def yX0_spreadSides : MethodName := ⟨RX0, "spreadSides", "()V"⟩
abbrev cX0_holds : ByteArray := prog_2_method_10_code
def yX0_holds : MethodName := ⟨RX0, "holds", "(II)Z"⟩
def RX1 : String := "OnlyFar$Flaws"
def TX1 : u_T := fun k => match k with
  | 0 => ("OnlyFar$Flaws", "badThrees", "I", false)
  | 1 => ("OnlyFar$Flaws", "badFours", "I", false)
  | 2 => ("OnlyFar$Flaws", "flatThrees", "I", false)
  | 3 => ("OnlyFar$Flaws", "toldThrees", "I", false)
  | 4 => ("OnlyFar$Flaws", "flaws", "[I", true)
  | 5 => ("OnlyFar$Flaws", "size", "I", false)
  | _ => ("OnlyFar$Flaws", "fewest", "I", false)
def tyX1 : Nat → FieldType := fun k => match k with
  | 0 => .int
  | 1 => .int
  | 2 => .int
  | 3 => .int
  | 4 => .array .int
  | 5 => .int
  | _ => .int
theorem nmX1 : ∀ a, a < 7 → ∀ b, b < 7 → a ≠ b → (TX1 a).2.1 ≠ (TX1 b).2.1 := by decide +kernel
theorem tyX1_ok : ∀ k, k < 7 → parseFieldDescriptor (TX1 k).2.2.1 = some (tyX1 k) := by decide +kernel
abbrev cX1_init : ByteArray := prog_3_method_1_code
def yX1_init : MethodName := ⟨RX1, "<init>", "()V"⟩
abbrev cX1_lookAt : ByteArray := prog_3_method_2_code
def yX1_lookAt : MethodName := ⟨RX1, "lookAt", "(LOnlyFar$Table;)V"⟩
abbrev cX1_lookAtThree : ByteArray := prog_3_method_3_code
def yX1_lookAtThree : MethodName := ⟨RX1, "lookAtThree", "(LOnlyFar$Table;III)V"⟩
abbrev cX1_pairsOfThree : ByteArray := prog_3_method_4_code
def yX1_pairsOfThree : MethodName := ⟨RX1, "pairsOfThree", "(III)I"⟩
abbrev cX1_add : ByteArray := prog_3_method_5_code
def yX1_add : MethodName := ⟨RX1, "add", "(I)V"⟩
abbrev cX1_flawsWith : ByteArray := prog_3_method_6_code
def yX1_flawsWith : MethodName := ⟨RX1, "flawsWith", "(I)I"⟩
abbrev cX1_mostDoubted : ByteArray := prog_3_method_7_code
def yX1_mostDoubted : MethodName := ⟨RX1, "mostDoubted", "()I"⟩
abbrev cX1_fewestFalse : ByteArray := prog_3_method_8_code
def yX1_fewestFalse : MethodName := ⟨RX1, "fewestFalse", "()I"⟩
abbrev cX1_leaveOut : ByteArray := prog_3_method_9_code
def yX1_leaveOut : MethodName := ⟨RX1, "leaveOut", "(II)V"⟩
abbrev cX1_firstFlawWithout : ByteArray := prog_3_method_10_code
def yX1_firstFlawWithout : MethodName := ⟨RX1, "firstFlawWithout", "(I)I"⟩
abbrev cX1_isBetter : ByteArray := prog_3_method_11_code
def yX1_isBetter : MethodName := ⟨RX1, "isBetter", "(I)Z"⟩
def RX2 : String := "OnlyFar$Image"
def TX2 : u_T := fun k => match k with
  | 0 => ("OnlyFar$Image", "kept", "Z", false)
  | 1 => ("OnlyFar$Image", "table", "LOnlyFar$Table;", true)
  | _ => ("OnlyFar$Image", "way", "LOnlyFar$Road;", true)
def tyX2 : Nat → FieldType := fun k => match k with
  | 0 => .boolean
  | 1 => .object "OnlyFar$Table"
  | _ => .object "OnlyFar$Road"
theorem nmX2 : ∀ a, a < 3 → ∀ b, b < 3 → a ≠ b → (TX2 a).2.1 ≠ (TX2 b).2.1 := by decide +kernel
theorem tyX2_ok : ∀ k, k < 3 → parseFieldDescriptor (TX2 k).2.2.1 = some (tyX2 k) := by decide +kernel
abbrev cX2_init : ByteArray := prog_4_method_1_code
def yX2_init : MethodName := ⟨RX2, "<init>", "()V"⟩
def RX3 : String := "OnlyFar$Naming"
def TX3 : u_T := fun k => match k with
  | 0 => ("OnlyFar$Naming", "found", "I", false)
  | 1 => ("OnlyFar$Naming", "from", "LOnlyFar$Table;", true)
  | 2 => ("OnlyFar$Naming", "to", "LOnlyFar$Table;", false)
  | 3 => ("OnlyFar$Naming", "first", "[I", true)
  | 4 => ("OnlyFar$Naming", "trial", "[I", true)
  | 5 => ("OnlyFar$Naming", "used", "I", false)
  | _ => ("OnlyFar$Naming", "firstOnly", "Z", false)
def tyX3 : Nat → FieldType := fun k => match k with
  | 0 => .int
  | 1 => .object "OnlyFar$Table"
  | 2 => .object "OnlyFar$Table"
  | 3 => .array .int
  | 4 => .array .int
  | 5 => .int
  | _ => .boolean
theorem nmX3 : ∀ a, a < 7 → ∀ b, b < 7 → a ≠ b → (TX3 a).2.1 ≠ (TX3 b).2.1 := by decide +kernel
theorem tyX3_ok : ∀ k, k < 7 → parseFieldDescriptor (TX3 k).2.2.1 = some (tyX3 k) := by decide +kernel
abbrev cX3_init : ByteArray := prog_5_method_1_code
def yX3_init : MethodName := ⟨RX3, "<init>", "(LOnlyFar$Table;)V"⟩
abbrev cX3_compare : ByteArray := prog_5_method_2_code
def yX3_compare : MethodName := ⟨RX3, "compare", "(LOnlyFar$Table;Z)V"⟩
abbrev cX3_nameOf : ByteArray := prog_5_method_3_code
def yX3_nameOf : MethodName := ⟨RX3, "nameOf", "(I)I"⟩
abbrev cX3_nameFrom : ByteArray := prog_5_method_4_code
def yX3_nameFrom : MethodName := ⟨RX3, "nameFrom", "(I)V"⟩
abbrev cX3_fits : ByteArray := prog_5_method_5_code
def yX3_fits : MethodName := ⟨RX3, "fits", "(II)Z"⟩
def RX4 : String := "OnlyFar$Reader"
def TX4 : u_T := fun k => match k with
  | 0 => ("OnlyFar$Reader", "draft", "LOnlyFar$Table;", true)
  | 1 => ("OnlyFar$Reader", "lines", "I", false)
  | 2 => ("OnlyFar$Reader", "fault", "I", false)
  | 3 => ("OnlyFar$Reader", "faultAt", "I", false)
  | 4 => ("OnlyFar$Reader", "tape", "LOnlyFar$Tape;", true)
  | 5 => ("OnlyFar$Reader", "placesTold", "Z", false)
  | 6 => ("OnlyFar$Reader", "greatestPlace", "I", false)
  | 7 => ("OnlyFar$Reader", "next", "I", false)
  | 8 => ("OnlyFar$Reader", "kind", "I", false)
  | 9 => ("OnlyFar$Reader", "start", "I", false)
  | _ => ("OnlyFar$Reader", "value", "I", false)
def tyX4 : Nat → FieldType := fun k => match k with
  | 0 => .object "OnlyFar$Table"
  | 1 => .int
  | 2 => .int
  | 3 => .int
  | 4 => .object "OnlyFar$Tape"
  | 5 => .boolean
  | 6 => .int
  | 7 => .int
  | 8 => .int
  | 9 => .int
  | _ => .int
theorem nmX4 : ∀ a, a < 11 → ∀ b, b < 11 → a ≠ b → (TX4 a).2.1 ≠ (TX4 b).2.1 := by decide +kernel
theorem tyX4_ok : ∀ k, k < 11 → parseFieldDescriptor (TX4 k).2.2.1 = some (tyX4 k) := by decide +kernel
abbrev cX4_init : ByteArray := prog_6_method_1_code
def yX4_init : MethodName := ⟨RX4, "<init>", "(LOnlyFar$Tape;)V"⟩
abbrev cX4_readAll : ByteArray := prog_6_method_2_code
def yX4_readAll : MethodName := ⟨RX4, "readAll", "()V"⟩
abbrev cX4_readLine : ByteArray := prog_6_method_3_code
def yX4_readLine : MethodName := ⟨RX4, "readLine", "()Z"⟩
abbrev cX4_readPlaces : ByteArray := prog_6_method_4_code
def yX4_readPlaces : MethodName := ⟨RX4, "readPlaces", "()Z"⟩
abbrev cX4_readFar : ByteArray := prog_6_method_5_code
def yX4_readFar : MethodName := ⟨RX4, "readFar", "()Z"⟩
abbrev cX4_readNumber : ByteArray := prog_6_method_6_code
def yX4_readNumber : MethodName := ⟨RX4, "readNumber", "(II)Z"⟩
abbrev cX4_readSign : ByteArray := prog_6_method_7_code
def yX4_readSign : MethodName := ⟨RX4, "readSign", "()Z"⟩
abbrev cX4_readToken : ByteArray := prog_6_method_8_code
def yX4_readToken : MethodName := ⟨RX4, "readToken", "()Z"⟩
abbrev cX4_kindAt : ByteArray := prog_6_method_9_code
def yX4_kindAt : MethodName := ⟨RX4, "kindAt", "(I)I"⟩
abbrev cX4_isName : ByteArray := prog_6_method_10_code
def yX4_isName : MethodName := ⟨RX4, "isName", "(Ljava/lang/String;)Z"⟩
abbrev cX4_refuse : ByteArray := prog_6_method_11_code
def yX4_refuse : MethodName := ⟨RX4, "refuse", "(II)Z"⟩
def RX5 : String := "OnlyFar$Road"
def TX5 : u_T := fun k => match k with
  | 0 => ("OnlyFar$Road", "parts", "I", false)
  | _ => ("OnlyFar$Road", "lengths", "[I", true)
def tyX5 : Nat → FieldType := fun k => match k with
  | 0 => .int
  | _ => .array .int
theorem nmX5 : ∀ a, a < 2 → ∀ b, b < 2 → a ≠ b → (TX5 a).2.1 ≠ (TX5 b).2.1 := by decide +kernel
theorem tyX5_ok : ∀ k, k < 2 → parseFieldDescriptor (TX5 k).2.2.1 = some (tyX5 k) := by decide +kernel
abbrev cX5_init : ByteArray := prog_7_method_1_code
def yX5_init : MethodName := ⟨RX5, "<init>", "()V"⟩
abbrev cX5_copyFrom : ByteArray := prog_7_method_2_code
def yX5_copyFrom : MethodName := ⟨RX5, "copyFrom", "(LOnlyFar$Road;)V"⟩
abbrev cX5_add : ByteArray := prog_7_method_3_code
def yX5_add : MethodName := ⟨RX5, "add", "(I)Z"⟩
abbrev cX5_farthest : ByteArray := prog_7_method_4_code
def yX5_farthest : MethodName := ⟨RX5, "farthest", "()I"⟩
abbrev cX5_nearest : ByteArray := prog_7_method_5_code
def yX5_nearest : MethodName := ⟨RX5, "nearest", "()I"⟩
def RX6 : String := "OnlyFar$Sheet"
def TX6 : u_T := fun k => match k with
  | 0 => ("OnlyFar$Sheet", "lane", "I", false)
  | 1 => ("OnlyFar$Sheet", "size", "I", false)
  | _ => ("OnlyFar$Sheet", "cells", "[I", true)
def tyX6 : Nat → FieldType := fun k => match k with
  | 0 => .int
  | 1 => .int
  | _ => .array .int
theorem nmX6 : ∀ a, a < 3 → ∀ b, b < 3 → a ≠ b → (TX6 a).2.1 ≠ (TX6 b).2.1 := by decide +kernel
theorem tyX6_ok : ∀ k, k < 3 → parseFieldDescriptor (TX6 k).2.2.1 = some (tyX6 k) := by decide +kernel
abbrev cX6_init : ByteArray := prog_8_method_1_code
def yX6_init : MethodName := ⟨RX6, "<init>", "()V"⟩
abbrev cX6_renew : ByteArray := prog_8_method_2_code
def yX6_renew : MethodName := ⟨RX6, "renew", "(II)V"⟩
abbrev cX6_write : ByteArray := prog_8_method_3_code
def yX6_write : MethodName := ⟨RX6, "write", "(II)I"⟩
abbrev cX6_faultAs : ByteArray := prog_8_method_4_code
def yX6_faultAs : MethodName := ⟨RX6, "faultAs", "(I)I"⟩
abbrev cX6_wholeLengths : ByteArray := prog_8_method_5_code
def yX6_wholeLengths : MethodName := ⟨RX6, "wholeLengths", "(II)I"⟩
abbrev cX6_cell : ByteArray := prog_8_method_6_code
def yX6_cell : MethodName := ⟨RX6, "cell", "(I)I"⟩
def RX7 : String := "OnlyFar$Sixth"
def TX7 : u_T := fun k => match k with
  | 0 => ("OnlyFar$Sixth", "middle", "J", false)
  | 1 => ("OnlyFar$Sixth", "spread", "J", false)
  | _ => ("OnlyFar$Sixth", "divisor", "J", false)
def tyX7 : Nat → FieldType := fun k => match k with
  | 0 => .long
  | 1 => .long
  | _ => .long
theorem nmX7 : ∀ a, a < 3 → ∀ b, b < 3 → a ≠ b → (TX7 a).2.1 ≠ (TX7 b).2.1 := by decide +kernel
theorem tyX7_ok : ∀ k, k < 3 → parseFieldDescriptor (TX7 k).2.2.1 = some (tyX7 k) := by decide +kernel
abbrev cX7_init : ByteArray := prog_9_method_1_code
def yX7_init : MethodName := ⟨RX7, "<init>", "()V"⟩
abbrev cX7_take : ByteArray := prog_9_method_2_code
def yX7_take : MethodName := ⟨RX7, "take", "(LOnlyFar$Table;IIII)V"⟩
abbrev cX7_wholeLength : ByteArray := prog_9_method_3_code
def yX7_wholeLength : MethodName := ⟨RX7, "wholeLength", "(Z)J"⟩
def RX8 : String := "OnlyFar$Table"
def TX8 : u_T := fun k => match k with
  | 0 => ("OnlyFar$Table", "places", "I", false)
  | _ => ("OnlyFar$Table", "squares", "[I", true)
def tyX8 : Nat → FieldType := fun k => match k with
  | 0 => .int
  | _ => .array .int
theorem nmX8 : ∀ a, a < 2 → ∀ b, b < 2 → a ≠ b → (TX8 a).2.1 ≠ (TX8 b).2.1 := by decide +kernel
theorem tyX8_ok : ∀ k, k < 2 → parseFieldDescriptor (TX8 k).2.2.1 = some (tyX8 k) := by decide +kernel
abbrev cX8_init : ByteArray := prog_10_method_1_code
def yX8_init : MethodName := ⟨RX8, "<init>", "()V"⟩
abbrev cX8_reset : ByteArray := prog_10_method_2_code
def yX8_reset : MethodName := ⟨RX8, "reset", "()V"⟩
abbrev cX8_copyFrom : ByteArray := prog_10_method_3_code
def yX8_copyFrom : MethodName := ⟨RX8, "copyFrom", "(LOnlyFar$Table;)V"⟩
abbrev cX8_isPlace : ByteArray := prog_10_method_4_code
def yX8_isPlace : MethodName := ⟨RX8, "isPlace", "(I)Z"⟩
abbrev cX8_areTwo : ByteArray := prog_10_method_5_code
def yX8_areTwo : MethodName := ⟨RX8, "areTwo", "(II)Z"⟩
abbrev cX8_areThree : ByteArray := prog_10_method_6_code
def yX8_areThree : MethodName := ⟨RX8, "areThree", "(III)Z"⟩
abbrev cX8_areFour : ByteArray := prog_10_method_7_code
def yX8_areFour : MethodName := ⟨RX8, "areFour", "(IIII)Z"⟩
abbrev cX8_square : ByteArray := prog_10_method_8_code
def yX8_square : MethodName := ⟨RX8, "square", "(II)I"⟩
abbrev cX8_toldOrNone : ByteArray := prog_10_method_9_code
def yX8_toldOrNone : MethodName := ⟨RX8, "toldOrNone", "(II)I"⟩
abbrev cX8_put : ByteArray := prog_10_method_10_code
def yX8_put : MethodName := ⟨RX8, "put", "(III)V"⟩
abbrev cX8_countTold : ByteArray := prog_10_method_11_code
def yX8_countTold : MethodName := ⟨RX8, "countTold", "()I"⟩
abbrev cX8_isToldThree : ByteArray := prog_10_method_12_code
def yX8_isToldThree : MethodName := ⟨RX8, "isToldThree", "(III)Z"⟩
abbrev cX8_isToldFour : ByteArray := prog_10_method_13_code
def yX8_isToldFour : MethodName := ⟨RX8, "isToldFour", "(IIII)Z"⟩
abbrev cX8_leaning : ByteArray := prog_10_method_14_code
def yX8_leaning : MethodName := ⟨RX8, "leaning", "(III)J"⟩
abbrev cX8_wideOf : ByteArray := prog_10_method_15_code
def yX8_wideOf : MethodName := ⟨RX8, "wideOf", "(III)J"⟩
abbrev cX8_canBeThree : ByteArray := prog_10_method_16_code
def yX8_canBeThree : MethodName := ⟨RX8, "canBeThree", "(III)Z"⟩
abbrev cX8_canBeFour : ByteArray := prog_10_method_17_code
def yX8_canBeFour : MethodName := ⟨RX8, "canBeFour", "(IIII)Z"⟩
abbrev cX8_isFlatFour : ByteArray := prog_10_method_18_code
def yX8_isFlatFour : MethodName := ⟨RX8, "isFlatFour", "(IIII)Z"⟩
abbrev cX8_sideSign : ByteArray := prog_10_method_19_code
def yX8_sideSign : MethodName := ⟨RX8, "sideSign", "(IIII)I"⟩
abbrev cX8_isToldBy : ByteArray := prog_10_method_20_code
def yX8_isToldBy : MethodName := ⟨RX8, "isToldBy", "(II)Z"⟩
abbrev cX8_isAlikeSeenFrom : ByteArray := prog_10_method_21_code
def yX8_isAlikeSeenFrom : MethodName := ⟨RX8, "isAlikeSeenFrom", "(III)Z"⟩
def RX9 : String := "OnlyFar$Tape"
def TX9 : u_T := fun k => match k with
  | 0 => ("OnlyFar$Tape", "length", "I", false)
  | _ => ("OnlyFar$Tape", "bytes", "[B", true)
def tyX9 : Nat → FieldType := fun k => match k with
  | 0 => .int
  | _ => .array .byte
theorem nmX9 : ∀ a, a < 2 → ∀ b, b < 2 → a ≠ b → (TX9 a).2.1 ≠ (TX9 b).2.1 := by decide +kernel
theorem tyX9_ok : ∀ k, k < 2 → parseFieldDescriptor (TX9 k).2.2.1 = some (tyX9 k) := by decide +kernel
abbrev cX9_init : ByteArray := prog_11_method_1_code
def yX9_init : MethodName := ⟨RX9, "<init>", "()V"⟩
abbrev cX9_add : ByteArray := prog_11_method_2_code
def yX9_add : MethodName := ⟨RX9, "add", "(J)Z"⟩
abbrev cX9_byteAt : ByteArray := prog_11_method_3_code
def yX9_byteAt : MethodName := ⟨RX9, "byteAt", "(I)I"⟩
def RX10 : String := "OnlyFar"
def TX10 : u_T := fun k => match k with
  | 0 => ("OnlyFar", "tape", "LOnlyFar$Tape;", true)
  | 1 => ("OnlyFar", "reader", "LOnlyFar$Reader;", true)
  | 2 => ("OnlyFar", "table", "LOnlyFar$Table;", true)
  | 3 => ("OnlyFar", "way", "LOnlyFar$Road;", true)
  | 4 => ("OnlyFar", "images", "[LOnlyFar$Image;", true)
  | 5 => ("OnlyFar", "sheets", "[LOnlyFar$Sheet;", true)
  | 6 => ("OnlyFar", "flaws", "LOnlyFar$Flaws;", true)
  | 7 => ("OnlyFar", "sixthOf", "LOnlyFar$Sixth;", true)
  | 8 => ("OnlyFar", "drawing", "LOnlyFar$Drawing;", true)
  | 9 => ("OnlyFar", "naming", "LOnlyFar$Naming;", true)
  | 10 => ("OnlyFar", "lastFault", "I", false)
  | _ => ("OnlyFar", "lastTear", "I", false)
def tyX10 : Nat → FieldType := fun k => match k with
  | 0 => .object "OnlyFar$Tape"
  | 1 => .object "OnlyFar$Reader"
  | 2 => .object "OnlyFar$Table"
  | 3 => .object "OnlyFar$Road"
  | 4 => .array (.object "OnlyFar$Image")
  | 5 => .array (.object "OnlyFar$Sheet")
  | 6 => .object "OnlyFar$Flaws"
  | 7 => .object "OnlyFar$Sixth"
  | 8 => .object "OnlyFar$Drawing"
  | 9 => .object "OnlyFar$Naming"
  | 10 => .int
  | _ => .int
theorem nmX10 : ∀ a, a < 12 → ∀ b, b < 12 → a ≠ b → (TX10 a).2.1 ≠ (TX10 b).2.1 := by decide +kernel
theorem tyX10_ok : ∀ k, k < 12 → parseFieldDescriptor (TX10 k).2.2.1 = some (tyX10 k) := by decide +kernel
abbrev cX10_init : ByteArray := prog_1_method_1_code
def yX10_init : MethodName := ⟨RX10, "<init>", "()V"⟩
abbrev cX10_feed : ByteArray := prog_1_method_2_code
def yX10_feed : MethodName := ⟨RX10, "feed", "(J)I"⟩
abbrev cX10_end : ByteArray := prog_1_method_3_code
def yX10_end : MethodName := ⟨RX10, "end", "(I)I"⟩
abbrev cX10_land : ByteArray := prog_1_method_4_code
def yX10_land : MethodName := ⟨RX10, "land", "()I"⟩
abbrev cX10_fault : ByteArray := prog_1_method_5_code
def yX10_fault : MethodName := ⟨RX10, "fault", "()I"⟩
abbrev cX10_far : ByteArray := prog_1_method_6_code
def yX10_far : MethodName := ⟨RX10, "far", "(II)I"⟩
abbrev cX10_tell : ByteArray := prog_1_method_7_code
def yX10_tell : MethodName := ⟨RX10, "tell", "(III)I"⟩
abbrev cX10_pair : ByteArray := prog_1_method_8_code
def yX10_pair : MethodName := ⟨RX10, "pair", "(II)I"⟩
abbrev cX10_wide : ByteArray := prog_1_method_9_code
def yX10_wide : MethodName := ⟨RX10, "wide", "(III)J"⟩
abbrev cX10_three : ByteArray := prog_1_method_10_code
def yX10_three : MethodName := ⟨RX10, "three", "(III)I"⟩
abbrev cX10_four : ByteArray := prog_1_method_11_code
def yX10_four : MethodName := ⟨RX10, "four", "(IIII)I"⟩
abbrev cX10_wrong : ByteArray := prog_1_method_12_code
def yX10_wrong : MethodName := ⟨RX10, "wrong", "(I)I"⟩
abbrev cX10_falses : ByteArray := prog_1_method_13_code
def yX10_falses : MethodName := ⟨RX10, "falses", "(I)I"⟩
abbrev cX10_doubt : ByteArray := prog_1_method_14_code
def yX10_doubt : MethodName := ⟨RX10, "doubt", "(I)I"⟩
abbrev cX10_bend : ByteArray := prog_1_method_15_code
def yX10_bend : MethodName := ⟨RX10, "bend", "(III)I"⟩
abbrev cX10_foot : ByteArray := prog_1_method_16_code
def yX10_foot : MethodName := ⟨RX10, "foot", "(IIII)J"⟩
abbrev cX10_height : ByteArray := prog_1_method_17_code
def yX10_height : MethodName := ⟨RX10, "height", "(IIII)J"⟩
abbrev cX10_round : ByteArray := prog_1_method_18_code
def yX10_round : MethodName := ⟨RX10, "round", "(IIII)J"⟩
abbrev cX10_side : ByteArray := prog_1_method_19_code
def yX10_side : MethodName := ⟨RX10, "side", "(IIII)I"⟩
abbrev cX10_within : ByteArray := prog_1_method_20_code
def yX10_within : MethodName := ⟨RX10, "within", "(IIII)I"⟩
abbrev cX10_sixth : ByteArray := prog_1_method_21_code
def yX10_sixth : MethodName := ⟨RX10, "sixth", "(IIIII)J"⟩
abbrev cX10_ends : ByteArray := prog_1_method_22_code
def yX10_ends : MethodName := ⟨RX10, "ends", "(III)I"⟩
abbrev cX10_drawings : ByteArray := prog_1_method_23_code
def yX10_drawings : MethodName := ⟨RX10, "drawings", "(III)I"⟩
abbrev cX10_spare : ByteArray := prog_1_method_24_code
def yX10_spare : MethodName := ⟨RX10, "spare", "(IIII)I"⟩
abbrev cX10_base : ByteArray := prog_1_method_25_code
def yX10_base : MethodName := ⟨RX10, "base", "()I"⟩
abbrev cX10_tells : ByteArray := prog_1_method_26_code
def yX10_tells : MethodName := ⟨RX10, "tells", "(II)I"⟩
abbrev cX10_words : ByteArray := prog_1_method_27_code
def yX10_words : MethodName := ⟨RX10, "words", "(II)I"⟩
abbrev cX10_at : ByteArray := prog_1_method_28_code
def yX10_at : MethodName := ⟨RX10, "at", "(IIII)I"⟩
abbrev cX10_spots : ByteArray := prog_1_method_29_code
def yX10_spots : MethodName := ⟨RX10, "spots", "(IIII)I"⟩
abbrev cX10_maps : ByteArray := prog_1_method_30_code
def yX10_maps : MethodName := ⟨RX10, "maps", "(II)I"⟩
abbrev cX10_part : ByteArray := prog_1_method_31_code
def yX10_part : MethodName := ⟨RX10, "part", "(I)I"⟩
abbrev cX10_clear : ByteArray := prog_1_method_32_code
def yX10_clear : MethodName := ⟨RX10, "clear", "()I"⟩
abbrev cX10_road : ByteArray := prog_1_method_33_code
def yX10_road : MethodName := ⟨RX10, "road", "(I)I"⟩
abbrev cX10_reaches : ByteArray := prog_1_method_34_code
def yX10_reaches : MethodName := ⟨RX10, "reaches", "(II)I"⟩
abbrev cX10_keep : ByteArray := prog_1_method_35_code
def yX10_keep : MethodName := ⟨RX10, "keep", "(I)I"⟩
abbrev cX10_back : ByteArray := prog_1_method_36_code
def yX10_back : MethodName := ⟨RX10, "back", "(I)I"⟩
abbrev cX10_sheet : ByteArray := prog_1_method_37_code
def yX10_sheet : MethodName := ⟨RX10, "sheet", "(III)I"⟩
abbrev cX10_lay : ByteArray := prog_1_method_38_code
def yX10_lay : MethodName := ⟨RX10, "lay", "(III)I"⟩
abbrev cX10_read : ByteArray := prog_1_method_39_code
def yX10_read : MethodName := ⟨RX10, "read", "(IIII)I"⟩
abbrev cX10_torn : ByteArray := prog_1_method_40_code
def yX10_torn : MethodName := ⟨RX10, "torn", "()I"⟩
abbrev cX10_count : ByteArray := prog_1_method_41_code
def yX10_count : MethodName := ⟨RX10, "count", "(I)I"⟩
abbrev cX10_bit : ByteArray := prog_1_method_42_code
def yX10_bit : MethodName := ⟨RX10, "bit", "(Z)I"⟩
abbrev cX10_hasBit : ByteArray := prog_1_method_43_code
def yX10_hasBit : MethodName := ⟨RX10, "hasBit", "(II)Z"⟩
abbrev cX10_isSquare : ByteArray := prog_1_method_44_code
def yX10_isSquare : MethodName := ⟨RX10, "isSquare", "(I)Z"⟩
abbrev cX10_isImage : ByteArray := prog_1_method_45_code
def yX10_isImage : MethodName := ⟨RX10, "isImage", "(I)Z"⟩
abbrev cX10_isSheet : ByteArray := prog_1_method_46_code
def yX10_isSheet : MethodName := ⟨RX10, "isSheet", "(I)Z"⟩
abbrev cX10_isLane : ByteArray := prog_1_method_47_code
def yX10_isLane : MethodName := ⟨RX10, "isLane", "(I)Z"⟩
abbrev cX10_isGoodLength : ByteArray := prog_1_method_48_code
def yX10_isGoodLength : MethodName := ⟨RX10, "isGoodLength", "(LOnlyFar$Sheet;I)Z"⟩
abbrev cX10_refusalOfThree : ByteArray := prog_1_method_49_code
def yX10_refusalOfThree : MethodName := ⟨RX10, "refusalOfThree", "(IIII)J"⟩
abbrev cX10_pairOf : ByteArray := prog_1_method_50_code
def yX10_pairOf : MethodName := ⟨RX10, "pairOf", "(II)I"⟩
abbrev cX10_wideOfSquares : ByteArray := prog_1_method_51_code
def yX10_wideOfSquares : MethodName := ⟨RX10, "wideOfSquares", "(JJJ)J"⟩
abbrev cX10_rootOf : ByteArray := prog_1_method_52_code
def yX10_rootOf : MethodName := ⟨RX10, "rootOf", "(J)J"⟩
abbrev cX10_lowest : ByteArray := prog_1_method_53_code
def yX10_lowest : MethodName := ⟨RX10, "lowest", "(JJI)J"⟩
abbrev cX10_commonDivisor : ByteArray := prog_1_method_54_code
def yX10_commonDivisor : MethodName := ⟨RX10, "commonDivisor", "(JJ)J"⟩
def RX11 : String := "OnlyFarModel"
def TX11 : u_T := fun k => match k with
  | 0 => ("OnlyFarModel", "state", "[I", true)
  | 1 => ("OnlyFarModel", "readPage", "[I", true)
  | 2 => ("OnlyFarModel", "isAwake", "Z", false)
  | 3 => ("OnlyFarModel", "tape", "[I", true)
  | 4 => ("OnlyFarModel", "taped", "I", false)
  | 5 => ("OnlyFarModel", "fault", "I", false)
  | 6 => ("OnlyFarModel", "broken", "I", false)
  | 7 => ("OnlyFarModel", "brokenAt", "I", false)
  | 8 => ("OnlyFarModel", "spot", "I", false)
  | 9 => ("OnlyFarModel", "here", "I", false)
  | 10 => ("OnlyFarModel", "token", "I", false)
  | 11 => ("OnlyFarModel", "value", "I", false)
  | 12 => ("OnlyFarModel", "letters", "[I", true)
  | 13 => ("OnlyFarModel", "hasPlaces", "Z", false)
  | 14 => ("OnlyFarModel", "highest", "I", false)
  | 15 => ("OnlyFarModel", "sums", "[I", true)
  | 16 => ("OnlyFarModel", "aside", "[I", true)
  | 17 => ("OnlyFarModel", "groups", "[I", true)
  | 18 => ("OnlyFarModel", "sides", "[I", true)
  | 19 => ("OnlyFarModel", "laid", "I", false)
  | 20 => ("OnlyFarModel", "groupMany", "I", false)
  | 21 => ("OnlyFarModel", "isDrawn", "Z", false)
  | 22 => ("OnlyFarModel", "names", "[I", true)
  | 23 => ("OnlyFarModel", "firstNames", "[I", true)
  | 24 => ("OnlyFarModel", "isKept", "[Z", true)
  | 25 => ("OnlyFarModel", "lanes", "[I", true)
  | 26 => ("OnlyFarModel", "lengths", "[I", true)
  | 27 => ("OnlyFarModel", "cells", "[I", true)
  | 28 => ("OnlyFarModel", "torn", "I", false)
  | _ => ("OnlyFarModel", "had", "[I", true)
def tyX11 : Nat → FieldType := fun k => match k with
  | 0 => .array .int
  | 1 => .array .int
  | 2 => .boolean
  | 3 => .array .int
  | 4 => .int
  | 5 => .int
  | 6 => .int
  | 7 => .int
  | 8 => .int
  | 9 => .int
  | 10 => .int
  | 11 => .int
  | 12 => .array .int
  | 13 => .boolean
  | 14 => .int
  | 15 => .array .int
  | 16 => .array .int
  | 17 => .array .int
  | 18 => .array .int
  | 19 => .int
  | 20 => .int
  | 21 => .boolean
  | 22 => .array .int
  | 23 => .array .int
  | 24 => .array .boolean
  | 25 => .array .int
  | 26 => .array .int
  | 27 => .array .int
  | 28 => .int
  | _ => .array .int
theorem nmX11 : ∀ a, a < 30 → ∀ b, b < 30 → a ≠ b → (TX11 a).2.1 ≠ (TX11 b).2.1 := by decide +kernel
theorem tyX11_ok : ∀ k, k < 30 → parseFieldDescriptor (TX11 k).2.2.1 = some (tyX11 k) := by decide +kernel
abbrev cX11_init : ByteArray := prog_13_method_1_code
def yX11_init : MethodName := ⟨RX11, "<init>", "()V"⟩
abbrev cX11_in : ByteArray := prog_13_method_3_code
def yX11_in : MethodName := ⟨RX11, "in", "(JJJ)Z"⟩
abbrev cX11_awake : ByteArray := prog_13_method_4_code
def yX11_awake : MethodName := ⟨RX11, "awake", "()V"⟩
abbrev cX11_feed : ByteArray := prog_13_method_5_code
def yX11_feed : MethodName := ⟨RX11, "feed", "(J)I"⟩
abbrev cX11_end : ByteArray := prog_13_method_6_code
def yX11_end : MethodName := ⟨RX11, "end", "(I)I"⟩
abbrev cX11_byteAt : ByteArray := prog_13_method_7_code
def yX11_byteAt : MethodName := ⟨RX11, "byteAt", "(I)I"⟩
abbrev cX11_fails : ByteArray := prog_13_method_8_code
def yX11_fails : MethodName := ⟨RX11, "fails", "(I)V"⟩
abbrev cX11_isName : ByteArray := prog_13_method_9_code
def yX11_isName : MethodName := ⟨RX11, "isName", "(II)Z"⟩
abbrev cX11_step : ByteArray := prog_13_method_10_code
def yX11_step : MethodName := ⟨RX11, "step", "()V"⟩
abbrev cX11_looks : ByteArray := prog_13_method_11_code
def yX11_looks : MethodName := ⟨RX11, "looks", "(II)V"⟩
abbrev cX11_number : ByteArray := prog_13_method_12_code
def yX11_number : MethodName := ⟨RX11, "number", "(II)I"⟩
abbrev cX11_pairOf : ByteArray := prog_13_method_13_code
def yX11_pairOf : MethodName := ⟨RX11, "pairOf", "(II)I"⟩
abbrev cX11_readFar : ByteArray := prog_13_method_14_code
def yX11_readFar : MethodName := ⟨RX11, "readFar", "()V"⟩
abbrev cX11_readLine : ByteArray := prog_13_method_15_code
def yX11_readLine : MethodName := ⟨RX11, "readLine", "()V"⟩
abbrev cX11_land : ByteArray := prog_13_method_16_code
def yX11_land : MethodName := ⟨RX11, "land", "()I"⟩
abbrev cX11_fault : ByteArray := prog_13_method_17_code
def yX11_fault : MethodName := ⟨RX11, "fault", "()I"⟩
abbrev cX11_isPlace : ByteArray := prog_13_method_18_code
def yX11_isPlace : MethodName := ⟨RX11, "isPlace", "(I)Z"⟩
abbrev cX11_areTwo : ByteArray := prog_13_method_19_code
def yX11_areTwo : MethodName := ⟨RX11, "areTwo", "(II)Z"⟩
abbrev cX11_areThree : ByteArray := prog_13_method_20_code
def yX11_areThree : MethodName := ⟨RX11, "areThree", "(III)Z"⟩
abbrev cX11_areFour : ByteArray := prog_13_method_21_code
def yX11_areFour : MethodName := ⟨RX11, "areFour", "(IIII)Z"⟩
abbrev cX11_sq : ByteArray := prog_13_method_22_code
def yX11_sq : MethodName := ⟨RX11, "sq", "(II)J"⟩
abbrev cX11_areTold : ByteArray := prog_13_method_23_code
def yX11_areTold : MethodName := ⟨RX11, "areTold", "(III)Z"⟩
abbrev cX11_allTold : ByteArray := prog_13_method_24_code
def yX11_allTold : MethodName := ⟨RX11, "allTold", "(IIII)Z"⟩
abbrev cX11_far : ByteArray := prog_13_method_25_code
def yX11_far : MethodName := ⟨RX11, "far", "(II)I"⟩
abbrev cX11_tells2 : ByteArray := prog_13_method_26_code
def yX11_tells2 : MethodName := ⟨RX11, "tells2", "(III)I"⟩
abbrev cX11_tell : ByteArray := prog_13_method_27_code
def yX11_tell : MethodName := ⟨RX11, "tell", "(III)I"⟩
abbrev cX11_pair : ByteArray := prog_13_method_28_code
def yX11_pair : MethodName := ⟨RX11, "pair", "(II)I"⟩
abbrev cX11_wideBy : ByteArray := prog_13_method_29_code
def yX11_wideBy : MethodName := ⟨RX11, "wideBy", "(JJJ)J"⟩
abbrev cX11_wideOf : ByteArray := prog_13_method_30_code
def yX11_wideOf : MethodName := ⟨RX11, "wideOf", "(III)J"⟩
abbrev cX11_canBe : ByteArray := prog_13_method_31_code
def yX11_canBe : MethodName := ⟨RX11, "canBe", "(III)Z"⟩
abbrev cX11_wide : ByteArray := prog_13_method_32_code
def yX11_wide : MethodName := ⟨RX11, "wide", "(III)J"⟩
abbrev cX11_three : ByteArray := prog_13_method_33_code
def yX11_three : MethodName := ⟨RX11, "three", "(III)I"⟩
abbrev cX11_dot : ByteArray := prog_13_method_34_code
def yX11_dot : MethodName := ⟨RX11, "dot", "(III)J"⟩
abbrev cX11_canFour : ByteArray := prog_13_method_35_code
def yX11_canFour : MethodName := ⟨RX11, "canFour", "(IIII)Z"⟩
abbrev cX11_four : ByteArray := prog_13_method_36_code
def yX11_four : MethodName := ⟨RX11, "four", "(IIII)I"⟩
abbrev cX11_layWrong : ByteArray := prog_13_method_37_code
def yX11_layWrong : MethodName := ⟨RX11, "layWrong", "()V"⟩
abbrev cX11_wrong : ByteArray := prog_13_method_38_code
def yX11_wrong : MethodName := ⟨RX11, "wrong", "(I)I"⟩
abbrev cX11_areRight : ByteArray := prog_13_method_39_code
def yX11_areRight : MethodName := ⟨RX11, "areRight", "()Z"⟩
abbrev cX11_isRightWithout : ByteArray := prog_13_method_40_code
def yX11_isRightWithout : MethodName := ⟨RX11, "isRightWithout", "(III)Z"⟩
abbrev cX11_isSet : ByteArray := prog_13_method_41_code
def yX11_isSet : MethodName := ⟨RX11, "isSet", "(I)Z"⟩
abbrev cX11_falseBits : ByteArray := prog_13_method_42_code
def yX11_falseBits : MethodName := ⟨RX11, "falseBits", "(I)I"⟩
abbrev cX11_falses : ByteArray := prog_13_method_43_code
def yX11_falses : MethodName := ⟨RX11, "falses", "(I)I"⟩
abbrev cX11_doubt : ByteArray := prog_13_method_44_code
def yX11_doubt : MethodName := ⟨RX11, "doubt", "(I)I"⟩
abbrev cX11_signOf : ByteArray := prog_13_method_45_code
def yX11_signOf : MethodName := ⟨RX11, "signOf", "(J)I"⟩
abbrev cX11_bend : ByteArray := prog_13_method_46_code
def yX11_bend : MethodName := ⟨RX11, "bend", "(III)I"⟩
abbrev cX11_lowest : ByteArray := prog_13_method_47_code
def yX11_lowest : MethodName := ⟨RX11, "lowest", "(JJI)J"⟩
abbrev cX11_hinders : ByteArray := prog_13_method_48_code
def yX11_hinders : MethodName := ⟨RX11, "hinders", "(IIII)J"⟩
abbrev cX11_foot : ByteArray := prog_13_method_49_code
def yX11_foot : MethodName := ⟨RX11, "foot", "(IIII)J"⟩
abbrev cX11_height : ByteArray := prog_13_method_50_code
def yX11_height : MethodName := ⟨RX11, "height", "(IIII)J"⟩
abbrev cX11_round : ByteArray := prog_13_method_51_code
def yX11_round : MethodName := ⟨RX11, "round", "(IIII)J"⟩
abbrev cX11_sideOf : ByteArray := prog_13_method_52_code
def yX11_sideOf : MethodName := ⟨RX11, "sideOf", "(IIII)I"⟩
abbrev cX11_isWhole : ByteArray := prog_13_method_53_code
def yX11_isWhole : MethodName := ⟨RX11, "isWhole", "(IIII)Z"⟩
abbrev cX11_side : ByteArray := prog_13_method_54_code
def yX11_side : MethodName := ⟨RX11, "side", "(IIII)I"⟩
abbrev cX11_within : ByteArray := prog_13_method_55_code
def yX11_within : MethodName := ⟨RX11, "within", "(IIII)I"⟩
abbrev cX11_root : ByteArray := prog_13_method_56_code
def yX11_root : MethodName := ⟨RX11, "root", "(J)J"⟩
abbrev cX11_across : ByteArray := prog_13_method_57_code
def yX11_across : MethodName := ⟨RX11, "across", "(IIII)J"⟩
abbrev cX11_under : ByteArray := prog_13_method_58_code
def yX11_under : MethodName := ⟨RX11, "under", "(IIII)J"⟩
abbrev cX11_sixth : ByteArray := prog_13_method_59_code
def yX11_sixth : MethodName := ⟨RX11, "sixth", "(IIIII)J"⟩
abbrev cX11_ends : ByteArray := prog_13_method_60_code
def yX11_ends : MethodName := ⟨RX11, "ends", "(III)I"⟩
abbrev cX11_isLaid : ByteArray := prog_13_method_61_code
def yX11_isLaid : MethodName := ⟨RX11, "isLaid", "(I)Z"⟩
abbrev cX11_relation : ByteArray := prog_13_method_62_code
def yX11_relation : MethodName := ⟨RX11, "relation", "(IIII)I"⟩
abbrev cX11_layGroups : ByteArray := prog_13_method_63_code
def yX11_layGroups : MethodName := ⟨RX11, "layGroups", "(II)V"⟩
abbrev cX11_layDrawings : ByteArray := prog_13_method_64_code
def yX11_layDrawings : MethodName := ⟨RX11, "layDrawings", "(II)V"⟩
abbrev cX11_drawingMany : ByteArray := prog_13_method_65_code
def yX11_drawingMany : MethodName := ⟨RX11, "drawingMany", "()I"⟩
abbrev cX11_drawings : ByteArray := prog_13_method_66_code
def yX11_drawings : MethodName := ⟨RX11, "drawings", "(III)I"⟩
abbrev cX11_spare : ByteArray := prog_13_method_67_code
def yX11_spare : MethodName := ⟨RX11, "spare", "(IIII)I"⟩
abbrev cX11_bitsOf : ByteArray := prog_13_method_68_code
def yX11_bitsOf : MethodName := ⟨RX11, "bitsOf", "(I)I"⟩
abbrev cX11_base : ByteArray := prog_13_method_69_code
def yX11_base : MethodName := ⟨RX11, "base", "()I"⟩
abbrev cX11_isTold : ByteArray := prog_13_method_70_code
def yX11_isTold : MethodName := ⟨RX11, "isTold", "(II)Z"⟩
abbrev cX11_areSome : ByteArray := prog_13_method_71_code
def yX11_areSome : MethodName := ⟨RX11, "areSome", "(II)Z"⟩
abbrev cX11_tells : ByteArray := prog_13_method_72_code
def yX11_tells : MethodName := ⟨RX11, "tells", "(II)I"⟩
abbrev cX11_words : ByteArray := prog_13_method_73_code
def yX11_words : MethodName := ⟨RX11, "words", "(II)I"⟩
abbrev cX11_isAt : ByteArray := prog_13_method_74_code
def yX11_isAt : MethodName := ⟨RX11, "isAt", "(IIII)Z"⟩
abbrev cX11_at : ByteArray := prog_13_method_75_code
def yX11_at : MethodName := ⟨RX11, "at", "(IIII)I"⟩
abbrev cX11_spots : ByteArray := prog_13_method_76_code
def yX11_spots : MethodName := ⟨RX11, "spots", "(IIII)I"⟩
abbrev cX11_isLike : ByteArray := prog_13_method_77_code
def yX11_isLike : MethodName := ⟨RX11, "isLike", "(II)Z"⟩
abbrev cX11_layMaps : ByteArray := prog_13_method_78_code
def yX11_layMaps : MethodName := ⟨RX11, "layMaps", "(I)I"⟩
abbrev cX11_maps : ByteArray := prog_13_method_79_code
def yX11_maps : MethodName := ⟨RX11, "maps", "(II)I"⟩
abbrev cX11_part : ByteArray := prog_13_method_80_code
def yX11_part : MethodName := ⟨RX11, "part", "(I)I"⟩
abbrev cX11_clear : ByteArray := prog_13_method_81_code
def yX11_clear : MethodName := ⟨RX11, "clear", "()I"⟩
abbrev cX11_nearest : ByteArray := prog_13_method_82_code
def yX11_nearest : MethodName := ⟨RX11, "nearest", "()I"⟩
abbrev cX11_farthest : ByteArray := prog_13_method_83_code
def yX11_farthest : MethodName := ⟨RX11, "farthest", "()I"⟩
abbrev cX11_road : ByteArray := prog_13_method_84_code
def yX11_road : MethodName := ⟨RX11, "road", "(I)I"⟩
abbrev cX11_reaches : ByteArray := prog_13_method_85_code
def yX11_reaches : MethodName := ⟨RX11, "reaches", "(II)I"⟩
abbrev cX11_lengthMany : ByteArray := prog_13_method_86_code
def yX11_lengthMany : MethodName := ⟨RX11, "lengthMany", "()I"⟩
abbrev cX11_keep : ByteArray := prog_13_method_87_code
def yX11_keep : MethodName := ⟨RX11, "keep", "(I)I"⟩
abbrev cX11_back : ByteArray := prog_13_method_88_code
def yX11_back : MethodName := ⟨RX11, "back", "(I)I"⟩
abbrev cX11_sheet : ByteArray := prog_13_method_89_code
def yX11_sheet : MethodName := ⟨RX11, "sheet", "(III)I"⟩
abbrev cX11_lay : ByteArray := prog_13_method_90_code
def yX11_lay : MethodName := ⟨RX11, "lay", "(III)I"⟩
abbrev cX11_read : ByteArray := prog_13_method_91_code
def yX11_read : MethodName := ⟨RX11, "read", "(IIII)I"⟩
abbrev cX11_torn : ByteArray := prog_13_method_92_code
def yX11_torn : MethodName := ⟨RX11, "torn", "()I"⟩
abbrev cX11_count : ByteArray := prog_13_method_93_code
def yX11_count : MethodName := ⟨RX11, "count", "(I)I"⟩
def RJx145de : String := "java/io/Serializable"
def TJx145de : u_T := fun k => match k with
  | _ => ("", "", "", false)
def tyJx145de : Nat → FieldType := fun k => match k with
  | _ => .int
theorem nmJx145de : ∀ a, a < 0 → ∀ b, b < 0 → a ≠ b → (TJx145de a).2.1 ≠ (TJx145de b).2.1 := by decide +kernel
theorem tyJx145de_ok : ∀ k, k < 0 → parseFieldDescriptor (TJx145de k).2.2.1 = some (tyJx145de k) := by decide +kernel
def RJx9f9b0 : String := "java/lang/CharSequence"
def TJx9f9b0 : u_T := fun k => match k with
  | _ => ("", "", "", false)
def tyJx9f9b0 : Nat → FieldType := fun k => match k with
  | _ => .int
theorem nmJx9f9b0 : ∀ a, a < 0 → ∀ b, b < 0 → a ≠ b → (TJx9f9b0 a).2.1 ≠ (TJx9f9b0 b).2.1 := by decide +kernel
theorem tyJx9f9b0_ok : ∀ k, k < 0 → parseFieldDescriptor (TJx9f9b0 k).2.2.1 = some (tyJx9f9b0 k) := by decide +kernel
def RJxb160c : String := "java/lang/Comparable"
def TJxb160c : u_T := fun k => match k with
  | _ => ("", "", "", false)
def tyJxb160c : Nat → FieldType := fun k => match k with
  | _ => .int
theorem nmJxb160c : ∀ a, a < 0 → ∀ b, b < 0 → a ≠ b → (TJxb160c a).2.1 ≠ (TJxb160c b).2.1 := by decide +kernel
theorem tyJxb160c_ok : ∀ k, k < 0 → parseFieldDescriptor (TJxb160c k).2.2.1 = some (tyJxb160c k) := by decide +kernel
def RJ6 : String := "java/lang/Integer"
def TJ6 : u_T := fun k => match k with
  | _ => ("", "", "", false)
def tyJ6 : Nat → FieldType := fun k => match k with
  | _ => .int
theorem nmJ6 : ∀ a, a < 0 → ∀ b, b < 0 → a ≠ b → (TJ6 a).2.1 ≠ (TJ6 b).2.1 := by decide +kernel
theorem tyJ6_ok : ∀ k, k < 0 → parseFieldDescriptor (TJ6 k).2.2.1 = some (tyJ6 k) := by decide +kernel
abbrev cJ6_bitCount_0f7a4 : ByteArray := prog_14_method_49_code
def yJ6_bitCount_0f7a4 : MethodName := ⟨RJ6, "bitCount", "(I)I"⟩
def RJ13 : String := "java/lang/Long"
def TJ13 : u_T := fun k => match k with
  | _ => ("", "", "", false)
def tyJ13 : Nat → FieldType := fun k => match k with
  | _ => .int
theorem nmJ13 : ∀ a, a < 0 → ∀ b, b < 0 → a ≠ b → (TJ13 a).2.1 ≠ (TJ13 b).2.1 := by decide +kernel
theorem tyJ13_ok : ∀ k, k < 0 → parseFieldDescriptor (TJ13 k).2.2.1 = some (tyJ13 k) := by decide +kernel
abbrev cJ13_signum_95d88 : ByteArray := prog_15_method_57_code
def yJ13_signum_95d88 : MethodName := ⟨RJ13, "signum", "(J)I"⟩
def RJ9 : String := "java/lang/Math"
def TJ9 : u_T := fun k => match k with
  | _ => ("", "", "", false)
def tyJ9 : Nat → FieldType := fun k => match k with
  | _ => .int
theorem nmJ9 : ∀ a, a < 0 → ∀ b, b < 0 → a ≠ b → (TJ9 a).2.1 ≠ (TJ9 b).2.1 := by decide +kernel
theorem tyJ9_ok : ∀ k, k < 0 → parseFieldDescriptor (TJ9 k).2.2.1 = some (tyJ9 k) := by decide +kernel
abbrev cJ9_abs_067f4 : ByteArray := prog_16_method_61_code
def yJ9_abs_067f4 : MethodName := ⟨RJ9, "abs", "(J)J"⟩
abbrev cJ9_max_7cf53 : ByteArray := prog_16_method_65_code
def yJ9_max_7cf53 : MethodName := ⟨RJ9, "max", "(II)I"⟩
abbrev cJ9_min_7cf53 : ByteArray := prog_16_method_69_code
def yJ9_min_7cf53 : MethodName := ⟨RJ9, "min", "(II)I"⟩
def RJ0 : String := "java/lang/String"
def TJ0 : u_T := fun k => match k with
  | _ => ("", "", "", false)
def tyJ0 : Nat → FieldType := fun k => match k with
  | _ => .int
theorem nmJ0 : ∀ a, a < 0 → ∀ b, b < 0 → a ≠ b → (TJ0 a).2.1 ≠ (TJ0 b).2.1 := by decide +kernel
theorem tyJ0_ok : ∀ k, k < 0 → parseFieldDescriptor (TJ0 k).2.2.1 = some (tyJ0 k) := by decide +kernel
abbrev cJ0_length_8abf5 : ByteArray := prog_17_method_54_code
def yJ0_length_8abf5 : MethodName := ⟨RJ0, "length", "()I"⟩
abbrev cJ0_charAt_5068e : ByteArray := prog_17_method_56_code
def yJ0_charAt_5068e : MethodName := ⟨RJ0, "charAt", "(I)C"⟩
abbrev cJ0_coder_7d493 : ByteArray := prog_17_method_152_code
def yJ0_coder_7d493 : MethodName := ⟨RJ0, "coder", "()B"⟩
abbrev cJ0_isLatin1_aae02 : ByteArray := prog_17_method_154_code
def yJ0_isLatin1_aae02 : MethodName := ⟨RJ0, "isLatin1", "()Z"⟩
abbrev cJ0_checkIndex_df160 : ByteArray := prog_17_method_155_code
def yJ0_checkIndex_df160 : MethodName := ⟨RJ0, "checkIndex", "(II)V"⟩
def RJ1 : String := "java/lang/StringLatin1"
def TJ1 : u_T := fun k => match k with
  | _ => ("", "", "", false)
def tyJ1 : Nat → FieldType := fun k => match k with
  | _ => .int
theorem nmJ1 : ∀ a, a < 0 → ∀ b, b < 0 → a ≠ b → (TJ1 a).2.1 ≠ (TJ1 b).2.1 := by decide +kernel
theorem tyJ1_ok : ∀ k, k < 0 → parseFieldDescriptor (TJ1 k).2.2.1 = some (tyJ1 k) := by decide +kernel
abbrev cJ1_charAt_3b067 : ByteArray := prog_18_method_2_code
def yJ1_charAt_3b067 : MethodName := ⟨RJ1, "charAt", "([BI)C"⟩
def RJ2 : String := "java/lang/StringUTF16"
def TJ2 : u_T := fun k => match k with
  | _ => ("", "", "", false)
def tyJ2 : Nat → FieldType := fun k => match k with
  | _ => .int
theorem nmJ2 : ∀ a, a < 0 → ∀ b, b < 0 → a ≠ b → (TJ2 a).2.1 ≠ (TJ2 b).2.1 := by decide +kernel
theorem tyJ2_ok : ∀ k, k < 0 → parseFieldDescriptor (TJ2 k).2.2.1 = some (tyJ2 k) := by decide +kernel
abbrev cJ2_getChar_3b067 : ByteArray := prog_19_method_5_code
def yJ2_getChar_3b067 : MethodName := ⟨RJ2, "getChar", "([BI)C"⟩
abbrev cJ2_length_9d52b : ByteArray := prog_19_method_6_code
def yJ2_length_9d52b : MethodName := ⟨RJ2, "length", "([B)I"⟩
abbrev cJ2_charAt_3b067 : ByteArray := prog_19_method_83_code
def yJ2_charAt_3b067 : MethodName := ⟨RJ2, "charAt", "([BI)C"⟩
abbrev cJ2_checkIndex_2214a : ByteArray := prog_19_method_91_code
def yJ2_checkIndex_2214a : MethodName := ⟨RJ2, "checkIndex", "(I[B)V"⟩
def RJ10 : String := "java/lang/System"
def TJ10 : u_T := fun k => match k with
  | _ => ("", "", "", false)
def tyJ10 : Nat → FieldType := fun k => match k with
  | _ => .int
theorem nmJ10 : ∀ a, a < 0 → ∀ b, b < 0 → a ≠ b → (TJ10 a).2.1 ≠ (TJ10 b).2.1 := by decide +kernel
theorem tyJ10_ok : ∀ k, k < 0 → parseFieldDescriptor (TJ10 k).2.2.1 = some (tyJ10 k) := by decide +kernel
def RJxfd54e : String := "java/lang/constant/Constable"
def TJxfd54e : u_T := fun k => match k with
  | _ => ("", "", "", false)
def tyJxfd54e : Nat → FieldType := fun k => match k with
  | _ => .int
theorem nmJxfd54e : ∀ a, a < 0 → ∀ b, b < 0 → a ≠ b → (TJxfd54e a).2.1 ≠ (TJxfd54e b).2.1 := by decide +kernel
theorem tyJxfd54e_ok : ∀ k, k < 0 → parseFieldDescriptor (TJxfd54e k).2.2.1 = some (tyJxfd54e k) := by decide +kernel
def RJx3cf43 : String := "java/lang/constant/ConstantDesc"
def TJx3cf43 : u_T := fun k => match k with
  | _ => ("", "", "", false)
def tyJx3cf43 : Nat → FieldType := fun k => match k with
  | _ => .int
theorem nmJx3cf43 : ∀ a, a < 0 → ∀ b, b < 0 → a ≠ b → (TJx3cf43 a).2.1 ≠ (TJx3cf43 b).2.1 := by decide +kernel
theorem tyJx3cf43_ok : ∀ k, k < 0 → parseFieldDescriptor (TJx3cf43 k).2.2.1 = some (tyJx3cf43 k) := by decide +kernel
def RJ7 : String := "java/util/Arrays"
def TJ7 : u_T := fun k => match k with
  | _ => ("", "", "", false)
def tyJ7 : Nat → FieldType := fun k => match k with
  | _ => .int
theorem nmJ7 : ∀ a, a < 0 → ∀ b, b < 0 → a ≠ b → (TJ7 a).2.1 ≠ (TJ7 b).2.1 := by decide +kernel
theorem tyJ7_ok : ∀ k, k < 0 → parseFieldDescriptor (TJ7 k).2.2.1 = some (tyJ7 k) := by decide +kernel
abbrev cJ7_fill_53178 : ByteArray := prog_21_method_103_code
def yJ7_fill_53178 : MethodName := ⟨RJ7, "fill", "([II)V"⟩
def RJ3 : String := "jdk/internal/util/Preconditions"
def TJ3 : u_T := fun k => match k with
  | _ => ("", "", "", false)
def tyJ3 : Nat → FieldType := fun k => match k with
  | _ => .int
theorem nmJ3 : ∀ a, a < 0 → ∀ b, b < 0 → a ≠ b → (TJ3 a).2.1 ≠ (TJ3 b).2.1 := by decide +kernel
theorem tyJ3_ok : ∀ k, k < 0 → parseFieldDescriptor (TJ3 k).2.2.1 = some (tyJ3 k) := by decide +kernel
abbrev cJ3_checkIndex_8e157 : ByteArray := prog_22_method_11_code
def yJ3_checkIndex_8e157 : MethodName := ⟨RJ3, "checkIndex", "(IILjava/util/function/BiFunction;)I"⟩
def RL : String := "OnlyFarLaw"
abbrev cL_law : ByteArray := code
def yL_law : MethodName := ⟨RL, "law", "([I)Z"⟩
abbrev vwCl : List vw_C := [(RX0, TX0, 8), (RX1, TX1, 7), (RX2, TX2, 3), (RX3, TX3, 7), (RX4, TX4, 11), (RX5, TX5, 2), (RX6, TX6, 3), (RX7, TX7, 3), (RX8, TX8, 2), (RX9, TX9, 2), (RX10, TX10, 12), (RX11, TX11, 30)]
/-! the words of the tables that a callee may have from its caller -/
def Com : List Cond := lw_tbl.filter goodWord
theorem com_lw {w : Cond} (h : w ∈ Com) : w ∈ lw_tbl := (List.mem_filter.mp h).1
theorem com_good {w : Cond} (h : w ∈ Com) : goodWord w = true := (List.mem_filter.mp h).2
theorem goodC {Ts : List Cond} (hT : ∀ w ∈ Com, w ∈ Ts) : GoodIn Ts Com := fun w h => ⟨hT w h, good_of_word (com_good h)⟩
theorem goodK {Ts : List Cond} (hT : ∀ w ∈ Com, w ∈ Ts) {c : Cond} (hc : c ∈ Com) : GoodIn Ts (c :: Com) := fun w h => (List.mem_cons.mp h).elim (fun e => by rw [e]; exact goodC hT c hc) (goodC hT w)
theorem gV {Ts : List Cond} (hT : ∀ w ∈ Com, w ∈ Ts) {own C : String} {idx : Nat} {y : MethodName} {c : Cond} (h1 : Cond.methodLink own idx y ∈ Com) (h2 : Cond.instanceMethod y ∈ Com) (h3 : Cond.selects C y y ∈ Com) (h4 : Cond.initialized C ∈ Com) (hc : c ∈ Com) : GoodIn Ts (wsV own idx C y (c :: Com)) := by
  intro w h
  rcases List.mem_append.mp h with h | h
  · refine goodC hT w ?_
    rcases List.mem_cons.mp h with rfl | h
    · exact h1
    rcases List.mem_cons.mp h with rfl | h
    · exact h2
    rcases List.mem_cons.mp h with rfl | h
    · exact h3
    rcases List.mem_cons.mp h with rfl | h
    · exact h4
    exact absurd h List.not_mem_nil
  · exact goodK hT hc w h
theorem gS {Ts : List Cond} (hT : ∀ w ∈ Com, w ∈ Ts) {own : String} {idx : Nat} {y : MethodName} {c : Cond} (h1 : Cond.methodLink own idx y ∈ Com) (h2 : Cond.static y ∈ Com) (h3 : Cond.initialized y.cls ∈ Com) (hc : c ∈ Com) : GoodIn Ts (va_wsS own idx y (c :: Com)) := by
  intro w h
  rcases List.mem_append.mp h with h | h
  · refine goodC hT w ?_
    rcases List.mem_cons.mp h with rfl | h
    · exact h1
    rcases List.mem_cons.mp h with rfl | h
    · exact h2
    rcases List.mem_cons.mp h with rfl | h
    · exact h3
    exact absurd h List.not_mem_nil
  · exact goodK hT hc w h
theorem mcC {c : Cond} : ∀ w ∈ Com, w ∈ c :: Com := fun _ h => List.mem_cons_of_mem _ h
theorem com_0 (i : Nat) {w : Cond} (h : (k2_sels lw_privs)[i]? = some w) (hg : goodWord w = true) : w ∈ Com := List.mem_filter.mpr ⟨List.mem_append_left _ (List.mem_of_getElem? h), hg⟩
theorem com_1 (i : Nat) {w : Cond} (h : tables_1_1[i]? = some w) (hg : goodWord w = true) : w ∈ Com := List.mem_filter.mpr ⟨List.mem_append_right _ (List.mem_append_left _ (List.mem_of_getElem? h)), hg⟩
theorem com_2 (i : Nat) {w : Cond} (h : tables_1_2[i]? = some w) (hg : goodWord w = true) : w ∈ Com := List.mem_filter.mpr ⟨List.mem_append_right _ (List.mem_append_right _ (List.mem_append_left _ (List.mem_of_getElem? h))), hg⟩
theorem com_3 (i : Nat) {w : Cond} (h : tables_1_3[i]? = some w) (hg : goodWord w = true) : w ∈ Com := List.mem_filter.mpr ⟨List.mem_append_right _ (List.mem_append_right _ (List.mem_append_right _ (List.mem_append_left _ (List.mem_of_getElem? h)))), hg⟩
theorem com_4 (i : Nat) {w : Cond} (h : tables_1_4[i]? = some w) (hg : goodWord w = true) : w ∈ Com := List.mem_filter.mpr ⟨List.mem_append_right _ (List.mem_append_right _ (List.mem_append_right _ (List.mem_append_right _ (List.mem_append_left _ (List.mem_of_getElem? h))))), hg⟩
theorem com_5 (i : Nat) {w : Cond} (h : tables_1_5[i]? = some w) (hg : goodWord w = true) : w ∈ Com := List.mem_filter.mpr ⟨List.mem_append_right _ (List.mem_append_right _ (List.mem_append_right _ (List.mem_append_right _ (List.mem_append_right _ (List.mem_append_left _ (List.mem_of_getElem? h)))))), hg⟩
theorem com_6 (i : Nat) {w : Cond} (h : tables_1_6[i]? = some w) (hg : goodWord w = true) : w ∈ Com := List.mem_filter.mpr ⟨List.mem_append_right _ (List.mem_append_right _ (List.mem_append_right _ (List.mem_append_right _ (List.mem_append_right _ (List.mem_append_right _ (List.mem_of_getElem? h)))))), hg⟩
