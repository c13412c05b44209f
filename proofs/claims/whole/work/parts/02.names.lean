/-! ===== BEGIN printed: names, fields, word lists, decode rows ===== -/
def RX0 : String := "KeccakLanes"
def TX0 : u_T := fun k => match k with
  | 0 => ("KeccakLanes", "lanes", "[[J", true)
  | 1 => ("KeccakLanes", "places", "[I", true)
  | 2 => ("KeccakLanes", "columns", "[J", true)
  | _ => ("KeccakLanes", "moved", "[J", true)
def tyX0 : Nat → FieldType := fun k => match k with
  | 0 => .array (.array .long)
  | 1 => .array .int
  | 2 => .array .long
  | _ => .array .long
abbrev wsX00 : List Cond := u_ws RX0 TX0 4
theorem nmX0 : ∀ a, a < 4 → ∀ b, b < 4 → a ≠ b → (TX0 a).2.1 ≠ (TX0 b).2.1 := by decide +kernel
theorem tyX0_ok : ∀ k, k < 4 → parseFieldDescriptor (TX0 k).2.2.1 = some (tyX0 k) := by decide +kernel
abbrev cX0_init : ByteArray := prog_1_method_1_code
def yX0_init : MethodName := ⟨RX0, "<init>", "()V"⟩
abbrev cX0_clear : ByteArray := prog_1_method_2_code
def yX0_clear : MethodName := ⟨RX0, "clear", "(I)V"⟩
abbrev cX0_take : ByteArray := prog_1_method_3_code
def yX0_take : MethodName := ⟨RX0, "take", "(IJI)I"⟩
abbrev cX0_fill : ByteArray := prog_1_method_4_code
def yX0_fill : MethodName := ⟨RX0, "fill", "(IIII)I"⟩
abbrev cX0_copy : ByteArray := prog_1_method_5_code
def yX0_copy : MethodName := ⟨RX0, "copy", "(II)V"⟩
abbrev cX0_mix : ByteArray := prog_1_method_6_code
def yX0_mix : MethodName := ⟨RX0, "mix", "(I)V"⟩
abbrev cX0_lane : ByteArray := prog_1_method_7_code
def yX0_lane : MethodName := ⟨RX0, "lane", "(II)J"⟩
abbrev cX0_digest : ByteArray := prog_1_method_8_code
def yX0_digest : MethodName := ⟨RX0, "digest", "(II)J"⟩
abbrev cX0_requireUpTo : ByteArray := prog_1_method_9_code
def yX0_requireUpTo : MethodName := ⟨RX0, "requireUpTo", "(II)V"⟩
abbrev cX0_copyState : ByteArray := prog_1_method_10_code
def yX0_copyState : MethodName := ⟨RX0, "copyState", "(II)V"⟩
abbrev cX0_takeIn : ByteArray := prog_1_method_11_code
def yX0_takeIn : MethodName := ⟨RX0, "takeIn", "(II)V"⟩
abbrev cX0_joinByte : ByteArray := prog_1_method_12_code
def yX0_joinByte : MethodName := ⟨RX0, "joinByte", "([JII)V"⟩
abbrev cX0_mixLanes : ByteArray := prog_1_method_13_code
def yX0_mixLanes : MethodName := ⟨RX0, "mixLanes", "([J)V"⟩
abbrev cX0_sumColumns : ByteArray := prog_1_method_14_code
def yX0_sumColumns : MethodName := ⟨RX0, "sumColumns", "([J)V"⟩
abbrev cX0_columnSum : ByteArray := prog_1_method_15_code
def yX0_columnSum : MethodName := ⟨RX0, "columnSum", "([JI)J"⟩
abbrev cX0_turnAndMove : ByteArray := prog_1_method_16_code
def yX0_turnAndMove : MethodName := ⟨RX0, "turnAndMove", "([J)V"⟩
abbrev cX0_combineRows : ByteArray := prog_1_method_17_code
def yX0_combineRows : MethodName := ⟨RX0, "combineRows", "([J)V"⟩
abbrev cX0_turnedLeft : ByteArray := prog_1_method_18_code
def yX0_turnedLeft : MethodName := ⟨RX0, "turnedLeft", "(JI)J"⟩
abbrev cX0_bytesTurnedRound : ByteArray := prog_1_method_19_code
def yX0_bytesTurnedRound : MethodName := ⟨RX0, "bytesTurnedRound", "(J)J"⟩
def RX1 : String := "KeccakLanesModel"
def TX1 : u_T := fun k => match k with
  | 0 => ("KeccakLanesModel", "failed", "I", false)
  | 1 => ("KeccakLanesModel", "states", "[[J", true)
  | 2 => ("KeccakLanesModel", "places", "[I", true)
  | 3 => ("KeccakLanesModel", "lanes", "[J", true)
  | 4 => ("KeccakLanesModel", "column", "[J", true)
  | 5 => ("KeccakLanesModel", "moved", "[J", true)
  | _ => ("KeccakLanesModel", "constants", "[J", true)
def tyX1 : Nat → FieldType := fun k => match k with
  | 0 => .int
  | 1 => .array (.array .long)
  | 2 => .array .int
  | 3 => .array .long
  | 4 => .array .long
  | 5 => .array .long
  | _ => .array .long
abbrev wsX10 : List Cond := u_ws RX1 TX1 7
theorem nmX1 : ∀ a, a < 7 → ∀ b, b < 7 → a ≠ b → (TX1 a).2.1 ≠ (TX1 b).2.1 := by decide +kernel
theorem tyX1_ok : ∀ k, k < 7 → parseFieldDescriptor (TX1 k).2.2.1 = some (tyX1 k) := by decide +kernel
abbrev cX1_constant : ByteArray := prog_3_method_1_code
def yX1_constant : MethodName := ⟨RX1, "constant", "(I)J"⟩
abbrev cX1_init : ByteArray := prog_3_method_3_code
def yX1_init : MethodName := ⟨RX1, "<init>", "()V"⟩
abbrev cX1_thrown : ByteArray := prog_3_method_4_code
def yX1_thrown : MethodName := ⟨RX1, "thrown", "()I"⟩
abbrev cX1_clear : ByteArray := prog_3_method_9_code
def yX1_clear : MethodName := ⟨RX1, "clear", "(I)V"⟩
def RJ13 : String := "java/lang/Long"
def TJ13 : u_T := fun k => match k with
  | _ => ("", "", "", false)
def tyJ13 : Nat → FieldType := fun k => match k with
  | _ => .int
abbrev wsJ130 : List Cond := u_ws RJ13 TJ13 0
theorem nmJ13 : ∀ a, a < 0 → ∀ b, b < 0 → a ≠ b → (TJ13 a).2.1 ≠ (TJ13 b).2.1 := by decide +kernel
theorem tyJ13_ok : ∀ k, k < 0 → parseFieldDescriptor (TJ13 k).2.2.1 = some (tyJ13 k) := by decide +kernel
def RJ0 : String := "java/lang/String"
def TJ0 : u_T := fun k => match k with
  | _ => ("", "", "", false)
def tyJ0 : Nat → FieldType := fun k => match k with
  | _ => .int
abbrev wsJ00 : List Cond := u_ws RJ0 TJ0 0
theorem nmJ0 : ∀ a, a < 0 → ∀ b, b < 0 → a ≠ b → (TJ0 a).2.1 ≠ (TJ0 b).2.1 := by decide +kernel
theorem tyJ0_ok : ∀ k, k < 0 → parseFieldDescriptor (TJ0 k).2.2.1 = some (tyJ0 k) := by decide +kernel
def RJ10 : String := "java/lang/System"
def TJ10 : u_T := fun k => match k with
  | _ => ("", "", "", false)
def tyJ10 : Nat → FieldType := fun k => match k with
  | _ => .int
abbrev wsJ100 : List Cond := u_ws RJ10 TJ10 0
theorem nmJ10 : ∀ a, a < 0 → ∀ b, b < 0 → a ≠ b → (TJ10 a).2.1 ≠ (TJ10 b).2.1 := by decide +kernel
theorem tyJ10_ok : ∀ k, k < 0 → parseFieldDescriptor (TJ10 k).2.2.1 = some (tyJ10 k) := by decide +kernel
def RL : String := "KeccakLanesLaw"
abbrev cL_clear : ByteArray := method_3_code
def yL_clear : MethodName := ⟨RL, "clear", "(LKeccakLanes;I)I"⟩
abbrev cL_take : ByteArray := method_4_code
def yL_take : MethodName := ⟨RL, "take", "(LKeccakLanes;IJI[J)I"⟩
abbrev cL_fill : ByteArray := method_5_code
def yL_fill : MethodName := ⟨RL, "fill", "(LKeccakLanes;IIII[J)I"⟩
abbrev cL_copy : ByteArray := method_6_code
def yL_copy : MethodName := ⟨RL, "copy", "(LKeccakLanes;II)I"⟩
abbrev cL_mix : ByteArray := method_7_code
def yL_mix : MethodName := ⟨RL, "mix", "(LKeccakLanes;I)I"⟩
abbrev cL_lane : ByteArray := method_8_code
def yL_lane : MethodName := ⟨RL, "lane", "(LKeccakLanes;II[J)I"⟩
abbrev cL_digest : ByteArray := method_9_code
def yL_digest : MethodName := ⟨RL, "digest", "(LKeccakLanes;II[J)I"⟩
abbrev cL_law : ByteArray := code
def yL_law : MethodName := ⟨RL, "law", "([I)Z"⟩
def wsX0_init : List Cond := .code yX0_init cX0_init 1 none :: ([.methodLink RX0 3 objectInit, .instanceMethod objectInit, .code objectInit ⟨#[0xb1]⟩ 1 none, .classLink RX0 9 "[[J", .arrayClass .long, .fieldLink RX0 11 "KeccakLanes" "lanes" "[[J", .arrayClass .int, .fieldLink RX0 14 "KeccakLanes" "places" "[I", .fieldLink RX0 18 "KeccakLanes" "columns" "[J", .fieldLink RX0 22 "KeccakLanes" "moved" "[J"] ++ wsX00)
def wsX0_requireUpTo : List Cond := .code yX0_requireUpTo cX0_requireUpTo 2 none :: ([.classLink RX0 47 "java/lang/IllegalArgumentException", .initialized "java/lang/IllegalArgumentException"] ++ (vx_atS RX0 51 "java/lang/IllegalArgumentException" ["java/lang/RuntimeException", "java/lang/Exception"]).filter goodWord)
def wsX0_clear : List Cond := .code yX0_clear cX0_clear 4 none :: ([.fieldLink RX0 11 "KeccakLanes" "lanes" "[[J", .fieldLink RX0 14 "KeccakLanes" "places" "[I", .methodLink RX0 25 yX0_requireUpTo, .static yX0_requireUpTo, .initialized RX0, .code yX0_requireUpTo cX0_requireUpTo 2 none, .classLink RX0 47 "java/lang/IllegalArgumentException", .initialized "java/lang/IllegalArgumentException"] ++ wsX00 ++ (vx_atS RX0 51 "java/lang/IllegalArgumentException" ["java/lang/RuntimeException", "java/lang/Exception"]).filter goodWord)
def wsX0_joinByte : List Cond := .code yX0_joinByte cX0_joinByte 3 none :: ([.constantLong RX0 60 (255)])
def wsX0_columnSum : List Cond := .code yX0_columnSum cX0_columnSum 2 (some .long) :: ([])
def wsX0_turnedLeft : List Cond := .code yX0_turnedLeft cX0_turnedLeft 3 (some .long) :: ([])
def wsX0_sumColumns : List Cond := .code yX0_sumColumns cX0_sumColumns 12 none :: ([.fieldLink RX0 18 "KeccakLanes" "columns" "[J", .methodLink RX0 74 yX0_columnSum, .static yX0_columnSum, .initialized RX0, .code yX0_columnSum cX0_columnSum 2 (some .long), .methodLink RX0 78 yX0_turnedLeft, .static yX0_turnedLeft, .code yX0_turnedLeft cX0_turnedLeft 3 (some .long)] ++ wsX00)
def wsX0_turnAndMove : List Cond := .code yX0_turnAndMove cX0_turnAndMove 5 none :: ([.fieldLink RX0 22 "KeccakLanes" "moved" "[J", .fieldLink RX0 82 "KeccakLanes" "TARGETS" "[I", .fieldLink RX0 18 "KeccakLanes" "columns" "[J", .fieldLink RX0 85 "KeccakLanes" "TURNS" "[I", .methodLink RX0 78 yX0_turnedLeft, .static yX0_turnedLeft, .initialized RX0, .code yX0_turnedLeft cX0_turnedLeft 3 (some .long)] ++ wsX00)
def wsX0_combineRows : List Cond := .code yX0_combineRows cX0_combineRows 13 none :: ([.fieldLink RX0 22 "KeccakLanes" "moved" "[J", .constantLong RX0 88 (-1)] ++ wsX00)
def wsX0_mixLanes_r1 : List Cond := [Cond.fieldLink RX0 71 "KeccakLanes" "CONSTANTS" "[J", Cond.methodLink RX0 62 yX0_sumColumns, Cond.instanceMethod yX0_sumColumns, Cond.selects RX0 yX0_sumColumns yX0_sumColumns, Cond.initialized RX0, Cond.code yX0_sumColumns cX0_sumColumns 12 none, Cond.fieldLink RX0 18 "KeccakLanes" "columns" "[J", Cond.methodLink RX0 74 yX0_columnSum, Cond.static yX0_columnSum, Cond.code yX0_columnSum cX0_columnSum 2 (some .long), Cond.methodLink RX0 78 yX0_turnedLeft, Cond.static yX0_turnedLeft, Cond.code yX0_turnedLeft cX0_turnedLeft 3 (some .long), Cond.methodLink RX0 65 yX0_turnAndMove, Cond.instanceMethod yX0_turnAndMove, Cond.selects RX0 yX0_turnAndMove yX0_turnAndMove, Cond.code yX0_turnAndMove cX0_turnAndMove 5 none, Cond.fieldLink RX0 22 "KeccakLanes" "moved" "[J", Cond.fieldLink RX0 82 "KeccakLanes" "TARGETS" "[I", Cond.fieldLink RX0 85 "KeccakLanes" "TURNS" "[I", Cond.methodLink RX0 68 yX0_combineRows, Cond.instanceMethod yX0_combineRows, Cond.selects RX0 yX0_combineRows yX0_combineRows, Cond.code yX0_combineRows cX0_combineRows 13 none]
def wsX0_mixLanes_r2 : List Cond := [Cond.constantLong RX0 88 (-1)]
def wsX0_mixLanes : List Cond := .code yX0_mixLanes cX0_mixLanes 3 none :: ((wsX0_mixLanes_r1 ++ wsX0_mixLanes_r2) ++ wsX00)
def wsX0_takeIn_r1 : List Cond := [Cond.fieldLink RX0 11 "KeccakLanes" "lanes" "[[J", Cond.fieldLink RX0 14 "KeccakLanes" "places" "[I", Cond.methodLink RX0 39 yX0_joinByte, Cond.static yX0_joinByte, Cond.initialized RX0, Cond.code yX0_joinByte cX0_joinByte 3 none, Cond.constantLong RX0 60 (255), Cond.methodLink RX0 35 yX0_mixLanes, Cond.instanceMethod yX0_mixLanes, Cond.selects RX0 yX0_mixLanes yX0_mixLanes, Cond.code yX0_mixLanes cX0_mixLanes 3 none, Cond.fieldLink RX0 71 "KeccakLanes" "CONSTANTS" "[J", Cond.methodLink RX0 62 yX0_sumColumns, Cond.instanceMethod yX0_sumColumns, Cond.selects RX0 yX0_sumColumns yX0_sumColumns, Cond.code yX0_sumColumns cX0_sumColumns 12 none, Cond.fieldLink RX0 18 "KeccakLanes" "columns" "[J", Cond.methodLink RX0 74 yX0_columnSum, Cond.static yX0_columnSum, Cond.code yX0_columnSum cX0_columnSum 2 (some .long), Cond.methodLink RX0 78 yX0_turnedLeft, Cond.static yX0_turnedLeft, Cond.code yX0_turnedLeft cX0_turnedLeft 3 (some .long), Cond.methodLink RX0 65 yX0_turnAndMove]
def wsX0_takeIn_r2 : List Cond := [Cond.instanceMethod yX0_turnAndMove, Cond.selects RX0 yX0_turnAndMove yX0_turnAndMove, Cond.code yX0_turnAndMove cX0_turnAndMove 5 none, Cond.fieldLink RX0 22 "KeccakLanes" "moved" "[J", Cond.fieldLink RX0 82 "KeccakLanes" "TARGETS" "[I", Cond.fieldLink RX0 85 "KeccakLanes" "TURNS" "[I", Cond.methodLink RX0 68 yX0_combineRows, Cond.instanceMethod yX0_combineRows, Cond.selects RX0 yX0_combineRows yX0_combineRows, Cond.code yX0_combineRows cX0_combineRows 13 none, Cond.constantLong RX0 88 (-1)]
def wsX0_takeIn : List Cond := .code yX0_takeIn cX0_takeIn 3 none :: ((wsX0_takeIn_r1 ++ wsX0_takeIn_r2) ++ wsX00)
def wsX0_take_r1 : List Cond := [Cond.fieldLink RX0 14 "KeccakLanes" "places" "[I", Cond.methodLink RX0 25 yX0_requireUpTo, Cond.static yX0_requireUpTo, Cond.initialized RX0, Cond.code yX0_requireUpTo cX0_requireUpTo 2 none, Cond.classLink RX0 47 "java/lang/IllegalArgumentException", Cond.initialized "java/lang/IllegalArgumentException", Cond.methodLink RX0 29 yX0_takeIn, Cond.instanceMethod yX0_takeIn, Cond.selects RX0 yX0_takeIn yX0_takeIn, Cond.code yX0_takeIn cX0_takeIn 3 none, Cond.fieldLink RX0 11 "KeccakLanes" "lanes" "[[J", Cond.methodLink RX0 39 yX0_joinByte, Cond.static yX0_joinByte, Cond.code yX0_joinByte cX0_joinByte 3 none, Cond.constantLong RX0 60 (255), Cond.methodLink RX0 35 yX0_mixLanes, Cond.instanceMethod yX0_mixLanes, Cond.selects RX0 yX0_mixLanes yX0_mixLanes, Cond.code yX0_mixLanes cX0_mixLanes 3 none, Cond.fieldLink RX0 71 "KeccakLanes" "CONSTANTS" "[J", Cond.methodLink RX0 62 yX0_sumColumns, Cond.instanceMethod yX0_sumColumns, Cond.selects RX0 yX0_sumColumns yX0_sumColumns]
def wsX0_take_r2 : List Cond := [Cond.code yX0_sumColumns cX0_sumColumns 12 none, Cond.fieldLink RX0 18 "KeccakLanes" "columns" "[J", Cond.methodLink RX0 74 yX0_columnSum, Cond.static yX0_columnSum, Cond.code yX0_columnSum cX0_columnSum 2 (some .long), Cond.methodLink RX0 78 yX0_turnedLeft, Cond.static yX0_turnedLeft, Cond.code yX0_turnedLeft cX0_turnedLeft 3 (some .long), Cond.methodLink RX0 65 yX0_turnAndMove, Cond.instanceMethod yX0_turnAndMove, Cond.selects RX0 yX0_turnAndMove yX0_turnAndMove, Cond.code yX0_turnAndMove cX0_turnAndMove 5 none, Cond.fieldLink RX0 22 "KeccakLanes" "moved" "[J", Cond.fieldLink RX0 82 "KeccakLanes" "TARGETS" "[I", Cond.fieldLink RX0 85 "KeccakLanes" "TURNS" "[I", Cond.methodLink RX0 68 yX0_combineRows, Cond.instanceMethod yX0_combineRows, Cond.selects RX0 yX0_combineRows yX0_combineRows, Cond.code yX0_combineRows cX0_combineRows 13 none, Cond.constantLong RX0 88 (-1)]
def wsX0_take : List Cond := .code yX0_take cX0_take 6 (some .int) :: ((wsX0_take_r1 ++ wsX0_take_r2) ++ wsX00 ++ (vx_atS RX0 51 "java/lang/IllegalArgumentException" ["java/lang/RuntimeException", "java/lang/Exception"]).filter goodWord)
def wsX0_fill_r1 : List Cond := [Cond.fieldLink RX0 14 "KeccakLanes" "places" "[I", Cond.methodLink RX0 25 yX0_requireUpTo, Cond.static yX0_requireUpTo, Cond.initialized RX0, Cond.code yX0_requireUpTo cX0_requireUpTo 2 none, Cond.classLink RX0 47 "java/lang/IllegalArgumentException", Cond.initialized "java/lang/IllegalArgumentException", Cond.methodLink RX0 29 yX0_takeIn, Cond.instanceMethod yX0_takeIn, Cond.selects RX0 yX0_takeIn yX0_takeIn, Cond.code yX0_takeIn cX0_takeIn 3 none, Cond.fieldLink RX0 11 "KeccakLanes" "lanes" "[[J", Cond.methodLink RX0 39 yX0_joinByte, Cond.static yX0_joinByte, Cond.code yX0_joinByte cX0_joinByte 3 none, Cond.constantLong RX0 60 (255), Cond.methodLink RX0 35 yX0_mixLanes, Cond.instanceMethod yX0_mixLanes, Cond.selects RX0 yX0_mixLanes yX0_mixLanes, Cond.code yX0_mixLanes cX0_mixLanes 3 none, Cond.fieldLink RX0 71 "KeccakLanes" "CONSTANTS" "[J", Cond.methodLink RX0 62 yX0_sumColumns, Cond.instanceMethod yX0_sumColumns, Cond.selects RX0 yX0_sumColumns yX0_sumColumns]
def wsX0_fill_r2 : List Cond := [Cond.code yX0_sumColumns cX0_sumColumns 12 none, Cond.fieldLink RX0 18 "KeccakLanes" "columns" "[J", Cond.methodLink RX0 74 yX0_columnSum, Cond.static yX0_columnSum, Cond.code yX0_columnSum cX0_columnSum 2 (some .long), Cond.methodLink RX0 78 yX0_turnedLeft, Cond.static yX0_turnedLeft, Cond.code yX0_turnedLeft cX0_turnedLeft 3 (some .long), Cond.methodLink RX0 65 yX0_turnAndMove, Cond.instanceMethod yX0_turnAndMove, Cond.selects RX0 yX0_turnAndMove yX0_turnAndMove, Cond.code yX0_turnAndMove cX0_turnAndMove 5 none, Cond.fieldLink RX0 22 "KeccakLanes" "moved" "[J", Cond.fieldLink RX0 82 "KeccakLanes" "TARGETS" "[I", Cond.fieldLink RX0 85 "KeccakLanes" "TURNS" "[I", Cond.methodLink RX0 68 yX0_combineRows, Cond.instanceMethod yX0_combineRows, Cond.selects RX0 yX0_combineRows yX0_combineRows, Cond.code yX0_combineRows cX0_combineRows 13 none, Cond.constantLong RX0 88 (-1)]
def wsX0_fill : List Cond := .code yX0_fill cX0_fill 6 (some .int) :: ((wsX0_fill_r1 ++ wsX0_fill_r2) ++ wsX00 ++ (vx_atS RX0 51 "java/lang/IllegalArgumentException" ["java/lang/RuntimeException", "java/lang/Exception"]).filter goodWord)
def wsX0_copyState : List Cond := .code yX0_copyState cX0_copyState 3 none :: ([.fieldLink RX0 11 "KeccakLanes" "lanes" "[[J", .methodLink RX0 54 arraycopyName, .native arraycopyName, .static arraycopyName, .initialized "java/lang/System", .fieldLink RX0 14 "KeccakLanes" "places" "[I"] ++ wsX00)
def wsX0_copy : List Cond := .code yX0_copy cX0_copy 3 none :: ([.methodLink RX0 25 yX0_requireUpTo, .static yX0_requireUpTo, .initialized RX0, .code yX0_requireUpTo cX0_requireUpTo 2 none, .classLink RX0 47 "java/lang/IllegalArgumentException", .initialized "java/lang/IllegalArgumentException", .methodLink RX0 32 yX0_copyState, .instanceMethod yX0_copyState, .selects RX0 yX0_copyState yX0_copyState, .code yX0_copyState cX0_copyState 3 none, .fieldLink RX0 11 "KeccakLanes" "lanes" "[[J", .methodLink RX0 54 arraycopyName, .native arraycopyName, .static arraycopyName, .initialized "java/lang/System", .fieldLink RX0 14 "KeccakLanes" "places" "[I"] ++ wsX00 ++ (vx_atS RX0 51 "java/lang/IllegalArgumentException" ["java/lang/RuntimeException", "java/lang/Exception"]).filter goodWord)
def wsX0_mix_r1 : List Cond := [Cond.fieldLink RX0 11 "KeccakLanes" "lanes" "[[J", Cond.methodLink RX0 25 yX0_requireUpTo, Cond.static yX0_requireUpTo, Cond.initialized RX0, Cond.code yX0_requireUpTo cX0_requireUpTo 2 none, Cond.classLink RX0 47 "java/lang/IllegalArgumentException", Cond.initialized "java/lang/IllegalArgumentException", Cond.methodLink RX0 35 yX0_mixLanes, Cond.instanceMethod yX0_mixLanes, Cond.selects RX0 yX0_mixLanes yX0_mixLanes, Cond.code yX0_mixLanes cX0_mixLanes 3 none, Cond.fieldLink RX0 71 "KeccakLanes" "CONSTANTS" "[J", Cond.methodLink RX0 62 yX0_sumColumns, Cond.instanceMethod yX0_sumColumns, Cond.selects RX0 yX0_sumColumns yX0_sumColumns, Cond.code yX0_sumColumns cX0_sumColumns 12 none, Cond.fieldLink RX0 18 "KeccakLanes" "columns" "[J", Cond.methodLink RX0 74 yX0_columnSum, Cond.static yX0_columnSum, Cond.code yX0_columnSum cX0_columnSum 2 (some .long), Cond.methodLink RX0 78 yX0_turnedLeft, Cond.static yX0_turnedLeft, Cond.code yX0_turnedLeft cX0_turnedLeft 3 (some .long), Cond.methodLink RX0 65 yX0_turnAndMove]
def wsX0_mix_r2 : List Cond := [Cond.instanceMethod yX0_turnAndMove, Cond.selects RX0 yX0_turnAndMove yX0_turnAndMove, Cond.code yX0_turnAndMove cX0_turnAndMove 5 none, Cond.fieldLink RX0 22 "KeccakLanes" "moved" "[J", Cond.fieldLink RX0 82 "KeccakLanes" "TARGETS" "[I", Cond.fieldLink RX0 85 "KeccakLanes" "TURNS" "[I", Cond.methodLink RX0 68 yX0_combineRows, Cond.instanceMethod yX0_combineRows, Cond.selects RX0 yX0_combineRows yX0_combineRows, Cond.code yX0_combineRows cX0_combineRows 13 none, Cond.constantLong RX0 88 (-1)]
def wsX0_mix : List Cond := .code yX0_mix cX0_mix 2 none :: ((wsX0_mix_r1 ++ wsX0_mix_r2) ++ wsX00 ++ (vx_atS RX0 51 "java/lang/IllegalArgumentException" ["java/lang/RuntimeException", "java/lang/Exception"]).filter goodWord)
def wsX0_lane : List Cond := .code yX0_lane cX0_lane 3 (some .long) :: ([.fieldLink RX0 11 "KeccakLanes" "lanes" "[[J", .methodLink RX0 25 yX0_requireUpTo, .static yX0_requireUpTo, .initialized RX0, .code yX0_requireUpTo cX0_requireUpTo 2 none, .classLink RX0 47 "java/lang/IllegalArgumentException", .initialized "java/lang/IllegalArgumentException"] ++ wsX00 ++ (vx_atS RX0 51 "java/lang/IllegalArgumentException" ["java/lang/RuntimeException", "java/lang/Exception"]).filter goodWord)
def wsX0_bytesTurnedRound : List Cond := .code yX0_bytesTurnedRound cX0_bytesTurnedRound 5 (some .long) :: ([.constantLong RX0 60 (255)])
def wsX0_digest_r1 : List Cond := [Cond.fieldLink RX0 11 "KeccakLanes" "lanes" "[[J", Cond.fieldLink RX0 14 "KeccakLanes" "places" "[I", Cond.methodLink RX0 25 yX0_requireUpTo, Cond.static yX0_requireUpTo, Cond.initialized RX0, Cond.code yX0_requireUpTo cX0_requireUpTo 2 none, Cond.classLink RX0 47 "java/lang/IllegalArgumentException", Cond.initialized "java/lang/IllegalArgumentException", Cond.methodLink RX0 32 yX0_copyState, Cond.instanceMethod yX0_copyState, Cond.selects RX0 yX0_copyState yX0_copyState, Cond.code yX0_copyState cX0_copyState 3 none, Cond.methodLink RX0 54 arraycopyName, Cond.native arraycopyName, Cond.static arraycopyName, Cond.initialized "java/lang/System", Cond.methodLink RX0 39 yX0_joinByte, Cond.static yX0_joinByte, Cond.code yX0_joinByte cX0_joinByte 3 none, Cond.constantLong RX0 60 (255), Cond.methodLink RX0 35 yX0_mixLanes, Cond.instanceMethod yX0_mixLanes, Cond.selects RX0 yX0_mixLanes yX0_mixLanes, Cond.code yX0_mixLanes cX0_mixLanes 3 none]
def wsX0_digest_r2 : List Cond := [Cond.fieldLink RX0 71 "KeccakLanes" "CONSTANTS" "[J", Cond.methodLink RX0 62 yX0_sumColumns, Cond.instanceMethod yX0_sumColumns, Cond.selects RX0 yX0_sumColumns yX0_sumColumns, Cond.code yX0_sumColumns cX0_sumColumns 12 none, Cond.fieldLink RX0 18 "KeccakLanes" "columns" "[J", Cond.methodLink RX0 74 yX0_columnSum, Cond.static yX0_columnSum, Cond.code yX0_columnSum cX0_columnSum 2 (some .long), Cond.methodLink RX0 78 yX0_turnedLeft, Cond.static yX0_turnedLeft, Cond.code yX0_turnedLeft cX0_turnedLeft 3 (some .long), Cond.methodLink RX0 65 yX0_turnAndMove, Cond.instanceMethod yX0_turnAndMove, Cond.selects RX0 yX0_turnAndMove yX0_turnAndMove, Cond.code yX0_turnAndMove cX0_turnAndMove 5 none, Cond.fieldLink RX0 22 "KeccakLanes" "moved" "[J", Cond.fieldLink RX0 82 "KeccakLanes" "TARGETS" "[I", Cond.fieldLink RX0 85 "KeccakLanes" "TURNS" "[I", Cond.methodLink RX0 68 yX0_combineRows, Cond.instanceMethod yX0_combineRows, Cond.selects RX0 yX0_combineRows yX0_combineRows, Cond.code yX0_combineRows cX0_combineRows 13 none, Cond.constantLong RX0 88 (-1)]
def wsX0_digest_r3 : List Cond := [Cond.methodLink RX0 43 yX0_bytesTurnedRound, Cond.static yX0_bytesTurnedRound, Cond.code yX0_bytesTurnedRound cX0_bytesTurnedRound 5 (some .long)]
def wsX0_digest : List Cond := .code yX0_digest cX0_digest 4 (some .long) :: ((wsX0_digest_r1 ++ (wsX0_digest_r2 ++ wsX0_digest_r3)) ++ wsX00 ++ (vx_atS RX0 51 "java/lang/IllegalArgumentException" ["java/lang/RuntimeException", "java/lang/Exception"]).filter goodWord)
def wsX1_constant : List Cond := .code yX1_constant cX1_constant 7 (some .long) :: ([])
def wsX1_init : List Cond := .code yX1_init cX1_init 2 none :: ([.methodLink RX1 24 objectInit, .instanceMethod objectInit, .code objectInit ⟨#[0xb1]⟩ 1 none, .classLink RX1 30 "[[J", .arrayClass .long, .fieldLink RX1 32 "KeccakLanesModel" "states" "[[J", .arrayClass .int, .fieldLink RX1 35 "KeccakLanesModel" "places" "[I", .fieldLink RX1 7 "KeccakLanesModel" "lanes" "[J", .fieldLink RX1 1 "KeccakLanesModel" "column" "[J", .fieldLink RX1 16 "KeccakLanesModel" "moved" "[J", .fieldLink RX1 21 "KeccakLanesModel" "constants" "[J", .methodLink RX1 39 yX1_constant, .static yX1_constant, .initialized RX1, .code yX1_constant cX1_constant 7 (some .long)] ++ wsX10)
def wsX1_thrown : List Cond := .code yX1_thrown cX1_thrown 1 (some .int) :: ([.fieldLink RX1 43 "KeccakLanesModel" "failed" "I"] ++ wsX10)
def wsX1_clear : List Cond := .code yX1_clear cX1_clear 3 none :: ([.fieldLink RX1 43 "KeccakLanesModel" "failed" "I", .fieldLink RX1 32 "KeccakLanesModel" "states" "[[J", .fieldLink RX1 35 "KeccakLanesModel" "places" "[I"] ++ wsX10)
def wsL_clear : List Cond := .codeWith yL_clear cL_clear 3 (some .int) [(0, 5, 8, 13)] :: ([.classLink RL 13 "java/lang/IllegalArgumentException", .methodLink RL 7 yX0_clear, .instanceMethod yX0_clear, .selects RX0 yX0_clear yX0_clear, .initialized RX0, .code yX0_clear cX0_clear 4 none, .fieldLink RX0 11 "KeccakLanes" "lanes" "[[J", .fieldLink RX0 14 "KeccakLanes" "places" "[I", .methodLink RX0 25 yX0_requireUpTo, .static yX0_requireUpTo, .code yX0_requireUpTo cX0_requireUpTo 2 none, .classLink RX0 47 "java/lang/IllegalArgumentException", .initialized "java/lang/IllegalArgumentException"] ++ wsX00 ++ (vx_atS RX0 51 "java/lang/IllegalArgumentException" ["java/lang/RuntimeException", "java/lang/Exception"]).filter goodWord)
def wsL_take_r1 : List Cond := [Cond.classLink RL 13 "java/lang/IllegalArgumentException", Cond.methodLink RL 15 yX0_take, Cond.instanceMethod yX0_take, Cond.selects RX0 yX0_take yX0_take, Cond.initialized RX0, Cond.code yX0_take cX0_take 6 (some .int), Cond.fieldLink RX0 14 "KeccakLanes" "places" "[I", Cond.methodLink RX0 25 yX0_requireUpTo, Cond.static yX0_requireUpTo, Cond.code yX0_requireUpTo cX0_requireUpTo 2 none, Cond.classLink RX0 47 "java/lang/IllegalArgumentException", Cond.initialized "java/lang/IllegalArgumentException", Cond.methodLink RX0 29 yX0_takeIn, Cond.instanceMethod yX0_takeIn, Cond.selects RX0 yX0_takeIn yX0_takeIn, Cond.code yX0_takeIn cX0_takeIn 3 none, Cond.fieldLink RX0 11 "KeccakLanes" "lanes" "[[J", Cond.methodLink RX0 39 yX0_joinByte, Cond.static yX0_joinByte, Cond.code yX0_joinByte cX0_joinByte 3 none, Cond.constantLong RX0 60 (255), Cond.methodLink RX0 35 yX0_mixLanes, Cond.instanceMethod yX0_mixLanes, Cond.selects RX0 yX0_mixLanes yX0_mixLanes]
def wsL_take_r2 : List Cond := [Cond.code yX0_mixLanes cX0_mixLanes 3 none, Cond.fieldLink RX0 71 "KeccakLanes" "CONSTANTS" "[J", Cond.methodLink RX0 62 yX0_sumColumns, Cond.instanceMethod yX0_sumColumns, Cond.selects RX0 yX0_sumColumns yX0_sumColumns, Cond.code yX0_sumColumns cX0_sumColumns 12 none, Cond.fieldLink RX0 18 "KeccakLanes" "columns" "[J", Cond.methodLink RX0 74 yX0_columnSum, Cond.static yX0_columnSum, Cond.code yX0_columnSum cX0_columnSum 2 (some .long), Cond.methodLink RX0 78 yX0_turnedLeft, Cond.static yX0_turnedLeft, Cond.code yX0_turnedLeft cX0_turnedLeft 3 (some .long), Cond.methodLink RX0 65 yX0_turnAndMove, Cond.instanceMethod yX0_turnAndMove, Cond.selects RX0 yX0_turnAndMove yX0_turnAndMove, Cond.code yX0_turnAndMove cX0_turnAndMove 5 none, Cond.fieldLink RX0 22 "KeccakLanes" "moved" "[J", Cond.fieldLink RX0 82 "KeccakLanes" "TARGETS" "[I", Cond.fieldLink RX0 85 "KeccakLanes" "TURNS" "[I", Cond.methodLink RX0 68 yX0_combineRows, Cond.instanceMethod yX0_combineRows, Cond.selects RX0 yX0_combineRows yX0_combineRows, Cond.code yX0_combineRows cX0_combineRows 13 none]
def wsL_take_r3 : List Cond := [Cond.constantLong RX0 88 (-1)]
def wsL_take : List Cond := .codeWith yL_take cL_take 7 (some .int) [(0, 13, 16, 13)] :: ((wsL_take_r1 ++ (wsL_take_r2 ++ wsL_take_r3)) ++ wsX00 ++ (vx_atS RX0 51 "java/lang/IllegalArgumentException" ["java/lang/RuntimeException", "java/lang/Exception"]).filter goodWord)
def wsL_fill_r1 : List Cond := [Cond.classLink RL 13 "java/lang/IllegalArgumentException", Cond.methodLink RL 19 yX0_fill, Cond.instanceMethod yX0_fill, Cond.selects RX0 yX0_fill yX0_fill, Cond.initialized RX0, Cond.code yX0_fill cX0_fill 6 (some .int), Cond.fieldLink RX0 14 "KeccakLanes" "places" "[I", Cond.methodLink RX0 25 yX0_requireUpTo, Cond.static yX0_requireUpTo, Cond.code yX0_requireUpTo cX0_requireUpTo 2 none, Cond.classLink RX0 47 "java/lang/IllegalArgumentException", Cond.initialized "java/lang/IllegalArgumentException", Cond.methodLink RX0 29 yX0_takeIn, Cond.instanceMethod yX0_takeIn, Cond.selects RX0 yX0_takeIn yX0_takeIn, Cond.code yX0_takeIn cX0_takeIn 3 none, Cond.fieldLink RX0 11 "KeccakLanes" "lanes" "[[J", Cond.methodLink RX0 39 yX0_joinByte, Cond.static yX0_joinByte, Cond.code yX0_joinByte cX0_joinByte 3 none, Cond.constantLong RX0 60 (255), Cond.methodLink RX0 35 yX0_mixLanes, Cond.instanceMethod yX0_mixLanes, Cond.selects RX0 yX0_mixLanes yX0_mixLanes]
def wsL_fill_r2 : List Cond := [Cond.code yX0_mixLanes cX0_mixLanes 3 none, Cond.fieldLink RX0 71 "KeccakLanes" "CONSTANTS" "[J", Cond.methodLink RX0 62 yX0_sumColumns, Cond.instanceMethod yX0_sumColumns, Cond.selects RX0 yX0_sumColumns yX0_sumColumns, Cond.code yX0_sumColumns cX0_sumColumns 12 none, Cond.fieldLink RX0 18 "KeccakLanes" "columns" "[J", Cond.methodLink RX0 74 yX0_columnSum, Cond.static yX0_columnSum, Cond.code yX0_columnSum cX0_columnSum 2 (some .long), Cond.methodLink RX0 78 yX0_turnedLeft, Cond.static yX0_turnedLeft, Cond.code yX0_turnedLeft cX0_turnedLeft 3 (some .long), Cond.methodLink RX0 65 yX0_turnAndMove, Cond.instanceMethod yX0_turnAndMove, Cond.selects RX0 yX0_turnAndMove yX0_turnAndMove, Cond.code yX0_turnAndMove cX0_turnAndMove 5 none, Cond.fieldLink RX0 22 "KeccakLanes" "moved" "[J", Cond.fieldLink RX0 82 "KeccakLanes" "TARGETS" "[I", Cond.fieldLink RX0 85 "KeccakLanes" "TURNS" "[I", Cond.methodLink RX0 68 yX0_combineRows, Cond.instanceMethod yX0_combineRows, Cond.selects RX0 yX0_combineRows yX0_combineRows, Cond.code yX0_combineRows cX0_combineRows 13 none]
def wsL_fill_r3 : List Cond := [Cond.constantLong RX0 88 (-1)]
def wsL_fill : List Cond := .codeWith yL_fill cL_fill 7 (some .int) [(0, 14, 17, 13)] :: ((wsL_fill_r1 ++ (wsL_fill_r2 ++ wsL_fill_r3)) ++ wsX00 ++ (vx_atS RX0 51 "java/lang/IllegalArgumentException" ["java/lang/RuntimeException", "java/lang/Exception"]).filter goodWord)
def wsL_copy : List Cond := .codeWith yL_copy cL_copy 4 (some .int) [(0, 6, 9, 13)] :: ([.classLink RL 13 "java/lang/IllegalArgumentException", .methodLink RL 23 yX0_copy, .instanceMethod yX0_copy, .selects RX0 yX0_copy yX0_copy, .initialized RX0, .code yX0_copy cX0_copy 3 none, .methodLink RX0 25 yX0_requireUpTo, .static yX0_requireUpTo, .code yX0_requireUpTo cX0_requireUpTo 2 none, .classLink RX0 47 "java/lang/IllegalArgumentException", .initialized "java/lang/IllegalArgumentException", .methodLink RX0 32 yX0_copyState, .instanceMethod yX0_copyState, .selects RX0 yX0_copyState yX0_copyState, .code yX0_copyState cX0_copyState 3 none, .fieldLink RX0 11 "KeccakLanes" "lanes" "[[J", .methodLink RX0 54 arraycopyName, .native arraycopyName, .static arraycopyName, .initialized "java/lang/System", .fieldLink RX0 14 "KeccakLanes" "places" "[I"] ++ wsX00 ++ (vx_atS RX0 51 "java/lang/IllegalArgumentException" ["java/lang/RuntimeException", "java/lang/Exception"]).filter goodWord)
def wsL_mix_r1 : List Cond := [Cond.classLink RL 13 "java/lang/IllegalArgumentException", Cond.methodLink RL 27 yX0_mix, Cond.instanceMethod yX0_mix, Cond.selects RX0 yX0_mix yX0_mix, Cond.initialized RX0, Cond.code yX0_mix cX0_mix 2 none, Cond.fieldLink RX0 11 "KeccakLanes" "lanes" "[[J", Cond.methodLink RX0 25 yX0_requireUpTo, Cond.static yX0_requireUpTo, Cond.code yX0_requireUpTo cX0_requireUpTo 2 none, Cond.classLink RX0 47 "java/lang/IllegalArgumentException", Cond.initialized "java/lang/IllegalArgumentException", Cond.methodLink RX0 35 yX0_mixLanes, Cond.instanceMethod yX0_mixLanes, Cond.selects RX0 yX0_mixLanes yX0_mixLanes, Cond.code yX0_mixLanes cX0_mixLanes 3 none, Cond.fieldLink RX0 71 "KeccakLanes" "CONSTANTS" "[J", Cond.methodLink RX0 62 yX0_sumColumns, Cond.instanceMethod yX0_sumColumns, Cond.selects RX0 yX0_sumColumns yX0_sumColumns, Cond.code yX0_sumColumns cX0_sumColumns 12 none, Cond.fieldLink RX0 18 "KeccakLanes" "columns" "[J", Cond.methodLink RX0 74 yX0_columnSum, Cond.static yX0_columnSum]
def wsL_mix_r2 : List Cond := [Cond.code yX0_columnSum cX0_columnSum 2 (some .long), Cond.methodLink RX0 78 yX0_turnedLeft, Cond.static yX0_turnedLeft, Cond.code yX0_turnedLeft cX0_turnedLeft 3 (some .long), Cond.methodLink RX0 65 yX0_turnAndMove, Cond.instanceMethod yX0_turnAndMove, Cond.selects RX0 yX0_turnAndMove yX0_turnAndMove, Cond.code yX0_turnAndMove cX0_turnAndMove 5 none, Cond.fieldLink RX0 22 "KeccakLanes" "moved" "[J", Cond.fieldLink RX0 82 "KeccakLanes" "TARGETS" "[I", Cond.fieldLink RX0 85 "KeccakLanes" "TURNS" "[I", Cond.methodLink RX0 68 yX0_combineRows, Cond.instanceMethod yX0_combineRows, Cond.selects RX0 yX0_combineRows yX0_combineRows, Cond.code yX0_combineRows cX0_combineRows 13 none, Cond.constantLong RX0 88 (-1)]
def wsL_mix : List Cond := .codeWith yL_mix cL_mix 3 (some .int) [(0, 5, 8, 13)] :: ((wsL_mix_r1 ++ wsL_mix_r2) ++ wsX00 ++ (vx_atS RX0 51 "java/lang/IllegalArgumentException" ["java/lang/RuntimeException", "java/lang/Exception"]).filter goodWord)
def wsL_lane : List Cond := .codeWith yL_lane cL_lane 5 (some .int) [(0, 9, 12, 13)] :: ([.classLink RL 13 "java/lang/IllegalArgumentException", .methodLink RL 30 yX0_lane, .instanceMethod yX0_lane, .selects RX0 yX0_lane yX0_lane, .initialized RX0, .code yX0_lane cX0_lane 3 (some .long), .fieldLink RX0 11 "KeccakLanes" "lanes" "[[J", .methodLink RX0 25 yX0_requireUpTo, .static yX0_requireUpTo, .code yX0_requireUpTo cX0_requireUpTo 2 none, .classLink RX0 47 "java/lang/IllegalArgumentException", .initialized "java/lang/IllegalArgumentException"] ++ wsX00 ++ (vx_atS RX0 51 "java/lang/IllegalArgumentException" ["java/lang/RuntimeException", "java/lang/Exception"]).filter goodWord)
def wsL_digest_r1 : List Cond := [Cond.classLink RL 13 "java/lang/IllegalArgumentException", Cond.methodLink RL 34 yX0_digest, Cond.instanceMethod yX0_digest, Cond.selects RX0 yX0_digest yX0_digest, Cond.initialized RX0, Cond.code yX0_digest cX0_digest 4 (some .long), Cond.fieldLink RX0 11 "KeccakLanes" "lanes" "[[J", Cond.fieldLink RX0 14 "KeccakLanes" "places" "[I", Cond.methodLink RX0 25 yX0_requireUpTo, Cond.static yX0_requireUpTo, Cond.code yX0_requireUpTo cX0_requireUpTo 2 none, Cond.classLink RX0 47 "java/lang/IllegalArgumentException", Cond.initialized "java/lang/IllegalArgumentException", Cond.methodLink RX0 32 yX0_copyState, Cond.instanceMethod yX0_copyState, Cond.selects RX0 yX0_copyState yX0_copyState, Cond.code yX0_copyState cX0_copyState 3 none, Cond.methodLink RX0 54 arraycopyName, Cond.native arraycopyName, Cond.static arraycopyName, Cond.initialized "java/lang/System", Cond.methodLink RX0 39 yX0_joinByte, Cond.static yX0_joinByte, Cond.code yX0_joinByte cX0_joinByte 3 none]
def wsL_digest_r2 : List Cond := [Cond.constantLong RX0 60 (255), Cond.methodLink RX0 35 yX0_mixLanes, Cond.instanceMethod yX0_mixLanes, Cond.selects RX0 yX0_mixLanes yX0_mixLanes, Cond.code yX0_mixLanes cX0_mixLanes 3 none, Cond.fieldLink RX0 71 "KeccakLanes" "CONSTANTS" "[J", Cond.methodLink RX0 62 yX0_sumColumns, Cond.instanceMethod yX0_sumColumns, Cond.selects RX0 yX0_sumColumns yX0_sumColumns, Cond.code yX0_sumColumns cX0_sumColumns 12 none, Cond.fieldLink RX0 18 "KeccakLanes" "columns" "[J", Cond.methodLink RX0 74 yX0_columnSum, Cond.static yX0_columnSum, Cond.code yX0_columnSum cX0_columnSum 2 (some .long), Cond.methodLink RX0 78 yX0_turnedLeft, Cond.static yX0_turnedLeft, Cond.code yX0_turnedLeft cX0_turnedLeft 3 (some .long), Cond.methodLink RX0 65 yX0_turnAndMove, Cond.instanceMethod yX0_turnAndMove, Cond.selects RX0 yX0_turnAndMove yX0_turnAndMove, Cond.code yX0_turnAndMove cX0_turnAndMove 5 none, Cond.fieldLink RX0 22 "KeccakLanes" "moved" "[J", Cond.fieldLink RX0 82 "KeccakLanes" "TARGETS" "[I", Cond.fieldLink RX0 85 "KeccakLanes" "TURNS" "[I"]
def wsL_digest_r3 : List Cond := [Cond.methodLink RX0 68 yX0_combineRows, Cond.instanceMethod yX0_combineRows, Cond.selects RX0 yX0_combineRows yX0_combineRows, Cond.code yX0_combineRows cX0_combineRows 13 none, Cond.constantLong RX0 88 (-1), Cond.methodLink RX0 43 yX0_bytesTurnedRound, Cond.static yX0_bytesTurnedRound, Cond.code yX0_bytesTurnedRound cX0_bytesTurnedRound 5 (some .long)]
def wsL_digest : List Cond := .codeWith yL_digest cL_digest 5 (some .int) [(0, 9, 12, 13)] :: ((wsL_digest_r1 ++ (wsL_digest_r2 ++ wsL_digest_r3)) ++ wsX00 ++ (vx_atS RX0 51 "java/lang/IllegalArgumentException" ["java/lang/RuntimeException", "java/lang/Exception"]).filter goodWord)
def wsL_law0_r1 : List Cond := [Cond.classLink RL 8 RX0, Cond.instantiable RX0 4, Cond.initialized RX0, Cond.classLink RL 38 RX1, Cond.instantiable RX1 7, Cond.initialized RX1, Cond.arrayClass .long, Cond.methodLink RL 37 yX0_init, Cond.instanceMethod yX0_init, Cond.code yX0_init cX0_init 1 none, Cond.methodLink RX0 3 objectInit, Cond.instanceMethod objectInit, Cond.code objectInit ⟨#[0xb1]⟩ 1 none, Cond.classLink RX0 9 "[[J", Cond.fieldLink RX0 11 "KeccakLanes" "lanes" "[[J", Cond.arrayClass .int, Cond.fieldLink RX0 14 "KeccakLanes" "places" "[I", Cond.fieldLink RX0 18 "KeccakLanes" "columns" "[J", Cond.fieldLink RX0 22 "KeccakLanes" "moved" "[J", Cond.methodLink RL 40 yX1_init, Cond.instanceMethod yX1_init, Cond.code yX1_init cX1_init 2 none, Cond.methodLink RX1 24 objectInit, Cond.classLink RX1 30 "[[J"]
def wsL_law0_r2 : List Cond := [Cond.fieldLink RX1 32 "KeccakLanesModel" "states" "[[J", Cond.fieldLink RX1 35 "KeccakLanesModel" "places" "[I", Cond.fieldLink RX1 7 "KeccakLanesModel" "lanes" "[J", Cond.fieldLink RX1 1 "KeccakLanesModel" "column" "[J", Cond.fieldLink RX1 16 "KeccakLanesModel" "moved" "[J", Cond.fieldLink RX1 21 "KeccakLanesModel" "constants" "[J", Cond.methodLink RX1 39 yX1_constant, Cond.static yX1_constant, Cond.code yX1_constant cX1_constant 7 (some .long), Cond.methodLink RL 41 yL_clear, Cond.static yL_clear, Cond.initialized RL, Cond.codeWith yL_clear cL_clear 3 (some .int) [(0, 5, 8, 13)], Cond.classLink RL 13 "java/lang/IllegalArgumentException", Cond.methodLink RL 7 yX0_clear, Cond.instanceMethod yX0_clear, Cond.selects RX0 yX0_clear yX0_clear, Cond.code yX0_clear cX0_clear 4 none, Cond.methodLink RX0 25 yX0_requireUpTo, Cond.static yX0_requireUpTo, Cond.code yX0_requireUpTo cX0_requireUpTo 2 none, Cond.classLink RX0 47 "java/lang/IllegalArgumentException", Cond.initialized "java/lang/IllegalArgumentException", Cond.methodLink RL 46 yX1_clear]
def wsL_law0_r3 : List Cond := [Cond.instanceMethod yX1_clear, Cond.selects RX1 yX1_clear yX1_clear, Cond.code yX1_clear cX1_clear 3 none, Cond.fieldLink RX1 43 "KeccakLanesModel" "failed" "I", Cond.methodLink RL 47 yX1_thrown, Cond.instanceMethod yX1_thrown, Cond.selects RX1 yX1_thrown yX1_thrown, Cond.code yX1_thrown cX1_thrown 1 (some .int), Cond.methodLink RL 53 yL_take, Cond.static yL_take, Cond.codeWith yL_take cL_take 7 (some .int) [(0, 13, 16, 13)], Cond.methodLink RL 15 yX0_take, Cond.instanceMethod yX0_take, Cond.selects RX0 yX0_take yX0_take, Cond.code yX0_take cX0_take 6 (some .int), Cond.methodLink RX0 29 yX0_takeIn, Cond.instanceMethod yX0_takeIn, Cond.selects RX0 yX0_takeIn yX0_takeIn, Cond.code yX0_takeIn cX0_takeIn 3 none, Cond.methodLink RX0 39 yX0_joinByte, Cond.static yX0_joinByte, Cond.code yX0_joinByte cX0_joinByte 3 none, Cond.constantLong RX0 60 (255), Cond.methodLink RX0 35 yX0_mixLanes]
def wsL_law0_r4 : List Cond := [Cond.instanceMethod yX0_mixLanes, Cond.selects RX0 yX0_mixLanes yX0_mixLanes, Cond.code yX0_mixLanes cX0_mixLanes 3 none, Cond.fieldLink RX0 71 "KeccakLanes" "CONSTANTS" "[J", Cond.methodLink RX0 62 yX0_sumColumns, Cond.instanceMethod yX0_sumColumns, Cond.selects RX0 yX0_sumColumns yX0_sumColumns, Cond.code yX0_sumColumns cX0_sumColumns 12 none, Cond.methodLink RX0 74 yX0_columnSum, Cond.static yX0_columnSum, Cond.code yX0_columnSum cX0_columnSum 2 (some .long), Cond.methodLink RX0 78 yX0_turnedLeft, Cond.static yX0_turnedLeft, Cond.code yX0_turnedLeft cX0_turnedLeft 3 (some .long), Cond.methodLink RX0 65 yX0_turnAndMove, Cond.instanceMethod yX0_turnAndMove, Cond.selects RX0 yX0_turnAndMove yX0_turnAndMove, Cond.code yX0_turnAndMove cX0_turnAndMove 5 none, Cond.fieldLink RX0 82 "KeccakLanes" "TARGETS" "[I", Cond.fieldLink RX0 85 "KeccakLanes" "TURNS" "[I", Cond.methodLink RX0 68 yX0_combineRows, Cond.instanceMethod yX0_combineRows, Cond.selects RX0 yX0_combineRows yX0_combineRows, Cond.code yX0_combineRows cX0_combineRows 13 none]
def wsL_law0_r5 : List Cond := [Cond.constantLong RX0 88 (-1), Cond.methodLink RL 57 yL_fill, Cond.static yL_fill, Cond.codeWith yL_fill cL_fill 7 (some .int) [(0, 14, 17, 13)], Cond.methodLink RL 19 yX0_fill, Cond.instanceMethod yX0_fill, Cond.selects RX0 yX0_fill yX0_fill, Cond.code yX0_fill cX0_fill 6 (some .int), Cond.methodLink RL 61 yL_copy, Cond.static yL_copy, Cond.codeWith yL_copy cL_copy 4 (some .int) [(0, 6, 9, 13)], Cond.methodLink RL 23 yX0_copy, Cond.instanceMethod yX0_copy, Cond.selects RX0 yX0_copy yX0_copy, Cond.code yX0_copy cX0_copy 3 none, Cond.methodLink RX0 32 yX0_copyState, Cond.instanceMethod yX0_copyState, Cond.selects RX0 yX0_copyState yX0_copyState, Cond.code yX0_copyState cX0_copyState 3 none, Cond.methodLink RX0 54 arraycopyName, Cond.native arraycopyName, Cond.static arraycopyName, Cond.initialized "java/lang/System", Cond.methodLink RL 65 yL_mix]
def wsL_law0_r6 : List Cond := [Cond.static yL_mix, Cond.codeWith yL_mix cL_mix 3 (some .int) [(0, 5, 8, 13)], Cond.methodLink RL 27 yX0_mix, Cond.instanceMethod yX0_mix, Cond.selects RX0 yX0_mix yX0_mix, Cond.code yX0_mix cX0_mix 2 none, Cond.methodLink RL 68 yL_lane, Cond.static yL_lane, Cond.codeWith yL_lane cL_lane 5 (some .int) [(0, 9, 12, 13)], Cond.methodLink RL 30 yX0_lane, Cond.instanceMethod yX0_lane, Cond.selects RX0 yX0_lane yX0_lane, Cond.code yX0_lane cX0_lane 3 (some .long), Cond.methodLink RL 72 yL_digest, Cond.static yL_digest, Cond.codeWith yL_digest cL_digest 5 (some .int) [(0, 9, 12, 13)], Cond.methodLink RL 34 yX0_digest, Cond.instanceMethod yX0_digest, Cond.selects RX0 yX0_digest yX0_digest, Cond.code yX0_digest cX0_digest 4 (some .long), Cond.methodLink RX0 43 yX0_bytesTurnedRound, Cond.static yX0_bytesTurnedRound, Cond.code yX0_bytesTurnedRound cX0_bytesTurnedRound 5 (some .long)]
def wsL_law0 : List Cond := (wsL_law0_r1 ++ (wsL_law0_r2 ++ (wsL_law0_r3 ++ (wsL_law0_r4 ++ (wsL_law0_r5 ++ wsL_law0_r6))))) ++ wsX00 ++ wsX10 ++ ([] : List Cond)
def wsL_law : List Cond := wsL_law0 ++ (vx_atS RX0 51 "java/lang/IllegalArgumentException" ["java/lang/RuntimeException", "java/lang/Exception"]).filter goodWord
set_option maxRecDepth 20000 in
theorem wsL_law_in0 : ∀ w ∈ wsL_law0, w ∈ lw_tbl := fun w h => (goodIn_p wsL_law0 [26, 29, 217, 222, 54, 57, 252, 248, 130, 134, 137, 142, 146, 149, 152, 156, 164, 174, 181, 185, 195, 202, 209, 212] (by decide +kernel) (by decide +kernel) w h).1
theorem wsL_law_x0 : ∀ w ∈ (vx_atS RX0 51 "java/lang/IllegalArgumentException" ["java/lang/RuntimeException", "java/lang/Exception"]).filter goodWord, w ∈ lw_tbl := by decide +kernel
theorem wsL_law_in : ∀ w ∈ wsL_law, w ∈ lw_tbl := fun w h => (List.mem_append.mp h).elim (fun h => wsL_law_in0 w h) (fun h => wsL_law_x0 w h)
theorem inlX0 : ∀ w ∈ wsX00, w ∈ wsL_law := fun _ h => List.mem_append_left _ (List.mem_append_left _ (List.mem_append_left _ (List.mem_append_right _ h)))
theorem inX0 : ∀ w ∈ wsX00, w ∈ lw_tbl := fun w h => wsL_law_in w (inlX0 w h)
theorem inlX1 : ∀ w ∈ wsX10, w ∈ wsL_law := fun _ h => List.mem_append_left _ (List.mem_append_left _ (List.mem_append_right _ h))
theorem inX1 : ∀ w ∈ wsX10, w ∈ lw_tbl := fun w h => wsL_law_in w (inlX1 w h)
theorem inJ13 : ∀ w ∈ wsJ130, w ∈ lw_tbl := by decide +kernel
theorem inJ0 : ∀ w ∈ wsJ00, w ∈ lw_tbl := by decide +kernel
theorem inJ10 : ∀ w ∈ wsJ100, w ∈ lw_tbl := by decide +kernel
theorem dX0_init_0 : decode cX0_init 0 = .ok (.aload_n 0, 1) := by decide +kernel
theorem dX0_init_1 : decode cX0_init 1 = .ok (.invokespecial 3, 3) := by decide +kernel
theorem dX0_init_4 : decode cX0_init 4 = .ok (.aload_n 0, 1) := by decide +kernel
theorem dX0_init_5 : decode cX0_init 5 = .ok (.bipush 9, 2) := by decide +kernel
theorem dX0_init_7 : decode cX0_init 7 = .ok (.bipush 25, 2) := by decide +kernel
theorem dX0_init_9 : decode cX0_init 9 = .ok (.multianewarray 9 2, 4) := by decide +kernel
theorem dX0_init_13 : decode cX0_init 13 = .ok (.putfield 11, 3) := by decide +kernel
theorem dX0_init_16 : decode cX0_init 16 = .ok (.aload_n 0, 1) := by decide +kernel
theorem dX0_init_17 : decode cX0_init 17 = .ok (.bipush 9, 2) := by decide +kernel
theorem dX0_init_19 : decode cX0_init 19 = .ok (.newarray .int, 2) := by decide +kernel
theorem dX0_init_21 : decode cX0_init 21 = .ok (.putfield 14, 3) := by decide +kernel
theorem dX0_init_24 : decode cX0_init 24 = .ok (.aload_n 0, 1) := by decide +kernel
theorem dX0_init_25 : decode cX0_init 25 = .ok (.iconst 5, 1) := by decide +kernel
theorem dX0_init_26 : decode cX0_init 26 = .ok (.newarray .long, 2) := by decide +kernel
theorem dX0_init_28 : decode cX0_init 28 = .ok (.putfield 18, 3) := by decide +kernel
theorem dX0_init_31 : decode cX0_init 31 = .ok (.aload_n 0, 1) := by decide +kernel
theorem dX0_init_32 : decode cX0_init 32 = .ok (.bipush 25, 2) := by decide +kernel
theorem dX0_init_34 : decode cX0_init 34 = .ok (.newarray .long, 2) := by decide +kernel
theorem dX0_init_36 : decode cX0_init 36 = .ok (.putfield 22, 3) := by decide +kernel
theorem dX0_init_39 : decode cX0_init 39 = .ok (.return_, 1) := by decide +kernel
set_option maxRecDepth 20000 in
theorem ggX0_clear_X0_requireUpTo : GoodIn wsX0_clear wsX0_requireUpTo := goodIn_ca (goodIn_r _ [6, 7, 8] (by decide +kernel) (by decide +kernel)) (goodIn_sub (fun _ h => List.mem_cons_of_mem _ (List.mem_append_right _ h)) (by decide +kernel))
set_option maxRecDepth 20000 in
theorem gX0_clear_X0_requireUpTo : GoodIn wsX0_clear (va_wsS RX0 25 yX0_requireUpTo wsX0_requireUpTo) := goodIn_app (goodIn_of _ (by decide +kernel)) ggX0_clear_X0_requireUpTo
theorem dX0_clear_0 : decode cX0_clear 0 = .ok (.iload_n 1, 1) := by decide +kernel
theorem dX0_clear_1 : decode cX0_clear 1 = .ok (.bipush 7, 2) := by decide +kernel
theorem dX0_clear_3 : decode cX0_clear 3 = .ok (.invokestatic 25, 3) := by decide +kernel
theorem dX0_clear_6 : decode cX0_clear 6 = .ok (.aload_n 0, 1) := by decide +kernel
theorem dX0_clear_7 : decode cX0_clear 7 = .ok (.getfield 11, 3) := by decide +kernel
theorem dX0_clear_10 : decode cX0_clear 10 = .ok (.iload_n 1, 1) := by decide +kernel
theorem dX0_clear_11 : decode cX0_clear 11 = .ok (.aaload, 1) := by decide +kernel
theorem dX0_clear_12 : decode cX0_clear 12 = .ok (.astore_n 2, 1) := by decide +kernel
theorem dX0_clear_13 : decode cX0_clear 13 = .ok (.iconst 0, 1) := by decide +kernel
theorem dX0_clear_14 : decode cX0_clear 14 = .ok (.istore_n 3, 1) := by decide +kernel
theorem dX0_clear_15 : decode cX0_clear 15 = .ok (.iload_n 3, 1) := by decide +kernel
theorem dX0_clear_16 : decode cX0_clear 16 = .ok (.bipush 25, 2) := by decide +kernel
theorem dX0_clear_18 : decode cX0_clear 18 = .ok (.if_icmp .ge 13, 3) := by decide +kernel
theorem dX0_clear_21 : decode cX0_clear 21 = .ok (.aload_n 2, 1) := by decide +kernel
theorem dX0_clear_22 : decode cX0_clear 22 = .ok (.iload_n 3, 1) := by decide +kernel
theorem dX0_clear_23 : decode cX0_clear 23 = .ok (.lconst 0, 1) := by decide +kernel
theorem dX0_clear_24 : decode cX0_clear 24 = .ok (.lastore, 1) := by decide +kernel
theorem dX0_clear_25 : decode cX0_clear 25 = .ok (.iinc 3 1, 3) := by decide +kernel
theorem dX0_clear_28 : decode cX0_clear 28 = .ok (.goto (-13), 3) := by decide +kernel
theorem dX0_clear_31 : decode cX0_clear 31 = .ok (.aload_n 0, 1) := by decide +kernel
theorem dX0_clear_32 : decode cX0_clear 32 = .ok (.getfield 14, 3) := by decide +kernel
theorem dX0_clear_35 : decode cX0_clear 35 = .ok (.iload_n 1, 1) := by decide +kernel
theorem dX0_clear_36 : decode cX0_clear 36 = .ok (.iconst 0, 1) := by decide +kernel
theorem dX0_clear_37 : decode cX0_clear 37 = .ok (.iastore, 1) := by decide +kernel
theorem dX0_clear_38 : decode cX0_clear 38 = .ok (.return_, 1) := by decide +kernel
set_option maxRecDepth 20000 in
theorem ggX0_take_X0_requireUpTo : GoodIn wsX0_take wsX0_requireUpTo := goodIn_ca (goodIn_r _ [5, 6, 7] (by decide +kernel) (by decide +kernel)) (goodIn_sub (fun _ h => List.mem_cons_of_mem _ (List.mem_append_right _ h)) (by decide +kernel))
set_option maxRecDepth 20000 in
theorem gX0_take_X0_requireUpTo : GoodIn wsX0_take (va_wsS RX0 25 yX0_requireUpTo wsX0_requireUpTo) := goodIn_app (goodIn_of _ (by decide +kernel)) ggX0_take_X0_requireUpTo
set_option maxRecDepth 20000 in
theorem ggX0_take_X0_takeIn : GoodIn wsX0_take wsX0_takeIn := goodIn_r _ [11, 12, 1, 13, 14, 4, 15, 16, 17, 18, 19, 20, 21, 22, 23, 24, 25, 26, 27, 28, 29, 30, 31, 32, 33, 34, 35, 36, 37, 38, 39, 40, 41, 42, 43, 44, 45, 46, 47, 48] (by decide +kernel) (by decide +kernel)
set_option maxRecDepth 20000 in
theorem gX0_take_X0_takeIn : GoodIn wsX0_take (wsV RX0 29 RX0 yX0_takeIn wsX0_takeIn) := goodIn_app (goodIn_of _ (by decide +kernel)) ggX0_take_X0_takeIn
theorem dX0_take_0 : decode cX0_take 0 = .ok (.iload_n 1, 1) := by decide +kernel
theorem dX0_take_1 : decode cX0_take 1 = .ok (.bipush 7, 2) := by decide +kernel
theorem dX0_take_3 : decode cX0_take 3 = .ok (.invokestatic 25, 3) := by decide +kernel
theorem dX0_take_6 : decode cX0_take 6 = .ok (.iload 4, 2) := by decide +kernel
theorem dX0_take_8 : decode cX0_take 8 = .ok (.bipush 8, 2) := by decide +kernel
theorem dX0_take_10 : decode cX0_take 10 = .ok (.invokestatic 25, 3) := by decide +kernel
theorem dX0_take_13 : decode cX0_take 13 = .ok (.iconst 0, 1) := by decide +kernel
theorem dX0_take_14 : decode cX0_take 14 = .ok (.istore 5, 2) := by decide +kernel
theorem dX0_take_16 : decode cX0_take 16 = .ok (.iload 5, 2) := by decide +kernel
theorem dX0_take_18 : decode cX0_take 18 = .ok (.iload 4, 2) := by decide +kernel
theorem dX0_take_20 : decode cX0_take 20 = .ok (.if_icmp .ge 22, 3) := by decide +kernel
theorem dX0_take_23 : decode cX0_take 23 = .ok (.aload_n 0, 1) := by decide +kernel
theorem dX0_take_24 : decode cX0_take 24 = .ok (.iload_n 1, 1) := by decide +kernel
theorem dX0_take_25 : decode cX0_take 25 = .ok (.lload_n 2, 1) := by decide +kernel
theorem dX0_take_26 : decode cX0_take 26 = .ok (.bipush 8, 2) := by decide +kernel
theorem dX0_take_28 : decode cX0_take 28 = .ok (.iload 5, 2) := by decide +kernel
theorem dX0_take_30 : decode cX0_take 30 = .ok (.imul, 1) := by decide +kernel
theorem dX0_take_31 : decode cX0_take 31 = .ok (.lushr, 1) := by decide +kernel
theorem dX0_take_32 : decode cX0_take 32 = .ok (.l2i, 1) := by decide +kernel
theorem dX0_take_33 : decode cX0_take 33 = .ok (.invokevirtual 29, 3) := by decide +kernel
theorem dX0_take_36 : decode cX0_take 36 = .ok (.iinc 5 1, 3) := by decide +kernel
theorem dX0_take_39 : decode cX0_take 39 = .ok (.goto (-23), 3) := by decide +kernel
theorem dX0_take_42 : decode cX0_take 42 = .ok (.aload_n 0, 1) := by decide +kernel
theorem dX0_take_43 : decode cX0_take 43 = .ok (.getfield 14, 3) := by decide +kernel
theorem dX0_take_46 : decode cX0_take 46 = .ok (.iload_n 1, 1) := by decide +kernel
theorem dX0_take_47 : decode cX0_take 47 = .ok (.iaload, 1) := by decide +kernel
theorem dX0_take_48 : decode cX0_take 48 = .ok (.ireturn, 1) := by decide +kernel
set_option maxRecDepth 20000 in
theorem ggX0_fill_X0_requireUpTo : GoodIn wsX0_fill wsX0_requireUpTo := goodIn_ca (goodIn_r _ [5, 6, 7] (by decide +kernel) (by decide +kernel)) (goodIn_sub (fun _ h => List.mem_cons_of_mem _ (List.mem_append_right _ h)) (by decide +kernel))
set_option maxRecDepth 20000 in
theorem gX0_fill_X0_requireUpTo : GoodIn wsX0_fill (va_wsS RX0 25 yX0_requireUpTo wsX0_requireUpTo) := goodIn_app (goodIn_of _ (by decide +kernel)) ggX0_fill_X0_requireUpTo
set_option maxRecDepth 20000 in
theorem ggX0_fill_X0_takeIn : GoodIn wsX0_fill wsX0_takeIn := goodIn_r _ [11, 12, 1, 13, 14, 4, 15, 16, 17, 18, 19, 20, 21, 22, 23, 24, 25, 26, 27, 28, 29, 30, 31, 32, 33, 34, 35, 36, 37, 38, 39, 40, 41, 42, 43, 44, 45, 46, 47, 48] (by decide +kernel) (by decide +kernel)
set_option maxRecDepth 20000 in
theorem gX0_fill_X0_takeIn : GoodIn wsX0_fill (wsV RX0 29 RX0 yX0_takeIn wsX0_takeIn) := goodIn_app (goodIn_of _ (by decide +kernel)) ggX0_fill_X0_takeIn
theorem dX0_fill_0 : decode cX0_fill 0 = .ok (.iload_n 1, 1) := by decide +kernel
theorem dX0_fill_1 : decode cX0_fill 1 = .ok (.bipush 7, 2) := by decide +kernel
theorem dX0_fill_3 : decode cX0_fill 3 = .ok (.invokestatic 25, 3) := by decide +kernel
theorem dX0_fill_6 : decode cX0_fill 6 = .ok (.iload 4, 2) := by decide +kernel
theorem dX0_fill_8 : decode cX0_fill 8 = .ok (.sipush 2000, 3) := by decide +kernel
theorem dX0_fill_11 : decode cX0_fill 11 = .ok (.invokestatic 25, 3) := by decide +kernel
theorem dX0_fill_14 : decode cX0_fill 14 = .ok (.iconst 0, 1) := by decide +kernel
theorem dX0_fill_15 : decode cX0_fill 15 = .ok (.istore 5, 2) := by decide +kernel
theorem dX0_fill_17 : decode cX0_fill 17 = .ok (.iload 5, 2) := by decide +kernel
theorem dX0_fill_19 : decode cX0_fill 19 = .ok (.iload 4, 2) := by decide +kernel
theorem dX0_fill_21 : decode cX0_fill 21 = .ok (.if_icmp .ge 20, 3) := by decide +kernel
theorem dX0_fill_24 : decode cX0_fill 24 = .ok (.aload_n 0, 1) := by decide +kernel
theorem dX0_fill_25 : decode cX0_fill 25 = .ok (.iload_n 1, 1) := by decide +kernel
theorem dX0_fill_26 : decode cX0_fill 26 = .ok (.iload_n 2, 1) := by decide +kernel
theorem dX0_fill_27 : decode cX0_fill 27 = .ok (.iload 5, 2) := by decide +kernel
theorem dX0_fill_29 : decode cX0_fill 29 = .ok (.iload_n 3, 1) := by decide +kernel
theorem dX0_fill_30 : decode cX0_fill 30 = .ok (.imul, 1) := by decide +kernel
theorem dX0_fill_31 : decode cX0_fill 31 = .ok (.iadd, 1) := by decide +kernel
theorem dX0_fill_32 : decode cX0_fill 32 = .ok (.invokevirtual 29, 3) := by decide +kernel
theorem dX0_fill_35 : decode cX0_fill 35 = .ok (.iinc 5 1, 3) := by decide +kernel
theorem dX0_fill_38 : decode cX0_fill 38 = .ok (.goto (-21), 3) := by decide +kernel
theorem dX0_fill_41 : decode cX0_fill 41 = .ok (.aload_n 0, 1) := by decide +kernel
theorem dX0_fill_42 : decode cX0_fill 42 = .ok (.getfield 14, 3) := by decide +kernel
theorem dX0_fill_45 : decode cX0_fill 45 = .ok (.iload_n 1, 1) := by decide +kernel
theorem dX0_fill_46 : decode cX0_fill 46 = .ok (.iaload, 1) := by decide +kernel
theorem dX0_fill_47 : decode cX0_fill 47 = .ok (.ireturn, 1) := by decide +kernel
set_option maxRecDepth 20000 in
theorem ggX0_copy_X0_requireUpTo : GoodIn wsX0_copy wsX0_requireUpTo := goodIn_ca (goodIn_r _ [4, 5, 6] (by decide +kernel) (by decide +kernel)) (goodIn_sub (fun _ h => List.mem_cons_of_mem _ (List.mem_append_right _ h)) (by decide +kernel))
set_option maxRecDepth 20000 in
theorem gX0_copy_X0_requireUpTo : GoodIn wsX0_copy (va_wsS RX0 25 yX0_requireUpTo wsX0_requireUpTo) := goodIn_app (goodIn_of _ (by decide +kernel)) ggX0_copy_X0_requireUpTo
set_option maxRecDepth 20000 in
theorem ggX0_copy_X0_copyState : GoodIn wsX0_copy wsX0_copyState := goodIn_r _ [10, 11, 12, 13, 14, 15, 16, 17, 18, 19, 20] (by decide +kernel) (by decide +kernel)
set_option maxRecDepth 20000 in
theorem gX0_copy_X0_copyState : GoodIn wsX0_copy (wsV RX0 32 RX0 yX0_copyState wsX0_copyState) := goodIn_app (goodIn_of _ (by decide +kernel)) ggX0_copy_X0_copyState
theorem dX0_copy_0 : decode cX0_copy 0 = .ok (.iload_n 1, 1) := by decide +kernel
theorem dX0_copy_1 : decode cX0_copy 1 = .ok (.bipush 7, 2) := by decide +kernel
theorem dX0_copy_3 : decode cX0_copy 3 = .ok (.invokestatic 25, 3) := by decide +kernel
theorem dX0_copy_6 : decode cX0_copy 6 = .ok (.iload_n 2, 1) := by decide +kernel
theorem dX0_copy_7 : decode cX0_copy 7 = .ok (.bipush 7, 2) := by decide +kernel
theorem dX0_copy_9 : decode cX0_copy 9 = .ok (.invokestatic 25, 3) := by decide +kernel
theorem dX0_copy_12 : decode cX0_copy 12 = .ok (.aload_n 0, 1) := by decide +kernel
theorem dX0_copy_13 : decode cX0_copy 13 = .ok (.iload_n 1, 1) := by decide +kernel
theorem dX0_copy_14 : decode cX0_copy 14 = .ok (.iload_n 2, 1) := by decide +kernel
theorem dX0_copy_15 : decode cX0_copy 15 = .ok (.invokevirtual 32, 3) := by decide +kernel
theorem dX0_copy_18 : decode cX0_copy 18 = .ok (.return_, 1) := by decide +kernel
set_option maxRecDepth 20000 in
theorem ggX0_mix_X0_requireUpTo : GoodIn wsX0_mix wsX0_requireUpTo := goodIn_ca (goodIn_r _ [5, 6, 7] (by decide +kernel) (by decide +kernel)) (goodIn_sub (fun _ h => List.mem_cons_of_mem _ (List.mem_append_right _ h)) (by decide +kernel))
set_option maxRecDepth 20000 in
theorem gX0_mix_X0_requireUpTo : GoodIn wsX0_mix (va_wsS RX0 25 yX0_requireUpTo wsX0_requireUpTo) := goodIn_app (goodIn_of _ (by decide +kernel)) ggX0_mix_X0_requireUpTo
set_option maxRecDepth 20000 in
theorem ggX0_mix_X0_mixLanes : GoodIn wsX0_mix wsX0_mixLanes := goodIn_r _ [11, 12, 13, 14, 15, 4, 16, 17, 18, 19, 20, 21, 22, 23, 24, 25, 26, 27, 28, 29, 30, 31, 32, 33, 34, 35, 36, 37, 38, 39] (by decide +kernel) (by decide +kernel)
set_option maxRecDepth 20000 in
theorem gX0_mix_X0_mixLanes : GoodIn wsX0_mix (wsV RX0 35 RX0 yX0_mixLanes wsX0_mixLanes) := goodIn_app (goodIn_of _ (by decide +kernel)) ggX0_mix_X0_mixLanes
theorem dX0_mix_0 : decode cX0_mix 0 = .ok (.iload_n 1, 1) := by decide +kernel
theorem dX0_mix_1 : decode cX0_mix 1 = .ok (.bipush 7, 2) := by decide +kernel
theorem dX0_mix_3 : decode cX0_mix 3 = .ok (.invokestatic 25, 3) := by decide +kernel
theorem dX0_mix_6 : decode cX0_mix 6 = .ok (.aload_n 0, 1) := by decide +kernel
theorem dX0_mix_7 : decode cX0_mix 7 = .ok (.aload_n 0, 1) := by decide +kernel
theorem dX0_mix_8 : decode cX0_mix 8 = .ok (.getfield 11, 3) := by decide +kernel
theorem dX0_mix_11 : decode cX0_mix 11 = .ok (.iload_n 1, 1) := by decide +kernel
theorem dX0_mix_12 : decode cX0_mix 12 = .ok (.aaload, 1) := by decide +kernel
theorem dX0_mix_13 : decode cX0_mix 13 = .ok (.invokevirtual 35, 3) := by decide +kernel
theorem dX0_mix_16 : decode cX0_mix 16 = .ok (.return_, 1) := by decide +kernel
set_option maxRecDepth 20000 in
theorem ggX0_lane_X0_requireUpTo : GoodIn wsX0_lane wsX0_requireUpTo := goodIn_ca (goodIn_r _ [5, 6, 7] (by decide +kernel) (by decide +kernel)) (goodIn_sub (fun _ h => List.mem_cons_of_mem _ (List.mem_append_right _ h)) (by decide +kernel))
set_option maxRecDepth 20000 in
theorem gX0_lane_X0_requireUpTo : GoodIn wsX0_lane (va_wsS RX0 25 yX0_requireUpTo wsX0_requireUpTo) := goodIn_app (goodIn_of _ (by decide +kernel)) ggX0_lane_X0_requireUpTo
theorem dX0_lane_0 : decode cX0_lane 0 = .ok (.iload_n 1, 1) := by decide +kernel
theorem dX0_lane_1 : decode cX0_lane 1 = .ok (.bipush 7, 2) := by decide +kernel
theorem dX0_lane_3 : decode cX0_lane 3 = .ok (.invokestatic 25, 3) := by decide +kernel
theorem dX0_lane_6 : decode cX0_lane 6 = .ok (.iload_n 2, 1) := by decide +kernel
theorem dX0_lane_7 : decode cX0_lane 7 = .ok (.bipush 24, 2) := by decide +kernel
theorem dX0_lane_9 : decode cX0_lane 9 = .ok (.invokestatic 25, 3) := by decide +kernel
theorem dX0_lane_12 : decode cX0_lane 12 = .ok (.aload_n 0, 1) := by decide +kernel
theorem dX0_lane_13 : decode cX0_lane 13 = .ok (.getfield 11, 3) := by decide +kernel
theorem dX0_lane_16 : decode cX0_lane 16 = .ok (.iload_n 1, 1) := by decide +kernel
theorem dX0_lane_17 : decode cX0_lane 17 = .ok (.aaload, 1) := by decide +kernel
theorem dX0_lane_18 : decode cX0_lane 18 = .ok (.iload_n 2, 1) := by decide +kernel
theorem dX0_lane_19 : decode cX0_lane 19 = .ok (.laload, 1) := by decide +kernel
theorem dX0_lane_20 : decode cX0_lane 20 = .ok (.lreturn, 1) := by decide +kernel
set_option maxRecDepth 20000 in
theorem ggX0_digest_X0_requireUpTo : GoodIn wsX0_digest wsX0_requireUpTo := goodIn_ca (goodIn_r _ [6, 7, 8] (by decide +kernel) (by decide +kernel)) (goodIn_sub (fun _ h => List.mem_cons_of_mem _ (List.mem_append_right _ h)) (by decide +kernel))
set_option maxRecDepth 20000 in
theorem gX0_digest_X0_requireUpTo : GoodIn wsX0_digest (va_wsS RX0 25 yX0_requireUpTo wsX0_requireUpTo) := goodIn_app (goodIn_of _ (by decide +kernel)) ggX0_digest_X0_requireUpTo
set_option maxRecDepth 20000 in
theorem ggX0_digest_X0_copyState : GoodIn wsX0_digest wsX0_copyState := goodIn_r _ [12, 1, 13, 14, 15, 16, 2, 52, 53, 54, 55] (by decide +kernel) (by decide +kernel)
set_option maxRecDepth 20000 in
theorem gX0_digest_X0_copyState : GoodIn wsX0_digest (wsV RX0 32 RX0 yX0_copyState wsX0_copyState) := goodIn_app (goodIn_of _ (by decide +kernel)) ggX0_digest_X0_copyState
set_option maxRecDepth 20000 in
theorem ggX0_digest_X0_joinByte : GoodIn wsX0_digest wsX0_joinByte := goodIn_r _ [19, 20] (by decide +kernel) (by decide +kernel)
set_option maxRecDepth 20000 in
theorem gX0_digest_X0_joinByte : GoodIn wsX0_digest (va_wsS RX0 39 yX0_joinByte wsX0_joinByte) := goodIn_app (goodIn_of _ (by decide +kernel)) ggX0_digest_X0_joinByte
set_option maxRecDepth 20000 in
theorem ggX0_digest_X0_mixLanes : GoodIn wsX0_digest wsX0_mixLanes := goodIn_r _ [24, 25, 26, 27, 28, 5, 29, 30, 31, 32, 33, 34, 35, 36, 37, 38, 39, 40, 41, 42, 43, 44, 45, 46, 47, 48, 52, 53, 54, 55] (by decide +kernel) (by decide +kernel)
set_option maxRecDepth 20000 in
theorem gX0_digest_X0_mixLanes : GoodIn wsX0_digest (wsV RX0 35 RX0 yX0_mixLanes wsX0_mixLanes) := goodIn_app (goodIn_of _ (by decide +kernel)) ggX0_digest_X0_mixLanes
set_option maxRecDepth 20000 in
theorem ggX0_digest_X0_bytesTurnedRound : GoodIn wsX0_digest wsX0_bytesTurnedRound := goodIn_r _ [51, 20] (by decide +kernel) (by decide +kernel)
set_option maxRecDepth 20000 in
theorem gX0_digest_X0_bytesTurnedRound : GoodIn wsX0_digest (va_wsS RX0 43 yX0_bytesTurnedRound wsX0_bytesTurnedRound) := goodIn_app (goodIn_of _ (by decide +kernel)) ggX0_digest_X0_bytesTurnedRound
theorem dX0_digest_0 : decode cX0_digest 0 = .ok (.iload_n 1, 1) := by decide +kernel
theorem dX0_digest_1 : decode cX0_digest 1 = .ok (.bipush 7, 2) := by decide +kernel
theorem dX0_digest_3 : decode cX0_digest 3 = .ok (.invokestatic 25, 3) := by decide +kernel
theorem dX0_digest_6 : decode cX0_digest 6 = .ok (.iload_n 2, 1) := by decide +kernel
theorem dX0_digest_7 : decode cX0_digest 7 = .ok (.iconst 3, 1) := by decide +kernel
theorem dX0_digest_8 : decode cX0_digest 8 = .ok (.invokestatic 25, 3) := by decide +kernel
theorem dX0_digest_11 : decode cX0_digest 11 = .ok (.aload_n 0, 1) := by decide +kernel
theorem dX0_digest_12 : decode cX0_digest 12 = .ok (.iload_n 1, 1) := by decide +kernel
theorem dX0_digest_13 : decode cX0_digest 13 = .ok (.bipush 8, 2) := by decide +kernel
theorem dX0_digest_15 : decode cX0_digest 15 = .ok (.invokevirtual 32, 3) := by decide +kernel
theorem dX0_digest_18 : decode cX0_digest 18 = .ok (.aload_n 0, 1) := by decide +kernel
theorem dX0_digest_19 : decode cX0_digest 19 = .ok (.getfield 11, 3) := by decide +kernel
theorem dX0_digest_22 : decode cX0_digest 22 = .ok (.bipush 8, 2) := by decide +kernel
theorem dX0_digest_24 : decode cX0_digest 24 = .ok (.aaload, 1) := by decide +kernel
theorem dX0_digest_25 : decode cX0_digest 25 = .ok (.astore_n 3, 1) := by decide +kernel
theorem dX0_digest_26 : decode cX0_digest 26 = .ok (.aload_n 3, 1) := by decide +kernel
theorem dX0_digest_27 : decode cX0_digest 27 = .ok (.aload_n 0, 1) := by decide +kernel
theorem dX0_digest_28 : decode cX0_digest 28 = .ok (.getfield 14, 3) := by decide +kernel
theorem dX0_digest_31 : decode cX0_digest 31 = .ok (.bipush 8, 2) := by decide +kernel
theorem dX0_digest_33 : decode cX0_digest 33 = .ok (.iaload, 1) := by decide +kernel
theorem dX0_digest_34 : decode cX0_digest 34 = .ok (.iconst 1, 1) := by decide +kernel
theorem dX0_digest_35 : decode cX0_digest 35 = .ok (.invokestatic 39, 3) := by decide +kernel
theorem dX0_digest_38 : decode cX0_digest 38 = .ok (.aload_n 3, 1) := by decide +kernel
theorem dX0_digest_39 : decode cX0_digest 39 = .ok (.sipush 135, 3) := by decide +kernel
theorem dX0_digest_42 : decode cX0_digest 42 = .ok (.sipush 128, 3) := by decide +kernel
theorem dX0_digest_45 : decode cX0_digest 45 = .ok (.invokestatic 39, 3) := by decide +kernel
theorem dX0_digest_48 : decode cX0_digest 48 = .ok (.aload_n 0, 1) := by decide +kernel
theorem dX0_digest_49 : decode cX0_digest 49 = .ok (.aload_n 3, 1) := by decide +kernel
theorem dX0_digest_50 : decode cX0_digest 50 = .ok (.invokevirtual 35, 3) := by decide +kernel
theorem dX0_digest_53 : decode cX0_digest 53 = .ok (.aload_n 3, 1) := by decide +kernel
theorem dX0_digest_54 : decode cX0_digest 54 = .ok (.iload_n 2, 1) := by decide +kernel
theorem dX0_digest_55 : decode cX0_digest 55 = .ok (.laload, 1) := by decide +kernel
theorem dX0_digest_56 : decode cX0_digest 56 = .ok (.invokestatic 43, 3) := by decide +kernel
theorem dX0_digest_59 : decode cX0_digest 59 = .ok (.lreturn, 1) := by decide +kernel
theorem dX0_requireUpTo_0 : decode cX0_requireUpTo 0 = .ok (.iload_n 0, 1) := by decide +kernel
theorem dX0_requireUpTo_1 : decode cX0_requireUpTo 1 = .ok (.ifCond .lt 8, 3) := by decide +kernel
theorem dX0_requireUpTo_4 : decode cX0_requireUpTo 4 = .ok (.iload_n 0, 1) := by decide +kernel
theorem dX0_requireUpTo_5 : decode cX0_requireUpTo 5 = .ok (.iload_n 1, 1) := by decide +kernel
theorem dX0_requireUpTo_6 : decode cX0_requireUpTo 6 = .ok (.if_icmp .le 13, 3) := by decide +kernel
theorem dX0_requireUpTo_9 : decode cX0_requireUpTo 9 = .ok (.new 47, 3) := by decide +kernel
theorem dX0_requireUpTo_12 : decode cX0_requireUpTo 12 = .ok (.dup, 1) := by decide +kernel
theorem dX0_requireUpTo_13 : decode cX0_requireUpTo 13 = .ok (.ldc 49, 2) := by decide +kernel
theorem dX0_requireUpTo_15 : decode cX0_requireUpTo 15 = .ok (.invokespecial 51, 3) := by decide +kernel
theorem dX0_requireUpTo_18 : decode cX0_requireUpTo 18 = .ok (.athrow, 1) := by decide +kernel
theorem dX0_requireUpTo_19 : decode cX0_requireUpTo 19 = .ok (.return_, 1) := by decide +kernel
theorem dX0_copyState_0 : decode cX0_copyState 0 = .ok (.aload_n 0, 1) := by decide +kernel
theorem dX0_copyState_1 : decode cX0_copyState 1 = .ok (.getfield 11, 3) := by decide +kernel
theorem dX0_copyState_4 : decode cX0_copyState 4 = .ok (.iload_n 1, 1) := by decide +kernel
theorem dX0_copyState_5 : decode cX0_copyState 5 = .ok (.aaload, 1) := by decide +kernel
theorem dX0_copyState_6 : decode cX0_copyState 6 = .ok (.iconst 0, 1) := by decide +kernel
theorem dX0_copyState_7 : decode cX0_copyState 7 = .ok (.aload_n 0, 1) := by decide +kernel
theorem dX0_copyState_8 : decode cX0_copyState 8 = .ok (.getfield 11, 3) := by decide +kernel
theorem dX0_copyState_11 : decode cX0_copyState 11 = .ok (.iload_n 2, 1) := by decide +kernel
theorem dX0_copyState_12 : decode cX0_copyState 12 = .ok (.aaload, 1) := by decide +kernel
theorem dX0_copyState_13 : decode cX0_copyState 13 = .ok (.iconst 0, 1) := by decide +kernel
theorem dX0_copyState_14 : decode cX0_copyState 14 = .ok (.bipush 25, 2) := by decide +kernel
theorem dX0_copyState_16 : decode cX0_copyState 16 = .ok (.invokestatic 54, 3) := by decide +kernel
theorem dX0_copyState_19 : decode cX0_copyState 19 = .ok (.aload_n 0, 1) := by decide +kernel
theorem dX0_copyState_20 : decode cX0_copyState 20 = .ok (.getfield 14, 3) := by decide +kernel
theorem dX0_copyState_23 : decode cX0_copyState 23 = .ok (.iload_n 2, 1) := by decide +kernel
theorem dX0_copyState_24 : decode cX0_copyState 24 = .ok (.aload_n 0, 1) := by decide +kernel
theorem dX0_copyState_25 : decode cX0_copyState 25 = .ok (.getfield 14, 3) := by decide +kernel
theorem dX0_copyState_28 : decode cX0_copyState 28 = .ok (.iload_n 1, 1) := by decide +kernel
theorem dX0_copyState_29 : decode cX0_copyState 29 = .ok (.iaload, 1) := by decide +kernel
theorem dX0_copyState_30 : decode cX0_copyState 30 = .ok (.iastore, 1) := by decide +kernel
theorem dX0_copyState_31 : decode cX0_copyState 31 = .ok (.return_, 1) := by decide +kernel
set_option maxRecDepth 20000 in
theorem ggX0_takeIn_X0_joinByte : GoodIn wsX0_takeIn wsX0_joinByte := goodIn_r _ [6, 7] (by decide +kernel) (by decide +kernel)
set_option maxRecDepth 20000 in
theorem gX0_takeIn_X0_joinByte : GoodIn wsX0_takeIn (va_wsS RX0 39 yX0_joinByte wsX0_joinByte) := goodIn_app (goodIn_of _ (by decide +kernel)) ggX0_takeIn_X0_joinByte
set_option maxRecDepth 20000 in
theorem ggX0_takeIn_X0_mixLanes : GoodIn wsX0_takeIn wsX0_mixLanes := goodIn_r _ [11, 12, 13, 14, 15, 5, 16, 17, 18, 19, 20, 21, 22, 23, 24, 25, 26, 27, 28, 29, 30, 31, 32, 33, 34, 35, 36, 37, 38, 39] (by decide +kernel) (by decide +kernel)
set_option maxRecDepth 20000 in
theorem gX0_takeIn_X0_mixLanes : GoodIn wsX0_takeIn (wsV RX0 35 RX0 yX0_mixLanes wsX0_mixLanes) := goodIn_app (goodIn_of _ (by decide +kernel)) ggX0_takeIn_X0_mixLanes
theorem dX0_takeIn_0 : decode cX0_takeIn 0 = .ok (.aload_n 0, 1) := by decide +kernel
theorem dX0_takeIn_1 : decode cX0_takeIn 1 = .ok (.getfield 11, 3) := by decide +kernel
theorem dX0_takeIn_4 : decode cX0_takeIn 4 = .ok (.iload_n 1, 1) := by decide +kernel
theorem dX0_takeIn_5 : decode cX0_takeIn 5 = .ok (.aaload, 1) := by decide +kernel
theorem dX0_takeIn_6 : decode cX0_takeIn 6 = .ok (.aload_n 0, 1) := by decide +kernel
theorem dX0_takeIn_7 : decode cX0_takeIn 7 = .ok (.getfield 14, 3) := by decide +kernel
theorem dX0_takeIn_10 : decode cX0_takeIn 10 = .ok (.iload_n 1, 1) := by decide +kernel
theorem dX0_takeIn_11 : decode cX0_takeIn 11 = .ok (.iaload, 1) := by decide +kernel
theorem dX0_takeIn_12 : decode cX0_takeIn 12 = .ok (.iload_n 2, 1) := by decide +kernel
theorem dX0_takeIn_13 : decode cX0_takeIn 13 = .ok (.invokestatic 39, 3) := by decide +kernel
theorem dX0_takeIn_16 : decode cX0_takeIn 16 = .ok (.aload_n 0, 1) := by decide +kernel
theorem dX0_takeIn_17 : decode cX0_takeIn 17 = .ok (.getfield 14, 3) := by decide +kernel
theorem dX0_takeIn_20 : decode cX0_takeIn 20 = .ok (.iload_n 1, 1) := by decide +kernel
theorem dX0_takeIn_21 : decode cX0_takeIn 21 = .ok (.dup2, 1) := by decide +kernel
theorem dX0_takeIn_22 : decode cX0_takeIn 22 = .ok (.iaload, 1) := by decide +kernel
theorem dX0_takeIn_23 : decode cX0_takeIn 23 = .ok (.iconst 1, 1) := by decide +kernel
theorem dX0_takeIn_24 : decode cX0_takeIn 24 = .ok (.iadd, 1) := by decide +kernel
theorem dX0_takeIn_25 : decode cX0_takeIn 25 = .ok (.iastore, 1) := by decide +kernel
theorem dX0_takeIn_26 : decode cX0_takeIn 26 = .ok (.aload_n 0, 1) := by decide +kernel
theorem dX0_takeIn_27 : decode cX0_takeIn 27 = .ok (.getfield 14, 3) := by decide +kernel
theorem dX0_takeIn_30 : decode cX0_takeIn 30 = .ok (.iload_n 1, 1) := by decide +kernel
theorem dX0_takeIn_31 : decode cX0_takeIn 31 = .ok (.iaload, 1) := by decide +kernel
theorem dX0_takeIn_32 : decode cX0_takeIn 32 = .ok (.sipush 136, 3) := by decide +kernel
theorem dX0_takeIn_35 : decode cX0_takeIn 35 = .ok (.if_icmp .ne 20, 3) := by decide +kernel
theorem dX0_takeIn_38 : decode cX0_takeIn 38 = .ok (.aload_n 0, 1) := by decide +kernel
theorem dX0_takeIn_39 : decode cX0_takeIn 39 = .ok (.aload_n 0, 1) := by decide +kernel
theorem dX0_takeIn_40 : decode cX0_takeIn 40 = .ok (.getfield 11, 3) := by decide +kernel
theorem dX0_takeIn_43 : decode cX0_takeIn 43 = .ok (.iload_n 1, 1) := by decide +kernel
theorem dX0_takeIn_44 : decode cX0_takeIn 44 = .ok (.aaload, 1) := by decide +kernel
theorem dX0_takeIn_45 : decode cX0_takeIn 45 = .ok (.invokevirtual 35, 3) := by decide +kernel
theorem dX0_takeIn_48 : decode cX0_takeIn 48 = .ok (.aload_n 0, 1) := by decide +kernel
theorem dX0_takeIn_49 : decode cX0_takeIn 49 = .ok (.getfield 14, 3) := by decide +kernel
theorem dX0_takeIn_52 : decode cX0_takeIn 52 = .ok (.iload_n 1, 1) := by decide +kernel
theorem dX0_takeIn_53 : decode cX0_takeIn 53 = .ok (.iconst 0, 1) := by decide +kernel
theorem dX0_takeIn_54 : decode cX0_takeIn 54 = .ok (.iastore, 1) := by decide +kernel
theorem dX0_takeIn_55 : decode cX0_takeIn 55 = .ok (.return_, 1) := by decide +kernel
theorem dX0_joinByte_0 : decode cX0_joinByte 0 = .ok (.aload_n 0, 1) := by decide +kernel
theorem dX0_joinByte_1 : decode cX0_joinByte 1 = .ok (.iload_n 1, 1) := by decide +kernel
theorem dX0_joinByte_2 : decode cX0_joinByte 2 = .ok (.bipush 8, 2) := by decide +kernel
theorem dX0_joinByte_4 : decode cX0_joinByte 4 = .ok (.idiv, 1) := by decide +kernel
theorem dX0_joinByte_5 : decode cX0_joinByte 5 = .ok (.dup2, 1) := by decide +kernel
theorem dX0_joinByte_6 : decode cX0_joinByte 6 = .ok (.laload, 1) := by decide +kernel
theorem dX0_joinByte_7 : decode cX0_joinByte 7 = .ok (.iload_n 2, 1) := by decide +kernel
theorem dX0_joinByte_8 : decode cX0_joinByte 8 = .ok (.i2l, 1) := by decide +kernel
theorem dX0_joinByte_9 : decode cX0_joinByte 9 = .ok (.ldc2_w 60, 3) := by decide +kernel
theorem dX0_joinByte_12 : decode cX0_joinByte 12 = .ok (.land, 1) := by decide +kernel
theorem dX0_joinByte_13 : decode cX0_joinByte 13 = .ok (.bipush 8, 2) := by decide +kernel
theorem dX0_joinByte_15 : decode cX0_joinByte 15 = .ok (.iload_n 1, 1) := by decide +kernel
theorem dX0_joinByte_16 : decode cX0_joinByte 16 = .ok (.bipush 8, 2) := by decide +kernel
theorem dX0_joinByte_18 : decode cX0_joinByte 18 = .ok (.irem, 1) := by decide +kernel
theorem dX0_joinByte_19 : decode cX0_joinByte 19 = .ok (.imul, 1) := by decide +kernel
theorem dX0_joinByte_20 : decode cX0_joinByte 20 = .ok (.lshl, 1) := by decide +kernel
theorem dX0_joinByte_21 : decode cX0_joinByte 21 = .ok (.lxor, 1) := by decide +kernel
theorem dX0_joinByte_22 : decode cX0_joinByte 22 = .ok (.lastore, 1) := by decide +kernel
theorem dX0_joinByte_23 : decode cX0_joinByte 23 = .ok (.return_, 1) := by decide +kernel
set_option maxRecDepth 20000 in
theorem ggX0_mixLanes_X0_sumColumns : GoodIn wsX0_mixLanes wsX0_sumColumns := goodIn_r _ [6, 7, 8, 9, 5, 10, 11, 12, 13, 26, 27, 28, 29] (by decide +kernel) (by decide +kernel)
set_option maxRecDepth 20000 in
theorem gX0_mixLanes_X0_sumColumns : GoodIn wsX0_mixLanes (wsV RX0 62 RX0 yX0_sumColumns wsX0_sumColumns) := goodIn_app (goodIn_of _ (by decide +kernel)) ggX0_mixLanes_X0_sumColumns
set_option maxRecDepth 20000 in
theorem ggX0_mixLanes_X0_turnAndMove : GoodIn wsX0_mixLanes wsX0_turnAndMove := goodIn_r _ [17, 18, 19, 7, 20, 11, 12, 5, 13, 26, 27, 28, 29] (by decide +kernel) (by decide +kernel)
set_option maxRecDepth 20000 in
theorem gX0_mixLanes_X0_turnAndMove : GoodIn wsX0_mixLanes (wsV RX0 65 RX0 yX0_turnAndMove wsX0_turnAndMove) := goodIn_app (goodIn_of _ (by decide +kernel)) ggX0_mixLanes_X0_turnAndMove
set_option maxRecDepth 20000 in
theorem ggX0_mixLanes_X0_combineRows : GoodIn wsX0_mixLanes wsX0_combineRows := goodIn_r _ [24, 18, 25, 26, 27, 28, 29] (by decide +kernel) (by decide +kernel)
set_option maxRecDepth 20000 in
theorem gX0_mixLanes_X0_combineRows : GoodIn wsX0_mixLanes (wsV RX0 68 RX0 yX0_combineRows wsX0_combineRows) := goodIn_app (goodIn_of _ (by decide +kernel)) ggX0_mixLanes_X0_combineRows
theorem dX0_mixLanes_0 : decode cX0_mixLanes 0 = .ok (.iconst 0, 1) := by decide +kernel
theorem dX0_mixLanes_1 : decode cX0_mixLanes 1 = .ok (.istore_n 2, 1) := by decide +kernel
theorem dX0_mixLanes_2 : decode cX0_mixLanes 2 = .ok (.iload_n 2, 1) := by decide +kernel
theorem dX0_mixLanes_3 : decode cX0_mixLanes 3 = .ok (.bipush 24, 2) := by decide +kernel
theorem dX0_mixLanes_5 : decode cX0_mixLanes 5 = .ok (.if_icmp .ge 35, 3) := by decide +kernel
theorem dX0_mixLanes_8 : decode cX0_mixLanes 8 = .ok (.aload_n 0, 1) := by decide +kernel
theorem dX0_mixLanes_9 : decode cX0_mixLanes 9 = .ok (.aload_n 1, 1) := by decide +kernel
theorem dX0_mixLanes_10 : decode cX0_mixLanes 10 = .ok (.invokevirtual 62, 3) := by decide +kernel
theorem dX0_mixLanes_13 : decode cX0_mixLanes 13 = .ok (.aload_n 0, 1) := by decide +kernel
theorem dX0_mixLanes_14 : decode cX0_mixLanes 14 = .ok (.aload_n 1, 1) := by decide +kernel
theorem dX0_mixLanes_15 : decode cX0_mixLanes 15 = .ok (.invokevirtual 65, 3) := by decide +kernel
theorem dX0_mixLanes_18 : decode cX0_mixLanes 18 = .ok (.aload_n 0, 1) := by decide +kernel
theorem dX0_mixLanes_19 : decode cX0_mixLanes 19 = .ok (.aload_n 1, 1) := by decide +kernel
theorem dX0_mixLanes_20 : decode cX0_mixLanes 20 = .ok (.invokevirtual 68, 3) := by decide +kernel
theorem dX0_mixLanes_23 : decode cX0_mixLanes 23 = .ok (.aload_n 1, 1) := by decide +kernel
theorem dX0_mixLanes_24 : decode cX0_mixLanes 24 = .ok (.iconst 0, 1) := by decide +kernel
theorem dX0_mixLanes_25 : decode cX0_mixLanes 25 = .ok (.dup2, 1) := by decide +kernel
theorem dX0_mixLanes_26 : decode cX0_mixLanes 26 = .ok (.laload, 1) := by decide +kernel
theorem dX0_mixLanes_27 : decode cX0_mixLanes 27 = .ok (.getstatic 71, 3) := by decide +kernel
theorem dX0_mixLanes_30 : decode cX0_mixLanes 30 = .ok (.iload_n 2, 1) := by decide +kernel
theorem dX0_mixLanes_31 : decode cX0_mixLanes 31 = .ok (.laload, 1) := by decide +kernel
theorem dX0_mixLanes_32 : decode cX0_mixLanes 32 = .ok (.lxor, 1) := by decide +kernel
theorem dX0_mixLanes_33 : decode cX0_mixLanes 33 = .ok (.lastore, 1) := by decide +kernel
theorem dX0_mixLanes_34 : decode cX0_mixLanes 34 = .ok (.iinc 2 1, 3) := by decide +kernel
theorem dX0_mixLanes_37 : decode cX0_mixLanes 37 = .ok (.goto (-35), 3) := by decide +kernel
theorem dX0_mixLanes_40 : decode cX0_mixLanes 40 = .ok (.return_, 1) := by decide +kernel
set_option maxRecDepth 20000 in
theorem ggX0_sumColumns_X0_columnSum : GoodIn wsX0_sumColumns wsX0_columnSum := goodIn_r _ [5] (by decide +kernel) (by decide +kernel)
set_option maxRecDepth 20000 in
theorem gX0_sumColumns_X0_columnSum : GoodIn wsX0_sumColumns (va_wsS RX0 74 yX0_columnSum wsX0_columnSum) := goodIn_app (goodIn_of _ (by decide +kernel)) ggX0_sumColumns_X0_columnSum
set_option maxRecDepth 20000 in
theorem ggX0_sumColumns_X0_turnedLeft : GoodIn wsX0_sumColumns wsX0_turnedLeft := goodIn_r _ [8] (by decide +kernel) (by decide +kernel)
set_option maxRecDepth 20000 in
theorem gX0_sumColumns_X0_turnedLeft : GoodIn wsX0_sumColumns (va_wsS RX0 78 yX0_turnedLeft wsX0_turnedLeft) := goodIn_app (goodIn_of _ (by decide +kernel)) ggX0_sumColumns_X0_turnedLeft
theorem dX0_sumColumns_0 : decode cX0_sumColumns 0 = .ok (.aload_n 1, 1) := by decide +kernel
theorem dX0_sumColumns_1 : decode cX0_sumColumns 1 = .ok (.iconst 0, 1) := by decide +kernel
theorem dX0_sumColumns_2 : decode cX0_sumColumns 2 = .ok (.invokestatic 74, 3) := by decide +kernel
theorem dX0_sumColumns_5 : decode cX0_sumColumns 5 = .ok (.lstore_n 2, 1) := by decide +kernel
theorem dX0_sumColumns_6 : decode cX0_sumColumns 6 = .ok (.aload_n 1, 1) := by decide +kernel
theorem dX0_sumColumns_7 : decode cX0_sumColumns 7 = .ok (.iconst 1, 1) := by decide +kernel
theorem dX0_sumColumns_8 : decode cX0_sumColumns 8 = .ok (.invokestatic 74, 3) := by decide +kernel
theorem dX0_sumColumns_11 : decode cX0_sumColumns 11 = .ok (.lstore 4, 2) := by decide +kernel
theorem dX0_sumColumns_13 : decode cX0_sumColumns 13 = .ok (.aload_n 1, 1) := by decide +kernel
theorem dX0_sumColumns_14 : decode cX0_sumColumns 14 = .ok (.iconst 2, 1) := by decide +kernel
theorem dX0_sumColumns_15 : decode cX0_sumColumns 15 = .ok (.invokestatic 74, 3) := by decide +kernel
theorem dX0_sumColumns_18 : decode cX0_sumColumns 18 = .ok (.lstore 6, 2) := by decide +kernel
theorem dX0_sumColumns_20 : decode cX0_sumColumns 20 = .ok (.aload_n 1, 1) := by decide +kernel
theorem dX0_sumColumns_21 : decode cX0_sumColumns 21 = .ok (.iconst 3, 1) := by decide +kernel
theorem dX0_sumColumns_22 : decode cX0_sumColumns 22 = .ok (.invokestatic 74, 3) := by decide +kernel
theorem dX0_sumColumns_25 : decode cX0_sumColumns 25 = .ok (.lstore 8, 2) := by decide +kernel
theorem dX0_sumColumns_27 : decode cX0_sumColumns 27 = .ok (.aload_n 1, 1) := by decide +kernel
theorem dX0_sumColumns_28 : decode cX0_sumColumns 28 = .ok (.iconst 4, 1) := by decide +kernel
theorem dX0_sumColumns_29 : decode cX0_sumColumns 29 = .ok (.invokestatic 74, 3) := by decide +kernel
theorem dX0_sumColumns_32 : decode cX0_sumColumns 32 = .ok (.lstore 10, 2) := by decide +kernel
theorem dX0_sumColumns_34 : decode cX0_sumColumns 34 = .ok (.aload_n 0, 1) := by decide +kernel
theorem dX0_sumColumns_35 : decode cX0_sumColumns 35 = .ok (.getfield 18, 3) := by decide +kernel
theorem dX0_sumColumns_38 : decode cX0_sumColumns 38 = .ok (.iconst 0, 1) := by decide +kernel
theorem dX0_sumColumns_39 : decode cX0_sumColumns 39 = .ok (.lload 10, 2) := by decide +kernel
theorem dX0_sumColumns_41 : decode cX0_sumColumns 41 = .ok (.lload 4, 2) := by decide +kernel
theorem dX0_sumColumns_43 : decode cX0_sumColumns 43 = .ok (.iconst 1, 1) := by decide +kernel
theorem dX0_sumColumns_44 : decode cX0_sumColumns 44 = .ok (.invokestatic 78, 3) := by decide +kernel
theorem dX0_sumColumns_47 : decode cX0_sumColumns 47 = .ok (.lxor, 1) := by decide +kernel
theorem dX0_sumColumns_48 : decode cX0_sumColumns 48 = .ok (.lastore, 1) := by decide +kernel
theorem dX0_sumColumns_49 : decode cX0_sumColumns 49 = .ok (.aload_n 0, 1) := by decide +kernel
theorem dX0_sumColumns_50 : decode cX0_sumColumns 50 = .ok (.getfield 18, 3) := by decide +kernel
theorem dX0_sumColumns_53 : decode cX0_sumColumns 53 = .ok (.iconst 1, 1) := by decide +kernel
theorem dX0_sumColumns_54 : decode cX0_sumColumns 54 = .ok (.lload_n 2, 1) := by decide +kernel
theorem dX0_sumColumns_55 : decode cX0_sumColumns 55 = .ok (.lload 6, 2) := by decide +kernel
theorem dX0_sumColumns_57 : decode cX0_sumColumns 57 = .ok (.iconst 1, 1) := by decide +kernel
theorem dX0_sumColumns_58 : decode cX0_sumColumns 58 = .ok (.invokestatic 78, 3) := by decide +kernel
theorem dX0_sumColumns_61 : decode cX0_sumColumns 61 = .ok (.lxor, 1) := by decide +kernel
theorem dX0_sumColumns_62 : decode cX0_sumColumns 62 = .ok (.lastore, 1) := by decide +kernel
theorem dX0_sumColumns_63 : decode cX0_sumColumns 63 = .ok (.aload_n 0, 1) := by decide +kernel
theorem dX0_sumColumns_64 : decode cX0_sumColumns 64 = .ok (.getfield 18, 3) := by decide +kernel
theorem dX0_sumColumns_67 : decode cX0_sumColumns 67 = .ok (.iconst 2, 1) := by decide +kernel
theorem dX0_sumColumns_68 : decode cX0_sumColumns 68 = .ok (.lload 4, 2) := by decide +kernel
theorem dX0_sumColumns_70 : decode cX0_sumColumns 70 = .ok (.lload 8, 2) := by decide +kernel
theorem dX0_sumColumns_72 : decode cX0_sumColumns 72 = .ok (.iconst 1, 1) := by decide +kernel
theorem dX0_sumColumns_73 : decode cX0_sumColumns 73 = .ok (.invokestatic 78, 3) := by decide +kernel
theorem dX0_sumColumns_76 : decode cX0_sumColumns 76 = .ok (.lxor, 1) := by decide +kernel
theorem dX0_sumColumns_77 : decode cX0_sumColumns 77 = .ok (.lastore, 1) := by decide +kernel
theorem dX0_sumColumns_78 : decode cX0_sumColumns 78 = .ok (.aload_n 0, 1) := by decide +kernel
theorem dX0_sumColumns_79 : decode cX0_sumColumns 79 = .ok (.getfield 18, 3) := by decide +kernel
theorem dX0_sumColumns_82 : decode cX0_sumColumns 82 = .ok (.iconst 3, 1) := by decide +kernel
theorem dX0_sumColumns_83 : decode cX0_sumColumns 83 = .ok (.lload 6, 2) := by decide +kernel
theorem dX0_sumColumns_85 : decode cX0_sumColumns 85 = .ok (.lload 10, 2) := by decide +kernel
theorem dX0_sumColumns_87 : decode cX0_sumColumns 87 = .ok (.iconst 1, 1) := by decide +kernel
theorem dX0_sumColumns_88 : decode cX0_sumColumns 88 = .ok (.invokestatic 78, 3) := by decide +kernel
theorem dX0_sumColumns_91 : decode cX0_sumColumns 91 = .ok (.lxor, 1) := by decide +kernel
theorem dX0_sumColumns_92 : decode cX0_sumColumns 92 = .ok (.lastore, 1) := by decide +kernel
theorem dX0_sumColumns_93 : decode cX0_sumColumns 93 = .ok (.aload_n 0, 1) := by decide +kernel
theorem dX0_sumColumns_94 : decode cX0_sumColumns 94 = .ok (.getfield 18, 3) := by decide +kernel
theorem dX0_sumColumns_97 : decode cX0_sumColumns 97 = .ok (.iconst 4, 1) := by decide +kernel
theorem dX0_sumColumns_98 : decode cX0_sumColumns 98 = .ok (.lload 8, 2) := by decide +kernel
theorem dX0_sumColumns_100 : decode cX0_sumColumns 100 = .ok (.lload_n 2, 1) := by decide +kernel
theorem dX0_sumColumns_101 : decode cX0_sumColumns 101 = .ok (.iconst 1, 1) := by decide +kernel
theorem dX0_sumColumns_102 : decode cX0_sumColumns 102 = .ok (.invokestatic 78, 3) := by decide +kernel
theorem dX0_sumColumns_105 : decode cX0_sumColumns 105 = .ok (.lxor, 1) := by decide +kernel
theorem dX0_sumColumns_106 : decode cX0_sumColumns 106 = .ok (.lastore, 1) := by decide +kernel
theorem dX0_sumColumns_107 : decode cX0_sumColumns 107 = .ok (.return_, 1) := by decide +kernel
theorem dX0_columnSum_0 : decode cX0_columnSum 0 = .ok (.aload_n 0, 1) := by decide +kernel
theorem dX0_columnSum_1 : decode cX0_columnSum 1 = .ok (.iload_n 1, 1) := by decide +kernel
theorem dX0_columnSum_2 : decode cX0_columnSum 2 = .ok (.laload, 1) := by decide +kernel
theorem dX0_columnSum_3 : decode cX0_columnSum 3 = .ok (.aload_n 0, 1) := by decide +kernel
theorem dX0_columnSum_4 : decode cX0_columnSum 4 = .ok (.iload_n 1, 1) := by decide +kernel
theorem dX0_columnSum_5 : decode cX0_columnSum 5 = .ok (.iconst 5, 1) := by decide +kernel
theorem dX0_columnSum_6 : decode cX0_columnSum 6 = .ok (.iadd, 1) := by decide +kernel
theorem dX0_columnSum_7 : decode cX0_columnSum 7 = .ok (.laload, 1) := by decide +kernel
theorem dX0_columnSum_8 : decode cX0_columnSum 8 = .ok (.lxor, 1) := by decide +kernel
theorem dX0_columnSum_9 : decode cX0_columnSum 9 = .ok (.aload_n 0, 1) := by decide +kernel
theorem dX0_columnSum_10 : decode cX0_columnSum 10 = .ok (.iload_n 1, 1) := by decide +kernel
theorem dX0_columnSum_11 : decode cX0_columnSum 11 = .ok (.bipush 10, 2) := by decide +kernel
theorem dX0_columnSum_13 : decode cX0_columnSum 13 = .ok (.iadd, 1) := by decide +kernel
theorem dX0_columnSum_14 : decode cX0_columnSum 14 = .ok (.laload, 1) := by decide +kernel
theorem dX0_columnSum_15 : decode cX0_columnSum 15 = .ok (.lxor, 1) := by decide +kernel
theorem dX0_columnSum_16 : decode cX0_columnSum 16 = .ok (.aload_n 0, 1) := by decide +kernel
theorem dX0_columnSum_17 : decode cX0_columnSum 17 = .ok (.iload_n 1, 1) := by decide +kernel
theorem dX0_columnSum_18 : decode cX0_columnSum 18 = .ok (.bipush 15, 2) := by decide +kernel
theorem dX0_columnSum_20 : decode cX0_columnSum 20 = .ok (.iadd, 1) := by decide +kernel
theorem dX0_columnSum_21 : decode cX0_columnSum 21 = .ok (.laload, 1) := by decide +kernel
theorem dX0_columnSum_22 : decode cX0_columnSum 22 = .ok (.lxor, 1) := by decide +kernel
theorem dX0_columnSum_23 : decode cX0_columnSum 23 = .ok (.aload_n 0, 1) := by decide +kernel
theorem dX0_columnSum_24 : decode cX0_columnSum 24 = .ok (.iload_n 1, 1) := by decide +kernel
theorem dX0_columnSum_25 : decode cX0_columnSum 25 = .ok (.bipush 20, 2) := by decide +kernel
theorem dX0_columnSum_27 : decode cX0_columnSum 27 = .ok (.iadd, 1) := by decide +kernel
theorem dX0_columnSum_28 : decode cX0_columnSum 28 = .ok (.laload, 1) := by decide +kernel
theorem dX0_columnSum_29 : decode cX0_columnSum 29 = .ok (.lxor, 1) := by decide +kernel
theorem dX0_columnSum_30 : decode cX0_columnSum 30 = .ok (.lreturn, 1) := by decide +kernel
set_option maxRecDepth 20000 in
theorem ggX0_turnAndMove_X0_turnedLeft : GoodIn wsX0_turnAndMove wsX0_turnedLeft := goodIn_r _ [8] (by decide +kernel) (by decide +kernel)
set_option maxRecDepth 20000 in
theorem gX0_turnAndMove_X0_turnedLeft : GoodIn wsX0_turnAndMove (va_wsS RX0 78 yX0_turnedLeft wsX0_turnedLeft) := goodIn_app (goodIn_of _ (by decide +kernel)) ggX0_turnAndMove_X0_turnedLeft
theorem dX0_turnAndMove_0 : decode cX0_turnAndMove 0 = .ok (.iconst 0, 1) := by decide +kernel
theorem dX0_turnAndMove_1 : decode cX0_turnAndMove 1 = .ok (.istore_n 2, 1) := by decide +kernel
theorem dX0_turnAndMove_2 : decode cX0_turnAndMove 2 = .ok (.iload_n 2, 1) := by decide +kernel
theorem dX0_turnAndMove_3 : decode cX0_turnAndMove 3 = .ok (.bipush 25, 2) := by decide +kernel
theorem dX0_turnAndMove_5 : decode cX0_turnAndMove 5 = .ok (.if_icmp .ge 58, 3) := by decide +kernel
theorem dX0_turnAndMove_8 : decode cX0_turnAndMove 8 = .ok (.iconst 0, 1) := by decide +kernel
theorem dX0_turnAndMove_9 : decode cX0_turnAndMove 9 = .ok (.istore_n 3, 1) := by decide +kernel
theorem dX0_turnAndMove_10 : decode cX0_turnAndMove 10 = .ok (.iload_n 3, 1) := by decide +kernel
theorem dX0_turnAndMove_11 : decode cX0_turnAndMove 11 = .ok (.iconst 5, 1) := by decide +kernel
theorem dX0_turnAndMove_12 : decode cX0_turnAndMove 12 = .ok (.if_icmp .ge 45, 3) := by decide +kernel
theorem dX0_turnAndMove_15 : decode cX0_turnAndMove 15 = .ok (.iload_n 3, 1) := by decide +kernel
theorem dX0_turnAndMove_16 : decode cX0_turnAndMove 16 = .ok (.iload_n 2, 1) := by decide +kernel
theorem dX0_turnAndMove_17 : decode cX0_turnAndMove 17 = .ok (.iadd, 1) := by decide +kernel
theorem dX0_turnAndMove_18 : decode cX0_turnAndMove 18 = .ok (.istore 4, 2) := by decide +kernel
theorem dX0_turnAndMove_20 : decode cX0_turnAndMove 20 = .ok (.aload_n 0, 1) := by decide +kernel
theorem dX0_turnAndMove_21 : decode cX0_turnAndMove 21 = .ok (.getfield 22, 3) := by decide +kernel
theorem dX0_turnAndMove_24 : decode cX0_turnAndMove 24 = .ok (.getstatic 82, 3) := by decide +kernel
theorem dX0_turnAndMove_27 : decode cX0_turnAndMove 27 = .ok (.iload 4, 2) := by decide +kernel
theorem dX0_turnAndMove_29 : decode cX0_turnAndMove 29 = .ok (.iaload, 1) := by decide +kernel
theorem dX0_turnAndMove_30 : decode cX0_turnAndMove 30 = .ok (.aload_n 1, 1) := by decide +kernel
theorem dX0_turnAndMove_31 : decode cX0_turnAndMove 31 = .ok (.iload 4, 2) := by decide +kernel
theorem dX0_turnAndMove_33 : decode cX0_turnAndMove 33 = .ok (.laload, 1) := by decide +kernel
theorem dX0_turnAndMove_34 : decode cX0_turnAndMove 34 = .ok (.aload_n 0, 1) := by decide +kernel
theorem dX0_turnAndMove_35 : decode cX0_turnAndMove 35 = .ok (.getfield 18, 3) := by decide +kernel
theorem dX0_turnAndMove_38 : decode cX0_turnAndMove 38 = .ok (.iload_n 3, 1) := by decide +kernel
theorem dX0_turnAndMove_39 : decode cX0_turnAndMove 39 = .ok (.laload, 1) := by decide +kernel
theorem dX0_turnAndMove_40 : decode cX0_turnAndMove 40 = .ok (.lxor, 1) := by decide +kernel
theorem dX0_turnAndMove_41 : decode cX0_turnAndMove 41 = .ok (.getstatic 85, 3) := by decide +kernel
theorem dX0_turnAndMove_44 : decode cX0_turnAndMove 44 = .ok (.iload 4, 2) := by decide +kernel
theorem dX0_turnAndMove_46 : decode cX0_turnAndMove 46 = .ok (.iaload, 1) := by decide +kernel
theorem dX0_turnAndMove_47 : decode cX0_turnAndMove 47 = .ok (.invokestatic 78, 3) := by decide +kernel
theorem dX0_turnAndMove_50 : decode cX0_turnAndMove 50 = .ok (.lastore, 1) := by decide +kernel
theorem dX0_turnAndMove_51 : decode cX0_turnAndMove 51 = .ok (.iinc 3 1, 3) := by decide +kernel
theorem dX0_turnAndMove_54 : decode cX0_turnAndMove 54 = .ok (.goto (-44), 3) := by decide +kernel
theorem dX0_turnAndMove_57 : decode cX0_turnAndMove 57 = .ok (.iinc 2 5, 3) := by decide +kernel
theorem dX0_turnAndMove_60 : decode cX0_turnAndMove 60 = .ok (.goto (-58), 3) := by decide +kernel
theorem dX0_turnAndMove_63 : decode cX0_turnAndMove 63 = .ok (.return_, 1) := by decide +kernel
theorem dX0_combineRows_0 : decode cX0_combineRows 0 = .ok (.iconst 0, 1) := by decide +kernel
theorem dX0_combineRows_1 : decode cX0_combineRows 1 = .ok (.istore_n 2, 1) := by decide +kernel
theorem dX0_combineRows_2 : decode cX0_combineRows 2 = .ok (.iload_n 2, 1) := by decide +kernel
theorem dX0_combineRows_3 : decode cX0_combineRows 3 = .ok (.bipush 25, 2) := by decide +kernel
theorem dX0_combineRows_5 : decode cX0_combineRows 5 = .ok (.if_icmp .ge 136, 3) := by decide +kernel
theorem dX0_combineRows_8 : decode cX0_combineRows 8 = .ok (.aload_n 0, 1) := by decide +kernel
theorem dX0_combineRows_9 : decode cX0_combineRows 9 = .ok (.getfield 22, 3) := by decide +kernel
theorem dX0_combineRows_12 : decode cX0_combineRows 12 = .ok (.iload_n 2, 1) := by decide +kernel
theorem dX0_combineRows_13 : decode cX0_combineRows 13 = .ok (.laload, 1) := by decide +kernel
theorem dX0_combineRows_14 : decode cX0_combineRows 14 = .ok (.lstore_n 3, 1) := by decide +kernel
theorem dX0_combineRows_15 : decode cX0_combineRows 15 = .ok (.aload_n 0, 1) := by decide +kernel
theorem dX0_combineRows_16 : decode cX0_combineRows 16 = .ok (.getfield 22, 3) := by decide +kernel
theorem dX0_combineRows_19 : decode cX0_combineRows 19 = .ok (.iload_n 2, 1) := by decide +kernel
theorem dX0_combineRows_20 : decode cX0_combineRows 20 = .ok (.iconst 1, 1) := by decide +kernel
theorem dX0_combineRows_21 : decode cX0_combineRows 21 = .ok (.iadd, 1) := by decide +kernel
theorem dX0_combineRows_22 : decode cX0_combineRows 22 = .ok (.laload, 1) := by decide +kernel
theorem dX0_combineRows_23 : decode cX0_combineRows 23 = .ok (.lstore 5, 2) := by decide +kernel
theorem dX0_combineRows_25 : decode cX0_combineRows 25 = .ok (.aload_n 0, 1) := by decide +kernel
theorem dX0_combineRows_26 : decode cX0_combineRows 26 = .ok (.getfield 22, 3) := by decide +kernel
theorem dX0_combineRows_29 : decode cX0_combineRows 29 = .ok (.iload_n 2, 1) := by decide +kernel
theorem dX0_combineRows_30 : decode cX0_combineRows 30 = .ok (.iconst 2, 1) := by decide +kernel
theorem dX0_combineRows_31 : decode cX0_combineRows 31 = .ok (.iadd, 1) := by decide +kernel
theorem dX0_combineRows_32 : decode cX0_combineRows 32 = .ok (.laload, 1) := by decide +kernel
theorem dX0_combineRows_33 : decode cX0_combineRows 33 = .ok (.lstore 7, 2) := by decide +kernel
theorem dX0_combineRows_35 : decode cX0_combineRows 35 = .ok (.aload_n 0, 1) := by decide +kernel
theorem dX0_combineRows_36 : decode cX0_combineRows 36 = .ok (.getfield 22, 3) := by decide +kernel
theorem dX0_combineRows_39 : decode cX0_combineRows 39 = .ok (.iload_n 2, 1) := by decide +kernel
theorem dX0_combineRows_40 : decode cX0_combineRows 40 = .ok (.iconst 3, 1) := by decide +kernel
theorem dX0_combineRows_41 : decode cX0_combineRows 41 = .ok (.iadd, 1) := by decide +kernel
theorem dX0_combineRows_42 : decode cX0_combineRows 42 = .ok (.laload, 1) := by decide +kernel
theorem dX0_combineRows_43 : decode cX0_combineRows 43 = .ok (.lstore 9, 2) := by decide +kernel
theorem dX0_combineRows_45 : decode cX0_combineRows 45 = .ok (.aload_n 0, 1) := by decide +kernel
theorem dX0_combineRows_46 : decode cX0_combineRows 46 = .ok (.getfield 22, 3) := by decide +kernel
theorem dX0_combineRows_49 : decode cX0_combineRows 49 = .ok (.iload_n 2, 1) := by decide +kernel
theorem dX0_combineRows_50 : decode cX0_combineRows 50 = .ok (.iconst 4, 1) := by decide +kernel
theorem dX0_combineRows_51 : decode cX0_combineRows 51 = .ok (.iadd, 1) := by decide +kernel
theorem dX0_combineRows_52 : decode cX0_combineRows 52 = .ok (.laload, 1) := by decide +kernel
theorem dX0_combineRows_53 : decode cX0_combineRows 53 = .ok (.lstore 11, 2) := by decide +kernel
theorem dX0_combineRows_55 : decode cX0_combineRows 55 = .ok (.aload_n 1, 1) := by decide +kernel
theorem dX0_combineRows_56 : decode cX0_combineRows 56 = .ok (.iload_n 2, 1) := by decide +kernel
theorem dX0_combineRows_57 : decode cX0_combineRows 57 = .ok (.lload_n 3, 1) := by decide +kernel
theorem dX0_combineRows_58 : decode cX0_combineRows 58 = .ok (.lload 5, 2) := by decide +kernel
theorem dX0_combineRows_60 : decode cX0_combineRows 60 = .ok (.ldc2_w 88, 3) := by decide +kernel
theorem dX0_combineRows_63 : decode cX0_combineRows 63 = .ok (.lxor, 1) := by decide +kernel
theorem dX0_combineRows_64 : decode cX0_combineRows 64 = .ok (.lload 7, 2) := by decide +kernel
theorem dX0_combineRows_66 : decode cX0_combineRows 66 = .ok (.land, 1) := by decide +kernel
theorem dX0_combineRows_67 : decode cX0_combineRows 67 = .ok (.lxor, 1) := by decide +kernel
theorem dX0_combineRows_68 : decode cX0_combineRows 68 = .ok (.lastore, 1) := by decide +kernel
theorem dX0_combineRows_69 : decode cX0_combineRows 69 = .ok (.aload_n 1, 1) := by decide +kernel
theorem dX0_combineRows_70 : decode cX0_combineRows 70 = .ok (.iload_n 2, 1) := by decide +kernel
theorem dX0_combineRows_71 : decode cX0_combineRows 71 = .ok (.iconst 1, 1) := by decide +kernel
theorem dX0_combineRows_72 : decode cX0_combineRows 72 = .ok (.iadd, 1) := by decide +kernel
theorem dX0_combineRows_73 : decode cX0_combineRows 73 = .ok (.lload 5, 2) := by decide +kernel
theorem dX0_combineRows_75 : decode cX0_combineRows 75 = .ok (.lload 7, 2) := by decide +kernel
theorem dX0_combineRows_77 : decode cX0_combineRows 77 = .ok (.ldc2_w 88, 3) := by decide +kernel
theorem dX0_combineRows_80 : decode cX0_combineRows 80 = .ok (.lxor, 1) := by decide +kernel
theorem dX0_combineRows_81 : decode cX0_combineRows 81 = .ok (.lload 9, 2) := by decide +kernel
theorem dX0_combineRows_83 : decode cX0_combineRows 83 = .ok (.land, 1) := by decide +kernel
theorem dX0_combineRows_84 : decode cX0_combineRows 84 = .ok (.lxor, 1) := by decide +kernel
theorem dX0_combineRows_85 : decode cX0_combineRows 85 = .ok (.lastore, 1) := by decide +kernel
theorem dX0_combineRows_86 : decode cX0_combineRows 86 = .ok (.aload_n 1, 1) := by decide +kernel
theorem dX0_combineRows_87 : decode cX0_combineRows 87 = .ok (.iload_n 2, 1) := by decide +kernel
theorem dX0_combineRows_88 : decode cX0_combineRows 88 = .ok (.iconst 2, 1) := by decide +kernel
theorem dX0_combineRows_89 : decode cX0_combineRows 89 = .ok (.iadd, 1) := by decide +kernel
theorem dX0_combineRows_90 : decode cX0_combineRows 90 = .ok (.lload 7, 2) := by decide +kernel
theorem dX0_combineRows_92 : decode cX0_combineRows 92 = .ok (.lload 9, 2) := by decide +kernel
theorem dX0_combineRows_94 : decode cX0_combineRows 94 = .ok (.ldc2_w 88, 3) := by decide +kernel
theorem dX0_combineRows_97 : decode cX0_combineRows 97 = .ok (.lxor, 1) := by decide +kernel
theorem dX0_combineRows_98 : decode cX0_combineRows 98 = .ok (.lload 11, 2) := by decide +kernel
theorem dX0_combineRows_100 : decode cX0_combineRows 100 = .ok (.land, 1) := by decide +kernel
theorem dX0_combineRows_101 : decode cX0_combineRows 101 = .ok (.lxor, 1) := by decide +kernel
theorem dX0_combineRows_102 : decode cX0_combineRows 102 = .ok (.lastore, 1) := by decide +kernel
theorem dX0_combineRows_103 : decode cX0_combineRows 103 = .ok (.aload_n 1, 1) := by decide +kernel
theorem dX0_combineRows_104 : decode cX0_combineRows 104 = .ok (.iload_n 2, 1) := by decide +kernel
theorem dX0_combineRows_105 : decode cX0_combineRows 105 = .ok (.iconst 3, 1) := by decide +kernel
theorem dX0_combineRows_106 : decode cX0_combineRows 106 = .ok (.iadd, 1) := by decide +kernel
theorem dX0_combineRows_107 : decode cX0_combineRows 107 = .ok (.lload 9, 2) := by decide +kernel
theorem dX0_combineRows_109 : decode cX0_combineRows 109 = .ok (.lload 11, 2) := by decide +kernel
theorem dX0_combineRows_111 : decode cX0_combineRows 111 = .ok (.ldc2_w 88, 3) := by decide +kernel
theorem dX0_combineRows_114 : decode cX0_combineRows 114 = .ok (.lxor, 1) := by decide +kernel
theorem dX0_combineRows_115 : decode cX0_combineRows 115 = .ok (.lload_n 3, 1) := by decide +kernel
theorem dX0_combineRows_116 : decode cX0_combineRows 116 = .ok (.land, 1) := by decide +kernel
theorem dX0_combineRows_117 : decode cX0_combineRows 117 = .ok (.lxor, 1) := by decide +kernel
theorem dX0_combineRows_118 : decode cX0_combineRows 118 = .ok (.lastore, 1) := by decide +kernel
theorem dX0_combineRows_119 : decode cX0_combineRows 119 = .ok (.aload_n 1, 1) := by decide +kernel
theorem dX0_combineRows_120 : decode cX0_combineRows 120 = .ok (.iload_n 2, 1) := by decide +kernel
theorem dX0_combineRows_121 : decode cX0_combineRows 121 = .ok (.iconst 4, 1) := by decide +kernel
theorem dX0_combineRows_122 : decode cX0_combineRows 122 = .ok (.iadd, 1) := by decide +kernel
theorem dX0_combineRows_123 : decode cX0_combineRows 123 = .ok (.lload 11, 2) := by decide +kernel
theorem dX0_combineRows_125 : decode cX0_combineRows 125 = .ok (.lload_n 3, 1) := by decide +kernel
theorem dX0_combineRows_126 : decode cX0_combineRows 126 = .ok (.ldc2_w 88, 3) := by decide +kernel
theorem dX0_combineRows_129 : decode cX0_combineRows 129 = .ok (.lxor, 1) := by decide +kernel
theorem dX0_combineRows_130 : decode cX0_combineRows 130 = .ok (.lload 5, 2) := by decide +kernel
theorem dX0_combineRows_132 : decode cX0_combineRows 132 = .ok (.land, 1) := by decide +kernel
theorem dX0_combineRows_133 : decode cX0_combineRows 133 = .ok (.lxor, 1) := by decide +kernel
theorem dX0_combineRows_134 : decode cX0_combineRows 134 = .ok (.lastore, 1) := by decide +kernel
theorem dX0_combineRows_135 : decode cX0_combineRows 135 = .ok (.iinc 2 5, 3) := by decide +kernel
theorem dX0_combineRows_138 : decode cX0_combineRows 138 = .ok (.goto (-136), 3) := by decide +kernel
theorem dX0_combineRows_141 : decode cX0_combineRows 141 = .ok (.return_, 1) := by decide +kernel
theorem dX0_turnedLeft_0 : decode cX0_turnedLeft 0 = .ok (.lload_n 0, 1) := by decide +kernel
theorem dX0_turnedLeft_1 : decode cX0_turnedLeft 1 = .ok (.iload_n 2, 1) := by decide +kernel
theorem dX0_turnedLeft_2 : decode cX0_turnedLeft 2 = .ok (.lshl, 1) := by decide +kernel
theorem dX0_turnedLeft_3 : decode cX0_turnedLeft 3 = .ok (.lload_n 0, 1) := by decide +kernel
theorem dX0_turnedLeft_4 : decode cX0_turnedLeft 4 = .ok (.bipush 64, 2) := by decide +kernel
theorem dX0_turnedLeft_6 : decode cX0_turnedLeft 6 = .ok (.iload_n 2, 1) := by decide +kernel
theorem dX0_turnedLeft_7 : decode cX0_turnedLeft 7 = .ok (.isub, 1) := by decide +kernel
theorem dX0_turnedLeft_8 : decode cX0_turnedLeft 8 = .ok (.lushr, 1) := by decide +kernel
theorem dX0_turnedLeft_9 : decode cX0_turnedLeft 9 = .ok (.lor, 1) := by decide +kernel
theorem dX0_turnedLeft_10 : decode cX0_turnedLeft 10 = .ok (.lreturn, 1) := by decide +kernel
theorem dX0_bytesTurnedRound_0 : decode cX0_bytesTurnedRound 0 = .ok (.lconst 0, 1) := by decide +kernel
theorem dX0_bytesTurnedRound_1 : decode cX0_bytesTurnedRound 1 = .ok (.lstore_n 2, 1) := by decide +kernel
theorem dX0_bytesTurnedRound_2 : decode cX0_bytesTurnedRound 2 = .ok (.iconst 0, 1) := by decide +kernel
theorem dX0_bytesTurnedRound_3 : decode cX0_bytesTurnedRound 3 = .ok (.istore 4, 2) := by decide +kernel
theorem dX0_bytesTurnedRound_5 : decode cX0_bytesTurnedRound 5 = .ok (.iload 4, 2) := by decide +kernel
theorem dX0_bytesTurnedRound_7 : decode cX0_bytesTurnedRound 7 = .ok (.bipush 8, 2) := by decide +kernel
theorem dX0_bytesTurnedRound_9 : decode cX0_bytesTurnedRound 9 = .ok (.if_icmp .ge 26, 3) := by decide +kernel
theorem dX0_bytesTurnedRound_12 : decode cX0_bytesTurnedRound 12 = .ok (.lload_n 2, 1) := by decide +kernel
theorem dX0_bytesTurnedRound_13 : decode cX0_bytesTurnedRound 13 = .ok (.bipush 8, 2) := by decide +kernel
theorem dX0_bytesTurnedRound_15 : decode cX0_bytesTurnedRound 15 = .ok (.lshl, 1) := by decide +kernel
theorem dX0_bytesTurnedRound_16 : decode cX0_bytesTurnedRound 16 = .ok (.lload_n 0, 1) := by decide +kernel
theorem dX0_bytesTurnedRound_17 : decode cX0_bytesTurnedRound 17 = .ok (.bipush 8, 2) := by decide +kernel
theorem dX0_bytesTurnedRound_19 : decode cX0_bytesTurnedRound 19 = .ok (.iload 4, 2) := by decide +kernel
theorem dX0_bytesTurnedRound_21 : decode cX0_bytesTurnedRound 21 = .ok (.imul, 1) := by decide +kernel
theorem dX0_bytesTurnedRound_22 : decode cX0_bytesTurnedRound 22 = .ok (.lushr, 1) := by decide +kernel
theorem dX0_bytesTurnedRound_23 : decode cX0_bytesTurnedRound 23 = .ok (.ldc2_w 60, 3) := by decide +kernel
theorem dX0_bytesTurnedRound_26 : decode cX0_bytesTurnedRound 26 = .ok (.land, 1) := by decide +kernel
theorem dX0_bytesTurnedRound_27 : decode cX0_bytesTurnedRound 27 = .ok (.lor, 1) := by decide +kernel
theorem dX0_bytesTurnedRound_28 : decode cX0_bytesTurnedRound 28 = .ok (.lstore_n 2, 1) := by decide +kernel
theorem dX0_bytesTurnedRound_29 : decode cX0_bytesTurnedRound 29 = .ok (.iinc 4 1, 3) := by decide +kernel
theorem dX0_bytesTurnedRound_32 : decode cX0_bytesTurnedRound 32 = .ok (.goto (-27), 3) := by decide +kernel
theorem dX0_bytesTurnedRound_35 : decode cX0_bytesTurnedRound 35 = .ok (.lload_n 2, 1) := by decide +kernel
theorem dX0_bytesTurnedRound_36 : decode cX0_bytesTurnedRound 36 = .ok (.lreturn, 1) := by decide +kernel
theorem dX1_constant_0 : decode cX1_constant 0 = .ok (.lconst 0, 1) := by decide +kernel
theorem dX1_constant_1 : decode cX1_constant 1 = .ok (.lstore_n 1, 1) := by decide +kernel
theorem dX1_constant_2 : decode cX1_constant 2 = .ok (.iconst 0, 1) := by decide +kernel
theorem dX1_constant_3 : decode cX1_constant 3 = .ok (.istore_n 3, 1) := by decide +kernel
theorem dX1_constant_4 : decode cX1_constant 4 = .ok (.iload_n 3, 1) := by decide +kernel
theorem dX1_constant_5 : decode cX1_constant 5 = .ok (.bipush 7, 2) := by decide +kernel
theorem dX1_constant_7 : decode cX1_constant 7 = .ok (.if_icmp .ge 88, 3) := by decide +kernel
theorem dX1_constant_10 : decode cX1_constant 10 = .ok (.iload_n 3, 1) := by decide +kernel
theorem dX1_constant_11 : decode cX1_constant 11 = .ok (.bipush 7, 2) := by decide +kernel
theorem dX1_constant_13 : decode cX1_constant 13 = .ok (.iload_n 0, 1) := by decide +kernel
theorem dX1_constant_14 : decode cX1_constant 14 = .ok (.imul, 1) := by decide +kernel
theorem dX1_constant_15 : decode cX1_constant 15 = .ok (.iadd, 1) := by decide +kernel
theorem dX1_constant_16 : decode cX1_constant 16 = .ok (.sipush 255, 3) := by decide +kernel
theorem dX1_constant_19 : decode cX1_constant 19 = .ok (.irem, 1) := by decide +kernel
theorem dX1_constant_20 : decode cX1_constant 20 = .ok (.istore 4, 2) := by decide +kernel
theorem dX1_constant_22 : decode cX1_constant 22 = .ok (.iconst 1, 1) := by decide +kernel
theorem dX1_constant_23 : decode cX1_constant 23 = .ok (.istore 5, 2) := by decide +kernel
theorem dX1_constant_25 : decode cX1_constant 25 = .ok (.iconst 0, 1) := by decide +kernel
theorem dX1_constant_26 : decode cX1_constant 26 = .ok (.istore 6, 2) := by decide +kernel
theorem dX1_constant_28 : decode cX1_constant 28 = .ok (.iload 6, 2) := by decide +kernel
theorem dX1_constant_30 : decode cX1_constant 30 = .ok (.iload 4, 2) := by decide +kernel
theorem dX1_constant_32 : decode cX1_constant 32 = .ok (.if_icmp .ge 40, 3) := by decide +kernel
theorem dX1_constant_35 : decode cX1_constant 35 = .ok (.iload 5, 2) := by decide +kernel
theorem dX1_constant_37 : decode cX1_constant 37 = .ok (.iconst 1, 1) := by decide +kernel
theorem dX1_constant_38 : decode cX1_constant 38 = .ok (.ishl, 1) := by decide +kernel
theorem dX1_constant_39 : decode cX1_constant 39 = .ok (.istore 5, 2) := by decide +kernel
theorem dX1_constant_41 : decode cX1_constant 41 = .ok (.iload 5, 2) := by decide +kernel
theorem dX1_constant_43 : decode cX1_constant 43 = .ok (.sipush 256, 3) := by decide +kernel
theorem dX1_constant_46 : decode cX1_constant 46 = .ok (.iand, 1) := by decide +kernel
theorem dX1_constant_47 : decode cX1_constant 47 = .ok (.ifCond .eq 11, 3) := by decide +kernel
theorem dX1_constant_50 : decode cX1_constant 50 = .ok (.iload 5, 2) := by decide +kernel
theorem dX1_constant_52 : decode cX1_constant 52 = .ok (.sipush 369, 3) := by decide +kernel
theorem dX1_constant_55 : decode cX1_constant 55 = .ok (.ixor, 1) := by decide +kernel
theorem dX1_constant_56 : decode cX1_constant 56 = .ok (.istore 5, 2) := by decide +kernel
theorem dX1_constant_58 : decode cX1_constant 58 = .ok (.iload 5, 2) := by decide +kernel
theorem dX1_constant_60 : decode cX1_constant 60 = .ok (.sipush 255, 3) := by decide +kernel
theorem dX1_constant_63 : decode cX1_constant 63 = .ok (.iand, 1) := by decide +kernel
theorem dX1_constant_64 : decode cX1_constant 64 = .ok (.istore 5, 2) := by decide +kernel
theorem dX1_constant_66 : decode cX1_constant 66 = .ok (.iinc 6 1, 3) := by decide +kernel
theorem dX1_constant_69 : decode cX1_constant 69 = .ok (.goto (-41), 3) := by decide +kernel
theorem dX1_constant_72 : decode cX1_constant 72 = .ok (.iload 5, 2) := by decide +kernel
theorem dX1_constant_74 : decode cX1_constant 74 = .ok (.iconst 1, 1) := by decide +kernel
theorem dX1_constant_75 : decode cX1_constant 75 = .ok (.iand, 1) := by decide +kernel
theorem dX1_constant_76 : decode cX1_constant 76 = .ok (.ifCond .eq 13, 3) := by decide +kernel
theorem dX1_constant_79 : decode cX1_constant 79 = .ok (.lload_n 1, 1) := by decide +kernel
theorem dX1_constant_80 : decode cX1_constant 80 = .ok (.lconst 1, 1) := by decide +kernel
theorem dX1_constant_81 : decode cX1_constant 81 = .ok (.iconst 1, 1) := by decide +kernel
theorem dX1_constant_82 : decode cX1_constant 82 = .ok (.iload_n 3, 1) := by decide +kernel
theorem dX1_constant_83 : decode cX1_constant 83 = .ok (.ishl, 1) := by decide +kernel
theorem dX1_constant_84 : decode cX1_constant 84 = .ok (.iconst 1, 1) := by decide +kernel
theorem dX1_constant_85 : decode cX1_constant 85 = .ok (.isub, 1) := by decide +kernel
theorem dX1_constant_86 : decode cX1_constant 86 = .ok (.lshl, 1) := by decide +kernel
theorem dX1_constant_87 : decode cX1_constant 87 = .ok (.lor, 1) := by decide +kernel
theorem dX1_constant_88 : decode cX1_constant 88 = .ok (.lstore_n 1, 1) := by decide +kernel
theorem dX1_constant_89 : decode cX1_constant 89 = .ok (.iinc 3 1, 3) := by decide +kernel
theorem dX1_constant_92 : decode cX1_constant 92 = .ok (.goto (-88), 3) := by decide +kernel
theorem dX1_constant_95 : decode cX1_constant 95 = .ok (.lload_n 1, 1) := by decide +kernel
theorem dX1_constant_96 : decode cX1_constant 96 = .ok (.lreturn, 1) := by decide +kernel
set_option maxRecDepth 20000 in
theorem ggX1_init_X1_constant : GoodIn wsX1_init wsX1_constant := goodIn_r _ [16] (by decide +kernel) (by decide +kernel)
set_option maxRecDepth 20000 in
theorem gX1_init_X1_constant : GoodIn wsX1_init (va_wsS RX1 39 yX1_constant wsX1_constant) := goodIn_app (goodIn_of _ (by decide +kernel)) ggX1_init_X1_constant
theorem dX1_init_0 : decode cX1_init 0 = .ok (.aload_n 0, 1) := by decide +kernel
theorem dX1_init_1 : decode cX1_init 1 = .ok (.invokespecial 24, 3) := by decide +kernel
theorem dX1_init_4 : decode cX1_init 4 = .ok (.aload_n 0, 1) := by decide +kernel
theorem dX1_init_5 : decode cX1_init 5 = .ok (.bipush 8, 2) := by decide +kernel
theorem dX1_init_7 : decode cX1_init 7 = .ok (.bipush 25, 2) := by decide +kernel
theorem dX1_init_9 : decode cX1_init 9 = .ok (.multianewarray 30 2, 4) := by decide +kernel
theorem dX1_init_13 : decode cX1_init 13 = .ok (.putfield 32, 3) := by decide +kernel
theorem dX1_init_16 : decode cX1_init 16 = .ok (.aload_n 0, 1) := by decide +kernel
theorem dX1_init_17 : decode cX1_init 17 = .ok (.bipush 8, 2) := by decide +kernel
theorem dX1_init_19 : decode cX1_init 19 = .ok (.newarray .int, 2) := by decide +kernel
theorem dX1_init_21 : decode cX1_init 21 = .ok (.putfield 35, 3) := by decide +kernel
theorem dX1_init_24 : decode cX1_init 24 = .ok (.aload_n 0, 1) := by decide +kernel
theorem dX1_init_25 : decode cX1_init 25 = .ok (.bipush 25, 2) := by decide +kernel
theorem dX1_init_27 : decode cX1_init 27 = .ok (.newarray .long, 2) := by decide +kernel
theorem dX1_init_29 : decode cX1_init 29 = .ok (.putfield 7, 3) := by decide +kernel
theorem dX1_init_32 : decode cX1_init 32 = .ok (.aload_n 0, 1) := by decide +kernel
theorem dX1_init_33 : decode cX1_init 33 = .ok (.iconst 5, 1) := by decide +kernel
theorem dX1_init_34 : decode cX1_init 34 = .ok (.newarray .long, 2) := by decide +kernel
theorem dX1_init_36 : decode cX1_init 36 = .ok (.putfield 1, 3) := by decide +kernel
theorem dX1_init_39 : decode cX1_init 39 = .ok (.aload_n 0, 1) := by decide +kernel
theorem dX1_init_40 : decode cX1_init 40 = .ok (.bipush 25, 2) := by decide +kernel
theorem dX1_init_42 : decode cX1_init 42 = .ok (.newarray .long, 2) := by decide +kernel
theorem dX1_init_44 : decode cX1_init 44 = .ok (.putfield 16, 3) := by decide +kernel
theorem dX1_init_47 : decode cX1_init 47 = .ok (.aload_n 0, 1) := by decide +kernel
theorem dX1_init_48 : decode cX1_init 48 = .ok (.bipush 24, 2) := by decide +kernel
theorem dX1_init_50 : decode cX1_init 50 = .ok (.newarray .long, 2) := by decide +kernel
theorem dX1_init_52 : decode cX1_init 52 = .ok (.putfield 21, 3) := by decide +kernel
theorem dX1_init_55 : decode cX1_init 55 = .ok (.iconst 0, 1) := by decide +kernel
theorem dX1_init_56 : decode cX1_init 56 = .ok (.istore_n 1, 1) := by decide +kernel
theorem dX1_init_57 : decode cX1_init 57 = .ok (.iload_n 1, 1) := by decide +kernel
theorem dX1_init_58 : decode cX1_init 58 = .ok (.bipush 24, 2) := by decide +kernel
theorem dX1_init_60 : decode cX1_init 60 = .ok (.if_icmp .ge 19, 3) := by decide +kernel
theorem dX1_init_63 : decode cX1_init 63 = .ok (.aload_n 0, 1) := by decide +kernel
theorem dX1_init_64 : decode cX1_init 64 = .ok (.getfield 21, 3) := by decide +kernel
theorem dX1_init_67 : decode cX1_init 67 = .ok (.iload_n 1, 1) := by decide +kernel
theorem dX1_init_68 : decode cX1_init 68 = .ok (.iload_n 1, 1) := by decide +kernel
theorem dX1_init_69 : decode cX1_init 69 = .ok (.invokestatic 39, 3) := by decide +kernel
theorem dX1_init_72 : decode cX1_init 72 = .ok (.lastore, 1) := by decide +kernel
theorem dX1_init_73 : decode cX1_init 73 = .ok (.iinc 1 1, 3) := by decide +kernel
theorem dX1_init_76 : decode cX1_init 76 = .ok (.goto (-19), 3) := by decide +kernel
theorem dX1_init_79 : decode cX1_init 79 = .ok (.return_, 1) := by decide +kernel
theorem dX1_thrown_0 : decode cX1_thrown 0 = .ok (.aload_n 0, 1) := by decide +kernel
theorem dX1_thrown_1 : decode cX1_thrown 1 = .ok (.getfield 43, 3) := by decide +kernel
theorem dX1_thrown_4 : decode cX1_thrown 4 = .ok (.ireturn, 1) := by decide +kernel
theorem dX1_clear_0 : decode cX1_clear 0 = .ok (.aload_n 0, 1) := by decide +kernel
theorem dX1_clear_1 : decode cX1_clear 1 = .ok (.iconst 0, 1) := by decide +kernel
theorem dX1_clear_2 : decode cX1_clear 2 = .ok (.putfield 43, 3) := by decide +kernel
theorem dX1_clear_5 : decode cX1_clear 5 = .ok (.aload_n 0, 1) := by decide +kernel
theorem dX1_clear_6 : decode cX1_clear 6 = .ok (.iload_n 1, 1) := by decide +kernel
theorem dX1_clear_7 : decode cX1_clear 7 = .ok (.invokevirtual 47, 3) := by decide +kernel
theorem dX1_clear_10 : decode cX1_clear 10 = .ok (.ifCond .eq 11, 3) := by decide +kernel
theorem dX1_clear_13 : decode cX1_clear 13 = .ok (.aload_n 0, 1) := by decide +kernel
theorem dX1_clear_14 : decode cX1_clear 14 = .ok (.iconst 1, 1) := by decide +kernel
theorem dX1_clear_15 : decode cX1_clear 15 = .ok (.putfield 43, 3) := by decide +kernel
theorem dX1_clear_18 : decode cX1_clear 18 = .ok (.goto 33, 3) := by decide +kernel
theorem dX1_clear_21 : decode cX1_clear 21 = .ok (.iconst 0, 1) := by decide +kernel
theorem dX1_clear_22 : decode cX1_clear 22 = .ok (.istore_n 2, 1) := by decide +kernel
theorem dX1_clear_23 : decode cX1_clear 23 = .ok (.iload_n 2, 1) := by decide +kernel
theorem dX1_clear_24 : decode cX1_clear 24 = .ok (.bipush 25, 2) := by decide +kernel
theorem dX1_clear_26 : decode cX1_clear 26 = .ok (.if_icmp .ge 18, 3) := by decide +kernel
theorem dX1_clear_29 : decode cX1_clear 29 = .ok (.aload_n 0, 1) := by decide +kernel
theorem dX1_clear_30 : decode cX1_clear 30 = .ok (.getfield 32, 3) := by decide +kernel
theorem dX1_clear_33 : decode cX1_clear 33 = .ok (.iload_n 1, 1) := by decide +kernel
theorem dX1_clear_34 : decode cX1_clear 34 = .ok (.aaload, 1) := by decide +kernel
theorem dX1_clear_35 : decode cX1_clear 35 = .ok (.iload_n 2, 1) := by decide +kernel
theorem dX1_clear_36 : decode cX1_clear 36 = .ok (.lconst 0, 1) := by decide +kernel
theorem dX1_clear_37 : decode cX1_clear 37 = .ok (.lastore, 1) := by decide +kernel
theorem dX1_clear_38 : decode cX1_clear 38 = .ok (.iinc 2 1, 3) := by decide +kernel
theorem dX1_clear_41 : decode cX1_clear 41 = .ok (.goto (-18), 3) := by decide +kernel
theorem dX1_clear_44 : decode cX1_clear 44 = .ok (.aload_n 0, 1) := by decide +kernel
theorem dX1_clear_45 : decode cX1_clear 45 = .ok (.getfield 35, 3) := by decide +kernel
theorem dX1_clear_48 : decode cX1_clear 48 = .ok (.iload_n 1, 1) := by decide +kernel
theorem dX1_clear_49 : decode cX1_clear 49 = .ok (.iconst 0, 1) := by decide +kernel
theorem dX1_clear_50 : decode cX1_clear 50 = .ok (.iastore, 1) := by decide +kernel
theorem dX1_clear_51 : decode cX1_clear 51 = .ok (.return_, 1) := by decide +kernel
set_option maxRecDepth 20000 in
theorem ggL_clear_X0_clear : GoodIn wsL_clear wsX0_clear := goodIn_ca (goodIn_r _ [6, 7, 8, 9, 10, 5, 11, 12, 13, 14, 15, 16, 17] (by decide +kernel) (by decide +kernel)) (goodIn_sub (fun _ h => List.mem_cons_of_mem _ (List.mem_append_right _ h)) (by decide +kernel))
set_option maxRecDepth 20000 in
theorem gL_clear_X0_clear : GoodIn wsL_clear (wsV RL 7 RX0 yX0_clear wsX0_clear) := goodIn_app (goodIn_of _ (by decide +kernel)) ggL_clear_X0_clear
theorem dL_clear_0 : decode cL_clear 0 = .ok (.aload_n 0, 1) := by decide +kernel
theorem dL_clear_1 : decode cL_clear 1 = .ok (.iload_n 1, 1) := by decide +kernel
theorem dL_clear_2 : decode cL_clear 2 = .ok (.invokevirtual 7, 3) := by decide +kernel
theorem dL_clear_5 : decode cL_clear 5 = .ok (.goto 6, 3) := by decide +kernel
theorem dL_clear_8 : decode cL_clear 8 = .ok (.astore_n 2, 1) := by decide +kernel
theorem dL_clear_9 : decode cL_clear 9 = .ok (.iconst 1, 1) := by decide +kernel
theorem dL_clear_10 : decode cL_clear 10 = .ok (.ireturn, 1) := by decide +kernel
theorem dL_clear_11 : decode cL_clear 11 = .ok (.iconst 0, 1) := by decide +kernel
theorem dL_clear_12 : decode cL_clear 12 = .ok (.ireturn, 1) := by decide +kernel
set_option maxRecDepth 20000 in
theorem ggL_take_X0_take : GoodIn wsL_take wsX0_take := goodIn_ca (goodIn_r _ [6, 7, 8, 9, 5, 10, 11, 12, 13, 14, 15, 16, 17, 18, 19, 20, 21, 22, 23, 24, 25, 26, 27, 28, 29, 30, 31, 32, 33, 34, 35, 36, 37, 38, 39, 40, 41, 42, 43, 44, 45, 46, 47, 48, 49, 50, 51, 52, 53] (by decide +kernel) (by decide +kernel)) (goodIn_sub (fun _ h => List.mem_cons_of_mem _ (List.mem_append_right _ h)) (by decide +kernel))
set_option maxRecDepth 20000 in
theorem gL_take_X0_take : GoodIn wsL_take (wsV RL 15 RX0 yX0_take wsX0_take) := goodIn_app (goodIn_of _ (by decide +kernel)) ggL_take_X0_take
theorem dL_take_0 : decode cL_take 0 = .ok (.aload 5, 2) := by decide +kernel
theorem dL_take_2 : decode cL_take 2 = .ok (.iconst 0, 1) := by decide +kernel
theorem dL_take_3 : decode cL_take 3 = .ok (.aload_n 0, 1) := by decide +kernel
theorem dL_take_4 : decode cL_take 4 = .ok (.iload_n 1, 1) := by decide +kernel
theorem dL_take_5 : decode cL_take 5 = .ok (.lload_n 2, 1) := by decide +kernel
theorem dL_take_6 : decode cL_take 6 = .ok (.iload 4, 2) := by decide +kernel
theorem dL_take_8 : decode cL_take 8 = .ok (.invokevirtual 15, 3) := by decide +kernel
theorem dL_take_11 : decode cL_take 11 = .ok (.i2l, 1) := by decide +kernel
theorem dL_take_12 : decode cL_take 12 = .ok (.lastore, 1) := by decide +kernel
theorem dL_take_13 : decode cL_take 13 = .ok (.goto 7, 3) := by decide +kernel
theorem dL_take_16 : decode cL_take 16 = .ok (.astore 6, 2) := by decide +kernel
theorem dL_take_18 : decode cL_take 18 = .ok (.iconst 1, 1) := by decide +kernel
theorem dL_take_19 : decode cL_take 19 = .ok (.ireturn, 1) := by decide +kernel
theorem dL_take_20 : decode cL_take 20 = .ok (.iconst 0, 1) := by decide +kernel
theorem dL_take_21 : decode cL_take 21 = .ok (.ireturn, 1) := by decide +kernel
set_option maxRecDepth 20000 in
theorem ggL_fill_X0_fill : GoodIn wsL_fill wsX0_fill := goodIn_ca (goodIn_r _ [6, 7, 8, 9, 5, 10, 11, 12, 13, 14, 15, 16, 17, 18, 19, 20, 21, 22, 23, 24, 25, 26, 27, 28, 29, 30, 31, 32, 33, 34, 35, 36, 37, 38, 39, 40, 41, 42, 43, 44, 45, 46, 47, 48, 49, 50, 51, 52, 53] (by decide +kernel) (by decide +kernel)) (goodIn_sub (fun _ h => List.mem_cons_of_mem _ (List.mem_append_right _ h)) (by decide +kernel))
set_option maxRecDepth 20000 in
theorem gL_fill_X0_fill : GoodIn wsL_fill (wsV RL 19 RX0 yX0_fill wsX0_fill) := goodIn_app (goodIn_of _ (by decide +kernel)) ggL_fill_X0_fill
theorem dL_fill_0 : decode cL_fill 0 = .ok (.aload 5, 2) := by decide +kernel
theorem dL_fill_2 : decode cL_fill 2 = .ok (.iconst 0, 1) := by decide +kernel
theorem dL_fill_3 : decode cL_fill 3 = .ok (.aload_n 0, 1) := by decide +kernel
theorem dL_fill_4 : decode cL_fill 4 = .ok (.iload_n 1, 1) := by decide +kernel
theorem dL_fill_5 : decode cL_fill 5 = .ok (.iload_n 2, 1) := by decide +kernel
theorem dL_fill_6 : decode cL_fill 6 = .ok (.iload_n 3, 1) := by decide +kernel
theorem dL_fill_7 : decode cL_fill 7 = .ok (.iload 4, 2) := by decide +kernel
theorem dL_fill_9 : decode cL_fill 9 = .ok (.invokevirtual 19, 3) := by decide +kernel
theorem dL_fill_12 : decode cL_fill 12 = .ok (.i2l, 1) := by decide +kernel
theorem dL_fill_13 : decode cL_fill 13 = .ok (.lastore, 1) := by decide +kernel
theorem dL_fill_14 : decode cL_fill 14 = .ok (.goto 7, 3) := by decide +kernel
theorem dL_fill_17 : decode cL_fill 17 = .ok (.astore 6, 2) := by decide +kernel
theorem dL_fill_19 : decode cL_fill 19 = .ok (.iconst 1, 1) := by decide +kernel
theorem dL_fill_20 : decode cL_fill 20 = .ok (.ireturn, 1) := by decide +kernel
theorem dL_fill_21 : decode cL_fill 21 = .ok (.iconst 0, 1) := by decide +kernel
theorem dL_fill_22 : decode cL_fill 22 = .ok (.ireturn, 1) := by decide +kernel
set_option maxRecDepth 20000 in
theorem ggL_copy_X0_copy : GoodIn wsL_copy wsX0_copy := goodIn_ca (goodIn_r _ [6, 7, 8, 5, 9, 10, 11, 12, 13, 14, 15, 16, 17, 18, 19, 20, 21, 22, 23, 24, 25] (by decide +kernel) (by decide +kernel)) (goodIn_sub (fun _ h => List.mem_cons_of_mem _ (List.mem_append_right _ h)) (by decide +kernel))
set_option maxRecDepth 20000 in
theorem gL_copy_X0_copy : GoodIn wsL_copy (wsV RL 23 RX0 yX0_copy wsX0_copy) := goodIn_app (goodIn_of _ (by decide +kernel)) ggL_copy_X0_copy
theorem dL_copy_0 : decode cL_copy 0 = .ok (.aload_n 0, 1) := by decide +kernel
theorem dL_copy_1 : decode cL_copy 1 = .ok (.iload_n 1, 1) := by decide +kernel
theorem dL_copy_2 : decode cL_copy 2 = .ok (.iload_n 2, 1) := by decide +kernel
theorem dL_copy_3 : decode cL_copy 3 = .ok (.invokevirtual 23, 3) := by decide +kernel
theorem dL_copy_6 : decode cL_copy 6 = .ok (.goto 6, 3) := by decide +kernel
theorem dL_copy_9 : decode cL_copy 9 = .ok (.astore_n 3, 1) := by decide +kernel
theorem dL_copy_10 : decode cL_copy 10 = .ok (.iconst 1, 1) := by decide +kernel
theorem dL_copy_11 : decode cL_copy 11 = .ok (.ireturn, 1) := by decide +kernel
theorem dL_copy_12 : decode cL_copy 12 = .ok (.iconst 0, 1) := by decide +kernel
theorem dL_copy_13 : decode cL_copy 13 = .ok (.ireturn, 1) := by decide +kernel
set_option maxRecDepth 20000 in
theorem ggL_mix_X0_mix : GoodIn wsL_mix wsX0_mix := goodIn_ca (goodIn_r _ [6, 7, 8, 9, 5, 10, 11, 12, 13, 14, 15, 16, 17, 18, 19, 20, 21, 22, 23, 24, 25, 26, 27, 28, 29, 30, 31, 32, 33, 34, 35, 36, 37, 38, 39, 40, 41, 42, 43, 44] (by decide +kernel) (by decide +kernel)) (goodIn_sub (fun _ h => List.mem_cons_of_mem _ (List.mem_append_right _ h)) (by decide +kernel))
set_option maxRecDepth 20000 in
theorem gL_mix_X0_mix : GoodIn wsL_mix (wsV RL 27 RX0 yX0_mix wsX0_mix) := goodIn_app (goodIn_of _ (by decide +kernel)) ggL_mix_X0_mix
theorem dL_mix_0 : decode cL_mix 0 = .ok (.aload_n 0, 1) := by decide +kernel
theorem dL_mix_1 : decode cL_mix 1 = .ok (.iload_n 1, 1) := by decide +kernel
theorem dL_mix_2 : decode cL_mix 2 = .ok (.invokevirtual 27, 3) := by decide +kernel
theorem dL_mix_5 : decode cL_mix 5 = .ok (.goto 6, 3) := by decide +kernel
theorem dL_mix_8 : decode cL_mix 8 = .ok (.astore_n 2, 1) := by decide +kernel
theorem dL_mix_9 : decode cL_mix 9 = .ok (.iconst 1, 1) := by decide +kernel
theorem dL_mix_10 : decode cL_mix 10 = .ok (.ireturn, 1) := by decide +kernel
theorem dL_mix_11 : decode cL_mix 11 = .ok (.iconst 0, 1) := by decide +kernel
theorem dL_mix_12 : decode cL_mix 12 = .ok (.ireturn, 1) := by decide +kernel
set_option maxRecDepth 20000 in
theorem ggL_lane_X0_lane : GoodIn wsL_lane wsX0_lane := goodIn_ca (goodIn_r _ [6, 7, 8, 9, 5, 10, 11, 12, 13, 14, 15, 16] (by decide +kernel) (by decide +kernel)) (goodIn_sub (fun _ h => List.mem_cons_of_mem _ (List.mem_append_right _ h)) (by decide +kernel))
set_option maxRecDepth 20000 in
theorem gL_lane_X0_lane : GoodIn wsL_lane (wsV RL 30 RX0 yX0_lane wsX0_lane) := goodIn_app (goodIn_of _ (by decide +kernel)) ggL_lane_X0_lane
theorem dL_lane_0 : decode cL_lane 0 = .ok (.aload_n 3, 1) := by decide +kernel
theorem dL_lane_1 : decode cL_lane 1 = .ok (.iconst 0, 1) := by decide +kernel
theorem dL_lane_2 : decode cL_lane 2 = .ok (.aload_n 0, 1) := by decide +kernel
theorem dL_lane_3 : decode cL_lane 3 = .ok (.iload_n 1, 1) := by decide +kernel
theorem dL_lane_4 : decode cL_lane 4 = .ok (.iload_n 2, 1) := by decide +kernel
theorem dL_lane_5 : decode cL_lane 5 = .ok (.invokevirtual 30, 3) := by decide +kernel
theorem dL_lane_8 : decode cL_lane 8 = .ok (.lastore, 1) := by decide +kernel
theorem dL_lane_9 : decode cL_lane 9 = .ok (.goto 7, 3) := by decide +kernel
theorem dL_lane_12 : decode cL_lane 12 = .ok (.astore 4, 2) := by decide +kernel
theorem dL_lane_14 : decode cL_lane 14 = .ok (.iconst 1, 1) := by decide +kernel
theorem dL_lane_15 : decode cL_lane 15 = .ok (.ireturn, 1) := by decide +kernel
theorem dL_lane_16 : decode cL_lane 16 = .ok (.iconst 0, 1) := by decide +kernel
theorem dL_lane_17 : decode cL_lane 17 = .ok (.ireturn, 1) := by decide +kernel
set_option maxRecDepth 20000 in
theorem ggL_digest_X0_digest : GoodIn wsL_digest wsX0_digest := goodIn_ca (goodIn_r _ [6, 7, 8, 9, 10, 5, 11, 12, 13, 14, 15, 16, 17, 18, 19, 20, 21, 22, 23, 24, 25, 26, 27, 28, 29, 30, 31, 32, 33, 34, 35, 36, 37, 38, 39, 40, 41, 42, 43, 44, 45, 46, 47, 48, 49, 50, 51, 52, 53, 54, 55, 56, 57, 58, 59, 60] (by decide +kernel) (by decide +kernel)) (goodIn_sub (fun _ h => List.mem_cons_of_mem _ (List.mem_append_right _ h)) (by decide +kernel))
set_option maxRecDepth 20000 in
theorem gL_digest_X0_digest : GoodIn wsL_digest (wsV RL 34 RX0 yX0_digest wsX0_digest) := goodIn_app (goodIn_of _ (by decide +kernel)) ggL_digest_X0_digest
theorem dL_digest_0 : decode cL_digest 0 = .ok (.aload_n 3, 1) := by decide +kernel
theorem dL_digest_1 : decode cL_digest 1 = .ok (.iconst 0, 1) := by decide +kernel
theorem dL_digest_2 : decode cL_digest 2 = .ok (.aload_n 0, 1) := by decide +kernel
theorem dL_digest_3 : decode cL_digest 3 = .ok (.iload_n 1, 1) := by decide +kernel
theorem dL_digest_4 : decode cL_digest 4 = .ok (.iload_n 2, 1) := by decide +kernel
theorem dL_digest_5 : decode cL_digest 5 = .ok (.invokevirtual 34, 3) := by decide +kernel
theorem dL_digest_8 : decode cL_digest 8 = .ok (.lastore, 1) := by decide +kernel
theorem dL_digest_9 : decode cL_digest 9 = .ok (.goto 7, 3) := by decide +kernel
theorem dL_digest_12 : decode cL_digest 12 = .ok (.astore 4, 2) := by decide +kernel
theorem dL_digest_14 : decode cL_digest 14 = .ok (.iconst 1, 1) := by decide +kernel
theorem dL_digest_15 : decode cL_digest 15 = .ok (.ireturn, 1) := by decide +kernel
theorem dL_digest_16 : decode cL_digest 16 = .ok (.iconst 0, 1) := by decide +kernel
theorem dL_digest_17 : decode cL_digest 17 = .ok (.ireturn, 1) := by decide +kernel
set_option maxRecDepth 20000 in
theorem ggL_law_X0_init : GoodIn wsL_law wsX0_init := goodIn_r _ [9, 10, 11, 12, 13, 6, 14, 15, 16, 17, 18, 143, 144, 145, 146] (by decide +kernel) (by decide +kernel)
set_option maxRecDepth 20000 in
theorem gL_law_X0_init : GoodIn wsL_law (wsX0_init) := ggL_law_X0_init
set_option maxRecDepth 20000 in
theorem ggL_law_X1_init : GoodIn wsL_law wsX1_init := goodIn_r _ [21, 22, 11, 12, 23, 6, 24, 15, 25, 26, 27, 28, 29, 30, 31, 5, 32, 147, 148, 149, 150, 151, 152, 153] (by decide +kernel) (by decide +kernel)
set_option maxRecDepth 20000 in
theorem gL_law_X1_init : GoodIn wsL_law (wsX1_init) := ggL_law_X1_init
set_option maxRecDepth 20000 in
theorem ggL_law_L_clear : GoodIn wsL_law wsL_clear := goodIn_ca (goodIn_r _ [36, 37, 38, 39, 40, 2, 41, 14, 16, 42, 43, 44, 45, 46, 143, 144, 145, 146] (by decide +kernel) (by decide +kernel)) (goodIn_sub (fun _ h => List.mem_append_right _ h) (by decide +kernel))
set_option maxRecDepth 20000 in
theorem gL_law_L_clear : GoodIn wsL_law (va_wsS RL 41 yL_clear wsL_clear) := goodIn_app (goodIn_of _ (by decide +kernel)) ggL_law_L_clear
set_option maxRecDepth 20000 in
theorem ggL_law_X1_clear : GoodIn wsL_law wsX1_clear := goodIn_r _ [50, 51, 24, 25, 147, 148, 149, 150, 151, 152, 153] (by decide +kernel) (by decide +kernel)
set_option maxRecDepth 20000 in
theorem gL_law_X1_clear : GoodIn wsL_law (wsV RL 46 RX1 yX1_clear wsX1_clear) := goodIn_app (goodIn_of _ (by decide +kernel)) ggL_law_X1_clear
set_option maxRecDepth 20000 in
theorem ggL_law_X1_thrown : GoodIn wsL_law wsX1_thrown := goodIn_r _ [55, 51, 147, 148, 149, 150, 151, 152, 153] (by decide +kernel) (by decide +kernel)
set_option maxRecDepth 20000 in
theorem gL_law_X1_thrown : GoodIn wsL_law (wsV RL 47 RX1 yX1_thrown wsX1_thrown) := goodIn_app (goodIn_of _ (by decide +kernel)) ggL_law_X1_thrown
set_option maxRecDepth 20000 in
theorem ggL_law_L_take : GoodIn wsL_law wsL_take := goodIn_ca (goodIn_r _ [58, 37, 59, 60, 61, 2, 62, 16, 42, 43, 44, 45, 46, 63, 64, 65, 66, 14, 67, 68, 69, 70, 71, 72, 73, 74, 75, 76, 77, 78, 79, 17, 80, 81, 82, 83, 84, 85, 86, 87, 88, 89, 18, 90, 91, 92, 93, 94, 95, 96, 143, 144, 145, 146] (by decide +kernel) (by decide +kernel)) (goodIn_sub (fun _ h => List.mem_append_right _ h) (by decide +kernel))
set_option maxRecDepth 20000 in
theorem gL_law_L_take : GoodIn wsL_law (va_wsS RL 53 yL_take wsL_take) := goodIn_app (goodIn_of _ (by decide +kernel)) ggL_law_L_take
set_option maxRecDepth 20000 in
theorem ggL_law_L_fill : GoodIn wsL_law wsL_fill := goodIn_ca (goodIn_r _ [99, 37, 100, 101, 102, 2, 103, 16, 42, 43, 44, 45, 46, 63, 64, 65, 66, 14, 67, 68, 69, 70, 71, 72, 73, 74, 75, 76, 77, 78, 79, 17, 80, 81, 82, 83, 84, 85, 86, 87, 88, 89, 18, 90, 91, 92, 93, 94, 95, 96, 143, 144, 145, 146] (by decide +kernel) (by decide +kernel)) (goodIn_sub (fun _ h => List.mem_append_right _ h) (by decide +kernel))
set_option maxRecDepth 20000 in
theorem gL_law_L_fill : GoodIn wsL_law (va_wsS RL 57 yL_fill wsL_fill) := goodIn_app (goodIn_of _ (by decide +kernel)) ggL_law_L_fill
set_option maxRecDepth 20000 in
theorem ggL_law_L_copy : GoodIn wsL_law wsL_copy := goodIn_ca (goodIn_r _ [106, 37, 107, 108, 109, 2, 110, 42, 43, 44, 45, 46, 111, 112, 113, 114, 14, 115, 116, 117, 118, 16, 143, 144, 145, 146] (by decide +kernel) (by decide +kernel)) (goodIn_sub (fun _ h => List.mem_append_right _ h) (by decide +kernel))
set_option maxRecDepth 20000 in
theorem gL_law_L_copy : GoodIn wsL_law (va_wsS RL 61 yL_copy wsL_copy) := goodIn_app (goodIn_of _ (by decide +kernel)) ggL_law_L_copy
set_option maxRecDepth 20000 in
theorem ggL_law_L_mix : GoodIn wsL_law wsL_mix := goodIn_ca (goodIn_r _ [121, 37, 122, 123, 124, 2, 125, 14, 42, 43, 44, 45, 46, 71, 72, 73, 74, 75, 76, 77, 78, 79, 17, 80, 81, 82, 83, 84, 85, 86, 87, 88, 89, 18, 90, 91, 92, 93, 94, 95, 96, 143, 144, 145, 146] (by decide +kernel) (by decide +kernel)) (goodIn_sub (fun _ h => List.mem_append_right _ h) (by decide +kernel))
set_option maxRecDepth 20000 in
theorem gL_law_L_mix : GoodIn wsL_law (va_wsS RL 65 yL_mix wsL_mix) := goodIn_app (goodIn_of _ (by decide +kernel)) ggL_law_L_mix
set_option maxRecDepth 20000 in
theorem ggL_law_L_lane : GoodIn wsL_law wsL_lane := goodIn_ca (goodIn_r _ [128, 37, 129, 130, 131, 2, 132, 14, 42, 43, 44, 45, 46, 143, 144, 145, 146] (by decide +kernel) (by decide +kernel)) (goodIn_sub (fun _ h => List.mem_append_right _ h) (by decide +kernel))
set_option maxRecDepth 20000 in
theorem gL_law_L_lane : GoodIn wsL_law (va_wsS RL 68 yL_lane wsL_lane) := goodIn_app (goodIn_of _ (by decide +kernel)) ggL_law_L_lane
set_option maxRecDepth 20000 in
theorem ggL_law_L_digest : GoodIn wsL_law wsL_digest := goodIn_ca (goodIn_r _ [135, 37, 136, 137, 138, 2, 139, 14, 16, 42, 43, 44, 45, 46, 111, 112, 113, 114, 115, 116, 117, 118, 67, 68, 69, 70, 71, 72, 73, 74, 75, 76, 77, 78, 79, 17, 80, 81, 82, 83, 84, 85, 86, 87, 88, 89, 18, 90, 91, 92, 93, 94, 95, 96, 140, 141, 142, 143, 144, 145, 146] (by decide +kernel) (by decide +kernel)) (goodIn_sub (fun _ h => List.mem_append_right _ h) (by decide +kernel))
set_option maxRecDepth 20000 in
theorem gL_law_L_digest : GoodIn wsL_law (va_wsS RL 72 yL_digest wsL_digest) := goodIn_app (goodIn_of _ (by decide +kernel)) ggL_law_L_digest
theorem dL_law_0 : decode cL_law 0 = .ok (.new 8, 3) := by decide +kernel
theorem dL_law_3 : decode cL_law 3 = .ok (.dup, 1) := by decide +kernel
theorem dL_law_4 : decode cL_law 4 = .ok (.invokespecial 37, 3) := by decide +kernel
theorem dL_law_7 : decode cL_law 7 = .ok (.astore_n 1, 1) := by decide +kernel
theorem dL_law_8 : decode cL_law 8 = .ok (.new 38, 3) := by decide +kernel
theorem dL_law_11 : decode cL_law 11 = .ok (.dup, 1) := by decide +kernel
theorem dL_law_12 : decode cL_law 12 = .ok (.invokespecial 40, 3) := by decide +kernel
theorem dL_law_15 : decode cL_law 15 = .ok (.astore_n 2, 1) := by decide +kernel
theorem dL_law_16 : decode cL_law 16 = .ok (.iconst 1, 1) := by decide +kernel
theorem dL_law_17 : decode cL_law 17 = .ok (.newarray .long, 2) := by decide +kernel
theorem dL_law_19 : decode cL_law 19 = .ok (.astore_n 3, 1) := by decide +kernel
theorem dL_law_20 : decode cL_law 20 = .ok (.iconst 0, 1) := by decide +kernel
theorem dL_law_21 : decode cL_law 21 = .ok (.istore 4, 2) := by decide +kernel
theorem dL_law_23 : decode cL_law 23 = .ok (.iload 4, 2) := by decide +kernel
theorem dL_law_25 : decode cL_law 25 = .ok (.aload_n 0, 1) := by decide +kernel
theorem dL_law_26 : decode cL_law 26 = .ok (.arraylength, 1) := by decide +kernel
theorem dL_law_27 : decode cL_law 27 = .ok (.iconst 5, 1) := by decide +kernel
theorem dL_law_28 : decode cL_law 28 = .ok (.isub, 1) := by decide +kernel
theorem dL_law_29 : decode cL_law 29 = .ok (.if_icmp .gt 515, 3) := by decide +kernel
theorem dL_law_32 : decode cL_law 32 = .ok (.aload_n 0, 1) := by decide +kernel
theorem dL_law_33 : decode cL_law 33 = .ok (.iload 4, 2) := by decide +kernel
theorem dL_law_35 : decode cL_law 35 = .ok (.iaload, 1) := by decide +kernel
theorem dL_law_36 : decode cL_law 36 = .ok (.bipush 7, 2) := by decide +kernel
theorem dL_law_38 : decode cL_law 38 = .ok (.iand, 1) := by decide +kernel
theorem dL_law_39 : decode cL_law 39 = .ok (.tableswitch 499 0 6 #[41, 77, 189, 281, 329, 365, 432], 41) := by decide +kernel
theorem dL_law_80 : decode cL_law 80 = .ok (.aload_n 1, 1) := by decide +kernel
theorem dL_law_81 : decode cL_law 81 = .ok (.aload_n 0, 1) := by decide +kernel
theorem dL_law_82 : decode cL_law 82 = .ok (.iload 4, 2) := by decide +kernel
theorem dL_law_84 : decode cL_law 84 = .ok (.iconst 1, 1) := by decide +kernel
theorem dL_law_85 : decode cL_law 85 = .ok (.iadd, 1) := by decide +kernel
theorem dL_law_86 : decode cL_law 86 = .ok (.iaload, 1) := by decide +kernel
theorem dL_law_87 : decode cL_law 87 = .ok (.invokestatic 41, 3) := by decide +kernel
theorem dL_law_90 : decode cL_law 90 = .ok (.istore 5, 2) := by decide +kernel
theorem dL_law_92 : decode cL_law 92 = .ok (.aload_n 2, 1) := by decide +kernel
theorem dL_law_93 : decode cL_law 93 = .ok (.aload_n 0, 1) := by decide +kernel
theorem dL_law_94 : decode cL_law 94 = .ok (.iload 4, 2) := by decide +kernel
theorem dL_law_96 : decode cL_law 96 = .ok (.iconst 1, 1) := by decide +kernel
theorem dL_law_97 : decode cL_law 97 = .ok (.iadd, 1) := by decide +kernel
theorem dL_law_98 : decode cL_law 98 = .ok (.iaload, 1) := by decide +kernel
theorem dL_law_99 : decode cL_law 99 = .ok (.invokevirtual 46, 3) := by decide +kernel
theorem dL_law_102 : decode cL_law 102 = .ok (.aload_n 2, 1) := by decide +kernel
theorem dL_law_103 : decode cL_law 103 = .ok (.invokevirtual 47, 3) := by decide +kernel
theorem dL_law_106 : decode cL_law 106 = .ok (.iload 5, 2) := by decide +kernel
theorem dL_law_108 : decode cL_law 108 = .ok (.if_icmp .eq 5, 3) := by decide +kernel
theorem dL_law_111 : decode cL_law 111 = .ok (.iconst 0, 1) := by decide +kernel
theorem dL_law_112 : decode cL_law 112 = .ok (.ireturn, 1) := by decide +kernel
theorem dL_law_113 : decode cL_law 113 = .ok (.goto 425, 3) := by decide +kernel
theorem dL_law_116 : decode cL_law 116 = .ok (.aload_n 1, 1) := by decide +kernel
theorem dL_law_117 : decode cL_law 117 = .ok (.aload_n 0, 1) := by decide +kernel
theorem dL_law_118 : decode cL_law 118 = .ok (.iload 4, 2) := by decide +kernel
theorem dL_law_120 : decode cL_law 120 = .ok (.iconst 1, 1) := by decide +kernel
theorem dL_law_121 : decode cL_law 121 = .ok (.iadd, 1) := by decide +kernel
theorem dL_law_122 : decode cL_law 122 = .ok (.iaload, 1) := by decide +kernel
theorem dL_law_123 : decode cL_law 123 = .ok (.aload_n 0, 1) := by decide +kernel
theorem dL_law_124 : decode cL_law 124 = .ok (.iload 4, 2) := by decide +kernel
theorem dL_law_126 : decode cL_law 126 = .ok (.iconst 2, 1) := by decide +kernel
theorem dL_law_127 : decode cL_law 127 = .ok (.iadd, 1) := by decide +kernel
theorem dL_law_128 : decode cL_law 128 = .ok (.iaload, 1) := by decide +kernel
theorem dL_law_129 : decode cL_law 129 = .ok (.i2l, 1) := by decide +kernel
theorem dL_law_130 : decode cL_law 130 = .ok (.bipush 32, 2) := by decide +kernel
theorem dL_law_132 : decode cL_law 132 = .ok (.lshl, 1) := by decide +kernel
theorem dL_law_133 : decode cL_law 133 = .ok (.aload_n 0, 1) := by decide +kernel
theorem dL_law_134 : decode cL_law 134 = .ok (.iload 4, 2) := by decide +kernel
theorem dL_law_136 : decode cL_law 136 = .ok (.iconst 3, 1) := by decide +kernel
theorem dL_law_137 : decode cL_law 137 = .ok (.iadd, 1) := by decide +kernel
theorem dL_law_138 : decode cL_law 138 = .ok (.iaload, 1) := by decide +kernel
theorem dL_law_139 : decode cL_law 139 = .ok (.i2l, 1) := by decide +kernel
theorem dL_law_140 : decode cL_law 140 = .ok (.ldc2_w 51, 3) := by decide +kernel
theorem dL_law_143 : decode cL_law 143 = .ok (.land, 1) := by decide +kernel
theorem dL_law_144 : decode cL_law 144 = .ok (.lor, 1) := by decide +kernel
theorem dL_law_145 : decode cL_law 145 = .ok (.aload_n 0, 1) := by decide +kernel
theorem dL_law_146 : decode cL_law 146 = .ok (.iload 4, 2) := by decide +kernel
theorem dL_law_148 : decode cL_law 148 = .ok (.iconst 4, 1) := by decide +kernel
theorem dL_law_149 : decode cL_law 149 = .ok (.iadd, 1) := by decide +kernel
theorem dL_law_150 : decode cL_law 150 = .ok (.iaload, 1) := by decide +kernel
theorem dL_law_151 : decode cL_law 151 = .ok (.aload_n 3, 1) := by decide +kernel
theorem dL_law_152 : decode cL_law 152 = .ok (.invokestatic 53, 3) := by decide +kernel
theorem dL_law_155 : decode cL_law 155 = .ok (.istore 5, 2) := by decide +kernel
theorem dL_law_157 : decode cL_law 157 = .ok (.aload_n 2, 1) := by decide +kernel
theorem dL_law_158 : decode cL_law 158 = .ok (.aload_n 0, 1) := by decide +kernel
theorem dL_law_159 : decode cL_law 159 = .ok (.iload 4, 2) := by decide +kernel
theorem dL_law_161 : decode cL_law 161 = .ok (.iconst 1, 1) := by decide +kernel
theorem dL_law_162 : decode cL_law 162 = .ok (.iadd, 1) := by decide +kernel
theorem dL_law_163 : decode cL_law 163 = .ok (.iaload, 1) := by decide +kernel
theorem dL_law_164 : decode cL_law 164 = .ok (.aload_n 0, 1) := by decide +kernel
theorem dL_law_165 : decode cL_law 165 = .ok (.iload 4, 2) := by decide +kernel
theorem dL_law_167 : decode cL_law 167 = .ok (.iconst 2, 1) := by decide +kernel
theorem dL_law_168 : decode cL_law 168 = .ok (.iadd, 1) := by decide +kernel
theorem dL_law_169 : decode cL_law 169 = .ok (.iaload, 1) := by decide +kernel
theorem dL_law_170 : decode cL_law 170 = .ok (.i2l, 1) := by decide +kernel
theorem dL_law_171 : decode cL_law 171 = .ok (.bipush 32, 2) := by decide +kernel
theorem dL_law_173 : decode cL_law 173 = .ok (.lshl, 1) := by decide +kernel
theorem dL_law_174 : decode cL_law 174 = .ok (.aload_n 0, 1) := by decide +kernel
theorem dL_law_175 : decode cL_law 175 = .ok (.iload 4, 2) := by decide +kernel
theorem dL_law_177 : decode cL_law 177 = .ok (.iconst 3, 1) := by decide +kernel
theorem dL_law_178 : decode cL_law 178 = .ok (.iadd, 1) := by decide +kernel
theorem dL_law_179 : decode cL_law 179 = .ok (.iaload, 1) := by decide +kernel
theorem dL_law_180 : decode cL_law 180 = .ok (.i2l, 1) := by decide +kernel
theorem dL_law_181 : decode cL_law 181 = .ok (.ldc2_w 51, 3) := by decide +kernel
theorem dL_law_184 : decode cL_law 184 = .ok (.land, 1) := by decide +kernel
theorem dL_law_185 : decode cL_law 185 = .ok (.lor, 1) := by decide +kernel
theorem dL_law_186 : decode cL_law 186 = .ok (.aload_n 0, 1) := by decide +kernel
theorem dL_law_187 : decode cL_law 187 = .ok (.iload 4, 2) := by decide +kernel
theorem dL_law_189 : decode cL_law 189 = .ok (.iconst 4, 1) := by decide +kernel
theorem dL_law_190 : decode cL_law 190 = .ok (.iadd, 1) := by decide +kernel
theorem dL_law_191 : decode cL_law 191 = .ok (.iaload, 1) := by decide +kernel
theorem dL_law_192 : decode cL_law 192 = .ok (.invokevirtual 56, 3) := by decide +kernel
theorem dL_law_195 : decode cL_law 195 = .ok (.istore 6, 2) := by decide +kernel
theorem dL_law_197 : decode cL_law 197 = .ok (.aload_n 2, 1) := by decide +kernel
theorem dL_law_198 : decode cL_law 198 = .ok (.invokevirtual 47, 3) := by decide +kernel
theorem dL_law_201 : decode cL_law 201 = .ok (.iload 5, 2) := by decide +kernel
theorem dL_law_203 : decode cL_law 203 = .ok (.if_icmp .eq 5, 3) := by decide +kernel
theorem dL_law_206 : decode cL_law 206 = .ok (.iconst 0, 1) := by decide +kernel
theorem dL_law_207 : decode cL_law 207 = .ok (.ireturn, 1) := by decide +kernel
theorem dL_law_208 : decode cL_law 208 = .ok (.iload 5, 2) := by decide +kernel
theorem dL_law_210 : decode cL_law 210 = .ok (.ifCond .ne 15, 3) := by decide +kernel
theorem dL_law_213 : decode cL_law 213 = .ok (.aload_n 3, 1) := by decide +kernel
theorem dL_law_214 : decode cL_law 214 = .ok (.iconst 0, 1) := by decide +kernel
theorem dL_law_215 : decode cL_law 215 = .ok (.laload, 1) := by decide +kernel
theorem dL_law_216 : decode cL_law 216 = .ok (.iload 6, 2) := by decide +kernel
theorem dL_law_218 : decode cL_law 218 = .ok (.i2l, 1) := by decide +kernel
theorem dL_law_219 : decode cL_law 219 = .ok (.lcmp, 1) := by decide +kernel
theorem dL_law_220 : decode cL_law 220 = .ok (.ifCond .eq 5, 3) := by decide +kernel
theorem dL_law_223 : decode cL_law 223 = .ok (.iconst 0, 1) := by decide +kernel
theorem dL_law_224 : decode cL_law 224 = .ok (.ireturn, 1) := by decide +kernel
theorem dL_law_225 : decode cL_law 225 = .ok (.goto 313, 3) := by decide +kernel
theorem dL_law_228 : decode cL_law 228 = .ok (.aload_n 1, 1) := by decide +kernel
theorem dL_law_229 : decode cL_law 229 = .ok (.aload_n 0, 1) := by decide +kernel
theorem dL_law_230 : decode cL_law 230 = .ok (.iload 4, 2) := by decide +kernel
theorem dL_law_232 : decode cL_law 232 = .ok (.iconst 1, 1) := by decide +kernel
theorem dL_law_233 : decode cL_law 233 = .ok (.iadd, 1) := by decide +kernel
theorem dL_law_234 : decode cL_law 234 = .ok (.iaload, 1) := by decide +kernel
theorem dL_law_235 : decode cL_law 235 = .ok (.aload_n 0, 1) := by decide +kernel
theorem dL_law_236 : decode cL_law 236 = .ok (.iload 4, 2) := by decide +kernel
theorem dL_law_238 : decode cL_law 238 = .ok (.iconst 2, 1) := by decide +kernel
theorem dL_law_239 : decode cL_law 239 = .ok (.iadd, 1) := by decide +kernel
theorem dL_law_240 : decode cL_law 240 = .ok (.iaload, 1) := by decide +kernel
theorem dL_law_241 : decode cL_law 241 = .ok (.aload_n 0, 1) := by decide +kernel
theorem dL_law_242 : decode cL_law 242 = .ok (.iload 4, 2) := by decide +kernel
theorem dL_law_244 : decode cL_law 244 = .ok (.iconst 3, 1) := by decide +kernel
theorem dL_law_245 : decode cL_law 245 = .ok (.iadd, 1) := by decide +kernel
theorem dL_law_246 : decode cL_law 246 = .ok (.iaload, 1) := by decide +kernel
theorem dL_law_247 : decode cL_law 247 = .ok (.aload_n 0, 1) := by decide +kernel
theorem dL_law_248 : decode cL_law 248 = .ok (.iload 4, 2) := by decide +kernel
theorem dL_law_250 : decode cL_law 250 = .ok (.iconst 4, 1) := by decide +kernel
theorem dL_law_251 : decode cL_law 251 = .ok (.iadd, 1) := by decide +kernel
theorem dL_law_252 : decode cL_law 252 = .ok (.iaload, 1) := by decide +kernel
theorem dL_law_253 : decode cL_law 253 = .ok (.aload_n 3, 1) := by decide +kernel
theorem dL_law_254 : decode cL_law 254 = .ok (.invokestatic 57, 3) := by decide +kernel
theorem dL_law_257 : decode cL_law 257 = .ok (.istore 5, 2) := by decide +kernel
theorem dL_law_259 : decode cL_law 259 = .ok (.aload_n 2, 1) := by decide +kernel
theorem dL_law_260 : decode cL_law 260 = .ok (.aload_n 0, 1) := by decide +kernel
theorem dL_law_261 : decode cL_law 261 = .ok (.iload 4, 2) := by decide +kernel
theorem dL_law_263 : decode cL_law 263 = .ok (.iconst 1, 1) := by decide +kernel
theorem dL_law_264 : decode cL_law 264 = .ok (.iadd, 1) := by decide +kernel
theorem dL_law_265 : decode cL_law 265 = .ok (.iaload, 1) := by decide +kernel
theorem dL_law_266 : decode cL_law 266 = .ok (.aload_n 0, 1) := by decide +kernel
theorem dL_law_267 : decode cL_law 267 = .ok (.iload 4, 2) := by decide +kernel
theorem dL_law_269 : decode cL_law 269 = .ok (.iconst 2, 1) := by decide +kernel
theorem dL_law_270 : decode cL_law 270 = .ok (.iadd, 1) := by decide +kernel
theorem dL_law_271 : decode cL_law 271 = .ok (.iaload, 1) := by decide +kernel
theorem dL_law_272 : decode cL_law 272 = .ok (.aload_n 0, 1) := by decide +kernel
theorem dL_law_273 : decode cL_law 273 = .ok (.iload 4, 2) := by decide +kernel
theorem dL_law_275 : decode cL_law 275 = .ok (.iconst 3, 1) := by decide +kernel
theorem dL_law_276 : decode cL_law 276 = .ok (.iadd, 1) := by decide +kernel
theorem dL_law_277 : decode cL_law 277 = .ok (.iaload, 1) := by decide +kernel
theorem dL_law_278 : decode cL_law 278 = .ok (.aload_n 0, 1) := by decide +kernel
theorem dL_law_279 : decode cL_law 279 = .ok (.iload 4, 2) := by decide +kernel
theorem dL_law_281 : decode cL_law 281 = .ok (.iconst 4, 1) := by decide +kernel
theorem dL_law_282 : decode cL_law 282 = .ok (.iadd, 1) := by decide +kernel
theorem dL_law_283 : decode cL_law 283 = .ok (.iaload, 1) := by decide +kernel
theorem dL_law_284 : decode cL_law 284 = .ok (.invokevirtual 60, 3) := by decide +kernel
theorem dL_law_287 : decode cL_law 287 = .ok (.istore 6, 2) := by decide +kernel
theorem dL_law_289 : decode cL_law 289 = .ok (.aload_n 2, 1) := by decide +kernel
theorem dL_law_290 : decode cL_law 290 = .ok (.invokevirtual 47, 3) := by decide +kernel
theorem dL_law_293 : decode cL_law 293 = .ok (.iload 5, 2) := by decide +kernel
theorem dL_law_295 : decode cL_law 295 = .ok (.if_icmp .eq 5, 3) := by decide +kernel
theorem dL_law_298 : decode cL_law 298 = .ok (.iconst 0, 1) := by decide +kernel
theorem dL_law_299 : decode cL_law 299 = .ok (.ireturn, 1) := by decide +kernel
theorem dL_law_300 : decode cL_law 300 = .ok (.iload 5, 2) := by decide +kernel
theorem dL_law_302 : decode cL_law 302 = .ok (.ifCond .ne 15, 3) := by decide +kernel
theorem dL_law_305 : decode cL_law 305 = .ok (.aload_n 3, 1) := by decide +kernel
theorem dL_law_306 : decode cL_law 306 = .ok (.iconst 0, 1) := by decide +kernel
theorem dL_law_307 : decode cL_law 307 = .ok (.laload, 1) := by decide +kernel
theorem dL_law_308 : decode cL_law 308 = .ok (.iload 6, 2) := by decide +kernel
theorem dL_law_310 : decode cL_law 310 = .ok (.i2l, 1) := by decide +kernel
theorem dL_law_311 : decode cL_law 311 = .ok (.lcmp, 1) := by decide +kernel
theorem dL_law_312 : decode cL_law 312 = .ok (.ifCond .eq 5, 3) := by decide +kernel
theorem dL_law_315 : decode cL_law 315 = .ok (.iconst 0, 1) := by decide +kernel
theorem dL_law_316 : decode cL_law 316 = .ok (.ireturn, 1) := by decide +kernel
theorem dL_law_317 : decode cL_law 317 = .ok (.goto 221, 3) := by decide +kernel
theorem dL_law_320 : decode cL_law 320 = .ok (.aload_n 1, 1) := by decide +kernel
theorem dL_law_321 : decode cL_law 321 = .ok (.aload_n 0, 1) := by decide +kernel
theorem dL_law_322 : decode cL_law 322 = .ok (.iload 4, 2) := by decide +kernel
theorem dL_law_324 : decode cL_law 324 = .ok (.iconst 1, 1) := by decide +kernel
theorem dL_law_325 : decode cL_law 325 = .ok (.iadd, 1) := by decide +kernel
theorem dL_law_326 : decode cL_law 326 = .ok (.iaload, 1) := by decide +kernel
theorem dL_law_327 : decode cL_law 327 = .ok (.aload_n 0, 1) := by decide +kernel
theorem dL_law_328 : decode cL_law 328 = .ok (.iload 4, 2) := by decide +kernel
theorem dL_law_330 : decode cL_law 330 = .ok (.iconst 2, 1) := by decide +kernel
theorem dL_law_331 : decode cL_law 331 = .ok (.iadd, 1) := by decide +kernel
theorem dL_law_332 : decode cL_law 332 = .ok (.iaload, 1) := by decide +kernel
theorem dL_law_333 : decode cL_law 333 = .ok (.invokestatic 61, 3) := by decide +kernel
theorem dL_law_336 : decode cL_law 336 = .ok (.istore 5, 2) := by decide +kernel
theorem dL_law_338 : decode cL_law 338 = .ok (.aload_n 2, 1) := by decide +kernel
theorem dL_law_339 : decode cL_law 339 = .ok (.aload_n 0, 1) := by decide +kernel
theorem dL_law_340 : decode cL_law 340 = .ok (.iload 4, 2) := by decide +kernel
theorem dL_law_342 : decode cL_law 342 = .ok (.iconst 1, 1) := by decide +kernel
theorem dL_law_343 : decode cL_law 343 = .ok (.iadd, 1) := by decide +kernel
theorem dL_law_344 : decode cL_law 344 = .ok (.iaload, 1) := by decide +kernel
theorem dL_law_345 : decode cL_law 345 = .ok (.aload_n 0, 1) := by decide +kernel
theorem dL_law_346 : decode cL_law 346 = .ok (.iload 4, 2) := by decide +kernel
theorem dL_law_348 : decode cL_law 348 = .ok (.iconst 2, 1) := by decide +kernel
theorem dL_law_349 : decode cL_law 349 = .ok (.iadd, 1) := by decide +kernel
theorem dL_law_350 : decode cL_law 350 = .ok (.iaload, 1) := by decide +kernel
theorem dL_law_351 : decode cL_law 351 = .ok (.invokevirtual 64, 3) := by decide +kernel
theorem dL_law_354 : decode cL_law 354 = .ok (.aload_n 2, 1) := by decide +kernel
theorem dL_law_355 : decode cL_law 355 = .ok (.invokevirtual 47, 3) := by decide +kernel
theorem dL_law_358 : decode cL_law 358 = .ok (.iload 5, 2) := by decide +kernel
theorem dL_law_360 : decode cL_law 360 = .ok (.if_icmp .eq 5, 3) := by decide +kernel
theorem dL_law_363 : decode cL_law 363 = .ok (.iconst 0, 1) := by decide +kernel
theorem dL_law_364 : decode cL_law 364 = .ok (.ireturn, 1) := by decide +kernel
theorem dL_law_365 : decode cL_law 365 = .ok (.goto 173, 3) := by decide +kernel
theorem dL_law_368 : decode cL_law 368 = .ok (.aload_n 1, 1) := by decide +kernel
theorem dL_law_369 : decode cL_law 369 = .ok (.aload_n 0, 1) := by decide +kernel
theorem dL_law_370 : decode cL_law 370 = .ok (.iload 4, 2) := by decide +kernel
theorem dL_law_372 : decode cL_law 372 = .ok (.iconst 1, 1) := by decide +kernel
theorem dL_law_373 : decode cL_law 373 = .ok (.iadd, 1) := by decide +kernel
theorem dL_law_374 : decode cL_law 374 = .ok (.iaload, 1) := by decide +kernel
theorem dL_law_375 : decode cL_law 375 = .ok (.invokestatic 65, 3) := by decide +kernel
theorem dL_law_378 : decode cL_law 378 = .ok (.istore 5, 2) := by decide +kernel
theorem dL_law_380 : decode cL_law 380 = .ok (.aload_n 2, 1) := by decide +kernel
theorem dL_law_381 : decode cL_law 381 = .ok (.aload_n 0, 1) := by decide +kernel
theorem dL_law_382 : decode cL_law 382 = .ok (.iload 4, 2) := by decide +kernel
theorem dL_law_384 : decode cL_law 384 = .ok (.iconst 1, 1) := by decide +kernel
theorem dL_law_385 : decode cL_law 385 = .ok (.iadd, 1) := by decide +kernel
theorem dL_law_386 : decode cL_law 386 = .ok (.iaload, 1) := by decide +kernel
theorem dL_law_387 : decode cL_law 387 = .ok (.invokevirtual 67, 3) := by decide +kernel
theorem dL_law_390 : decode cL_law 390 = .ok (.aload_n 2, 1) := by decide +kernel
theorem dL_law_391 : decode cL_law 391 = .ok (.invokevirtual 47, 3) := by decide +kernel
theorem dL_law_394 : decode cL_law 394 = .ok (.iload 5, 2) := by decide +kernel
theorem dL_law_396 : decode cL_law 396 = .ok (.if_icmp .eq 5, 3) := by decide +kernel
theorem dL_law_399 : decode cL_law 399 = .ok (.iconst 0, 1) := by decide +kernel
theorem dL_law_400 : decode cL_law 400 = .ok (.ireturn, 1) := by decide +kernel
theorem dL_law_401 : decode cL_law 401 = .ok (.goto 137, 3) := by decide +kernel
theorem dL_law_404 : decode cL_law 404 = .ok (.aload_n 1, 1) := by decide +kernel
theorem dL_law_405 : decode cL_law 405 = .ok (.aload_n 0, 1) := by decide +kernel
theorem dL_law_406 : decode cL_law 406 = .ok (.iload 4, 2) := by decide +kernel
theorem dL_law_408 : decode cL_law 408 = .ok (.iconst 1, 1) := by decide +kernel
theorem dL_law_409 : decode cL_law 409 = .ok (.iadd, 1) := by decide +kernel
theorem dL_law_410 : decode cL_law 410 = .ok (.iaload, 1) := by decide +kernel
theorem dL_law_411 : decode cL_law 411 = .ok (.aload_n 0, 1) := by decide +kernel
theorem dL_law_412 : decode cL_law 412 = .ok (.iload 4, 2) := by decide +kernel
theorem dL_law_414 : decode cL_law 414 = .ok (.iconst 2, 1) := by decide +kernel
theorem dL_law_415 : decode cL_law 415 = .ok (.iadd, 1) := by decide +kernel
theorem dL_law_416 : decode cL_law 416 = .ok (.iaload, 1) := by decide +kernel
theorem dL_law_417 : decode cL_law 417 = .ok (.aload_n 3, 1) := by decide +kernel
theorem dL_law_418 : decode cL_law 418 = .ok (.invokestatic 68, 3) := by decide +kernel
theorem dL_law_421 : decode cL_law 421 = .ok (.istore 5, 2) := by decide +kernel
theorem dL_law_423 : decode cL_law 423 = .ok (.aload_n 2, 1) := by decide +kernel
theorem dL_law_424 : decode cL_law 424 = .ok (.aload_n 0, 1) := by decide +kernel
theorem dL_law_425 : decode cL_law 425 = .ok (.iload 4, 2) := by decide +kernel
theorem dL_law_427 : decode cL_law 427 = .ok (.iconst 1, 1) := by decide +kernel
theorem dL_law_428 : decode cL_law 428 = .ok (.iadd, 1) := by decide +kernel
theorem dL_law_429 : decode cL_law 429 = .ok (.iaload, 1) := by decide +kernel
theorem dL_law_430 : decode cL_law 430 = .ok (.aload_n 0, 1) := by decide +kernel
theorem dL_law_431 : decode cL_law 431 = .ok (.iload 4, 2) := by decide +kernel
theorem dL_law_433 : decode cL_law 433 = .ok (.iconst 2, 1) := by decide +kernel
theorem dL_law_434 : decode cL_law 434 = .ok (.iadd, 1) := by decide +kernel
theorem dL_law_435 : decode cL_law 435 = .ok (.iaload, 1) := by decide +kernel
theorem dL_law_436 : decode cL_law 436 = .ok (.invokevirtual 71, 3) := by decide +kernel
theorem dL_law_439 : decode cL_law 439 = .ok (.lstore 6, 2) := by decide +kernel
theorem dL_law_441 : decode cL_law 441 = .ok (.aload_n 2, 1) := by decide +kernel
theorem dL_law_442 : decode cL_law 442 = .ok (.invokevirtual 47, 3) := by decide +kernel
theorem dL_law_445 : decode cL_law 445 = .ok (.iload 5, 2) := by decide +kernel
theorem dL_law_447 : decode cL_law 447 = .ok (.if_icmp .eq 5, 3) := by decide +kernel
theorem dL_law_450 : decode cL_law 450 = .ok (.iconst 0, 1) := by decide +kernel
theorem dL_law_451 : decode cL_law 451 = .ok (.ireturn, 1) := by decide +kernel
theorem dL_law_452 : decode cL_law 452 = .ok (.iload 5, 2) := by decide +kernel
theorem dL_law_454 : decode cL_law 454 = .ok (.ifCond .ne 14, 3) := by decide +kernel
theorem dL_law_457 : decode cL_law 457 = .ok (.aload_n 3, 1) := by decide +kernel
theorem dL_law_458 : decode cL_law 458 = .ok (.iconst 0, 1) := by decide +kernel
theorem dL_law_459 : decode cL_law 459 = .ok (.laload, 1) := by decide +kernel
theorem dL_law_460 : decode cL_law 460 = .ok (.lload 6, 2) := by decide +kernel
theorem dL_law_462 : decode cL_law 462 = .ok (.lcmp, 1) := by decide +kernel
theorem dL_law_463 : decode cL_law 463 = .ok (.ifCond .eq 5, 3) := by decide +kernel
theorem dL_law_466 : decode cL_law 466 = .ok (.iconst 0, 1) := by decide +kernel
theorem dL_law_467 : decode cL_law 467 = .ok (.ireturn, 1) := by decide +kernel
theorem dL_law_468 : decode cL_law 468 = .ok (.goto 70, 3) := by decide +kernel
theorem dL_law_471 : decode cL_law 471 = .ok (.aload_n 1, 1) := by decide +kernel
theorem dL_law_472 : decode cL_law 472 = .ok (.aload_n 0, 1) := by decide +kernel
theorem dL_law_473 : decode cL_law 473 = .ok (.iload 4, 2) := by decide +kernel
theorem dL_law_475 : decode cL_law 475 = .ok (.iconst 1, 1) := by decide +kernel
theorem dL_law_476 : decode cL_law 476 = .ok (.iadd, 1) := by decide +kernel
theorem dL_law_477 : decode cL_law 477 = .ok (.iaload, 1) := by decide +kernel
theorem dL_law_478 : decode cL_law 478 = .ok (.aload_n 0, 1) := by decide +kernel
theorem dL_law_479 : decode cL_law 479 = .ok (.iload 4, 2) := by decide +kernel
theorem dL_law_481 : decode cL_law 481 = .ok (.iconst 2, 1) := by decide +kernel
theorem dL_law_482 : decode cL_law 482 = .ok (.iadd, 1) := by decide +kernel
theorem dL_law_483 : decode cL_law 483 = .ok (.iaload, 1) := by decide +kernel
theorem dL_law_484 : decode cL_law 484 = .ok (.aload_n 3, 1) := by decide +kernel
theorem dL_law_485 : decode cL_law 485 = .ok (.invokestatic 72, 3) := by decide +kernel
theorem dL_law_488 : decode cL_law 488 = .ok (.istore 5, 2) := by decide +kernel
theorem dL_law_490 : decode cL_law 490 = .ok (.aload_n 2, 1) := by decide +kernel
theorem dL_law_491 : decode cL_law 491 = .ok (.aload_n 0, 1) := by decide +kernel
theorem dL_law_492 : decode cL_law 492 = .ok (.iload 4, 2) := by decide +kernel
theorem dL_law_494 : decode cL_law 494 = .ok (.iconst 1, 1) := by decide +kernel
theorem dL_law_495 : decode cL_law 495 = .ok (.iadd, 1) := by decide +kernel
theorem dL_law_496 : decode cL_law 496 = .ok (.iaload, 1) := by decide +kernel
theorem dL_law_497 : decode cL_law 497 = .ok (.aload_n 0, 1) := by decide +kernel
theorem dL_law_498 : decode cL_law 498 = .ok (.iload 4, 2) := by decide +kernel
theorem dL_law_500 : decode cL_law 500 = .ok (.iconst 2, 1) := by decide +kernel
theorem dL_law_501 : decode cL_law 501 = .ok (.iadd, 1) := by decide +kernel
theorem dL_law_502 : decode cL_law 502 = .ok (.iaload, 1) := by decide +kernel
theorem dL_law_503 : decode cL_law 503 = .ok (.invokevirtual 74, 3) := by decide +kernel
theorem dL_law_506 : decode cL_law 506 = .ok (.lstore 6, 2) := by decide +kernel
theorem dL_law_508 : decode cL_law 508 = .ok (.aload_n 2, 1) := by decide +kernel
theorem dL_law_509 : decode cL_law 509 = .ok (.invokevirtual 47, 3) := by decide +kernel
theorem dL_law_512 : decode cL_law 512 = .ok (.iload 5, 2) := by decide +kernel
theorem dL_law_514 : decode cL_law 514 = .ok (.if_icmp .eq 5, 3) := by decide +kernel
theorem dL_law_517 : decode cL_law 517 = .ok (.iconst 0, 1) := by decide +kernel
theorem dL_law_518 : decode cL_law 518 = .ok (.ireturn, 1) := by decide +kernel
theorem dL_law_519 : decode cL_law 519 = .ok (.iload 5, 2) := by decide +kernel
theorem dL_law_521 : decode cL_law 521 = .ok (.ifCond .ne 14, 3) := by decide +kernel
theorem dL_law_524 : decode cL_law 524 = .ok (.aload_n 3, 1) := by decide +kernel
theorem dL_law_525 : decode cL_law 525 = .ok (.iconst 0, 1) := by decide +kernel
theorem dL_law_526 : decode cL_law 526 = .ok (.laload, 1) := by decide +kernel
theorem dL_law_527 : decode cL_law 527 = .ok (.lload 6, 2) := by decide +kernel
theorem dL_law_529 : decode cL_law 529 = .ok (.lcmp, 1) := by decide +kernel
theorem dL_law_530 : decode cL_law 530 = .ok (.ifCond .eq 5, 3) := by decide +kernel
theorem dL_law_533 : decode cL_law 533 = .ok (.iconst 0, 1) := by decide +kernel
theorem dL_law_534 : decode cL_law 534 = .ok (.ireturn, 1) := by decide +kernel
theorem dL_law_535 : decode cL_law 535 = .ok (.goto 3, 3) := by decide +kernel
theorem dL_law_538 : decode cL_law 538 = .ok (.iinc 4 5, 3) := by decide +kernel
theorem dL_law_541 : decode cL_law 541 = .ok (.goto (-518), 3) := by decide +kernel
theorem dL_law_544 : decode cL_law 544 = .ok (.iconst 1, 1) := by decide +kernel
theorem dL_law_545 : decode cL_law 545 = .ok (.ireturn, 1) := by decide +kernel
abbrev vwCl : List vw_C := [(RX0, TX0, 4), (RX1, TX1, 7)]
/-! ===== END printed: names (without the pools) ===== -/
