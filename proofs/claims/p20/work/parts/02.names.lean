/-! ===== BEGIN printed: names, fields, word lists, decode rows ===== -/
def RX0 : String := "MeteredSheets$Ledger"
def TX0 : u_T := fun k => match k with
  | 0 => ("MeteredSheets$Ledger", "prices", "[I", true)
  | 1 => ("MeteredSheets$Ledger", "budgets", "[I", true)
  | 2 => ("MeteredSheets$Ledger", "earnings", "[I", true)
  | 3 => ("MeteredSheets$Ledger", "readsOf", "[I", true)
  | 4 => ("MeteredSheets$Ledger", "bills", "[I", true)
  | 5 => ("MeteredSheets$Ledger", "counts", "[I", true)
  | 6 => ("MeteredSheets$Ledger", "kept", "[I", true)
  | _ => ("MeteredSheets$Ledger", "keptCount", "I", false)
def tyX0 : Nat → FieldType := fun k => match k with
  | 0 => .array .int
  | 1 => .array .int
  | 2 => .array .int
  | 3 => .array .int
  | 4 => .array .int
  | 5 => .array .int
  | 6 => .array .int
  | _ => .int
abbrev wsX00 : List Cond := u_ws RX0 TX0 8
theorem nmX0 : ∀ a, a < 8 → ∀ b, b < 8 → a ≠ b → (TX0 a).2.1 ≠ (TX0 b).2.1 := by decide +kernel
theorem tyX0_ok : ∀ k, k < 8 → parseFieldDescriptor (TX0 k).2.2.1 = some (tyX0 k) := by decide +kernel
abbrev cX0_init : ByteArray := prog_2_method_1_code
def yX0_init : MethodName := ⟨RX0, "<init>", "()V"⟩
abbrev cX0_paysFor : ByteArray := prog_2_method_2_code
def yX0_paysFor : MethodName := ⟨RX0, "paysFor", "(IIII)Z"⟩
abbrev cX0_costOf : ByteArray := prog_2_method_3_code
def yX0_costOf : MethodName := ⟨RX0, "costOf", "(I)I"⟩
abbrev cX0_enter : ByteArray := prog_2_method_4_code
def yX0_enter : MethodName := ⟨RX0, "enter", "(III)V"⟩
def RX1 : String := "MeteredSheets"
def TX1 : u_T := fun k => match k with
  | 0 => ("MeteredSheets", "kinds", "[I", true)
  | 1 => ("MeteredSheets", "ones", "[I", true)
  | 2 => ("MeteredSheets", "others", "[I", true)
  | 3 => ("MeteredSheets", "numbers", "[I", true)
  | 4 => ("MeteredSheets", "values", "[I", true)
  | 5 => ("MeteredSheets", "marked", "[Z", true)
  | 6 => ("MeteredSheets", "order", "[I", true)
  | 7 => ("MeteredSheets", "ledger", "LMeteredSheets$Ledger;", true)
  | 8 => ("MeteredSheets", "changed", "[Z", true)
  | 9 => ("MeteredSheets", "placed", "[Z", true)
  | 10 => ("MeteredSheets", "reaching", "[Z", true)
  | _ => ("MeteredSheets", "fresh", "[I", true)
def tyX1 : Nat → FieldType := fun k => match k with
  | 0 => .array .int
  | 1 => .array .int
  | 2 => .array .int
  | 3 => .array .int
  | 4 => .array .int
  | 5 => .array .boolean
  | 6 => .array .int
  | 7 => .object "MeteredSheets$Ledger"
  | 8 => .array .boolean
  | 9 => .array .boolean
  | 10 => .array .boolean
  | _ => .array .int
abbrev wsX10 : List Cond := u_ws RX1 TX1 12
theorem nmX1 : ∀ a, a < 12 → ∀ b, b < 12 → a ≠ b → (TX1 a).2.1 ≠ (TX1 b).2.1 := by decide +kernel
theorem tyX1_ok : ∀ k, k < 12 → parseFieldDescriptor (TX1 k).2.2.1 = some (tyX1 k) := by decide +kernel
abbrev cX1_init : ByteArray := prog_1_method_1_code
def yX1_init : MethodName := ⟨RX1, "<init>", "()V"⟩
abbrev cX1_setNumber : ByteArray := prog_1_method_2_code
def yX1_setNumber : MethodName := ⟨RX1, "setNumber", "(III)I"⟩
abbrev cX1_setSum : ByteArray := prog_1_method_3_code
def yX1_setSum : MethodName := ⟨RX1, "setSum", "(IIIII)I"⟩
abbrev cX1_setGreater : ByteArray := prog_1_method_4_code
def yX1_setGreater : MethodName := ⟨RX1, "setGreater", "(IIII)I"⟩
abbrev cX1_setTimes : ByteArray := prog_1_method_5_code
def yX1_setTimes : MethodName := ⟨RX1, "setTimes", "(IIII)I"⟩
abbrev cX1_refresh : ByteArray := prog_1_method_6_code
def yX1_refresh : MethodName := ⟨RX1, "refresh", "(I)I"⟩
abbrev cX1_setPrice : ByteArray := prog_1_method_7_code
def yX1_setPrice : MethodName := ⟨RX1, "setPrice", "(II)I"⟩
abbrev cX1_grant : ByteArray := prog_1_method_8_code
def yX1_grant : MethodName := ⟨RX1, "grant", "(II)I"⟩
abbrev cX1_budget : ByteArray := prog_1_method_9_code
def yX1_budget : MethodName := ⟨RX1, "budget", "(I)I"⟩
abbrev cX1_earned : ByteArray := prog_1_method_10_code
def yX1_earned : MethodName := ⟨RX1, "earned", "(I)I"⟩
abbrev cX1_caused : ByteArray := prog_1_method_11_code
def yX1_caused : MethodName := ⟨RX1, "caused", "(I)I"⟩
abbrev cX1_value : ByteArray := prog_1_method_12_code
def yX1_value : MethodName := ⟨RX1, "value", "(I)I"⟩
abbrev cX1_isMarked : ByteArray := prog_1_method_13_code
def yX1_isMarked : MethodName := ⟨RX1, "isMarked", "(I)Z"⟩
abbrev cX1_valueAnew : ByteArray := prog_1_method_14_code
def yX1_valueAnew : MethodName := ⟨RX1, "valueAnew", "(I)I"⟩
abbrev cX1_readings : ByteArray := prog_1_method_15_code
def yX1_readings : MethodName := ⟨RX1, "readings", "()I"⟩
abbrev cX1_reading : ByteArray := prog_1_method_16_code
def yX1_reading : MethodName := ⟨RX1, "reading", "(I)I"⟩
abbrev cX1_timesRead : ByteArray := prog_1_method_17_code
def yX1_timesRead : MethodName := ⟨RX1, "timesRead", "(II)I"⟩
abbrev cX1_readOf : ByteArray := prog_1_method_18_code
def yX1_readOf : MethodName := ⟨RX1, "readOf", "(I)I"⟩
abbrev cX1_isUser : ByteArray := prog_1_method_19_code
def yX1_isUser : MethodName := ⟨RX1, "isUser", "(I)Z"⟩
abbrev cX1_isSheet : ByteArray := prog_1_method_20_code
def yX1_isSheet : MethodName := ⟨RX1, "isSheet", "(I)Z"⟩
abbrev cX1_isCell : ByteArray := prog_1_method_21_code
def yX1_isCell : MethodName := ⟨RX1, "isCell", "(I)Z"⟩
abbrev cX1_isWithin : ByteArray := prog_1_method_22_code
def yX1_isWithin : MethodName := ⟨RX1, "isWithin", "(II)Z"⟩
abbrev cX1_sheetOf : ByteArray := prog_1_method_23_code
def yX1_sheetOf : MethodName := ⟨RX1, "sheetOf", "(I)I"⟩
abbrev cX1_wouldReadItself : ByteArray := prog_1_method_24_code
def yX1_wouldReadItself : MethodName := ⟨RX1, "wouldReadItself", "(III)Z"⟩
abbrev cX1_readsOneOf : ByteArray := prog_1_method_25_code
def yX1_readsOneOf : MethodName := ⟨RX1, "readsOneOf", "(I[Z)Z"⟩
abbrev cX1_isIn : ByteArray := prog_1_method_26_code
def yX1_isIn : MethodName := ⟨RX1, "isIn", "(I[Z)Z"⟩
abbrev cX1_giveFormula : ByteArray := prog_1_method_27_code
def yX1_giveFormula : MethodName := ⟨RX1, "giveFormula", "(IIIIII)I"⟩
abbrev cX1_putInOrder : ByteArray := prog_1_method_28_code
def yX1_putInOrder : MethodName := ⟨RX1, "putInOrder", "()V"⟩
abbrev cX1_lowestFreeCell : ByteArray := prog_1_method_29_code
def yX1_lowestFreeCell : MethodName := ⟨RX1, "lowestFreeCell", "()I"⟩
abbrev cX1_isReady : ByteArray := prog_1_method_30_code
def yX1_isReady : MethodName := ⟨RX1, "isReady", "(I)Z"⟩
abbrev cX1_forgetChanges : ByteArray := prog_1_method_31_code
def yX1_forgetChanges : MethodName := ⟨RX1, "forgetChanges", "()V"⟩
abbrev cX1_goThrough : ByteArray := prog_1_method_32_code
def yX1_goThrough : MethodName := ⟨RX1, "goThrough", "(IZ)I"⟩
abbrev cX1_compute : ByteArray := prog_1_method_33_code
def yX1_compute : MethodName := ⟨RX1, "compute", "(II)V"⟩
abbrev cX1_meteredRead : ByteArray := prog_1_method_34_code
def yX1_meteredRead : MethodName := ⟨RX1, "meteredRead", "(II)I"⟩
abbrev cX1_resultOf : ByteArray := prog_1_method_35_code
def yX1_resultOf : MethodName := ⟨RX1, "resultOf", "(I[I)I"⟩
abbrev cX1_valueIn : ByteArray := prog_1_method_36_code
def yX1_valueIn : MethodName := ⟨RX1, "valueIn", "([II)I"⟩
abbrev cX1_held : ByteArray := prog_1_method_37_code
def yX1_held : MethodName := ⟨RX1, "held", "(I)I"⟩
def RX2 : String := "MeteredSheetsModel"
def TX2 : u_T := fun k => match k with
  | _ => ("", "", "", false)
def tyX2 : Nat → FieldType := fun k => match k with
  | _ => .int
abbrev wsX20 : List Cond := u_ws RX2 TX2 0
theorem nmX2 : ∀ a, a < 0 → ∀ b, b < 0 → a ≠ b → (TX2 a).2.1 ≠ (TX2 b).2.1 := by decide +kernel
theorem tyX2_ok : ∀ k, k < 0 → parseFieldDescriptor (TX2 k).2.2.1 = some (tyX2 k) := by decide +kernel
def RJ9 : String := "java/lang/Math"
def TJ9 : u_T := fun k => match k with
  | _ => ("", "", "", false)
def tyJ9 : Nat → FieldType := fun k => match k with
  | _ => .int
abbrev wsJ90 : List Cond := u_ws RJ9 TJ9 0
theorem nmJ9 : ∀ a, a < 0 → ∀ b, b < 0 → a ≠ b → (TJ9 a).2.1 ≠ (TJ9 b).2.1 := by decide +kernel
theorem tyJ9_ok : ∀ k, k < 0 → parseFieldDescriptor (TJ9 k).2.2.1 = some (tyJ9 k) := by decide +kernel
abbrev cJ9_max_7cf53 : ByteArray := prog_9_method_65_code
def yJ9_max_7cf53 : MethodName := ⟨RJ9, "max", "(II)I"⟩
abbrev cJ9_min_7cf53 : ByteArray := prog_9_method_69_code
def yJ9_min_7cf53 : MethodName := ⟨RJ9, "min", "(II)I"⟩
def RJ0 : String := "java/lang/String"
def TJ0 : u_T := fun k => match k with
  | _ => ("", "", "", false)
def tyJ0 : Nat → FieldType := fun k => match k with
  | _ => .int
abbrev wsJ00 : List Cond := u_ws RJ0 TJ0 0
theorem nmJ0 : ∀ a, a < 0 → ∀ b, b < 0 → a ≠ b → (TJ0 a).2.1 ≠ (TJ0 b).2.1 := by decide +kernel
theorem tyJ0_ok : ∀ k, k < 0 → parseFieldDescriptor (TJ0 k).2.2.1 = some (tyJ0 k) := by decide +kernel
def RL : String := "MeteredSheetsLaw"
abbrev cL_cell : ByteArray := method_2_code
def yL_cell : MethodName := ⟨RL, "cell", "([II)I"⟩
abbrev cL_at : ByteArray := method_3_code
def yL_at : MethodName := ⟨RL, "at", "(II)I"⟩
abbrev cL_marked : ByteArray := method_4_code
def yL_marked : MethodName := ⟨RL, "marked", "(LMeteredSheets;)I"⟩
abbrev cL_accounts : ByteArray := method_5_code
def yL_accounts : MethodName := ⟨RL, "accounts", "(LMeteredSheets;[I)Z"⟩
abbrev cL_traced : ByteArray := method_6_code
def yL_traced : MethodName := ⟨RL, "traced", "(LMeteredSheets;I[I)Z"⟩
abbrev cL_give : ByteArray := method_7_code
def yL_give : MethodName := ⟨RL, "give", "(LMeteredSheets;III)I"⟩
abbrev cL_right : ByteArray := method_8_code
def yL_right : MethodName := ⟨RL, "right", "(LMeteredSheets;)Z"⟩
abbrev cL_law : ByteArray := code
def yL_law : MethodName := ⟨RL, "law", "([I)Z"⟩
def wsX0_init : List Cond := .code yX0_init cX0_init 2 none :: ([.methodLink RX0 3 objectInit, .instanceMethod objectInit, .code objectInit ⟨#[0xb1]⟩ 1 none, .arrayClass .int, .fieldLink RX0 9 "MeteredSheets$Ledger" "prices" "[I", .fieldLink RX0 15 "MeteredSheets$Ledger" "budgets" "[I", .fieldLink RX0 18 "MeteredSheets$Ledger" "earnings" "[I", .fieldLink RX0 21 "MeteredSheets$Ledger" "readsOf" "[I", .fieldLink RX0 24 "MeteredSheets$Ledger" "bills" "[I", .fieldLink RX0 27 "MeteredSheets$Ledger" "counts" "[I", .fieldLink RX0 30 "MeteredSheets$Ledger" "kept" "[I", .fieldLink RX0 33 "MeteredSheets$Ledger" "keptCount" "I"] ++ wsX00)
def wsX1_sheetOf : List Cond := .code yX1_sheetOf cX1_sheetOf 1 (some .int) :: ([])
def wsX1_isCell : List Cond := .code yX1_isCell cX1_isCell 1 (some .boolean) :: ([])
def wsX0_costOf : List Cond := .code yX0_costOf cX0_costOf 2 (some .int) :: ([.fieldLink RX0 9 "MeteredSheets$Ledger" "prices" "[I", .static yX1_isCell, .initialized RX1, .code yX1_isCell cX1_isCell 1 (some .boolean), .static yX1_sheetOf, .code yX1_sheetOf cX1_sheetOf 1 (some .int)] ++ wsX00)
def wsX0_enter : List Cond := .code yX0_enter cX0_enter 5 none :: ([.fieldLink RX0 18 "MeteredSheets$Ledger" "earnings" "[I", .fieldLink RX0 9 "MeteredSheets$Ledger" "prices" "[I", .fieldLink RX0 24 "MeteredSheets$Ledger" "bills" "[I", .fieldLink RX0 21 "MeteredSheets$Ledger" "readsOf" "[I", .fieldLink RX0 27 "MeteredSheets$Ledger" "counts" "[I", .fieldLink RX0 33 "MeteredSheets$Ledger" "keptCount" "I", .fieldLink RX0 30 "MeteredSheets$Ledger" "kept" "[I", .static yX1_isCell, .initialized RX1, .code yX1_isCell cX1_isCell 1 (some .boolean), .static yX1_sheetOf, .code yX1_sheetOf cX1_sheetOf 1 (some .int)] ++ wsX00)
def wsX0_paysFor : List Cond := .code yX0_paysFor cX0_paysFor 7 (some .boolean) :: ([.fieldLink RX0 15 "MeteredSheets$Ledger" "budgets" "[I", .static yX1_sheetOf, .initialized RX1, .code yX1_sheetOf cX1_sheetOf 1 (some .int), .methodLink RX0 41 yX0_costOf, .instanceMethod yX0_costOf, .selects RX0 yX0_costOf yX0_costOf, .initialized RX0, .code yX0_costOf cX0_costOf 2 (some .int), .fieldLink RX0 9 "MeteredSheets$Ledger" "prices" "[I", .static yX1_isCell, .code yX1_isCell cX1_isCell 1 (some .boolean), .methodLink RX0 44 yX0_enter, .instanceMethod yX0_enter, .selects RX0 yX0_enter yX0_enter, .code yX0_enter cX0_enter 5 none, .fieldLink RX0 18 "MeteredSheets$Ledger" "earnings" "[I", .fieldLink RX0 24 "MeteredSheets$Ledger" "bills" "[I", .fieldLink RX0 21 "MeteredSheets$Ledger" "readsOf" "[I", .fieldLink RX0 27 "MeteredSheets$Ledger" "counts" "[I", .fieldLink RX0 33 "MeteredSheets$Ledger" "keptCount" "I", .fieldLink RX0 30 "MeteredSheets$Ledger" "kept" "[I"] ++ wsX00)
def wsX1_init_r1 : List Cond := [Cond.methodLink RX1 1 objectInit, Cond.instanceMethod objectInit, Cond.code objectInit ⟨#[0xb1]⟩ 1 none, Cond.arrayClass .int, Cond.fieldLink RX1 9 "MeteredSheets" "kinds" "[I", Cond.fieldLink RX1 13 "MeteredSheets" "ones" "[I", Cond.fieldLink RX1 16 "MeteredSheets" "others" "[I", Cond.fieldLink RX1 19 "MeteredSheets" "numbers" "[I", Cond.fieldLink RX1 22 "MeteredSheets" "values" "[I", Cond.arrayClass .boolean, Cond.fieldLink RX1 25 "MeteredSheets" "marked" "[Z", Cond.fieldLink RX1 29 "MeteredSheets" "order" "[I", Cond.classLink RX1 32 RX0, Cond.instantiable RX0 8, Cond.initialized RX0, Cond.fieldLink RX1 35 "MeteredSheets" "ledger" "LMeteredSheets$Ledger;", Cond.fieldLink RX1 39 "MeteredSheets" "changed" "[Z", Cond.fieldLink RX1 42 "MeteredSheets" "placed" "[Z", Cond.fieldLink RX1 45 "MeteredSheets" "reaching" "[Z", Cond.fieldLink RX1 48 "MeteredSheets" "fresh" "[I", Cond.instanceMethod yX0_init, Cond.code yX0_init cX0_init 2 none, Cond.methodLink RX0 3 objectInit, Cond.fieldLink RX0 9 "MeteredSheets$Ledger" "prices" "[I"]
def wsX1_init_r2 : List Cond := [Cond.fieldLink RX0 15 "MeteredSheets$Ledger" "budgets" "[I", Cond.fieldLink RX0 18 "MeteredSheets$Ledger" "earnings" "[I", Cond.fieldLink RX0 21 "MeteredSheets$Ledger" "readsOf" "[I", Cond.fieldLink RX0 24 "MeteredSheets$Ledger" "bills" "[I", Cond.fieldLink RX0 27 "MeteredSheets$Ledger" "counts" "[I", Cond.fieldLink RX0 30 "MeteredSheets$Ledger" "kept" "[I", Cond.fieldLink RX0 33 "MeteredSheets$Ledger" "keptCount" "I"]
def wsX1_init : List Cond := .code yX1_init cX1_init 2 none :: ((wsX1_init_r1 ++ wsX1_init_r2) ++ wsX10 ++ wsX00)
def wsX1_isUser : List Cond := .code yX1_isUser cX1_isUser 1 (some .boolean) :: ([])
def wsX1_isWithin : List Cond := .code yX1_isWithin cX1_isWithin 2 (some .boolean) :: ([])
def wsX1_isIn : List Cond := .code yX1_isIn cX1_isIn 2 (some .boolean) :: ([])
def wsX1_isReady : List Cond := .code yX1_isReady cX1_isReady 2 (some .boolean) :: ([.fieldLink RX1 42 "MeteredSheets" "placed" "[Z", .methodLink RX1 149 yX1_isIn, .static yX1_isIn, .initialized RX1, .code yX1_isIn cX1_isIn 2 (some .boolean)] ++ wsX10)
def wsX1_lowestFreeCell : List Cond := .code yX1_lowestFreeCell cX1_lowestFreeCell 2 (some .int) :: ([.fieldLink RX1 42 "MeteredSheets" "placed" "[Z", .fieldLink RX1 13 "MeteredSheets" "ones" "[I", .fieldLink RX1 16 "MeteredSheets" "others" "[I", .methodLink RX1 163 yX1_isReady, .instanceMethod yX1_isReady, .selects RX1 yX1_isReady yX1_isReady, .initialized RX1, .code yX1_isReady cX1_isReady 2 (some .boolean), .methodLink RX1 149 yX1_isIn, .static yX1_isIn, .code yX1_isIn cX1_isIn 2 (some .boolean)] ++ wsX10)
def wsX1_putInOrder : List Cond := .code yX1_putInOrder cX1_putInOrder 3 none :: ([.fieldLink RX1 42 "MeteredSheets" "placed" "[Z", .fieldLink RX1 29 "MeteredSheets" "order" "[I", .methodLink RX1 159 yX1_lowestFreeCell, .instanceMethod yX1_lowestFreeCell, .selects RX1 yX1_lowestFreeCell yX1_lowestFreeCell, .initialized RX1, .code yX1_lowestFreeCell cX1_lowestFreeCell 2 (some .int), .fieldLink RX1 13 "MeteredSheets" "ones" "[I", .fieldLink RX1 16 "MeteredSheets" "others" "[I", .methodLink RX1 163 yX1_isReady, .instanceMethod yX1_isReady, .selects RX1 yX1_isReady yX1_isReady, .code yX1_isReady cX1_isReady 2 (some .boolean), .methodLink RX1 149 yX1_isIn, .static yX1_isIn, .code yX1_isIn cX1_isIn 2 (some .boolean), .methodLink RX1 55 yX1_isCell, .static yX1_isCell, .code yX1_isCell cX1_isCell 1 (some .boolean)] ++ wsX10)
def wsX1_forgetChanges : List Cond := .code yX1_forgetChanges cX1_forgetChanges 2 none :: ([.fieldLink RX1 39 "MeteredSheets" "changed" "[Z"] ++ wsX10)
def wsX1_meteredRead : List Cond := .code yX1_meteredRead cX1_meteredRead 2 (some .int) :: ([.methodLink RX1 55 yX1_isCell, .static yX1_isCell, .initialized RX1, .code yX1_isCell cX1_isCell 1 (some .boolean), .methodLink RX1 174 yX1_sheetOf, .static yX1_sheetOf, .code yX1_sheetOf cX1_sheetOf 1 (some .int)])
def wsX1_valueIn : List Cond := .code yX1_valueIn cX1_valueIn 2 (some .int) :: ([])
def wsX1_held : List Cond := .code yX1_held cX1_held 1 (some .int) :: ([.constant RX1 190 (-1000000), .constant RX1 58 (1000000), .methodLink RX1 191 Lib.Math.min.name, .static Lib.Math.min.name, .initialized "java/lang/Math", .code Lib.Math.min.name Lib.Math.min.code 2 (some .int), .methodLink RX1 185 Lib.Math.max.name, .static Lib.Math.max.name, .code Lib.Math.max.name Lib.Math.max.code 2 (some .int)])
def wsX1_resultOf : List Cond := .code yX1_resultOf cX1_resultOf 5 (some .int) :: ([.fieldLink RX1 13 "MeteredSheets" "ones" "[I", .fieldLink RX1 16 "MeteredSheets" "others" "[I", .fieldLink RX1 9 "MeteredSheets" "kinds" "[I", .fieldLink RX1 19 "MeteredSheets" "numbers" "[I", .methodLink RX1 185 Lib.Math.max.name, .static Lib.Math.max.name, .initialized "java/lang/Math", .code Lib.Math.max.name Lib.Math.max.code 2 (some .int), .methodLink RX1 178 yX1_valueIn, .static yX1_valueIn, .initialized RX1, .code yX1_valueIn cX1_valueIn 2 (some .int), .methodLink RX1 182 yX1_held, .static yX1_held, .code yX1_held cX1_held 1 (some .int), .constant RX1 190 (-1000000), .constant RX1 58 (1000000), .methodLink RX1 191 Lib.Math.min.name, .static Lib.Math.min.name, .code Lib.Math.min.name Lib.Math.min.code 2 (some .int)] ++ wsX10)
def wsX1_compute_r1 : List Cond := [Cond.fieldLink RX1 13 "MeteredSheets" "ones" "[I", Cond.fieldLink RX1 16 "MeteredSheets" "others" "[I", Cond.fieldLink RX1 25 "MeteredSheets" "marked" "[Z", Cond.fieldLink RX1 35 "MeteredSheets" "ledger" "LMeteredSheets$Ledger;", Cond.fieldLink RX1 22 "MeteredSheets" "values" "[I", Cond.fieldLink RX1 39 "MeteredSheets" "changed" "[Z", Cond.methodLink RX1 166 yX1_meteredRead, Cond.static yX1_meteredRead, Cond.initialized RX1, Cond.code yX1_meteredRead cX1_meteredRead 2 (some .int), Cond.methodLink RX1 55 yX1_isCell, Cond.static yX1_isCell, Cond.code yX1_isCell cX1_isCell 1 (some .boolean), Cond.methodLink RX1 174 yX1_sheetOf, Cond.static yX1_sheetOf, Cond.code yX1_sheetOf cX1_sheetOf 1 (some .int), Cond.instanceMethod yX0_paysFor, Cond.initialized RX0, Cond.selects RX0 yX0_paysFor yX0_paysFor, Cond.code yX0_paysFor cX0_paysFor 7 (some .boolean), Cond.fieldLink RX0 15 "MeteredSheets$Ledger" "budgets" "[I", Cond.methodLink RX0 41 yX0_costOf, Cond.instanceMethod yX0_costOf, Cond.selects RX0 yX0_costOf yX0_costOf]
def wsX1_compute_r2 : List Cond := [Cond.code yX0_costOf cX0_costOf 2 (some .int), Cond.fieldLink RX0 9 "MeteredSheets$Ledger" "prices" "[I", Cond.methodLink RX0 44 yX0_enter, Cond.instanceMethod yX0_enter, Cond.selects RX0 yX0_enter yX0_enter, Cond.code yX0_enter cX0_enter 5 none, Cond.fieldLink RX0 18 "MeteredSheets$Ledger" "earnings" "[I", Cond.fieldLink RX0 24 "MeteredSheets$Ledger" "bills" "[I", Cond.fieldLink RX0 21 "MeteredSheets$Ledger" "readsOf" "[I", Cond.fieldLink RX0 27 "MeteredSheets$Ledger" "counts" "[I", Cond.fieldLink RX0 33 "MeteredSheets$Ledger" "keptCount" "I", Cond.fieldLink RX0 30 "MeteredSheets$Ledger" "kept" "[I", Cond.methodLink RX1 121 yX1_resultOf, Cond.instanceMethod yX1_resultOf, Cond.selects RX1 yX1_resultOf yX1_resultOf, Cond.code yX1_resultOf cX1_resultOf 5 (some .int), Cond.fieldLink RX1 9 "MeteredSheets" "kinds" "[I", Cond.fieldLink RX1 19 "MeteredSheets" "numbers" "[I", Cond.methodLink RX1 185 Lib.Math.max.name, Cond.static Lib.Math.max.name, Cond.initialized "java/lang/Math", Cond.code Lib.Math.max.name Lib.Math.max.code 2 (some .int), Cond.methodLink RX1 178 yX1_valueIn, Cond.static yX1_valueIn]
def wsX1_compute_r3 : List Cond := [Cond.code yX1_valueIn cX1_valueIn 2 (some .int), Cond.methodLink RX1 182 yX1_held, Cond.static yX1_held, Cond.code yX1_held cX1_held 1 (some .int), Cond.constant RX1 190 (-1000000), Cond.constant RX1 58 (1000000), Cond.methodLink RX1 191 Lib.Math.min.name, Cond.static Lib.Math.min.name, Cond.code Lib.Math.min.name Lib.Math.min.code 2 (some .int)]
def wsX1_compute : List Cond := .code yX1_compute cX1_compute 6 none :: ((wsX1_compute_r1 ++ (wsX1_compute_r2 ++ wsX1_compute_r3)) ++ wsX10 ++ wsX00)
def wsX1_readsOneOf : List Cond := .code yX1_readsOneOf cX1_readsOneOf 3 (some .boolean) :: ([.fieldLink RX1 13 "MeteredSheets" "ones" "[I", .fieldLink RX1 16 "MeteredSheets" "others" "[I", .methodLink RX1 149 yX1_isIn, .static yX1_isIn, .initialized RX1, .code yX1_isIn cX1_isIn 2 (some .boolean)] ++ wsX10)
def wsX1_goThrough_r1 : List Cond := [Cond.fieldLink RX1 29 "MeteredSheets" "order" "[I", Cond.fieldLink RX1 39 "MeteredSheets" "changed" "[Z", Cond.fieldLink RX1 25 "MeteredSheets" "marked" "[Z", Cond.methodLink RX1 55 yX1_isCell, Cond.static yX1_isCell, Cond.initialized RX1, Cond.code yX1_isCell cX1_isCell 1 (some .boolean), Cond.methodLink RX1 145 yX1_readsOneOf, Cond.instanceMethod yX1_readsOneOf, Cond.selects RX1 yX1_readsOneOf yX1_readsOneOf, Cond.code yX1_readsOneOf cX1_readsOneOf 3 (some .boolean), Cond.fieldLink RX1 13 "MeteredSheets" "ones" "[I", Cond.fieldLink RX1 16 "MeteredSheets" "others" "[I", Cond.methodLink RX1 149 yX1_isIn, Cond.static yX1_isIn, Cond.code yX1_isIn cX1_isIn 2 (some .boolean), Cond.methodLink RX1 155 yX1_compute, Cond.instanceMethod yX1_compute, Cond.selects RX1 yX1_compute yX1_compute, Cond.code yX1_compute cX1_compute 6 none, Cond.fieldLink RX1 35 "MeteredSheets" "ledger" "LMeteredSheets$Ledger;", Cond.fieldLink RX1 22 "MeteredSheets" "values" "[I", Cond.methodLink RX1 166 yX1_meteredRead, Cond.static yX1_meteredRead]
def wsX1_goThrough_r2 : List Cond := [Cond.code yX1_meteredRead cX1_meteredRead 2 (some .int), Cond.methodLink RX1 174 yX1_sheetOf, Cond.static yX1_sheetOf, Cond.code yX1_sheetOf cX1_sheetOf 1 (some .int), Cond.instanceMethod yX0_paysFor, Cond.initialized RX0, Cond.selects RX0 yX0_paysFor yX0_paysFor, Cond.code yX0_paysFor cX0_paysFor 7 (some .boolean), Cond.fieldLink RX0 15 "MeteredSheets$Ledger" "budgets" "[I", Cond.methodLink RX0 41 yX0_costOf, Cond.instanceMethod yX0_costOf, Cond.selects RX0 yX0_costOf yX0_costOf, Cond.code yX0_costOf cX0_costOf 2 (some .int), Cond.fieldLink RX0 9 "MeteredSheets$Ledger" "prices" "[I", Cond.methodLink RX0 44 yX0_enter, Cond.instanceMethod yX0_enter, Cond.selects RX0 yX0_enter yX0_enter, Cond.code yX0_enter cX0_enter 5 none, Cond.fieldLink RX0 18 "MeteredSheets$Ledger" "earnings" "[I", Cond.fieldLink RX0 24 "MeteredSheets$Ledger" "bills" "[I", Cond.fieldLink RX0 21 "MeteredSheets$Ledger" "readsOf" "[I", Cond.fieldLink RX0 27 "MeteredSheets$Ledger" "counts" "[I", Cond.fieldLink RX0 33 "MeteredSheets$Ledger" "keptCount" "I", Cond.fieldLink RX0 30 "MeteredSheets$Ledger" "kept" "[I"]
def wsX1_goThrough_r3 : List Cond := [Cond.methodLink RX1 121 yX1_resultOf, Cond.instanceMethod yX1_resultOf, Cond.selects RX1 yX1_resultOf yX1_resultOf, Cond.code yX1_resultOf cX1_resultOf 5 (some .int), Cond.fieldLink RX1 9 "MeteredSheets" "kinds" "[I", Cond.fieldLink RX1 19 "MeteredSheets" "numbers" "[I", Cond.methodLink RX1 185 Lib.Math.max.name, Cond.static Lib.Math.max.name, Cond.initialized "java/lang/Math", Cond.code Lib.Math.max.name Lib.Math.max.code 2 (some .int), Cond.methodLink RX1 178 yX1_valueIn, Cond.static yX1_valueIn, Cond.code yX1_valueIn cX1_valueIn 2 (some .int), Cond.methodLink RX1 182 yX1_held, Cond.static yX1_held, Cond.code yX1_held cX1_held 1 (some .int), Cond.constant RX1 190 (-1000000), Cond.constant RX1 58 (1000000), Cond.methodLink RX1 191 Lib.Math.min.name, Cond.static Lib.Math.min.name, Cond.code Lib.Math.min.name Lib.Math.min.code 2 (some .int)]
def wsX1_goThrough : List Cond := .code yX1_goThrough cX1_goThrough 6 (some .int) :: ((wsX1_goThrough_r1 ++ (wsX1_goThrough_r2 ++ wsX1_goThrough_r3)) ++ wsX10 ++ wsX00)
def wsX1_giveFormula_r1 : List Cond := [Cond.fieldLink RX1 9 "MeteredSheets" "kinds" "[I", Cond.fieldLink RX1 13 "MeteredSheets" "ones" "[I", Cond.fieldLink RX1 16 "MeteredSheets" "others" "[I", Cond.fieldLink RX1 19 "MeteredSheets" "numbers" "[I", Cond.methodLink RX1 152 yX1_putInOrder, Cond.instanceMethod yX1_putInOrder, Cond.selects RX1 yX1_putInOrder yX1_putInOrder, Cond.initialized RX1, Cond.code yX1_putInOrder cX1_putInOrder 3 none, Cond.fieldLink RX1 42 "MeteredSheets" "placed" "[Z", Cond.fieldLink RX1 29 "MeteredSheets" "order" "[I", Cond.methodLink RX1 159 yX1_lowestFreeCell, Cond.instanceMethod yX1_lowestFreeCell, Cond.selects RX1 yX1_lowestFreeCell yX1_lowestFreeCell, Cond.code yX1_lowestFreeCell cX1_lowestFreeCell 2 (some .int), Cond.methodLink RX1 163 yX1_isReady, Cond.instanceMethod yX1_isReady, Cond.selects RX1 yX1_isReady yX1_isReady, Cond.code yX1_isReady cX1_isReady 2 (some .boolean), Cond.methodLink RX1 149 yX1_isIn, Cond.static yX1_isIn, Cond.code yX1_isIn cX1_isIn 2 (some .boolean), Cond.methodLink RX1 55 yX1_isCell, Cond.static yX1_isCell]
def wsX1_giveFormula_r2 : List Cond := [Cond.code yX1_isCell cX1_isCell 1 (some .boolean), Cond.methodLink RX1 91 yX1_forgetChanges, Cond.instanceMethod yX1_forgetChanges, Cond.selects RX1 yX1_forgetChanges yX1_forgetChanges, Cond.code yX1_forgetChanges cX1_forgetChanges 2 none, Cond.fieldLink RX1 39 "MeteredSheets" "changed" "[Z", Cond.methodLink RX1 155 yX1_compute, Cond.instanceMethod yX1_compute, Cond.selects RX1 yX1_compute yX1_compute, Cond.code yX1_compute cX1_compute 6 none, Cond.fieldLink RX1 25 "MeteredSheets" "marked" "[Z", Cond.fieldLink RX1 35 "MeteredSheets" "ledger" "LMeteredSheets$Ledger;", Cond.fieldLink RX1 22 "MeteredSheets" "values" "[I", Cond.methodLink RX1 166 yX1_meteredRead, Cond.static yX1_meteredRead, Cond.code yX1_meteredRead cX1_meteredRead 2 (some .int), Cond.methodLink RX1 174 yX1_sheetOf, Cond.static yX1_sheetOf, Cond.code yX1_sheetOf cX1_sheetOf 1 (some .int), Cond.instanceMethod yX0_paysFor, Cond.initialized RX0, Cond.selects RX0 yX0_paysFor yX0_paysFor, Cond.code yX0_paysFor cX0_paysFor 7 (some .boolean), Cond.fieldLink RX0 15 "MeteredSheets$Ledger" "budgets" "[I"]
def wsX1_giveFormula_r3 : List Cond := [Cond.methodLink RX0 41 yX0_costOf, Cond.instanceMethod yX0_costOf, Cond.selects RX0 yX0_costOf yX0_costOf, Cond.code yX0_costOf cX0_costOf 2 (some .int), Cond.fieldLink RX0 9 "MeteredSheets$Ledger" "prices" "[I", Cond.methodLink RX0 44 yX0_enter, Cond.instanceMethod yX0_enter, Cond.selects RX0 yX0_enter yX0_enter, Cond.code yX0_enter cX0_enter 5 none, Cond.fieldLink RX0 18 "MeteredSheets$Ledger" "earnings" "[I", Cond.fieldLink RX0 24 "MeteredSheets$Ledger" "bills" "[I", Cond.fieldLink RX0 21 "MeteredSheets$Ledger" "readsOf" "[I", Cond.fieldLink RX0 27 "MeteredSheets$Ledger" "counts" "[I", Cond.fieldLink RX0 33 "MeteredSheets$Ledger" "keptCount" "I", Cond.fieldLink RX0 30 "MeteredSheets$Ledger" "kept" "[I", Cond.methodLink RX1 121 yX1_resultOf, Cond.instanceMethod yX1_resultOf, Cond.selects RX1 yX1_resultOf yX1_resultOf, Cond.code yX1_resultOf cX1_resultOf 5 (some .int), Cond.methodLink RX1 185 Lib.Math.max.name, Cond.static Lib.Math.max.name, Cond.initialized "java/lang/Math", Cond.code Lib.Math.max.name Lib.Math.max.code 2 (some .int), Cond.methodLink RX1 178 yX1_valueIn]
def wsX1_giveFormula_r4 : List Cond := [Cond.static yX1_valueIn, Cond.code yX1_valueIn cX1_valueIn 2 (some .int), Cond.methodLink RX1 182 yX1_held, Cond.static yX1_held, Cond.code yX1_held cX1_held 1 (some .int), Cond.constant RX1 190 (-1000000), Cond.constant RX1 58 (1000000), Cond.methodLink RX1 191 Lib.Math.min.name, Cond.static Lib.Math.min.name, Cond.code Lib.Math.min.name Lib.Math.min.code 2 (some .int), Cond.methodLink RX1 94 yX1_goThrough, Cond.instanceMethod yX1_goThrough, Cond.selects RX1 yX1_goThrough yX1_goThrough, Cond.code yX1_goThrough cX1_goThrough 6 (some .int), Cond.methodLink RX1 145 yX1_readsOneOf, Cond.instanceMethod yX1_readsOneOf, Cond.selects RX1 yX1_readsOneOf yX1_readsOneOf, Cond.code yX1_readsOneOf cX1_readsOneOf 3 (some .boolean)]
def wsX1_giveFormula : List Cond := .code yX1_giveFormula cX1_giveFormula 7 (some .int) :: ((wsX1_giveFormula_r1 ++ (wsX1_giveFormula_r2 ++ (wsX1_giveFormula_r3 ++ wsX1_giveFormula_r4))) ++ wsX10 ++ wsX00)
def wsX1_setNumber_r1 : List Cond := [Cond.classLink RX1 63 "java/lang/IllegalArgumentException", Cond.initialized "java/lang/IllegalArgumentException", Cond.constant RX1 58 (1000000), Cond.methodLink RX1 51 yX1_isUser, Cond.static yX1_isUser, Cond.initialized RX1, Cond.code yX1_isUser cX1_isUser 1 (some .boolean), Cond.methodLink RX1 55 yX1_isCell, Cond.static yX1_isCell, Cond.code yX1_isCell cX1_isCell 1 (some .boolean), Cond.methodLink RX1 59 yX1_isWithin, Cond.static yX1_isWithin, Cond.code yX1_isWithin cX1_isWithin 2 (some .boolean), Cond.methodLink RX1 70 yX1_giveFormula, Cond.instanceMethod yX1_giveFormula, Cond.selects RX1 yX1_giveFormula yX1_giveFormula, Cond.code yX1_giveFormula cX1_giveFormula 7 (some .int), Cond.fieldLink RX1 9 "MeteredSheets" "kinds" "[I", Cond.fieldLink RX1 13 "MeteredSheets" "ones" "[I", Cond.fieldLink RX1 16 "MeteredSheets" "others" "[I", Cond.fieldLink RX1 19 "MeteredSheets" "numbers" "[I", Cond.methodLink RX1 152 yX1_putInOrder, Cond.instanceMethod yX1_putInOrder, Cond.selects RX1 yX1_putInOrder yX1_putInOrder]
def wsX1_setNumber_r2 : List Cond := [Cond.code yX1_putInOrder cX1_putInOrder 3 none, Cond.fieldLink RX1 42 "MeteredSheets" "placed" "[Z", Cond.fieldLink RX1 29 "MeteredSheets" "order" "[I", Cond.methodLink RX1 159 yX1_lowestFreeCell, Cond.instanceMethod yX1_lowestFreeCell, Cond.selects RX1 yX1_lowestFreeCell yX1_lowestFreeCell, Cond.code yX1_lowestFreeCell cX1_lowestFreeCell 2 (some .int), Cond.methodLink RX1 163 yX1_isReady, Cond.instanceMethod yX1_isReady, Cond.selects RX1 yX1_isReady yX1_isReady, Cond.code yX1_isReady cX1_isReady 2 (some .boolean), Cond.methodLink RX1 149 yX1_isIn, Cond.static yX1_isIn, Cond.code yX1_isIn cX1_isIn 2 (some .boolean), Cond.methodLink RX1 91 yX1_forgetChanges, Cond.instanceMethod yX1_forgetChanges, Cond.selects RX1 yX1_forgetChanges yX1_forgetChanges, Cond.code yX1_forgetChanges cX1_forgetChanges 2 none, Cond.fieldLink RX1 39 "MeteredSheets" "changed" "[Z", Cond.methodLink RX1 155 yX1_compute, Cond.instanceMethod yX1_compute, Cond.selects RX1 yX1_compute yX1_compute, Cond.code yX1_compute cX1_compute 6 none, Cond.fieldLink RX1 25 "MeteredSheets" "marked" "[Z"]
def wsX1_setNumber_r3 : List Cond := [Cond.fieldLink RX1 35 "MeteredSheets" "ledger" "LMeteredSheets$Ledger;", Cond.fieldLink RX1 22 "MeteredSheets" "values" "[I", Cond.methodLink RX1 166 yX1_meteredRead, Cond.static yX1_meteredRead, Cond.code yX1_meteredRead cX1_meteredRead 2 (some .int), Cond.methodLink RX1 174 yX1_sheetOf, Cond.static yX1_sheetOf, Cond.code yX1_sheetOf cX1_sheetOf 1 (some .int), Cond.instanceMethod yX0_paysFor, Cond.initialized RX0, Cond.selects RX0 yX0_paysFor yX0_paysFor, Cond.code yX0_paysFor cX0_paysFor 7 (some .boolean), Cond.fieldLink RX0 15 "MeteredSheets$Ledger" "budgets" "[I", Cond.methodLink RX0 41 yX0_costOf, Cond.instanceMethod yX0_costOf, Cond.selects RX0 yX0_costOf yX0_costOf, Cond.code yX0_costOf cX0_costOf 2 (some .int), Cond.fieldLink RX0 9 "MeteredSheets$Ledger" "prices" "[I", Cond.methodLink RX0 44 yX0_enter, Cond.instanceMethod yX0_enter, Cond.selects RX0 yX0_enter yX0_enter, Cond.code yX0_enter cX0_enter 5 none, Cond.fieldLink RX0 18 "MeteredSheets$Ledger" "earnings" "[I", Cond.fieldLink RX0 24 "MeteredSheets$Ledger" "bills" "[I"]
def wsX1_setNumber_r4 : List Cond := [Cond.fieldLink RX0 21 "MeteredSheets$Ledger" "readsOf" "[I", Cond.fieldLink RX0 27 "MeteredSheets$Ledger" "counts" "[I", Cond.fieldLink RX0 33 "MeteredSheets$Ledger" "keptCount" "I", Cond.fieldLink RX0 30 "MeteredSheets$Ledger" "kept" "[I", Cond.methodLink RX1 121 yX1_resultOf, Cond.instanceMethod yX1_resultOf, Cond.selects RX1 yX1_resultOf yX1_resultOf, Cond.code yX1_resultOf cX1_resultOf 5 (some .int), Cond.methodLink RX1 185 Lib.Math.max.name, Cond.static Lib.Math.max.name, Cond.initialized "java/lang/Math", Cond.code Lib.Math.max.name Lib.Math.max.code 2 (some .int), Cond.methodLink RX1 178 yX1_valueIn, Cond.static yX1_valueIn, Cond.code yX1_valueIn cX1_valueIn 2 (some .int), Cond.methodLink RX1 182 yX1_held, Cond.static yX1_held, Cond.code yX1_held cX1_held 1 (some .int), Cond.constant RX1 190 (-1000000), Cond.methodLink RX1 191 Lib.Math.min.name, Cond.static Lib.Math.min.name, Cond.code Lib.Math.min.name Lib.Math.min.code 2 (some .int), Cond.methodLink RX1 94 yX1_goThrough, Cond.instanceMethod yX1_goThrough]
def wsX1_setNumber_r5 : List Cond := [Cond.selects RX1 yX1_goThrough yX1_goThrough, Cond.code yX1_goThrough cX1_goThrough 6 (some .int), Cond.methodLink RX1 145 yX1_readsOneOf, Cond.instanceMethod yX1_readsOneOf, Cond.selects RX1 yX1_readsOneOf yX1_readsOneOf, Cond.code yX1_readsOneOf cX1_readsOneOf 3 (some .boolean)]
def wsX1_setNumber : List Cond := .code yX1_setNumber cX1_setNumber 4 (some .int) :: ((wsX1_setNumber_r1 ++ (wsX1_setNumber_r2 ++ (wsX1_setNumber_r3 ++ (wsX1_setNumber_r4 ++ wsX1_setNumber_r5)))) ++ wsX10 ++ wsX00 ++ (vx_atS RX1 67 "java/lang/IllegalArgumentException" ["java/lang/RuntimeException", "java/lang/Exception"]).filter goodWord)
def wsX1_wouldReadItself : List Cond := .code yX1_wouldReadItself cX1_wouldReadItself 6 (some .boolean) :: ([.fieldLink RX1 45 "MeteredSheets" "reaching" "[Z", .fieldLink RX1 29 "MeteredSheets" "order" "[I", .methodLink RX1 55 yX1_isCell, .static yX1_isCell, .initialized RX1, .code yX1_isCell cX1_isCell 1 (some .boolean), .methodLink RX1 145 yX1_readsOneOf, .instanceMethod yX1_readsOneOf, .selects RX1 yX1_readsOneOf yX1_readsOneOf, .code yX1_readsOneOf cX1_readsOneOf 3 (some .boolean), .fieldLink RX1 13 "MeteredSheets" "ones" "[I", .fieldLink RX1 16 "MeteredSheets" "others" "[I", .methodLink RX1 149 yX1_isIn, .static yX1_isIn, .code yX1_isIn cX1_isIn 2 (some .boolean)] ++ wsX10)
def wsX1_setSum_r1 : List Cond := [Cond.classLink RX1 63 "java/lang/IllegalArgumentException", Cond.initialized "java/lang/IllegalArgumentException", Cond.classLink RX1 80 "java/lang/IllegalStateException", Cond.initialized "java/lang/IllegalStateException", Cond.methodLink RX1 51 yX1_isUser, Cond.static yX1_isUser, Cond.initialized RX1, Cond.code yX1_isUser cX1_isUser 1 (some .boolean), Cond.methodLink RX1 55 yX1_isCell, Cond.static yX1_isCell, Cond.code yX1_isCell cX1_isCell 1 (some .boolean), Cond.methodLink RX1 59 yX1_isWithin, Cond.static yX1_isWithin, Cond.code yX1_isWithin cX1_isWithin 2 (some .boolean), Cond.methodLink RX1 76 yX1_wouldReadItself, Cond.instanceMethod yX1_wouldReadItself, Cond.selects RX1 yX1_wouldReadItself yX1_wouldReadItself, Cond.code yX1_wouldReadItself cX1_wouldReadItself 6 (some .boolean), Cond.fieldLink RX1 45 "MeteredSheets" "reaching" "[Z", Cond.fieldLink RX1 29 "MeteredSheets" "order" "[I", Cond.methodLink RX1 145 yX1_readsOneOf, Cond.instanceMethod yX1_readsOneOf, Cond.selects RX1 yX1_readsOneOf yX1_readsOneOf, Cond.code yX1_readsOneOf cX1_readsOneOf 3 (some .boolean)]
def wsX1_setSum_r2 : List Cond := [Cond.fieldLink RX1 13 "MeteredSheets" "ones" "[I", Cond.fieldLink RX1 16 "MeteredSheets" "others" "[I", Cond.methodLink RX1 149 yX1_isIn, Cond.static yX1_isIn, Cond.code yX1_isIn cX1_isIn 2 (some .boolean), Cond.methodLink RX1 70 yX1_giveFormula, Cond.instanceMethod yX1_giveFormula, Cond.selects RX1 yX1_giveFormula yX1_giveFormula, Cond.code yX1_giveFormula cX1_giveFormula 7 (some .int), Cond.fieldLink RX1 9 "MeteredSheets" "kinds" "[I", Cond.fieldLink RX1 19 "MeteredSheets" "numbers" "[I", Cond.methodLink RX1 152 yX1_putInOrder, Cond.instanceMethod yX1_putInOrder, Cond.selects RX1 yX1_putInOrder yX1_putInOrder, Cond.code yX1_putInOrder cX1_putInOrder 3 none, Cond.fieldLink RX1 42 "MeteredSheets" "placed" "[Z", Cond.methodLink RX1 159 yX1_lowestFreeCell, Cond.instanceMethod yX1_lowestFreeCell, Cond.selects RX1 yX1_lowestFreeCell yX1_lowestFreeCell, Cond.code yX1_lowestFreeCell cX1_lowestFreeCell 2 (some .int), Cond.methodLink RX1 163 yX1_isReady, Cond.instanceMethod yX1_isReady, Cond.selects RX1 yX1_isReady yX1_isReady, Cond.code yX1_isReady cX1_isReady 2 (some .boolean)]
def wsX1_setSum_r3 : List Cond := [Cond.methodLink RX1 91 yX1_forgetChanges, Cond.instanceMethod yX1_forgetChanges, Cond.selects RX1 yX1_forgetChanges yX1_forgetChanges, Cond.code yX1_forgetChanges cX1_forgetChanges 2 none, Cond.fieldLink RX1 39 "MeteredSheets" "changed" "[Z", Cond.methodLink RX1 155 yX1_compute, Cond.instanceMethod yX1_compute, Cond.selects RX1 yX1_compute yX1_compute, Cond.code yX1_compute cX1_compute 6 none, Cond.fieldLink RX1 25 "MeteredSheets" "marked" "[Z", Cond.fieldLink RX1 35 "MeteredSheets" "ledger" "LMeteredSheets$Ledger;", Cond.fieldLink RX1 22 "MeteredSheets" "values" "[I", Cond.methodLink RX1 166 yX1_meteredRead, Cond.static yX1_meteredRead, Cond.code yX1_meteredRead cX1_meteredRead 2 (some .int), Cond.methodLink RX1 174 yX1_sheetOf, Cond.static yX1_sheetOf, Cond.code yX1_sheetOf cX1_sheetOf 1 (some .int), Cond.instanceMethod yX0_paysFor, Cond.initialized RX0, Cond.selects RX0 yX0_paysFor yX0_paysFor, Cond.code yX0_paysFor cX0_paysFor 7 (some .boolean), Cond.fieldLink RX0 15 "MeteredSheets$Ledger" "budgets" "[I", Cond.methodLink RX0 41 yX0_costOf]
def wsX1_setSum_r4 : List Cond := [Cond.instanceMethod yX0_costOf, Cond.selects RX0 yX0_costOf yX0_costOf, Cond.code yX0_costOf cX0_costOf 2 (some .int), Cond.fieldLink RX0 9 "MeteredSheets$Ledger" "prices" "[I", Cond.methodLink RX0 44 yX0_enter, Cond.instanceMethod yX0_enter, Cond.selects RX0 yX0_enter yX0_enter, Cond.code yX0_enter cX0_enter 5 none, Cond.fieldLink RX0 18 "MeteredSheets$Ledger" "earnings" "[I", Cond.fieldLink RX0 24 "MeteredSheets$Ledger" "bills" "[I", Cond.fieldLink RX0 21 "MeteredSheets$Ledger" "readsOf" "[I", Cond.fieldLink RX0 27 "MeteredSheets$Ledger" "counts" "[I", Cond.fieldLink RX0 33 "MeteredSheets$Ledger" "keptCount" "I", Cond.fieldLink RX0 30 "MeteredSheets$Ledger" "kept" "[I", Cond.methodLink RX1 121 yX1_resultOf, Cond.instanceMethod yX1_resultOf, Cond.selects RX1 yX1_resultOf yX1_resultOf, Cond.code yX1_resultOf cX1_resultOf 5 (some .int), Cond.methodLink RX1 185 Lib.Math.max.name, Cond.static Lib.Math.max.name, Cond.initialized "java/lang/Math", Cond.code Lib.Math.max.name Lib.Math.max.code 2 (some .int), Cond.methodLink RX1 178 yX1_valueIn, Cond.static yX1_valueIn]
def wsX1_setSum_r5 : List Cond := [Cond.code yX1_valueIn cX1_valueIn 2 (some .int), Cond.methodLink RX1 182 yX1_held, Cond.static yX1_held, Cond.code yX1_held cX1_held 1 (some .int), Cond.constant RX1 190 (-1000000), Cond.constant RX1 58 (1000000), Cond.methodLink RX1 191 Lib.Math.min.name, Cond.static Lib.Math.min.name, Cond.code Lib.Math.min.name Lib.Math.min.code 2 (some .int), Cond.methodLink RX1 94 yX1_goThrough, Cond.instanceMethod yX1_goThrough, Cond.selects RX1 yX1_goThrough yX1_goThrough, Cond.code yX1_goThrough cX1_goThrough 6 (some .int)]
def wsX1_setSum : List Cond := .code yX1_setSum cX1_setSum 6 (some .int) :: ((wsX1_setSum_r1 ++ (wsX1_setSum_r2 ++ (wsX1_setSum_r3 ++ (wsX1_setSum_r4 ++ wsX1_setSum_r5)))) ++ wsX10 ++ wsX00 ++ (vx_atS RX1 67 "java/lang/IllegalArgumentException" ["java/lang/RuntimeException", "java/lang/Exception"]).filter goodWord ++ (vx_atS RX1 84 "java/lang/IllegalStateException" ["java/lang/RuntimeException", "java/lang/Exception"]).filter goodWord)
def wsX1_setGreater_r1 : List Cond := [Cond.classLink RX1 63 "java/lang/IllegalArgumentException", Cond.initialized "java/lang/IllegalArgumentException", Cond.classLink RX1 80 "java/lang/IllegalStateException", Cond.initialized "java/lang/IllegalStateException", Cond.methodLink RX1 51 yX1_isUser, Cond.static yX1_isUser, Cond.initialized RX1, Cond.code yX1_isUser cX1_isUser 1 (some .boolean), Cond.methodLink RX1 55 yX1_isCell, Cond.static yX1_isCell, Cond.code yX1_isCell cX1_isCell 1 (some .boolean), Cond.methodLink RX1 76 yX1_wouldReadItself, Cond.instanceMethod yX1_wouldReadItself, Cond.selects RX1 yX1_wouldReadItself yX1_wouldReadItself, Cond.code yX1_wouldReadItself cX1_wouldReadItself 6 (some .boolean), Cond.fieldLink RX1 45 "MeteredSheets" "reaching" "[Z", Cond.fieldLink RX1 29 "MeteredSheets" "order" "[I", Cond.methodLink RX1 145 yX1_readsOneOf, Cond.instanceMethod yX1_readsOneOf, Cond.selects RX1 yX1_readsOneOf yX1_readsOneOf, Cond.code yX1_readsOneOf cX1_readsOneOf 3 (some .boolean), Cond.fieldLink RX1 13 "MeteredSheets" "ones" "[I", Cond.fieldLink RX1 16 "MeteredSheets" "others" "[I", Cond.methodLink RX1 149 yX1_isIn]
def wsX1_setGreater_r2 : List Cond := [Cond.static yX1_isIn, Cond.code yX1_isIn cX1_isIn 2 (some .boolean), Cond.methodLink RX1 70 yX1_giveFormula, Cond.instanceMethod yX1_giveFormula, Cond.selects RX1 yX1_giveFormula yX1_giveFormula, Cond.code yX1_giveFormula cX1_giveFormula 7 (some .int), Cond.fieldLink RX1 9 "MeteredSheets" "kinds" "[I", Cond.fieldLink RX1 19 "MeteredSheets" "numbers" "[I", Cond.methodLink RX1 152 yX1_putInOrder, Cond.instanceMethod yX1_putInOrder, Cond.selects RX1 yX1_putInOrder yX1_putInOrder, Cond.code yX1_putInOrder cX1_putInOrder 3 none, Cond.fieldLink RX1 42 "MeteredSheets" "placed" "[Z", Cond.methodLink RX1 159 yX1_lowestFreeCell, Cond.instanceMethod yX1_lowestFreeCell, Cond.selects RX1 yX1_lowestFreeCell yX1_lowestFreeCell, Cond.code yX1_lowestFreeCell cX1_lowestFreeCell 2 (some .int), Cond.methodLink RX1 163 yX1_isReady, Cond.instanceMethod yX1_isReady, Cond.selects RX1 yX1_isReady yX1_isReady, Cond.code yX1_isReady cX1_isReady 2 (some .boolean), Cond.methodLink RX1 91 yX1_forgetChanges, Cond.instanceMethod yX1_forgetChanges, Cond.selects RX1 yX1_forgetChanges yX1_forgetChanges]
def wsX1_setGreater_r3 : List Cond := [Cond.code yX1_forgetChanges cX1_forgetChanges 2 none, Cond.fieldLink RX1 39 "MeteredSheets" "changed" "[Z", Cond.methodLink RX1 155 yX1_compute, Cond.instanceMethod yX1_compute, Cond.selects RX1 yX1_compute yX1_compute, Cond.code yX1_compute cX1_compute 6 none, Cond.fieldLink RX1 25 "MeteredSheets" "marked" "[Z", Cond.fieldLink RX1 35 "MeteredSheets" "ledger" "LMeteredSheets$Ledger;", Cond.fieldLink RX1 22 "MeteredSheets" "values" "[I", Cond.methodLink RX1 166 yX1_meteredRead, Cond.static yX1_meteredRead, Cond.code yX1_meteredRead cX1_meteredRead 2 (some .int), Cond.methodLink RX1 174 yX1_sheetOf, Cond.static yX1_sheetOf, Cond.code yX1_sheetOf cX1_sheetOf 1 (some .int), Cond.instanceMethod yX0_paysFor, Cond.initialized RX0, Cond.selects RX0 yX0_paysFor yX0_paysFor, Cond.code yX0_paysFor cX0_paysFor 7 (some .boolean), Cond.fieldLink RX0 15 "MeteredSheets$Ledger" "budgets" "[I", Cond.methodLink RX0 41 yX0_costOf, Cond.instanceMethod yX0_costOf, Cond.selects RX0 yX0_costOf yX0_costOf, Cond.code yX0_costOf cX0_costOf 2 (some .int)]
def wsX1_setGreater_r4 : List Cond := [Cond.fieldLink RX0 9 "MeteredSheets$Ledger" "prices" "[I", Cond.methodLink RX0 44 yX0_enter, Cond.instanceMethod yX0_enter, Cond.selects RX0 yX0_enter yX0_enter, Cond.code yX0_enter cX0_enter 5 none, Cond.fieldLink RX0 18 "MeteredSheets$Ledger" "earnings" "[I", Cond.fieldLink RX0 24 "MeteredSheets$Ledger" "bills" "[I", Cond.fieldLink RX0 21 "MeteredSheets$Ledger" "readsOf" "[I", Cond.fieldLink RX0 27 "MeteredSheets$Ledger" "counts" "[I", Cond.fieldLink RX0 33 "MeteredSheets$Ledger" "keptCount" "I", Cond.fieldLink RX0 30 "MeteredSheets$Ledger" "kept" "[I", Cond.methodLink RX1 121 yX1_resultOf, Cond.instanceMethod yX1_resultOf, Cond.selects RX1 yX1_resultOf yX1_resultOf, Cond.code yX1_resultOf cX1_resultOf 5 (some .int), Cond.methodLink RX1 185 Lib.Math.max.name, Cond.static Lib.Math.max.name, Cond.initialized "java/lang/Math", Cond.code Lib.Math.max.name Lib.Math.max.code 2 (some .int), Cond.methodLink RX1 178 yX1_valueIn, Cond.static yX1_valueIn, Cond.code yX1_valueIn cX1_valueIn 2 (some .int), Cond.methodLink RX1 182 yX1_held, Cond.static yX1_held]
def wsX1_setGreater_r5 : List Cond := [Cond.code yX1_held cX1_held 1 (some .int), Cond.constant RX1 190 (-1000000), Cond.constant RX1 58 (1000000), Cond.methodLink RX1 191 Lib.Math.min.name, Cond.static Lib.Math.min.name, Cond.code Lib.Math.min.name Lib.Math.min.code 2 (some .int), Cond.methodLink RX1 94 yX1_goThrough, Cond.instanceMethod yX1_goThrough, Cond.selects RX1 yX1_goThrough yX1_goThrough, Cond.code yX1_goThrough cX1_goThrough 6 (some .int)]
def wsX1_setGreater : List Cond := .code yX1_setGreater cX1_setGreater 5 (some .int) :: ((wsX1_setGreater_r1 ++ (wsX1_setGreater_r2 ++ (wsX1_setGreater_r3 ++ (wsX1_setGreater_r4 ++ wsX1_setGreater_r5)))) ++ wsX10 ++ wsX00 ++ (vx_atS RX1 67 "java/lang/IllegalArgumentException" ["java/lang/RuntimeException", "java/lang/Exception"]).filter goodWord ++ (vx_atS RX1 84 "java/lang/IllegalStateException" ["java/lang/RuntimeException", "java/lang/Exception"]).filter goodWord)
def wsX1_setTimes_r1 : List Cond := [Cond.classLink RX1 63 "java/lang/IllegalArgumentException", Cond.initialized "java/lang/IllegalArgumentException", Cond.classLink RX1 80 "java/lang/IllegalStateException", Cond.initialized "java/lang/IllegalStateException", Cond.methodLink RX1 51 yX1_isUser, Cond.static yX1_isUser, Cond.initialized RX1, Cond.code yX1_isUser cX1_isUser 1 (some .boolean), Cond.methodLink RX1 55 yX1_isCell, Cond.static yX1_isCell, Cond.code yX1_isCell cX1_isCell 1 (some .boolean), Cond.methodLink RX1 59 yX1_isWithin, Cond.static yX1_isWithin, Cond.code yX1_isWithin cX1_isWithin 2 (some .boolean), Cond.methodLink RX1 76 yX1_wouldReadItself, Cond.instanceMethod yX1_wouldReadItself, Cond.selects RX1 yX1_wouldReadItself yX1_wouldReadItself, Cond.code yX1_wouldReadItself cX1_wouldReadItself 6 (some .boolean), Cond.fieldLink RX1 45 "MeteredSheets" "reaching" "[Z", Cond.fieldLink RX1 29 "MeteredSheets" "order" "[I", Cond.methodLink RX1 145 yX1_readsOneOf, Cond.instanceMethod yX1_readsOneOf, Cond.selects RX1 yX1_readsOneOf yX1_readsOneOf, Cond.code yX1_readsOneOf cX1_readsOneOf 3 (some .boolean)]
def wsX1_setTimes_r2 : List Cond := [Cond.fieldLink RX1 13 "MeteredSheets" "ones" "[I", Cond.fieldLink RX1 16 "MeteredSheets" "others" "[I", Cond.methodLink RX1 149 yX1_isIn, Cond.static yX1_isIn, Cond.code yX1_isIn cX1_isIn 2 (some .boolean), Cond.methodLink RX1 70 yX1_giveFormula, Cond.instanceMethod yX1_giveFormula, Cond.selects RX1 yX1_giveFormula yX1_giveFormula, Cond.code yX1_giveFormula cX1_giveFormula 7 (some .int), Cond.fieldLink RX1 9 "MeteredSheets" "kinds" "[I", Cond.fieldLink RX1 19 "MeteredSheets" "numbers" "[I", Cond.methodLink RX1 152 yX1_putInOrder, Cond.instanceMethod yX1_putInOrder, Cond.selects RX1 yX1_putInOrder yX1_putInOrder, Cond.code yX1_putInOrder cX1_putInOrder 3 none, Cond.fieldLink RX1 42 "MeteredSheets" "placed" "[Z", Cond.methodLink RX1 159 yX1_lowestFreeCell, Cond.instanceMethod yX1_lowestFreeCell, Cond.selects RX1 yX1_lowestFreeCell yX1_lowestFreeCell, Cond.code yX1_lowestFreeCell cX1_lowestFreeCell 2 (some .int), Cond.methodLink RX1 163 yX1_isReady, Cond.instanceMethod yX1_isReady, Cond.selects RX1 yX1_isReady yX1_isReady, Cond.code yX1_isReady cX1_isReady 2 (some .boolean)]
def wsX1_setTimes_r3 : List Cond := [Cond.methodLink RX1 91 yX1_forgetChanges, Cond.instanceMethod yX1_forgetChanges, Cond.selects RX1 yX1_forgetChanges yX1_forgetChanges, Cond.code yX1_forgetChanges cX1_forgetChanges 2 none, Cond.fieldLink RX1 39 "MeteredSheets" "changed" "[Z", Cond.methodLink RX1 155 yX1_compute, Cond.instanceMethod yX1_compute, Cond.selects RX1 yX1_compute yX1_compute, Cond.code yX1_compute cX1_compute 6 none, Cond.fieldLink RX1 25 "MeteredSheets" "marked" "[Z", Cond.fieldLink RX1 35 "MeteredSheets" "ledger" "LMeteredSheets$Ledger;", Cond.fieldLink RX1 22 "MeteredSheets" "values" "[I", Cond.methodLink RX1 166 yX1_meteredRead, Cond.static yX1_meteredRead, Cond.code yX1_meteredRead cX1_meteredRead 2 (some .int), Cond.methodLink RX1 174 yX1_sheetOf, Cond.static yX1_sheetOf, Cond.code yX1_sheetOf cX1_sheetOf 1 (some .int), Cond.instanceMethod yX0_paysFor, Cond.initialized RX0, Cond.selects RX0 yX0_paysFor yX0_paysFor, Cond.code yX0_paysFor cX0_paysFor 7 (some .boolean), Cond.fieldLink RX0 15 "MeteredSheets$Ledger" "budgets" "[I", Cond.methodLink RX0 41 yX0_costOf]
def wsX1_setTimes_r4 : List Cond := [Cond.instanceMethod yX0_costOf, Cond.selects RX0 yX0_costOf yX0_costOf, Cond.code yX0_costOf cX0_costOf 2 (some .int), Cond.fieldLink RX0 9 "MeteredSheets$Ledger" "prices" "[I", Cond.methodLink RX0 44 yX0_enter, Cond.instanceMethod yX0_enter, Cond.selects RX0 yX0_enter yX0_enter, Cond.code yX0_enter cX0_enter 5 none, Cond.fieldLink RX0 18 "MeteredSheets$Ledger" "earnings" "[I", Cond.fieldLink RX0 24 "MeteredSheets$Ledger" "bills" "[I", Cond.fieldLink RX0 21 "MeteredSheets$Ledger" "readsOf" "[I", Cond.fieldLink RX0 27 "MeteredSheets$Ledger" "counts" "[I", Cond.fieldLink RX0 33 "MeteredSheets$Ledger" "keptCount" "I", Cond.fieldLink RX0 30 "MeteredSheets$Ledger" "kept" "[I", Cond.methodLink RX1 121 yX1_resultOf, Cond.instanceMethod yX1_resultOf, Cond.selects RX1 yX1_resultOf yX1_resultOf, Cond.code yX1_resultOf cX1_resultOf 5 (some .int), Cond.methodLink RX1 185 Lib.Math.max.name, Cond.static Lib.Math.max.name, Cond.initialized "java/lang/Math", Cond.code Lib.Math.max.name Lib.Math.max.code 2 (some .int), Cond.methodLink RX1 178 yX1_valueIn, Cond.static yX1_valueIn]
def wsX1_setTimes_r5 : List Cond := [Cond.code yX1_valueIn cX1_valueIn 2 (some .int), Cond.methodLink RX1 182 yX1_held, Cond.static yX1_held, Cond.code yX1_held cX1_held 1 (some .int), Cond.constant RX1 190 (-1000000), Cond.constant RX1 58 (1000000), Cond.methodLink RX1 191 Lib.Math.min.name, Cond.static Lib.Math.min.name, Cond.code Lib.Math.min.name Lib.Math.min.code 2 (some .int), Cond.methodLink RX1 94 yX1_goThrough, Cond.instanceMethod yX1_goThrough, Cond.selects RX1 yX1_goThrough yX1_goThrough, Cond.code yX1_goThrough cX1_goThrough 6 (some .int)]
def wsX1_setTimes : List Cond := .code yX1_setTimes cX1_setTimes 5 (some .int) :: ((wsX1_setTimes_r1 ++ (wsX1_setTimes_r2 ++ (wsX1_setTimes_r3 ++ (wsX1_setTimes_r4 ++ wsX1_setTimes_r5)))) ++ wsX10 ++ wsX00 ++ (vx_atS RX1 67 "java/lang/IllegalArgumentException" ["java/lang/RuntimeException", "java/lang/Exception"]).filter goodWord ++ (vx_atS RX1 84 "java/lang/IllegalStateException" ["java/lang/RuntimeException", "java/lang/Exception"]).filter goodWord)
def wsX1_refresh_r1 : List Cond := [Cond.classLink RX1 63 "java/lang/IllegalArgumentException", Cond.initialized "java/lang/IllegalArgumentException", Cond.methodLink RX1 51 yX1_isUser, Cond.static yX1_isUser, Cond.initialized RX1, Cond.code yX1_isUser cX1_isUser 1 (some .boolean), Cond.methodLink RX1 91 yX1_forgetChanges, Cond.instanceMethod yX1_forgetChanges, Cond.selects RX1 yX1_forgetChanges yX1_forgetChanges, Cond.code yX1_forgetChanges cX1_forgetChanges 2 none, Cond.fieldLink RX1 39 "MeteredSheets" "changed" "[Z", Cond.methodLink RX1 94 yX1_goThrough, Cond.instanceMethod yX1_goThrough, Cond.selects RX1 yX1_goThrough yX1_goThrough, Cond.code yX1_goThrough cX1_goThrough 6 (some .int), Cond.fieldLink RX1 29 "MeteredSheets" "order" "[I", Cond.fieldLink RX1 25 "MeteredSheets" "marked" "[Z", Cond.methodLink RX1 55 yX1_isCell, Cond.static yX1_isCell, Cond.code yX1_isCell cX1_isCell 1 (some .boolean), Cond.methodLink RX1 145 yX1_readsOneOf, Cond.instanceMethod yX1_readsOneOf, Cond.selects RX1 yX1_readsOneOf yX1_readsOneOf, Cond.code yX1_readsOneOf cX1_readsOneOf 3 (some .boolean)]
def wsX1_refresh_r2 : List Cond := [Cond.fieldLink RX1 13 "MeteredSheets" "ones" "[I", Cond.fieldLink RX1 16 "MeteredSheets" "others" "[I", Cond.methodLink RX1 149 yX1_isIn, Cond.static yX1_isIn, Cond.code yX1_isIn cX1_isIn 2 (some .boolean), Cond.methodLink RX1 155 yX1_compute, Cond.instanceMethod yX1_compute, Cond.selects RX1 yX1_compute yX1_compute, Cond.code yX1_compute cX1_compute 6 none, Cond.fieldLink RX1 35 "MeteredSheets" "ledger" "LMeteredSheets$Ledger;", Cond.fieldLink RX1 22 "MeteredSheets" "values" "[I", Cond.methodLink RX1 166 yX1_meteredRead, Cond.static yX1_meteredRead, Cond.code yX1_meteredRead cX1_meteredRead 2 (some .int), Cond.methodLink RX1 174 yX1_sheetOf, Cond.static yX1_sheetOf, Cond.code yX1_sheetOf cX1_sheetOf 1 (some .int), Cond.instanceMethod yX0_paysFor, Cond.initialized RX0, Cond.selects RX0 yX0_paysFor yX0_paysFor, Cond.code yX0_paysFor cX0_paysFor 7 (some .boolean), Cond.fieldLink RX0 15 "MeteredSheets$Ledger" "budgets" "[I", Cond.methodLink RX0 41 yX0_costOf, Cond.instanceMethod yX0_costOf]
def wsX1_refresh_r3 : List Cond := [Cond.selects RX0 yX0_costOf yX0_costOf, Cond.code yX0_costOf cX0_costOf 2 (some .int), Cond.fieldLink RX0 9 "MeteredSheets$Ledger" "prices" "[I", Cond.methodLink RX0 44 yX0_enter, Cond.instanceMethod yX0_enter, Cond.selects RX0 yX0_enter yX0_enter, Cond.code yX0_enter cX0_enter 5 none, Cond.fieldLink RX0 18 "MeteredSheets$Ledger" "earnings" "[I", Cond.fieldLink RX0 24 "MeteredSheets$Ledger" "bills" "[I", Cond.fieldLink RX0 21 "MeteredSheets$Ledger" "readsOf" "[I", Cond.fieldLink RX0 27 "MeteredSheets$Ledger" "counts" "[I", Cond.fieldLink RX0 33 "MeteredSheets$Ledger" "keptCount" "I", Cond.fieldLink RX0 30 "MeteredSheets$Ledger" "kept" "[I", Cond.methodLink RX1 121 yX1_resultOf, Cond.instanceMethod yX1_resultOf, Cond.selects RX1 yX1_resultOf yX1_resultOf, Cond.code yX1_resultOf cX1_resultOf 5 (some .int), Cond.fieldLink RX1 9 "MeteredSheets" "kinds" "[I", Cond.fieldLink RX1 19 "MeteredSheets" "numbers" "[I", Cond.methodLink RX1 185 Lib.Math.max.name, Cond.static Lib.Math.max.name, Cond.initialized "java/lang/Math", Cond.code Lib.Math.max.name Lib.Math.max.code 2 (some .int), Cond.methodLink RX1 178 yX1_valueIn]
def wsX1_refresh_r4 : List Cond := [Cond.static yX1_valueIn, Cond.code yX1_valueIn cX1_valueIn 2 (some .int), Cond.methodLink RX1 182 yX1_held, Cond.static yX1_held, Cond.code yX1_held cX1_held 1 (some .int), Cond.constant RX1 190 (-1000000), Cond.constant RX1 58 (1000000), Cond.methodLink RX1 191 Lib.Math.min.name, Cond.static Lib.Math.min.name, Cond.code Lib.Math.min.name Lib.Math.min.code 2 (some .int)]
def wsX1_refresh : List Cond := .code yX1_refresh cX1_refresh 2 (some .int) :: ((wsX1_refresh_r1 ++ (wsX1_refresh_r2 ++ (wsX1_refresh_r3 ++ wsX1_refresh_r4))) ++ wsX10 ++ wsX00 ++ (vx_atS RX1 67 "java/lang/IllegalArgumentException" ["java/lang/RuntimeException", "java/lang/Exception"]).filter goodWord)
def wsX1_isSheet : List Cond := .code yX1_isSheet cX1_isSheet 1 (some .boolean) :: ([])
def wsX1_setPrice : List Cond := .code yX1_setPrice cX1_setPrice 4 (some .int) :: ([.classLink RX1 63 "java/lang/IllegalArgumentException", .initialized "java/lang/IllegalArgumentException", .fieldLink RX1 35 "MeteredSheets" "ledger" "LMeteredSheets$Ledger;", .methodLink RX1 98 yX1_isSheet, .static yX1_isSheet, .initialized RX1, .code yX1_isSheet cX1_isSheet 1 (some .boolean)] ++ wsX10 ++ wsX00 ++ (vx_atS RX1 67 "java/lang/IllegalArgumentException" ["java/lang/RuntimeException", "java/lang/Exception"]).filter goodWord)
def wsX1_grant : List Cond := .code yX1_grant cX1_grant 3 (some .int) :: ([.classLink RX1 63 "java/lang/IllegalArgumentException", .initialized "java/lang/IllegalArgumentException", .fieldLink RX1 35 "MeteredSheets" "ledger" "LMeteredSheets$Ledger;", .methodLink RX1 98 yX1_isSheet, .static yX1_isSheet, .initialized RX1, .code yX1_isSheet cX1_isSheet 1 (some .boolean)] ++ wsX10 ++ wsX00 ++ (vx_atS RX1 67 "java/lang/IllegalArgumentException" ["java/lang/RuntimeException", "java/lang/Exception"]).filter goodWord)
def wsX1_budget : List Cond := .code yX1_budget cX1_budget 2 (some .int) :: ([.classLink RX1 63 "java/lang/IllegalArgumentException", .initialized "java/lang/IllegalArgumentException", .fieldLink RX1 35 "MeteredSheets" "ledger" "LMeteredSheets$Ledger;", .methodLink RX1 98 yX1_isSheet, .static yX1_isSheet, .initialized RX1, .code yX1_isSheet cX1_isSheet 1 (some .boolean)] ++ wsX10 ++ wsX00 ++ (vx_atS RX1 67 "java/lang/IllegalArgumentException" ["java/lang/RuntimeException", "java/lang/Exception"]).filter goodWord)
def wsX1_earned : List Cond := .code yX1_earned cX1_earned 2 (some .int) :: ([.classLink RX1 63 "java/lang/IllegalArgumentException", .initialized "java/lang/IllegalArgumentException", .fieldLink RX1 35 "MeteredSheets" "ledger" "LMeteredSheets$Ledger;", .methodLink RX1 98 yX1_isSheet, .static yX1_isSheet, .initialized RX1, .code yX1_isSheet cX1_isSheet 1 (some .boolean)] ++ wsX10 ++ wsX00 ++ (vx_atS RX1 67 "java/lang/IllegalArgumentException" ["java/lang/RuntimeException", "java/lang/Exception"]).filter goodWord)
def wsX1_caused : List Cond := .code yX1_caused cX1_caused 2 (some .int) :: ([.classLink RX1 63 "java/lang/IllegalArgumentException", .initialized "java/lang/IllegalArgumentException", .fieldLink RX1 35 "MeteredSheets" "ledger" "LMeteredSheets$Ledger;", .methodLink RX1 51 yX1_isUser, .static yX1_isUser, .initialized RX1, .code yX1_isUser cX1_isUser 1 (some .boolean)] ++ wsX10 ++ wsX00 ++ (vx_atS RX1 67 "java/lang/IllegalArgumentException" ["java/lang/RuntimeException", "java/lang/Exception"]).filter goodWord)
def wsX1_value : List Cond := .code yX1_value cX1_value 2 (some .int) :: ([.classLink RX1 63 "java/lang/IllegalArgumentException", .initialized "java/lang/IllegalArgumentException", .fieldLink RX1 22 "MeteredSheets" "values" "[I", .methodLink RX1 55 yX1_isCell, .static yX1_isCell, .initialized RX1, .code yX1_isCell cX1_isCell 1 (some .boolean)] ++ wsX10 ++ (vx_atS RX1 67 "java/lang/IllegalArgumentException" ["java/lang/RuntimeException", "java/lang/Exception"]).filter goodWord)
def wsX1_isMarked : List Cond := .code yX1_isMarked cX1_isMarked 2 (some .boolean) :: ([.classLink RX1 63 "java/lang/IllegalArgumentException", .initialized "java/lang/IllegalArgumentException", .fieldLink RX1 25 "MeteredSheets" "marked" "[Z", .methodLink RX1 55 yX1_isCell, .static yX1_isCell, .initialized RX1, .code yX1_isCell cX1_isCell 1 (some .boolean)] ++ wsX10 ++ (vx_atS RX1 67 "java/lang/IllegalArgumentException" ["java/lang/RuntimeException", "java/lang/Exception"]).filter goodWord)
def wsX1_valueAnew_r1 : List Cond := [Cond.classLink RX1 63 "java/lang/IllegalArgumentException", Cond.initialized "java/lang/IllegalArgumentException", Cond.fieldLink RX1 29 "MeteredSheets" "order" "[I", Cond.fieldLink RX1 48 "MeteredSheets" "fresh" "[I", Cond.methodLink RX1 55 yX1_isCell, Cond.static yX1_isCell, Cond.initialized RX1, Cond.code yX1_isCell cX1_isCell 1 (some .boolean), Cond.methodLink RX1 121 yX1_resultOf, Cond.instanceMethod yX1_resultOf, Cond.selects RX1 yX1_resultOf yX1_resultOf, Cond.code yX1_resultOf cX1_resultOf 5 (some .int), Cond.fieldLink RX1 13 "MeteredSheets" "ones" "[I", Cond.fieldLink RX1 16 "MeteredSheets" "others" "[I", Cond.fieldLink RX1 9 "MeteredSheets" "kinds" "[I", Cond.fieldLink RX1 19 "MeteredSheets" "numbers" "[I", Cond.methodLink RX1 185 Lib.Math.max.name, Cond.static Lib.Math.max.name, Cond.initialized "java/lang/Math", Cond.code Lib.Math.max.name Lib.Math.max.code 2 (some .int), Cond.methodLink RX1 178 yX1_valueIn, Cond.static yX1_valueIn, Cond.code yX1_valueIn cX1_valueIn 2 (some .int), Cond.methodLink RX1 182 yX1_held]
def wsX1_valueAnew_r2 : List Cond := [Cond.static yX1_held, Cond.code yX1_held cX1_held 1 (some .int), Cond.constant RX1 190 (-1000000), Cond.constant RX1 58 (1000000), Cond.methodLink RX1 191 Lib.Math.min.name, Cond.static Lib.Math.min.name, Cond.code Lib.Math.min.name Lib.Math.min.code 2 (some .int)]
def wsX1_valueAnew : List Cond := .code yX1_valueAnew cX1_valueAnew 4 (some .int) :: ((wsX1_valueAnew_r1 ++ wsX1_valueAnew_r2) ++ wsX10 ++ (vx_atS RX1 67 "java/lang/IllegalArgumentException" ["java/lang/RuntimeException", "java/lang/Exception"]).filter goodWord)
def wsX1_readings : List Cond := .code yX1_readings cX1_readings 1 (some .int) :: ([.fieldLink RX1 35 "MeteredSheets" "ledger" "LMeteredSheets$Ledger;"] ++ wsX10 ++ wsX00)
def wsX1_reading : List Cond := .code yX1_reading cX1_reading 2 (some .int) :: ([.classLink RX1 129 "java/lang/IndexOutOfBoundsException", .initialized "java/lang/IndexOutOfBoundsException", .fieldLink RX1 35 "MeteredSheets" "ledger" "LMeteredSheets$Ledger;"] ++ wsX10 ++ wsX00 ++ (vx_atS RX1 133 "java/lang/IndexOutOfBoundsException" ["java/lang/RuntimeException", "java/lang/Exception"]).filter goodWord)
def wsX1_timesRead : List Cond := .code yX1_timesRead cX1_timesRead 3 (some .int) :: ([.classLink RX1 63 "java/lang/IllegalArgumentException", .initialized "java/lang/IllegalArgumentException", .fieldLink RX1 35 "MeteredSheets" "ledger" "LMeteredSheets$Ledger;", .methodLink RX1 55 yX1_isCell, .static yX1_isCell, .initialized RX1, .code yX1_isCell cX1_isCell 1 (some .boolean)] ++ wsX10 ++ wsX00 ++ (vx_atS RX1 67 "java/lang/IllegalArgumentException" ["java/lang/RuntimeException", "java/lang/Exception"]).filter goodWord)
def wsX1_readOf : List Cond := .code yX1_readOf cX1_readOf 2 (some .int) :: ([.classLink RX1 63 "java/lang/IllegalArgumentException", .initialized "java/lang/IllegalArgumentException", .fieldLink RX1 35 "MeteredSheets" "ledger" "LMeteredSheets$Ledger;", .methodLink RX1 98 yX1_isSheet, .static yX1_isSheet, .initialized RX1, .code yX1_isSheet cX1_isSheet 1 (some .boolean)] ++ wsX10 ++ wsX00 ++ (vx_atS RX1 67 "java/lang/IllegalArgumentException" ["java/lang/RuntimeException", "java/lang/Exception"]).filter goodWord)
def wsJ9_max_7cf53 : List Cond := .code yJ9_max_7cf53 cJ9_max_7cf53 2 (some .int) :: ([])
def wsJ9_min_7cf53 : List Cond := .code yJ9_min_7cf53 cJ9_min_7cf53 2 (some .int) :: ([])
def wsL_cell : List Cond := .code yL_cell cL_cell 2 (some .int) :: ([.constant RL 7 (970441141)])
def wsL_at : List Cond := .code yL_at cL_at 2 (some .int) :: ([])
def wsL_marked : List Cond := .code yL_marked cL_marked 3 (some .int) :: ([.methodLink RL 8 yX1_isMarked, .instanceMethod yX1_isMarked, .selects RX1 yX1_isMarked yX1_isMarked, .initialized RX1, .code yX1_isMarked cX1_isMarked 2 (some .boolean), .classLink RX1 63 "java/lang/IllegalArgumentException", .initialized "java/lang/IllegalArgumentException", .fieldLink RX1 25 "MeteredSheets" "marked" "[Z", .methodLink RX1 55 yX1_isCell, .static yX1_isCell, .code yX1_isCell cX1_isCell 1 (some .boolean)] ++ wsX10 ++ (vx_atS RX1 67 "java/lang/IllegalArgumentException" ["java/lang/RuntimeException", "java/lang/Exception"]).filter goodWord)
def wsL_accounts_r1 : List Cond := [Cond.methodLink RL 14 yX1_budget, Cond.instanceMethod yX1_budget, Cond.selects RX1 yX1_budget yX1_budget, Cond.initialized RX1, Cond.code yX1_budget cX1_budget 2 (some .int), Cond.classLink RX1 63 "java/lang/IllegalArgumentException", Cond.initialized "java/lang/IllegalArgumentException", Cond.fieldLink RX1 35 "MeteredSheets" "ledger" "LMeteredSheets$Ledger;", Cond.methodLink RX1 98 yX1_isSheet, Cond.static yX1_isSheet, Cond.code yX1_isSheet cX1_isSheet 1 (some .boolean), Cond.methodLink RL 18 yX1_earned, Cond.instanceMethod yX1_earned, Cond.selects RX1 yX1_earned yX1_earned, Cond.code yX1_earned cX1_earned 2 (some .int), Cond.methodLink RL 21 yX1_readOf, Cond.instanceMethod yX1_readOf, Cond.selects RX1 yX1_readOf yX1_readOf, Cond.code yX1_readOf cX1_readOf 2 (some .int), Cond.methodLink RL 24 yX1_caused, Cond.instanceMethod yX1_caused, Cond.selects RX1 yX1_caused yX1_caused, Cond.code yX1_caused cX1_caused 2 (some .int), Cond.methodLink RX1 51 yX1_isUser]
def wsL_accounts_r2 : List Cond := [Cond.static yX1_isUser, Cond.code yX1_isUser cX1_isUser 1 (some .boolean), Cond.methodLink RL 27 yX1_readings, Cond.instanceMethod yX1_readings, Cond.selects RX1 yX1_readings yX1_readings, Cond.code yX1_readings cX1_readings 1 (some .int)]
def wsL_accounts : List Cond := .code yL_accounts cL_accounts 7 (some .boolean) :: ((wsL_accounts_r1 ++ wsL_accounts_r2) ++ wsX10 ++ wsX00 ++ (vx_atS RX1 67 "java/lang/IllegalArgumentException" ["java/lang/RuntimeException", "java/lang/Exception"]).filter goodWord)
def wsL_traced : List Cond := .code yL_traced cL_traced 7 (some .boolean) :: ([.methodLink RL 27 yX1_readings, .instanceMethod yX1_readings, .selects RX1 yX1_readings yX1_readings, .initialized RX1, .code yX1_readings cX1_readings 1 (some .int), .fieldLink RX1 35 "MeteredSheets" "ledger" "LMeteredSheets$Ledger;", .methodLink RL 31 yX1_reading, .instanceMethod yX1_reading, .selects RX1 yX1_reading yX1_reading, .code yX1_reading cX1_reading 2 (some .int), .classLink RX1 129 "java/lang/IndexOutOfBoundsException", .initialized "java/lang/IndexOutOfBoundsException", .methodLink RL 34 yX1_timesRead, .instanceMethod yX1_timesRead, .selects RX1 yX1_timesRead yX1_timesRead, .code yX1_timesRead cX1_timesRead 3 (some .int), .classLink RX1 63 "java/lang/IllegalArgumentException", .initialized "java/lang/IllegalArgumentException", .methodLink RX1 55 yX1_isCell, .static yX1_isCell, .code yX1_isCell cX1_isCell 1 (some .boolean)] ++ wsX10 ++ wsX00 ++ (vx_atS RX1 133 "java/lang/IndexOutOfBoundsException" ["java/lang/RuntimeException", "java/lang/Exception"]).filter goodWord ++ (vx_atS RX1 67 "java/lang/IllegalArgumentException" ["java/lang/RuntimeException", "java/lang/Exception"]).filter goodWord)
def wsL_give_r1 : List Cond := [Cond.constant RL 43 (2000001), Cond.constant RL 44 (1000000), Cond.methodLink RL 38 yL_at, Cond.static yL_at, Cond.initialized RL, Cond.code yL_at cL_at 2 (some .int), Cond.methodLink RL 45 yX1_setNumber, Cond.instanceMethod yX1_setNumber, Cond.selects RX1 yX1_setNumber yX1_setNumber, Cond.initialized RX1, Cond.code yX1_setNumber cX1_setNumber 4 (some .int), Cond.classLink RX1 63 "java/lang/IllegalArgumentException", Cond.initialized "java/lang/IllegalArgumentException", Cond.constant RX1 58 (1000000), Cond.methodLink RX1 51 yX1_isUser, Cond.static yX1_isUser, Cond.code yX1_isUser cX1_isUser 1 (some .boolean), Cond.methodLink RX1 55 yX1_isCell, Cond.static yX1_isCell, Cond.code yX1_isCell cX1_isCell 1 (some .boolean), Cond.methodLink RX1 59 yX1_isWithin, Cond.static yX1_isWithin, Cond.code yX1_isWithin cX1_isWithin 2 (some .boolean), Cond.methodLink RX1 70 yX1_giveFormula]
def wsL_give_r2 : List Cond := [Cond.instanceMethod yX1_giveFormula, Cond.selects RX1 yX1_giveFormula yX1_giveFormula, Cond.code yX1_giveFormula cX1_giveFormula 7 (some .int), Cond.fieldLink RX1 9 "MeteredSheets" "kinds" "[I", Cond.fieldLink RX1 13 "MeteredSheets" "ones" "[I", Cond.fieldLink RX1 16 "MeteredSheets" "others" "[I", Cond.fieldLink RX1 19 "MeteredSheets" "numbers" "[I", Cond.methodLink RX1 152 yX1_putInOrder, Cond.instanceMethod yX1_putInOrder, Cond.selects RX1 yX1_putInOrder yX1_putInOrder, Cond.code yX1_putInOrder cX1_putInOrder 3 none, Cond.fieldLink RX1 42 "MeteredSheets" "placed" "[Z", Cond.fieldLink RX1 29 "MeteredSheets" "order" "[I", Cond.methodLink RX1 159 yX1_lowestFreeCell, Cond.instanceMethod yX1_lowestFreeCell, Cond.selects RX1 yX1_lowestFreeCell yX1_lowestFreeCell, Cond.code yX1_lowestFreeCell cX1_lowestFreeCell 2 (some .int), Cond.methodLink RX1 163 yX1_isReady, Cond.instanceMethod yX1_isReady, Cond.selects RX1 yX1_isReady yX1_isReady, Cond.code yX1_isReady cX1_isReady 2 (some .boolean), Cond.methodLink RX1 149 yX1_isIn, Cond.static yX1_isIn, Cond.code yX1_isIn cX1_isIn 2 (some .boolean)]
def wsL_give_r3 : List Cond := [Cond.methodLink RX1 91 yX1_forgetChanges, Cond.instanceMethod yX1_forgetChanges, Cond.selects RX1 yX1_forgetChanges yX1_forgetChanges, Cond.code yX1_forgetChanges cX1_forgetChanges 2 none, Cond.fieldLink RX1 39 "MeteredSheets" "changed" "[Z", Cond.methodLink RX1 155 yX1_compute, Cond.instanceMethod yX1_compute, Cond.selects RX1 yX1_compute yX1_compute, Cond.code yX1_compute cX1_compute 6 none, Cond.fieldLink RX1 25 "MeteredSheets" "marked" "[Z", Cond.fieldLink RX1 35 "MeteredSheets" "ledger" "LMeteredSheets$Ledger;", Cond.fieldLink RX1 22 "MeteredSheets" "values" "[I", Cond.methodLink RX1 166 yX1_meteredRead, Cond.static yX1_meteredRead, Cond.code yX1_meteredRead cX1_meteredRead 2 (some .int), Cond.methodLink RX1 174 yX1_sheetOf, Cond.static yX1_sheetOf, Cond.code yX1_sheetOf cX1_sheetOf 1 (some .int), Cond.instanceMethod yX0_paysFor, Cond.initialized RX0, Cond.selects RX0 yX0_paysFor yX0_paysFor, Cond.code yX0_paysFor cX0_paysFor 7 (some .boolean), Cond.fieldLink RX0 15 "MeteredSheets$Ledger" "budgets" "[I", Cond.methodLink RX0 41 yX0_costOf]
def wsL_give_r4 : List Cond := [Cond.instanceMethod yX0_costOf, Cond.selects RX0 yX0_costOf yX0_costOf, Cond.code yX0_costOf cX0_costOf 2 (some .int), Cond.fieldLink RX0 9 "MeteredSheets$Ledger" "prices" "[I", Cond.methodLink RX0 44 yX0_enter, Cond.instanceMethod yX0_enter, Cond.selects RX0 yX0_enter yX0_enter, Cond.code yX0_enter cX0_enter 5 none, Cond.fieldLink RX0 18 "MeteredSheets$Ledger" "earnings" "[I", Cond.fieldLink RX0 24 "MeteredSheets$Ledger" "bills" "[I", Cond.fieldLink RX0 21 "MeteredSheets$Ledger" "readsOf" "[I", Cond.fieldLink RX0 27 "MeteredSheets$Ledger" "counts" "[I", Cond.fieldLink RX0 33 "MeteredSheets$Ledger" "keptCount" "I", Cond.fieldLink RX0 30 "MeteredSheets$Ledger" "kept" "[I", Cond.methodLink RX1 121 yX1_resultOf, Cond.instanceMethod yX1_resultOf, Cond.selects RX1 yX1_resultOf yX1_resultOf, Cond.code yX1_resultOf cX1_resultOf 5 (some .int), Cond.methodLink RX1 185 Lib.Math.max.name, Cond.static Lib.Math.max.name, Cond.initialized "java/lang/Math", Cond.code Lib.Math.max.name Lib.Math.max.code 2 (some .int), Cond.methodLink RX1 178 yX1_valueIn, Cond.static yX1_valueIn]
def wsL_give_r5 : List Cond := [Cond.code yX1_valueIn cX1_valueIn 2 (some .int), Cond.methodLink RX1 182 yX1_held, Cond.static yX1_held, Cond.code yX1_held cX1_held 1 (some .int), Cond.constant RX1 190 (-1000000), Cond.methodLink RX1 191 Lib.Math.min.name, Cond.static Lib.Math.min.name, Cond.code Lib.Math.min.name Lib.Math.min.code 2 (some .int), Cond.methodLink RX1 94 yX1_goThrough, Cond.instanceMethod yX1_goThrough, Cond.selects RX1 yX1_goThrough yX1_goThrough, Cond.code yX1_goThrough cX1_goThrough 6 (some .int), Cond.methodLink RX1 145 yX1_readsOneOf, Cond.instanceMethod yX1_readsOneOf, Cond.selects RX1 yX1_readsOneOf yX1_readsOneOf, Cond.code yX1_readsOneOf cX1_readsOneOf 3 (some .boolean), Cond.methodLink RL 49 yX1_setSum, Cond.instanceMethod yX1_setSum, Cond.selects RX1 yX1_setSum yX1_setSum, Cond.code yX1_setSum cX1_setSum 6 (some .int), Cond.classLink RX1 80 "java/lang/IllegalStateException", Cond.initialized "java/lang/IllegalStateException", Cond.methodLink RX1 76 yX1_wouldReadItself, Cond.instanceMethod yX1_wouldReadItself]
def wsL_give_r6 : List Cond := [Cond.selects RX1 yX1_wouldReadItself yX1_wouldReadItself, Cond.code yX1_wouldReadItself cX1_wouldReadItself 6 (some .boolean), Cond.fieldLink RX1 45 "MeteredSheets" "reaching" "[Z", Cond.methodLink RL 53 yX1_setGreater, Cond.instanceMethod yX1_setGreater, Cond.selects RX1 yX1_setGreater yX1_setGreater, Cond.code yX1_setGreater cX1_setGreater 5 (some .int), Cond.methodLink RL 57 yX1_setTimes, Cond.instanceMethod yX1_setTimes, Cond.selects RX1 yX1_setTimes yX1_setTimes, Cond.code yX1_setTimes cX1_setTimes 5 (some .int)]
def wsL_give : List Cond := .code yL_give cL_give 8 (some .int) :: ((wsL_give_r1 ++ (wsL_give_r2 ++ (wsL_give_r3 ++ (wsL_give_r4 ++ (wsL_give_r5 ++ wsL_give_r6))))) ++ wsX10 ++ wsX00 ++ (vx_atS RX1 67 "java/lang/IllegalArgumentException" ["java/lang/RuntimeException", "java/lang/Exception"]).filter goodWord ++ (vx_atS RX1 84 "java/lang/IllegalStateException" ["java/lang/RuntimeException", "java/lang/Exception"]).filter goodWord)
def wsL_right_r1 : List Cond := [Cond.constant RL 44 (1000000), Cond.constant RL 70 (-1000000), Cond.methodLink RL 60 yL_marked, Cond.static yL_marked, Cond.initialized RL, Cond.code yL_marked cL_marked 3 (some .int), Cond.methodLink RL 8 yX1_isMarked, Cond.instanceMethod yX1_isMarked, Cond.selects RX1 yX1_isMarked yX1_isMarked, Cond.initialized RX1, Cond.code yX1_isMarked cX1_isMarked 2 (some .boolean), Cond.classLink RX1 63 "java/lang/IllegalArgumentException", Cond.initialized "java/lang/IllegalArgumentException", Cond.fieldLink RX1 25 "MeteredSheets" "marked" "[Z", Cond.methodLink RX1 55 yX1_isCell, Cond.static yX1_isCell, Cond.code yX1_isCell cX1_isCell 1 (some .boolean), Cond.methodLink RL 64 yX1_value, Cond.instanceMethod yX1_value, Cond.selects RX1 yX1_value yX1_value, Cond.code yX1_value cX1_value 2 (some .int), Cond.fieldLink RX1 22 "MeteredSheets" "values" "[I", Cond.methodLink RL 67 yX1_valueAnew, Cond.instanceMethod yX1_valueAnew]
def wsL_right_r2 : List Cond := [Cond.selects RX1 yX1_valueAnew yX1_valueAnew, Cond.code yX1_valueAnew cX1_valueAnew 4 (some .int), Cond.fieldLink RX1 29 "MeteredSheets" "order" "[I", Cond.fieldLink RX1 48 "MeteredSheets" "fresh" "[I", Cond.methodLink RX1 121 yX1_resultOf, Cond.instanceMethod yX1_resultOf, Cond.selects RX1 yX1_resultOf yX1_resultOf, Cond.code yX1_resultOf cX1_resultOf 5 (some .int), Cond.fieldLink RX1 13 "MeteredSheets" "ones" "[I", Cond.fieldLink RX1 16 "MeteredSheets" "others" "[I", Cond.fieldLink RX1 9 "MeteredSheets" "kinds" "[I", Cond.fieldLink RX1 19 "MeteredSheets" "numbers" "[I", Cond.methodLink RX1 185 Lib.Math.max.name, Cond.static Lib.Math.max.name, Cond.initialized "java/lang/Math", Cond.code Lib.Math.max.name Lib.Math.max.code 2 (some .int), Cond.methodLink RX1 178 yX1_valueIn, Cond.static yX1_valueIn, Cond.code yX1_valueIn cX1_valueIn 2 (some .int), Cond.methodLink RX1 182 yX1_held, Cond.static yX1_held, Cond.code yX1_held cX1_held 1 (some .int), Cond.constant RX1 190 (-1000000), Cond.constant RX1 58 (1000000)]
def wsL_right_r3 : List Cond := [Cond.methodLink RX1 191 Lib.Math.min.name, Cond.static Lib.Math.min.name, Cond.code Lib.Math.min.name Lib.Math.min.code 2 (some .int)]
def wsL_right : List Cond := .code yL_right cL_right 2 (some .boolean) :: ((wsL_right_r1 ++ (wsL_right_r2 ++ wsL_right_r3)) ++ wsX10 ++ (vx_atS RX1 67 "java/lang/IllegalArgumentException" ["java/lang/RuntimeException", "java/lang/Exception"]).filter goodWord)
def wsL_law0_r1 : List Cond := [Cond.classLink RL 9 RX1, Cond.instantiable RX1 12, Cond.initialized RX1, Cond.arrayClass .int, Cond.constant RL 76 (2147483647), Cond.methodLink RL 71 yX1_init, Cond.instanceMethod yX1_init, Cond.code yX1_init cX1_init 2 none, Cond.methodLink RX1 1 objectInit, Cond.instanceMethod objectInit, Cond.code objectInit ⟨#[0xb1]⟩ 1 none, Cond.fieldLink RX1 9 "MeteredSheets" "kinds" "[I", Cond.fieldLink RX1 13 "MeteredSheets" "ones" "[I", Cond.fieldLink RX1 16 "MeteredSheets" "others" "[I", Cond.fieldLink RX1 19 "MeteredSheets" "numbers" "[I", Cond.fieldLink RX1 22 "MeteredSheets" "values" "[I", Cond.arrayClass .boolean, Cond.fieldLink RX1 25 "MeteredSheets" "marked" "[Z", Cond.fieldLink RX1 29 "MeteredSheets" "order" "[I", Cond.classLink RX1 32 RX0, Cond.instantiable RX0 8, Cond.initialized RX0, Cond.fieldLink RX1 35 "MeteredSheets" "ledger" "LMeteredSheets$Ledger;", Cond.fieldLink RX1 39 "MeteredSheets" "changed" "[Z"]
def wsL_law0_r2 : List Cond := [Cond.fieldLink RX1 42 "MeteredSheets" "placed" "[Z", Cond.fieldLink RX1 45 "MeteredSheets" "reaching" "[Z", Cond.fieldLink RX1 48 "MeteredSheets" "fresh" "[I", Cond.instanceMethod yX0_init, Cond.code yX0_init cX0_init 2 none, Cond.methodLink RX0 3 objectInit, Cond.fieldLink RX0 9 "MeteredSheets$Ledger" "prices" "[I", Cond.fieldLink RX0 15 "MeteredSheets$Ledger" "budgets" "[I", Cond.fieldLink RX0 18 "MeteredSheets$Ledger" "earnings" "[I", Cond.fieldLink RX0 21 "MeteredSheets$Ledger" "readsOf" "[I", Cond.fieldLink RX0 24 "MeteredSheets$Ledger" "bills" "[I", Cond.fieldLink RX0 27 "MeteredSheets$Ledger" "counts" "[I", Cond.fieldLink RX0 30 "MeteredSheets$Ledger" "kept" "[I", Cond.fieldLink RX0 33 "MeteredSheets$Ledger" "keptCount" "I", Cond.methodLink RL 72 yL_cell, Cond.static yL_cell, Cond.initialized RL, Cond.code yL_cell cL_cell 2 (some .int), Cond.constant RL 7 (970441141), Cond.methodLink RL 38 yL_at, Cond.static yL_at, Cond.code yL_at cL_at 2 (some .int), Cond.methodLink RL 77 yL_give, Cond.static yL_give]
def wsL_law0_r3 : List Cond := [Cond.code yL_give cL_give 8 (some .int), Cond.constant RL 43 (2000001), Cond.constant RL 44 (1000000), Cond.methodLink RL 45 yX1_setNumber, Cond.instanceMethod yX1_setNumber, Cond.selects RX1 yX1_setNumber yX1_setNumber, Cond.code yX1_setNumber cX1_setNumber 4 (some .int), Cond.classLink RX1 63 "java/lang/IllegalArgumentException", Cond.initialized "java/lang/IllegalArgumentException", Cond.constant RX1 58 (1000000), Cond.methodLink RX1 51 yX1_isUser, Cond.static yX1_isUser, Cond.code yX1_isUser cX1_isUser 1 (some .boolean), Cond.methodLink RX1 55 yX1_isCell, Cond.static yX1_isCell, Cond.code yX1_isCell cX1_isCell 1 (some .boolean), Cond.methodLink RX1 59 yX1_isWithin, Cond.static yX1_isWithin, Cond.code yX1_isWithin cX1_isWithin 2 (some .boolean), Cond.methodLink RX1 70 yX1_giveFormula, Cond.instanceMethod yX1_giveFormula, Cond.selects RX1 yX1_giveFormula yX1_giveFormula, Cond.code yX1_giveFormula cX1_giveFormula 7 (some .int), Cond.methodLink RX1 152 yX1_putInOrder]
def wsL_law0_r4 : List Cond := [Cond.instanceMethod yX1_putInOrder, Cond.selects RX1 yX1_putInOrder yX1_putInOrder, Cond.code yX1_putInOrder cX1_putInOrder 3 none, Cond.methodLink RX1 159 yX1_lowestFreeCell, Cond.instanceMethod yX1_lowestFreeCell, Cond.selects RX1 yX1_lowestFreeCell yX1_lowestFreeCell, Cond.code yX1_lowestFreeCell cX1_lowestFreeCell 2 (some .int), Cond.methodLink RX1 163 yX1_isReady, Cond.instanceMethod yX1_isReady, Cond.selects RX1 yX1_isReady yX1_isReady, Cond.code yX1_isReady cX1_isReady 2 (some .boolean), Cond.methodLink RX1 149 yX1_isIn, Cond.static yX1_isIn, Cond.code yX1_isIn cX1_isIn 2 (some .boolean), Cond.methodLink RX1 91 yX1_forgetChanges, Cond.instanceMethod yX1_forgetChanges, Cond.selects RX1 yX1_forgetChanges yX1_forgetChanges, Cond.code yX1_forgetChanges cX1_forgetChanges 2 none, Cond.methodLink RX1 155 yX1_compute, Cond.instanceMethod yX1_compute, Cond.selects RX1 yX1_compute yX1_compute, Cond.code yX1_compute cX1_compute 6 none, Cond.methodLink RX1 166 yX1_meteredRead, Cond.static yX1_meteredRead]
def wsL_law0_r5 : List Cond := [Cond.code yX1_meteredRead cX1_meteredRead 2 (some .int), Cond.methodLink RX1 174 yX1_sheetOf, Cond.static yX1_sheetOf, Cond.code yX1_sheetOf cX1_sheetOf 1 (some .int), Cond.instanceMethod yX0_paysFor, Cond.selects RX0 yX0_paysFor yX0_paysFor, Cond.code yX0_paysFor cX0_paysFor 7 (some .boolean), Cond.methodLink RX0 41 yX0_costOf, Cond.instanceMethod yX0_costOf, Cond.selects RX0 yX0_costOf yX0_costOf, Cond.code yX0_costOf cX0_costOf 2 (some .int), Cond.methodLink RX0 44 yX0_enter, Cond.instanceMethod yX0_enter, Cond.selects RX0 yX0_enter yX0_enter, Cond.code yX0_enter cX0_enter 5 none, Cond.methodLink RX1 121 yX1_resultOf, Cond.instanceMethod yX1_resultOf, Cond.selects RX1 yX1_resultOf yX1_resultOf, Cond.code yX1_resultOf cX1_resultOf 5 (some .int), Cond.methodLink RX1 185 Lib.Math.max.name, Cond.static Lib.Math.max.name, Cond.initialized "java/lang/Math", Cond.code Lib.Math.max.name Lib.Math.max.code 2 (some .int), Cond.methodLink RX1 178 yX1_valueIn]
def wsL_law0_r6 : List Cond := [Cond.static yX1_valueIn, Cond.code yX1_valueIn cX1_valueIn 2 (some .int), Cond.methodLink RX1 182 yX1_held, Cond.static yX1_held, Cond.code yX1_held cX1_held 1 (some .int), Cond.constant RX1 190 (-1000000), Cond.methodLink RX1 191 Lib.Math.min.name, Cond.static Lib.Math.min.name, Cond.code Lib.Math.min.name Lib.Math.min.code 2 (some .int), Cond.methodLink RX1 94 yX1_goThrough, Cond.instanceMethod yX1_goThrough, Cond.selects RX1 yX1_goThrough yX1_goThrough, Cond.code yX1_goThrough cX1_goThrough 6 (some .int), Cond.methodLink RX1 145 yX1_readsOneOf, Cond.instanceMethod yX1_readsOneOf, Cond.selects RX1 yX1_readsOneOf yX1_readsOneOf, Cond.code yX1_readsOneOf cX1_readsOneOf 3 (some .boolean), Cond.methodLink RL 49 yX1_setSum, Cond.instanceMethod yX1_setSum, Cond.selects RX1 yX1_setSum yX1_setSum, Cond.code yX1_setSum cX1_setSum 6 (some .int), Cond.classLink RX1 80 "java/lang/IllegalStateException", Cond.initialized "java/lang/IllegalStateException", Cond.methodLink RX1 76 yX1_wouldReadItself]
def wsL_law0_r7 : List Cond := [Cond.instanceMethod yX1_wouldReadItself, Cond.selects RX1 yX1_wouldReadItself yX1_wouldReadItself, Cond.code yX1_wouldReadItself cX1_wouldReadItself 6 (some .boolean), Cond.methodLink RL 53 yX1_setGreater, Cond.instanceMethod yX1_setGreater, Cond.selects RX1 yX1_setGreater yX1_setGreater, Cond.code yX1_setGreater cX1_setGreater 5 (some .int), Cond.methodLink RL 57 yX1_setTimes, Cond.instanceMethod yX1_setTimes, Cond.selects RX1 yX1_setTimes yX1_setTimes, Cond.code yX1_setTimes cX1_setTimes 5 (some .int), Cond.methodLink RL 60 yL_marked, Cond.static yL_marked, Cond.code yL_marked cL_marked 3 (some .int), Cond.methodLink RL 8 yX1_isMarked, Cond.instanceMethod yX1_isMarked, Cond.selects RX1 yX1_isMarked yX1_isMarked, Cond.code yX1_isMarked cX1_isMarked 2 (some .boolean), Cond.methodLink RL 81 yX1_refresh, Cond.instanceMethod yX1_refresh, Cond.selects RX1 yX1_refresh yX1_refresh, Cond.code yX1_refresh cX1_refresh 2 (some .int), Cond.methodLink RL 84 yX1_setPrice, Cond.instanceMethod yX1_setPrice]
def wsL_law0_r8 : List Cond := [Cond.selects RX1 yX1_setPrice yX1_setPrice, Cond.code yX1_setPrice cX1_setPrice 4 (some .int), Cond.methodLink RX1 98 yX1_isSheet, Cond.static yX1_isSheet, Cond.code yX1_isSheet cX1_isSheet 1 (some .boolean), Cond.methodLink RL 14 yX1_budget, Cond.instanceMethod yX1_budget, Cond.selects RX1 yX1_budget yX1_budget, Cond.code yX1_budget cX1_budget 2 (some .int), Cond.methodLink RL 87 yX1_grant, Cond.instanceMethod yX1_grant, Cond.selects RX1 yX1_grant yX1_grant, Cond.code yX1_grant cX1_grant 3 (some .int), Cond.methodLink RL 90 yL_traced, Cond.static yL_traced, Cond.code yL_traced cL_traced 7 (some .boolean), Cond.methodLink RL 27 yX1_readings, Cond.instanceMethod yX1_readings, Cond.selects RX1 yX1_readings yX1_readings, Cond.code yX1_readings cX1_readings 1 (some .int), Cond.methodLink RL 31 yX1_reading, Cond.instanceMethod yX1_reading, Cond.selects RX1 yX1_reading yX1_reading, Cond.code yX1_reading cX1_reading 2 (some .int)]
def wsL_law0_r9 : List Cond := [Cond.classLink RX1 129 "java/lang/IndexOutOfBoundsException", Cond.initialized "java/lang/IndexOutOfBoundsException", Cond.methodLink RL 34 yX1_timesRead, Cond.instanceMethod yX1_timesRead, Cond.selects RX1 yX1_timesRead yX1_timesRead, Cond.code yX1_timesRead cX1_timesRead 3 (some .int), Cond.methodLink RL 94 yL_accounts, Cond.static yL_accounts, Cond.code yL_accounts cL_accounts 7 (some .boolean), Cond.methodLink RL 18 yX1_earned, Cond.instanceMethod yX1_earned, Cond.selects RX1 yX1_earned yX1_earned, Cond.code yX1_earned cX1_earned 2 (some .int), Cond.methodLink RL 21 yX1_readOf, Cond.instanceMethod yX1_readOf, Cond.selects RX1 yX1_readOf yX1_readOf, Cond.code yX1_readOf cX1_readOf 2 (some .int), Cond.methodLink RL 24 yX1_caused, Cond.instanceMethod yX1_caused, Cond.selects RX1 yX1_caused yX1_caused, Cond.code yX1_caused cX1_caused 2 (some .int), Cond.methodLink RL 98 yL_right, Cond.static yL_right, Cond.code yL_right cL_right 2 (some .boolean)]
def wsL_law0_r10 : List Cond := [Cond.constant RL 70 (-1000000), Cond.methodLink RL 64 yX1_value, Cond.instanceMethod yX1_value, Cond.selects RX1 yX1_value yX1_value, Cond.code yX1_value cX1_value 2 (some .int), Cond.methodLink RL 67 yX1_valueAnew, Cond.instanceMethod yX1_valueAnew, Cond.selects RX1 yX1_valueAnew yX1_valueAnew, Cond.code yX1_valueAnew cX1_valueAnew 4 (some .int)]
def wsL_law0 : List Cond := (wsL_law0_r1 ++ (wsL_law0_r2 ++ (wsL_law0_r3 ++ (wsL_law0_r4 ++ (wsL_law0_r5 ++ (wsL_law0_r6 ++ (wsL_law0_r7 ++ (wsL_law0_r8 ++ (wsL_law0_r9 ++ wsL_law0_r10))))))))) ++ wsX10 ++ wsX00 ++ ([] : List Cond)
def wsL_law : List Cond := wsL_law0 ++ (vx_atS RX1 67 "java/lang/IllegalArgumentException" ["java/lang/RuntimeException", "java/lang/Exception"]).filter goodWord ++ (vx_atS RX1 84 "java/lang/IllegalStateException" ["java/lang/RuntimeException", "java/lang/Exception"]).filter goodWord ++ (vx_atS RX1 133 "java/lang/IndexOutOfBoundsException" ["java/lang/RuntimeException", "java/lang/Exception"]).filter goodWord
set_option maxRecDepth 20000 in
theorem wsL_law0_r1_in : ∀ w ∈ wsL_law0_r1, w ∈ lw_tbl := fun w h => (goodIn_p wsL_law0_r1 [28, 31] (by decide +kernel) (by decide +kernel) w h).1
set_option maxRecDepth 20000 in
theorem wsL_law0_r2_in : ∀ w ∈ wsL_law0_r2, w ∈ lw_tbl := fun w h => (goodIn_p wsL_law0_r2 [36, 265, 269] (by decide +kernel) (by decide +kernel) w h).1
set_option maxRecDepth 20000 in
theorem wsL_law0_r3_in : ∀ w ∈ wsL_law0_r3, w ∈ lw_tbl := fun w h => (goodIn_p wsL_law0_r3 [327, 333, 116, 195, 336, 341] (by decide +kernel) (by decide +kernel) w h).1
set_option maxRecDepth 20000 in
theorem wsL_law0_r4_in : ∀ w ∈ wsL_law0_r4, w ∈ lw_tbl := fun w h => (goodIn_p wsL_law0_r4 [345, 349, 353, 202, 188, 206] (by decide +kernel) (by decide +kernel) w h).1
set_option maxRecDepth 20000 in
theorem wsL_law0_r5_in : ∀ w ∈ wsL_law0_r5, w ∈ lw_tbl := fun w h => (goodIn_p wsL_law0_r5 [209, 212, 216, 221, 226, 230, 244] (by decide +kernel) (by decide +kernel) w h).1
set_option maxRecDepth 20000 in
theorem wsL_law0_r6_in : ∀ w ∈ wsL_law0_r6, w ∈ lw_tbl := fun w h => (goodIn_p wsL_law0_r6 [233, 236, 241, 192, 199, 357] (by decide +kernel) (by decide +kernel) w h).1
set_option maxRecDepth 20000 in
theorem wsL_law0_r7_in : ∀ w ∈ wsL_law0_r7, w ∈ lw_tbl := fun w h => (goodIn_p wsL_law0_r7 [362, 382, 387, 272, 276, 113] (by decide +kernel) (by decide +kernel) w h).1
set_option maxRecDepth 20000 in
theorem wsL_law0_r8_in : ∀ w ∈ wsL_law0_r8, w ∈ lw_tbl := fun w h => (goodIn_p wsL_law0_r8 [248, 251, 261, 256, 299, 296, 303] (by decide +kernel) (by decide +kernel) w h).1
set_option maxRecDepth 20000 in
theorem wsL_law0_r9_in : ∀ w ∈ wsL_law0_r9, w ∈ lw_tbl := fun w h => (goodIn_p wsL_law0_r9 [323, 280, 284, 288, 292, 391] (by decide +kernel) (by decide +kernel) w h).1
set_option maxRecDepth 20000 in
theorem wsL_law0_r10_in : ∀ w ∈ wsL_law0_r10, w ∈ lw_tbl := fun w h => (goodIn_p wsL_law0_r10 [395, 399] (by decide +kernel) (by decide +kernel) w h).1
set_option maxRecDepth 20000 in
theorem wsX10_in0 : ∀ w ∈ wsX10, w ∈ lw_tbl := by decide +kernel
set_option maxRecDepth 20000 in
theorem wsX00_in0 : ∀ w ∈ wsX00, w ∈ lw_tbl := by decide +kernel
theorem wsL_law_in0 : ∀ w ∈ wsL_law0, w ∈ lw_tbl := fun w h => (List.mem_append.mp h).elim (fun h => (List.mem_append.mp h).elim (fun h => (List.mem_append.mp h).elim (fun h => (List.mem_append.mp h).elim (fun h => wsL_law0_r1_in w h) (fun h => (List.mem_append.mp h).elim (fun h => wsL_law0_r2_in w h) (fun h => (List.mem_append.mp h).elim (fun h => wsL_law0_r3_in w h) (fun h => (List.mem_append.mp h).elim (fun h => wsL_law0_r4_in w h) (fun h => (List.mem_append.mp h).elim (fun h => wsL_law0_r5_in w h) (fun h => (List.mem_append.mp h).elim (fun h => wsL_law0_r6_in w h) (fun h => (List.mem_append.mp h).elim (fun h => wsL_law0_r7_in w h) (fun h => (List.mem_append.mp h).elim (fun h => wsL_law0_r8_in w h) (fun h => (List.mem_append.mp h).elim (fun h => wsL_law0_r9_in w h) (fun h => wsL_law0_r10_in w h)))))))))) (fun h => wsX10_in0 w h)) (fun h => wsX00_in0 w h)) (fun h => nomatch h)
theorem wsL_law_x0 : ∀ w ∈ (vx_atS RX1 67 "java/lang/IllegalArgumentException" ["java/lang/RuntimeException", "java/lang/Exception"]).filter goodWord, w ∈ lw_tbl := by decide +kernel
theorem wsL_law_x1 : ∀ w ∈ (vx_atS RX1 84 "java/lang/IllegalStateException" ["java/lang/RuntimeException", "java/lang/Exception"]).filter goodWord, w ∈ lw_tbl := by decide +kernel
theorem wsL_law_x2 : ∀ w ∈ (vx_atS RX1 133 "java/lang/IndexOutOfBoundsException" ["java/lang/RuntimeException", "java/lang/Exception"]).filter goodWord, w ∈ lw_tbl := by decide +kernel
theorem wsL_law_in : ∀ w ∈ wsL_law, w ∈ lw_tbl := fun w h => (List.mem_append.mp h).elim (fun h => (List.mem_append.mp h).elim (fun h => (List.mem_append.mp h).elim (fun h => wsL_law_in0 w h) (fun h => wsL_law_x0 w h)) (fun h => wsL_law_x1 w h)) (fun h => wsL_law_x2 w h)
theorem inlX0 : ∀ w ∈ wsX00, w ∈ wsL_law := fun _ h => List.mem_append_left _ (List.mem_append_left _ (List.mem_append_left _ (List.mem_append_left _ (List.mem_append_right _ h))))
theorem inX0 : ∀ w ∈ wsX00, w ∈ lw_tbl := fun w h => wsL_law_in w (inlX0 w h)
theorem inlX1 : ∀ w ∈ wsX10, w ∈ wsL_law := fun _ h => List.mem_append_left _ (List.mem_append_left _ (List.mem_append_left _ (List.mem_append_left _ (List.mem_append_left _ (List.mem_append_right _ h)))))
theorem inX1 : ∀ w ∈ wsX10, w ∈ lw_tbl := fun w h => wsL_law_in w (inlX1 w h)
theorem inX2 : ∀ w ∈ wsX20, w ∈ lw_tbl := by decide +kernel
theorem inJ9 : ∀ w ∈ wsJ90, w ∈ lw_tbl := by decide +kernel
theorem inJ0 : ∀ w ∈ wsJ00, w ∈ lw_tbl := by decide +kernel
theorem dX0_init_0 : decode cX0_init 0 = .ok (.aload_n 0, 1) := by decide +kernel
theorem dX0_init_1 : decode cX0_init 1 = .ok (.invokespecial 3, 3) := by decide +kernel
theorem dX0_init_4 : decode cX0_init 4 = .ok (.aload_n 0, 1) := by decide +kernel
theorem dX0_init_5 : decode cX0_init 5 = .ok (.iconst 4, 1) := by decide +kernel
theorem dX0_init_6 : decode cX0_init 6 = .ok (.newarray .int, 2) := by decide +kernel
theorem dX0_init_8 : decode cX0_init 8 = .ok (.putfield 9, 3) := by decide +kernel
theorem dX0_init_11 : decode cX0_init 11 = .ok (.aload_n 0, 1) := by decide +kernel
theorem dX0_init_12 : decode cX0_init 12 = .ok (.iconst 4, 1) := by decide +kernel
theorem dX0_init_13 : decode cX0_init 13 = .ok (.newarray .int, 2) := by decide +kernel
theorem dX0_init_15 : decode cX0_init 15 = .ok (.putfield 15, 3) := by decide +kernel
theorem dX0_init_18 : decode cX0_init 18 = .ok (.aload_n 0, 1) := by decide +kernel
theorem dX0_init_19 : decode cX0_init 19 = .ok (.iconst 4, 1) := by decide +kernel
theorem dX0_init_20 : decode cX0_init 20 = .ok (.newarray .int, 2) := by decide +kernel
theorem dX0_init_22 : decode cX0_init 22 = .ok (.putfield 18, 3) := by decide +kernel
theorem dX0_init_25 : decode cX0_init 25 = .ok (.aload_n 0, 1) := by decide +kernel
theorem dX0_init_26 : decode cX0_init 26 = .ok (.iconst 4, 1) := by decide +kernel
theorem dX0_init_27 : decode cX0_init 27 = .ok (.newarray .int, 2) := by decide +kernel
theorem dX0_init_29 : decode cX0_init 29 = .ok (.putfield 21, 3) := by decide +kernel
theorem dX0_init_32 : decode cX0_init 32 = .ok (.aload_n 0, 1) := by decide +kernel
theorem dX0_init_33 : decode cX0_init 33 = .ok (.iconst 5, 1) := by decide +kernel
theorem dX0_init_34 : decode cX0_init 34 = .ok (.newarray .int, 2) := by decide +kernel
theorem dX0_init_36 : decode cX0_init 36 = .ok (.putfield 24, 3) := by decide +kernel
theorem dX0_init_39 : decode cX0_init 39 = .ok (.aload_n 0, 1) := by decide +kernel
theorem dX0_init_40 : decode cX0_init 40 = .ok (.sipush 576, 3) := by decide +kernel
theorem dX0_init_43 : decode cX0_init 43 = .ok (.newarray .int, 2) := by decide +kernel
theorem dX0_init_45 : decode cX0_init 45 = .ok (.putfield 27, 3) := by decide +kernel
theorem dX0_init_48 : decode cX0_init 48 = .ok (.aload_n 0, 1) := by decide +kernel
theorem dX0_init_49 : decode cX0_init 49 = .ok (.sipush 500, 3) := by decide +kernel
theorem dX0_init_52 : decode cX0_init 52 = .ok (.newarray .int, 2) := by decide +kernel
theorem dX0_init_54 : decode cX0_init 54 = .ok (.putfield 30, 3) := by decide +kernel
theorem dX0_init_57 : decode cX0_init 57 = .ok (.aload_n 0, 1) := by decide +kernel
theorem dX0_init_58 : decode cX0_init 58 = .ok (.iconst 0, 1) := by decide +kernel
theorem dX0_init_59 : decode cX0_init 59 = .ok (.putfield 33, 3) := by decide +kernel
theorem dX0_init_62 : decode cX0_init 62 = .ok (.iconst 0, 1) := by decide +kernel
theorem dX0_init_63 : decode cX0_init 63 = .ok (.istore_n 1, 1) := by decide +kernel
theorem dX0_init_64 : decode cX0_init 64 = .ok (.iload_n 1, 1) := by decide +kernel
theorem dX0_init_65 : decode cX0_init 65 = .ok (.iconst 4, 1) := by decide +kernel
theorem dX0_init_66 : decode cX0_init 66 = .ok (.if_icmp .ge 24, 3) := by decide +kernel
theorem dX0_init_69 : decode cX0_init 69 = .ok (.aload_n 0, 1) := by decide +kernel
theorem dX0_init_70 : decode cX0_init 70 = .ok (.getfield 9, 3) := by decide +kernel
theorem dX0_init_73 : decode cX0_init 73 = .ok (.iload_n 1, 1) := by decide +kernel
theorem dX0_init_74 : decode cX0_init 74 = .ok (.iconst 1, 1) := by decide +kernel
theorem dX0_init_75 : decode cX0_init 75 = .ok (.iastore, 1) := by decide +kernel
theorem dX0_init_76 : decode cX0_init 76 = .ok (.aload_n 0, 1) := by decide +kernel
theorem dX0_init_77 : decode cX0_init 77 = .ok (.getfield 15, 3) := by decide +kernel
theorem dX0_init_80 : decode cX0_init 80 = .ok (.iload_n 1, 1) := by decide +kernel
theorem dX0_init_81 : decode cX0_init 81 = .ok (.bipush 100, 2) := by decide +kernel
theorem dX0_init_83 : decode cX0_init 83 = .ok (.iastore, 1) := by decide +kernel
theorem dX0_init_84 : decode cX0_init 84 = .ok (.iinc 1 1, 3) := by decide +kernel
theorem dX0_init_87 : decode cX0_init 87 = .ok (.goto (-23), 3) := by decide +kernel
theorem dX0_init_90 : decode cX0_init 90 = .ok (.return_, 1) := by decide +kernel
set_option maxRecDepth 20000 in
theorem ggX0_paysFor_X1_sheetOf : GoodIn wsX0_paysFor wsX1_sheetOf := goodIn_r _ [4] (by decide +kernel) (by decide +kernel)
set_option maxRecDepth 20000 in
theorem gX0_paysFor_X1_sheetOf_n37 : GoodIn wsX0_paysFor (wsX1_sheetOf) := ggX0_paysFor_X1_sheetOf
set_option maxRecDepth 20000 in
theorem ggX0_paysFor_X0_costOf : GoodIn wsX0_paysFor wsX0_costOf := goodIn_r _ [9, 10, 11, 3, 12, 2, 4, 23, 24, 25, 26, 27, 28, 29, 30] (by decide +kernel) (by decide +kernel)
set_option maxRecDepth 20000 in
theorem gX0_paysFor_X0_costOf : GoodIn wsX0_paysFor (wsV RX0 41 RX0 yX0_costOf wsX0_costOf) := goodIn_app (goodIn_of _ (by decide +kernel)) ggX0_paysFor_X0_costOf
set_option maxRecDepth 20000 in
theorem ggX0_paysFor_X0_enter : GoodIn wsX0_paysFor wsX0_enter := goodIn_r _ [16, 17, 10, 18, 19, 20, 21, 22, 11, 3, 12, 2, 4, 23, 24, 25, 26, 27, 28, 29, 30] (by decide +kernel) (by decide +kernel)
set_option maxRecDepth 20000 in
theorem gX0_paysFor_X0_enter : GoodIn wsX0_paysFor (wsV RX0 44 RX0 yX0_enter wsX0_enter) := goodIn_app (goodIn_of _ (by decide +kernel)) ggX0_paysFor_X0_enter
theorem dX0_paysFor_0 : decode cX0_paysFor 0 = .ok (.iload_n 2, 1) := by decide +kernel
theorem dX0_paysFor_1 : decode cX0_paysFor 1 = .ok (.invokestatic 37, 3) := by decide +kernel
theorem dX0_paysFor_4 : decode cX0_paysFor 4 = .ok (.istore 5, 2) := by decide +kernel
theorem dX0_paysFor_6 : decode cX0_paysFor 6 = .ok (.aload_n 0, 1) := by decide +kernel
theorem dX0_paysFor_7 : decode cX0_paysFor 7 = .ok (.iload_n 3, 1) := by decide +kernel
theorem dX0_paysFor_8 : decode cX0_paysFor 8 = .ok (.invokevirtual 41, 3) := by decide +kernel
theorem dX0_paysFor_11 : decode cX0_paysFor 11 = .ok (.aload_n 0, 1) := by decide +kernel
theorem dX0_paysFor_12 : decode cX0_paysFor 12 = .ok (.iload 4, 2) := by decide +kernel
theorem dX0_paysFor_14 : decode cX0_paysFor 14 = .ok (.invokevirtual 41, 3) := by decide +kernel
theorem dX0_paysFor_17 : decode cX0_paysFor 17 = .ok (.iadd, 1) := by decide +kernel
theorem dX0_paysFor_18 : decode cX0_paysFor 18 = .ok (.istore 6, 2) := by decide +kernel
theorem dX0_paysFor_20 : decode cX0_paysFor 20 = .ok (.aload_n 0, 1) := by decide +kernel
theorem dX0_paysFor_21 : decode cX0_paysFor 21 = .ok (.getfield 15, 3) := by decide +kernel
theorem dX0_paysFor_24 : decode cX0_paysFor 24 = .ok (.iload 5, 2) := by decide +kernel
theorem dX0_paysFor_26 : decode cX0_paysFor 26 = .ok (.iaload, 1) := by decide +kernel
theorem dX0_paysFor_27 : decode cX0_paysFor 27 = .ok (.iload 6, 2) := by decide +kernel
theorem dX0_paysFor_29 : decode cX0_paysFor 29 = .ok (.if_icmp .ge 5, 3) := by decide +kernel
theorem dX0_paysFor_32 : decode cX0_paysFor 32 = .ok (.iconst 0, 1) := by decide +kernel
theorem dX0_paysFor_33 : decode cX0_paysFor 33 = .ok (.ireturn, 1) := by decide +kernel
theorem dX0_paysFor_34 : decode cX0_paysFor 34 = .ok (.aload_n 0, 1) := by decide +kernel
theorem dX0_paysFor_35 : decode cX0_paysFor 35 = .ok (.getfield 15, 3) := by decide +kernel
theorem dX0_paysFor_38 : decode cX0_paysFor 38 = .ok (.iload 5, 2) := by decide +kernel
theorem dX0_paysFor_40 : decode cX0_paysFor 40 = .ok (.dup2, 1) := by decide +kernel
theorem dX0_paysFor_41 : decode cX0_paysFor 41 = .ok (.iaload, 1) := by decide +kernel
theorem dX0_paysFor_42 : decode cX0_paysFor 42 = .ok (.iload 6, 2) := by decide +kernel
theorem dX0_paysFor_44 : decode cX0_paysFor 44 = .ok (.isub, 1) := by decide +kernel
theorem dX0_paysFor_45 : decode cX0_paysFor 45 = .ok (.iastore, 1) := by decide +kernel
theorem dX0_paysFor_46 : decode cX0_paysFor 46 = .ok (.aload_n 0, 1) := by decide +kernel
theorem dX0_paysFor_47 : decode cX0_paysFor 47 = .ok (.iload_n 1, 1) := by decide +kernel
theorem dX0_paysFor_48 : decode cX0_paysFor 48 = .ok (.iload_n 2, 1) := by decide +kernel
theorem dX0_paysFor_49 : decode cX0_paysFor 49 = .ok (.iload_n 3, 1) := by decide +kernel
theorem dX0_paysFor_50 : decode cX0_paysFor 50 = .ok (.invokevirtual 44, 3) := by decide +kernel
theorem dX0_paysFor_53 : decode cX0_paysFor 53 = .ok (.aload_n 0, 1) := by decide +kernel
theorem dX0_paysFor_54 : decode cX0_paysFor 54 = .ok (.iload_n 1, 1) := by decide +kernel
theorem dX0_paysFor_55 : decode cX0_paysFor 55 = .ok (.iload_n 2, 1) := by decide +kernel
theorem dX0_paysFor_56 : decode cX0_paysFor 56 = .ok (.iload 4, 2) := by decide +kernel
theorem dX0_paysFor_58 : decode cX0_paysFor 58 = .ok (.invokevirtual 44, 3) := by decide +kernel
theorem dX0_paysFor_61 : decode cX0_paysFor 61 = .ok (.iconst 1, 1) := by decide +kernel
theorem dX0_paysFor_62 : decode cX0_paysFor 62 = .ok (.ireturn, 1) := by decide +kernel
set_option maxRecDepth 20000 in
theorem ggX0_costOf_X1_isCell : GoodIn wsX0_costOf wsX1_isCell := goodIn_r _ [4] (by decide +kernel) (by decide +kernel)
set_option maxRecDepth 20000 in
theorem gX0_costOf_X1_isCell_n48 : GoodIn wsX0_costOf (wsX1_isCell) := ggX0_costOf_X1_isCell
set_option maxRecDepth 20000 in
theorem ggX0_costOf_X1_sheetOf : GoodIn wsX0_costOf wsX1_sheetOf := goodIn_r _ [6] (by decide +kernel) (by decide +kernel)
set_option maxRecDepth 20000 in
theorem gX0_costOf_X1_sheetOf_n37 : GoodIn wsX0_costOf (wsX1_sheetOf) := ggX0_costOf_X1_sheetOf
theorem dX0_costOf_0 : decode cX0_costOf 0 = .ok (.iload_n 1, 1) := by decide +kernel
theorem dX0_costOf_1 : decode cX0_costOf 1 = .ok (.invokestatic 48, 3) := by decide +kernel
theorem dX0_costOf_4 : decode cX0_costOf 4 = .ok (.ifCond .eq 15, 3) := by decide +kernel
theorem dX0_costOf_7 : decode cX0_costOf 7 = .ok (.aload_n 0, 1) := by decide +kernel
theorem dX0_costOf_8 : decode cX0_costOf 8 = .ok (.getfield 9, 3) := by decide +kernel
theorem dX0_costOf_11 : decode cX0_costOf 11 = .ok (.iload_n 1, 1) := by decide +kernel
theorem dX0_costOf_12 : decode cX0_costOf 12 = .ok (.invokestatic 37, 3) := by decide +kernel
theorem dX0_costOf_15 : decode cX0_costOf 15 = .ok (.iaload, 1) := by decide +kernel
theorem dX0_costOf_16 : decode cX0_costOf 16 = .ok (.goto 4, 3) := by decide +kernel
theorem dX0_costOf_19 : decode cX0_costOf 19 = .ok (.iconst 0, 1) := by decide +kernel
theorem dX0_costOf_20 : decode cX0_costOf 20 = .ok (.ireturn, 1) := by decide +kernel
set_option maxRecDepth 20000 in
theorem ggX0_enter_X1_isCell : GoodIn wsX0_enter wsX1_isCell := goodIn_r _ [10] (by decide +kernel) (by decide +kernel)
set_option maxRecDepth 20000 in
theorem gX0_enter_X1_isCell_n48 : GoodIn wsX0_enter (wsX1_isCell) := ggX0_enter_X1_isCell
set_option maxRecDepth 20000 in
theorem ggX0_enter_X1_sheetOf : GoodIn wsX0_enter wsX1_sheetOf := goodIn_r _ [12] (by decide +kernel) (by decide +kernel)
set_option maxRecDepth 20000 in
theorem gX0_enter_X1_sheetOf_n37 : GoodIn wsX0_enter (wsX1_sheetOf) := ggX0_enter_X1_sheetOf
theorem dX0_enter_0 : decode cX0_enter 0 = .ok (.iload_n 3, 1) := by decide +kernel
theorem dX0_enter_1 : decode cX0_enter 1 = .ok (.invokestatic 48, 3) := by decide +kernel
theorem dX0_enter_4 : decode cX0_enter 4 = .ok (.ifCond .ne 4, 3) := by decide +kernel
theorem dX0_enter_7 : decode cX0_enter 7 = .ok (.return_, 1) := by decide +kernel
theorem dX0_enter_8 : decode cX0_enter 8 = .ok (.iload_n 3, 1) := by decide +kernel
theorem dX0_enter_9 : decode cX0_enter 9 = .ok (.invokestatic 37, 3) := by decide +kernel
theorem dX0_enter_12 : decode cX0_enter 12 = .ok (.istore 4, 2) := by decide +kernel
theorem dX0_enter_14 : decode cX0_enter 14 = .ok (.aload_n 0, 1) := by decide +kernel
theorem dX0_enter_15 : decode cX0_enter 15 = .ok (.getfield 18, 3) := by decide +kernel
theorem dX0_enter_18 : decode cX0_enter 18 = .ok (.iload 4, 2) := by decide +kernel
theorem dX0_enter_20 : decode cX0_enter 20 = .ok (.dup2, 1) := by decide +kernel
theorem dX0_enter_21 : decode cX0_enter 21 = .ok (.iaload, 1) := by decide +kernel
theorem dX0_enter_22 : decode cX0_enter 22 = .ok (.aload_n 0, 1) := by decide +kernel
theorem dX0_enter_23 : decode cX0_enter 23 = .ok (.getfield 9, 3) := by decide +kernel
theorem dX0_enter_26 : decode cX0_enter 26 = .ok (.iload 4, 2) := by decide +kernel
theorem dX0_enter_28 : decode cX0_enter 28 = .ok (.iaload, 1) := by decide +kernel
theorem dX0_enter_29 : decode cX0_enter 29 = .ok (.iadd, 1) := by decide +kernel
theorem dX0_enter_30 : decode cX0_enter 30 = .ok (.iastore, 1) := by decide +kernel
theorem dX0_enter_31 : decode cX0_enter 31 = .ok (.aload_n 0, 1) := by decide +kernel
theorem dX0_enter_32 : decode cX0_enter 32 = .ok (.getfield 24, 3) := by decide +kernel
theorem dX0_enter_35 : decode cX0_enter 35 = .ok (.iload_n 1, 1) := by decide +kernel
theorem dX0_enter_36 : decode cX0_enter 36 = .ok (.dup2, 1) := by decide +kernel
theorem dX0_enter_37 : decode cX0_enter 37 = .ok (.iaload, 1) := by decide +kernel
theorem dX0_enter_38 : decode cX0_enter 38 = .ok (.aload_n 0, 1) := by decide +kernel
theorem dX0_enter_39 : decode cX0_enter 39 = .ok (.getfield 9, 3) := by decide +kernel
theorem dX0_enter_42 : decode cX0_enter 42 = .ok (.iload 4, 2) := by decide +kernel
theorem dX0_enter_44 : decode cX0_enter 44 = .ok (.iaload, 1) := by decide +kernel
theorem dX0_enter_45 : decode cX0_enter 45 = .ok (.iadd, 1) := by decide +kernel
theorem dX0_enter_46 : decode cX0_enter 46 = .ok (.iastore, 1) := by decide +kernel
theorem dX0_enter_47 : decode cX0_enter 47 = .ok (.aload_n 0, 1) := by decide +kernel
theorem dX0_enter_48 : decode cX0_enter 48 = .ok (.getfield 21, 3) := by decide +kernel
theorem dX0_enter_51 : decode cX0_enter 51 = .ok (.iload 4, 2) := by decide +kernel
theorem dX0_enter_53 : decode cX0_enter 53 = .ok (.dup2, 1) := by decide +kernel
theorem dX0_enter_54 : decode cX0_enter 54 = .ok (.iaload, 1) := by decide +kernel
theorem dX0_enter_55 : decode cX0_enter 55 = .ok (.iconst 1, 1) := by decide +kernel
theorem dX0_enter_56 : decode cX0_enter 56 = .ok (.iadd, 1) := by decide +kernel
theorem dX0_enter_57 : decode cX0_enter 57 = .ok (.iastore, 1) := by decide +kernel
theorem dX0_enter_58 : decode cX0_enter 58 = .ok (.aload_n 0, 1) := by decide +kernel
theorem dX0_enter_59 : decode cX0_enter 59 = .ok (.getfield 27, 3) := by decide +kernel
theorem dX0_enter_62 : decode cX0_enter 62 = .ok (.iload_n 2, 1) := by decide +kernel
theorem dX0_enter_63 : decode cX0_enter 63 = .ok (.bipush 24, 2) := by decide +kernel
theorem dX0_enter_65 : decode cX0_enter 65 = .ok (.imul, 1) := by decide +kernel
theorem dX0_enter_66 : decode cX0_enter 66 = .ok (.iload_n 3, 1) := by decide +kernel
theorem dX0_enter_67 : decode cX0_enter 67 = .ok (.iadd, 1) := by decide +kernel
theorem dX0_enter_68 : decode cX0_enter 68 = .ok (.dup2, 1) := by decide +kernel
theorem dX0_enter_69 : decode cX0_enter 69 = .ok (.iaload, 1) := by decide +kernel
theorem dX0_enter_70 : decode cX0_enter 70 = .ok (.iconst 1, 1) := by decide +kernel
theorem dX0_enter_71 : decode cX0_enter 71 = .ok (.iadd, 1) := by decide +kernel
theorem dX0_enter_72 : decode cX0_enter 72 = .ok (.iastore, 1) := by decide +kernel
theorem dX0_enter_73 : decode cX0_enter 73 = .ok (.aload_n 0, 1) := by decide +kernel
theorem dX0_enter_74 : decode cX0_enter 74 = .ok (.getfield 33, 3) := by decide +kernel
theorem dX0_enter_77 : decode cX0_enter 77 = .ok (.sipush 500, 3) := by decide +kernel
theorem dX0_enter_80 : decode cX0_enter 80 = .ok (.if_icmp .ge 34, 3) := by decide +kernel
theorem dX0_enter_83 : decode cX0_enter 83 = .ok (.aload_n 0, 1) := by decide +kernel
theorem dX0_enter_84 : decode cX0_enter 84 = .ok (.getfield 30, 3) := by decide +kernel
theorem dX0_enter_87 : decode cX0_enter 87 = .ok (.aload_n 0, 1) := by decide +kernel
theorem dX0_enter_88 : decode cX0_enter 88 = .ok (.getfield 33, 3) := by decide +kernel
theorem dX0_enter_91 : decode cX0_enter 91 = .ok (.sipush 10000, 3) := by decide +kernel
theorem dX0_enter_94 : decode cX0_enter 94 = .ok (.iload_n 1, 1) := by decide +kernel
theorem dX0_enter_95 : decode cX0_enter 95 = .ok (.imul, 1) := by decide +kernel
theorem dX0_enter_96 : decode cX0_enter 96 = .ok (.bipush 100, 2) := by decide +kernel
theorem dX0_enter_98 : decode cX0_enter 98 = .ok (.iload_n 2, 1) := by decide +kernel
theorem dX0_enter_99 : decode cX0_enter 99 = .ok (.imul, 1) := by decide +kernel
theorem dX0_enter_100 : decode cX0_enter 100 = .ok (.iadd, 1) := by decide +kernel
theorem dX0_enter_101 : decode cX0_enter 101 = .ok (.iload_n 3, 1) := by decide +kernel
theorem dX0_enter_102 : decode cX0_enter 102 = .ok (.iadd, 1) := by decide +kernel
theorem dX0_enter_103 : decode cX0_enter 103 = .ok (.iastore, 1) := by decide +kernel
theorem dX0_enter_104 : decode cX0_enter 104 = .ok (.aload_n 0, 1) := by decide +kernel
theorem dX0_enter_105 : decode cX0_enter 105 = .ok (.dup, 1) := by decide +kernel
theorem dX0_enter_106 : decode cX0_enter 106 = .ok (.getfield 33, 3) := by decide +kernel
theorem dX0_enter_109 : decode cX0_enter 109 = .ok (.iconst 1, 1) := by decide +kernel
theorem dX0_enter_110 : decode cX0_enter 110 = .ok (.iadd, 1) := by decide +kernel
theorem dX0_enter_111 : decode cX0_enter 111 = .ok (.putfield 33, 3) := by decide +kernel
theorem dX0_enter_114 : decode cX0_enter 114 = .ok (.return_, 1) := by decide +kernel
set_option maxRecDepth 20000 in
theorem ggX1_init_X0_init : GoodIn wsX1_init wsX0_init := goodIn_r _ [22, 23, 2, 3, 4, 24, 25, 26, 27, 28, 29, 30, 31, 44, 45, 46, 47, 48, 49, 50, 51] (by decide +kernel) (by decide +kernel)
set_option maxRecDepth 20000 in
theorem gX1_init_X0_init_n34 : GoodIn wsX1_init (wsX0_init) := ggX1_init_X0_init
theorem dX1_init_0 : decode cX1_init 0 = .ok (.aload_n 0, 1) := by decide +kernel
theorem dX1_init_1 : decode cX1_init 1 = .ok (.invokespecial 1, 3) := by decide +kernel
theorem dX1_init_4 : decode cX1_init 4 = .ok (.aload_n 0, 1) := by decide +kernel
theorem dX1_init_5 : decode cX1_init 5 = .ok (.bipush 24, 2) := by decide +kernel
theorem dX1_init_7 : decode cX1_init 7 = .ok (.newarray .int, 2) := by decide +kernel
theorem dX1_init_9 : decode cX1_init 9 = .ok (.putfield 9, 3) := by decide +kernel
theorem dX1_init_12 : decode cX1_init 12 = .ok (.aload_n 0, 1) := by decide +kernel
theorem dX1_init_13 : decode cX1_init 13 = .ok (.bipush 24, 2) := by decide +kernel
theorem dX1_init_15 : decode cX1_init 15 = .ok (.newarray .int, 2) := by decide +kernel
theorem dX1_init_17 : decode cX1_init 17 = .ok (.putfield 13, 3) := by decide +kernel
theorem dX1_init_20 : decode cX1_init 20 = .ok (.aload_n 0, 1) := by decide +kernel
theorem dX1_init_21 : decode cX1_init 21 = .ok (.bipush 24, 2) := by decide +kernel
theorem dX1_init_23 : decode cX1_init 23 = .ok (.newarray .int, 2) := by decide +kernel
theorem dX1_init_25 : decode cX1_init 25 = .ok (.putfield 16, 3) := by decide +kernel
theorem dX1_init_28 : decode cX1_init 28 = .ok (.aload_n 0, 1) := by decide +kernel
theorem dX1_init_29 : decode cX1_init 29 = .ok (.bipush 24, 2) := by decide +kernel
theorem dX1_init_31 : decode cX1_init 31 = .ok (.newarray .int, 2) := by decide +kernel
theorem dX1_init_33 : decode cX1_init 33 = .ok (.putfield 19, 3) := by decide +kernel
theorem dX1_init_36 : decode cX1_init 36 = .ok (.aload_n 0, 1) := by decide +kernel
theorem dX1_init_37 : decode cX1_init 37 = .ok (.bipush 24, 2) := by decide +kernel
theorem dX1_init_39 : decode cX1_init 39 = .ok (.newarray .int, 2) := by decide +kernel
theorem dX1_init_41 : decode cX1_init 41 = .ok (.putfield 22, 3) := by decide +kernel
theorem dX1_init_44 : decode cX1_init 44 = .ok (.aload_n 0, 1) := by decide +kernel
theorem dX1_init_45 : decode cX1_init 45 = .ok (.bipush 24, 2) := by decide +kernel
theorem dX1_init_47 : decode cX1_init 47 = .ok (.newarray .boolean, 2) := by decide +kernel
theorem dX1_init_49 : decode cX1_init 49 = .ok (.putfield 25, 3) := by decide +kernel
theorem dX1_init_52 : decode cX1_init 52 = .ok (.aload_n 0, 1) := by decide +kernel
theorem dX1_init_53 : decode cX1_init 53 = .ok (.bipush 24, 2) := by decide +kernel
theorem dX1_init_55 : decode cX1_init 55 = .ok (.newarray .int, 2) := by decide +kernel
theorem dX1_init_57 : decode cX1_init 57 = .ok (.putfield 29, 3) := by decide +kernel
theorem dX1_init_60 : decode cX1_init 60 = .ok (.aload_n 0, 1) := by decide +kernel
theorem dX1_init_61 : decode cX1_init 61 = .ok (.new 32, 3) := by decide +kernel
theorem dX1_init_64 : decode cX1_init 64 = .ok (.dup, 1) := by decide +kernel
theorem dX1_init_65 : decode cX1_init 65 = .ok (.invokespecial 34, 3) := by decide +kernel
theorem dX1_init_68 : decode cX1_init 68 = .ok (.putfield 35, 3) := by decide +kernel
theorem dX1_init_71 : decode cX1_init 71 = .ok (.aload_n 0, 1) := by decide +kernel
theorem dX1_init_72 : decode cX1_init 72 = .ok (.bipush 24, 2) := by decide +kernel
theorem dX1_init_74 : decode cX1_init 74 = .ok (.newarray .boolean, 2) := by decide +kernel
theorem dX1_init_76 : decode cX1_init 76 = .ok (.putfield 39, 3) := by decide +kernel
theorem dX1_init_79 : decode cX1_init 79 = .ok (.aload_n 0, 1) := by decide +kernel
theorem dX1_init_80 : decode cX1_init 80 = .ok (.bipush 24, 2) := by decide +kernel
theorem dX1_init_82 : decode cX1_init 82 = .ok (.newarray .boolean, 2) := by decide +kernel
theorem dX1_init_84 : decode cX1_init 84 = .ok (.putfield 42, 3) := by decide +kernel
theorem dX1_init_87 : decode cX1_init 87 = .ok (.aload_n 0, 1) := by decide +kernel
theorem dX1_init_88 : decode cX1_init 88 = .ok (.bipush 24, 2) := by decide +kernel
theorem dX1_init_90 : decode cX1_init 90 = .ok (.newarray .boolean, 2) := by decide +kernel
theorem dX1_init_92 : decode cX1_init 92 = .ok (.putfield 45, 3) := by decide +kernel
theorem dX1_init_95 : decode cX1_init 95 = .ok (.aload_n 0, 1) := by decide +kernel
theorem dX1_init_96 : decode cX1_init 96 = .ok (.bipush 24, 2) := by decide +kernel
theorem dX1_init_98 : decode cX1_init 98 = .ok (.newarray .int, 2) := by decide +kernel
theorem dX1_init_100 : decode cX1_init 100 = .ok (.putfield 48, 3) := by decide +kernel
theorem dX1_init_103 : decode cX1_init 103 = .ok (.iconst 0, 1) := by decide +kernel
theorem dX1_init_104 : decode cX1_init 104 = .ok (.istore_n 1, 1) := by decide +kernel
theorem dX1_init_105 : decode cX1_init 105 = .ok (.iload_n 1, 1) := by decide +kernel
theorem dX1_init_106 : decode cX1_init 106 = .ok (.bipush 24, 2) := by decide +kernel
theorem dX1_init_108 : decode cX1_init 108 = .ok (.if_icmp .ge 30, 3) := by decide +kernel
theorem dX1_init_111 : decode cX1_init 111 = .ok (.aload_n 0, 1) := by decide +kernel
theorem dX1_init_112 : decode cX1_init 112 = .ok (.getfield 13, 3) := by decide +kernel
theorem dX1_init_115 : decode cX1_init 115 = .ok (.iload_n 1, 1) := by decide +kernel
theorem dX1_init_116 : decode cX1_init 116 = .ok (.iconst (-1), 1) := by decide +kernel
theorem dX1_init_117 : decode cX1_init 117 = .ok (.iastore, 1) := by decide +kernel
theorem dX1_init_118 : decode cX1_init 118 = .ok (.aload_n 0, 1) := by decide +kernel
theorem dX1_init_119 : decode cX1_init 119 = .ok (.getfield 16, 3) := by decide +kernel
theorem dX1_init_122 : decode cX1_init 122 = .ok (.iload_n 1, 1) := by decide +kernel
theorem dX1_init_123 : decode cX1_init 123 = .ok (.iconst (-1), 1) := by decide +kernel
theorem dX1_init_124 : decode cX1_init 124 = .ok (.iastore, 1) := by decide +kernel
theorem dX1_init_125 : decode cX1_init 125 = .ok (.aload_n 0, 1) := by decide +kernel
theorem dX1_init_126 : decode cX1_init 126 = .ok (.getfield 29, 3) := by decide +kernel
theorem dX1_init_129 : decode cX1_init 129 = .ok (.iload_n 1, 1) := by decide +kernel
theorem dX1_init_130 : decode cX1_init 130 = .ok (.iload_n 1, 1) := by decide +kernel
theorem dX1_init_131 : decode cX1_init 131 = .ok (.iastore, 1) := by decide +kernel
theorem dX1_init_132 : decode cX1_init 132 = .ok (.iinc 1 1, 3) := by decide +kernel
theorem dX1_init_135 : decode cX1_init 135 = .ok (.goto (-30), 3) := by decide +kernel
theorem dX1_init_138 : decode cX1_init 138 = .ok (.return_, 1) := by decide +kernel
set_option maxRecDepth 20000 in
theorem ggX1_setNumber_X1_isUser : GoodIn wsX1_setNumber wsX1_isUser := goodIn_r _ [7] (by decide +kernel) (by decide +kernel)
set_option maxRecDepth 20000 in
theorem gX1_setNumber_X1_isUser : GoodIn wsX1_setNumber (va_wsS RX1 51 yX1_isUser wsX1_isUser) := goodIn_app (goodIn_of _ (by decide +kernel)) ggX1_setNumber_X1_isUser
set_option maxRecDepth 20000 in
theorem ggX1_setNumber_X1_isCell : GoodIn wsX1_setNumber wsX1_isCell := goodIn_r _ [10] (by decide +kernel) (by decide +kernel)
set_option maxRecDepth 20000 in
theorem gX1_setNumber_X1_isCell : GoodIn wsX1_setNumber (va_wsS RX1 55 yX1_isCell wsX1_isCell) := goodIn_app (goodIn_of _ (by decide +kernel)) ggX1_setNumber_X1_isCell
set_option maxRecDepth 20000 in
theorem ggX1_setNumber_X1_isWithin : GoodIn wsX1_setNumber wsX1_isWithin := goodIn_r _ [13] (by decide +kernel) (by decide +kernel)
set_option maxRecDepth 20000 in
theorem gX1_setNumber_X1_isWithin : GoodIn wsX1_setNumber (va_wsS RX1 59 yX1_isWithin wsX1_isWithin) := goodIn_app (goodIn_of _ (by decide +kernel)) ggX1_setNumber_X1_isWithin
set_option maxRecDepth 20000 in
theorem ggX1_setNumber_X1_giveFormula : GoodIn wsX1_setNumber wsX1_giveFormula := goodIn_r _ [17, 18, 19, 20, 21, 22, 23, 24, 6, 25, 26, 27, 28, 29, 30, 31, 32, 33, 34, 35, 36, 37, 38, 8, 9, 10, 39, 40, 41, 42, 43, 44, 45, 46, 47, 48, 49, 50, 51, 52, 53, 54, 55, 56, 57, 58, 59, 60, 61, 62, 63, 64, 65, 66, 67, 68, 69, 70, 71, 72, 73, 74, 75, 76, 77, 78, 79, 80, 81, 82, 83, 84, 85, 86, 87, 88, 89, 90, 91, 3, 92, 93, 94, 95, 96, 97, 98, 99, 100, 101, 102, 103, 104, 105, 106, 107, 108, 109, 110, 111, 112, 113, 114, 115, 116, 117, 118, 119, 120, 121, 122] (by decide +kernel) (by decide +kernel)
set_option maxRecDepth 20000 in
theorem gX1_setNumber_X1_giveFormula : GoodIn wsX1_setNumber (wsV RX1 70 RX1 yX1_giveFormula wsX1_giveFormula) := goodIn_app (goodIn_of _ (by decide +kernel)) ggX1_setNumber_X1_giveFormula
theorem dX1_setNumber_0 : decode cX1_setNumber 0 = .ok (.iload_n 1, 1) := by decide +kernel
theorem dX1_setNumber_1 : decode cX1_setNumber 1 = .ok (.invokestatic 51, 3) := by decide +kernel
theorem dX1_setNumber_4 : decode cX1_setNumber 4 = .ok (.ifCond .eq 19, 3) := by decide +kernel
theorem dX1_setNumber_7 : decode cX1_setNumber 7 = .ok (.iload_n 2, 1) := by decide +kernel
theorem dX1_setNumber_8 : decode cX1_setNumber 8 = .ok (.invokestatic 55, 3) := by decide +kernel
theorem dX1_setNumber_11 : decode cX1_setNumber 11 = .ok (.ifCond .eq 12, 3) := by decide +kernel
theorem dX1_setNumber_14 : decode cX1_setNumber 14 = .ok (.iload_n 3, 1) := by decide +kernel
theorem dX1_setNumber_15 : decode cX1_setNumber 15 = .ok (.ldc 58, 2) := by decide +kernel
theorem dX1_setNumber_17 : decode cX1_setNumber 17 = .ok (.invokestatic 59, 3) := by decide +kernel
theorem dX1_setNumber_20 : decode cX1_setNumber 20 = .ok (.ifCond .ne 13, 3) := by decide +kernel
theorem dX1_setNumber_23 : decode cX1_setNumber 23 = .ok (.new 63, 3) := by decide +kernel
theorem dX1_setNumber_26 : decode cX1_setNumber 26 = .ok (.dup, 1) := by decide +kernel
theorem dX1_setNumber_27 : decode cX1_setNumber 27 = .ok (.ldc 65, 2) := by decide +kernel
theorem dX1_setNumber_29 : decode cX1_setNumber 29 = .ok (.invokespecial 67, 3) := by decide +kernel
theorem dX1_setNumber_32 : decode cX1_setNumber 32 = .ok (.athrow, 1) := by decide +kernel
theorem dX1_setNumber_33 : decode cX1_setNumber 33 = .ok (.aload_n 0, 1) := by decide +kernel
theorem dX1_setNumber_34 : decode cX1_setNumber 34 = .ok (.iload_n 1, 1) := by decide +kernel
theorem dX1_setNumber_35 : decode cX1_setNumber 35 = .ok (.iload_n 2, 1) := by decide +kernel
theorem dX1_setNumber_36 : decode cX1_setNumber 36 = .ok (.iconst 0, 1) := by decide +kernel
theorem dX1_setNumber_37 : decode cX1_setNumber 37 = .ok (.iconst (-1), 1) := by decide +kernel
theorem dX1_setNumber_38 : decode cX1_setNumber 38 = .ok (.iconst (-1), 1) := by decide +kernel
theorem dX1_setNumber_39 : decode cX1_setNumber 39 = .ok (.iload_n 3, 1) := by decide +kernel
theorem dX1_setNumber_40 : decode cX1_setNumber 40 = .ok (.invokevirtual 70, 3) := by decide +kernel
theorem dX1_setNumber_43 : decode cX1_setNumber 43 = .ok (.ireturn, 1) := by decide +kernel
set_option maxRecDepth 20000 in
theorem ggX1_setSum_X1_isUser : GoodIn wsX1_setSum wsX1_isUser := goodIn_r _ [8] (by decide +kernel) (by decide +kernel)
set_option maxRecDepth 20000 in
theorem gX1_setSum_X1_isUser : GoodIn wsX1_setSum (va_wsS RX1 51 yX1_isUser wsX1_isUser) := goodIn_app (goodIn_of _ (by decide +kernel)) ggX1_setSum_X1_isUser
set_option maxRecDepth 20000 in
theorem ggX1_setSum_X1_isCell : GoodIn wsX1_setSum wsX1_isCell := goodIn_r _ [11] (by decide +kernel) (by decide +kernel)
set_option maxRecDepth 20000 in
theorem gX1_setSum_X1_isCell : GoodIn wsX1_setSum (va_wsS RX1 55 yX1_isCell wsX1_isCell) := goodIn_app (goodIn_of _ (by decide +kernel)) ggX1_setSum_X1_isCell
set_option maxRecDepth 20000 in
theorem ggX1_setSum_X1_isWithin : GoodIn wsX1_setSum wsX1_isWithin := goodIn_r _ [14] (by decide +kernel) (by decide +kernel)
set_option maxRecDepth 20000 in
theorem gX1_setSum_X1_isWithin : GoodIn wsX1_setSum (va_wsS RX1 59 yX1_isWithin wsX1_isWithin) := goodIn_app (goodIn_of _ (by decide +kernel)) ggX1_setSum_X1_isWithin
set_option maxRecDepth 20000 in
theorem ggX1_setSum_X1_wouldReadItself : GoodIn wsX1_setSum wsX1_wouldReadItself := goodIn_r _ [18, 19, 20, 9, 10, 7, 11, 21, 22, 23, 24, 25, 26, 27, 28, 29, 110, 111, 112, 113, 114, 115, 116, 117, 118, 119, 120, 121] (by decide +kernel) (by decide +kernel)
set_option maxRecDepth 20000 in
theorem gX1_setSum_X1_wouldReadItself : GoodIn wsX1_setSum (wsV RX1 76 RX1 yX1_wouldReadItself wsX1_wouldReadItself) := goodIn_app (goodIn_of _ (by decide +kernel)) ggX1_setSum_X1_wouldReadItself
set_option maxRecDepth 20000 in
theorem ggX1_setSum_X1_giveFormula : GoodIn wsX1_setSum wsX1_giveFormula := goodIn_r _ [33, 34, 25, 26, 35, 36, 37, 38, 7, 39, 40, 20, 41, 42, 43, 44, 45, 46, 47, 48, 27, 28, 29, 9, 10, 11, 49, 50, 51, 52, 53, 54, 55, 56, 57, 58, 59, 60, 61, 62, 63, 64, 65, 66, 67, 68, 69, 70, 71, 72, 73, 74, 75, 76, 77, 78, 79, 80, 81, 82, 83, 84, 85, 86, 87, 88, 89, 90, 91, 92, 93, 94, 95, 96, 97, 98, 99, 100, 101, 102, 103, 104, 105, 106, 107, 108, 109, 21, 22, 23, 24, 110, 111, 112, 113, 114, 115, 116, 117, 118, 119, 120, 121, 122, 123, 124, 125, 126, 127, 128, 129] (by decide +kernel) (by decide +kernel)
set_option maxRecDepth 20000 in
theorem gX1_setSum_X1_giveFormula : GoodIn wsX1_setSum (wsV RX1 70 RX1 yX1_giveFormula wsX1_giveFormula) := goodIn_app (goodIn_of _ (by decide +kernel)) ggX1_setSum_X1_giveFormula
theorem dX1_setSum_0 : decode cX1_setSum 0 = .ok (.iload_n 1, 1) := by decide +kernel
theorem dX1_setSum_1 : decode cX1_setSum 1 = .ok (.invokestatic 51, 3) := by decide +kernel
theorem dX1_setSum_4 : decode cX1_setSum 4 = .ok (.ifCond .eq 36, 3) := by decide +kernel
theorem dX1_setSum_7 : decode cX1_setSum 7 = .ok (.iload_n 2, 1) := by decide +kernel
theorem dX1_setSum_8 : decode cX1_setSum 8 = .ok (.invokestatic 55, 3) := by decide +kernel
theorem dX1_setSum_11 : decode cX1_setSum 11 = .ok (.ifCond .eq 29, 3) := by decide +kernel
theorem dX1_setSum_14 : decode cX1_setSum 14 = .ok (.iload_n 3, 1) := by decide +kernel
theorem dX1_setSum_15 : decode cX1_setSum 15 = .ok (.invokestatic 55, 3) := by decide +kernel
theorem dX1_setSum_18 : decode cX1_setSum 18 = .ok (.ifCond .eq 22, 3) := by decide +kernel
theorem dX1_setSum_21 : decode cX1_setSum 21 = .ok (.iload 4, 2) := by decide +kernel
theorem dX1_setSum_23 : decode cX1_setSum 23 = .ok (.invokestatic 55, 3) := by decide +kernel
theorem dX1_setSum_26 : decode cX1_setSum 26 = .ok (.ifCond .eq 14, 3) := by decide +kernel
theorem dX1_setSum_29 : decode cX1_setSum 29 = .ok (.iload 5, 2) := by decide +kernel
theorem dX1_setSum_31 : decode cX1_setSum 31 = .ok (.sipush 1000, 3) := by decide +kernel
theorem dX1_setSum_34 : decode cX1_setSum 34 = .ok (.invokestatic 59, 3) := by decide +kernel
theorem dX1_setSum_37 : decode cX1_setSum 37 = .ok (.ifCond .ne 13, 3) := by decide +kernel
theorem dX1_setSum_40 : decode cX1_setSum 40 = .ok (.new 63, 3) := by decide +kernel
theorem dX1_setSum_43 : decode cX1_setSum 43 = .ok (.dup, 1) := by decide +kernel
theorem dX1_setSum_44 : decode cX1_setSum 44 = .ok (.ldc 74, 2) := by decide +kernel
theorem dX1_setSum_46 : decode cX1_setSum 46 = .ok (.invokespecial 67, 3) := by decide +kernel
theorem dX1_setSum_49 : decode cX1_setSum 49 = .ok (.athrow, 1) := by decide +kernel
theorem dX1_setSum_50 : decode cX1_setSum 50 = .ok (.aload_n 0, 1) := by decide +kernel
theorem dX1_setSum_51 : decode cX1_setSum 51 = .ok (.iload_n 2, 1) := by decide +kernel
theorem dX1_setSum_52 : decode cX1_setSum 52 = .ok (.iload_n 3, 1) := by decide +kernel
theorem dX1_setSum_53 : decode cX1_setSum 53 = .ok (.iload 4, 2) := by decide +kernel
theorem dX1_setSum_55 : decode cX1_setSum 55 = .ok (.invokevirtual 76, 3) := by decide +kernel
theorem dX1_setSum_58 : decode cX1_setSum 58 = .ok (.ifCond .eq 13, 3) := by decide +kernel
theorem dX1_setSum_61 : decode cX1_setSum 61 = .ok (.new 80, 3) := by decide +kernel
theorem dX1_setSum_64 : decode cX1_setSum 64 = .ok (.dup, 1) := by decide +kernel
theorem dX1_setSum_65 : decode cX1_setSum 65 = .ok (.ldc 82, 2) := by decide +kernel
theorem dX1_setSum_67 : decode cX1_setSum 67 = .ok (.invokespecial 84, 3) := by decide +kernel
theorem dX1_setSum_70 : decode cX1_setSum 70 = .ok (.athrow, 1) := by decide +kernel
theorem dX1_setSum_71 : decode cX1_setSum 71 = .ok (.aload_n 0, 1) := by decide +kernel
theorem dX1_setSum_72 : decode cX1_setSum 72 = .ok (.iload_n 1, 1) := by decide +kernel
theorem dX1_setSum_73 : decode cX1_setSum 73 = .ok (.iload_n 2, 1) := by decide +kernel
theorem dX1_setSum_74 : decode cX1_setSum 74 = .ok (.iconst 1, 1) := by decide +kernel
theorem dX1_setSum_75 : decode cX1_setSum 75 = .ok (.iload_n 3, 1) := by decide +kernel
theorem dX1_setSum_76 : decode cX1_setSum 76 = .ok (.iload 4, 2) := by decide +kernel
theorem dX1_setSum_78 : decode cX1_setSum 78 = .ok (.iload 5, 2) := by decide +kernel
theorem dX1_setSum_80 : decode cX1_setSum 80 = .ok (.invokevirtual 70, 3) := by decide +kernel
theorem dX1_setSum_83 : decode cX1_setSum 83 = .ok (.ireturn, 1) := by decide +kernel
set_option maxRecDepth 20000 in
theorem ggX1_setGreater_X1_isUser : GoodIn wsX1_setGreater wsX1_isUser := goodIn_r _ [8] (by decide +kernel) (by decide +kernel)
set_option maxRecDepth 20000 in
theorem gX1_setGreater_X1_isUser : GoodIn wsX1_setGreater (va_wsS RX1 51 yX1_isUser wsX1_isUser) := goodIn_app (goodIn_of _ (by decide +kernel)) ggX1_setGreater_X1_isUser
set_option maxRecDepth 20000 in
theorem ggX1_setGreater_X1_isCell : GoodIn wsX1_setGreater wsX1_isCell := goodIn_r _ [11] (by decide +kernel) (by decide +kernel)
set_option maxRecDepth 20000 in
theorem gX1_setGreater_X1_isCell : GoodIn wsX1_setGreater (va_wsS RX1 55 yX1_isCell wsX1_isCell) := goodIn_app (goodIn_of _ (by decide +kernel)) ggX1_setGreater_X1_isCell
set_option maxRecDepth 20000 in
theorem ggX1_setGreater_X1_wouldReadItself : GoodIn wsX1_setGreater wsX1_wouldReadItself := goodIn_r _ [15, 16, 17, 9, 10, 7, 11, 18, 19, 20, 21, 22, 23, 24, 25, 26, 107, 108, 109, 110, 111, 112, 113, 114, 115, 116, 117, 118] (by decide +kernel) (by decide +kernel)
set_option maxRecDepth 20000 in
theorem gX1_setGreater_X1_wouldReadItself : GoodIn wsX1_setGreater (wsV RX1 76 RX1 yX1_wouldReadItself wsX1_wouldReadItself) := goodIn_app (goodIn_of _ (by decide +kernel)) ggX1_setGreater_X1_wouldReadItself
set_option maxRecDepth 20000 in
theorem ggX1_setGreater_X1_giveFormula : GoodIn wsX1_setGreater wsX1_giveFormula := goodIn_r _ [30, 31, 22, 23, 32, 33, 34, 35, 7, 36, 37, 17, 38, 39, 40, 41, 42, 43, 44, 45, 24, 25, 26, 9, 10, 11, 46, 47, 48, 49, 50, 51, 52, 53, 54, 55, 56, 57, 58, 59, 60, 61, 62, 63, 64, 65, 66, 67, 68, 69, 70, 71, 72, 73, 74, 75, 76, 77, 78, 79, 80, 81, 82, 83, 84, 85, 86, 87, 88, 89, 90, 91, 92, 93, 94, 95, 96, 97, 98, 99, 100, 101, 102, 103, 104, 105, 106, 18, 19, 20, 21, 107, 108, 109, 110, 111, 112, 113, 114, 115, 116, 117, 118, 119, 120, 121, 122, 123, 124, 125, 126] (by decide +kernel) (by decide +kernel)
set_option maxRecDepth 20000 in
theorem gX1_setGreater_X1_giveFormula : GoodIn wsX1_setGreater (wsV RX1 70 RX1 yX1_giveFormula wsX1_giveFormula) := goodIn_app (goodIn_of _ (by decide +kernel)) ggX1_setGreater_X1_giveFormula
theorem dX1_setGreater_0 : decode cX1_setGreater 0 = .ok (.iload_n 1, 1) := by decide +kernel
theorem dX1_setGreater_1 : decode cX1_setGreater 1 = .ok (.invokestatic 51, 3) := by decide +kernel
theorem dX1_setGreater_4 : decode cX1_setGreater 4 = .ok (.ifCond .eq 25, 3) := by decide +kernel
theorem dX1_setGreater_7 : decode cX1_setGreater 7 = .ok (.iload_n 2, 1) := by decide +kernel
theorem dX1_setGreater_8 : decode cX1_setGreater 8 = .ok (.invokestatic 55, 3) := by decide +kernel
theorem dX1_setGreater_11 : decode cX1_setGreater 11 = .ok (.ifCond .eq 18, 3) := by decide +kernel
theorem dX1_setGreater_14 : decode cX1_setGreater 14 = .ok (.iload_n 3, 1) := by decide +kernel
theorem dX1_setGreater_15 : decode cX1_setGreater 15 = .ok (.invokestatic 55, 3) := by decide +kernel
theorem dX1_setGreater_18 : decode cX1_setGreater 18 = .ok (.ifCond .eq 11, 3) := by decide +kernel
theorem dX1_setGreater_21 : decode cX1_setGreater 21 = .ok (.iload 4, 2) := by decide +kernel
theorem dX1_setGreater_23 : decode cX1_setGreater 23 = .ok (.invokestatic 55, 3) := by decide +kernel
theorem dX1_setGreater_26 : decode cX1_setGreater 26 = .ok (.ifCond .ne 13, 3) := by decide +kernel
theorem dX1_setGreater_29 : decode cX1_setGreater 29 = .ok (.new 63, 3) := by decide +kernel
theorem dX1_setGreater_32 : decode cX1_setGreater 32 = .ok (.dup, 1) := by decide +kernel
theorem dX1_setGreater_33 : decode cX1_setGreater 33 = .ok (.ldc 85, 2) := by decide +kernel
theorem dX1_setGreater_35 : decode cX1_setGreater 35 = .ok (.invokespecial 67, 3) := by decide +kernel
theorem dX1_setGreater_38 : decode cX1_setGreater 38 = .ok (.athrow, 1) := by decide +kernel
theorem dX1_setGreater_39 : decode cX1_setGreater 39 = .ok (.aload_n 0, 1) := by decide +kernel
theorem dX1_setGreater_40 : decode cX1_setGreater 40 = .ok (.iload_n 2, 1) := by decide +kernel
theorem dX1_setGreater_41 : decode cX1_setGreater 41 = .ok (.iload_n 3, 1) := by decide +kernel
theorem dX1_setGreater_42 : decode cX1_setGreater 42 = .ok (.iload 4, 2) := by decide +kernel
theorem dX1_setGreater_44 : decode cX1_setGreater 44 = .ok (.invokevirtual 76, 3) := by decide +kernel
theorem dX1_setGreater_47 : decode cX1_setGreater 47 = .ok (.ifCond .eq 13, 3) := by decide +kernel
theorem dX1_setGreater_50 : decode cX1_setGreater 50 = .ok (.new 80, 3) := by decide +kernel
theorem dX1_setGreater_53 : decode cX1_setGreater 53 = .ok (.dup, 1) := by decide +kernel
theorem dX1_setGreater_54 : decode cX1_setGreater 54 = .ok (.ldc 82, 2) := by decide +kernel
theorem dX1_setGreater_56 : decode cX1_setGreater 56 = .ok (.invokespecial 84, 3) := by decide +kernel
theorem dX1_setGreater_59 : decode cX1_setGreater 59 = .ok (.athrow, 1) := by decide +kernel
theorem dX1_setGreater_60 : decode cX1_setGreater 60 = .ok (.aload_n 0, 1) := by decide +kernel
theorem dX1_setGreater_61 : decode cX1_setGreater 61 = .ok (.iload_n 1, 1) := by decide +kernel
theorem dX1_setGreater_62 : decode cX1_setGreater 62 = .ok (.iload_n 2, 1) := by decide +kernel
theorem dX1_setGreater_63 : decode cX1_setGreater 63 = .ok (.iconst 2, 1) := by decide +kernel
theorem dX1_setGreater_64 : decode cX1_setGreater 64 = .ok (.iload_n 3, 1) := by decide +kernel
theorem dX1_setGreater_65 : decode cX1_setGreater 65 = .ok (.iload 4, 2) := by decide +kernel
theorem dX1_setGreater_67 : decode cX1_setGreater 67 = .ok (.iconst 0, 1) := by decide +kernel
theorem dX1_setGreater_68 : decode cX1_setGreater 68 = .ok (.invokevirtual 70, 3) := by decide +kernel
theorem dX1_setGreater_71 : decode cX1_setGreater 71 = .ok (.ireturn, 1) := by decide +kernel
set_option maxRecDepth 20000 in
theorem ggX1_setTimes_X1_isUser : GoodIn wsX1_setTimes wsX1_isUser := goodIn_r _ [8] (by decide +kernel) (by decide +kernel)
set_option maxRecDepth 20000 in
theorem gX1_setTimes_X1_isUser : GoodIn wsX1_setTimes (va_wsS RX1 51 yX1_isUser wsX1_isUser) := goodIn_app (goodIn_of _ (by decide +kernel)) ggX1_setTimes_X1_isUser
set_option maxRecDepth 20000 in
theorem ggX1_setTimes_X1_isCell : GoodIn wsX1_setTimes wsX1_isCell := goodIn_r _ [11] (by decide +kernel) (by decide +kernel)
set_option maxRecDepth 20000 in
theorem gX1_setTimes_X1_isCell : GoodIn wsX1_setTimes (va_wsS RX1 55 yX1_isCell wsX1_isCell) := goodIn_app (goodIn_of _ (by decide +kernel)) ggX1_setTimes_X1_isCell
set_option maxRecDepth 20000 in
theorem ggX1_setTimes_X1_isWithin : GoodIn wsX1_setTimes wsX1_isWithin := goodIn_r _ [14] (by decide +kernel) (by decide +kernel)
set_option maxRecDepth 20000 in
theorem gX1_setTimes_X1_isWithin : GoodIn wsX1_setTimes (va_wsS RX1 59 yX1_isWithin wsX1_isWithin) := goodIn_app (goodIn_of _ (by decide +kernel)) ggX1_setTimes_X1_isWithin
set_option maxRecDepth 20000 in
theorem ggX1_setTimes_X1_wouldReadItself : GoodIn wsX1_setTimes wsX1_wouldReadItself := goodIn_r _ [18, 19, 20, 9, 10, 7, 11, 21, 22, 23, 24, 25, 26, 27, 28, 29, 110, 111, 112, 113, 114, 115, 116, 117, 118, 119, 120, 121] (by decide +kernel) (by decide +kernel)
set_option maxRecDepth 20000 in
theorem gX1_setTimes_X1_wouldReadItself : GoodIn wsX1_setTimes (wsV RX1 76 RX1 yX1_wouldReadItself wsX1_wouldReadItself) := goodIn_app (goodIn_of _ (by decide +kernel)) ggX1_setTimes_X1_wouldReadItself
set_option maxRecDepth 20000 in
theorem ggX1_setTimes_X1_giveFormula : GoodIn wsX1_setTimes wsX1_giveFormula := goodIn_r _ [33, 34, 25, 26, 35, 36, 37, 38, 7, 39, 40, 20, 41, 42, 43, 44, 45, 46, 47, 48, 27, 28, 29, 9, 10, 11, 49, 50, 51, 52, 53, 54, 55, 56, 57, 58, 59, 60, 61, 62, 63, 64, 65, 66, 67, 68, 69, 70, 71, 72, 73, 74, 75, 76, 77, 78, 79, 80, 81, 82, 83, 84, 85, 86, 87, 88, 89, 90, 91, 92, 93, 94, 95, 96, 97, 98, 99, 100, 101, 102, 103, 104, 105, 106, 107, 108, 109, 21, 22, 23, 24, 110, 111, 112, 113, 114, 115, 116, 117, 118, 119, 120, 121, 122, 123, 124, 125, 126, 127, 128, 129] (by decide +kernel) (by decide +kernel)
set_option maxRecDepth 20000 in
theorem gX1_setTimes_X1_giveFormula : GoodIn wsX1_setTimes (wsV RX1 70 RX1 yX1_giveFormula wsX1_giveFormula) := goodIn_app (goodIn_of _ (by decide +kernel)) ggX1_setTimes_X1_giveFormula
theorem dX1_setTimes_0 : decode cX1_setTimes 0 = .ok (.iload_n 1, 1) := by decide +kernel
theorem dX1_setTimes_1 : decode cX1_setTimes 1 = .ok (.invokestatic 51, 3) := by decide +kernel
theorem dX1_setTimes_4 : decode cX1_setTimes 4 = .ok (.ifCond .eq 27, 3) := by decide +kernel
theorem dX1_setTimes_7 : decode cX1_setTimes 7 = .ok (.iload_n 2, 1) := by decide +kernel
theorem dX1_setTimes_8 : decode cX1_setTimes 8 = .ok (.invokestatic 55, 3) := by decide +kernel
theorem dX1_setTimes_11 : decode cX1_setTimes 11 = .ok (.ifCond .eq 20, 3) := by decide +kernel
theorem dX1_setTimes_14 : decode cX1_setTimes 14 = .ok (.iload_n 3, 1) := by decide +kernel
theorem dX1_setTimes_15 : decode cX1_setTimes 15 = .ok (.invokestatic 55, 3) := by decide +kernel
theorem dX1_setTimes_18 : decode cX1_setTimes 18 = .ok (.ifCond .eq 13, 3) := by decide +kernel
theorem dX1_setTimes_21 : decode cX1_setTimes 21 = .ok (.iload 4, 2) := by decide +kernel
theorem dX1_setTimes_23 : decode cX1_setTimes 23 = .ok (.bipush 100, 2) := by decide +kernel
theorem dX1_setTimes_25 : decode cX1_setTimes 25 = .ok (.invokestatic 59, 3) := by decide +kernel
theorem dX1_setTimes_28 : decode cX1_setTimes 28 = .ok (.ifCond .ne 13, 3) := by decide +kernel
theorem dX1_setTimes_31 : decode cX1_setTimes 31 = .ok (.new 63, 3) := by decide +kernel
theorem dX1_setTimes_34 : decode cX1_setTimes 34 = .ok (.dup, 1) := by decide +kernel
theorem dX1_setTimes_35 : decode cX1_setTimes 35 = .ok (.ldc 87, 2) := by decide +kernel
theorem dX1_setTimes_37 : decode cX1_setTimes 37 = .ok (.invokespecial 67, 3) := by decide +kernel
theorem dX1_setTimes_40 : decode cX1_setTimes 40 = .ok (.athrow, 1) := by decide +kernel
theorem dX1_setTimes_41 : decode cX1_setTimes 41 = .ok (.aload_n 0, 1) := by decide +kernel
theorem dX1_setTimes_42 : decode cX1_setTimes 42 = .ok (.iload_n 2, 1) := by decide +kernel
theorem dX1_setTimes_43 : decode cX1_setTimes 43 = .ok (.iload_n 3, 1) := by decide +kernel
theorem dX1_setTimes_44 : decode cX1_setTimes 44 = .ok (.iconst (-1), 1) := by decide +kernel
theorem dX1_setTimes_45 : decode cX1_setTimes 45 = .ok (.invokevirtual 76, 3) := by decide +kernel
theorem dX1_setTimes_48 : decode cX1_setTimes 48 = .ok (.ifCond .eq 13, 3) := by decide +kernel
theorem dX1_setTimes_51 : decode cX1_setTimes 51 = .ok (.new 80, 3) := by decide +kernel
theorem dX1_setTimes_54 : decode cX1_setTimes 54 = .ok (.dup, 1) := by decide +kernel
theorem dX1_setTimes_55 : decode cX1_setTimes 55 = .ok (.ldc 82, 2) := by decide +kernel
theorem dX1_setTimes_57 : decode cX1_setTimes 57 = .ok (.invokespecial 84, 3) := by decide +kernel
theorem dX1_setTimes_60 : decode cX1_setTimes 60 = .ok (.athrow, 1) := by decide +kernel
theorem dX1_setTimes_61 : decode cX1_setTimes 61 = .ok (.aload_n 0, 1) := by decide +kernel
theorem dX1_setTimes_62 : decode cX1_setTimes 62 = .ok (.iload_n 1, 1) := by decide +kernel
theorem dX1_setTimes_63 : decode cX1_setTimes 63 = .ok (.iload_n 2, 1) := by decide +kernel
theorem dX1_setTimes_64 : decode cX1_setTimes 64 = .ok (.iconst 3, 1) := by decide +kernel
theorem dX1_setTimes_65 : decode cX1_setTimes 65 = .ok (.iload_n 3, 1) := by decide +kernel
theorem dX1_setTimes_66 : decode cX1_setTimes 66 = .ok (.iconst (-1), 1) := by decide +kernel
theorem dX1_setTimes_67 : decode cX1_setTimes 67 = .ok (.iload 4, 2) := by decide +kernel
theorem dX1_setTimes_69 : decode cX1_setTimes 69 = .ok (.invokevirtual 70, 3) := by decide +kernel
theorem dX1_setTimes_72 : decode cX1_setTimes 72 = .ok (.ireturn, 1) := by decide +kernel
set_option maxRecDepth 20000 in
theorem ggX1_refresh_X1_isUser : GoodIn wsX1_refresh wsX1_isUser := goodIn_r _ [6] (by decide +kernel) (by decide +kernel)
set_option maxRecDepth 20000 in
theorem gX1_refresh_X1_isUser : GoodIn wsX1_refresh (va_wsS RX1 51 yX1_isUser wsX1_isUser) := goodIn_app (goodIn_of _ (by decide +kernel)) ggX1_refresh_X1_isUser
set_option maxRecDepth 20000 in
theorem ggX1_refresh_X1_forgetChanges : GoodIn wsX1_refresh wsX1_forgetChanges := goodIn_r _ [10, 11, 83, 84, 85, 86, 87, 88, 89, 90, 91, 92, 93, 94] (by decide +kernel) (by decide +kernel)
set_option maxRecDepth 20000 in
theorem gX1_refresh_X1_forgetChanges : GoodIn wsX1_refresh (wsV RX1 91 RX1 yX1_forgetChanges wsX1_forgetChanges) := goodIn_app (goodIn_of _ (by decide +kernel)) ggX1_refresh_X1_forgetChanges
set_option maxRecDepth 20000 in
theorem ggX1_refresh_X1_goThrough : GoodIn wsX1_refresh wsX1_goThrough := goodIn_r _ [15, 16, 11, 17, 18, 19, 5, 20, 21, 22, 23, 24, 25, 26, 27, 28, 29, 30, 31, 32, 33, 34, 35, 36, 37, 38, 39, 40, 41, 42, 43, 44, 45, 46, 47, 48, 49, 50, 51, 52, 53, 54, 55, 56, 57, 58, 59, 60, 61, 62, 63, 64, 65, 66, 67, 68, 69, 70, 71, 72, 73, 74, 75, 76, 77, 78, 79, 80, 81, 82, 83, 84, 85, 86, 87, 88, 89, 90, 91, 92, 93, 94, 95, 96, 97, 98, 99, 100, 101, 102] (by decide +kernel) (by decide +kernel)
set_option maxRecDepth 20000 in
theorem gX1_refresh_X1_goThrough : GoodIn wsX1_refresh (wsV RX1 94 RX1 yX1_goThrough wsX1_goThrough) := goodIn_app (goodIn_of _ (by decide +kernel)) ggX1_refresh_X1_goThrough
theorem dX1_refresh_0 : decode cX1_refresh 0 = .ok (.iload_n 1, 1) := by decide +kernel
theorem dX1_refresh_1 : decode cX1_refresh 1 = .ok (.invokestatic 51, 3) := by decide +kernel
theorem dX1_refresh_4 : decode cX1_refresh 4 = .ok (.ifCond .ne 13, 3) := by decide +kernel
theorem dX1_refresh_7 : decode cX1_refresh 7 = .ok (.new 63, 3) := by decide +kernel
theorem dX1_refresh_10 : decode cX1_refresh 10 = .ok (.dup, 1) := by decide +kernel
theorem dX1_refresh_11 : decode cX1_refresh 11 = .ok (.ldc 89, 2) := by decide +kernel
theorem dX1_refresh_13 : decode cX1_refresh 13 = .ok (.invokespecial 67, 3) := by decide +kernel
theorem dX1_refresh_16 : decode cX1_refresh 16 = .ok (.athrow, 1) := by decide +kernel
theorem dX1_refresh_17 : decode cX1_refresh 17 = .ok (.aload_n 0, 1) := by decide +kernel
theorem dX1_refresh_18 : decode cX1_refresh 18 = .ok (.invokevirtual 91, 3) := by decide +kernel
theorem dX1_refresh_21 : decode cX1_refresh 21 = .ok (.aload_n 0, 1) := by decide +kernel
theorem dX1_refresh_22 : decode cX1_refresh 22 = .ok (.iload_n 1, 1) := by decide +kernel
theorem dX1_refresh_23 : decode cX1_refresh 23 = .ok (.iconst 1, 1) := by decide +kernel
theorem dX1_refresh_24 : decode cX1_refresh 24 = .ok (.invokevirtual 94, 3) := by decide +kernel
theorem dX1_refresh_27 : decode cX1_refresh 27 = .ok (.ireturn, 1) := by decide +kernel
set_option maxRecDepth 20000 in
theorem ggX1_setPrice_X1_isSheet : GoodIn wsX1_setPrice wsX1_isSheet := goodIn_r _ [7] (by decide +kernel) (by decide +kernel)
set_option maxRecDepth 20000 in
theorem gX1_setPrice_X1_isSheet : GoodIn wsX1_setPrice (va_wsS RX1 98 yX1_isSheet wsX1_isSheet) := goodIn_app (goodIn_of _ (by decide +kernel)) ggX1_setPrice_X1_isSheet
theorem dX1_setPrice_0 : decode cX1_setPrice 0 = .ok (.iload_n 1, 1) := by decide +kernel
theorem dX1_setPrice_1 : decode cX1_setPrice 1 = .ok (.invokestatic 98, 3) := by decide +kernel
theorem dX1_setPrice_4 : decode cX1_setPrice 4 = .ok (.ifCond .eq 13, 3) := by decide +kernel
theorem dX1_setPrice_7 : decode cX1_setPrice 7 = .ok (.iload_n 2, 1) := by decide +kernel
theorem dX1_setPrice_8 : decode cX1_setPrice 8 = .ok (.ifCond .lt 9, 3) := by decide +kernel
theorem dX1_setPrice_11 : decode cX1_setPrice 11 = .ok (.iload_n 2, 1) := by decide +kernel
theorem dX1_setPrice_12 : decode cX1_setPrice 12 = .ok (.bipush 100, 2) := by decide +kernel
theorem dX1_setPrice_14 : decode cX1_setPrice 14 = .ok (.if_icmp .le 13, 3) := by decide +kernel
theorem dX1_setPrice_17 : decode cX1_setPrice 17 = .ok (.new 63, 3) := by decide +kernel
theorem dX1_setPrice_20 : decode cX1_setPrice 20 = .ok (.dup, 1) := by decide +kernel
theorem dX1_setPrice_21 : decode cX1_setPrice 21 = .ok (.ldc 101, 2) := by decide +kernel
theorem dX1_setPrice_23 : decode cX1_setPrice 23 = .ok (.invokespecial 67, 3) := by decide +kernel
theorem dX1_setPrice_26 : decode cX1_setPrice 26 = .ok (.athrow, 1) := by decide +kernel
theorem dX1_setPrice_27 : decode cX1_setPrice 27 = .ok (.aload_n 0, 1) := by decide +kernel
theorem dX1_setPrice_28 : decode cX1_setPrice 28 = .ok (.getfield 35, 3) := by decide +kernel
theorem dX1_setPrice_31 : decode cX1_setPrice 31 = .ok (.getfield 103, 3) := by decide +kernel
theorem dX1_setPrice_34 : decode cX1_setPrice 34 = .ok (.iload_n 1, 1) := by decide +kernel
theorem dX1_setPrice_35 : decode cX1_setPrice 35 = .ok (.iaload, 1) := by decide +kernel
theorem dX1_setPrice_36 : decode cX1_setPrice 36 = .ok (.istore_n 3, 1) := by decide +kernel
theorem dX1_setPrice_37 : decode cX1_setPrice 37 = .ok (.aload_n 0, 1) := by decide +kernel
theorem dX1_setPrice_38 : decode cX1_setPrice 38 = .ok (.getfield 35, 3) := by decide +kernel
theorem dX1_setPrice_41 : decode cX1_setPrice 41 = .ok (.getfield 103, 3) := by decide +kernel
theorem dX1_setPrice_44 : decode cX1_setPrice 44 = .ok (.iload_n 1, 1) := by decide +kernel
theorem dX1_setPrice_45 : decode cX1_setPrice 45 = .ok (.iload_n 2, 1) := by decide +kernel
theorem dX1_setPrice_46 : decode cX1_setPrice 46 = .ok (.iastore, 1) := by decide +kernel
theorem dX1_setPrice_47 : decode cX1_setPrice 47 = .ok (.iload_n 3, 1) := by decide +kernel
theorem dX1_setPrice_48 : decode cX1_setPrice 48 = .ok (.ireturn, 1) := by decide +kernel
set_option maxRecDepth 20000 in
theorem ggX1_grant_X1_isSheet : GoodIn wsX1_grant wsX1_isSheet := goodIn_r _ [7] (by decide +kernel) (by decide +kernel)
set_option maxRecDepth 20000 in
theorem gX1_grant_X1_isSheet : GoodIn wsX1_grant (va_wsS RX1 98 yX1_isSheet wsX1_isSheet) := goodIn_app (goodIn_of _ (by decide +kernel)) ggX1_grant_X1_isSheet
theorem dX1_grant_0 : decode cX1_grant 0 = .ok (.iload_n 1, 1) := by decide +kernel
theorem dX1_grant_1 : decode cX1_grant 1 = .ok (.invokestatic 98, 3) := by decide +kernel
theorem dX1_grant_4 : decode cX1_grant 4 = .ok (.ifCond .eq 15, 3) := by decide +kernel
theorem dX1_grant_7 : decode cX1_grant 7 = .ok (.iload_n 2, 1) := by decide +kernel
theorem dX1_grant_8 : decode cX1_grant 8 = .ok (.iconst 1, 1) := by decide +kernel
theorem dX1_grant_9 : decode cX1_grant 9 = .ok (.if_icmp .lt 10, 3) := by decide +kernel
theorem dX1_grant_12 : decode cX1_grant 12 = .ok (.iload_n 2, 1) := by decide +kernel
theorem dX1_grant_13 : decode cX1_grant 13 = .ok (.sipush 10000, 3) := by decide +kernel
theorem dX1_grant_16 : decode cX1_grant 16 = .ok (.if_icmp .le 13, 3) := by decide +kernel
theorem dX1_grant_19 : decode cX1_grant 19 = .ok (.new 63, 3) := by decide +kernel
theorem dX1_grant_22 : decode cX1_grant 22 = .ok (.dup, 1) := by decide +kernel
theorem dX1_grant_23 : decode cX1_grant 23 = .ok (.ldc 106, 2) := by decide +kernel
theorem dX1_grant_25 : decode cX1_grant 25 = .ok (.invokespecial 67, 3) := by decide +kernel
theorem dX1_grant_28 : decode cX1_grant 28 = .ok (.athrow, 1) := by decide +kernel
theorem dX1_grant_29 : decode cX1_grant 29 = .ok (.aload_n 0, 1) := by decide +kernel
theorem dX1_grant_30 : decode cX1_grant 30 = .ok (.getfield 35, 3) := by decide +kernel
theorem dX1_grant_33 : decode cX1_grant 33 = .ok (.getfield 108, 3) := by decide +kernel
theorem dX1_grant_36 : decode cX1_grant 36 = .ok (.iload_n 1, 1) := by decide +kernel
theorem dX1_grant_37 : decode cX1_grant 37 = .ok (.dup2, 1) := by decide +kernel
theorem dX1_grant_38 : decode cX1_grant 38 = .ok (.iaload, 1) := by decide +kernel
theorem dX1_grant_39 : decode cX1_grant 39 = .ok (.iload_n 2, 1) := by decide +kernel
theorem dX1_grant_40 : decode cX1_grant 40 = .ok (.iadd, 1) := by decide +kernel
theorem dX1_grant_41 : decode cX1_grant 41 = .ok (.iastore, 1) := by decide +kernel
theorem dX1_grant_42 : decode cX1_grant 42 = .ok (.aload_n 0, 1) := by decide +kernel
theorem dX1_grant_43 : decode cX1_grant 43 = .ok (.getfield 35, 3) := by decide +kernel
theorem dX1_grant_46 : decode cX1_grant 46 = .ok (.getfield 108, 3) := by decide +kernel
theorem dX1_grant_49 : decode cX1_grant 49 = .ok (.iload_n 1, 1) := by decide +kernel
theorem dX1_grant_50 : decode cX1_grant 50 = .ok (.iaload, 1) := by decide +kernel
theorem dX1_grant_51 : decode cX1_grant 51 = .ok (.ireturn, 1) := by decide +kernel
set_option maxRecDepth 20000 in
theorem ggX1_budget_X1_isSheet : GoodIn wsX1_budget wsX1_isSheet := goodIn_r _ [7] (by decide +kernel) (by decide +kernel)
set_option maxRecDepth 20000 in
theorem gX1_budget_X1_isSheet : GoodIn wsX1_budget (va_wsS RX1 98 yX1_isSheet wsX1_isSheet) := goodIn_app (goodIn_of _ (by decide +kernel)) ggX1_budget_X1_isSheet
theorem dX1_budget_0 : decode cX1_budget 0 = .ok (.iload_n 1, 1) := by decide +kernel
theorem dX1_budget_1 : decode cX1_budget 1 = .ok (.invokestatic 98, 3) := by decide +kernel
theorem dX1_budget_4 : decode cX1_budget 4 = .ok (.ifCond .ne 13, 3) := by decide +kernel
theorem dX1_budget_7 : decode cX1_budget 7 = .ok (.new 63, 3) := by decide +kernel
theorem dX1_budget_10 : decode cX1_budget 10 = .ok (.dup, 1) := by decide +kernel
theorem dX1_budget_11 : decode cX1_budget 11 = .ok (.ldc 111, 2) := by decide +kernel
theorem dX1_budget_13 : decode cX1_budget 13 = .ok (.invokespecial 67, 3) := by decide +kernel
theorem dX1_budget_16 : decode cX1_budget 16 = .ok (.athrow, 1) := by decide +kernel
theorem dX1_budget_17 : decode cX1_budget 17 = .ok (.aload_n 0, 1) := by decide +kernel
theorem dX1_budget_18 : decode cX1_budget 18 = .ok (.getfield 35, 3) := by decide +kernel
theorem dX1_budget_21 : decode cX1_budget 21 = .ok (.getfield 108, 3) := by decide +kernel
theorem dX1_budget_24 : decode cX1_budget 24 = .ok (.iload_n 1, 1) := by decide +kernel
theorem dX1_budget_25 : decode cX1_budget 25 = .ok (.iaload, 1) := by decide +kernel
theorem dX1_budget_26 : decode cX1_budget 26 = .ok (.ireturn, 1) := by decide +kernel
set_option maxRecDepth 20000 in
theorem ggX1_earned_X1_isSheet : GoodIn wsX1_earned wsX1_isSheet := goodIn_r _ [7] (by decide +kernel) (by decide +kernel)
set_option maxRecDepth 20000 in
theorem gX1_earned_X1_isSheet : GoodIn wsX1_earned (va_wsS RX1 98 yX1_isSheet wsX1_isSheet) := goodIn_app (goodIn_of _ (by decide +kernel)) ggX1_earned_X1_isSheet
theorem dX1_earned_0 : decode cX1_earned 0 = .ok (.iload_n 1, 1) := by decide +kernel
theorem dX1_earned_1 : decode cX1_earned 1 = .ok (.invokestatic 98, 3) := by decide +kernel
theorem dX1_earned_4 : decode cX1_earned 4 = .ok (.ifCond .ne 13, 3) := by decide +kernel
theorem dX1_earned_7 : decode cX1_earned 7 = .ok (.new 63, 3) := by decide +kernel
theorem dX1_earned_10 : decode cX1_earned 10 = .ok (.dup, 1) := by decide +kernel
theorem dX1_earned_11 : decode cX1_earned 11 = .ok (.ldc 111, 2) := by decide +kernel
theorem dX1_earned_13 : decode cX1_earned 13 = .ok (.invokespecial 67, 3) := by decide +kernel
theorem dX1_earned_16 : decode cX1_earned 16 = .ok (.athrow, 1) := by decide +kernel
theorem dX1_earned_17 : decode cX1_earned 17 = .ok (.aload_n 0, 1) := by decide +kernel
theorem dX1_earned_18 : decode cX1_earned 18 = .ok (.getfield 35, 3) := by decide +kernel
theorem dX1_earned_21 : decode cX1_earned 21 = .ok (.getfield 113, 3) := by decide +kernel
theorem dX1_earned_24 : decode cX1_earned 24 = .ok (.iload_n 1, 1) := by decide +kernel
theorem dX1_earned_25 : decode cX1_earned 25 = .ok (.iaload, 1) := by decide +kernel
theorem dX1_earned_26 : decode cX1_earned 26 = .ok (.ireturn, 1) := by decide +kernel
set_option maxRecDepth 20000 in
theorem ggX1_caused_X1_isUser : GoodIn wsX1_caused wsX1_isUser := goodIn_r _ [7] (by decide +kernel) (by decide +kernel)
set_option maxRecDepth 20000 in
theorem gX1_caused_X1_isUser : GoodIn wsX1_caused (va_wsS RX1 51 yX1_isUser wsX1_isUser) := goodIn_app (goodIn_of _ (by decide +kernel)) ggX1_caused_X1_isUser
theorem dX1_caused_0 : decode cX1_caused 0 = .ok (.iload_n 1, 1) := by decide +kernel
theorem dX1_caused_1 : decode cX1_caused 1 = .ok (.invokestatic 51, 3) := by decide +kernel
theorem dX1_caused_4 : decode cX1_caused 4 = .ok (.ifCond .ne 13, 3) := by decide +kernel
theorem dX1_caused_7 : decode cX1_caused 7 = .ok (.new 63, 3) := by decide +kernel
theorem dX1_caused_10 : decode cX1_caused 10 = .ok (.dup, 1) := by decide +kernel
theorem dX1_caused_11 : decode cX1_caused 11 = .ok (.ldc 89, 2) := by decide +kernel
theorem dX1_caused_13 : decode cX1_caused 13 = .ok (.invokespecial 67, 3) := by decide +kernel
theorem dX1_caused_16 : decode cX1_caused 16 = .ok (.athrow, 1) := by decide +kernel
theorem dX1_caused_17 : decode cX1_caused 17 = .ok (.aload_n 0, 1) := by decide +kernel
theorem dX1_caused_18 : decode cX1_caused 18 = .ok (.getfield 35, 3) := by decide +kernel
theorem dX1_caused_21 : decode cX1_caused 21 = .ok (.getfield 116, 3) := by decide +kernel
theorem dX1_caused_24 : decode cX1_caused 24 = .ok (.iload_n 1, 1) := by decide +kernel
theorem dX1_caused_25 : decode cX1_caused 25 = .ok (.iaload, 1) := by decide +kernel
theorem dX1_caused_26 : decode cX1_caused 26 = .ok (.ireturn, 1) := by decide +kernel
set_option maxRecDepth 20000 in
theorem ggX1_value_X1_isCell : GoodIn wsX1_value wsX1_isCell := goodIn_r _ [7] (by decide +kernel) (by decide +kernel)
set_option maxRecDepth 20000 in
theorem gX1_value_X1_isCell : GoodIn wsX1_value (va_wsS RX1 55 yX1_isCell wsX1_isCell) := goodIn_app (goodIn_of _ (by decide +kernel)) ggX1_value_X1_isCell
theorem dX1_value_0 : decode cX1_value 0 = .ok (.iload_n 1, 1) := by decide +kernel
theorem dX1_value_1 : decode cX1_value 1 = .ok (.invokestatic 55, 3) := by decide +kernel
theorem dX1_value_4 : decode cX1_value 4 = .ok (.ifCond .ne 13, 3) := by decide +kernel
theorem dX1_value_7 : decode cX1_value 7 = .ok (.new 63, 3) := by decide +kernel
theorem dX1_value_10 : decode cX1_value 10 = .ok (.dup, 1) := by decide +kernel
theorem dX1_value_11 : decode cX1_value 11 = .ok (.ldc 119, 2) := by decide +kernel
theorem dX1_value_13 : decode cX1_value 13 = .ok (.invokespecial 67, 3) := by decide +kernel
theorem dX1_value_16 : decode cX1_value 16 = .ok (.athrow, 1) := by decide +kernel
theorem dX1_value_17 : decode cX1_value 17 = .ok (.aload_n 0, 1) := by decide +kernel
theorem dX1_value_18 : decode cX1_value 18 = .ok (.getfield 22, 3) := by decide +kernel
theorem dX1_value_21 : decode cX1_value 21 = .ok (.iload_n 1, 1) := by decide +kernel
theorem dX1_value_22 : decode cX1_value 22 = .ok (.iaload, 1) := by decide +kernel
theorem dX1_value_23 : decode cX1_value 23 = .ok (.ireturn, 1) := by decide +kernel
set_option maxRecDepth 20000 in
theorem ggX1_isMarked_X1_isCell : GoodIn wsX1_isMarked wsX1_isCell := goodIn_r _ [7] (by decide +kernel) (by decide +kernel)
set_option maxRecDepth 20000 in
theorem gX1_isMarked_X1_isCell : GoodIn wsX1_isMarked (va_wsS RX1 55 yX1_isCell wsX1_isCell) := goodIn_app (goodIn_of _ (by decide +kernel)) ggX1_isMarked_X1_isCell
theorem dX1_isMarked_0 : decode cX1_isMarked 0 = .ok (.iload_n 1, 1) := by decide +kernel
theorem dX1_isMarked_1 : decode cX1_isMarked 1 = .ok (.invokestatic 55, 3) := by decide +kernel
theorem dX1_isMarked_4 : decode cX1_isMarked 4 = .ok (.ifCond .ne 13, 3) := by decide +kernel
theorem dX1_isMarked_7 : decode cX1_isMarked 7 = .ok (.new 63, 3) := by decide +kernel
theorem dX1_isMarked_10 : decode cX1_isMarked 10 = .ok (.dup, 1) := by decide +kernel
theorem dX1_isMarked_11 : decode cX1_isMarked 11 = .ok (.ldc 119, 2) := by decide +kernel
theorem dX1_isMarked_13 : decode cX1_isMarked 13 = .ok (.invokespecial 67, 3) := by decide +kernel
theorem dX1_isMarked_16 : decode cX1_isMarked 16 = .ok (.athrow, 1) := by decide +kernel
theorem dX1_isMarked_17 : decode cX1_isMarked 17 = .ok (.aload_n 0, 1) := by decide +kernel
theorem dX1_isMarked_18 : decode cX1_isMarked 18 = .ok (.getfield 25, 3) := by decide +kernel
theorem dX1_isMarked_21 : decode cX1_isMarked 21 = .ok (.iload_n 1, 1) := by decide +kernel
theorem dX1_isMarked_22 : decode cX1_isMarked 22 = .ok (.baload, 1) := by decide +kernel
theorem dX1_isMarked_23 : decode cX1_isMarked 23 = .ok (.ireturn, 1) := by decide +kernel
set_option maxRecDepth 20000 in
theorem ggX1_valueAnew_X1_isCell : GoodIn wsX1_valueAnew wsX1_isCell := goodIn_r _ [8] (by decide +kernel) (by decide +kernel)
set_option maxRecDepth 20000 in
theorem gX1_valueAnew_X1_isCell : GoodIn wsX1_valueAnew (va_wsS RX1 55 yX1_isCell wsX1_isCell) := goodIn_app (goodIn_of _ (by decide +kernel)) ggX1_valueAnew_X1_isCell
set_option maxRecDepth 20000 in
theorem ggX1_valueAnew_X1_resultOf : GoodIn wsX1_valueAnew wsX1_resultOf := goodIn_r _ [12, 13, 14, 15, 16, 17, 18, 19, 20, 21, 22, 7, 23, 24, 25, 26, 27, 28, 29, 30, 31, 32, 33, 34, 35, 36, 37, 38, 39, 40, 41, 42, 43] (by decide +kernel) (by decide +kernel)
set_option maxRecDepth 20000 in
theorem gX1_valueAnew_X1_resultOf : GoodIn wsX1_valueAnew (wsV RX1 121 RX1 yX1_resultOf wsX1_resultOf) := goodIn_app (goodIn_of _ (by decide +kernel)) ggX1_valueAnew_X1_resultOf
theorem dX1_valueAnew_0 : decode cX1_valueAnew 0 = .ok (.iload_n 1, 1) := by decide +kernel
theorem dX1_valueAnew_1 : decode cX1_valueAnew 1 = .ok (.invokestatic 55, 3) := by decide +kernel
theorem dX1_valueAnew_4 : decode cX1_valueAnew 4 = .ok (.ifCond .ne 13, 3) := by decide +kernel
theorem dX1_valueAnew_7 : decode cX1_valueAnew 7 = .ok (.new 63, 3) := by decide +kernel
theorem dX1_valueAnew_10 : decode cX1_valueAnew 10 = .ok (.dup, 1) := by decide +kernel
theorem dX1_valueAnew_11 : decode cX1_valueAnew 11 = .ok (.ldc 119, 2) := by decide +kernel
theorem dX1_valueAnew_13 : decode cX1_valueAnew 13 = .ok (.invokespecial 67, 3) := by decide +kernel
theorem dX1_valueAnew_16 : decode cX1_valueAnew 16 = .ok (.athrow, 1) := by decide +kernel
theorem dX1_valueAnew_17 : decode cX1_valueAnew 17 = .ok (.iconst 0, 1) := by decide +kernel
theorem dX1_valueAnew_18 : decode cX1_valueAnew 18 = .ok (.istore_n 2, 1) := by decide +kernel
theorem dX1_valueAnew_19 : decode cX1_valueAnew 19 = .ok (.iload_n 2, 1) := by decide +kernel
theorem dX1_valueAnew_20 : decode cX1_valueAnew 20 = .ok (.bipush 24, 2) := by decide +kernel
theorem dX1_valueAnew_22 : decode cX1_valueAnew 22 = .ok (.if_icmp .ge 38, 3) := by decide +kernel
theorem dX1_valueAnew_25 : decode cX1_valueAnew 25 = .ok (.aload_n 0, 1) := by decide +kernel
theorem dX1_valueAnew_26 : decode cX1_valueAnew 26 = .ok (.getfield 29, 3) := by decide +kernel
theorem dX1_valueAnew_29 : decode cX1_valueAnew 29 = .ok (.iload_n 2, 1) := by decide +kernel
theorem dX1_valueAnew_30 : decode cX1_valueAnew 30 = .ok (.iaload, 1) := by decide +kernel
theorem dX1_valueAnew_31 : decode cX1_valueAnew 31 = .ok (.istore_n 3, 1) := by decide +kernel
theorem dX1_valueAnew_32 : decode cX1_valueAnew 32 = .ok (.iload_n 3, 1) := by decide +kernel
theorem dX1_valueAnew_33 : decode cX1_valueAnew 33 = .ok (.invokestatic 55, 3) := by decide +kernel
theorem dX1_valueAnew_36 : decode cX1_valueAnew 36 = .ok (.ifCond .eq 18, 3) := by decide +kernel
theorem dX1_valueAnew_39 : decode cX1_valueAnew 39 = .ok (.aload_n 0, 1) := by decide +kernel
theorem dX1_valueAnew_40 : decode cX1_valueAnew 40 = .ok (.getfield 48, 3) := by decide +kernel
theorem dX1_valueAnew_43 : decode cX1_valueAnew 43 = .ok (.iload_n 3, 1) := by decide +kernel
theorem dX1_valueAnew_44 : decode cX1_valueAnew 44 = .ok (.aload_n 0, 1) := by decide +kernel
theorem dX1_valueAnew_45 : decode cX1_valueAnew 45 = .ok (.iload_n 3, 1) := by decide +kernel
theorem dX1_valueAnew_46 : decode cX1_valueAnew 46 = .ok (.aload_n 0, 1) := by decide +kernel
theorem dX1_valueAnew_47 : decode cX1_valueAnew 47 = .ok (.getfield 48, 3) := by decide +kernel
theorem dX1_valueAnew_50 : decode cX1_valueAnew 50 = .ok (.invokevirtual 121, 3) := by decide +kernel
theorem dX1_valueAnew_53 : decode cX1_valueAnew 53 = .ok (.iastore, 1) := by decide +kernel
theorem dX1_valueAnew_54 : decode cX1_valueAnew 54 = .ok (.iinc 2 1, 3) := by decide +kernel
theorem dX1_valueAnew_57 : decode cX1_valueAnew 57 = .ok (.goto (-38), 3) := by decide +kernel
theorem dX1_valueAnew_60 : decode cX1_valueAnew 60 = .ok (.aload_n 0, 1) := by decide +kernel
theorem dX1_valueAnew_61 : decode cX1_valueAnew 61 = .ok (.getfield 48, 3) := by decide +kernel
theorem dX1_valueAnew_64 : decode cX1_valueAnew 64 = .ok (.iload_n 1, 1) := by decide +kernel
theorem dX1_valueAnew_65 : decode cX1_valueAnew 65 = .ok (.iaload, 1) := by decide +kernel
theorem dX1_valueAnew_66 : decode cX1_valueAnew 66 = .ok (.ireturn, 1) := by decide +kernel
theorem dX1_readings_0 : decode cX1_readings 0 = .ok (.aload_n 0, 1) := by decide +kernel
theorem dX1_readings_1 : decode cX1_readings 1 = .ok (.getfield 35, 3) := by decide +kernel
theorem dX1_readings_4 : decode cX1_readings 4 = .ok (.getfield 125, 3) := by decide +kernel
theorem dX1_readings_7 : decode cX1_readings 7 = .ok (.ireturn, 1) := by decide +kernel
theorem dX1_reading_0 : decode cX1_reading 0 = .ok (.iload_n 1, 1) := by decide +kernel
theorem dX1_reading_1 : decode cX1_reading 1 = .ok (.ifCond .lt 21, 3) := by decide +kernel
theorem dX1_reading_4 : decode cX1_reading 4 = .ok (.iload_n 1, 1) := by decide +kernel
theorem dX1_reading_5 : decode cX1_reading 5 = .ok (.aload_n 0, 1) := by decide +kernel
theorem dX1_reading_6 : decode cX1_reading 6 = .ok (.getfield 35, 3) := by decide +kernel
theorem dX1_reading_9 : decode cX1_reading 9 = .ok (.getfield 125, 3) := by decide +kernel
theorem dX1_reading_12 : decode cX1_reading 12 = .ok (.if_icmp .ge 10, 3) := by decide +kernel
theorem dX1_reading_15 : decode cX1_reading 15 = .ok (.iload_n 1, 1) := by decide +kernel
theorem dX1_reading_16 : decode cX1_reading 16 = .ok (.sipush 500, 3) := by decide +kernel
theorem dX1_reading_19 : decode cX1_reading 19 = .ok (.if_icmp .lt 13, 3) := by decide +kernel
theorem dX1_reading_22 : decode cX1_reading 22 = .ok (.new 129, 3) := by decide +kernel
theorem dX1_reading_25 : decode cX1_reading 25 = .ok (.dup, 1) := by decide +kernel
theorem dX1_reading_26 : decode cX1_reading 26 = .ok (.ldc 131, 2) := by decide +kernel
theorem dX1_reading_28 : decode cX1_reading 28 = .ok (.invokespecial 133, 3) := by decide +kernel
theorem dX1_reading_31 : decode cX1_reading 31 = .ok (.athrow, 1) := by decide +kernel
theorem dX1_reading_32 : decode cX1_reading 32 = .ok (.aload_n 0, 1) := by decide +kernel
theorem dX1_reading_33 : decode cX1_reading 33 = .ok (.getfield 35, 3) := by decide +kernel
theorem dX1_reading_36 : decode cX1_reading 36 = .ok (.getfield 134, 3) := by decide +kernel
theorem dX1_reading_39 : decode cX1_reading 39 = .ok (.iload_n 1, 1) := by decide +kernel
theorem dX1_reading_40 : decode cX1_reading 40 = .ok (.iaload, 1) := by decide +kernel
theorem dX1_reading_41 : decode cX1_reading 41 = .ok (.ireturn, 1) := by decide +kernel
set_option maxRecDepth 20000 in
theorem ggX1_timesRead_X1_isCell : GoodIn wsX1_timesRead wsX1_isCell := goodIn_r _ [7] (by decide +kernel) (by decide +kernel)
set_option maxRecDepth 20000 in
theorem gX1_timesRead_X1_isCell : GoodIn wsX1_timesRead (va_wsS RX1 55 yX1_isCell wsX1_isCell) := goodIn_app (goodIn_of _ (by decide +kernel)) ggX1_timesRead_X1_isCell
theorem dX1_timesRead_0 : decode cX1_timesRead 0 = .ok (.iload_n 1, 1) := by decide +kernel
theorem dX1_timesRead_1 : decode cX1_timesRead 1 = .ok (.invokestatic 55, 3) := by decide +kernel
theorem dX1_timesRead_4 : decode cX1_timesRead 4 = .ok (.ifCond .eq 10, 3) := by decide +kernel
theorem dX1_timesRead_7 : decode cX1_timesRead 7 = .ok (.iload_n 2, 1) := by decide +kernel
theorem dX1_timesRead_8 : decode cX1_timesRead 8 = .ok (.invokestatic 55, 3) := by decide +kernel
theorem dX1_timesRead_11 : decode cX1_timesRead 11 = .ok (.ifCond .ne 13, 3) := by decide +kernel
theorem dX1_timesRead_14 : decode cX1_timesRead 14 = .ok (.new 63, 3) := by decide +kernel
theorem dX1_timesRead_17 : decode cX1_timesRead 17 = .ok (.dup, 1) := by decide +kernel
theorem dX1_timesRead_18 : decode cX1_timesRead 18 = .ok (.ldc 137, 2) := by decide +kernel
theorem dX1_timesRead_20 : decode cX1_timesRead 20 = .ok (.invokespecial 67, 3) := by decide +kernel
theorem dX1_timesRead_23 : decode cX1_timesRead 23 = .ok (.athrow, 1) := by decide +kernel
theorem dX1_timesRead_24 : decode cX1_timesRead 24 = .ok (.aload_n 0, 1) := by decide +kernel
theorem dX1_timesRead_25 : decode cX1_timesRead 25 = .ok (.getfield 35, 3) := by decide +kernel
theorem dX1_timesRead_28 : decode cX1_timesRead 28 = .ok (.getfield 139, 3) := by decide +kernel
theorem dX1_timesRead_31 : decode cX1_timesRead 31 = .ok (.iload_n 1, 1) := by decide +kernel
theorem dX1_timesRead_32 : decode cX1_timesRead 32 = .ok (.bipush 24, 2) := by decide +kernel
theorem dX1_timesRead_34 : decode cX1_timesRead 34 = .ok (.imul, 1) := by decide +kernel
theorem dX1_timesRead_35 : decode cX1_timesRead 35 = .ok (.iload_n 2, 1) := by decide +kernel
theorem dX1_timesRead_36 : decode cX1_timesRead 36 = .ok (.iadd, 1) := by decide +kernel
theorem dX1_timesRead_37 : decode cX1_timesRead 37 = .ok (.iaload, 1) := by decide +kernel
theorem dX1_timesRead_38 : decode cX1_timesRead 38 = .ok (.ireturn, 1) := by decide +kernel
set_option maxRecDepth 20000 in
theorem ggX1_readOf_X1_isSheet : GoodIn wsX1_readOf wsX1_isSheet := goodIn_r _ [7] (by decide +kernel) (by decide +kernel)
set_option maxRecDepth 20000 in
theorem gX1_readOf_X1_isSheet : GoodIn wsX1_readOf (va_wsS RX1 98 yX1_isSheet wsX1_isSheet) := goodIn_app (goodIn_of _ (by decide +kernel)) ggX1_readOf_X1_isSheet
theorem dX1_readOf_0 : decode cX1_readOf 0 = .ok (.iload_n 1, 1) := by decide +kernel
theorem dX1_readOf_1 : decode cX1_readOf 1 = .ok (.invokestatic 98, 3) := by decide +kernel
theorem dX1_readOf_4 : decode cX1_readOf 4 = .ok (.ifCond .ne 13, 3) := by decide +kernel
theorem dX1_readOf_7 : decode cX1_readOf 7 = .ok (.new 63, 3) := by decide +kernel
theorem dX1_readOf_10 : decode cX1_readOf 10 = .ok (.dup, 1) := by decide +kernel
theorem dX1_readOf_11 : decode cX1_readOf 11 = .ok (.ldc 111, 2) := by decide +kernel
theorem dX1_readOf_13 : decode cX1_readOf 13 = .ok (.invokespecial 67, 3) := by decide +kernel
theorem dX1_readOf_16 : decode cX1_readOf 16 = .ok (.athrow, 1) := by decide +kernel
theorem dX1_readOf_17 : decode cX1_readOf 17 = .ok (.aload_n 0, 1) := by decide +kernel
theorem dX1_readOf_18 : decode cX1_readOf 18 = .ok (.getfield 35, 3) := by decide +kernel
theorem dX1_readOf_21 : decode cX1_readOf 21 = .ok (.getfield 142, 3) := by decide +kernel
theorem dX1_readOf_24 : decode cX1_readOf 24 = .ok (.iload_n 1, 1) := by decide +kernel
theorem dX1_readOf_25 : decode cX1_readOf 25 = .ok (.iaload, 1) := by decide +kernel
theorem dX1_readOf_26 : decode cX1_readOf 26 = .ok (.ireturn, 1) := by decide +kernel
theorem dX1_isUser_0 : decode cX1_isUser 0 = .ok (.iload_n 0, 1) := by decide +kernel
theorem dX1_isUser_1 : decode cX1_isUser 1 = .ok (.ifCond .lt 12, 3) := by decide +kernel
theorem dX1_isUser_4 : decode cX1_isUser 4 = .ok (.iload_n 0, 1) := by decide +kernel
theorem dX1_isUser_5 : decode cX1_isUser 5 = .ok (.iconst 5, 1) := by decide +kernel
theorem dX1_isUser_6 : decode cX1_isUser 6 = .ok (.if_icmp .ge 7, 3) := by decide +kernel
theorem dX1_isUser_9 : decode cX1_isUser 9 = .ok (.iconst 1, 1) := by decide +kernel
theorem dX1_isUser_10 : decode cX1_isUser 10 = .ok (.goto 4, 3) := by decide +kernel
theorem dX1_isUser_13 : decode cX1_isUser 13 = .ok (.iconst 0, 1) := by decide +kernel
theorem dX1_isUser_14 : decode cX1_isUser 14 = .ok (.ireturn, 1) := by decide +kernel
theorem dX1_isSheet_0 : decode cX1_isSheet 0 = .ok (.iload_n 0, 1) := by decide +kernel
theorem dX1_isSheet_1 : decode cX1_isSheet 1 = .ok (.ifCond .lt 12, 3) := by decide +kernel
theorem dX1_isSheet_4 : decode cX1_isSheet 4 = .ok (.iload_n 0, 1) := by decide +kernel
theorem dX1_isSheet_5 : decode cX1_isSheet 5 = .ok (.iconst 4, 1) := by decide +kernel
theorem dX1_isSheet_6 : decode cX1_isSheet 6 = .ok (.if_icmp .ge 7, 3) := by decide +kernel
theorem dX1_isSheet_9 : decode cX1_isSheet 9 = .ok (.iconst 1, 1) := by decide +kernel
theorem dX1_isSheet_10 : decode cX1_isSheet 10 = .ok (.goto 4, 3) := by decide +kernel
theorem dX1_isSheet_13 : decode cX1_isSheet 13 = .ok (.iconst 0, 1) := by decide +kernel
theorem dX1_isSheet_14 : decode cX1_isSheet 14 = .ok (.ireturn, 1) := by decide +kernel
theorem dX1_isCell_0 : decode cX1_isCell 0 = .ok (.iload_n 0, 1) := by decide +kernel
theorem dX1_isCell_1 : decode cX1_isCell 1 = .ok (.ifCond .lt 13, 3) := by decide +kernel
theorem dX1_isCell_4 : decode cX1_isCell 4 = .ok (.iload_n 0, 1) := by decide +kernel
theorem dX1_isCell_5 : decode cX1_isCell 5 = .ok (.bipush 24, 2) := by decide +kernel
theorem dX1_isCell_7 : decode cX1_isCell 7 = .ok (.if_icmp .ge 7, 3) := by decide +kernel
theorem dX1_isCell_10 : decode cX1_isCell 10 = .ok (.iconst 1, 1) := by decide +kernel
theorem dX1_isCell_11 : decode cX1_isCell 11 = .ok (.goto 4, 3) := by decide +kernel
theorem dX1_isCell_14 : decode cX1_isCell 14 = .ok (.iconst 0, 1) := by decide +kernel
theorem dX1_isCell_15 : decode cX1_isCell 15 = .ok (.ireturn, 1) := by decide +kernel
theorem dX1_isWithin_0 : decode cX1_isWithin 0 = .ok (.iload_n 0, 1) := by decide +kernel
theorem dX1_isWithin_1 : decode cX1_isWithin 1 = .ok (.iload_n 1, 1) := by decide +kernel
theorem dX1_isWithin_2 : decode cX1_isWithin 2 = .ok (.ineg, 1) := by decide +kernel
theorem dX1_isWithin_3 : decode cX1_isWithin 3 = .ok (.if_icmp .lt 12, 3) := by decide +kernel
theorem dX1_isWithin_6 : decode cX1_isWithin 6 = .ok (.iload_n 0, 1) := by decide +kernel
theorem dX1_isWithin_7 : decode cX1_isWithin 7 = .ok (.iload_n 1, 1) := by decide +kernel
theorem dX1_isWithin_8 : decode cX1_isWithin 8 = .ok (.if_icmp .gt 7, 3) := by decide +kernel
theorem dX1_isWithin_11 : decode cX1_isWithin 11 = .ok (.iconst 1, 1) := by decide +kernel
theorem dX1_isWithin_12 : decode cX1_isWithin 12 = .ok (.goto 4, 3) := by decide +kernel
theorem dX1_isWithin_15 : decode cX1_isWithin 15 = .ok (.iconst 0, 1) := by decide +kernel
theorem dX1_isWithin_16 : decode cX1_isWithin 16 = .ok (.ireturn, 1) := by decide +kernel
theorem dX1_sheetOf_0 : decode cX1_sheetOf 0 = .ok (.iload_n 0, 1) := by decide +kernel
theorem dX1_sheetOf_1 : decode cX1_sheetOf 1 = .ok (.bipush 6, 2) := by decide +kernel
theorem dX1_sheetOf_3 : decode cX1_sheetOf 3 = .ok (.idiv, 1) := by decide +kernel
theorem dX1_sheetOf_4 : decode cX1_sheetOf 4 = .ok (.ireturn, 1) := by decide +kernel
set_option maxRecDepth 20000 in
theorem ggX1_wouldReadItself_X1_isCell : GoodIn wsX1_wouldReadItself wsX1_isCell := goodIn_r _ [6] (by decide +kernel) (by decide +kernel)
set_option maxRecDepth 20000 in
theorem gX1_wouldReadItself_X1_isCell : GoodIn wsX1_wouldReadItself (va_wsS RX1 55 yX1_isCell wsX1_isCell) := goodIn_app (goodIn_of _ (by decide +kernel)) ggX1_wouldReadItself_X1_isCell
set_option maxRecDepth 20000 in
theorem ggX1_wouldReadItself_X1_readsOneOf : GoodIn wsX1_wouldReadItself wsX1_readsOneOf := goodIn_r _ [10, 11, 12, 13, 14, 5, 15, 16, 17, 18, 19, 20, 21, 22, 23, 24, 25, 26, 27] (by decide +kernel) (by decide +kernel)
set_option maxRecDepth 20000 in
theorem gX1_wouldReadItself_X1_readsOneOf : GoodIn wsX1_wouldReadItself (wsV RX1 145 RX1 yX1_readsOneOf wsX1_readsOneOf) := goodIn_app (goodIn_of _ (by decide +kernel)) ggX1_wouldReadItself_X1_readsOneOf
set_option maxRecDepth 20000 in
theorem ggX1_wouldReadItself_X1_isIn : GoodIn wsX1_wouldReadItself wsX1_isIn := goodIn_r _ [15] (by decide +kernel) (by decide +kernel)
set_option maxRecDepth 20000 in
theorem gX1_wouldReadItself_X1_isIn : GoodIn wsX1_wouldReadItself (va_wsS RX1 149 yX1_isIn wsX1_isIn) := goodIn_app (goodIn_of _ (by decide +kernel)) ggX1_wouldReadItself_X1_isIn
theorem dX1_wouldReadItself_0 : decode cX1_wouldReadItself 0 = .ok (.iconst 0, 1) := by decide +kernel
theorem dX1_wouldReadItself_1 : decode cX1_wouldReadItself 1 = .ok (.istore 4, 2) := by decide +kernel
theorem dX1_wouldReadItself_3 : decode cX1_wouldReadItself 3 = .ok (.iload 4, 2) := by decide +kernel
theorem dX1_wouldReadItself_5 : decode cX1_wouldReadItself 5 = .ok (.bipush 24, 2) := by decide +kernel
theorem dX1_wouldReadItself_7 : decode cX1_wouldReadItself 7 = .ok (.if_icmp .ge 27, 3) := by decide +kernel
theorem dX1_wouldReadItself_10 : decode cX1_wouldReadItself 10 = .ok (.aload_n 0, 1) := by decide +kernel
theorem dX1_wouldReadItself_11 : decode cX1_wouldReadItself 11 = .ok (.getfield 45, 3) := by decide +kernel
theorem dX1_wouldReadItself_14 : decode cX1_wouldReadItself 14 = .ok (.iload 4, 2) := by decide +kernel
theorem dX1_wouldReadItself_16 : decode cX1_wouldReadItself 16 = .ok (.iload 4, 2) := by decide +kernel
theorem dX1_wouldReadItself_18 : decode cX1_wouldReadItself 18 = .ok (.iload_n 1, 1) := by decide +kernel
theorem dX1_wouldReadItself_19 : decode cX1_wouldReadItself 19 = .ok (.if_icmp .ne 7, 3) := by decide +kernel
theorem dX1_wouldReadItself_22 : decode cX1_wouldReadItself 22 = .ok (.iconst 1, 1) := by decide +kernel
theorem dX1_wouldReadItself_23 : decode cX1_wouldReadItself 23 = .ok (.goto 4, 3) := by decide +kernel
theorem dX1_wouldReadItself_26 : decode cX1_wouldReadItself 26 = .ok (.iconst 0, 1) := by decide +kernel
theorem dX1_wouldReadItself_27 : decode cX1_wouldReadItself 27 = .ok (.bastore, 1) := by decide +kernel
theorem dX1_wouldReadItself_28 : decode cX1_wouldReadItself 28 = .ok (.iinc 4 1, 3) := by decide +kernel
theorem dX1_wouldReadItself_31 : decode cX1_wouldReadItself 31 = .ok (.goto (-28), 3) := by decide +kernel
theorem dX1_wouldReadItself_34 : decode cX1_wouldReadItself 34 = .ok (.iconst 0, 1) := by decide +kernel
theorem dX1_wouldReadItself_35 : decode cX1_wouldReadItself 35 = .ok (.istore 4, 2) := by decide +kernel
theorem dX1_wouldReadItself_37 : decode cX1_wouldReadItself 37 = .ok (.iload 4, 2) := by decide +kernel
theorem dX1_wouldReadItself_39 : decode cX1_wouldReadItself 39 = .ok (.bipush 24, 2) := by decide +kernel
theorem dX1_wouldReadItself_41 : decode cX1_wouldReadItself 41 = .ok (.if_icmp .ge 47, 3) := by decide +kernel
theorem dX1_wouldReadItself_44 : decode cX1_wouldReadItself 44 = .ok (.aload_n 0, 1) := by decide +kernel
theorem dX1_wouldReadItself_45 : decode cX1_wouldReadItself 45 = .ok (.getfield 29, 3) := by decide +kernel
theorem dX1_wouldReadItself_48 : decode cX1_wouldReadItself 48 = .ok (.iload 4, 2) := by decide +kernel
theorem dX1_wouldReadItself_50 : decode cX1_wouldReadItself 50 = .ok (.iaload, 1) := by decide +kernel
theorem dX1_wouldReadItself_51 : decode cX1_wouldReadItself 51 = .ok (.istore 5, 2) := by decide +kernel
theorem dX1_wouldReadItself_53 : decode cX1_wouldReadItself 53 = .ok (.iload 5, 2) := by decide +kernel
theorem dX1_wouldReadItself_55 : decode cX1_wouldReadItself 55 = .ok (.invokestatic 55, 3) := by decide +kernel
theorem dX1_wouldReadItself_58 : decode cX1_wouldReadItself 58 = .ok (.ifCond .eq 24, 3) := by decide +kernel
theorem dX1_wouldReadItself_61 : decode cX1_wouldReadItself 61 = .ok (.aload_n 0, 1) := by decide +kernel
theorem dX1_wouldReadItself_62 : decode cX1_wouldReadItself 62 = .ok (.iload 5, 2) := by decide +kernel
theorem dX1_wouldReadItself_64 : decode cX1_wouldReadItself 64 = .ok (.aload_n 0, 1) := by decide +kernel
theorem dX1_wouldReadItself_65 : decode cX1_wouldReadItself 65 = .ok (.getfield 45, 3) := by decide +kernel
theorem dX1_wouldReadItself_68 : decode cX1_wouldReadItself 68 = .ok (.invokevirtual 145, 3) := by decide +kernel
theorem dX1_wouldReadItself_71 : decode cX1_wouldReadItself 71 = .ok (.ifCond .eq 11, 3) := by decide +kernel
theorem dX1_wouldReadItself_74 : decode cX1_wouldReadItself 74 = .ok (.aload_n 0, 1) := by decide +kernel
theorem dX1_wouldReadItself_75 : decode cX1_wouldReadItself 75 = .ok (.getfield 45, 3) := by decide +kernel
theorem dX1_wouldReadItself_78 : decode cX1_wouldReadItself 78 = .ok (.iload 5, 2) := by decide +kernel
theorem dX1_wouldReadItself_80 : decode cX1_wouldReadItself 80 = .ok (.iconst 1, 1) := by decide +kernel
theorem dX1_wouldReadItself_81 : decode cX1_wouldReadItself 81 = .ok (.bastore, 1) := by decide +kernel
theorem dX1_wouldReadItself_82 : decode cX1_wouldReadItself 82 = .ok (.iinc 4 1, 3) := by decide +kernel
theorem dX1_wouldReadItself_85 : decode cX1_wouldReadItself 85 = .ok (.goto (-48), 3) := by decide +kernel
theorem dX1_wouldReadItself_88 : decode cX1_wouldReadItself 88 = .ok (.iload_n 2, 1) := by decide +kernel
theorem dX1_wouldReadItself_89 : decode cX1_wouldReadItself 89 = .ok (.aload_n 0, 1) := by decide +kernel
theorem dX1_wouldReadItself_90 : decode cX1_wouldReadItself 90 = .ok (.getfield 45, 3) := by decide +kernel
theorem dX1_wouldReadItself_93 : decode cX1_wouldReadItself 93 = .ok (.invokestatic 149, 3) := by decide +kernel
theorem dX1_wouldReadItself_96 : decode cX1_wouldReadItself 96 = .ok (.ifCond .ne 14, 3) := by decide +kernel
theorem dX1_wouldReadItself_99 : decode cX1_wouldReadItself 99 = .ok (.iload_n 3, 1) := by decide +kernel
theorem dX1_wouldReadItself_100 : decode cX1_wouldReadItself 100 = .ok (.aload_n 0, 1) := by decide +kernel
theorem dX1_wouldReadItself_101 : decode cX1_wouldReadItself 101 = .ok (.getfield 45, 3) := by decide +kernel
theorem dX1_wouldReadItself_104 : decode cX1_wouldReadItself 104 = .ok (.invokestatic 149, 3) := by decide +kernel
theorem dX1_wouldReadItself_107 : decode cX1_wouldReadItself 107 = .ok (.ifCond .eq 7, 3) := by decide +kernel
theorem dX1_wouldReadItself_110 : decode cX1_wouldReadItself 110 = .ok (.iconst 1, 1) := by decide +kernel
theorem dX1_wouldReadItself_111 : decode cX1_wouldReadItself 111 = .ok (.goto 4, 3) := by decide +kernel
theorem dX1_wouldReadItself_114 : decode cX1_wouldReadItself 114 = .ok (.iconst 0, 1) := by decide +kernel
theorem dX1_wouldReadItself_115 : decode cX1_wouldReadItself 115 = .ok (.ireturn, 1) := by decide +kernel
set_option maxRecDepth 20000 in
theorem ggX1_readsOneOf_X1_isIn : GoodIn wsX1_readsOneOf wsX1_isIn := goodIn_r _ [6] (by decide +kernel) (by decide +kernel)
set_option maxRecDepth 20000 in
theorem gX1_readsOneOf_X1_isIn : GoodIn wsX1_readsOneOf (va_wsS RX1 149 yX1_isIn wsX1_isIn) := goodIn_app (goodIn_of _ (by decide +kernel)) ggX1_readsOneOf_X1_isIn
theorem dX1_readsOneOf_0 : decode cX1_readsOneOf 0 = .ok (.aload_n 0, 1) := by decide +kernel
theorem dX1_readsOneOf_1 : decode cX1_readsOneOf 1 = .ok (.getfield 13, 3) := by decide +kernel
theorem dX1_readsOneOf_4 : decode cX1_readsOneOf 4 = .ok (.iload_n 1, 1) := by decide +kernel
theorem dX1_readsOneOf_5 : decode cX1_readsOneOf 5 = .ok (.iaload, 1) := by decide +kernel
theorem dX1_readsOneOf_6 : decode cX1_readsOneOf 6 = .ok (.aload_n 2, 1) := by decide +kernel
theorem dX1_readsOneOf_7 : decode cX1_readsOneOf 7 = .ok (.invokestatic 149, 3) := by decide +kernel
theorem dX1_readsOneOf_10 : decode cX1_readsOneOf 10 = .ok (.ifCond .ne 16, 3) := by decide +kernel
theorem dX1_readsOneOf_13 : decode cX1_readsOneOf 13 = .ok (.aload_n 0, 1) := by decide +kernel
theorem dX1_readsOneOf_14 : decode cX1_readsOneOf 14 = .ok (.getfield 16, 3) := by decide +kernel
theorem dX1_readsOneOf_17 : decode cX1_readsOneOf 17 = .ok (.iload_n 1, 1) := by decide +kernel
theorem dX1_readsOneOf_18 : decode cX1_readsOneOf 18 = .ok (.iaload, 1) := by decide +kernel
theorem dX1_readsOneOf_19 : decode cX1_readsOneOf 19 = .ok (.aload_n 2, 1) := by decide +kernel
theorem dX1_readsOneOf_20 : decode cX1_readsOneOf 20 = .ok (.invokestatic 149, 3) := by decide +kernel
theorem dX1_readsOneOf_23 : decode cX1_readsOneOf 23 = .ok (.ifCond .eq 7, 3) := by decide +kernel
theorem dX1_readsOneOf_26 : decode cX1_readsOneOf 26 = .ok (.iconst 1, 1) := by decide +kernel
theorem dX1_readsOneOf_27 : decode cX1_readsOneOf 27 = .ok (.goto 4, 3) := by decide +kernel
theorem dX1_readsOneOf_30 : decode cX1_readsOneOf 30 = .ok (.iconst 0, 1) := by decide +kernel
theorem dX1_readsOneOf_31 : decode cX1_readsOneOf 31 = .ok (.ireturn, 1) := by decide +kernel
theorem dX1_isIn_0 : decode cX1_isIn 0 = .ok (.iload_n 0, 1) := by decide +kernel
theorem dX1_isIn_1 : decode cX1_isIn 1 = .ok (.ifCond .lt 19, 3) := by decide +kernel
theorem dX1_isIn_4 : decode cX1_isIn 4 = .ok (.iload_n 0, 1) := by decide +kernel
theorem dX1_isIn_5 : decode cX1_isIn 5 = .ok (.aload_n 1, 1) := by decide +kernel
theorem dX1_isIn_6 : decode cX1_isIn 6 = .ok (.arraylength, 1) := by decide +kernel
theorem dX1_isIn_7 : decode cX1_isIn 7 = .ok (.if_icmp .ge 13, 3) := by decide +kernel
theorem dX1_isIn_10 : decode cX1_isIn 10 = .ok (.aload_n 1, 1) := by decide +kernel
theorem dX1_isIn_11 : decode cX1_isIn 11 = .ok (.iload_n 0, 1) := by decide +kernel
theorem dX1_isIn_12 : decode cX1_isIn 12 = .ok (.baload, 1) := by decide +kernel
theorem dX1_isIn_13 : decode cX1_isIn 13 = .ok (.ifCond .eq 7, 3) := by decide +kernel
theorem dX1_isIn_16 : decode cX1_isIn 16 = .ok (.iconst 1, 1) := by decide +kernel
theorem dX1_isIn_17 : decode cX1_isIn 17 = .ok (.goto 4, 3) := by decide +kernel
theorem dX1_isIn_20 : decode cX1_isIn 20 = .ok (.iconst 0, 1) := by decide +kernel
theorem dX1_isIn_21 : decode cX1_isIn 21 = .ok (.ireturn, 1) := by decide +kernel
set_option maxRecDepth 20000 in
theorem ggX1_giveFormula_X1_putInOrder : GoodIn wsX1_giveFormula wsX1_putInOrder := goodIn_r _ [9, 10, 11, 12, 13, 14, 8, 15, 2, 3, 16, 17, 18, 19, 20, 21, 22, 23, 24, 25, 91, 92, 93, 94, 95, 96, 97, 98, 99, 100, 101, 102] (by decide +kernel) (by decide +kernel)
set_option maxRecDepth 20000 in
theorem gX1_giveFormula_X1_putInOrder : GoodIn wsX1_giveFormula (wsV RX1 152 RX1 yX1_putInOrder wsX1_putInOrder) := goodIn_app (goodIn_of _ (by decide +kernel)) ggX1_giveFormula_X1_putInOrder
set_option maxRecDepth 20000 in
theorem ggX1_giveFormula_X1_forgetChanges : GoodIn wsX1_giveFormula wsX1_forgetChanges := goodIn_r _ [29, 30, 91, 92, 93, 94, 95, 96, 97, 98, 99, 100, 101, 102] (by decide +kernel) (by decide +kernel)
set_option maxRecDepth 20000 in
theorem gX1_giveFormula_X1_forgetChanges : GoodIn wsX1_giveFormula (wsV RX1 91 RX1 yX1_forgetChanges wsX1_forgetChanges) := goodIn_app (goodIn_of _ (by decide +kernel)) ggX1_giveFormula_X1_forgetChanges
set_option maxRecDepth 20000 in
theorem ggX1_giveFormula_X1_compute : GoodIn wsX1_giveFormula wsX1_compute := goodIn_r _ [34, 2, 3, 35, 36, 37, 30, 38, 39, 8, 40, 23, 24, 25, 41, 42, 43, 44, 45, 46, 47, 48, 49, 50, 51, 52, 53, 54, 55, 56, 57, 58, 59, 60, 61, 62, 63, 64, 65, 66, 67, 1, 4, 68, 69, 70, 71, 72, 73, 74, 75, 76, 77, 78, 79, 80, 81, 82, 91, 92, 93, 94, 95, 96, 97, 98, 99, 100, 101, 102, 103, 104, 105, 106, 107, 108, 109, 110] (by decide +kernel) (by decide +kernel)
set_option maxRecDepth 20000 in
theorem gX1_giveFormula_X1_compute : GoodIn wsX1_giveFormula (wsV RX1 155 RX1 yX1_compute wsX1_compute) := goodIn_app (goodIn_of _ (by decide +kernel)) ggX1_giveFormula_X1_compute
set_option maxRecDepth 20000 in
theorem ggX1_giveFormula_X1_goThrough : GoodIn wsX1_giveFormula wsX1_goThrough := goodIn_r _ [86, 11, 30, 35, 23, 24, 8, 25, 87, 88, 89, 90, 2, 3, 20, 21, 22, 31, 32, 33, 34, 36, 37, 38, 39, 40, 41, 42, 43, 44, 45, 46, 47, 48, 49, 50, 51, 52, 53, 54, 55, 56, 57, 58, 59, 60, 61, 62, 63, 64, 65, 66, 67, 1, 4, 68, 69, 70, 71, 72, 73, 74, 75, 76, 77, 78, 79, 80, 81, 82, 91, 92, 93, 94, 95, 96, 97, 98, 99, 100, 101, 102, 103, 104, 105, 106, 107, 108, 109, 110] (by decide +kernel) (by decide +kernel)
set_option maxRecDepth 20000 in
theorem gX1_giveFormula_X1_goThrough : GoodIn wsX1_giveFormula (wsV RX1 94 RX1 yX1_goThrough wsX1_goThrough) := goodIn_app (goodIn_of _ (by decide +kernel)) ggX1_giveFormula_X1_goThrough
theorem dX1_giveFormula_0 : decode cX1_giveFormula 0 = .ok (.aload_n 0, 1) := by decide +kernel
theorem dX1_giveFormula_1 : decode cX1_giveFormula 1 = .ok (.getfield 9, 3) := by decide +kernel
theorem dX1_giveFormula_4 : decode cX1_giveFormula 4 = .ok (.iload_n 2, 1) := by decide +kernel
theorem dX1_giveFormula_5 : decode cX1_giveFormula 5 = .ok (.iload_n 3, 1) := by decide +kernel
theorem dX1_giveFormula_6 : decode cX1_giveFormula 6 = .ok (.iastore, 1) := by decide +kernel
theorem dX1_giveFormula_7 : decode cX1_giveFormula 7 = .ok (.aload_n 0, 1) := by decide +kernel
theorem dX1_giveFormula_8 : decode cX1_giveFormula 8 = .ok (.getfield 13, 3) := by decide +kernel
theorem dX1_giveFormula_11 : decode cX1_giveFormula 11 = .ok (.iload_n 2, 1) := by decide +kernel
theorem dX1_giveFormula_12 : decode cX1_giveFormula 12 = .ok (.iload 4, 2) := by decide +kernel
theorem dX1_giveFormula_14 : decode cX1_giveFormula 14 = .ok (.iastore, 1) := by decide +kernel
theorem dX1_giveFormula_15 : decode cX1_giveFormula 15 = .ok (.aload_n 0, 1) := by decide +kernel
theorem dX1_giveFormula_16 : decode cX1_giveFormula 16 = .ok (.getfield 16, 3) := by decide +kernel
theorem dX1_giveFormula_19 : decode cX1_giveFormula 19 = .ok (.iload_n 2, 1) := by decide +kernel
theorem dX1_giveFormula_20 : decode cX1_giveFormula 20 = .ok (.iload 5, 2) := by decide +kernel
theorem dX1_giveFormula_22 : decode cX1_giveFormula 22 = .ok (.iastore, 1) := by decide +kernel
theorem dX1_giveFormula_23 : decode cX1_giveFormula 23 = .ok (.aload_n 0, 1) := by decide +kernel
theorem dX1_giveFormula_24 : decode cX1_giveFormula 24 = .ok (.getfield 19, 3) := by decide +kernel
theorem dX1_giveFormula_27 : decode cX1_giveFormula 27 = .ok (.iload_n 2, 1) := by decide +kernel
theorem dX1_giveFormula_28 : decode cX1_giveFormula 28 = .ok (.iload 6, 2) := by decide +kernel
theorem dX1_giveFormula_30 : decode cX1_giveFormula 30 = .ok (.iastore, 1) := by decide +kernel
theorem dX1_giveFormula_31 : decode cX1_giveFormula 31 = .ok (.aload_n 0, 1) := by decide +kernel
theorem dX1_giveFormula_32 : decode cX1_giveFormula 32 = .ok (.invokevirtual 152, 3) := by decide +kernel
theorem dX1_giveFormula_35 : decode cX1_giveFormula 35 = .ok (.aload_n 0, 1) := by decide +kernel
theorem dX1_giveFormula_36 : decode cX1_giveFormula 36 = .ok (.invokevirtual 91, 3) := by decide +kernel
theorem dX1_giveFormula_39 : decode cX1_giveFormula 39 = .ok (.aload_n 0, 1) := by decide +kernel
theorem dX1_giveFormula_40 : decode cX1_giveFormula 40 = .ok (.iload_n 1, 1) := by decide +kernel
theorem dX1_giveFormula_41 : decode cX1_giveFormula 41 = .ok (.iload_n 2, 1) := by decide +kernel
theorem dX1_giveFormula_42 : decode cX1_giveFormula 42 = .ok (.invokevirtual 155, 3) := by decide +kernel
theorem dX1_giveFormula_45 : decode cX1_giveFormula 45 = .ok (.iconst 1, 1) := by decide +kernel
theorem dX1_giveFormula_46 : decode cX1_giveFormula 46 = .ok (.aload_n 0, 1) := by decide +kernel
theorem dX1_giveFormula_47 : decode cX1_giveFormula 47 = .ok (.iload_n 1, 1) := by decide +kernel
theorem dX1_giveFormula_48 : decode cX1_giveFormula 48 = .ok (.iconst 0, 1) := by decide +kernel
theorem dX1_giveFormula_49 : decode cX1_giveFormula 49 = .ok (.invokevirtual 94, 3) := by decide +kernel
theorem dX1_giveFormula_52 : decode cX1_giveFormula 52 = .ok (.iadd, 1) := by decide +kernel
theorem dX1_giveFormula_53 : decode cX1_giveFormula 53 = .ok (.ireturn, 1) := by decide +kernel
set_option maxRecDepth 20000 in
theorem ggX1_putInOrder_X1_lowestFreeCell : GoodIn wsX1_putInOrder wsX1_lowestFreeCell := goodIn_r _ [7, 1, 8, 9, 10, 11, 12, 6, 13, 14, 15, 16, 20, 21, 22, 23, 24, 25, 26, 27, 28, 29, 30, 31] (by decide +kernel) (by decide +kernel)
set_option maxRecDepth 20000 in
theorem gX1_putInOrder_X1_lowestFreeCell : GoodIn wsX1_putInOrder (wsV RX1 159 RX1 yX1_lowestFreeCell wsX1_lowestFreeCell) := goodIn_app (goodIn_of _ (by decide +kernel)) ggX1_putInOrder_X1_lowestFreeCell
set_option maxRecDepth 20000 in
theorem ggX1_putInOrder_X1_isCell : GoodIn wsX1_putInOrder wsX1_isCell := goodIn_r _ [19] (by decide +kernel) (by decide +kernel)
set_option maxRecDepth 20000 in
theorem gX1_putInOrder_X1_isCell : GoodIn wsX1_putInOrder (va_wsS RX1 55 yX1_isCell wsX1_isCell) := goodIn_app (goodIn_of _ (by decide +kernel)) ggX1_putInOrder_X1_isCell
theorem dX1_putInOrder_0 : decode cX1_putInOrder 0 = .ok (.iconst 0, 1) := by decide +kernel
theorem dX1_putInOrder_1 : decode cX1_putInOrder 1 = .ok (.istore_n 1, 1) := by decide +kernel
theorem dX1_putInOrder_2 : decode cX1_putInOrder 2 = .ok (.iload_n 1, 1) := by decide +kernel
theorem dX1_putInOrder_3 : decode cX1_putInOrder 3 = .ok (.bipush 24, 2) := by decide +kernel
theorem dX1_putInOrder_5 : decode cX1_putInOrder 5 = .ok (.if_icmp .ge 16, 3) := by decide +kernel
theorem dX1_putInOrder_8 : decode cX1_putInOrder 8 = .ok (.aload_n 0, 1) := by decide +kernel
theorem dX1_putInOrder_9 : decode cX1_putInOrder 9 = .ok (.getfield 42, 3) := by decide +kernel
theorem dX1_putInOrder_12 : decode cX1_putInOrder 12 = .ok (.iload_n 1, 1) := by decide +kernel
theorem dX1_putInOrder_13 : decode cX1_putInOrder 13 = .ok (.iconst 0, 1) := by decide +kernel
theorem dX1_putInOrder_14 : decode cX1_putInOrder 14 = .ok (.bastore, 1) := by decide +kernel
theorem dX1_putInOrder_15 : decode cX1_putInOrder 15 = .ok (.iinc 1 1, 3) := by decide +kernel
theorem dX1_putInOrder_18 : decode cX1_putInOrder 18 = .ok (.goto (-16), 3) := by decide +kernel
theorem dX1_putInOrder_21 : decode cX1_putInOrder 21 = .ok (.iconst 0, 1) := by decide +kernel
theorem dX1_putInOrder_22 : decode cX1_putInOrder 22 = .ok (.istore_n 1, 1) := by decide +kernel
theorem dX1_putInOrder_23 : decode cX1_putInOrder 23 = .ok (.iload_n 1, 1) := by decide +kernel
theorem dX1_putInOrder_24 : decode cX1_putInOrder 24 = .ok (.bipush 24, 2) := by decide +kernel
theorem dX1_putInOrder_26 : decode cX1_putInOrder 26 = .ok (.if_icmp .ge 35, 3) := by decide +kernel
theorem dX1_putInOrder_29 : decode cX1_putInOrder 29 = .ok (.aload_n 0, 1) := by decide +kernel
theorem dX1_putInOrder_30 : decode cX1_putInOrder 30 = .ok (.invokevirtual 159, 3) := by decide +kernel
theorem dX1_putInOrder_33 : decode cX1_putInOrder 33 = .ok (.istore_n 2, 1) := by decide +kernel
theorem dX1_putInOrder_34 : decode cX1_putInOrder 34 = .ok (.aload_n 0, 1) := by decide +kernel
theorem dX1_putInOrder_35 : decode cX1_putInOrder 35 = .ok (.getfield 29, 3) := by decide +kernel
theorem dX1_putInOrder_38 : decode cX1_putInOrder 38 = .ok (.iload_n 1, 1) := by decide +kernel
theorem dX1_putInOrder_39 : decode cX1_putInOrder 39 = .ok (.iload_n 2, 1) := by decide +kernel
theorem dX1_putInOrder_40 : decode cX1_putInOrder 40 = .ok (.iastore, 1) := by decide +kernel
theorem dX1_putInOrder_41 : decode cX1_putInOrder 41 = .ok (.iload_n 2, 1) := by decide +kernel
theorem dX1_putInOrder_42 : decode cX1_putInOrder 42 = .ok (.invokestatic 55, 3) := by decide +kernel
theorem dX1_putInOrder_45 : decode cX1_putInOrder 45 = .ok (.ifCond .eq 10, 3) := by decide +kernel
theorem dX1_putInOrder_48 : decode cX1_putInOrder 48 = .ok (.aload_n 0, 1) := by decide +kernel
theorem dX1_putInOrder_49 : decode cX1_putInOrder 49 = .ok (.getfield 42, 3) := by decide +kernel
theorem dX1_putInOrder_52 : decode cX1_putInOrder 52 = .ok (.iload_n 2, 1) := by decide +kernel
theorem dX1_putInOrder_53 : decode cX1_putInOrder 53 = .ok (.iconst 1, 1) := by decide +kernel
theorem dX1_putInOrder_54 : decode cX1_putInOrder 54 = .ok (.bastore, 1) := by decide +kernel
theorem dX1_putInOrder_55 : decode cX1_putInOrder 55 = .ok (.iinc 1 1, 3) := by decide +kernel
theorem dX1_putInOrder_58 : decode cX1_putInOrder 58 = .ok (.goto (-35), 3) := by decide +kernel
theorem dX1_putInOrder_61 : decode cX1_putInOrder 61 = .ok (.return_, 1) := by decide +kernel
set_option maxRecDepth 20000 in
theorem ggX1_lowestFreeCell_X1_isReady : GoodIn wsX1_lowestFreeCell wsX1_isReady := goodIn_r _ [8, 1, 9, 10, 7, 11, 12, 13, 14, 15, 16, 17, 18, 19, 20, 21, 22, 23] (by decide +kernel) (by decide +kernel)
set_option maxRecDepth 20000 in
theorem gX1_lowestFreeCell_X1_isReady : GoodIn wsX1_lowestFreeCell (wsV RX1 163 RX1 yX1_isReady wsX1_isReady) := goodIn_app (goodIn_of _ (by decide +kernel)) ggX1_lowestFreeCell_X1_isReady
theorem dX1_lowestFreeCell_0 : decode cX1_lowestFreeCell 0 = .ok (.iconst 0, 1) := by decide +kernel
theorem dX1_lowestFreeCell_1 : decode cX1_lowestFreeCell 1 = .ok (.istore_n 1, 1) := by decide +kernel
theorem dX1_lowestFreeCell_2 : decode cX1_lowestFreeCell 2 = .ok (.iload_n 1, 1) := by decide +kernel
theorem dX1_lowestFreeCell_3 : decode cX1_lowestFreeCell 3 = .ok (.bipush 24, 2) := by decide +kernel
theorem dX1_lowestFreeCell_5 : decode cX1_lowestFreeCell 5 = .ok (.if_icmp .ge 46, 3) := by decide +kernel
theorem dX1_lowestFreeCell_8 : decode cX1_lowestFreeCell 8 = .ok (.aload_n 0, 1) := by decide +kernel
theorem dX1_lowestFreeCell_9 : decode cX1_lowestFreeCell 9 = .ok (.getfield 42, 3) := by decide +kernel
theorem dX1_lowestFreeCell_12 : decode cX1_lowestFreeCell 12 = .ok (.iload_n 1, 1) := by decide +kernel
theorem dX1_lowestFreeCell_13 : decode cX1_lowestFreeCell 13 = .ok (.baload, 1) := by decide +kernel
theorem dX1_lowestFreeCell_14 : decode cX1_lowestFreeCell 14 = .ok (.ifCond .ne 31, 3) := by decide +kernel
theorem dX1_lowestFreeCell_17 : decode cX1_lowestFreeCell 17 = .ok (.aload_n 0, 1) := by decide +kernel
theorem dX1_lowestFreeCell_18 : decode cX1_lowestFreeCell 18 = .ok (.aload_n 0, 1) := by decide +kernel
theorem dX1_lowestFreeCell_19 : decode cX1_lowestFreeCell 19 = .ok (.getfield 13, 3) := by decide +kernel
theorem dX1_lowestFreeCell_22 : decode cX1_lowestFreeCell 22 = .ok (.iload_n 1, 1) := by decide +kernel
theorem dX1_lowestFreeCell_23 : decode cX1_lowestFreeCell 23 = .ok (.iaload, 1) := by decide +kernel
theorem dX1_lowestFreeCell_24 : decode cX1_lowestFreeCell 24 = .ok (.invokevirtual 163, 3) := by decide +kernel
theorem dX1_lowestFreeCell_27 : decode cX1_lowestFreeCell 27 = .ok (.ifCond .eq 18, 3) := by decide +kernel
theorem dX1_lowestFreeCell_30 : decode cX1_lowestFreeCell 30 = .ok (.aload_n 0, 1) := by decide +kernel
theorem dX1_lowestFreeCell_31 : decode cX1_lowestFreeCell 31 = .ok (.aload_n 0, 1) := by decide +kernel
theorem dX1_lowestFreeCell_32 : decode cX1_lowestFreeCell 32 = .ok (.getfield 16, 3) := by decide +kernel
theorem dX1_lowestFreeCell_35 : decode cX1_lowestFreeCell 35 = .ok (.iload_n 1, 1) := by decide +kernel
theorem dX1_lowestFreeCell_36 : decode cX1_lowestFreeCell 36 = .ok (.iaload, 1) := by decide +kernel
theorem dX1_lowestFreeCell_37 : decode cX1_lowestFreeCell 37 = .ok (.invokevirtual 163, 3) := by decide +kernel
theorem dX1_lowestFreeCell_40 : decode cX1_lowestFreeCell 40 = .ok (.ifCond .eq 5, 3) := by decide +kernel
theorem dX1_lowestFreeCell_43 : decode cX1_lowestFreeCell 43 = .ok (.iload_n 1, 1) := by decide +kernel
theorem dX1_lowestFreeCell_44 : decode cX1_lowestFreeCell 44 = .ok (.ireturn, 1) := by decide +kernel
theorem dX1_lowestFreeCell_45 : decode cX1_lowestFreeCell 45 = .ok (.iinc 1 1, 3) := by decide +kernel
theorem dX1_lowestFreeCell_48 : decode cX1_lowestFreeCell 48 = .ok (.goto (-46), 3) := by decide +kernel
theorem dX1_lowestFreeCell_51 : decode cX1_lowestFreeCell 51 = .ok (.iconst (-1), 1) := by decide +kernel
theorem dX1_lowestFreeCell_52 : decode cX1_lowestFreeCell 52 = .ok (.ireturn, 1) := by decide +kernel
set_option maxRecDepth 20000 in
theorem ggX1_isReady_X1_isIn : GoodIn wsX1_isReady wsX1_isIn := goodIn_r _ [5] (by decide +kernel) (by decide +kernel)
set_option maxRecDepth 20000 in
theorem gX1_isReady_X1_isIn : GoodIn wsX1_isReady (va_wsS RX1 149 yX1_isIn wsX1_isIn) := goodIn_app (goodIn_of _ (by decide +kernel)) ggX1_isReady_X1_isIn
theorem dX1_isReady_0 : decode cX1_isReady 0 = .ok (.iload_n 1, 1) := by decide +kernel
theorem dX1_isReady_1 : decode cX1_isReady 1 = .ok (.iconst (-1), 1) := by decide +kernel
theorem dX1_isReady_2 : decode cX1_isReady 2 = .ok (.if_icmp .eq 14, 3) := by decide +kernel
theorem dX1_isReady_5 : decode cX1_isReady 5 = .ok (.iload_n 1, 1) := by decide +kernel
theorem dX1_isReady_6 : decode cX1_isReady 6 = .ok (.aload_n 0, 1) := by decide +kernel
theorem dX1_isReady_7 : decode cX1_isReady 7 = .ok (.getfield 42, 3) := by decide +kernel
theorem dX1_isReady_10 : decode cX1_isReady 10 = .ok (.invokestatic 149, 3) := by decide +kernel
theorem dX1_isReady_13 : decode cX1_isReady 13 = .ok (.ifCond .eq 7, 3) := by decide +kernel
theorem dX1_isReady_16 : decode cX1_isReady 16 = .ok (.iconst 1, 1) := by decide +kernel
theorem dX1_isReady_17 : decode cX1_isReady 17 = .ok (.goto 4, 3) := by decide +kernel
theorem dX1_isReady_20 : decode cX1_isReady 20 = .ok (.iconst 0, 1) := by decide +kernel
theorem dX1_isReady_21 : decode cX1_isReady 21 = .ok (.ireturn, 1) := by decide +kernel
theorem dX1_forgetChanges_0 : decode cX1_forgetChanges 0 = .ok (.iconst 0, 1) := by decide +kernel
theorem dX1_forgetChanges_1 : decode cX1_forgetChanges 1 = .ok (.istore_n 1, 1) := by decide +kernel
theorem dX1_forgetChanges_2 : decode cX1_forgetChanges 2 = .ok (.iload_n 1, 1) := by decide +kernel
theorem dX1_forgetChanges_3 : decode cX1_forgetChanges 3 = .ok (.bipush 24, 2) := by decide +kernel
theorem dX1_forgetChanges_5 : decode cX1_forgetChanges 5 = .ok (.if_icmp .ge 16, 3) := by decide +kernel
theorem dX1_forgetChanges_8 : decode cX1_forgetChanges 8 = .ok (.aload_n 0, 1) := by decide +kernel
theorem dX1_forgetChanges_9 : decode cX1_forgetChanges 9 = .ok (.getfield 39, 3) := by decide +kernel
theorem dX1_forgetChanges_12 : decode cX1_forgetChanges 12 = .ok (.iload_n 1, 1) := by decide +kernel
theorem dX1_forgetChanges_13 : decode cX1_forgetChanges 13 = .ok (.iconst 0, 1) := by decide +kernel
theorem dX1_forgetChanges_14 : decode cX1_forgetChanges 14 = .ok (.bastore, 1) := by decide +kernel
theorem dX1_forgetChanges_15 : decode cX1_forgetChanges 15 = .ok (.iinc 1 1, 3) := by decide +kernel
theorem dX1_forgetChanges_18 : decode cX1_forgetChanges 18 = .ok (.goto (-16), 3) := by decide +kernel
theorem dX1_forgetChanges_21 : decode cX1_forgetChanges 21 = .ok (.return_, 1) := by decide +kernel
set_option maxRecDepth 20000 in
theorem ggX1_goThrough_X1_isCell : GoodIn wsX1_goThrough wsX1_isCell := goodIn_r _ [7] (by decide +kernel) (by decide +kernel)
set_option maxRecDepth 20000 in
theorem gX1_goThrough_X1_isCell : GoodIn wsX1_goThrough (va_wsS RX1 55 yX1_isCell wsX1_isCell) := goodIn_app (goodIn_of _ (by decide +kernel)) ggX1_goThrough_X1_isCell
set_option maxRecDepth 20000 in
theorem ggX1_goThrough_X1_readsOneOf : GoodIn wsX1_goThrough wsX1_readsOneOf := goodIn_r _ [11, 12, 13, 14, 15, 6, 16, 70, 71, 72, 73, 74, 75, 76, 77, 78, 79, 80, 81] (by decide +kernel) (by decide +kernel)
set_option maxRecDepth 20000 in
theorem gX1_goThrough_X1_readsOneOf : GoodIn wsX1_goThrough (wsV RX1 145 RX1 yX1_readsOneOf wsX1_readsOneOf) := goodIn_app (goodIn_of _ (by decide +kernel)) ggX1_goThrough_X1_readsOneOf
set_option maxRecDepth 20000 in
theorem ggX1_goThrough_X1_compute : GoodIn wsX1_goThrough wsX1_compute := goodIn_r _ [20, 12, 13, 3, 21, 22, 2, 23, 24, 6, 25, 4, 5, 7, 26, 27, 28, 29, 30, 31, 32, 33, 34, 35, 36, 37, 38, 39, 40, 41, 42, 43, 44, 45, 46, 47, 48, 49, 50, 51, 52, 53, 54, 55, 56, 57, 58, 59, 60, 61, 62, 63, 64, 65, 66, 67, 68, 69, 70, 71, 72, 73, 74, 75, 76, 77, 78, 79, 80, 81, 82, 83, 84, 85, 86, 87, 88, 89] (by decide +kernel) (by decide +kernel)
set_option maxRecDepth 20000 in
theorem gX1_goThrough_X1_compute : GoodIn wsX1_goThrough (wsV RX1 155 RX1 yX1_compute wsX1_compute) := goodIn_app (goodIn_of _ (by decide +kernel)) ggX1_goThrough_X1_compute
theorem dX1_goThrough_0 : decode cX1_goThrough 0 = .ok (.iconst 0, 1) := by decide +kernel
theorem dX1_goThrough_1 : decode cX1_goThrough 1 = .ok (.istore_n 3, 1) := by decide +kernel
theorem dX1_goThrough_2 : decode cX1_goThrough 2 = .ok (.iconst 0, 1) := by decide +kernel
theorem dX1_goThrough_3 : decode cX1_goThrough 3 = .ok (.istore 4, 2) := by decide +kernel
theorem dX1_goThrough_5 : decode cX1_goThrough 5 = .ok (.iload 4, 2) := by decide +kernel
theorem dX1_goThrough_7 : decode cX1_goThrough 7 = .ok (.bipush 24, 2) := by decide +kernel
theorem dX1_goThrough_9 : decode cX1_goThrough 9 = .ok (.if_icmp .ge 63, 3) := by decide +kernel
theorem dX1_goThrough_12 : decode cX1_goThrough 12 = .ok (.aload_n 0, 1) := by decide +kernel
theorem dX1_goThrough_13 : decode cX1_goThrough 13 = .ok (.getfield 29, 3) := by decide +kernel
theorem dX1_goThrough_16 : decode cX1_goThrough 16 = .ok (.iload 4, 2) := by decide +kernel
theorem dX1_goThrough_18 : decode cX1_goThrough 18 = .ok (.iaload, 1) := by decide +kernel
theorem dX1_goThrough_19 : decode cX1_goThrough 19 = .ok (.istore 5, 2) := by decide +kernel
theorem dX1_goThrough_21 : decode cX1_goThrough 21 = .ok (.iload 5, 2) := by decide +kernel
theorem dX1_goThrough_23 : decode cX1_goThrough 23 = .ok (.invokestatic 55, 3) := by decide +kernel
theorem dX1_goThrough_26 : decode cX1_goThrough 26 = .ok (.ifCond .eq 40, 3) := by decide +kernel
theorem dX1_goThrough_29 : decode cX1_goThrough 29 = .ok (.aload_n 0, 1) := by decide +kernel
theorem dX1_goThrough_30 : decode cX1_goThrough 30 = .ok (.iload 5, 2) := by decide +kernel
theorem dX1_goThrough_32 : decode cX1_goThrough 32 = .ok (.aload_n 0, 1) := by decide +kernel
theorem dX1_goThrough_33 : decode cX1_goThrough 33 = .ok (.getfield 39, 3) := by decide +kernel
theorem dX1_goThrough_36 : decode cX1_goThrough 36 = .ok (.invokevirtual 145, 3) := by decide +kernel
theorem dX1_goThrough_39 : decode cX1_goThrough 39 = .ok (.ifCond .ne 17, 3) := by decide +kernel
theorem dX1_goThrough_42 : decode cX1_goThrough 42 = .ok (.iload_n 2, 1) := by decide +kernel
theorem dX1_goThrough_43 : decode cX1_goThrough 43 = .ok (.ifCond .eq 23, 3) := by decide +kernel
theorem dX1_goThrough_46 : decode cX1_goThrough 46 = .ok (.aload_n 0, 1) := by decide +kernel
theorem dX1_goThrough_47 : decode cX1_goThrough 47 = .ok (.getfield 25, 3) := by decide +kernel
theorem dX1_goThrough_50 : decode cX1_goThrough 50 = .ok (.iload 5, 2) := by decide +kernel
theorem dX1_goThrough_52 : decode cX1_goThrough 52 = .ok (.baload, 1) := by decide +kernel
theorem dX1_goThrough_53 : decode cX1_goThrough 53 = .ok (.ifCond .eq 13, 3) := by decide +kernel
theorem dX1_goThrough_56 : decode cX1_goThrough 56 = .ok (.aload_n 0, 1) := by decide +kernel
theorem dX1_goThrough_57 : decode cX1_goThrough 57 = .ok (.iload_n 1, 1) := by decide +kernel
theorem dX1_goThrough_58 : decode cX1_goThrough 58 = .ok (.iload 5, 2) := by decide +kernel
theorem dX1_goThrough_60 : decode cX1_goThrough 60 = .ok (.invokevirtual 155, 3) := by decide +kernel
theorem dX1_goThrough_63 : decode cX1_goThrough 63 = .ok (.iinc 3 1, 3) := by decide +kernel
theorem dX1_goThrough_66 : decode cX1_goThrough 66 = .ok (.iinc 4 1, 3) := by decide +kernel
theorem dX1_goThrough_69 : decode cX1_goThrough 69 = .ok (.goto (-64), 3) := by decide +kernel
theorem dX1_goThrough_72 : decode cX1_goThrough 72 = .ok (.iload_n 3, 1) := by decide +kernel
theorem dX1_goThrough_73 : decode cX1_goThrough 73 = .ok (.ireturn, 1) := by decide +kernel
set_option maxRecDepth 20000 in
theorem ggX1_compute_X1_meteredRead : GoodIn wsX1_compute wsX1_meteredRead := goodIn_r _ [10, 11, 12, 9, 13, 14, 15, 16] (by decide +kernel) (by decide +kernel)
set_option maxRecDepth 20000 in
theorem gX1_compute_X1_meteredRead : GoodIn wsX1_compute (va_wsS RX1 166 yX1_meteredRead wsX1_meteredRead) := goodIn_app (goodIn_of _ (by decide +kernel)) ggX1_compute_X1_meteredRead
set_option maxRecDepth 20000 in
theorem ggX1_compute_X0_paysFor : GoodIn wsX1_compute wsX0_paysFor := goodIn_r _ [20, 21, 15, 9, 16, 22, 23, 24, 18, 25, 26, 12, 13, 27, 28, 29, 30, 31, 32, 33, 34, 35, 36, 70, 71, 72, 73, 74, 75, 76, 77] (by decide +kernel) (by decide +kernel)
set_option maxRecDepth 20000 in
theorem gX1_compute_X0_paysFor_n170 : GoodIn wsX1_compute (wsX0_paysFor) := ggX1_compute_X0_paysFor
set_option maxRecDepth 20000 in
theorem ggX1_compute_X1_resultOf : GoodIn wsX1_compute wsX1_resultOf := goodIn_r _ [40, 1, 2, 41, 42, 43, 44, 45, 46, 47, 48, 9, 49, 50, 51, 52, 53, 54, 55, 56, 57, 58, 59, 60, 61, 62, 63, 64, 65, 66, 67, 68, 69] (by decide +kernel) (by decide +kernel)
set_option maxRecDepth 20000 in
theorem gX1_compute_X1_resultOf : GoodIn wsX1_compute (wsV RX1 121 RX1 yX1_resultOf wsX1_resultOf) := goodIn_app (goodIn_of _ (by decide +kernel)) ggX1_compute_X1_resultOf
theorem dX1_compute_0 : decode cX1_compute 0 = .ok (.iload_n 2, 1) := by decide +kernel
theorem dX1_compute_1 : decode cX1_compute 1 = .ok (.aload_n 0, 1) := by decide +kernel
theorem dX1_compute_2 : decode cX1_compute 2 = .ok (.getfield 13, 3) := by decide +kernel
theorem dX1_compute_5 : decode cX1_compute 5 = .ok (.iload_n 2, 1) := by decide +kernel
theorem dX1_compute_6 : decode cX1_compute 6 = .ok (.iaload, 1) := by decide +kernel
theorem dX1_compute_7 : decode cX1_compute 7 = .ok (.invokestatic 166, 3) := by decide +kernel
theorem dX1_compute_10 : decode cX1_compute 10 = .ok (.istore_n 3, 1) := by decide +kernel
theorem dX1_compute_11 : decode cX1_compute 11 = .ok (.aload_n 0, 1) := by decide +kernel
theorem dX1_compute_12 : decode cX1_compute 12 = .ok (.getfield 16, 3) := by decide +kernel
theorem dX1_compute_15 : decode cX1_compute 15 = .ok (.iload_n 2, 1) := by decide +kernel
theorem dX1_compute_16 : decode cX1_compute 16 = .ok (.iaload, 1) := by decide +kernel
theorem dX1_compute_17 : decode cX1_compute 17 = .ok (.aload_n 0, 1) := by decide +kernel
theorem dX1_compute_18 : decode cX1_compute 18 = .ok (.getfield 13, 3) := by decide +kernel
theorem dX1_compute_21 : decode cX1_compute 21 = .ok (.iload_n 2, 1) := by decide +kernel
theorem dX1_compute_22 : decode cX1_compute 22 = .ok (.iaload, 1) := by decide +kernel
theorem dX1_compute_23 : decode cX1_compute 23 = .ok (.if_icmp .ne 7, 3) := by decide +kernel
theorem dX1_compute_26 : decode cX1_compute 26 = .ok (.iconst (-1), 1) := by decide +kernel
theorem dX1_compute_27 : decode cX1_compute 27 = .ok (.goto 13, 3) := by decide +kernel
theorem dX1_compute_30 : decode cX1_compute 30 = .ok (.iload_n 2, 1) := by decide +kernel
theorem dX1_compute_31 : decode cX1_compute 31 = .ok (.aload_n 0, 1) := by decide +kernel
theorem dX1_compute_32 : decode cX1_compute 32 = .ok (.getfield 16, 3) := by decide +kernel
theorem dX1_compute_35 : decode cX1_compute 35 = .ok (.iload_n 2, 1) := by decide +kernel
theorem dX1_compute_36 : decode cX1_compute 36 = .ok (.iaload, 1) := by decide +kernel
theorem dX1_compute_37 : decode cX1_compute 37 = .ok (.invokestatic 166, 3) := by decide +kernel
theorem dX1_compute_40 : decode cX1_compute 40 = .ok (.istore 4, 2) := by decide +kernel
theorem dX1_compute_42 : decode cX1_compute 42 = .ok (.aload_n 0, 1) := by decide +kernel
theorem dX1_compute_43 : decode cX1_compute 43 = .ok (.getfield 25, 3) := by decide +kernel
theorem dX1_compute_46 : decode cX1_compute 46 = .ok (.iload_n 2, 1) := by decide +kernel
theorem dX1_compute_47 : decode cX1_compute 47 = .ok (.aload_n 0, 1) := by decide +kernel
theorem dX1_compute_48 : decode cX1_compute 48 = .ok (.getfield 35, 3) := by decide +kernel
theorem dX1_compute_51 : decode cX1_compute 51 = .ok (.iload_n 1, 1) := by decide +kernel
theorem dX1_compute_52 : decode cX1_compute 52 = .ok (.iload_n 2, 1) := by decide +kernel
theorem dX1_compute_53 : decode cX1_compute 53 = .ok (.iload_n 3, 1) := by decide +kernel
theorem dX1_compute_54 : decode cX1_compute 54 = .ok (.iload 4, 2) := by decide +kernel
theorem dX1_compute_56 : decode cX1_compute 56 = .ok (.invokevirtual 170, 3) := by decide +kernel
theorem dX1_compute_59 : decode cX1_compute 59 = .ok (.ifCond .ne 7, 3) := by decide +kernel
theorem dX1_compute_62 : decode cX1_compute 62 = .ok (.iconst 1, 1) := by decide +kernel
theorem dX1_compute_63 : decode cX1_compute 63 = .ok (.goto 4, 3) := by decide +kernel
theorem dX1_compute_66 : decode cX1_compute 66 = .ok (.iconst 0, 1) := by decide +kernel
theorem dX1_compute_67 : decode cX1_compute 67 = .ok (.bastore, 1) := by decide +kernel
theorem dX1_compute_68 : decode cX1_compute 68 = .ok (.aload_n 0, 1) := by decide +kernel
theorem dX1_compute_69 : decode cX1_compute 69 = .ok (.getfield 25, 3) := by decide +kernel
theorem dX1_compute_72 : decode cX1_compute 72 = .ok (.iload_n 2, 1) := by decide +kernel
theorem dX1_compute_73 : decode cX1_compute 73 = .ok (.baload, 1) := by decide +kernel
theorem dX1_compute_74 : decode cX1_compute 74 = .ok (.ifCond .ne 44, 3) := by decide +kernel
theorem dX1_compute_77 : decode cX1_compute 77 = .ok (.aload_n 0, 1) := by decide +kernel
theorem dX1_compute_78 : decode cX1_compute 78 = .ok (.iload_n 2, 1) := by decide +kernel
theorem dX1_compute_79 : decode cX1_compute 79 = .ok (.aload_n 0, 1) := by decide +kernel
theorem dX1_compute_80 : decode cX1_compute 80 = .ok (.getfield 22, 3) := by decide +kernel
theorem dX1_compute_83 : decode cX1_compute 83 = .ok (.invokevirtual 121, 3) := by decide +kernel
theorem dX1_compute_86 : decode cX1_compute 86 = .ok (.istore 5, 2) := by decide +kernel
theorem dX1_compute_88 : decode cX1_compute 88 = .ok (.aload_n 0, 1) := by decide +kernel
theorem dX1_compute_89 : decode cX1_compute 89 = .ok (.getfield 39, 3) := by decide +kernel
theorem dX1_compute_92 : decode cX1_compute 92 = .ok (.iload_n 2, 1) := by decide +kernel
theorem dX1_compute_93 : decode cX1_compute 93 = .ok (.iload 5, 2) := by decide +kernel
theorem dX1_compute_95 : decode cX1_compute 95 = .ok (.aload_n 0, 1) := by decide +kernel
theorem dX1_compute_96 : decode cX1_compute 96 = .ok (.getfield 22, 3) := by decide +kernel
theorem dX1_compute_99 : decode cX1_compute 99 = .ok (.iload_n 2, 1) := by decide +kernel
theorem dX1_compute_100 : decode cX1_compute 100 = .ok (.iaload, 1) := by decide +kernel
theorem dX1_compute_101 : decode cX1_compute 101 = .ok (.if_icmp .eq 7, 3) := by decide +kernel
theorem dX1_compute_104 : decode cX1_compute 104 = .ok (.iconst 1, 1) := by decide +kernel
theorem dX1_compute_105 : decode cX1_compute 105 = .ok (.goto 4, 3) := by decide +kernel
theorem dX1_compute_108 : decode cX1_compute 108 = .ok (.iconst 0, 1) := by decide +kernel
theorem dX1_compute_109 : decode cX1_compute 109 = .ok (.bastore, 1) := by decide +kernel
theorem dX1_compute_110 : decode cX1_compute 110 = .ok (.aload_n 0, 1) := by decide +kernel
theorem dX1_compute_111 : decode cX1_compute 111 = .ok (.getfield 22, 3) := by decide +kernel
theorem dX1_compute_114 : decode cX1_compute 114 = .ok (.iload_n 2, 1) := by decide +kernel
theorem dX1_compute_115 : decode cX1_compute 115 = .ok (.iload 5, 2) := by decide +kernel
theorem dX1_compute_117 : decode cX1_compute 117 = .ok (.iastore, 1) := by decide +kernel
theorem dX1_compute_118 : decode cX1_compute 118 = .ok (.return_, 1) := by decide +kernel
set_option maxRecDepth 20000 in
theorem ggX1_meteredRead_X1_isCell : GoodIn wsX1_meteredRead wsX1_isCell := goodIn_r _ [4] (by decide +kernel) (by decide +kernel)
set_option maxRecDepth 20000 in
theorem gX1_meteredRead_X1_isCell : GoodIn wsX1_meteredRead (va_wsS RX1 55 yX1_isCell wsX1_isCell) := goodIn_app (goodIn_of _ (by decide +kernel)) ggX1_meteredRead_X1_isCell
set_option maxRecDepth 20000 in
theorem ggX1_meteredRead_X1_sheetOf : GoodIn wsX1_meteredRead wsX1_sheetOf := goodIn_r _ [7] (by decide +kernel) (by decide +kernel)
set_option maxRecDepth 20000 in
theorem gX1_meteredRead_X1_sheetOf : GoodIn wsX1_meteredRead (va_wsS RX1 174 yX1_sheetOf wsX1_sheetOf) := goodIn_app (goodIn_of _ (by decide +kernel)) ggX1_meteredRead_X1_sheetOf
theorem dX1_meteredRead_0 : decode cX1_meteredRead 0 = .ok (.iload_n 1, 1) := by decide +kernel
theorem dX1_meteredRead_1 : decode cX1_meteredRead 1 = .ok (.invokestatic 55, 3) := by decide +kernel
theorem dX1_meteredRead_4 : decode cX1_meteredRead 4 = .ok (.ifCond .eq 18, 3) := by decide +kernel
theorem dX1_meteredRead_7 : decode cX1_meteredRead 7 = .ok (.iload_n 1, 1) := by decide +kernel
theorem dX1_meteredRead_8 : decode cX1_meteredRead 8 = .ok (.invokestatic 174, 3) := by decide +kernel
theorem dX1_meteredRead_11 : decode cX1_meteredRead 11 = .ok (.iload_n 0, 1) := by decide +kernel
theorem dX1_meteredRead_12 : decode cX1_meteredRead 12 = .ok (.invokestatic 174, 3) := by decide +kernel
theorem dX1_meteredRead_15 : decode cX1_meteredRead 15 = .ok (.if_icmp .eq 7, 3) := by decide +kernel
theorem dX1_meteredRead_18 : decode cX1_meteredRead 18 = .ok (.iload_n 1, 1) := by decide +kernel
theorem dX1_meteredRead_19 : decode cX1_meteredRead 19 = .ok (.goto 4, 3) := by decide +kernel
theorem dX1_meteredRead_22 : decode cX1_meteredRead 22 = .ok (.iconst (-1), 1) := by decide +kernel
theorem dX1_meteredRead_23 : decode cX1_meteredRead 23 = .ok (.ireturn, 1) := by decide +kernel
set_option maxRecDepth 20000 in
theorem ggX1_resultOf_X1_valueIn : GoodIn wsX1_resultOf wsX1_valueIn := goodIn_r _ [12] (by decide +kernel) (by decide +kernel)
set_option maxRecDepth 20000 in
theorem gX1_resultOf_X1_valueIn : GoodIn wsX1_resultOf (va_wsS RX1 178 yX1_valueIn wsX1_valueIn) := goodIn_app (goodIn_of _ (by decide +kernel)) ggX1_resultOf_X1_valueIn
set_option maxRecDepth 20000 in
theorem ggX1_resultOf_X1_held : GoodIn wsX1_resultOf wsX1_held := goodIn_r _ [15, 16, 17, 18, 19, 7, 20, 5, 6, 8] (by decide +kernel) (by decide +kernel)
set_option maxRecDepth 20000 in
theorem gX1_resultOf_X1_held : GoodIn wsX1_resultOf (va_wsS RX1 182 yX1_held wsX1_held) := goodIn_app (goodIn_of _ (by decide +kernel)) ggX1_resultOf_X1_held
theorem dX1_resultOf_0 : decode cX1_resultOf 0 = .ok (.aload_n 2, 1) := by decide +kernel
theorem dX1_resultOf_1 : decode cX1_resultOf 1 = .ok (.aload_n 0, 1) := by decide +kernel
theorem dX1_resultOf_2 : decode cX1_resultOf 2 = .ok (.getfield 13, 3) := by decide +kernel
theorem dX1_resultOf_5 : decode cX1_resultOf 5 = .ok (.iload_n 1, 1) := by decide +kernel
theorem dX1_resultOf_6 : decode cX1_resultOf 6 = .ok (.iaload, 1) := by decide +kernel
theorem dX1_resultOf_7 : decode cX1_resultOf 7 = .ok (.invokestatic 178, 3) := by decide +kernel
theorem dX1_resultOf_10 : decode cX1_resultOf 10 = .ok (.istore_n 3, 1) := by decide +kernel
theorem dX1_resultOf_11 : decode cX1_resultOf 11 = .ok (.aload_n 2, 1) := by decide +kernel
theorem dX1_resultOf_12 : decode cX1_resultOf 12 = .ok (.aload_n 0, 1) := by decide +kernel
theorem dX1_resultOf_13 : decode cX1_resultOf 13 = .ok (.getfield 16, 3) := by decide +kernel
theorem dX1_resultOf_16 : decode cX1_resultOf 16 = .ok (.iload_n 1, 1) := by decide +kernel
theorem dX1_resultOf_17 : decode cX1_resultOf 17 = .ok (.iaload, 1) := by decide +kernel
theorem dX1_resultOf_18 : decode cX1_resultOf 18 = .ok (.invokestatic 178, 3) := by decide +kernel
theorem dX1_resultOf_21 : decode cX1_resultOf 21 = .ok (.istore 4, 2) := by decide +kernel
theorem dX1_resultOf_23 : decode cX1_resultOf 23 = .ok (.aload_n 0, 1) := by decide +kernel
theorem dX1_resultOf_24 : decode cX1_resultOf 24 = .ok (.getfield 9, 3) := by decide +kernel
theorem dX1_resultOf_27 : decode cX1_resultOf 27 = .ok (.iload_n 1, 1) := by decide +kernel
theorem dX1_resultOf_28 : decode cX1_resultOf 28 = .ok (.iaload, 1) := by decide +kernel
theorem dX1_resultOf_29 : decode cX1_resultOf 29 = .ok (.tableswitch 61 1 3 #[27, 42, 49], 27) := by decide +kernel
theorem dX1_resultOf_56 : decode cX1_resultOf 56 = .ok (.iload_n 3, 1) := by decide +kernel
theorem dX1_resultOf_57 : decode cX1_resultOf 57 = .ok (.iload 4, 2) := by decide +kernel
theorem dX1_resultOf_59 : decode cX1_resultOf 59 = .ok (.iadd, 1) := by decide +kernel
theorem dX1_resultOf_60 : decode cX1_resultOf 60 = .ok (.aload_n 0, 1) := by decide +kernel
theorem dX1_resultOf_61 : decode cX1_resultOf 61 = .ok (.getfield 19, 3) := by decide +kernel
theorem dX1_resultOf_64 : decode cX1_resultOf 64 = .ok (.iload_n 1, 1) := by decide +kernel
theorem dX1_resultOf_65 : decode cX1_resultOf 65 = .ok (.iaload, 1) := by decide +kernel
theorem dX1_resultOf_66 : decode cX1_resultOf 66 = .ok (.iadd, 1) := by decide +kernel
theorem dX1_resultOf_67 : decode cX1_resultOf 67 = .ok (.invokestatic 182, 3) := by decide +kernel
theorem dX1_resultOf_70 : decode cX1_resultOf 70 = .ok (.ireturn, 1) := by decide +kernel
theorem dX1_resultOf_71 : decode cX1_resultOf 71 = .ok (.iload_n 3, 1) := by decide +kernel
theorem dX1_resultOf_72 : decode cX1_resultOf 72 = .ok (.iload 4, 2) := by decide +kernel
theorem dX1_resultOf_74 : decode cX1_resultOf 74 = .ok (.invokestatic 185, 3) := by decide +kernel
theorem dX1_resultOf_77 : decode cX1_resultOf 77 = .ok (.ireturn, 1) := by decide +kernel
theorem dX1_resultOf_78 : decode cX1_resultOf 78 = .ok (.iload_n 3, 1) := by decide +kernel
theorem dX1_resultOf_79 : decode cX1_resultOf 79 = .ok (.aload_n 0, 1) := by decide +kernel
theorem dX1_resultOf_80 : decode cX1_resultOf 80 = .ok (.getfield 19, 3) := by decide +kernel
theorem dX1_resultOf_83 : decode cX1_resultOf 83 = .ok (.iload_n 1, 1) := by decide +kernel
theorem dX1_resultOf_84 : decode cX1_resultOf 84 = .ok (.iaload, 1) := by decide +kernel
theorem dX1_resultOf_85 : decode cX1_resultOf 85 = .ok (.imul, 1) := by decide +kernel
theorem dX1_resultOf_86 : decode cX1_resultOf 86 = .ok (.invokestatic 182, 3) := by decide +kernel
theorem dX1_resultOf_89 : decode cX1_resultOf 89 = .ok (.ireturn, 1) := by decide +kernel
theorem dX1_resultOf_90 : decode cX1_resultOf 90 = .ok (.aload_n 0, 1) := by decide +kernel
theorem dX1_resultOf_91 : decode cX1_resultOf 91 = .ok (.getfield 19, 3) := by decide +kernel
theorem dX1_resultOf_94 : decode cX1_resultOf 94 = .ok (.iload_n 1, 1) := by decide +kernel
theorem dX1_resultOf_95 : decode cX1_resultOf 95 = .ok (.iaload, 1) := by decide +kernel
theorem dX1_resultOf_96 : decode cX1_resultOf 96 = .ok (.ireturn, 1) := by decide +kernel
theorem dX1_valueIn_0 : decode cX1_valueIn 0 = .ok (.iload_n 1, 1) := by decide +kernel
theorem dX1_valueIn_1 : decode cX1_valueIn 1 = .ok (.ifCond .lt 15, 3) := by decide +kernel
theorem dX1_valueIn_4 : decode cX1_valueIn 4 = .ok (.iload_n 1, 1) := by decide +kernel
theorem dX1_valueIn_5 : decode cX1_valueIn 5 = .ok (.aload_n 0, 1) := by decide +kernel
theorem dX1_valueIn_6 : decode cX1_valueIn 6 = .ok (.arraylength, 1) := by decide +kernel
theorem dX1_valueIn_7 : decode cX1_valueIn 7 = .ok (.if_icmp .ge 9, 3) := by decide +kernel
theorem dX1_valueIn_10 : decode cX1_valueIn 10 = .ok (.aload_n 0, 1) := by decide +kernel
theorem dX1_valueIn_11 : decode cX1_valueIn 11 = .ok (.iload_n 1, 1) := by decide +kernel
theorem dX1_valueIn_12 : decode cX1_valueIn 12 = .ok (.iaload, 1) := by decide +kernel
theorem dX1_valueIn_13 : decode cX1_valueIn 13 = .ok (.goto 4, 3) := by decide +kernel
theorem dX1_valueIn_16 : decode cX1_valueIn 16 = .ok (.iconst 0, 1) := by decide +kernel
theorem dX1_valueIn_17 : decode cX1_valueIn 17 = .ok (.ireturn, 1) := by decide +kernel
theorem dX1_held_0 : decode cX1_held 0 = .ok (.ldc 190, 2) := by decide +kernel
theorem dX1_held_2 : decode cX1_held 2 = .ok (.ldc 58, 2) := by decide +kernel
theorem dX1_held_4 : decode cX1_held 4 = .ok (.iload_n 0, 1) := by decide +kernel
theorem dX1_held_5 : decode cX1_held 5 = .ok (.invokestatic 191, 3) := by decide +kernel
theorem dX1_held_8 : decode cX1_held 8 = .ok (.invokestatic 185, 3) := by decide +kernel
theorem dX1_held_11 : decode cX1_held 11 = .ok (.ireturn, 1) := by decide +kernel
theorem dJ9_max_7cf53_0 : decode cJ9_max_7cf53 0 = .ok (.iload_n 0, 1) := by decide +kernel
theorem dJ9_max_7cf53_1 : decode cJ9_max_7cf53 1 = .ok (.iload_n 1, 1) := by decide +kernel
theorem dJ9_max_7cf53_2 : decode cJ9_max_7cf53 2 = .ok (.if_icmp .lt 7, 3) := by decide +kernel
theorem dJ9_max_7cf53_5 : decode cJ9_max_7cf53 5 = .ok (.iload_n 0, 1) := by decide +kernel
theorem dJ9_max_7cf53_6 : decode cJ9_max_7cf53 6 = .ok (.goto 4, 3) := by decide +kernel
theorem dJ9_max_7cf53_9 : decode cJ9_max_7cf53 9 = .ok (.iload_n 1, 1) := by decide +kernel
theorem dJ9_max_7cf53_10 : decode cJ9_max_7cf53 10 = .ok (.ireturn, 1) := by decide +kernel
theorem dJ9_min_7cf53_0 : decode cJ9_min_7cf53 0 = .ok (.iload_n 0, 1) := by decide +kernel
theorem dJ9_min_7cf53_1 : decode cJ9_min_7cf53 1 = .ok (.iload_n 1, 1) := by decide +kernel
theorem dJ9_min_7cf53_2 : decode cJ9_min_7cf53 2 = .ok (.if_icmp .gt 7, 3) := by decide +kernel
theorem dJ9_min_7cf53_5 : decode cJ9_min_7cf53 5 = .ok (.iload_n 0, 1) := by decide +kernel
theorem dJ9_min_7cf53_6 : decode cJ9_min_7cf53 6 = .ok (.goto 4, 3) := by decide +kernel
theorem dJ9_min_7cf53_9 : decode cJ9_min_7cf53 9 = .ok (.iload_n 1, 1) := by decide +kernel
theorem dJ9_min_7cf53_10 : decode cJ9_min_7cf53 10 = .ok (.ireturn, 1) := by decide +kernel
theorem dL_cell_0 : decode cL_cell 0 = .ok (.iload_n 1, 1) := by decide +kernel
theorem dL_cell_1 : decode cL_cell 1 = .ok (.aload_n 0, 1) := by decide +kernel
theorem dL_cell_2 : decode cL_cell 2 = .ok (.arraylength, 1) := by decide +kernel
theorem dL_cell_3 : decode cL_cell 3 = .ok (.if_icmp .ge 9, 3) := by decide +kernel
theorem dL_cell_6 : decode cL_cell 6 = .ok (.aload_n 0, 1) := by decide +kernel
theorem dL_cell_7 : decode cL_cell 7 = .ok (.iload_n 1, 1) := by decide +kernel
theorem dL_cell_8 : decode cL_cell 8 = .ok (.iaload, 1) := by decide +kernel
theorem dL_cell_9 : decode cL_cell 9 = .ok (.goto 9, 3) := by decide +kernel
theorem dL_cell_12 : decode cL_cell 12 = .ok (.ldc 7, 2) := by decide +kernel
theorem dL_cell_14 : decode cL_cell 14 = .ok (.iload_n 1, 1) := by decide +kernel
theorem dL_cell_15 : decode cL_cell 15 = .ok (.iconst 1, 1) := by decide +kernel
theorem dL_cell_16 : decode cL_cell 16 = .ok (.iadd, 1) := by decide +kernel
theorem dL_cell_17 : decode cL_cell 17 = .ok (.imul, 1) := by decide +kernel
theorem dL_cell_18 : decode cL_cell 18 = .ok (.ireturn, 1) := by decide +kernel
theorem dL_at_0 : decode cL_at 0 = .ok (.iload_n 0, 1) := by decide +kernel
theorem dL_at_1 : decode cL_at 1 = .ok (.iconst 1, 1) := by decide +kernel
theorem dL_at_2 : decode cL_at 2 = .ok (.iushr, 1) := by decide +kernel
theorem dL_at_3 : decode cL_at 3 = .ok (.iload_n 1, 1) := by decide +kernel
theorem dL_at_4 : decode cL_at 4 = .ok (.irem, 1) := by decide +kernel
theorem dL_at_5 : decode cL_at 5 = .ok (.ireturn, 1) := by decide +kernel
set_option maxRecDepth 20000 in
theorem ggL_marked_X1_isMarked : GoodIn wsL_marked wsX1_isMarked := goodIn_ca (goodIn_r _ [5, 6, 7, 8, 9, 10, 4, 11, 12, 13, 14, 15, 16, 17, 18, 19, 20, 21, 22, 23] (by decide +kernel) (by decide +kernel)) (goodIn_sub (fun _ h => List.mem_cons_of_mem _ (List.mem_append_right _ h)) (by decide +kernel))
set_option maxRecDepth 20000 in
theorem gL_marked_X1_isMarked : GoodIn wsL_marked (wsV RL 8 RX1 yX1_isMarked wsX1_isMarked) := goodIn_app (goodIn_of _ (by decide +kernel)) ggL_marked_X1_isMarked
theorem dL_marked_0 : decode cL_marked 0 = .ok (.iconst 0, 1) := by decide +kernel
theorem dL_marked_1 : decode cL_marked 1 = .ok (.istore_n 1, 1) := by decide +kernel
theorem dL_marked_2 : decode cL_marked 2 = .ok (.iconst 0, 1) := by decide +kernel
theorem dL_marked_3 : decode cL_marked 3 = .ok (.istore_n 2, 1) := by decide +kernel
theorem dL_marked_4 : decode cL_marked 4 = .ok (.iload_n 2, 1) := by decide +kernel
theorem dL_marked_5 : decode cL_marked 5 = .ok (.bipush 24, 2) := by decide +kernel
theorem dL_marked_7 : decode cL_marked 7 = .ok (.if_icmp .ge 27, 3) := by decide +kernel
theorem dL_marked_10 : decode cL_marked 10 = .ok (.iload_n 1, 1) := by decide +kernel
theorem dL_marked_11 : decode cL_marked 11 = .ok (.aload_n 0, 1) := by decide +kernel
theorem dL_marked_12 : decode cL_marked 12 = .ok (.iload_n 2, 1) := by decide +kernel
theorem dL_marked_13 : decode cL_marked 13 = .ok (.invokevirtual 8, 3) := by decide +kernel
theorem dL_marked_16 : decode cL_marked 16 = .ok (.ifCond .eq 9, 3) := by decide +kernel
theorem dL_marked_19 : decode cL_marked 19 = .ok (.iconst 1, 1) := by decide +kernel
theorem dL_marked_20 : decode cL_marked 20 = .ok (.iload_n 2, 1) := by decide +kernel
theorem dL_marked_21 : decode cL_marked 21 = .ok (.ishl, 1) := by decide +kernel
theorem dL_marked_22 : decode cL_marked 22 = .ok (.goto 4, 3) := by decide +kernel
theorem dL_marked_25 : decode cL_marked 25 = .ok (.iconst 0, 1) := by decide +kernel
theorem dL_marked_26 : decode cL_marked 26 = .ok (.ior, 1) := by decide +kernel
theorem dL_marked_27 : decode cL_marked 27 = .ok (.istore_n 1, 1) := by decide +kernel
theorem dL_marked_28 : decode cL_marked 28 = .ok (.iinc 2 1, 3) := by decide +kernel
theorem dL_marked_31 : decode cL_marked 31 = .ok (.goto (-27), 3) := by decide +kernel
theorem dL_marked_34 : decode cL_marked 34 = .ok (.iload_n 1, 1) := by decide +kernel
theorem dL_marked_35 : decode cL_marked 35 = .ok (.ireturn, 1) := by decide +kernel
set_option maxRecDepth 20000 in
theorem ggL_accounts_X1_budget : GoodIn wsL_accounts wsX1_budget := goodIn_ca (goodIn_r _ [5, 6, 7, 8, 9, 10, 4, 11, 31, 32, 33, 34, 35, 36, 37, 38, 39, 40, 41, 42, 43, 44, 45, 46, 47, 48, 49, 50] (by decide +kernel) (by decide +kernel)) (goodIn_sub (fun _ h => List.mem_cons_of_mem _ (List.mem_append_right _ h)) (by decide +kernel))
set_option maxRecDepth 20000 in
theorem gL_accounts_X1_budget : GoodIn wsL_accounts (wsV RL 14 RX1 yX1_budget wsX1_budget) := goodIn_app (goodIn_of _ (by decide +kernel)) ggL_accounts_X1_budget
set_option maxRecDepth 20000 in
theorem ggL_accounts_X1_earned : GoodIn wsL_accounts wsX1_earned := goodIn_ca (goodIn_r _ [15, 6, 7, 8, 9, 10, 4, 11, 31, 32, 33, 34, 35, 36, 37, 38, 39, 40, 41, 42, 43, 44, 45, 46, 47, 48, 49, 50] (by decide +kernel) (by decide +kernel)) (goodIn_sub (fun _ h => List.mem_cons_of_mem _ (List.mem_append_right _ h)) (by decide +kernel))
set_option maxRecDepth 20000 in
theorem gL_accounts_X1_earned : GoodIn wsL_accounts (wsV RL 18 RX1 yX1_earned wsX1_earned) := goodIn_app (goodIn_of _ (by decide +kernel)) ggL_accounts_X1_earned
set_option maxRecDepth 20000 in
theorem ggL_accounts_X1_readOf : GoodIn wsL_accounts wsX1_readOf := goodIn_ca (goodIn_r _ [19, 6, 7, 8, 9, 10, 4, 11, 31, 32, 33, 34, 35, 36, 37, 38, 39, 40, 41, 42, 43, 44, 45, 46, 47, 48, 49, 50] (by decide +kernel) (by decide +kernel)) (goodIn_sub (fun _ h => List.mem_cons_of_mem _ (List.mem_append_right _ h)) (by decide +kernel))
set_option maxRecDepth 20000 in
theorem gL_accounts_X1_readOf : GoodIn wsL_accounts (wsV RL 21 RX1 yX1_readOf wsX1_readOf) := goodIn_app (goodIn_of _ (by decide +kernel)) ggL_accounts_X1_readOf
set_option maxRecDepth 20000 in
theorem ggL_accounts_X1_caused : GoodIn wsL_accounts wsX1_caused := goodIn_ca (goodIn_r _ [23, 6, 7, 8, 24, 25, 4, 26, 31, 32, 33, 34, 35, 36, 37, 38, 39, 40, 41, 42, 43, 44, 45, 46, 47, 48, 49, 50] (by decide +kernel) (by decide +kernel)) (goodIn_sub (fun _ h => List.mem_cons_of_mem _ (List.mem_append_right _ h)) (by decide +kernel))
set_option maxRecDepth 20000 in
theorem gL_accounts_X1_caused : GoodIn wsL_accounts (wsV RL 24 RX1 yX1_caused wsX1_caused) := goodIn_app (goodIn_of _ (by decide +kernel)) ggL_accounts_X1_caused
set_option maxRecDepth 20000 in
theorem ggL_accounts_X1_readings : GoodIn wsL_accounts wsX1_readings := goodIn_r _ [30, 8, 31, 32, 33, 34, 35, 36, 37, 38, 39, 40, 41, 42, 43, 44, 45, 46, 47, 48, 49, 50] (by decide +kernel) (by decide +kernel)
set_option maxRecDepth 20000 in
theorem gL_accounts_X1_readings : GoodIn wsL_accounts (wsV RL 27 RX1 yX1_readings wsX1_readings) := goodIn_app (goodIn_of _ (by decide +kernel)) ggL_accounts_X1_readings
theorem dL_accounts_0 : decode cL_accounts 0 = .ok (.iconst 0, 1) := by decide +kernel
theorem dL_accounts_1 : decode cL_accounts 1 = .ok (.istore_n 2, 1) := by decide +kernel
theorem dL_accounts_2 : decode cL_accounts 2 = .ok (.iconst 0, 1) := by decide +kernel
theorem dL_accounts_3 : decode cL_accounts 3 = .ok (.istore_n 3, 1) := by decide +kernel
theorem dL_accounts_4 : decode cL_accounts 4 = .ok (.iconst 0, 1) := by decide +kernel
theorem dL_accounts_5 : decode cL_accounts 5 = .ok (.istore 4, 2) := by decide +kernel
theorem dL_accounts_7 : decode cL_accounts 7 = .ok (.iconst 0, 1) := by decide +kernel
theorem dL_accounts_8 : decode cL_accounts 8 = .ok (.istore 5, 2) := by decide +kernel
theorem dL_accounts_10 : decode cL_accounts 10 = .ok (.iconst 0, 1) := by decide +kernel
theorem dL_accounts_11 : decode cL_accounts 11 = .ok (.istore 6, 2) := by decide +kernel
theorem dL_accounts_13 : decode cL_accounts 13 = .ok (.iload 6, 2) := by decide +kernel
theorem dL_accounts_15 : decode cL_accounts 15 = .ok (.iconst 4, 1) := by decide +kernel
theorem dL_accounts_16 : decode cL_accounts 16 = .ok (.if_icmp .ge 49, 3) := by decide +kernel
theorem dL_accounts_19 : decode cL_accounts 19 = .ok (.aload_n 0, 1) := by decide +kernel
theorem dL_accounts_20 : decode cL_accounts 20 = .ok (.iload 6, 2) := by decide +kernel
theorem dL_accounts_22 : decode cL_accounts 22 = .ok (.invokevirtual 14, 3) := by decide +kernel
theorem dL_accounts_25 : decode cL_accounts 25 = .ok (.ifCond .ge 5, 3) := by decide +kernel
theorem dL_accounts_28 : decode cL_accounts 28 = .ok (.iconst 0, 1) := by decide +kernel
theorem dL_accounts_29 : decode cL_accounts 29 = .ok (.ireturn, 1) := by decide +kernel
theorem dL_accounts_30 : decode cL_accounts 30 = .ok (.iload_n 2, 1) := by decide +kernel
theorem dL_accounts_31 : decode cL_accounts 31 = .ok (.aload_n 0, 1) := by decide +kernel
theorem dL_accounts_32 : decode cL_accounts 32 = .ok (.iload 6, 2) := by decide +kernel
theorem dL_accounts_34 : decode cL_accounts 34 = .ok (.invokevirtual 14, 3) := by decide +kernel
theorem dL_accounts_37 : decode cL_accounts 37 = .ok (.iadd, 1) := by decide +kernel
theorem dL_accounts_38 : decode cL_accounts 38 = .ok (.istore_n 2, 1) := by decide +kernel
theorem dL_accounts_39 : decode cL_accounts 39 = .ok (.iload_n 3, 1) := by decide +kernel
theorem dL_accounts_40 : decode cL_accounts 40 = .ok (.aload_n 0, 1) := by decide +kernel
theorem dL_accounts_41 : decode cL_accounts 41 = .ok (.iload 6, 2) := by decide +kernel
theorem dL_accounts_43 : decode cL_accounts 43 = .ok (.invokevirtual 18, 3) := by decide +kernel
theorem dL_accounts_46 : decode cL_accounts 46 = .ok (.iadd, 1) := by decide +kernel
theorem dL_accounts_47 : decode cL_accounts 47 = .ok (.istore_n 3, 1) := by decide +kernel
theorem dL_accounts_48 : decode cL_accounts 48 = .ok (.iload 5, 2) := by decide +kernel
theorem dL_accounts_50 : decode cL_accounts 50 = .ok (.aload_n 0, 1) := by decide +kernel
theorem dL_accounts_51 : decode cL_accounts 51 = .ok (.iload 6, 2) := by decide +kernel
theorem dL_accounts_53 : decode cL_accounts 53 = .ok (.invokevirtual 21, 3) := by decide +kernel
theorem dL_accounts_56 : decode cL_accounts 56 = .ok (.iadd, 1) := by decide +kernel
theorem dL_accounts_57 : decode cL_accounts 57 = .ok (.istore 5, 2) := by decide +kernel
theorem dL_accounts_59 : decode cL_accounts 59 = .ok (.iinc 6 1, 3) := by decide +kernel
theorem dL_accounts_62 : decode cL_accounts 62 = .ok (.goto (-49), 3) := by decide +kernel
theorem dL_accounts_65 : decode cL_accounts 65 = .ok (.iconst 0, 1) := by decide +kernel
theorem dL_accounts_66 : decode cL_accounts 66 = .ok (.istore 6, 2) := by decide +kernel
theorem dL_accounts_68 : decode cL_accounts 68 = .ok (.iload 6, 2) := by decide +kernel
theorem dL_accounts_70 : decode cL_accounts 70 = .ok (.iconst 5, 1) := by decide +kernel
theorem dL_accounts_71 : decode cL_accounts 71 = .ok (.if_icmp .ge 20, 3) := by decide +kernel
theorem dL_accounts_74 : decode cL_accounts 74 = .ok (.iload 4, 2) := by decide +kernel
theorem dL_accounts_76 : decode cL_accounts 76 = .ok (.aload_n 0, 1) := by decide +kernel
theorem dL_accounts_77 : decode cL_accounts 77 = .ok (.iload 6, 2) := by decide +kernel
theorem dL_accounts_79 : decode cL_accounts 79 = .ok (.invokevirtual 24, 3) := by decide +kernel
theorem dL_accounts_82 : decode cL_accounts 82 = .ok (.iadd, 1) := by decide +kernel
theorem dL_accounts_83 : decode cL_accounts 83 = .ok (.istore 4, 2) := by decide +kernel
theorem dL_accounts_85 : decode cL_accounts 85 = .ok (.iinc 6 1, 3) := by decide +kernel
theorem dL_accounts_88 : decode cL_accounts 88 = .ok (.goto (-20), 3) := by decide +kernel
theorem dL_accounts_91 : decode cL_accounts 91 = .ok (.iload_n 2, 1) := by decide +kernel
theorem dL_accounts_92 : decode cL_accounts 92 = .ok (.iload_n 3, 1) := by decide +kernel
theorem dL_accounts_93 : decode cL_accounts 93 = .ok (.iadd, 1) := by decide +kernel
theorem dL_accounts_94 : decode cL_accounts 94 = .ok (.aload_n 1, 1) := by decide +kernel
theorem dL_accounts_95 : decode cL_accounts 95 = .ok (.iconst 0, 1) := by decide +kernel
theorem dL_accounts_96 : decode cL_accounts 96 = .ok (.iaload, 1) := by decide +kernel
theorem dL_accounts_97 : decode cL_accounts 97 = .ok (.if_icmp .ne 36, 3) := by decide +kernel
theorem dL_accounts_100 : decode cL_accounts 100 = .ok (.iload 4, 2) := by decide +kernel
theorem dL_accounts_102 : decode cL_accounts 102 = .ok (.iload_n 3, 1) := by decide +kernel
theorem dL_accounts_103 : decode cL_accounts 103 = .ok (.if_icmp .ne 30, 3) := by decide +kernel
theorem dL_accounts_106 : decode cL_accounts 106 = .ok (.aload_n 0, 1) := by decide +kernel
theorem dL_accounts_107 : decode cL_accounts 107 = .ok (.invokevirtual 27, 3) := by decide +kernel
theorem dL_accounts_110 : decode cL_accounts 110 = .ok (.iload 5, 2) := by decide +kernel
theorem dL_accounts_112 : decode cL_accounts 112 = .ok (.sipush 500, 3) := by decide +kernel
theorem dL_accounts_115 : decode cL_accounts 115 = .ok (.if_icmp .ge 8, 3) := by decide +kernel
theorem dL_accounts_118 : decode cL_accounts 118 = .ok (.iload 5, 2) := by decide +kernel
theorem dL_accounts_120 : decode cL_accounts 120 = .ok (.goto 6, 3) := by decide +kernel
theorem dL_accounts_123 : decode cL_accounts 123 = .ok (.sipush 500, 3) := by decide +kernel
theorem dL_accounts_126 : decode cL_accounts 126 = .ok (.if_icmp .ne 7, 3) := by decide +kernel
theorem dL_accounts_129 : decode cL_accounts 129 = .ok (.iconst 1, 1) := by decide +kernel
theorem dL_accounts_130 : decode cL_accounts 130 = .ok (.goto 4, 3) := by decide +kernel
theorem dL_accounts_133 : decode cL_accounts 133 = .ok (.iconst 0, 1) := by decide +kernel
theorem dL_accounts_134 : decode cL_accounts 134 = .ok (.ireturn, 1) := by decide +kernel
set_option maxRecDepth 20000 in
theorem ggL_traced_X1_readings : GoodIn wsL_traced wsX1_readings := goodIn_r _ [5, 6, 22, 23, 24, 25, 26, 27, 28, 29, 30, 31, 32, 33, 34, 35, 36, 37, 38, 39, 40, 41] (by decide +kernel) (by decide +kernel)
set_option maxRecDepth 20000 in
theorem gL_traced_X1_readings : GoodIn wsL_traced (wsV RL 27 RX1 yX1_readings wsX1_readings) := goodIn_app (goodIn_of _ (by decide +kernel)) ggL_traced_X1_readings
set_option maxRecDepth 20000 in
theorem ggL_traced_X1_reading : GoodIn wsL_traced wsX1_reading := goodIn_ca (goodIn_r _ [10, 11, 12, 6, 22, 23, 24, 25, 26, 27, 28, 29, 30, 31, 32, 33, 34, 35, 36, 37, 38, 39, 40, 41] (by decide +kernel) (by decide +kernel)) (goodIn_sub (fun _ h => List.mem_cons_of_mem _ (List.mem_append_left _ (List.mem_append_right _ h))) (by decide +kernel))
set_option maxRecDepth 20000 in
theorem gL_traced_X1_reading : GoodIn wsL_traced (wsV RL 31 RX1 yX1_reading wsX1_reading) := goodIn_app (goodIn_of _ (by decide +kernel)) ggL_traced_X1_reading
set_option maxRecDepth 20000 in
theorem ggL_traced_X1_timesRead : GoodIn wsL_traced wsX1_timesRead := goodIn_ca (goodIn_r _ [16, 17, 18, 6, 19, 20, 4, 21, 22, 23, 24, 25, 26, 27, 28, 29, 30, 31, 32, 33, 34, 35, 36, 37, 38, 39, 40, 41] (by decide +kernel) (by decide +kernel)) (goodIn_sub (fun _ h => List.mem_cons_of_mem _ (List.mem_append_right _ h)) (by decide +kernel))
set_option maxRecDepth 20000 in
theorem gL_traced_X1_timesRead : GoodIn wsL_traced (wsV RL 34 RX1 yX1_timesRead wsX1_timesRead) := goodIn_app (goodIn_of _ (by decide +kernel)) ggL_traced_X1_timesRead
theorem dL_traced_0 : decode cL_traced 0 = .ok (.aload_n 2, 1) := by decide +kernel
theorem dL_traced_1 : decode cL_traced 1 = .ok (.iconst 1, 1) := by decide +kernel
theorem dL_traced_2 : decode cL_traced 2 = .ok (.iaload, 1) := by decide +kernel
theorem dL_traced_3 : decode cL_traced 3 = .ok (.istore_n 3, 1) := by decide +kernel
theorem dL_traced_4 : decode cL_traced 4 = .ok (.iload_n 3, 1) := by decide +kernel
theorem dL_traced_5 : decode cL_traced 5 = .ok (.aload_n 0, 1) := by decide +kernel
theorem dL_traced_6 : decode cL_traced 6 = .ok (.invokevirtual 27, 3) := by decide +kernel
theorem dL_traced_9 : decode cL_traced 9 = .ok (.if_icmp .ge 84, 3) := by decide +kernel
theorem dL_traced_12 : decode cL_traced 12 = .ok (.aload_n 0, 1) := by decide +kernel
theorem dL_traced_13 : decode cL_traced 13 = .ok (.iload_n 3, 1) := by decide +kernel
theorem dL_traced_14 : decode cL_traced 14 = .ok (.invokevirtual 31, 3) := by decide +kernel
theorem dL_traced_17 : decode cL_traced 17 = .ok (.istore 4, 2) := by decide +kernel
theorem dL_traced_19 : decode cL_traced 19 = .ok (.iload 4, 2) := by decide +kernel
theorem dL_traced_21 : decode cL_traced 21 = .ok (.bipush 100, 2) := by decide +kernel
theorem dL_traced_23 : decode cL_traced 23 = .ok (.idiv, 1) := by decide +kernel
theorem dL_traced_24 : decode cL_traced 24 = .ok (.bipush 100, 2) := by decide +kernel
theorem dL_traced_26 : decode cL_traced 26 = .ok (.irem, 1) := by decide +kernel
theorem dL_traced_27 : decode cL_traced 27 = .ok (.istore 5, 2) := by decide +kernel
theorem dL_traced_29 : decode cL_traced 29 = .ok (.iload 4, 2) := by decide +kernel
theorem dL_traced_31 : decode cL_traced 31 = .ok (.bipush 100, 2) := by decide +kernel
theorem dL_traced_33 : decode cL_traced 33 = .ok (.irem, 1) := by decide +kernel
theorem dL_traced_34 : decode cL_traced 34 = .ok (.istore 6, 2) := by decide +kernel
theorem dL_traced_36 : decode cL_traced 36 = .ok (.iload 4, 2) := by decide +kernel
theorem dL_traced_38 : decode cL_traced 38 = .ok (.sipush 10000, 3) := by decide +kernel
theorem dL_traced_41 : decode cL_traced 41 = .ok (.idiv, 1) := by decide +kernel
theorem dL_traced_42 : decode cL_traced 42 = .ok (.iload_n 1, 1) := by decide +kernel
theorem dL_traced_43 : decode cL_traced 43 = .ok (.if_icmp .ne 42, 3) := by decide +kernel
theorem dL_traced_46 : decode cL_traced 46 = .ok (.iload 5, 2) := by decide +kernel
theorem dL_traced_48 : decode cL_traced 48 = .ok (.bipush 23, 2) := by decide +kernel
theorem dL_traced_50 : decode cL_traced 50 = .ok (.if_icmp .gt 35, 3) := by decide +kernel
theorem dL_traced_53 : decode cL_traced 53 = .ok (.iload 6, 2) := by decide +kernel
theorem dL_traced_55 : decode cL_traced 55 = .ok (.bipush 23, 2) := by decide +kernel
theorem dL_traced_57 : decode cL_traced 57 = .ok (.if_icmp .gt 28, 3) := by decide +kernel
theorem dL_traced_60 : decode cL_traced 60 = .ok (.iload 5, 2) := by decide +kernel
theorem dL_traced_62 : decode cL_traced 62 = .ok (.bipush 6, 2) := by decide +kernel
theorem dL_traced_64 : decode cL_traced 64 = .ok (.idiv, 1) := by decide +kernel
theorem dL_traced_65 : decode cL_traced 65 = .ok (.iload 6, 2) := by decide +kernel
theorem dL_traced_67 : decode cL_traced 67 = .ok (.bipush 6, 2) := by decide +kernel
theorem dL_traced_69 : decode cL_traced 69 = .ok (.idiv, 1) := by decide +kernel
theorem dL_traced_70 : decode cL_traced 70 = .ok (.if_icmp .eq 15, 3) := by decide +kernel
theorem dL_traced_73 : decode cL_traced 73 = .ok (.aload_n 0, 1) := by decide +kernel
theorem dL_traced_74 : decode cL_traced 74 = .ok (.iload 5, 2) := by decide +kernel
theorem dL_traced_76 : decode cL_traced 76 = .ok (.iload 6, 2) := by decide +kernel
theorem dL_traced_78 : decode cL_traced 78 = .ok (.invokevirtual 34, 3) := by decide +kernel
theorem dL_traced_81 : decode cL_traced 81 = .ok (.iconst 1, 1) := by decide +kernel
theorem dL_traced_82 : decode cL_traced 82 = .ok (.if_icmp .ge 5, 3) := by decide +kernel
theorem dL_traced_85 : decode cL_traced 85 = .ok (.iconst 0, 1) := by decide +kernel
theorem dL_traced_86 : decode cL_traced 86 = .ok (.ireturn, 1) := by decide +kernel
theorem dL_traced_87 : decode cL_traced 87 = .ok (.iinc 3 1, 3) := by decide +kernel
theorem dL_traced_90 : decode cL_traced 90 = .ok (.goto (-86), 3) := by decide +kernel
theorem dL_traced_93 : decode cL_traced 93 = .ok (.aload_n 2, 1) := by decide +kernel
theorem dL_traced_94 : decode cL_traced 94 = .ok (.iconst 1, 1) := by decide +kernel
theorem dL_traced_95 : decode cL_traced 95 = .ok (.aload_n 0, 1) := by decide +kernel
theorem dL_traced_96 : decode cL_traced 96 = .ok (.invokevirtual 27, 3) := by decide +kernel
theorem dL_traced_99 : decode cL_traced 99 = .ok (.iastore, 1) := by decide +kernel
theorem dL_traced_100 : decode cL_traced 100 = .ok (.iconst 1, 1) := by decide +kernel
theorem dL_traced_101 : decode cL_traced 101 = .ok (.ireturn, 1) := by decide +kernel
set_option maxRecDepth 20000 in
theorem ggL_give_L_at : GoodIn wsL_give wsL_at := goodIn_r _ [6] (by decide +kernel) (by decide +kernel)
set_option maxRecDepth 20000 in
theorem gL_give_L_at : GoodIn wsL_give (va_wsS RL 38 yL_at wsL_at) := goodIn_app (goodIn_of _ (by decide +kernel)) ggL_give_L_at
set_option maxRecDepth 20000 in
theorem ggL_give_X1_setNumber : GoodIn wsL_give wsX1_setNumber := goodIn_ca (goodIn_r _ [11, 12, 13, 14, 15, 16, 10, 17, 18, 19, 20, 21, 22, 23, 24, 25, 26, 27, 28, 29, 30, 31, 32, 33, 34, 35, 36, 37, 38, 39, 40, 41, 42, 43, 44, 45, 46, 47, 48, 49, 50, 51, 52, 53, 54, 55, 56, 57, 58, 59, 60, 61, 62, 63, 64, 65, 66, 67, 68, 69, 70, 71, 72, 73, 74, 75, 76, 77, 78, 79, 80, 81, 82, 83, 84, 85, 86, 87, 88, 89, 90, 91, 92, 93, 94, 95, 96, 97, 98, 99, 100, 101, 102, 103, 104, 105, 106, 107, 108, 109, 110, 111, 112, 132, 133, 134, 135, 136, 137, 138, 139, 140, 141, 142, 143, 144, 145, 146, 147, 148, 149, 150, 151] (by decide +kernel) (by decide +kernel)) (goodIn_sub (fun _ h => List.mem_cons_of_mem _ (List.mem_append_left _ (List.mem_append_right _ h))) (by decide +kernel))
set_option maxRecDepth 20000 in
theorem gL_give_X1_setNumber : GoodIn wsL_give (wsV RL 45 RX1 yX1_setNumber wsX1_setNumber) := goodIn_app (goodIn_of _ (by decide +kernel)) ggL_give_X1_setNumber
set_option maxRecDepth 20000 in
theorem ggL_give_X1_setSum : GoodIn wsL_give wsX1_setSum := goodIn_ca (goodIn_ca (goodIn_r _ [116, 12, 13, 117, 118, 15, 16, 10, 17, 18, 19, 20, 21, 22, 23, 119, 120, 121, 122, 123, 37, 109, 110, 111, 112, 29, 30, 46, 47, 48, 24, 25, 26, 27, 28, 31, 32, 33, 34, 35, 36, 38, 39, 40, 41, 42, 43, 44, 45, 49, 50, 51, 52, 53, 54, 55, 56, 57, 58, 59, 60, 61, 62, 63, 64, 65, 66, 67, 68, 69, 70, 71, 72, 73, 74, 75, 76, 77, 78, 79, 80, 81, 82, 83, 84, 85, 86, 87, 88, 89, 90, 91, 92, 93, 94, 95, 96, 97, 98, 99, 100, 101, 14, 102, 103, 104, 105, 106, 107, 108, 132, 133, 134, 135, 136, 137, 138, 139, 140, 141, 142, 143, 144, 145, 146, 147, 148, 149, 150, 151] (by decide +kernel) (by decide +kernel)) (goodIn_sub (fun _ h => List.mem_cons_of_mem _ (List.mem_append_left _ (List.mem_append_right _ h))) (by decide +kernel))) (goodIn_sub (fun _ h => List.mem_cons_of_mem _ (List.mem_append_right _ h)) (by decide +kernel))
set_option maxRecDepth 20000 in
theorem gL_give_X1_setSum : GoodIn wsL_give (wsV RL 49 RX1 yX1_setSum wsX1_setSum) := goodIn_app (goodIn_of _ (by decide +kernel)) ggL_give_X1_setSum
set_option maxRecDepth 20000 in
theorem ggL_give_X1_setGreater : GoodIn wsL_give wsX1_setGreater := goodIn_ca (goodIn_ca (goodIn_r _ [127, 12, 13, 117, 118, 15, 16, 10, 17, 18, 19, 20, 119, 120, 121, 122, 123, 37, 109, 110, 111, 112, 29, 30, 46, 47, 48, 24, 25, 26, 27, 28, 31, 32, 33, 34, 35, 36, 38, 39, 40, 41, 42, 43, 44, 45, 49, 50, 51, 52, 53, 54, 55, 56, 57, 58, 59, 60, 61, 62, 63, 64, 65, 66, 67, 68, 69, 70, 71, 72, 73, 74, 75, 76, 77, 78, 79, 80, 81, 82, 83, 84, 85, 86, 87, 88, 89, 90, 91, 92, 93, 94, 95, 96, 97, 98, 99, 100, 101, 14, 102, 103, 104, 105, 106, 107, 108, 132, 133, 134, 135, 136, 137, 138, 139, 140, 141, 142, 143, 144, 145, 146, 147, 148, 149, 150, 151] (by decide +kernel) (by decide +kernel)) (goodIn_sub (fun _ h => List.mem_cons_of_mem _ (List.mem_append_left _ (List.mem_append_right _ h))) (by decide +kernel))) (goodIn_sub (fun _ h => List.mem_cons_of_mem _ (List.mem_append_right _ h)) (by decide +kernel))
set_option maxRecDepth 20000 in
theorem gL_give_X1_setGreater : GoodIn wsL_give (wsV RL 53 RX1 yX1_setGreater wsX1_setGreater) := goodIn_app (goodIn_of _ (by decide +kernel)) ggL_give_X1_setGreater
set_option maxRecDepth 20000 in
theorem ggL_give_X1_setTimes : GoodIn wsL_give wsX1_setTimes := goodIn_ca (goodIn_ca (goodIn_r _ [131, 12, 13, 117, 118, 15, 16, 10, 17, 18, 19, 20, 21, 22, 23, 119, 120, 121, 122, 123, 37, 109, 110, 111, 112, 29, 30, 46, 47, 48, 24, 25, 26, 27, 28, 31, 32, 33, 34, 35, 36, 38, 39, 40, 41, 42, 43, 44, 45, 49, 50, 51, 52, 53, 54, 55, 56, 57, 58, 59, 60, 61, 62, 63, 64, 65, 66, 67, 68, 69, 70, 71, 72, 73, 74, 75, 76, 77, 78, 79, 80, 81, 82, 83, 84, 85, 86, 87, 88, 89, 90, 91, 92, 93, 94, 95, 96, 97, 98, 99, 100, 101, 14, 102, 103, 104, 105, 106, 107, 108, 132, 133, 134, 135, 136, 137, 138, 139, 140, 141, 142, 143, 144, 145, 146, 147, 148, 149, 150, 151] (by decide +kernel) (by decide +kernel)) (goodIn_sub (fun _ h => List.mem_cons_of_mem _ (List.mem_append_left _ (List.mem_append_right _ h))) (by decide +kernel))) (goodIn_sub (fun _ h => List.mem_cons_of_mem _ (List.mem_append_right _ h)) (by decide +kernel))
set_option maxRecDepth 20000 in
theorem gL_give_X1_setTimes : GoodIn wsL_give (wsV RL 57 RX1 yX1_setTimes wsX1_setTimes) := goodIn_app (goodIn_of _ (by decide +kernel)) ggL_give_X1_setTimes
theorem dL_give_0 : decode cL_give 0 = .ok (.iload_n 1, 1) := by decide +kernel
theorem dL_give_1 : decode cL_give 1 = .ok (.bipush 24, 2) := by decide +kernel
theorem dL_give_3 : decode cL_give 3 = .ok (.invokestatic 38, 3) := by decide +kernel
theorem dL_give_6 : decode cL_give 6 = .ok (.istore 4, 2) := by decide +kernel
theorem dL_give_8 : decode cL_give 8 = .ok (.iload_n 2, 1) := by decide +kernel
theorem dL_give_9 : decode cL_give 9 = .ok (.bipush 24, 2) := by decide +kernel
theorem dL_give_11 : decode cL_give 11 = .ok (.invokestatic 38, 3) := by decide +kernel
theorem dL_give_14 : decode cL_give 14 = .ok (.istore 5, 2) := by decide +kernel
theorem dL_give_16 : decode cL_give 16 = .ok (.iload_n 2, 1) := by decide +kernel
theorem dL_give_17 : decode cL_give 17 = .ok (.iconst 5, 1) := by decide +kernel
theorem dL_give_18 : decode cL_give 18 = .ok (.ishr, 1) := by decide +kernel
theorem dL_give_19 : decode cL_give 19 = .ok (.bipush 24, 2) := by decide +kernel
theorem dL_give_21 : decode cL_give 21 = .ok (.invokestatic 38, 3) := by decide +kernel
theorem dL_give_24 : decode cL_give 24 = .ok (.istore 6, 2) := by decide +kernel
theorem dL_give_26 : decode cL_give 26 = .ok (.iload_n 1, 1) := by decide +kernel
theorem dL_give_27 : decode cL_give 27 = .ok (.iconst 5, 1) := by decide +kernel
theorem dL_give_28 : decode cL_give 28 = .ok (.ishr, 1) := by decide +kernel
theorem dL_give_29 : decode cL_give 29 = .ok (.iconst 4, 1) := by decide +kernel
theorem dL_give_30 : decode cL_give 30 = .ok (.invokestatic 38, 3) := by decide +kernel
theorem dL_give_33 : decode cL_give 33 = .ok (.istore 7, 2) := by decide +kernel
theorem dL_give_35 : decode cL_give 35 = .ok (.iload 7, 2) := by decide +kernel
theorem dL_give_37 : decode cL_give 37 = .ok (.ifCond .eq 17, 3) := by decide +kernel
theorem dL_give_40 : decode cL_give 40 = .ok (.iload 5, 2) := by decide +kernel
theorem dL_give_42 : decode cL_give 42 = .ok (.iload 4, 2) := by decide +kernel
theorem dL_give_44 : decode cL_give 44 = .ok (.if_icmp .ge 10, 3) := by decide +kernel
theorem dL_give_47 : decode cL_give 47 = .ok (.iload 6, 2) := by decide +kernel
theorem dL_give_49 : decode cL_give 49 = .ok (.iload 4, 2) := by decide +kernel
theorem dL_give_51 : decode cL_give 51 = .ok (.if_icmp .lt 20, 3) := by decide +kernel
theorem dL_give_54 : decode cL_give 54 = .ok (.aload_n 0, 1) := by decide +kernel
theorem dL_give_55 : decode cL_give 55 = .ok (.iload_n 3, 1) := by decide +kernel
theorem dL_give_56 : decode cL_give 56 = .ok (.iload 4, 2) := by decide +kernel
theorem dL_give_58 : decode cL_give 58 = .ok (.iload_n 2, 1) := by decide +kernel
theorem dL_give_59 : decode cL_give 59 = .ok (.ldc 43, 2) := by decide +kernel
theorem dL_give_61 : decode cL_give 61 = .ok (.invokestatic 38, 3) := by decide +kernel
theorem dL_give_64 : decode cL_give 64 = .ok (.ldc 44, 2) := by decide +kernel
theorem dL_give_66 : decode cL_give 66 = .ok (.isub, 1) := by decide +kernel
theorem dL_give_67 : decode cL_give 67 = .ok (.invokevirtual 45, 3) := by decide +kernel
theorem dL_give_70 : decode cL_give 70 = .ok (.ireturn, 1) := by decide +kernel
theorem dL_give_71 : decode cL_give 71 = .ok (.iload 7, 2) := by decide +kernel
theorem dL_give_73 : decode cL_give 73 = .ok (.iconst 1, 1) := by decide +kernel
theorem dL_give_74 : decode cL_give 74 = .ok (.if_icmp .ne 29, 3) := by decide +kernel
theorem dL_give_77 : decode cL_give 77 = .ok (.aload_n 0, 1) := by decide +kernel
theorem dL_give_78 : decode cL_give 78 = .ok (.iload_n 3, 1) := by decide +kernel
theorem dL_give_79 : decode cL_give 79 = .ok (.iload 4, 2) := by decide +kernel
theorem dL_give_81 : decode cL_give 81 = .ok (.iload 5, 2) := by decide +kernel
theorem dL_give_83 : decode cL_give 83 = .ok (.iload 6, 2) := by decide +kernel
theorem dL_give_85 : decode cL_give 85 = .ok (.iload_n 1, 1) := by decide +kernel
theorem dL_give_86 : decode cL_give 86 = .ok (.bipush 7, 2) := by decide +kernel
theorem dL_give_88 : decode cL_give 88 = .ok (.ishr, 1) := by decide +kernel
theorem dL_give_89 : decode cL_give 89 = .ok (.sipush 2001, 3) := by decide +kernel
theorem dL_give_92 : decode cL_give 92 = .ok (.invokestatic 38, 3) := by decide +kernel
theorem dL_give_95 : decode cL_give 95 = .ok (.sipush 1000, 3) := by decide +kernel
theorem dL_give_98 : decode cL_give 98 = .ok (.isub, 1) := by decide +kernel
theorem dL_give_99 : decode cL_give 99 = .ok (.invokevirtual 49, 3) := by decide +kernel
theorem dL_give_102 : decode cL_give 102 = .ok (.ireturn, 1) := by decide +kernel
theorem dL_give_103 : decode cL_give 103 = .ok (.iload 7, 2) := by decide +kernel
theorem dL_give_105 : decode cL_give 105 = .ok (.iconst 2, 1) := by decide +kernel
theorem dL_give_106 : decode cL_give 106 = .ok (.if_icmp .ne 17, 3) := by decide +kernel
theorem dL_give_109 : decode cL_give 109 = .ok (.aload_n 0, 1) := by decide +kernel
theorem dL_give_110 : decode cL_give 110 = .ok (.iload_n 3, 1) := by decide +kernel
theorem dL_give_111 : decode cL_give 111 = .ok (.iload 4, 2) := by decide +kernel
theorem dL_give_113 : decode cL_give 113 = .ok (.iload 5, 2) := by decide +kernel
theorem dL_give_115 : decode cL_give 115 = .ok (.iload 6, 2) := by decide +kernel
theorem dL_give_117 : decode cL_give 117 = .ok (.invokevirtual 53, 3) := by decide +kernel
theorem dL_give_120 : decode cL_give 120 = .ok (.goto 25, 3) := by decide +kernel
theorem dL_give_123 : decode cL_give 123 = .ok (.aload_n 0, 1) := by decide +kernel
theorem dL_give_124 : decode cL_give 124 = .ok (.iload_n 3, 1) := by decide +kernel
theorem dL_give_125 : decode cL_give 125 = .ok (.iload 4, 2) := by decide +kernel
theorem dL_give_127 : decode cL_give 127 = .ok (.iload 5, 2) := by decide +kernel
theorem dL_give_129 : decode cL_give 129 = .ok (.iload_n 1, 1) := by decide +kernel
theorem dL_give_130 : decode cL_give 130 = .ok (.bipush 7, 2) := by decide +kernel
theorem dL_give_132 : decode cL_give 132 = .ok (.ishr, 1) := by decide +kernel
theorem dL_give_133 : decode cL_give 133 = .ok (.sipush 201, 3) := by decide +kernel
theorem dL_give_136 : decode cL_give 136 = .ok (.invokestatic 38, 3) := by decide +kernel
theorem dL_give_139 : decode cL_give 139 = .ok (.bipush 100, 2) := by decide +kernel
theorem dL_give_141 : decode cL_give 141 = .ok (.isub, 1) := by decide +kernel
theorem dL_give_142 : decode cL_give 142 = .ok (.invokevirtual 57, 3) := by decide +kernel
theorem dL_give_145 : decode cL_give 145 = .ok (.ireturn, 1) := by decide +kernel
set_option maxRecDepth 20000 in
theorem ggL_right_L_marked : GoodIn wsL_right wsL_marked := goodIn_ca (goodIn_r _ [6, 7, 8, 9, 10, 11, 12, 13, 14, 15, 16, 17, 52, 53, 54, 55, 56, 57, 58, 59, 60, 61, 62, 63] (by decide +kernel) (by decide +kernel)) (goodIn_sub (fun _ h => List.mem_cons_of_mem _ (List.mem_append_right _ h)) (by decide +kernel))
set_option maxRecDepth 20000 in
theorem gL_right_L_marked : GoodIn wsL_right (va_wsS RL 60 yL_marked wsL_marked) := goodIn_app (goodIn_of _ (by decide +kernel)) ggL_right_L_marked
set_option maxRecDepth 20000 in
theorem ggL_right_X1_value : GoodIn wsL_right wsX1_value := goodIn_ca (goodIn_r _ [21, 12, 13, 22, 15, 16, 10, 17, 52, 53, 54, 55, 56, 57, 58, 59, 60, 61, 62, 63] (by decide +kernel) (by decide +kernel)) (goodIn_sub (fun _ h => List.mem_cons_of_mem _ (List.mem_append_right _ h)) (by decide +kernel))
set_option maxRecDepth 20000 in
theorem gL_right_X1_value : GoodIn wsL_right (wsV RL 64 RX1 yX1_value wsX1_value) := goodIn_app (goodIn_of _ (by decide +kernel)) ggL_right_X1_value
set_option maxRecDepth 20000 in
theorem ggL_right_X1_valueAnew : GoodIn wsL_right wsX1_valueAnew := goodIn_ca (goodIn_r _ [26, 12, 13, 27, 28, 15, 16, 10, 17, 29, 30, 31, 32, 33, 34, 35, 36, 37, 38, 39, 40, 41, 42, 43, 44, 45, 46, 47, 48, 49, 50, 51, 52, 53, 54, 55, 56, 57, 58, 59, 60, 61, 62, 63] (by decide +kernel) (by decide +kernel)) (goodIn_sub (fun _ h => List.mem_cons_of_mem _ (List.mem_append_right _ h)) (by decide +kernel))
set_option maxRecDepth 20000 in
theorem gL_right_X1_valueAnew : GoodIn wsL_right (wsV RL 67 RX1 yX1_valueAnew wsX1_valueAnew) := goodIn_app (goodIn_of _ (by decide +kernel)) ggL_right_X1_valueAnew
theorem dL_right_0 : decode cL_right 0 = .ok (.aload_n 0, 1) := by decide +kernel
theorem dL_right_1 : decode cL_right 1 = .ok (.invokestatic 60, 3) := by decide +kernel
theorem dL_right_4 : decode cL_right 4 = .ok (.ifCond .eq 5, 3) := by decide +kernel
theorem dL_right_7 : decode cL_right 7 = .ok (.iconst 1, 1) := by decide +kernel
theorem dL_right_8 : decode cL_right 8 = .ok (.ireturn, 1) := by decide +kernel
theorem dL_right_9 : decode cL_right 9 = .ok (.iconst 0, 1) := by decide +kernel
theorem dL_right_10 : decode cL_right 10 = .ok (.istore_n 1, 1) := by decide +kernel
theorem dL_right_11 : decode cL_right 11 = .ok (.iload_n 1, 1) := by decide +kernel
theorem dL_right_12 : decode cL_right 12 = .ok (.bipush 24, 2) := by decide +kernel
theorem dL_right_14 : decode cL_right 14 = .ok (.if_icmp .ge 44, 3) := by decide +kernel
theorem dL_right_17 : decode cL_right 17 = .ok (.aload_n 0, 1) := by decide +kernel
theorem dL_right_18 : decode cL_right 18 = .ok (.iload_n 1, 1) := by decide +kernel
theorem dL_right_19 : decode cL_right 19 = .ok (.invokevirtual 64, 3) := by decide +kernel
theorem dL_right_22 : decode cL_right 22 = .ok (.aload_n 0, 1) := by decide +kernel
theorem dL_right_23 : decode cL_right 23 = .ok (.iload_n 1, 1) := by decide +kernel
theorem dL_right_24 : decode cL_right 24 = .ok (.invokevirtual 67, 3) := by decide +kernel
theorem dL_right_27 : decode cL_right 27 = .ok (.if_icmp .ne 23, 3) := by decide +kernel
theorem dL_right_30 : decode cL_right 30 = .ok (.aload_n 0, 1) := by decide +kernel
theorem dL_right_31 : decode cL_right 31 = .ok (.iload_n 1, 1) := by decide +kernel
theorem dL_right_32 : decode cL_right 32 = .ok (.invokevirtual 64, 3) := by decide +kernel
theorem dL_right_35 : decode cL_right 35 = .ok (.ldc 44, 2) := by decide +kernel
theorem dL_right_37 : decode cL_right 37 = .ok (.if_icmp .gt 13, 3) := by decide +kernel
theorem dL_right_40 : decode cL_right 40 = .ok (.aload_n 0, 1) := by decide +kernel
theorem dL_right_41 : decode cL_right 41 = .ok (.iload_n 1, 1) := by decide +kernel
theorem dL_right_42 : decode cL_right 42 = .ok (.invokevirtual 64, 3) := by decide +kernel
theorem dL_right_45 : decode cL_right 45 = .ok (.ldc 70, 2) := by decide +kernel
theorem dL_right_47 : decode cL_right 47 = .ok (.if_icmp .ge 5, 3) := by decide +kernel
theorem dL_right_50 : decode cL_right 50 = .ok (.iconst 0, 1) := by decide +kernel
theorem dL_right_51 : decode cL_right 51 = .ok (.ireturn, 1) := by decide +kernel
theorem dL_right_52 : decode cL_right 52 = .ok (.iinc 1 1, 3) := by decide +kernel
theorem dL_right_55 : decode cL_right 55 = .ok (.goto (-44), 3) := by decide +kernel
theorem dL_right_58 : decode cL_right 58 = .ok (.iconst 1, 1) := by decide +kernel
theorem dL_right_59 : decode cL_right 59 = .ok (.ireturn, 1) := by decide +kernel
set_option maxRecDepth 20000 in
theorem ggL_law_X1_init : GoodIn wsL_law wsX1_init := goodIn_r _ [7, 8, 9, 10, 3, 11, 12, 13, 14, 15, 16, 17, 18, 19, 20, 21, 22, 23, 24, 25, 26, 27, 28, 29, 30, 31, 32, 33, 34, 35, 36, 37, 225, 226, 227, 228, 229, 230, 231, 232, 233, 234, 235, 236, 237, 238, 239, 240, 241, 242, 243, 244] (by decide +kernel) (by decide +kernel)
set_option maxRecDepth 20000 in
theorem gL_law_X1_init : GoodIn wsL_law (wsX1_init) := ggL_law_X1_init
set_option maxRecDepth 20000 in
theorem ggL_law_L_cell : GoodIn wsL_law wsL_cell := goodIn_r _ [41, 42] (by decide +kernel) (by decide +kernel)
set_option maxRecDepth 20000 in
theorem gL_law_L_cell : GoodIn wsL_law (va_wsS RL 72 yL_cell wsL_cell) := goodIn_app (goodIn_of _ (by decide +kernel)) ggL_law_L_cell
set_option maxRecDepth 20000 in
theorem ggL_law_L_at : GoodIn wsL_law wsL_at := goodIn_r _ [45] (by decide +kernel) (by decide +kernel)
set_option maxRecDepth 20000 in
theorem gL_law_L_at : GoodIn wsL_law (va_wsS RL 38 yL_at wsL_at) := goodIn_app (goodIn_of _ (by decide +kernel)) ggL_law_L_at
set_option maxRecDepth 20000 in
theorem ggL_law_L_give : GoodIn wsL_law wsL_give := goodIn_ca (goodIn_ca (goodIn_r _ [48, 49, 50, 43, 44, 40, 45, 51, 52, 53, 2, 54, 55, 56, 57, 58, 59, 60, 61, 62, 63, 64, 65, 66, 67, 68, 69, 70, 11, 12, 13, 14, 71, 72, 73, 74, 24, 18, 75, 76, 77, 78, 79, 80, 81, 82, 83, 84, 85, 86, 87, 88, 89, 23, 90, 91, 92, 93, 17, 22, 15, 94, 95, 96, 97, 98, 99, 100, 21, 101, 102, 31, 103, 104, 105, 106, 30, 107, 108, 109, 110, 32, 34, 33, 35, 37, 36, 111, 112, 113, 114, 115, 116, 117, 118, 119, 120, 121, 122, 123, 124, 125, 126, 127, 128, 129, 130, 131, 132, 133, 134, 135, 136, 137, 138, 139, 140, 141, 142, 143, 144, 145, 146, 25, 147, 148, 149, 150, 151, 152, 153, 154, 225, 226, 227, 228, 229, 230, 231, 232, 233, 234, 235, 236, 237, 238, 239, 240, 241, 242, 243, 244] (by decide +kernel) (by decide +kernel)) (goodIn_sub (fun _ h => List.mem_append_left _ (List.mem_append_left _ (List.mem_append_right _ h))) (by decide +kernel))) (goodIn_sub (fun _ h => List.mem_append_left _ (List.mem_append_right _ h)) (by decide +kernel))
set_option maxRecDepth 20000 in
theorem gL_law_L_give : GoodIn wsL_law (va_wsS RL 77 yL_give wsL_give) := goodIn_app (goodIn_of _ (by decide +kernel)) ggL_law_L_give
set_option maxRecDepth 20000 in
theorem ggL_law_L_marked : GoodIn wsL_law wsL_marked := goodIn_ca (goodIn_r _ [157, 158, 159, 160, 2, 161, 55, 56, 17, 61, 62, 63, 225, 226, 227, 228, 229, 230, 231, 232, 233, 234, 235, 236] (by decide +kernel) (by decide +kernel)) (goodIn_sub (fun _ h => List.mem_append_left _ (List.mem_append_left _ (List.mem_append_right _ h))) (by decide +kernel))
set_option maxRecDepth 20000 in
theorem gL_law_L_marked : GoodIn wsL_law (va_wsS RL 60 yL_marked wsL_marked) := goodIn_app (goodIn_of _ (by decide +kernel)) ggL_law_L_marked
set_option maxRecDepth 20000 in
theorem ggL_law_X1_refresh : GoodIn wsL_law wsX1_refresh := goodIn_ca (goodIn_r _ [165, 55, 56, 58, 59, 2, 60, 86, 87, 88, 89, 23, 129, 130, 131, 132, 18, 17, 61, 62, 63, 133, 134, 135, 136, 12, 13, 83, 84, 85, 90, 91, 92, 93, 22, 15, 94, 95, 96, 97, 98, 99, 100, 21, 101, 102, 31, 103, 104, 105, 106, 30, 107, 108, 109, 110, 32, 34, 33, 35, 37, 36, 111, 112, 113, 114, 11, 14, 115, 116, 117, 118, 119, 120, 121, 122, 123, 124, 125, 57, 126, 127, 128, 225, 226, 227, 228, 229, 230, 231, 232, 233, 234, 235, 236, 237, 238, 239, 240, 241, 242, 243, 244] (by decide +kernel) (by decide +kernel)) (goodIn_sub (fun _ h => List.mem_append_left _ (List.mem_append_left _ (List.mem_append_right _ h))) (by decide +kernel))
set_option maxRecDepth 20000 in
theorem gL_law_X1_refresh : GoodIn wsL_law (wsV RL 81 RX1 yX1_refresh wsX1_refresh) := goodIn_app (goodIn_of _ (by decide +kernel)) ggL_law_X1_refresh
set_option maxRecDepth 20000 in
theorem ggL_law_X1_setPrice : GoodIn wsL_law wsX1_setPrice := goodIn_ca (goodIn_r _ [169, 55, 56, 22, 170, 171, 2, 172, 225, 226, 227, 228, 229, 230, 231, 232, 233, 234, 235, 236, 237, 238, 239, 240, 241, 242, 243, 244] (by decide +kernel) (by decide +kernel)) (goodIn_sub (fun _ h => List.mem_append_left _ (List.mem_append_left _ (List.mem_append_right _ h))) (by decide +kernel))
set_option maxRecDepth 20000 in
theorem gL_law_X1_setPrice : GoodIn wsL_law (wsV RL 84 RX1 yX1_setPrice wsX1_setPrice) := goodIn_app (goodIn_of _ (by decide +kernel)) ggL_law_X1_setPrice
set_option maxRecDepth 20000 in
theorem ggL_law_X1_budget : GoodIn wsL_law wsX1_budget := goodIn_ca (goodIn_r _ [176, 55, 56, 22, 170, 171, 2, 172, 225, 226, 227, 228, 229, 230, 231, 232, 233, 234, 235, 236, 237, 238, 239, 240, 241, 242, 243, 244] (by decide +kernel) (by decide +kernel)) (goodIn_sub (fun _ h => List.mem_append_left _ (List.mem_append_left _ (List.mem_append_right _ h))) (by decide +kernel))
set_option maxRecDepth 20000 in
theorem gL_law_X1_budget : GoodIn wsL_law (wsV RL 14 RX1 yX1_budget wsX1_budget) := goodIn_app (goodIn_of _ (by decide +kernel)) ggL_law_X1_budget
set_option maxRecDepth 20000 in
theorem ggL_law_X1_grant : GoodIn wsL_law wsX1_grant := goodIn_ca (goodIn_r _ [180, 55, 56, 22, 170, 171, 2, 172, 225, 226, 227, 228, 229, 230, 231, 232, 233, 234, 235, 236, 237, 238, 239, 240, 241, 242, 243, 244] (by decide +kernel) (by decide +kernel)) (goodIn_sub (fun _ h => List.mem_append_left _ (List.mem_append_left _ (List.mem_append_right _ h))) (by decide +kernel))
set_option maxRecDepth 20000 in
theorem gL_law_X1_grant : GoodIn wsL_law (wsV RL 87 RX1 yX1_grant wsX1_grant) := goodIn_app (goodIn_of _ (by decide +kernel)) ggL_law_X1_grant
set_option maxRecDepth 20000 in
theorem ggL_law_L_traced : GoodIn wsL_law wsL_traced := goodIn_ca (goodIn_ca (goodIn_r _ [183, 184, 185, 186, 2, 187, 22, 188, 189, 190, 191, 192, 193, 194, 195, 196, 197, 55, 56, 61, 62, 63, 225, 226, 227, 228, 229, 230, 231, 232, 233, 234, 235, 236, 237, 238, 239, 240, 241, 242, 243, 244] (by decide +kernel) (by decide +kernel)) (goodIn_sub (fun _ h => List.mem_append_right _ h) (by decide +kernel))) (goodIn_sub (fun _ h => List.mem_append_left _ (List.mem_append_left _ (List.mem_append_right _ h))) (by decide +kernel))
set_option maxRecDepth 20000 in
theorem gL_law_L_traced : GoodIn wsL_law (va_wsS RL 90 yL_traced wsL_traced) := goodIn_app (goodIn_of _ (by decide +kernel)) ggL_law_L_traced
set_option maxRecDepth 20000 in
theorem ggL_law_L_accounts : GoodIn wsL_law wsL_accounts := goodIn_ca (goodIn_r _ [200, 173, 174, 175, 2, 176, 55, 56, 22, 170, 171, 172, 201, 202, 203, 204, 205, 206, 207, 208, 209, 210, 211, 212, 58, 59, 60, 184, 185, 186, 187, 225, 226, 227, 228, 229, 230, 231, 232, 233, 234, 235, 236, 237, 238, 239, 240, 241, 242, 243, 244] (by decide +kernel) (by decide +kernel)) (goodIn_sub (fun _ h => List.mem_append_left _ (List.mem_append_left _ (List.mem_append_right _ h))) (by decide +kernel))
set_option maxRecDepth 20000 in
theorem gL_law_L_accounts : GoodIn wsL_law (va_wsS RL 94 yL_accounts wsL_accounts) := goodIn_app (goodIn_of _ (by decide +kernel)) ggL_law_L_accounts
set_option maxRecDepth 20000 in
theorem ggL_law_L_right : GoodIn wsL_law wsL_right := goodIn_ca (goodIn_r _ [215, 50, 216, 155, 156, 40, 157, 158, 159, 160, 2, 161, 55, 56, 17, 61, 62, 63, 217, 218, 219, 220, 15, 221, 222, 223, 224, 18, 26, 111, 112, 113, 114, 12, 13, 11, 14, 115, 116, 117, 118, 119, 120, 121, 122, 123, 124, 125, 57, 126, 127, 128, 225, 226, 227, 228, 229, 230, 231, 232, 233, 234, 235, 236] (by decide +kernel) (by decide +kernel)) (goodIn_sub (fun _ h => List.mem_append_left _ (List.mem_append_left _ (List.mem_append_right _ h))) (by decide +kernel))
set_option maxRecDepth 20000 in
theorem gL_law_L_right : GoodIn wsL_law (va_wsS RL 98 yL_right wsL_right) := goodIn_app (goodIn_of _ (by decide +kernel)) ggL_law_L_right
theorem dL_law_0 : decode cL_law 0 = .ok (.new 9, 3) := by decide +kernel
theorem dL_law_3 : decode cL_law 3 = .ok (.dup, 1) := by decide +kernel
theorem dL_law_4 : decode cL_law 4 = .ok (.invokespecial 71, 3) := by decide +kernel
theorem dL_law_7 : decode cL_law 7 = .ok (.astore_n 1, 1) := by decide +kernel
theorem dL_law_8 : decode cL_law 8 = .ok (.iconst 2, 1) := by decide +kernel
theorem dL_law_9 : decode cL_law 9 = .ok (.newarray .int, 2) := by decide +kernel
theorem dL_law_11 : decode cL_law 11 = .ok (.astore_n 2, 1) := by decide +kernel
theorem dL_law_12 : decode cL_law 12 = .ok (.aload_n 2, 1) := by decide +kernel
theorem dL_law_13 : decode cL_law 13 = .ok (.iconst 0, 1) := by decide +kernel
theorem dL_law_14 : decode cL_law 14 = .ok (.sipush 400, 3) := by decide +kernel
theorem dL_law_17 : decode cL_law 17 = .ok (.iastore, 1) := by decide +kernel
theorem dL_law_18 : decode cL_law 18 = .ok (.iconst 0, 1) := by decide +kernel
theorem dL_law_19 : decode cL_law 19 = .ok (.istore_n 3, 1) := by decide +kernel
theorem dL_law_20 : decode cL_law 20 = .ok (.iload_n 3, 1) := by decide +kernel
theorem dL_law_21 : decode cL_law 21 = .ok (.bipush 40, 2) := by decide +kernel
theorem dL_law_23 : decode cL_law 23 = .ok (.if_icmp .ge 260, 3) := by decide +kernel
theorem dL_law_26 : decode cL_law 26 = .ok (.aload_n 0, 1) := by decide +kernel
theorem dL_law_27 : decode cL_law 27 = .ok (.iconst 2, 1) := by decide +kernel
theorem dL_law_28 : decode cL_law 28 = .ok (.iload_n 3, 1) := by decide +kernel
theorem dL_law_29 : decode cL_law 29 = .ok (.imul, 1) := by decide +kernel
theorem dL_law_30 : decode cL_law 30 = .ok (.invokestatic 72, 3) := by decide +kernel
theorem dL_law_33 : decode cL_law 33 = .ok (.ldc 76, 2) := by decide +kernel
theorem dL_law_35 : decode cL_law 35 = .ok (.iand, 1) := by decide +kernel
theorem dL_law_36 : decode cL_law 36 = .ok (.istore 4, 2) := by decide +kernel
theorem dL_law_38 : decode cL_law 38 = .ok (.aload_n 0, 1) := by decide +kernel
theorem dL_law_39 : decode cL_law 39 = .ok (.iconst 2, 1) := by decide +kernel
theorem dL_law_40 : decode cL_law 40 = .ok (.iload_n 3, 1) := by decide +kernel
theorem dL_law_41 : decode cL_law 41 = .ok (.imul, 1) := by decide +kernel
theorem dL_law_42 : decode cL_law 42 = .ok (.iconst 1, 1) := by decide +kernel
theorem dL_law_43 : decode cL_law 43 = .ok (.iadd, 1) := by decide +kernel
theorem dL_law_44 : decode cL_law 44 = .ok (.invokestatic 72, 3) := by decide +kernel
theorem dL_law_47 : decode cL_law 47 = .ok (.ldc 76, 2) := by decide +kernel
theorem dL_law_49 : decode cL_law 49 = .ok (.iand, 1) := by decide +kernel
theorem dL_law_50 : decode cL_law 50 = .ok (.istore 5, 2) := by decide +kernel
theorem dL_law_52 : decode cL_law 52 = .ok (.iload 4, 2) := by decide +kernel
theorem dL_law_54 : decode cL_law 54 = .ok (.iconst 3, 1) := by decide +kernel
theorem dL_law_55 : decode cL_law 55 = .ok (.ishr, 1) := by decide +kernel
theorem dL_law_56 : decode cL_law 56 = .ok (.iconst 5, 1) := by decide +kernel
theorem dL_law_57 : decode cL_law 57 = .ok (.invokestatic 38, 3) := by decide +kernel
theorem dL_law_60 : decode cL_law 60 = .ok (.istore 6, 2) := by decide +kernel
theorem dL_law_62 : decode cL_law 62 = .ok (.iload 4, 2) := by decide +kernel
theorem dL_law_64 : decode cL_law 64 = .ok (.bipush 8, 2) := by decide +kernel
theorem dL_law_66 : decode cL_law 66 = .ok (.invokestatic 38, 3) := by decide +kernel
theorem dL_law_69 : decode cL_law 69 = .ok (.istore 7, 2) := by decide +kernel
theorem dL_law_71 : decode cL_law 71 = .ok (.iload 7, 2) := by decide +kernel
theorem dL_law_73 : decode cL_law 73 = .ok (.iconst 5, 1) := by decide +kernel
theorem dL_law_74 : decode cL_law 74 = .ok (.if_icmp .ge 36, 3) := by decide +kernel
theorem dL_law_77 : decode cL_law 77 = .ok (.aload_n 1, 1) := by decide +kernel
theorem dL_law_78 : decode cL_law 78 = .ok (.iload 4, 2) := by decide +kernel
theorem dL_law_80 : decode cL_law 80 = .ok (.bipush 6, 2) := by decide +kernel
theorem dL_law_82 : decode cL_law 82 = .ok (.ishr, 1) := by decide +kernel
theorem dL_law_83 : decode cL_law 83 = .ok (.iload 5, 2) := by decide +kernel
theorem dL_law_85 : decode cL_law 85 = .ok (.iload 6, 2) := by decide +kernel
theorem dL_law_87 : decode cL_law 87 = .ok (.invokestatic 77, 3) := by decide +kernel
theorem dL_law_90 : decode cL_law 90 = .ok (.istore 8, 2) := by decide +kernel
theorem dL_law_92 : decode cL_law 92 = .ok (.iload 8, 2) := by decide +kernel
theorem dL_law_94 : decode cL_law 94 = .ok (.iconst 1, 1) := by decide +kernel
theorem dL_law_95 : decode cL_law 95 = .ok (.if_icmp .lt 10, 3) := by decide +kernel
theorem dL_law_98 : decode cL_law 98 = .ok (.iload 8, 2) := by decide +kernel
theorem dL_law_100 : decode cL_law 100 = .ok (.bipush 24, 2) := by decide +kernel
theorem dL_law_102 : decode cL_law 102 = .ok (.if_icmp .le 5, 3) := by decide +kernel
theorem dL_law_105 : decode cL_law 105 = .ok (.iconst 0, 1) := by decide +kernel
theorem dL_law_106 : decode cL_law 106 = .ok (.ireturn, 1) := by decide +kernel
theorem dL_law_107 : decode cL_law 107 = .ok (.goto 136, 3) := by decide +kernel
theorem dL_law_110 : decode cL_law 110 = .ok (.iload 7, 2) := by decide +kernel
theorem dL_law_112 : decode cL_law 112 = .ok (.iconst 5, 1) := by decide +kernel
theorem dL_law_113 : decode cL_law 113 = .ok (.if_icmp .ne 44, 3) := by decide +kernel
theorem dL_law_116 : decode cL_law 116 = .ok (.aload_n 1, 1) := by decide +kernel
theorem dL_law_117 : decode cL_law 117 = .ok (.invokestatic 60, 3) := by decide +kernel
theorem dL_law_120 : decode cL_law 120 = .ok (.istore 8, 2) := by decide +kernel
theorem dL_law_122 : decode cL_law 122 = .ok (.aload_n 1, 1) := by decide +kernel
theorem dL_law_123 : decode cL_law 123 = .ok (.iload 6, 2) := by decide +kernel
theorem dL_law_125 : decode cL_law 125 = .ok (.invokevirtual 81, 3) := by decide +kernel
theorem dL_law_128 : decode cL_law 128 = .ok (.istore 9, 2) := by decide +kernel
theorem dL_law_130 : decode cL_law 130 = .ok (.iload 9, 2) := by decide +kernel
theorem dL_law_132 : decode cL_law 132 = .ok (.ifCond .lt 20, 3) := by decide +kernel
theorem dL_law_135 : decode cL_law 135 = .ok (.iload 9, 2) := by decide +kernel
theorem dL_law_137 : decode cL_law 137 = .ok (.bipush 24, 2) := by decide +kernel
theorem dL_law_139 : decode cL_law 139 = .ok (.if_icmp .gt 13, 3) := by decide +kernel
theorem dL_law_142 : decode cL_law 142 = .ok (.iload 8, 2) := by decide +kernel
theorem dL_law_144 : decode cL_law 144 = .ok (.ifCond .ne 10, 3) := by decide +kernel
theorem dL_law_147 : decode cL_law 147 = .ok (.iload 9, 2) := by decide +kernel
theorem dL_law_149 : decode cL_law 149 = .ok (.ifCond .eq 5, 3) := by decide +kernel
theorem dL_law_152 : decode cL_law 152 = .ok (.iconst 0, 1) := by decide +kernel
theorem dL_law_153 : decode cL_law 153 = .ok (.ireturn, 1) := by decide +kernel
theorem dL_law_154 : decode cL_law 154 = .ok (.goto 89, 3) := by decide +kernel
theorem dL_law_157 : decode cL_law 157 = .ok (.iload 7, 2) := by decide +kernel
theorem dL_law_159 : decode cL_law 159 = .ok (.bipush 6, 2) := by decide +kernel
theorem dL_law_161 : decode cL_law 161 = .ok (.if_icmp .ne 27, 3) := by decide +kernel
theorem dL_law_164 : decode cL_law 164 = .ok (.aload_n 1, 1) := by decide +kernel
theorem dL_law_165 : decode cL_law 165 = .ok (.iload 5, 2) := by decide +kernel
theorem dL_law_167 : decode cL_law 167 = .ok (.iconst 4, 1) := by decide +kernel
theorem dL_law_168 : decode cL_law 168 = .ok (.invokestatic 38, 3) := by decide +kernel
theorem dL_law_171 : decode cL_law 171 = .ok (.iload 5, 2) := by decide +kernel
theorem dL_law_173 : decode cL_law 173 = .ok (.iconst 3, 1) := by decide +kernel
theorem dL_law_174 : decode cL_law 174 = .ok (.ishr, 1) := by decide +kernel
theorem dL_law_175 : decode cL_law 175 = .ok (.bipush 30, 2) := by decide +kernel
theorem dL_law_177 : decode cL_law 177 = .ok (.invokestatic 38, 3) := by decide +kernel
theorem dL_law_180 : decode cL_law 180 = .ok (.invokevirtual 84, 3) := by decide +kernel
theorem dL_law_183 : decode cL_law 183 = .ok (.ifCond .ge 60, 3) := by decide +kernel
theorem dL_law_186 : decode cL_law 186 = .ok (.iconst 0, 1) := by decide +kernel
theorem dL_law_187 : decode cL_law 187 = .ok (.ireturn, 1) := by decide +kernel
theorem dL_law_188 : decode cL_law 188 = .ok (.iload 5, 2) := by decide +kernel
theorem dL_law_190 : decode cL_law 190 = .ok (.iconst 4, 1) := by decide +kernel
theorem dL_law_191 : decode cL_law 191 = .ok (.invokestatic 38, 3) := by decide +kernel
theorem dL_law_194 : decode cL_law 194 = .ok (.istore 8, 2) := by decide +kernel
theorem dL_law_196 : decode cL_law 196 = .ok (.aload_n 1, 1) := by decide +kernel
theorem dL_law_197 : decode cL_law 197 = .ok (.iload 8, 2) := by decide +kernel
theorem dL_law_199 : decode cL_law 199 = .ok (.invokevirtual 14, 3) := by decide +kernel
theorem dL_law_202 : decode cL_law 202 = .ok (.istore 9, 2) := by decide +kernel
theorem dL_law_204 : decode cL_law 204 = .ok (.iconst 1, 1) := by decide +kernel
theorem dL_law_205 : decode cL_law 205 = .ok (.iload 5, 2) := by decide +kernel
theorem dL_law_207 : decode cL_law 207 = .ok (.iconst 3, 1) := by decide +kernel
theorem dL_law_208 : decode cL_law 208 = .ok (.ishr, 1) := by decide +kernel
theorem dL_law_209 : decode cL_law 209 = .ok (.bipush 90, 2) := by decide +kernel
theorem dL_law_211 : decode cL_law 211 = .ok (.invokestatic 38, 3) := by decide +kernel
theorem dL_law_214 : decode cL_law 214 = .ok (.iadd, 1) := by decide +kernel
theorem dL_law_215 : decode cL_law 215 = .ok (.istore 10, 2) := by decide +kernel
theorem dL_law_217 : decode cL_law 217 = .ok (.aload_n 1, 1) := by decide +kernel
theorem dL_law_218 : decode cL_law 218 = .ok (.iload 8, 2) := by decide +kernel
theorem dL_law_220 : decode cL_law 220 = .ok (.iload 10, 2) := by decide +kernel
theorem dL_law_222 : decode cL_law 222 = .ok (.invokevirtual 87, 3) := by decide +kernel
theorem dL_law_225 : decode cL_law 225 = .ok (.iload 9, 2) := by decide +kernel
theorem dL_law_227 : decode cL_law 227 = .ok (.iload 10, 2) := by decide +kernel
theorem dL_law_229 : decode cL_law 229 = .ok (.iadd, 1) := by decide +kernel
theorem dL_law_230 : decode cL_law 230 = .ok (.if_icmp .eq 5, 3) := by decide +kernel
theorem dL_law_233 : decode cL_law 233 = .ok (.iconst 0, 1) := by decide +kernel
theorem dL_law_234 : decode cL_law 234 = .ok (.ireturn, 1) := by decide +kernel
theorem dL_law_235 : decode cL_law 235 = .ok (.aload_n 2, 1) := by decide +kernel
theorem dL_law_236 : decode cL_law 236 = .ok (.iconst 0, 1) := by decide +kernel
theorem dL_law_237 : decode cL_law 237 = .ok (.dup2, 1) := by decide +kernel
theorem dL_law_238 : decode cL_law 238 = .ok (.iaload, 1) := by decide +kernel
theorem dL_law_239 : decode cL_law 239 = .ok (.iload 10, 2) := by decide +kernel
theorem dL_law_241 : decode cL_law 241 = .ok (.iadd, 1) := by decide +kernel
theorem dL_law_242 : decode cL_law 242 = .ok (.iastore, 1) := by decide +kernel
theorem dL_law_243 : decode cL_law 243 = .ok (.aload_n 1, 1) := by decide +kernel
theorem dL_law_244 : decode cL_law 244 = .ok (.iload 6, 2) := by decide +kernel
theorem dL_law_246 : decode cL_law 246 = .ok (.aload_n 2, 1) := by decide +kernel
theorem dL_law_247 : decode cL_law 247 = .ok (.invokestatic 90, 3) := by decide +kernel
theorem dL_law_250 : decode cL_law 250 = .ok (.ifCond .eq 25, 3) := by decide +kernel
theorem dL_law_253 : decode cL_law 253 = .ok (.aload_n 1, 1) := by decide +kernel
theorem dL_law_254 : decode cL_law 254 = .ok (.aload_n 2, 1) := by decide +kernel
theorem dL_law_255 : decode cL_law 255 = .ok (.invokestatic 94, 3) := by decide +kernel
theorem dL_law_258 : decode cL_law 258 = .ok (.ifCond .eq 17, 3) := by decide +kernel
theorem dL_law_261 : decode cL_law 261 = .ok (.iload_n 3, 1) := by decide +kernel
theorem dL_law_262 : decode cL_law 262 = .ok (.iconst 4, 1) := by decide +kernel
theorem dL_law_263 : decode cL_law 263 = .ok (.irem, 1) := by decide +kernel
theorem dL_law_264 : decode cL_law 264 = .ok (.iconst 3, 1) := by decide +kernel
theorem dL_law_265 : decode cL_law 265 = .ok (.if_icmp .ne 12, 3) := by decide +kernel
theorem dL_law_268 : decode cL_law 268 = .ok (.aload_n 1, 1) := by decide +kernel
theorem dL_law_269 : decode cL_law 269 = .ok (.invokestatic 98, 3) := by decide +kernel
theorem dL_law_272 : decode cL_law 272 = .ok (.ifCond .ne 5, 3) := by decide +kernel
theorem dL_law_275 : decode cL_law 275 = .ok (.iconst 0, 1) := by decide +kernel
theorem dL_law_276 : decode cL_law 276 = .ok (.ireturn, 1) := by decide +kernel
theorem dL_law_277 : decode cL_law 277 = .ok (.iinc 3 1, 3) := by decide +kernel
theorem dL_law_280 : decode cL_law 280 = .ok (.goto (-260), 3) := by decide +kernel
theorem dL_law_283 : decode cL_law 283 = .ok (.iconst 1, 1) := by decide +kernel
theorem dL_law_284 : decode cL_law 284 = .ok (.ireturn, 1) := by decide +kernel
abbrev vwCl : List vw_C := [(RX0, TX0, 8), (RX1, TX1, 12)]
