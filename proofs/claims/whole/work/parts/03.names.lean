/-! ===== BEGIN printed: names, fields, word lists, decode rows ===== -/
def RX0 : String := "SalaryCapLedger$Books"
def TX0 : u_T := fun k => match k with
  | 0 => ("SalaryCapLedger$Books", "players", "[LSalaryCapLedger$Player;", true)
  | 1 => ("SalaryCapLedger$Books", "teams", "[LSalaryCapLedger$Team;", true)
  | 2 => ("SalaryCapLedger$Books", "offered", "LSalaryCapLedger$Deal;", true)
  | _ => ("SalaryCapLedger$Books", "now", "I", false)
def tyX0 : Nat → FieldType := fun k => match k with
  | 0 => .array (.object "SalaryCapLedger$Player")
  | 1 => .array (.object "SalaryCapLedger$Team")
  | 2 => .object "SalaryCapLedger$Deal"
  | _ => .int
abbrev wsX00 : List Cond := u_ws RX0 TX0 4
theorem nmX0 : ∀ a, a < 4 → ∀ b, b < 4 → a ≠ b → (TX0 a).2.1 ≠ (TX0 b).2.1 := by decide +kernel
theorem tyX0_ok : ∀ k, k < 4 → parseFieldDescriptor (TX0 k).2.2.1 = some (tyX0 k) := by decide +kernel
abbrev cX0_init : ByteArray := prog_2_method_1_code
def yX0_init : MethodName := ⟨RX0, "<init>", "()V"⟩
abbrev cX0_clear : ByteArray := prog_2_method_2_code
def yX0_clear : MethodName := ⟨RX0, "clear", "()V"⟩
abbrev cX0_copyFrom : ByteArray := prog_2_method_3_code
def yX0_copyFrom : MethodName := ⟨RX0, "copyFrom", "(LSalaryCapLedger$Books;)V"⟩
abbrev cX0_refillMidLevel : ByteArray := prog_2_method_4_code
def yX0_refillMidLevel : MethodName := ⟨RX0, "refillMidLevel", "(I)V"⟩
abbrev cX0_playsFor : ByteArray := prog_2_method_5_code
def yX0_playsFor : MethodName := ⟨RX0, "playsFor", "(II)Z"⟩
abbrev cX0_playersOf : ByteArray := prog_2_method_6_code
def yX0_playersOf : MethodName := ⟨RX0, "playersOf", "(I)I"⟩
abbrev cX0_chargeIn : ByteArray := prog_2_method_7_code
def yX0_chargeIn : MethodName := ⟨RX0, "chargeIn", "(II)I"⟩
abbrev cX0_chargeNow : ByteArray := prog_2_method_8_code
def yX0_chargeNow : MethodName := ⟨RX0, "chargeNow", "(I)I"⟩
abbrev cX0_salariesNow : ByteArray := prog_2_method_9_code
def yX0_salariesNow : MethodName := ⟨RX0, "salariesNow", "(I)I"⟩
abbrev cX0_chargeChange : ByteArray := prog_2_method_10_code
def yX0_chargeChange : MethodName := ⟨RX0, "chargeChange", "(II)I"⟩
abbrev cX0_dismiss : ByteArray := prog_2_method_11_code
def yX0_dismiss : MethodName := ⟨RX0, "dismiss", "(IZ)I"⟩
abbrev cX0_move : ByteArray := prog_2_method_12_code
def yX0_move : MethodName := ⟨RX0, "move", "(III)V"⟩
abbrev cX0_endYear : ByteArray := prog_2_method_13_code
def yX0_endYear : MethodName := ⟨RX0, "endYear", "(I)V"⟩
def RX1 : String := "SalaryCapLedger$Deal"
def TX1 : u_T := fun k => match k with
  | 0 => ("SalaryCapLedger$Deal", "base", "I", false)
  | 1 => ("SalaryCapLedger$Deal", "raise", "I", false)
  | 2 => ("SalaryCapLedger$Deal", "length", "I", false)
  | 3 => ("SalaryCapLedger$Deal", "bonus", "I", false)
  | _ => ("SalaryCapLedger$Deal", "guaranteed", "I", false)
def tyX1 : Nat → FieldType := fun k => match k with
  | 0 => .int
  | 1 => .int
  | 2 => .int
  | 3 => .int
  | _ => .int
abbrev wsX10 : List Cond := u_ws RX1 TX1 5
theorem nmX1 : ∀ a, a < 5 → ∀ b, b < 5 → a ≠ b → (TX1 a).2.1 ≠ (TX1 b).2.1 := by decide +kernel
theorem tyX1_ok : ∀ k, k < 5 → parseFieldDescriptor (TX1 k).2.2.1 = some (tyX1 k) := by decide +kernel
abbrev cX1_init : ByteArray := prog_3_method_1_code
def yX1_init : MethodName := ⟨RX1, "<init>", "()V"⟩
abbrev cX1_agree : ByteArray := prog_3_method_2_code
def yX1_agree : MethodName := ⟨RX1, "agree", "(IIIII)V"⟩
abbrev cX1_copyFrom : ByteArray := prog_3_method_3_code
def yX1_copyFrom : MethodName := ⟨RX1, "copyFrom", "(LSalaryCapLedger$Deal;)V"⟩
abbrev cX1_salaryOf : ByteArray := prog_3_method_4_code
def yX1_salaryOf : MethodName := ⟨RX1, "salaryOf", "(I)I"⟩
abbrev cX1_shareOf : ByteArray := prog_3_method_5_code
def yX1_shareOf : MethodName := ⟨RX1, "shareOf", "(I)I"⟩
abbrev cX1_sharesFrom : ByteArray := prog_3_method_6_code
def yX1_sharesFrom : MethodName := ⟨RX1, "sharesFrom", "(I)I"⟩
abbrev cX1_guaranteedFrom : ByteArray := prog_3_method_7_code
def yX1_guaranteedFrom : MethodName := ⟨RX1, "guaranteedFrom", "(I)I"⟩
abbrev cX1_stretchedPart : ByteArray := prog_3_method_8_code
def yX1_stretchedPart : MethodName := ⟨RX1, "stretchedPart", "(II)I"⟩
abbrev cX1_guaranteedPart : ByteArray := prog_3_method_9_code
def yX1_guaranteedPart : MethodName := ⟨RX1, "guaranteedPart", "(II)I"⟩
def RX2 : String := "SalaryCapLedger$History"
def TX2 : u_T := fun k => match k with
  | 0 => ("SalaryCapLedger$History", "earlier", "[LSalaryCapLedger$Books;", true)
  | 1 => ("SalaryCapLedger$History", "next", "I", false)
  | _ => ("SalaryCapLedger$History", "count", "I", false)
def tyX2 : Nat → FieldType := fun k => match k with
  | 0 => .array (.object "SalaryCapLedger$Books")
  | 1 => .int
  | _ => .int
abbrev wsX20 : List Cond := u_ws RX2 TX2 3
theorem nmX2 : ∀ a, a < 3 → ∀ b, b < 3 → a ≠ b → (TX2 a).2.1 ≠ (TX2 b).2.1 := by decide +kernel
theorem tyX2_ok : ∀ k, k < 3 → parseFieldDescriptor (TX2 k).2.2.1 = some (tyX2 k) := by decide +kernel
abbrev cX2_init : ByteArray := prog_4_method_1_code
def yX2_init : MethodName := ⟨RX2, "<init>", "()V"⟩
abbrev cX2_forget : ByteArray := prog_4_method_2_code
def yX2_forget : MethodName := ⟨RX2, "forget", "()V"⟩
abbrev cX2_remember : ByteArray := prog_4_method_3_code
def yX2_remember : MethodName := ⟨RX2, "remember", "(LSalaryCapLedger$Books;)V"⟩
abbrev cX2_restoreTo : ByteArray := prog_4_method_4_code
def yX2_restoreTo : MethodName := ⟨RX2, "restoreTo", "(LSalaryCapLedger$Books;)V"⟩
def RX3 : String := "SalaryCapLedger$Player"
def TX3 : u_T := fun k => match k with
  | 0 => ("SalaryCapLedger$Player", "team", "I", false)
  | 1 => ("SalaryCapLedger$Player", "lastTeam", "I", false)
  | 2 => ("SalaryCapLedger$Player", "tenure", "I", false)
  | 3 => ("SalaryCapLedger$Player", "start", "I", false)
  | _ => ("SalaryCapLedger$Player", "deal", "LSalaryCapLedger$Deal;", true)
def tyX3 : Nat → FieldType := fun k => match k with
  | 0 => .int
  | 1 => .int
  | 2 => .int
  | 3 => .int
  | _ => .object "SalaryCapLedger$Deal"
abbrev wsX30 : List Cond := u_ws RX3 TX3 5
theorem nmX3 : ∀ a, a < 5 → ∀ b, b < 5 → a ≠ b → (TX3 a).2.1 ≠ (TX3 b).2.1 := by decide +kernel
theorem tyX3_ok : ∀ k, k < 5 → parseFieldDescriptor (TX3 k).2.2.1 = some (tyX3 k) := by decide +kernel
abbrev cX3_init : ByteArray := prog_5_method_1_code
def yX3_init : MethodName := ⟨RX3, "<init>", "()V"⟩
abbrev cX3_hasContract : ByteArray := prog_5_method_2_code
def yX3_hasContract : MethodName := ⟨RX3, "hasContract", "()Z"⟩
abbrev cX3_becomeUnknown : ByteArray := prog_5_method_3_code
def yX3_becomeUnknown : MethodName := ⟨RX3, "becomeUnknown", "()V"⟩
abbrev cX3_copyFrom : ByteArray := prog_5_method_4_code
def yX3_copyFrom : MethodName := ⟨RX3, "copyFrom", "(LSalaryCapLedger$Player;)V"⟩
abbrev cX3_begin : ByteArray := prog_5_method_5_code
def yX3_begin : MethodName := ⟨RX3, "begin", "(IILSalaryCapLedger$Deal;)V"⟩
abbrev cX3_endYear : ByteArray := prog_5_method_6_code
def yX3_endYear : MethodName := ⟨RX3, "endYear", "(I)V"⟩
abbrev cX3_salaryIn : ByteArray := prog_5_method_7_code
def yX3_salaryIn : MethodName := ⟨RX3, "salaryIn", "(I)I"⟩
abbrev cX3_shareIn : ByteArray := prog_5_method_8_code
def yX3_shareIn : MethodName := ⟨RX3, "shareIn", "(I)I"⟩
abbrev cX3_costIn : ByteArray := prog_5_method_9_code
def yX3_costIn : MethodName := ⟨RX3, "costIn", "(I)I"⟩
abbrev cX3_sharesLeft : ByteArray := prog_5_method_10_code
def yX3_sharesLeft : MethodName := ⟨RX3, "sharesLeft", "(I)I"⟩
abbrev cX3_releaseCostAhead : ByteArray := prog_5_method_11_code
def yX3_releaseCostAhead : MethodName := ⟨RX3, "releaseCostAhead", "(IZI)I"⟩
abbrev cX3_wholeReleaseCost : ByteArray := prog_5_method_12_code
def yX3_wholeReleaseCost : MethodName := ⟨RX3, "wholeReleaseCost", "(I)I"⟩
abbrev cX3_gainIfReleased : ByteArray := prog_5_method_13_code
def yX3_gainIfReleased : MethodName := ⟨RX3, "gainIfReleased", "(IZ)I"⟩
def RX4 : String := "SalaryCapLedger$Reader"
def TX4 : u_T := fun k => match k with
  | 0 => ("SalaryCapLedger$Reader", "errorCode", "I", false)
  | 1 => ("SalaryCapLedger$Reader", "errorAt", "I", false)
  | 2 => ("SalaryCapLedger$Reader", "contracts", "I", false)
  | 3 => ("SalaryCapLedger$Reader", "text", "[B", false)
  | 4 => ("SalaryCapLedger$Reader", "length", "I", false)
  | 5 => ("SalaryCapLedger$Reader", "end", "I", false)
  | 6 => ("SalaryCapLedger$Reader", "kind", "I", false)
  | 7 => ("SalaryCapLedger$Reader", "start", "I", false)
  | 8 => ("SalaryCapLedger$Reader", "value", "I", false)
  | 9 => ("SalaryCapLedger$Reader", "numberAt", "I", false)
  | _ => ("SalaryCapLedger$Reader", "deal", "LSalaryCapLedger$Deal;", true)
def tyX4 : Nat → FieldType := fun k => match k with
  | 0 => .int
  | 1 => .int
  | 2 => .int
  | 3 => .array .byte
  | 4 => .int
  | 5 => .int
  | 6 => .int
  | 7 => .int
  | 8 => .int
  | 9 => .int
  | _ => .object "SalaryCapLedger$Deal"
abbrev wsX40 : List Cond := u_ws RX4 TX4 11
theorem nmX4 : ∀ a, a < 11 → ∀ b, b < 11 → a ≠ b → (TX4 a).2.1 ≠ (TX4 b).2.1 := by decide +kernel
theorem tyX4_ok : ∀ k, k < 11 → parseFieldDescriptor (TX4 k).2.2.1 = some (tyX4 k) := by decide +kernel
abbrev cX4_init : ByteArray := prog_6_method_1_code
def yX4_init : MethodName := ⟨RX4, "<init>", "()V"⟩
abbrev cX4_failed : ByteArray := prog_6_method_2_code
def yX4_failed : MethodName := ⟨RX4, "failed", "()Z"⟩
abbrev cX4_readText : ByteArray := prog_6_method_3_code
def yX4_readText : MethodName := ⟨RX4, "readText", "([BILSalaryCapLedger$Terms;LSalaryCapLedger$Books;)V"⟩
abbrev cX4_readLeague : ByteArray := prog_6_method_4_code
def yX4_readLeague : MethodName := ⟨RX4, "readLeague", "(LSalaryCapLedger$Terms;)V"⟩
abbrev cX4_readBrackets : ByteArray := prog_6_method_5_code
def yX4_readBrackets : MethodName := ⟨RX4, "readBrackets", "(LSalaryCapLedger$Terms;)V"⟩
abbrev cX4_readContract : ByteArray := prog_6_method_6_code
def yX4_readContract : MethodName := ⟨RX4, "readContract", "(LSalaryCapLedger$Terms;LSalaryCapLedger$Books;)V"⟩
abbrev cX4_fail : ByteArray := prog_6_method_7_code
def yX4_fail : MethodName := ⟨RX4, "fail", "(II)V"⟩
abbrev cX4_isWord : ByteArray := prog_6_method_8_code
def yX4_isWord : MethodName := ⟨RX4, "isWord", "(Ljava/lang/String;)Z"⟩
abbrev cX4_takeWord : ByteArray := prog_6_method_9_code
def yX4_takeWord : MethodName := ⟨RX4, "takeWord", "(Ljava/lang/String;)V"⟩
abbrev cX4_takeSemicolon : ByteArray := prog_6_method_10_code
def yX4_takeSemicolon : MethodName := ⟨RX4, "takeSemicolon", "()V"⟩
abbrev cX4_takeNumber : ByteArray := prog_6_method_11_code
def yX4_takeNumber : MethodName := ⟨RX4, "takeNumber", "(II)I"⟩
abbrev cX4_findToken : ByteArray := prog_6_method_12_code
def yX4_findToken : MethodName := ⟨RX4, "findToken", "()V"⟩
abbrev cX4_findNumber : ByteArray := prog_6_method_13_code
def yX4_findNumber : MethodName := ⟨RX4, "findNumber", "()V"⟩
abbrev cX4_isLetter : ByteArray := prog_6_method_14_code
def yX4_isLetter : MethodName := ⟨RX4, "isLetter", "(I)Z"⟩
abbrev cX4_isDigit : ByteArray := prog_6_method_15_code
def yX4_isDigit : MethodName := ⟨RX4, "isDigit", "(I)Z"⟩
def RX5 : String := "SalaryCapLedger$Releases"
def TX5 : u_T := fun k => match k with
  | 0 => ("SalaryCapLedger$Releases", "numbers", "[I", true)
  | 1 => ("SalaryCapLedger$Releases", "gains", "[I", true)
  | 2 => ("SalaryCapLedger$Releases", "costs", "[I", true)
  | _ => ("SalaryCapLedger$Releases", "size", "I", false)
def tyX5 : Nat → FieldType := fun k => match k with
  | 0 => .array .int
  | 1 => .array .int
  | 2 => .array .int
  | _ => .int
abbrev wsX50 : List Cond := u_ws RX5 TX5 4
theorem nmX5 : ∀ a, a < 4 → ∀ b, b < 4 → a ≠ b → (TX5 a).2.1 ≠ (TX5 b).2.1 := by decide +kernel
theorem tyX5_ok : ∀ k, k < 4 → parseFieldDescriptor (TX5 k).2.2.1 = some (tyX5 k) := by decide +kernel
abbrev cX5_init : ByteArray := prog_7_method_1_code
def yX5_init : MethodName := ⟨RX5, "<init>", "()V"⟩
abbrev cX5_consider : ByteArray := prog_7_method_2_code
def yX5_consider : MethodName := ⟨RX5, "consider", "(LSalaryCapLedger$Books;I)V"⟩
abbrev cX5_fewest : ByteArray := prog_7_method_3_code
def yX5_fewest : MethodName := ⟨RX5, "fewest", "(I)I"⟩
abbrev cX5_greatestGain : ByteArray := prog_7_method_4_code
def yX5_greatestGain : MethodName := ⟨RX5, "greatestGain", "(I)I"⟩
abbrev cX5_cheapestSet : ByteArray := prog_7_method_5_code
def yX5_cheapestSet : MethodName := ⟨RX5, "cheapestSet", "(I)I"⟩
abbrev cX5_sumAt : ByteArray := prog_7_method_6_code
def yX5_sumAt : MethodName := ⟨RX5, "sumAt", "([II)I"⟩
abbrev cX5_numbersAt : ByteArray := prog_7_method_7_code
def yX5_numbersAt : MethodName := ⟨RX5, "numbersAt", "(I)I"⟩
def RX6 : String := "SalaryCapLedger$Team"
def TX6 : u_T := fun k => match k with
  | 0 => ("SalaryCapLedger$Team", "dead", "[I", true)
  | 1 => ("SalaryCapLedger$Team", "taxesPaid", "J", false)
  | 2 => ("SalaryCapLedger$Team", "taxedSet", "I", false)
  | _ => ("SalaryCapLedger$Team", "midLevelLeft", "I", false)
def tyX6 : Nat → FieldType := fun k => match k with
  | 0 => .array .int
  | 1 => .long
  | 2 => .int
  | _ => .int
abbrev wsX60 : List Cond := u_ws RX6 TX6 4
theorem nmX6 : ∀ a, a < 4 → ∀ b, b < 4 → a ≠ b → (TX6 a).2.1 ≠ (TX6 b).2.1 := by decide +kernel
theorem tyX6_ok : ∀ k, k < 4 → parseFieldDescriptor (TX6 k).2.2.1 = some (tyX6 k) := by decide +kernel
abbrev cX6_init : ByteArray := prog_8_method_1_code
def yX6_init : MethodName := ⟨RX6, "<init>", "()V"⟩
abbrev cX6_clear : ByteArray := prog_8_method_2_code
def yX6_clear : MethodName := ⟨RX6, "clear", "()V"⟩
abbrev cX6_copyFrom : ByteArray := prog_8_method_3_code
def yX6_copyFrom : MethodName := ⟨RX6, "copyFrom", "(LSalaryCapLedger$Team;)V"⟩
abbrev cX6_deadIn : ByteArray := prog_8_method_4_code
def yX6_deadIn : MethodName := ⟨RX6, "deadIn", "(I)I"⟩
abbrev cX6_addDead : ByteArray := prog_8_method_5_code
def yX6_addDead : MethodName := ⟨RX6, "addDead", "(II)V"⟩
def RX7 : String := "SalaryCapLedger$Terms"
def TX7 : u_T := fun k => match k with
  | 0 => ("SalaryCapLedger$Terms", "caps", "[I", true)
  | 1 => ("SalaryCapLedger$Terms", "taxLines", "[I", true)
  | 2 => ("SalaryCapLedger$Terms", "sizes", "[I", true)
  | 3 => ("SalaryCapLedger$Terms", "rates", "[I", true)
  | 4 => ("SalaryCapLedger$Terms", "bracketCount", "I", false)
  | 5 => ("SalaryCapLedger$Terms", "midLevelAmount", "I", false)
  | 6 => ("SalaryCapLedger$Terms", "minimumSalary", "I", false)
  | 7 => ("SalaryCapLedger$Terms", "teamCount", "I", false)
  | _ => ("SalaryCapLedger$Terms", "playerCount", "I", false)
def tyX7 : Nat → FieldType := fun k => match k with
  | 0 => .array .int
  | 1 => .array .int
  | 2 => .array .int
  | 3 => .array .int
  | 4 => .int
  | 5 => .int
  | 6 => .int
  | 7 => .int
  | _ => .int
abbrev wsX70 : List Cond := u_ws RX7 TX7 9
theorem nmX7 : ∀ a, a < 9 → ∀ b, b < 9 → a ≠ b → (TX7 a).2.1 ≠ (TX7 b).2.1 := by decide +kernel
theorem tyX7_ok : ∀ k, k < 9 → parseFieldDescriptor (TX7 k).2.2.1 = some (tyX7 k) := by decide +kernel
abbrev cX7_init : ByteArray := prog_9_method_1_code
def yX7_init : MethodName := ⟨RX7, "<init>", "()V"⟩
abbrev cX7_growLines : ByteArray := prog_9_method_2_code
def yX7_growLines : MethodName := ⟨RX7, "growLines", "(III)V"⟩
abbrev cX7_addBracket : ByteArray := prog_9_method_3_code
def yX7_addBracket : MethodName := ⟨RX7, "addBracket", "(II)V"⟩
abbrev cX7_capIn : ByteArray := prog_9_method_4_code
def yX7_capIn : MethodName := ⟨RX7, "capIn", "(I)I"⟩
abbrev cX7_taxLineIn : ByteArray := prog_9_method_5_code
def yX7_taxLineIn : MethodName := ⟨RX7, "taxLineIn", "(I)I"⟩
abbrev cX7_isTaxed : ByteArray := prog_9_method_6_code
def yX7_isTaxed : MethodName := ⟨RX7, "isTaxed", "(II)Z"⟩
abbrev cX7_taxOf : ByteArray := prog_9_method_7_code
def yX7_taxOf : MethodName := ⟨RX7, "taxOf", "(III)J"⟩
abbrev cX7_isTaxedOften : ByteArray := prog_9_method_8_code
def yX7_isTaxedOften : MethodName := ⟨RX7, "isTaxedOften", "(II)Z"⟩
def RX8 : String := "SalaryCapLedger"
def TX8 : u_T := fun k => match k with
  | 0 => ("SalaryCapLedger", "text", "[B", true)
  | 1 => ("SalaryCapLedger", "textLength", "I", false)
  | 2 => ("SalaryCapLedger", "errorAt", "I", false)
  | 3 => ("SalaryCapLedger", "reader", "LSalaryCapLedger$Reader;", true)
  | 4 => ("SalaryCapLedger", "history", "LSalaryCapLedger$History;", true)
  | 5 => ("SalaryCapLedger", "releases", "LSalaryCapLedger$Releases;", true)
  | 6 => ("SalaryCapLedger", "loaded", "Z", false)
  | 7 => ("SalaryCapLedger", "terms", "LSalaryCapLedger$Terms;", false)
  | 8 => ("SalaryCapLedger", "books", "LSalaryCapLedger$Books;", false)
  | 9 => ("SalaryCapLedger", "spareTerms", "LSalaryCapLedger$Terms;", false)
  | _ => ("SalaryCapLedger", "spareBooks", "LSalaryCapLedger$Books;", false)
def tyX8 : Nat → FieldType := fun k => match k with
  | 0 => .array .byte
  | 1 => .int
  | 2 => .int
  | 3 => .object "SalaryCapLedger$Reader"
  | 4 => .object "SalaryCapLedger$History"
  | 5 => .object "SalaryCapLedger$Releases"
  | 6 => .boolean
  | 7 => .object "SalaryCapLedger$Terms"
  | 8 => .object "SalaryCapLedger$Books"
  | 9 => .object "SalaryCapLedger$Terms"
  | _ => .object "SalaryCapLedger$Books"
abbrev wsX80 : List Cond := u_ws RX8 TX8 11
theorem nmX8 : ∀ a, a < 11 → ∀ b, b < 11 → a ≠ b → (TX8 a).2.1 ≠ (TX8 b).2.1 := by decide +kernel
theorem tyX8_ok : ∀ k, k < 11 → parseFieldDescriptor (TX8 k).2.2.1 = some (tyX8 k) := by decide +kernel
abbrev cX8_init : ByteArray := prog_1_method_1_code
def yX8_init : MethodName := ⟨RX8, "<init>", "()V"⟩
abbrev cX8_append : ByteArray := prog_1_method_2_code
def yX8_append : MethodName := ⟨RX8, "append", "(IIIII)I"⟩
abbrev cX8_appendWord : ByteArray := prog_1_method_3_code
def yX8_appendWord : MethodName := ⟨RX8, "appendWord", "(I)V"⟩
abbrev cX8_truncate : ByteArray := prog_1_method_4_code
def yX8_truncate : MethodName := ⟨RX8, "truncate", "(I)I"⟩
abbrev cX8_load : ByteArray := prog_1_method_5_code
def yX8_load : MethodName := ⟨RX8, "load", "()I"⟩
abbrev cX8_useSpareLeague : ByteArray := prog_1_method_6_code
def yX8_useSpareLeague : MethodName := ⟨RX8, "useSpareLeague", "()V"⟩
abbrev cX8_errorPosition : ByteArray := prog_1_method_7_code
def yX8_errorPosition : MethodName := ⟨RX8, "errorPosition", "()I"⟩
abbrev cX8_makeOffer : ByteArray := prog_1_method_8_code
def yX8_makeOffer : MethodName := ⟨RX8, "makeOffer", "(IIIII)I"⟩
abbrev cX8_sign : ByteArray := prog_1_method_9_code
def yX8_sign : MethodName := ⟨RX8, "sign", "(III)I"⟩
abbrev cX8_release : ByteArray := prog_1_method_10_code
def yX8_release : MethodName := ⟨RX8, "release", "(IZ)I"⟩
abbrev cX8_trade : ByteArray := prog_1_method_11_code
def yX8_trade : MethodName := ⟨RX8, "trade", "(IIII)I"⟩
abbrev cX8_nextYear : ByteArray := prog_1_method_12_code
def yX8_nextYear : MethodName := ⟨RX8, "nextYear", "()J"⟩
abbrev cX8_payTax : ByteArray := prog_1_method_13_code
def yX8_payTax : MethodName := ⟨RX8, "payTax", "(I)J"⟩
abbrev cX8_year : ByteArray := prog_1_method_14_code
def yX8_year : MethodName := ⟨RX8, "year", "()I"⟩
abbrev cX8_cap : ByteArray := prog_1_method_15_code
def yX8_cap : MethodName := ⟨RX8, "cap", "(I)I"⟩
abbrev cX8_taxLine : ByteArray := prog_1_method_16_code
def yX8_taxLine : MethodName := ⟨RX8, "taxLine", "(I)I"⟩
abbrev cX8_offer : ByteArray := prog_1_method_17_code
def yX8_offer : MethodName := ⟨RX8, "offer", "(I)I"⟩
abbrev cX8_charge : ByteArray := prog_1_method_18_code
def yX8_charge : MethodName := ⟨RX8, "charge", "(II)I"⟩
abbrev cX8_deadMoney : ByteArray := prog_1_method_19_code
def yX8_deadMoney : MethodName := ⟨RX8, "deadMoney", "(II)I"⟩
abbrev cX8_room : ByteArray := prog_1_method_20_code
def yX8_room : MethodName := ⟨RX8, "room", "(I)I"⟩
abbrev cX8_tax : ByteArray := prog_1_method_21_code
def yX8_tax : MethodName := ⟨RX8, "tax", "(I)J"⟩
abbrev cX8_paid : ByteArray := prog_1_method_22_code
def yX8_paid : MethodName := ⟨RX8, "paid", "(I)J"⟩
abbrev cX8_taxedYears : ByteArray := prog_1_method_23_code
def yX8_taxedYears : MethodName := ⟨RX8, "taxedYears", "(I)I"⟩
abbrev cX8_midLevel : ByteArray := prog_1_method_24_code
def yX8_midLevel : MethodName := ⟨RX8, "midLevel", "(I)I"⟩
abbrev cX8_roster : ByteArray := prog_1_method_25_code
def yX8_roster : MethodName := ⟨RX8, "roster", "(I)I"⟩
abbrev cX8_teamRank : ByteArray := prog_1_method_26_code
def yX8_teamRank : MethodName := ⟨RX8, "teamRank", "(II)I"⟩
abbrev cX8_teamsBefore : ByteArray := prog_1_method_27_code
def yX8_teamsBefore : MethodName := ⟨RX8, "teamsBefore", "(II)I"⟩
abbrev cX8_teamMeasure : ByteArray := prog_1_method_28_code
def yX8_teamMeasure : MethodName := ⟨RX8, "teamMeasure", "(II)J"⟩
abbrev cX8_playerValue : ByteArray := prog_1_method_29_code
def yX8_playerValue : MethodName := ⟨RX8, "playerValue", "(II)I"⟩
abbrev cX8_contractValue : ByteArray := prog_1_method_30_code
def yX8_contractValue : MethodName := ⟨RX8, "contractValue", "(LSalaryCapLedger$Player;I)I"⟩
abbrev cX8_salary : ByteArray := prog_1_method_31_code
def yX8_salary : MethodName := ⟨RX8, "salary", "(II)I"⟩
abbrev cX8_share : ByteArray := prog_1_method_32_code
def yX8_share : MethodName := ⟨RX8, "share", "(II)I"⟩
abbrev cX8_playerRank : ByteArray := prog_1_method_33_code
def yX8_playerRank : MethodName := ⟨RX8, "playerRank", "(I)I"⟩
abbrev cX8_playersBefore : ByteArray := prog_1_method_34_code
def yX8_playersBefore : MethodName := ⟨RX8, "playersBefore", "(I)I"⟩
abbrev cX8_meanSalary : ByteArray := prog_1_method_35_code
def yX8_meanSalary : MethodName := ⟨RX8, "meanSalary", "(I)D"⟩
abbrev cX8_signCode : ByteArray := prog_1_method_36_code
def yX8_signCode : MethodName := ⟨RX8, "signCode", "(III)I"⟩
abbrev cX8_bestRule : ByteArray := prog_1_method_37_code
def yX8_bestRule : MethodName := ⟨RX8, "bestRule", "(II)I"⟩
abbrev cX8_greatestBase : ByteArray := prog_1_method_38_code
def yX8_greatestBase : MethodName := ⟨RX8, "greatestBase", "(III)I"⟩
abbrev cX8_signError : ByteArray := prog_1_method_39_code
def yX8_signError : MethodName := ⟨RX8, "signError", "(III)I"⟩
abbrev cX8_placeError : ByteArray := prog_1_method_40_code
def yX8_placeError : MethodName := ⟨RX8, "placeError", "(II)I"⟩
abbrev cX8_baseLimit : ByteArray := prog_1_method_41_code
def yX8_baseLimit : MethodName := ⟨RX8, "baseLimit", "(III)I"⟩
abbrev cX8_releaseCost : ByteArray := prog_1_method_42_code
def yX8_releaseCost : MethodName := ⟨RX8, "releaseCost", "(IZI)I"⟩
abbrev cX8_releaseGain : ByteArray := prog_1_method_43_code
def yX8_releaseGain : MethodName := ⟨RX8, "releaseGain", "(IZ)I"⟩
abbrev cX8_fewestReleases : ByteArray := prog_1_method_44_code
def yX8_fewestReleases : MethodName := ⟨RX8, "fewestReleases", "(I)I"⟩
abbrev cX8_releaseSet : ByteArray := prog_1_method_45_code
def yX8_releaseSet : MethodName := ⟨RX8, "releaseSet", "(I)I"⟩
abbrev cX8_tradeCode : ByteArray := prog_1_method_46_code
def yX8_tradeCode : MethodName := ⟨RX8, "tradeCode", "(IIII)I"⟩
abbrev cX8_tradeError : ByteArray := prog_1_method_47_code
def yX8_tradeError : MethodName := ⟨RX8, "tradeError", "(IIII)I"⟩
abbrev cX8_salariesMatch : ByteArray := prog_1_method_48_code
def yX8_salariesMatch : MethodName := ⟨RX8, "salariesMatch", "(III)Z"⟩
abbrev cX8_swapMatches : ByteArray := prog_1_method_49_code
def yX8_swapMatches : MethodName := ⟨RX8, "swapMatches", "(IIII)Z"⟩
abbrev cX8_swapCount : ByteArray := prog_1_method_50_code
def yX8_swapCount : MethodName := ⟨RX8, "swapCount", "(II)I"⟩
abbrev cX8_bestSwap : ByteArray := prog_1_method_51_code
def yX8_bestSwap : MethodName := ⟨RX8, "bestSwap", "(II)I"⟩
abbrev cX8_taxAhead : ByteArray := prog_1_method_52_code
def yX8_taxAhead : MethodName := ⟨RX8, "taxAhead", "(II)J"⟩
abbrev cX8_undo : ByteArray := prog_1_method_53_code
def yX8_undo : MethodName := ⟨RX8, "undo", "()I"⟩
abbrev cX8_roomOf : ByteArray := prog_1_method_54_code
def yX8_roomOf : MethodName := ⟨RX8, "roomOf", "(I)I"⟩
abbrev cX8_taxOn : ByteArray := prog_1_method_55_code
def yX8_taxOn : MethodName := ⟨RX8, "taxOn", "(II)J"⟩
abbrev cX8_requireLeague : ByteArray := prog_1_method_56_code
def yX8_requireLeague : MethodName := ⟨RX8, "requireLeague", "()V"⟩
abbrev cX8_requireTeam : ByteArray := prog_1_method_57_code
def yX8_requireTeam : MethodName := ⟨RX8, "requireTeam", "(I)V"⟩
abbrev cX8_requirePlayer : ByteArray := prog_1_method_58_code
def yX8_requirePlayer : MethodName := ⟨RX8, "requirePlayer", "(I)V"⟩
abbrev cX8_requireTwoTeams : ByteArray := prog_1_method_59_code
def yX8_requireTwoTeams : MethodName := ⟨RX8, "requireTwoTeams", "(II)V"⟩
abbrev cX8_requireTrade : ByteArray := prog_1_method_60_code
def yX8_requireTrade : MethodName := ⟨RX8, "requireTrade", "(IIII)V"⟩
abbrev cX8_requireNotNegative : ByteArray := prog_1_method_61_code
def yX8_requireNotNegative : MethodName := ⟨RX8, "requireNotNegative", "(I)V"⟩
abbrev cX8_requireRange : ByteArray := prog_1_method_62_code
def yX8_requireRange : MethodName := ⟨RX8, "requireRange", "(III)V"⟩
def RX9 : String := "SalaryCapLedgerModel"
def TX9 : u_T := fun k => match k with
  | 0 => ("SalaryCapLedgerModel", "row", "[J", true)
  | 1 => ("SalaryCapLedgerModel", "past", "[J", true)
  | 2 => ("SalaryCapLedgerModel", "actions", "I", false)
  | 3 => ("SalaryCapLedgerModel", "isLoaded", "Z", false)
  | 4 => ("SalaryCapLedgerModel", "thrown", "I", false)
  | 5 => ("SalaryCapLedgerModel", "teams", "I", false)
  | 6 => ("SalaryCapLedgerModel", "players", "I", false)
  | 7 => ("SalaryCapLedgerModel", "brackets", "I", false)
  | 8 => ("SalaryCapLedgerModel", "firstCap", "I", false)
  | 9 => ("SalaryCapLedgerModel", "firstLine", "I", false)
  | 10 => ("SalaryCapLedgerModel", "growth", "I", false)
  | 11 => ("SalaryCapLedgerModel", "midLevel", "I", false)
  | 12 => ("SalaryCapLedgerModel", "minimum", "I", false)
  | 13 => ("SalaryCapLedgerModel", "sizes", "[I", true)
  | 14 => ("SalaryCapLedgerModel", "rates", "[I", true)
  | 15 => ("SalaryCapLedgerModel", "buffer", "[I", true)
  | 16 => ("SalaryCapLedgerModel", "buffered", "I", false)
  | 17 => ("SalaryCapLedgerModel", "textSize", "I", false)
  | 18 => ("SalaryCapLedgerModel", "at", "I", false)
  | 19 => ("SalaryCapLedgerModel", "start", "I", false)
  | 20 => ("SalaryCapLedgerModel", "token", "I", false)
  | 21 => ("SalaryCapLedgerModel", "number", "I", false)
  | 22 => ("SalaryCapLedgerModel", "errorCode", "I", false)
  | 23 => ("SalaryCapLedgerModel", "errorAt", "I", false)
  | 24 => ("SalaryCapLedgerModel", "draft", "[I", true)
  | 25 => ("SalaryCapLedgerModel", "draftBracket", "[I", true)
  | 26 => ("SalaryCapLedgerModel", "draftBrackets", "I", false)
  | 27 => ("SalaryCapLedgerModel", "draftPlayer", "[I", true)
  | 28 => ("SalaryCapLedgerModel", "draftContracts", "I", false)
  | 29 => ("SalaryCapLedgerModel", "aside", "[J", true)
  | 30 => ("SalaryCapLedgerModel", "dead", "[I", true)
  | 31 => ("SalaryCapLedgerModel", "gains", "[I", true)
  | 32 => ("SalaryCapLedgerModel", "costs", "[I", true)
  | 33 => ("SalaryCapLedgerModel", "swaps", "I", false)
  | _ => ("SalaryCapLedgerModel", "swapBest", "I", false)
def tyX9 : Nat → FieldType := fun k => match k with
  | 0 => .array .long
  | 1 => .array .long
  | 2 => .int
  | 3 => .boolean
  | 4 => .int
  | 5 => .int
  | 6 => .int
  | 7 => .int
  | 8 => .int
  | 9 => .int
  | 10 => .int
  | 11 => .int
  | 12 => .int
  | 13 => .array .int
  | 14 => .array .int
  | 15 => .array .int
  | 16 => .int
  | 17 => .int
  | 18 => .int
  | 19 => .int
  | 20 => .int
  | 21 => .int
  | 22 => .int
  | 23 => .int
  | 24 => .array .int
  | 25 => .array .int
  | 26 => .int
  | 27 => .array .int
  | 28 => .int
  | 29 => .array .long
  | 30 => .array .int
  | 31 => .array .int
  | 32 => .array .int
  | 33 => .int
  | _ => .int
abbrev wsX90 : List Cond := u_ws RX9 TX9 35
theorem nmX9 : ∀ a, a < 35 → ∀ b, b < 35 → a ≠ b → (TX9 a).2.1 ≠ (TX9 b).2.1 := by decide +kernel
theorem tyX9_ok : ∀ k, k < 35 → parseFieldDescriptor (TX9 k).2.2.1 = some (tyX9 k) := by decide +kernel
abbrev cX9_init : ByteArray := prog_11_method_1_code
def yX9_init : MethodName := ⟨RX9, "<init>", "()V"⟩
abbrev cX9_thrown : ByteArray := prog_11_method_2_code
def yX9_thrown : MethodName := ⟨RX9, "thrown", "()I"⟩
abbrev cX9_isIn : ByteArray := prog_11_method_3_code
def yX9_isIn : MethodName := ⟨RX9, "isIn", "(JJJ)Z"⟩
abbrev cX9_has : ByteArray := prog_11_method_4_code
def yX9_has : MethodName := ⟨RX9, "has", "(II)Z"⟩
abbrev cX9_many : ByteArray := prog_11_method_5_code
def yX9_many : MethodName := ⟨RX9, "many", "(I)I"⟩
abbrev cX9_isWrong : ByteArray := prog_11_method_6_code
def yX9_isWrong : MethodName := ⟨RX9, "isWrong", "(Z)Z"⟩
abbrev cX9_put : ByteArray := prog_11_method_7_code
def yX9_put : MethodName := ⟨RX9, "put", "(I)V"⟩
abbrev cX9_append : ByteArray := prog_11_method_8_code
def yX9_append : MethodName := ⟨RX9, "append", "(IIIII)I"⟩
abbrev cX9_truncate : ByteArray := prog_11_method_9_code
def yX9_truncate : MethodName := ⟨RX9, "truncate", "(I)I"⟩
abbrev cX9_byteAt : ByteArray := prog_11_method_10_code
def yX9_byteAt : MethodName := ⟨RX9, "byteAt", "(I)I"⟩
abbrev cX9_isLetterAt : ByteArray := prog_11_method_11_code
def yX9_isLetterAt : MethodName := ⟨RX9, "isLetterAt", "(I)Z"⟩
abbrev cX9_isDigitAt : ByteArray := prog_11_method_12_code
def yX9_isDigitAt : MethodName := ⟨RX9, "isDigitAt", "(I)Z"⟩
abbrev cX9_isFine : ByteArray := prog_11_method_13_code
def yX9_isFine : MethodName := ⟨RX9, "isFine", "()Z"⟩
abbrev cX9_next : ByteArray := prog_11_method_14_code
def yX9_next : MethodName := ⟨RX9, "next", "()V"⟩
abbrev cX9_fail : ByteArray := prog_11_method_15_code
def yX9_fail : MethodName := ⟨RX9, "fail", "(I)V"⟩
abbrev cX9_isWord : ByteArray := prog_11_method_16_code
def yX9_isWord : MethodName := ⟨RX9, "isWord", "(Ljava/lang/String;)Z"⟩
abbrev cX9_expect : ByteArray := prog_11_method_17_code
def yX9_expect : MethodName := ⟨RX9, "expect", "(Ljava/lang/String;)V"⟩
abbrev cX9_read : ByteArray := prog_11_method_18_code
def yX9_read : MethodName := ⟨RX9, "read", "(II)I"⟩
abbrev cX9_expectSemicolon : ByteArray := prog_11_method_19_code
def yX9_expectSemicolon : MethodName := ⟨RX9, "expectSemicolon", "()V"⟩
abbrev cX9_readLeague : ByteArray := prog_11_method_20_code
def yX9_readLeague : MethodName := ⟨RX9, "readLeague", "()V"⟩
abbrev cX9_readBrackets : ByteArray := prog_11_method_21_code
def yX9_readBrackets : MethodName := ⟨RX9, "readBrackets", "()V"⟩
abbrev cX9_draftRoster : ByteArray := prog_11_method_22_code
def yX9_draftRoster : MethodName := ⟨RX9, "draftRoster", "(I)I"⟩
abbrev cX9_readTaker : ByteArray := prog_11_method_23_code
def yX9_readTaker : MethodName := ⟨RX9, "readTaker", "(IZ)I"⟩
abbrev cX9_readContract : ByteArray := prog_11_method_24_code
def yX9_readContract : MethodName := ⟨RX9, "readContract", "()V"⟩
abbrev cX9_load : ByteArray := prog_11_method_25_code
def yX9_load : MethodName := ⟨RX9, "load", "()I"⟩
abbrev cX9_takeOver : ByteArray := prog_11_method_26_code
def yX9_takeOver : MethodName := ⟨RX9, "takeOver", "()V"⟩
abbrev cX9_errorPosition : ByteArray := prog_11_method_27_code
def yX9_errorPosition : MethodName := ⟨RX9, "errorPosition", "()I"⟩
abbrev cX9_ofPlayer : ByteArray := prog_11_method_28_code
def yX9_ofPlayer : MethodName := ⟨RX9, "ofPlayer", "(II)I"⟩
abbrev cX9_putPlayer : ByteArray := prog_11_method_29_code
def yX9_putPlayer : MethodName := ⟨RX9, "putPlayer", "(III)V"⟩
abbrev cX9_ofTeam : ByteArray := prog_11_method_30_code
def yX9_ofTeam : MethodName := ⟨RX9, "ofTeam", "(II)J"⟩
abbrev cX9_addTeam : ByteArray := prog_11_method_31_code
def yX9_addTeam : MethodName := ⟨RX9, "addTeam", "(IIJ)V"⟩
abbrev cX9_now : ByteArray := prog_11_method_32_code
def yX9_now : MethodName := ⟨RX9, "now", "()I"⟩
abbrev cX9_remember : ByteArray := prog_11_method_33_code
def yX9_remember : MethodName := ⟨RX9, "remember", "()V"⟩
abbrev cX9_undo : ByteArray := prog_11_method_34_code
def yX9_undo : MethodName := ⟨RX9, "undo", "()I"⟩
abbrev cX9_putAside : ByteArray := prog_11_method_35_code
def yX9_putAside : MethodName := ⟨RX9, "putAside", "()V"⟩
abbrev cX9_takeBack : ByteArray := prog_11_method_36_code
def yX9_takeBack : MethodName := ⟨RX9, "takeBack", "()V"⟩
abbrev cX9_isTeam : ByteArray := prog_11_method_37_code
def yX9_isTeam : MethodName := ⟨RX9, "isTeam", "(I)Z"⟩
abbrev cX9_isPlayer : ByteArray := prog_11_method_38_code
def yX9_isPlayer : MethodName := ⟨RX9, "isPlayer", "(I)Z"⟩
abbrev cX9_isAhead : ByteArray := prog_11_method_39_code
def yX9_isAhead : MethodName := ⟨RX9, "isAhead", "(I)Z"⟩
abbrev cX9_hasContract : ByteArray := prog_11_method_40_code
def yX9_hasContract : MethodName := ⟨RX9, "hasContract", "(I)Z"⟩
abbrev cX9_yearNumber : ByteArray := prog_11_method_41_code
def yX9_yearNumber : MethodName := ⟨RX9, "yearNumber", "(II)I"⟩
abbrev cX9_salaryBy : ByteArray := prog_11_method_42_code
def yX9_salaryBy : MethodName := ⟨RX9, "salaryBy", "(III)I"⟩
abbrev cX9_shareBy : ByteArray := prog_11_method_43_code
def yX9_shareBy : MethodName := ⟨RX9, "shareBy", "(III)I"⟩
abbrev cX9_salaryIn : ByteArray := prog_11_method_44_code
def yX9_salaryIn : MethodName := ⟨RX9, "salaryIn", "(II)I"⟩
abbrev cX9_shareIn : ByteArray := prog_11_method_45_code
def yX9_shareIn : MethodName := ⟨RX9, "shareIn", "(II)I"⟩
abbrev cX9_sharesFrom : ByteArray := prog_11_method_46_code
def yX9_sharesFrom : MethodName := ⟨RX9, "sharesFrom", "(I)I"⟩
abbrev cX9_deadIn : ByteArray := prog_11_method_47_code
def yX9_deadIn : MethodName := ⟨RX9, "deadIn", "(II)I"⟩
abbrev cX9_chargeOf : ByteArray := prog_11_method_48_code
def yX9_chargeOf : MethodName := ⟨RX9, "chargeOf", "(II)I"⟩
abbrev cX9_grown : ByteArray := prog_11_method_49_code
def yX9_grown : MethodName := ⟨RX9, "grown", "(II)I"⟩
abbrev cX9_capIn : ByteArray := prog_11_method_50_code
def yX9_capIn : MethodName := ⟨RX9, "capIn", "(I)I"⟩
abbrev cX9_lineIn : ByteArray := prog_11_method_51_code
def yX9_lineIn : MethodName := ⟨RX9, "lineIn", "(I)I"⟩
abbrev cX9_roomOf : ByteArray := prog_11_method_52_code
def yX9_roomOf : MethodName := ⟨RX9, "roomOf", "(I)I"⟩
abbrev cX9_rosterOf : ByteArray := prog_11_method_53_code
def yX9_rosterOf : MethodName := ⟨RX9, "rosterOf", "(I)I"⟩
abbrev cX9_taxOn : ByteArray := prog_11_method_54_code
def yX9_taxOn : MethodName := ⟨RX9, "taxOn", "(IZ)J"⟩
abbrev cX9_isRepeated : ByteArray := prog_11_method_55_code
def yX9_isRepeated : MethodName := ⟨RX9, "isRepeated", "(II)Z"⟩
abbrev cX9_aboveLine : ByteArray := prog_11_method_56_code
def yX9_aboveLine : MethodName := ⟨RX9, "aboveLine", "(II)I"⟩
abbrev cX9_taxedOf : ByteArray := prog_11_method_57_code
def yX9_taxedOf : MethodName := ⟨RX9, "taxedOf", "(I)I"⟩
abbrev cX9_taxOf : ByteArray := prog_11_method_58_code
def yX9_taxOf : MethodName := ⟨RX9, "taxOf", "(I)J"⟩
abbrev cX9_makeOffer : ByteArray := prog_11_method_59_code
def yX9_makeOffer : MethodName := ⟨RX9, "makeOffer", "(IIIII)I"⟩
abbrev cX9_ofOffer : ByteArray := prog_11_method_60_code
def yX9_ofOffer : MethodName := ⟨RX9, "ofOffer", "(I)I"⟩
abbrev cX9_firstShare : ByteArray := prog_11_method_61_code
def yX9_firstShare : MethodName := ⟨RX9, "firstShare", "()I"⟩
abbrev cX9_firstCost : ByteArray := prog_11_method_62_code
def yX9_firstCost : MethodName := ⟨RX9, "firstCost", "()I"⟩
abbrev cX9_isAllowed : ByteArray := prog_11_method_63_code
def yX9_isAllowed : MethodName := ⟨RX9, "isAllowed", "(III)Z"⟩
abbrev cX9_whyNotSign : ByteArray := prog_11_method_64_code
def yX9_whyNotSign : MethodName := ⟨RX9, "whyNotSign", "(III)I"⟩
abbrev cX9_isSigning : ByteArray := prog_11_method_65_code
def yX9_isSigning : MethodName := ⟨RX9, "isSigning", "(III)Z"⟩
abbrev cX9_sign : ByteArray := prog_11_method_66_code
def yX9_sign : MethodName := ⟨RX9, "sign", "(III)I"⟩
abbrev cX9_layDead : ByteArray := prog_11_method_67_code
def yX9_layDead : MethodName := ⟨RX9, "layDead", "(IZ)I"⟩
abbrev cX9_release : ByteArray := prog_11_method_68_code
def yX9_release : MethodName := ⟨RX9, "release", "(IZ)I"⟩
abbrev cX9_salariesOf : ByteArray := prog_11_method_69_code
def yX9_salariesOf : MethodName := ⟨RX9, "salariesOf", "(I)I"⟩
abbrev cX9_moves : ByteArray := prog_11_method_70_code
def yX9_moves : MethodName := ⟨RX9, "moves", "(III)V"⟩
abbrev cX9_matches : ByteArray := prog_11_method_71_code
def yX9_matches : MethodName := ⟨RX9, "matches", "(IIII)Z"⟩
abbrev cX9_isTrade : ByteArray := prog_11_method_72_code
def yX9_isTrade : MethodName := ⟨RX9, "isTrade", "(IIII)Z"⟩
abbrev cX9_trades : ByteArray := prog_11_method_73_code
def yX9_trades : MethodName := ⟨RX9, "trades", "(IIII)I"⟩
abbrev cX9_trade : ByteArray := prog_11_method_74_code
def yX9_trade : MethodName := ⟨RX9, "trade", "(IIII)I"⟩
abbrev cX9_nextYear : ByteArray := prog_11_method_75_code
def yX9_nextYear : MethodName := ⟨RX9, "nextYear", "()J"⟩
abbrev cX9_year : ByteArray := prog_11_method_76_code
def yX9_year : MethodName := ⟨RX9, "year", "()I"⟩
abbrev cX9_cap : ByteArray := prog_11_method_77_code
def yX9_cap : MethodName := ⟨RX9, "cap", "(I)I"⟩
abbrev cX9_taxLine : ByteArray := prog_11_method_78_code
def yX9_taxLine : MethodName := ⟨RX9, "taxLine", "(I)I"⟩
abbrev cX9_offer : ByteArray := prog_11_method_79_code
def yX9_offer : MethodName := ⟨RX9, "offer", "(I)I"⟩
abbrev cX9_charge : ByteArray := prog_11_method_80_code
def yX9_charge : MethodName := ⟨RX9, "charge", "(II)I"⟩
abbrev cX9_deadMoney : ByteArray := prog_11_method_81_code
def yX9_deadMoney : MethodName := ⟨RX9, "deadMoney", "(II)I"⟩
abbrev cX9_room : ByteArray := prog_11_method_82_code
def yX9_room : MethodName := ⟨RX9, "room", "(I)I"⟩
abbrev cX9_tax : ByteArray := prog_11_method_83_code
def yX9_tax : MethodName := ⟨RX9, "tax", "(I)J"⟩
abbrev cX9_paid : ByteArray := prog_11_method_84_code
def yX9_paid : MethodName := ⟨RX9, "paid", "(I)J"⟩
abbrev cX9_taxedYears : ByteArray := prog_11_method_85_code
def yX9_taxedYears : MethodName := ⟨RX9, "taxedYears", "(I)I"⟩
abbrev cX9_midLevel : ByteArray := prog_11_method_86_code
def yX9_midLevel : MethodName := ⟨RX9, "midLevel", "(I)I"⟩
abbrev cX9_roster : ByteArray := prog_11_method_87_code
def yX9_roster : MethodName := ⟨RX9, "roster", "(I)I"⟩
abbrev cX9_measure : ByteArray := prog_11_method_88_code
def yX9_measure : MethodName := ⟨RX9, "measure", "(II)J"⟩
abbrev cX9_teamRank : ByteArray := prog_11_method_89_code
def yX9_teamRank : MethodName := ⟨RX9, "teamRank", "(II)I"⟩
abbrev cX9_playerValue : ByteArray := prog_11_method_90_code
def yX9_playerValue : MethodName := ⟨RX9, "playerValue", "(II)I"⟩
abbrev cX9_salary : ByteArray := prog_11_method_91_code
def yX9_salary : MethodName := ⟨RX9, "salary", "(II)I"⟩
abbrev cX9_share : ByteArray := prog_11_method_92_code
def yX9_share : MethodName := ⟨RX9, "share", "(II)I"⟩
abbrev cX9_costNow : ByteArray := prog_11_method_93_code
def yX9_costNow : MethodName := ⟨RX9, "costNow", "(I)I"⟩
abbrev cX9_playerRank : ByteArray := prog_11_method_94_code
def yX9_playerRank : MethodName := ⟨RX9, "playerRank", "(I)I"⟩
abbrev cX9_meanSalary : ByteArray := prog_11_method_95_code
def yX9_meanSalary : MethodName := ⟨RX9, "meanSalary", "(I)D"⟩
abbrev cX9_signCode : ByteArray := prog_11_method_96_code
def yX9_signCode : MethodName := ⟨RX9, "signCode", "(III)I"⟩
abbrev cX9_bestRule : ByteArray := prog_11_method_97_code
def yX9_bestRule : MethodName := ⟨RX9, "bestRule", "(II)I"⟩
abbrev cX9_greatestBase : ByteArray := prog_11_method_98_code
def yX9_greatestBase : MethodName := ⟨RX9, "greatestBase", "(III)I"⟩
abbrev cX9_releaseCost : ByteArray := prog_11_method_99_code
def yX9_releaseCost : MethodName := ⟨RX9, "releaseCost", "(IZI)I"⟩
abbrev cX9_gainOf : ByteArray := prog_11_method_100_code
def yX9_gainOf : MethodName := ⟨RX9, "gainOf", "(IZ)I"⟩
abbrev cX9_releaseGain : ByteArray := prog_11_method_101_code
def yX9_releaseGain : MethodName := ⟨RX9, "releaseGain", "(IZ)I"⟩
abbrev cX9_bestReleases : ByteArray := prog_11_method_102_code
def yX9_bestReleases : MethodName := ⟨RX9, "bestReleases", "(I)I"⟩
abbrev cX9_fewestReleases : ByteArray := prog_11_method_103_code
def yX9_fewestReleases : MethodName := ⟨RX9, "fewestReleases", "(I)I"⟩
abbrev cX9_releaseSet : ByteArray := prog_11_method_104_code
def yX9_releaseSet : MethodName := ⟨RX9, "releaseSet", "(I)I"⟩
abbrev cX9_tradeCode : ByteArray := prog_11_method_105_code
def yX9_tradeCode : MethodName := ⟨RX9, "tradeCode", "(IIII)I"⟩
abbrev cX9_trySwaps : ByteArray := prog_11_method_106_code
def yX9_trySwaps : MethodName := ⟨RX9, "trySwaps", "(II)V"⟩
abbrev cX9_areTwo : ByteArray := prog_11_method_107_code
def yX9_areTwo : MethodName := ⟨RX9, "areTwo", "(II)Z"⟩
abbrev cX9_swapCount : ByteArray := prog_11_method_108_code
def yX9_swapCount : MethodName := ⟨RX9, "swapCount", "(II)I"⟩
abbrev cX9_bestSwap : ByteArray := prog_11_method_109_code
def yX9_bestSwap : MethodName := ⟨RX9, "bestSwap", "(II)I"⟩
abbrev cX9_taxAhead : ByteArray := prog_11_method_110_code
def yX9_taxAhead : MethodName := ⟨RX9, "taxAhead", "(II)J"⟩
def RJx145de : String := "java/io/Serializable"
def TJx145de : u_T := fun k => match k with
  | _ => ("", "", "", false)
def tyJx145de : Nat → FieldType := fun k => match k with
  | _ => .int
abbrev wsJx145de0 : List Cond := u_ws RJx145de TJx145de 0
theorem nmJx145de : ∀ a, a < 0 → ∀ b, b < 0 → a ≠ b → (TJx145de a).2.1 ≠ (TJx145de b).2.1 := by decide +kernel
theorem tyJx145de_ok : ∀ k, k < 0 → parseFieldDescriptor (TJx145de k).2.2.1 = some (tyJx145de k) := by decide +kernel
def RJx9f9b0 : String := "java/lang/CharSequence"
def TJx9f9b0 : u_T := fun k => match k with
  | _ => ("", "", "", false)
def tyJx9f9b0 : Nat → FieldType := fun k => match k with
  | _ => .int
abbrev wsJx9f9b00 : List Cond := u_ws RJx9f9b0 TJx9f9b0 0
theorem nmJx9f9b0 : ∀ a, a < 0 → ∀ b, b < 0 → a ≠ b → (TJx9f9b0 a).2.1 ≠ (TJx9f9b0 b).2.1 := by decide +kernel
theorem tyJx9f9b0_ok : ∀ k, k < 0 → parseFieldDescriptor (TJx9f9b0 k).2.2.1 = some (tyJx9f9b0 k) := by decide +kernel
def RJxb160c : String := "java/lang/Comparable"
def TJxb160c : u_T := fun k => match k with
  | _ => ("", "", "", false)
def tyJxb160c : Nat → FieldType := fun k => match k with
  | _ => .int
abbrev wsJxb160c0 : List Cond := u_ws RJxb160c TJxb160c 0
theorem nmJxb160c : ∀ a, a < 0 → ∀ b, b < 0 → a ≠ b → (TJxb160c a).2.1 ≠ (TJxb160c b).2.1 := by decide +kernel
theorem tyJxb160c_ok : ∀ k, k < 0 → parseFieldDescriptor (TJxb160c k).2.2.1 = some (tyJxb160c k) := by decide +kernel
def RJ6 : String := "java/lang/Integer"
def TJ6 : u_T := fun k => match k with
  | _ => ("", "", "", false)
def tyJ6 : Nat → FieldType := fun k => match k with
  | _ => .int
abbrev wsJ60 : List Cond := u_ws RJ6 TJ6 0
theorem nmJ6 : ∀ a, a < 0 → ∀ b, b < 0 → a ≠ b → (TJ6 a).2.1 ≠ (TJ6 b).2.1 := by decide +kernel
theorem tyJ6_ok : ∀ k, k < 0 → parseFieldDescriptor (TJ6 k).2.2.1 = some (tyJ6 k) := by decide +kernel
abbrev cJ6_bitCount_0f7a4 : ByteArray := prog_19_method_49_code
def yJ6_bitCount_0f7a4 : MethodName := ⟨RJ6, "bitCount", "(I)I"⟩
def RJ9 : String := "java/lang/Math"
def TJ9 : u_T := fun k => match k with
  | _ => ("", "", "", false)
def tyJ9 : Nat → FieldType := fun k => match k with
  | _ => .int
abbrev wsJ90 : List Cond := u_ws RJ9 TJ9 0
theorem nmJ9 : ∀ a, a < 0 → ∀ b, b < 0 → a ≠ b → (TJ9 a).2.1 ≠ (TJ9 b).2.1 := by decide +kernel
theorem tyJ9_ok : ∀ k, k < 0 → parseFieldDescriptor (TJ9 k).2.2.1 = some (tyJ9 k) := by decide +kernel
abbrev cJ9_max_7cf53 : ByteArray := prog_20_method_65_code
def yJ9_max_7cf53 : MethodName := ⟨RJ9, "max", "(II)I"⟩
abbrev cJ9_min_7cf53 : ByteArray := prog_20_method_69_code
def yJ9_min_7cf53 : MethodName := ⟨RJ9, "min", "(II)I"⟩
abbrev cJ9_min_f86c9 : ByteArray := prog_20_method_70_code
def yJ9_min_f86c9 : MethodName := ⟨RJ9, "min", "(JJ)J"⟩
def RJ0 : String := "java/lang/String"
def TJ0 : u_T := fun k => match k with
  | 0 => ("java/lang/String", "value", "[B", true)
  | _ => ("java/lang/String", "coder", "B", true)
def tyJ0 : Nat → FieldType := fun k => match k with
  | 0 => .array .byte
  | _ => .byte
abbrev wsJ00 : List Cond := u_ws RJ0 TJ0 2
theorem nmJ0 : ∀ a, a < 2 → ∀ b, b < 2 → a ≠ b → (TJ0 a).2.1 ≠ (TJ0 b).2.1 := by decide +kernel
theorem tyJ0_ok : ∀ k, k < 2 → parseFieldDescriptor (TJ0 k).2.2.1 = some (tyJ0 k) := by decide +kernel
abbrev cJ0_length_8abf5 : ByteArray := prog_22_method_54_code
def yJ0_length_8abf5 : MethodName := ⟨RJ0, "length", "()I"⟩
abbrev cJ0_charAt_5068e : ByteArray := prog_22_method_56_code
def yJ0_charAt_5068e : MethodName := ⟨RJ0, "charAt", "(I)C"⟩
abbrev cJ0_coder_7d493 : ByteArray := prog_22_method_152_code
def yJ0_coder_7d493 : MethodName := ⟨RJ0, "coder", "()B"⟩
abbrev cJ0_isLatin1_aae02 : ByteArray := prog_22_method_154_code
def yJ0_isLatin1_aae02 : MethodName := ⟨RJ0, "isLatin1", "()Z"⟩
abbrev cJ0_checkIndex_df160 : ByteArray := prog_22_method_155_code
def yJ0_checkIndex_df160 : MethodName := ⟨RJ0, "checkIndex", "(II)V"⟩
def RJ1 : String := "java/lang/StringLatin1"
def TJ1 : u_T := fun k => match k with
  | _ => ("", "", "", false)
def tyJ1 : Nat → FieldType := fun k => match k with
  | _ => .int
abbrev wsJ10 : List Cond := u_ws RJ1 TJ1 0
theorem nmJ1 : ∀ a, a < 0 → ∀ b, b < 0 → a ≠ b → (TJ1 a).2.1 ≠ (TJ1 b).2.1 := by decide +kernel
theorem tyJ1_ok : ∀ k, k < 0 → parseFieldDescriptor (TJ1 k).2.2.1 = some (tyJ1 k) := by decide +kernel
abbrev cJ1_charAt_3b067 : ByteArray := prog_23_method_2_code
def yJ1_charAt_3b067 : MethodName := ⟨RJ1, "charAt", "([BI)C"⟩
def RJ2 : String := "java/lang/StringUTF16"
def TJ2 : u_T := fun k => match k with
  | _ => ("", "", "", false)
def tyJ2 : Nat → FieldType := fun k => match k with
  | _ => .int
abbrev wsJ20 : List Cond := u_ws RJ2 TJ2 0
theorem nmJ2 : ∀ a, a < 0 → ∀ b, b < 0 → a ≠ b → (TJ2 a).2.1 ≠ (TJ2 b).2.1 := by decide +kernel
theorem tyJ2_ok : ∀ k, k < 0 → parseFieldDescriptor (TJ2 k).2.2.1 = some (tyJ2 k) := by decide +kernel
abbrev cJ2_getChar_3b067 : ByteArray := prog_24_method_5_code
def yJ2_getChar_3b067 : MethodName := ⟨RJ2, "getChar", "([BI)C"⟩
abbrev cJ2_length_9d52b : ByteArray := prog_24_method_6_code
def yJ2_length_9d52b : MethodName := ⟨RJ2, "length", "([B)I"⟩
abbrev cJ2_charAt_3b067 : ByteArray := prog_24_method_83_code
def yJ2_charAt_3b067 : MethodName := ⟨RJ2, "charAt", "([BI)C"⟩
abbrev cJ2_checkIndex_2214a : ByteArray := prog_24_method_91_code
def yJ2_checkIndex_2214a : MethodName := ⟨RJ2, "checkIndex", "(I[B)V"⟩
def RJ10 : String := "java/lang/System"
def TJ10 : u_T := fun k => match k with
  | _ => ("", "", "", false)
def tyJ10 : Nat → FieldType := fun k => match k with
  | _ => .int
abbrev wsJ100 : List Cond := u_ws RJ10 TJ10 0
theorem nmJ10 : ∀ a, a < 0 → ∀ b, b < 0 → a ≠ b → (TJ10 a).2.1 ≠ (TJ10 b).2.1 := by decide +kernel
theorem tyJ10_ok : ∀ k, k < 0 → parseFieldDescriptor (TJ10 k).2.2.1 = some (tyJ10 k) := by decide +kernel
def RJxfd54e : String := "java/lang/constant/Constable"
def TJxfd54e : u_T := fun k => match k with
  | _ => ("", "", "", false)
def tyJxfd54e : Nat → FieldType := fun k => match k with
  | _ => .int
abbrev wsJxfd54e0 : List Cond := u_ws RJxfd54e TJxfd54e 0
theorem nmJxfd54e : ∀ a, a < 0 → ∀ b, b < 0 → a ≠ b → (TJxfd54e a).2.1 ≠ (TJxfd54e b).2.1 := by decide +kernel
theorem tyJxfd54e_ok : ∀ k, k < 0 → parseFieldDescriptor (TJxfd54e k).2.2.1 = some (tyJxfd54e k) := by decide +kernel
def RJx3cf43 : String := "java/lang/constant/ConstantDesc"
def TJx3cf43 : u_T := fun k => match k with
  | _ => ("", "", "", false)
def tyJx3cf43 : Nat → FieldType := fun k => match k with
  | _ => .int
abbrev wsJx3cf430 : List Cond := u_ws RJx3cf43 TJx3cf43 0
theorem nmJx3cf43 : ∀ a, a < 0 → ∀ b, b < 0 → a ≠ b → (TJx3cf43 a).2.1 ≠ (TJx3cf43 b).2.1 := by decide +kernel
theorem tyJx3cf43_ok : ∀ k, k < 0 → parseFieldDescriptor (TJx3cf43 k).2.2.1 = some (tyJx3cf43 k) := by decide +kernel
def RJ3 : String := "jdk/internal/util/Preconditions"
def TJ3 : u_T := fun k => match k with
  | _ => ("", "", "", false)
def tyJ3 : Nat → FieldType := fun k => match k with
  | _ => .int
abbrev wsJ30 : List Cond := u_ws RJ3 TJ3 0
theorem nmJ3 : ∀ a, a < 0 → ∀ b, b < 0 → a ≠ b → (TJ3 a).2.1 ≠ (TJ3 b).2.1 := by decide +kernel
theorem tyJ3_ok : ∀ k, k < 0 → parseFieldDescriptor (TJ3 k).2.2.1 = some (tyJ3 k) := by decide +kernel
abbrev cJ3_checkIndex_8e157 : ByteArray := prog_30_method_11_code
def yJ3_checkIndex_8e157 : MethodName := ⟨RJ3, "checkIndex", "(IILjava/util/function/BiFunction;)I"⟩
def RL : String := "SalaryCapLedgerLaw"
abbrev cL_append : ByteArray := method_3_code
def yL_append : MethodName := ⟨RL, "append", "(LSalaryCapLedger;IIIII[J)I"⟩
abbrev cL_truncate : ByteArray := method_4_code
def yL_truncate : MethodName := ⟨RL, "truncate", "(LSalaryCapLedger;I[J)I"⟩
abbrev cL_makeOffer : ByteArray := method_5_code
def yL_makeOffer : MethodName := ⟨RL, "makeOffer", "(LSalaryCapLedger;IIIII[J)I"⟩
abbrev cL_sign : ByteArray := method_6_code
def yL_sign : MethodName := ⟨RL, "sign", "(LSalaryCapLedger;III[J)I"⟩
abbrev cL_release : ByteArray := method_7_code
def yL_release : MethodName := ⟨RL, "release", "(LSalaryCapLedger;IZ[J)I"⟩
abbrev cL_trade : ByteArray := method_8_code
def yL_trade : MethodName := ⟨RL, "trade", "(LSalaryCapLedger;IIII[J)I"⟩
abbrev cL_nextYear : ByteArray := method_9_code
def yL_nextYear : MethodName := ⟨RL, "nextYear", "(LSalaryCapLedger;[J)I"⟩
abbrev cL_year : ByteArray := method_10_code
def yL_year : MethodName := ⟨RL, "year", "(LSalaryCapLedger;[J)I"⟩
abbrev cL_cap : ByteArray := method_11_code
def yL_cap : MethodName := ⟨RL, "cap", "(LSalaryCapLedger;I[J)I"⟩
abbrev cL_taxLine : ByteArray := method_12_code
def yL_taxLine : MethodName := ⟨RL, "taxLine", "(LSalaryCapLedger;I[J)I"⟩
abbrev cL_offer : ByteArray := method_13_code
def yL_offer : MethodName := ⟨RL, "offer", "(LSalaryCapLedger;I[J)I"⟩
abbrev cL_charge : ByteArray := method_14_code
def yL_charge : MethodName := ⟨RL, "charge", "(LSalaryCapLedger;II[J)I"⟩
abbrev cL_deadMoney : ByteArray := method_15_code
def yL_deadMoney : MethodName := ⟨RL, "deadMoney", "(LSalaryCapLedger;II[J)I"⟩
abbrev cL_room : ByteArray := method_16_code
def yL_room : MethodName := ⟨RL, "room", "(LSalaryCapLedger;I[J)I"⟩
abbrev cL_tax : ByteArray := method_17_code
def yL_tax : MethodName := ⟨RL, "tax", "(LSalaryCapLedger;I[J)I"⟩
abbrev cL_paid : ByteArray := method_18_code
def yL_paid : MethodName := ⟨RL, "paid", "(LSalaryCapLedger;I[J)I"⟩
abbrev cL_taxedYears : ByteArray := method_19_code
def yL_taxedYears : MethodName := ⟨RL, "taxedYears", "(LSalaryCapLedger;I[J)I"⟩
abbrev cL_midLevel : ByteArray := method_20_code
def yL_midLevel : MethodName := ⟨RL, "midLevel", "(LSalaryCapLedger;I[J)I"⟩
abbrev cL_roster : ByteArray := method_21_code
def yL_roster : MethodName := ⟨RL, "roster", "(LSalaryCapLedger;I[J)I"⟩
abbrev cL_teamRank : ByteArray := method_22_code
def yL_teamRank : MethodName := ⟨RL, "teamRank", "(LSalaryCapLedger;II[J)I"⟩
abbrev cL_playerValue : ByteArray := method_23_code
def yL_playerValue : MethodName := ⟨RL, "playerValue", "(LSalaryCapLedger;II[J)I"⟩
abbrev cL_salary : ByteArray := method_24_code
def yL_salary : MethodName := ⟨RL, "salary", "(LSalaryCapLedger;II[J)I"⟩
abbrev cL_share : ByteArray := method_25_code
def yL_share : MethodName := ⟨RL, "share", "(LSalaryCapLedger;II[J)I"⟩
abbrev cL_playerRank : ByteArray := method_26_code
def yL_playerRank : MethodName := ⟨RL, "playerRank", "(LSalaryCapLedger;I[J)I"⟩
abbrev cL_meanSalary : ByteArray := method_27_code
def yL_meanSalary : MethodName := ⟨RL, "meanSalary", "(LSalaryCapLedger;I[D)I"⟩
abbrev cL_signCode : ByteArray := method_28_code
def yL_signCode : MethodName := ⟨RL, "signCode", "(LSalaryCapLedger;III[J)I"⟩
abbrev cL_bestRule : ByteArray := method_29_code
def yL_bestRule : MethodName := ⟨RL, "bestRule", "(LSalaryCapLedger;II[J)I"⟩
abbrev cL_greatestBase : ByteArray := method_30_code
def yL_greatestBase : MethodName := ⟨RL, "greatestBase", "(LSalaryCapLedger;III[J)I"⟩
abbrev cL_releaseCost : ByteArray := method_31_code
def yL_releaseCost : MethodName := ⟨RL, "releaseCost", "(LSalaryCapLedger;IZI[J)I"⟩
abbrev cL_releaseGain : ByteArray := method_32_code
def yL_releaseGain : MethodName := ⟨RL, "releaseGain", "(LSalaryCapLedger;IZ[J)I"⟩
abbrev cL_fewestReleases : ByteArray := method_33_code
def yL_fewestReleases : MethodName := ⟨RL, "fewestReleases", "(LSalaryCapLedger;I[J)I"⟩
abbrev cL_releaseSet : ByteArray := method_34_code
def yL_releaseSet : MethodName := ⟨RL, "releaseSet", "(LSalaryCapLedger;I[J)I"⟩
abbrev cL_tradeCode : ByteArray := method_35_code
def yL_tradeCode : MethodName := ⟨RL, "tradeCode", "(LSalaryCapLedger;IIII[J)I"⟩
abbrev cL_swapCount : ByteArray := method_36_code
def yL_swapCount : MethodName := ⟨RL, "swapCount", "(LSalaryCapLedger;II[J)I"⟩
abbrev cL_bestSwap : ByteArray := method_37_code
def yL_bestSwap : MethodName := ⟨RL, "bestSwap", "(LSalaryCapLedger;II[J)I"⟩
abbrev cL_taxAhead : ByteArray := method_38_code
def yL_taxAhead : MethodName := ⟨RL, "taxAhead", "(LSalaryCapLedger;II[J)I"⟩
abbrev cL_undo : ByteArray := method_39_code
def yL_undo : MethodName := ⟨RL, "undo", "(LSalaryCapLedger;[J)I"⟩
abbrev cL_law : ByteArray := code
def yL_law : MethodName := ⟨RL, "law", "([I)Z"⟩
abbrev vwCl : List vw_C := [(RJ0, TJ0, 2), (RX0, TX0, 4), (RX1, TX1, 5), (RX2, TX2, 3), (RX3, TX3, 5), (RX4, TX4, 11), (RX5, TX5, 4), (RX6, TX6, 4), (RX7, TX7, 9), (RX8, TX8, 11), (RX9, TX9, 35)]
def q_big : List Cond := lw_tbl.filter goodWord
theorem q_inbig {ws : List Cond} (hsub : ∀ w ∈ ws, w ∈ lw_tbl) {i : Nat} {w : Cond} (h : ws[i]? = some w) (g : goodWord w = true) : w ∈ q_big := List.mem_filter.mpr ⟨hsub w (List.mem_of_getElem? h), g⟩
theorem q_insel {i : Nat} {q : MethodName × Nat} (h : lw_privs[i]? = some q) (g : goodWord (Cond.selects q.1.cls q.1 q.1) = true) : Cond.selects q.1.cls q.1 q.1 ∈ q_big := List.mem_filter.mpr ⟨List.mem_append_left _ (List.mem_map.mpr ⟨q, List.mem_of_getElem? h, rfl⟩), g⟩
theorem q_sub1 : ∀ w ∈ tables_1_1, w ∈ lw_tbl := fun w h => List.mem_append_right _ (List.mem_append_left _ h)
theorem q_sub2 : ∀ w ∈ tables_1_2, w ∈ lw_tbl := fun w h => List.mem_append_right _ (List.mem_append_right _ (List.mem_append_left _ h))
theorem q_sub3 : ∀ w ∈ tables_1_3, w ∈ lw_tbl := fun w h => List.mem_append_right _ (List.mem_append_right _ (List.mem_append_right _ (List.mem_append_left _ h)))
theorem q_sub4 : ∀ w ∈ tables_1_4, w ∈ lw_tbl := fun w h => List.mem_append_right _ (List.mem_append_right _ (List.mem_append_right _ (List.mem_append_right _ (List.mem_append_left _ h))))
theorem q_sub5 : ∀ w ∈ tables_1_5, w ∈ lw_tbl := fun w h => List.mem_append_right _ (List.mem_append_right _ (List.mem_append_right _ (List.mem_append_right _ (List.mem_append_right _ (List.mem_append_left _ h)))))
theorem q_sub6 : ∀ w ∈ tables_1_6, w ∈ lw_tbl := fun w h => List.mem_append_right _ (List.mem_append_right _ (List.mem_append_right _ (List.mem_append_right _ (List.mem_append_right _ (List.mem_append_right _ (List.mem_append_left _ h))))))
theorem q_sub7 : ∀ w ∈ tables_1_7, w ∈ lw_tbl := fun w h => List.mem_append_right _ (List.mem_append_right _ (List.mem_append_right _ (List.mem_append_right _ (List.mem_append_right _ (List.mem_append_right _ (List.mem_append_right _ (List.mem_append_left _ h)))))))
theorem q_sub8 : ∀ w ∈ tables_1_8, w ∈ lw_tbl := fun w h => List.mem_append_right _ (List.mem_append_right _ (List.mem_append_right _ (List.mem_append_right _ (List.mem_append_right _ (List.mem_append_right _ (List.mem_append_right _ (List.mem_append_right _ (h))))))))
theorem k1_0 : (Jvm.Cond.initialized "SalaryCapLedgerLaw") ∈ q_big := q_inbig q_sub1 (i := 0) (by decide +kernel) rfl
theorem k1_1 : (Jvm.Cond.initialized "SalaryCapLedger") ∈ q_big := q_inbig q_sub1 (i := 1) (by decide +kernel) rfl
theorem k1_2 : (Jvm.Cond.initialized "SalaryCapLedger$Reader") ∈ q_big := q_inbig q_sub1 (i := 2) (by decide +kernel) rfl
theorem k1_3 : (Jvm.Cond.initialized "SalaryCapLedger$Deal") ∈ q_big := q_inbig q_sub1 (i := 3) (by decide +kernel) rfl
theorem k1_4 : (Jvm.Cond.initialized "SalaryCapLedger$History") ∈ q_big := q_inbig q_sub1 (i := 4) (by decide +kernel) rfl
theorem k1_5 : (Jvm.Cond.initialized "SalaryCapLedger$Books") ∈ q_big := q_inbig q_sub1 (i := 5) (by decide +kernel) rfl
theorem k1_6 : (Jvm.Cond.initialized "SalaryCapLedger$Player") ∈ q_big := q_inbig q_sub1 (i := 6) (by decide +kernel) rfl
theorem k1_7 : (Jvm.Cond.initialized "SalaryCapLedger$Team") ∈ q_big := q_inbig q_sub1 (i := 7) (by decide +kernel) rfl
theorem k1_8 : (Jvm.Cond.initialized "SalaryCapLedger$Releases") ∈ q_big := q_inbig q_sub1 (i := 8) (by decide +kernel) rfl
theorem k1_9 : (Jvm.Cond.initialized "SalaryCapLedger$Terms") ∈ q_big := q_inbig q_sub1 (i := 9) (by decide +kernel) rfl
theorem k1_10 : (Jvm.Cond.initialized "SalaryCapLedgerModel") ∈ q_big := q_inbig q_sub1 (i := 10) (by decide +kernel) rfl
theorem k1_11 : (Jvm.Cond.initialized "java/lang/Throwable") ∈ q_big := q_inbig q_sub1 (i := 11) (by decide +kernel) rfl
theorem k1_12 : (Jvm.Cond.initialized "java/lang/Exception") ∈ q_big := q_inbig q_sub1 (i := 12) (by decide +kernel) rfl
theorem k1_13 : (Jvm.Cond.initialized "java/lang/RuntimeException") ∈ q_big := q_inbig q_sub1 (i := 13) (by decide +kernel) rfl
theorem k1_14 : (Jvm.Cond.initialized "java/lang/IllegalStateException") ∈ q_big := q_inbig q_sub1 (i := 14) (by decide +kernel) rfl
theorem k1_15 : (Jvm.Cond.initialized "java/lang/IllegalArgumentException") ∈ q_big := q_inbig q_sub1 (i := 15) (by decide +kernel) rfl
theorem k1_16 : (Jvm.Cond.initialized "java/lang/Math") ∈ q_big := q_inbig q_sub1 (i := 16) (by decide +kernel) rfl
theorem k1_17 : (Jvm.Cond.initialized "java/lang/String") ∈ q_big := q_inbig q_sub1 (i := 17) (by decide +kernel) rfl
theorem k1_18 : (Jvm.Cond.initialized "java/lang/StringLatin1") ∈ q_big := q_inbig q_sub1 (i := 18) (by decide +kernel) rfl
theorem k1_19 : (Jvm.Cond.initialized "jdk/internal/util/Preconditions") ∈ q_big := q_inbig q_sub1 (i := 19) (by decide +kernel) rfl
theorem k1_20 : (Jvm.Cond.initialized "java/lang/StringUTF16") ∈ q_big := q_inbig q_sub1 (i := 20) (by decide +kernel) rfl
theorem k1_21 : (Jvm.Cond.initialized "java/lang/Integer") ∈ q_big := q_inbig q_sub1 (i := 21) (by decide +kernel) rfl
theorem k1_22 : (Jvm.Cond.initialized "java/lang/System") ∈ q_big := q_inbig q_sub1 (i := 22) (by decide +kernel) rfl
theorem k1_23 : (Jvm.Cond.initialized "java/util/NoSuchElementException") ∈ q_big := q_inbig q_sub1 (i := 23) (by decide +kernel) rfl
theorem k1_24 : (Jvm.Cond.initialized "java/lang/ArithmeticException") ∈ q_big := q_inbig q_sub1 (i := 24) (by decide +kernel) rfl
theorem k1_25 : (Jvm.Cond.classLink "SalaryCapLedgerLaw" (8 : Nat) "SalaryCapLedger") ∈ q_big := q_inbig q_sub1 (i := 25) (by decide +kernel) rfl
theorem k1_26 : (Jvm.Cond.instantiable "SalaryCapLedger" (11 : Nat)) ∈ q_big := q_inbig q_sub1 (i := 26) (by decide +kernel) rfl
theorem k1_27 : (Jvm.Cond.methodLink "SalaryCapLedgerLaw" (140 : Nat) ({ cls := "SalaryCapLedger", name := "<init>", desc := "()V" } : Jvm.MethodName)) ∈ q_big := q_inbig q_sub1 (i := 27) (by decide +kernel) rfl
theorem k1_28 : (Jvm.Cond.instanceMethod ({ cls := "SalaryCapLedger", name := "<init>", desc := "()V" } : Jvm.MethodName)) ∈ q_big := q_inbig q_sub1 (i := 28) (by decide +kernel) rfl
theorem k1_29 : (Jvm.Cond.code ({ cls := "SalaryCapLedger", name := "<init>", desc := "()V" } : Jvm.MethodName) prog_1_method_1_code (1 : Nat) (Option.none : Option Jvm.ClassFile.FieldType)) ∈ q_big := q_inbig q_sub1 (i := 29) (by decide +kernel) rfl
theorem k1_30 : (Jvm.Cond.methodLink "SalaryCapLedger" (3 : Nat) ({ cls := "java/lang/Object", name := "<init>", desc := "()V" } : Jvm.MethodName)) ∈ q_big := q_inbig q_sub1 (i := 30) (by decide +kernel) rfl
theorem k1_31 : (Jvm.Cond.instanceMethod ({ cls := "java/lang/Object", name := "<init>", desc := "()V" } : Jvm.MethodName)) ∈ q_big := q_inbig q_sub1 (i := 31) (by decide +kernel) rfl
theorem k1_32 : (Jvm.Cond.code ({ cls := "java/lang/Object", name := "<init>", desc := "()V" } : Jvm.MethodName) object_method_1_code (1 : Nat) (Option.none : Option Jvm.ClassFile.FieldType)) ∈ q_big := q_inbig q_sub1 (i := 32) (by decide +kernel) rfl
theorem k1_33 : (Jvm.Cond.classLink "SalaryCapLedger" (20 : Nat) "SalaryCapLedger$Reader") ∈ q_big := q_inbig q_sub1 (i := 33) (by decide +kernel) rfl
theorem k1_34 : (Jvm.Cond.instantiable "SalaryCapLedger$Reader" (11 : Nat)) ∈ q_big := q_inbig q_sub1 (i := 34) (by decide +kernel) rfl
theorem k1_36 : (Jvm.Cond.instanceMethod ({ cls := "SalaryCapLedger$Reader", name := "<init>", desc := "()V" } : Jvm.MethodName)) ∈ q_big := q_inbig q_sub1 (i := 36) (by decide +kernel) rfl
theorem k1_37 : (Jvm.Cond.code ({ cls := "SalaryCapLedger$Reader", name := "<init>", desc := "()V" } : Jvm.MethodName) prog_6_method_1_code (1 : Nat) (Option.none : Option Jvm.ClassFile.FieldType)) ∈ q_big := q_inbig q_sub1 (i := 37) (by decide +kernel) rfl
theorem k1_38 : (Jvm.Cond.methodLink "SalaryCapLedger$Reader" (3 : Nat) ({ cls := "java/lang/Object", name := "<init>", desc := "()V" } : Jvm.MethodName)) ∈ q_big := q_inbig q_sub1 (i := 38) (by decide +kernel) rfl
theorem k1_39 : (Jvm.Cond.classLink "SalaryCapLedger$Reader" (43 : Nat) "SalaryCapLedger$Deal") ∈ q_big := q_inbig q_sub1 (i := 39) (by decide +kernel) rfl
theorem k1_40 : (Jvm.Cond.instantiable "SalaryCapLedger$Deal" (5 : Nat)) ∈ q_big := q_inbig q_sub1 (i := 40) (by decide +kernel) rfl
theorem k1_42 : (Jvm.Cond.instanceMethod ({ cls := "SalaryCapLedger$Deal", name := "<init>", desc := "()V" } : Jvm.MethodName)) ∈ q_big := q_inbig q_sub1 (i := 42) (by decide +kernel) rfl
theorem k1_43 : (Jvm.Cond.code ({ cls := "SalaryCapLedger$Deal", name := "<init>", desc := "()V" } : Jvm.MethodName) prog_3_method_1_code (1 : Nat) (Option.none : Option Jvm.ClassFile.FieldType)) ∈ q_big := q_inbig q_sub1 (i := 43) (by decide +kernel) rfl
theorem k1_44 : (Jvm.Cond.methodLink "SalaryCapLedger$Deal" (1 : Nat) ({ cls := "java/lang/Object", name := "<init>", desc := "()V" } : Jvm.MethodName)) ∈ q_big := q_inbig q_sub1 (i := 44) (by decide +kernel) rfl
theorem k1_45 : (Jvm.Cond.fieldLink "SalaryCapLedger$Deal" (7 : Nat) "SalaryCapLedger$Deal" "base" "I") ∈ q_big := q_inbig q_sub1 (i := 45) (by decide +kernel) rfl
theorem k1_46 : (Jvm.Cond.fieldLink "SalaryCapLedger" (215 : Nat) "SalaryCapLedger$Deal" "base" "I") ∈ q_big := q_inbig q_sub1 (i := 46) (by decide +kernel) rfl
theorem k1_47 : (Jvm.Cond.fieldLink "SalaryCapLedger$Deal" (13 : Nat) "SalaryCapLedger$Deal" "raise" "I") ∈ q_big := q_inbig q_sub1 (i := 47) (by decide +kernel) rfl
theorem k1_48 : (Jvm.Cond.fieldLink "SalaryCapLedger" (218 : Nat) "SalaryCapLedger$Deal" "raise" "I") ∈ q_big := q_inbig q_sub1 (i := 48) (by decide +kernel) rfl
theorem k1_49 : (Jvm.Cond.fieldLink "SalaryCapLedger$Deal" (16 : Nat) "SalaryCapLedger$Deal" "length" "I") ∈ q_big := q_inbig q_sub1 (i := 49) (by decide +kernel) rfl
theorem k1_50 : (Jvm.Cond.fieldLink "SalaryCapLedger$Player" (39 : Nat) "SalaryCapLedger$Deal" "length" "I") ∈ q_big := q_inbig q_sub1 (i := 50) (by decide +kernel) rfl
theorem k1_51 : (Jvm.Cond.fieldLink "SalaryCapLedger" (221 : Nat) "SalaryCapLedger$Deal" "length" "I") ∈ q_big := q_inbig q_sub1 (i := 51) (by decide +kernel) rfl
theorem k1_52 : (Jvm.Cond.fieldLink "SalaryCapLedger$Deal" (19 : Nat) "SalaryCapLedger$Deal" "bonus" "I") ∈ q_big := q_inbig q_sub1 (i := 52) (by decide +kernel) rfl
theorem k1_53 : (Jvm.Cond.fieldLink "SalaryCapLedger$Books" (101 : Nat) "SalaryCapLedger$Deal" "bonus" "I") ∈ q_big := q_inbig q_sub1 (i := 53) (by decide +kernel) rfl
theorem k1_54 : (Jvm.Cond.fieldLink "SalaryCapLedger" (224 : Nat) "SalaryCapLedger$Deal" "bonus" "I") ∈ q_big := q_inbig q_sub1 (i := 54) (by decide +kernel) rfl
theorem k1_55 : (Jvm.Cond.fieldLink "SalaryCapLedger$Deal" (22 : Nat) "SalaryCapLedger$Deal" "guaranteed" "I") ∈ q_big := q_inbig q_sub1 (i := 55) (by decide +kernel) rfl
theorem k1_56 : (Jvm.Cond.fieldLink "SalaryCapLedger" (227 : Nat) "SalaryCapLedger$Deal" "guaranteed" "I") ∈ q_big := q_inbig q_sub1 (i := 56) (by decide +kernel) rfl
theorem k1_57 : (Jvm.Cond.lays "SalaryCapLedger$Deal" "SalaryCapLedger$Deal" "base" "I") ∈ q_big := q_inbig q_sub1 (i := 57) (by decide +kernel) rfl
theorem k1_59 : (Jvm.Cond.lays "SalaryCapLedger$Deal" "SalaryCapLedger$Deal" "raise" "I") ∈ q_big := q_inbig q_sub1 (i := 59) (by decide +kernel) rfl
theorem k1_61 : (Jvm.Cond.lays "SalaryCapLedger$Deal" "SalaryCapLedger$Deal" "length" "I") ∈ q_big := q_inbig q_sub1 (i := 61) (by decide +kernel) rfl
theorem k1_63 : (Jvm.Cond.lays "SalaryCapLedger$Deal" "SalaryCapLedger$Deal" "bonus" "I") ∈ q_big := q_inbig q_sub1 (i := 63) (by decide +kernel) rfl
theorem k1_65 : (Jvm.Cond.lays "SalaryCapLedger$Deal" "SalaryCapLedger$Deal" "guaranteed" "I") ∈ q_big := q_inbig q_sub1 (i := 65) (by decide +kernel) rfl
theorem k1_68 : (Jvm.Cond.arrayClass Jvm.ClassFile.FieldType.byte) ∈ q_big := q_inbig q_sub1 (i := 68) (by decide +kernel) rfl
theorem k1_69 : (Jvm.Cond.fieldLink "SalaryCapLedger$Reader" (9 : Nat) "SalaryCapLedger$Reader" "errorCode" "I") ∈ q_big := q_inbig q_sub1 (i := 69) (by decide +kernel) rfl
theorem k1_70 : (Jvm.Cond.fieldLink "SalaryCapLedger" (89 : Nat) "SalaryCapLedger$Reader" "errorCode" "I") ∈ q_big := q_inbig q_sub1 (i := 70) (by decide +kernel) rfl
theorem k1_71 : (Jvm.Cond.fieldLink "SalaryCapLedger$Reader" (15 : Nat) "SalaryCapLedger$Reader" "errorAt" "I") ∈ q_big := q_inbig q_sub1 (i := 71) (by decide +kernel) rfl
theorem k1_72 : (Jvm.Cond.fieldLink "SalaryCapLedger" (84 : Nat) "SalaryCapLedger$Reader" "errorAt" "I") ∈ q_big := q_inbig q_sub1 (i := 72) (by decide +kernel) rfl
theorem k1_73 : (Jvm.Cond.fieldLink "SalaryCapLedger$Reader" (18 : Nat) "SalaryCapLedger$Reader" "contracts" "I") ∈ q_big := q_inbig q_sub1 (i := 73) (by decide +kernel) rfl
theorem k1_74 : (Jvm.Cond.fieldLink "SalaryCapLedger" (95 : Nat) "SalaryCapLedger$Reader" "contracts" "I") ∈ q_big := q_inbig q_sub1 (i := 74) (by decide +kernel) rfl
theorem k1_75 : (Jvm.Cond.fieldLink "SalaryCapLedger$Reader" (21 : Nat) "SalaryCapLedger$Reader" "text" "[B") ∈ q_big := q_inbig q_sub1 (i := 75) (by decide +kernel) rfl
theorem k1_76 : (Jvm.Cond.fieldLink "SalaryCapLedger$Reader" (25 : Nat) "SalaryCapLedger$Reader" "length" "I") ∈ q_big := q_inbig q_sub1 (i := 76) (by decide +kernel) rfl
theorem k1_77 : (Jvm.Cond.fieldLink "SalaryCapLedger$Reader" (28 : Nat) "SalaryCapLedger$Reader" "end" "I") ∈ q_big := q_inbig q_sub1 (i := 77) (by decide +kernel) rfl
theorem k1_78 : (Jvm.Cond.fieldLink "SalaryCapLedger$Reader" (31 : Nat) "SalaryCapLedger$Reader" "kind" "I") ∈ q_big := q_inbig q_sub1 (i := 78) (by decide +kernel) rfl
theorem k1_79 : (Jvm.Cond.fieldLink "SalaryCapLedger$Reader" (34 : Nat) "SalaryCapLedger$Reader" "start" "I") ∈ q_big := q_inbig q_sub1 (i := 79) (by decide +kernel) rfl
theorem k1_80 : (Jvm.Cond.fieldLink "SalaryCapLedger$Reader" (37 : Nat) "SalaryCapLedger$Reader" "value" "I") ∈ q_big := q_inbig q_sub1 (i := 80) (by decide +kernel) rfl
theorem k1_81 : (Jvm.Cond.fieldLink "SalaryCapLedger$Reader" (40 : Nat) "SalaryCapLedger$Reader" "numberAt" "I") ∈ q_big := q_inbig q_sub1 (i := 81) (by decide +kernel) rfl
theorem k1_82 : (Jvm.Cond.fieldLink "SalaryCapLedger$Reader" (46 : Nat) "SalaryCapLedger$Reader" "deal" "LSalaryCapLedger$Deal;") ∈ q_big := q_inbig q_sub1 (i := 82) (by decide +kernel) rfl
theorem k1_83 : (Jvm.Cond.lays "SalaryCapLedger$Reader" "SalaryCapLedger$Reader" "errorCode" "I") ∈ q_big := q_inbig q_sub1 (i := 83) (by decide +kernel) rfl
theorem k1_85 : (Jvm.Cond.lays "SalaryCapLedger$Reader" "SalaryCapLedger$Reader" "errorAt" "I") ∈ q_big := q_inbig q_sub1 (i := 85) (by decide +kernel) rfl
theorem k1_87 : (Jvm.Cond.lays "SalaryCapLedger$Reader" "SalaryCapLedger$Reader" "contracts" "I") ∈ q_big := q_inbig q_sub1 (i := 87) (by decide +kernel) rfl
theorem k1_89 : (Jvm.Cond.lays "SalaryCapLedger$Reader" "SalaryCapLedger$Reader" "text" "[B") ∈ q_big := q_inbig q_sub1 (i := 89) (by decide +kernel) rfl
theorem k1_91 : (Jvm.Cond.lays "SalaryCapLedger$Reader" "SalaryCapLedger$Reader" "length" "I") ∈ q_big := q_inbig q_sub1 (i := 91) (by decide +kernel) rfl
theorem k1_93 : (Jvm.Cond.lays "SalaryCapLedger$Reader" "SalaryCapLedger$Reader" "end" "I") ∈ q_big := q_inbig q_sub1 (i := 93) (by decide +kernel) rfl
theorem k1_95 : (Jvm.Cond.lays "SalaryCapLedger$Reader" "SalaryCapLedger$Reader" "kind" "I") ∈ q_big := q_inbig q_sub1 (i := 95) (by decide +kernel) rfl
theorem k1_97 : (Jvm.Cond.lays "SalaryCapLedger$Reader" "SalaryCapLedger$Reader" "start" "I") ∈ q_big := q_inbig q_sub1 (i := 97) (by decide +kernel) rfl
theorem k1_99 : (Jvm.Cond.lays "SalaryCapLedger$Reader" "SalaryCapLedger$Reader" "value" "I") ∈ q_big := q_inbig q_sub1 (i := 99) (by decide +kernel) rfl
theorem k1_101 : (Jvm.Cond.lays "SalaryCapLedger$Reader" "SalaryCapLedger$Reader" "numberAt" "I") ∈ q_big := q_inbig q_sub1 (i := 101) (by decide +kernel) rfl
theorem k1_103 : (Jvm.Cond.laysFinal "SalaryCapLedger$Reader" "SalaryCapLedger$Reader" "deal" "LSalaryCapLedger$Deal;") ∈ q_big := q_inbig q_sub1 (i := 103) (by decide +kernel) rfl
theorem k1_106 : (Jvm.Cond.classLink "SalaryCapLedger" (27 : Nat) "SalaryCapLedger$History") ∈ q_big := q_inbig q_sub1 (i := 106) (by decide +kernel) rfl
theorem k1_107 : (Jvm.Cond.instantiable "SalaryCapLedger$History" (3 : Nat)) ∈ q_big := q_inbig q_sub1 (i := 107) (by decide +kernel) rfl
theorem k1_108 : (Jvm.Cond.methodLink "SalaryCapLedger" (29 : Nat) ({ cls := "SalaryCapLedger$History", name := "<init>", desc := "()V" } : Jvm.MethodName)) ∈ q_big := q_inbig q_sub1 (i := 108) (by decide +kernel) rfl
theorem k1_109 : (Jvm.Cond.instanceMethod ({ cls := "SalaryCapLedger$History", name := "<init>", desc := "()V" } : Jvm.MethodName)) ∈ q_big := q_inbig q_sub1 (i := 109) (by decide +kernel) rfl
theorem k1_110 : (Jvm.Cond.code ({ cls := "SalaryCapLedger$History", name := "<init>", desc := "()V" } : Jvm.MethodName) prog_4_method_1_code (2 : Nat) (Option.none : Option Jvm.ClassFile.FieldType)) ∈ q_big := q_inbig q_sub1 (i := 110) (by decide +kernel) rfl
theorem k1_111 : (Jvm.Cond.methodLink "SalaryCapLedger$History" (3 : Nat) ({ cls := "java/lang/Object", name := "<init>", desc := "()V" } : Jvm.MethodName)) ∈ q_big := q_inbig q_sub1 (i := 111) (by decide +kernel) rfl
theorem k1_112 : (Jvm.Cond.classLink "SalaryCapLedger$History" (9 : Nat) "SalaryCapLedger$Books") ∈ q_big := q_inbig q_sub1 (i := 112) (by decide +kernel) rfl
theorem k1_114 : (Jvm.Cond.instantiable "SalaryCapLedger$Books" (4 : Nat)) ∈ q_big := q_inbig q_sub1 (i := 114) (by decide +kernel) rfl
theorem k1_115 : (Jvm.Cond.methodLink "SalaryCapLedger$History" (24 : Nat) ({ cls := "SalaryCapLedger$Books", name := "<init>", desc := "()V" } : Jvm.MethodName)) ∈ q_big := q_inbig q_sub1 (i := 115) (by decide +kernel) rfl
theorem k1_116 : (Jvm.Cond.instanceMethod ({ cls := "SalaryCapLedger$Books", name := "<init>", desc := "()V" } : Jvm.MethodName)) ∈ q_big := q_inbig q_sub1 (i := 116) (by decide +kernel) rfl
theorem k1_117 : (Jvm.Cond.code ({ cls := "SalaryCapLedger$Books", name := "<init>", desc := "()V" } : Jvm.MethodName) prog_2_method_1_code (2 : Nat) (Option.none : Option Jvm.ClassFile.FieldType)) ∈ q_big := q_inbig q_sub1 (i := 117) (by decide +kernel) rfl
theorem k1_118 : (Jvm.Cond.methodLink "SalaryCapLedger$Books" (3 : Nat) ({ cls := "java/lang/Object", name := "<init>", desc := "()V" } : Jvm.MethodName)) ∈ q_big := q_inbig q_sub1 (i := 118) (by decide +kernel) rfl
theorem k1_119 : (Jvm.Cond.classLink "SalaryCapLedger$Books" (9 : Nat) "SalaryCapLedger$Player") ∈ q_big := q_inbig q_sub1 (i := 119) (by decide +kernel) rfl
theorem k1_121 : (Jvm.Cond.classLink "SalaryCapLedger$Books" (17 : Nat) "SalaryCapLedger$Team") ∈ q_big := q_inbig q_sub1 (i := 121) (by decide +kernel) rfl
theorem k1_123 : (Jvm.Cond.classLink "SalaryCapLedger$Books" (23 : Nat) "SalaryCapLedger$Deal") ∈ q_big := q_inbig q_sub1 (i := 123) (by decide +kernel) rfl
theorem k1_125 : (Jvm.Cond.instantiable "SalaryCapLedger$Player" (5 : Nat)) ∈ q_big := q_inbig q_sub1 (i := 125) (by decide +kernel) rfl
theorem k1_127 : (Jvm.Cond.instanceMethod ({ cls := "SalaryCapLedger$Player", name := "<init>", desc := "()V" } : Jvm.MethodName)) ∈ q_big := q_inbig q_sub1 (i := 127) (by decide +kernel) rfl
theorem k1_128 : (Jvm.Cond.code ({ cls := "SalaryCapLedger$Player", name := "<init>", desc := "()V" } : Jvm.MethodName) prog_5_method_1_code (1 : Nat) (Option.none : Option Jvm.ClassFile.FieldType)) ∈ q_big := q_inbig q_sub1 (i := 128) (by decide +kernel) rfl
theorem k1_129 : (Jvm.Cond.methodLink "SalaryCapLedger$Player" (3 : Nat) ({ cls := "java/lang/Object", name := "<init>", desc := "()V" } : Jvm.MethodName)) ∈ q_big := q_inbig q_sub1 (i := 129) (by decide +kernel) rfl
theorem k1_130 : (Jvm.Cond.classLink "SalaryCapLedger$Player" (24 : Nat) "SalaryCapLedger$Deal") ∈ q_big := q_inbig q_sub1 (i := 130) (by decide +kernel) rfl
theorem k1_132 : (Jvm.Cond.fieldLink "SalaryCapLedger$Player" (9 : Nat) "SalaryCapLedger$Player" "team" "I") ∈ q_big := q_inbig q_sub1 (i := 132) (by decide +kernel) rfl
theorem k1_133 : (Jvm.Cond.fieldLink "SalaryCapLedger$Books" (59 : Nat) "SalaryCapLedger$Player" "team" "I") ∈ q_big := q_inbig q_sub1 (i := 133) (by decide +kernel) rfl
theorem k1_134 : (Jvm.Cond.fieldLink "SalaryCapLedger" (262 : Nat) "SalaryCapLedger$Player" "team" "I") ∈ q_big := q_inbig q_sub1 (i := 134) (by decide +kernel) rfl
theorem k1_135 : (Jvm.Cond.fieldLink "SalaryCapLedger$Player" (15 : Nat) "SalaryCapLedger$Player" "lastTeam" "I") ∈ q_big := q_inbig q_sub1 (i := 135) (by decide +kernel) rfl
theorem k1_136 : (Jvm.Cond.fieldLink "SalaryCapLedger$Books" (104 : Nat) "SalaryCapLedger$Player" "lastTeam" "I") ∈ q_big := q_inbig q_sub1 (i := 136) (by decide +kernel) rfl
theorem k1_137 : (Jvm.Cond.fieldLink "SalaryCapLedger" (265 : Nat) "SalaryCapLedger$Player" "lastTeam" "I") ∈ q_big := q_inbig q_sub1 (i := 137) (by decide +kernel) rfl
theorem k1_138 : (Jvm.Cond.fieldLink "SalaryCapLedger$Player" (18 : Nat) "SalaryCapLedger$Player" "tenure" "I") ∈ q_big := q_inbig q_sub1 (i := 138) (by decide +kernel) rfl
theorem k1_139 : (Jvm.Cond.fieldLink "SalaryCapLedger" (268 : Nat) "SalaryCapLedger$Player" "tenure" "I") ∈ q_big := q_inbig q_sub1 (i := 139) (by decide +kernel) rfl
theorem k1_140 : (Jvm.Cond.fieldLink "SalaryCapLedger$Player" (21 : Nat) "SalaryCapLedger$Player" "start" "I") ∈ q_big := q_inbig q_sub1 (i := 140) (by decide +kernel) rfl
theorem k1_141 : (Jvm.Cond.fieldLink "SalaryCapLedger" (275 : Nat) "SalaryCapLedger$Player" "start" "I") ∈ q_big := q_inbig q_sub1 (i := 141) (by decide +kernel) rfl
theorem k1_142 : (Jvm.Cond.fieldLink "SalaryCapLedger$Player" (27 : Nat) "SalaryCapLedger$Player" "deal" "LSalaryCapLedger$Deal;") ∈ q_big := q_inbig q_sub1 (i := 142) (by decide +kernel) rfl
theorem k1_143 : (Jvm.Cond.fieldLink "SalaryCapLedger$Books" (98 : Nat) "SalaryCapLedger$Player" "deal" "LSalaryCapLedger$Deal;") ∈ q_big := q_inbig q_sub1 (i := 143) (by decide +kernel) rfl
theorem k1_144 : (Jvm.Cond.fieldLink "SalaryCapLedger" (278 : Nat) "SalaryCapLedger$Player" "deal" "LSalaryCapLedger$Deal;") ∈ q_big := q_inbig q_sub1 (i := 144) (by decide +kernel) rfl
theorem k1_145 : (Jvm.Cond.lays "SalaryCapLedger$Player" "SalaryCapLedger$Player" "team" "I") ∈ q_big := q_inbig q_sub1 (i := 145) (by decide +kernel) rfl
theorem k1_147 : (Jvm.Cond.lays "SalaryCapLedger$Player" "SalaryCapLedger$Player" "lastTeam" "I") ∈ q_big := q_inbig q_sub1 (i := 147) (by decide +kernel) rfl
theorem k1_149 : (Jvm.Cond.lays "SalaryCapLedger$Player" "SalaryCapLedger$Player" "tenure" "I") ∈ q_big := q_inbig q_sub1 (i := 149) (by decide +kernel) rfl
theorem k1_151 : (Jvm.Cond.lays "SalaryCapLedger$Player" "SalaryCapLedger$Player" "start" "I") ∈ q_big := q_inbig q_sub1 (i := 151) (by decide +kernel) rfl
theorem k1_153 : (Jvm.Cond.laysFinal "SalaryCapLedger$Player" "SalaryCapLedger$Player" "deal" "LSalaryCapLedger$Deal;") ∈ q_big := q_inbig q_sub1 (i := 153) (by decide +kernel) rfl
theorem k1_156 : (Jvm.Cond.instantiable "SalaryCapLedger$Team" (4 : Nat)) ∈ q_big := q_inbig q_sub1 (i := 156) (by decide +kernel) rfl
theorem k1_158 : (Jvm.Cond.instanceMethod ({ cls := "SalaryCapLedger$Team", name := "<init>", desc := "()V" } : Jvm.MethodName)) ∈ q_big := q_inbig q_sub1 (i := 158) (by decide +kernel) rfl
theorem k1_159 : (Jvm.Cond.code ({ cls := "SalaryCapLedger$Team", name := "<init>", desc := "()V" } : Jvm.MethodName) prog_8_method_1_code (1 : Nat) (Option.none : Option Jvm.ClassFile.FieldType)) ∈ q_big := q_inbig q_sub1 (i := 159) (by decide +kernel) rfl
theorem k1_160 : (Jvm.Cond.methodLink "SalaryCapLedger$Team" (3 : Nat) ({ cls := "java/lang/Object", name := "<init>", desc := "()V" } : Jvm.MethodName)) ∈ q_big := q_inbig q_sub1 (i := 160) (by decide +kernel) rfl
theorem k1_161 : (Jvm.Cond.fieldLink "SalaryCapLedger$Team" (9 : Nat) "SalaryCapLedger$Team" "dead" "[I") ∈ q_big := q_inbig q_sub1 (i := 161) (by decide +kernel) rfl
theorem k1_162 : (Jvm.Cond.fieldLink "SalaryCapLedger$Team" (15 : Nat) "SalaryCapLedger$Team" "taxesPaid" "J") ∈ q_big := q_inbig q_sub1 (i := 162) (by decide +kernel) rfl
theorem k1_163 : (Jvm.Cond.fieldLink "SalaryCapLedger" (198 : Nat) "SalaryCapLedger$Team" "taxesPaid" "J") ∈ q_big := q_inbig q_sub1 (i := 163) (by decide +kernel) rfl
theorem k1_164 : (Jvm.Cond.fieldLink "SalaryCapLedger$Team" (19 : Nat) "SalaryCapLedger$Team" "taxedSet" "I") ∈ q_big := q_inbig q_sub1 (i := 164) (by decide +kernel) rfl
theorem k1_165 : (Jvm.Cond.fieldLink "SalaryCapLedger" (206 : Nat) "SalaryCapLedger$Team" "taxedSet" "I") ∈ q_big := q_inbig q_sub1 (i := 165) (by decide +kernel) rfl
theorem k1_166 : (Jvm.Cond.fieldLink "SalaryCapLedger$Team" (23 : Nat) "SalaryCapLedger$Team" "midLevelLeft" "I") ∈ q_big := q_inbig q_sub1 (i := 166) (by decide +kernel) rfl
theorem k1_167 : (Jvm.Cond.fieldLink "SalaryCapLedger$Books" (56 : Nat) "SalaryCapLedger$Team" "midLevelLeft" "I") ∈ q_big := q_inbig q_sub1 (i := 167) (by decide +kernel) rfl
theorem k1_168 : (Jvm.Cond.fieldLink "SalaryCapLedger" (140 : Nat) "SalaryCapLedger$Team" "midLevelLeft" "I") ∈ q_big := q_inbig q_sub1 (i := 168) (by decide +kernel) rfl
theorem k1_169 : (Jvm.Cond.laysFinal "SalaryCapLedger$Team" "SalaryCapLedger$Team" "dead" "[I") ∈ q_big := q_inbig q_sub1 (i := 169) (by decide +kernel) rfl
theorem k1_171 : (Jvm.Cond.lays "SalaryCapLedger$Team" "SalaryCapLedger$Team" "taxesPaid" "J") ∈ q_big := q_inbig q_sub1 (i := 171) (by decide +kernel) rfl
theorem k1_173 : (Jvm.Cond.lays "SalaryCapLedger$Team" "SalaryCapLedger$Team" "taxedSet" "I") ∈ q_big := q_inbig q_sub1 (i := 173) (by decide +kernel) rfl
theorem k1_175 : (Jvm.Cond.lays "SalaryCapLedger$Team" "SalaryCapLedger$Team" "midLevelLeft" "I") ∈ q_big := q_inbig q_sub1 (i := 175) (by decide +kernel) rfl
theorem k1_178 : (Jvm.Cond.arrayClass Jvm.ClassFile.FieldType.int) ∈ q_big := q_inbig q_sub1 (i := 178) (by decide +kernel) rfl
theorem k1_179 : (Jvm.Cond.fieldLink "SalaryCapLedger$Books" (11 : Nat) "SalaryCapLedger$Books" "players" "[LSalaryCapLedger$Player;") ∈ q_big := q_inbig q_sub1 (i := 179) (by decide +kernel) rfl
theorem k1_180 : (Jvm.Cond.fieldLink "SalaryCapLedger$Releases" (31 : Nat) "SalaryCapLedger$Books" "players" "[LSalaryCapLedger$Player;") ∈ q_big := q_inbig q_sub1 (i := 180) (by decide +kernel) rfl
theorem k1_181 : (Jvm.Cond.fieldLink "SalaryCapLedger$Reader" (137 : Nat) "SalaryCapLedger$Books" "players" "[LSalaryCapLedger$Player;") ∈ q_big := q_inbig q_sub1 (i := 181) (by decide +kernel) rfl
theorem k1_182 : (Jvm.Cond.fieldLink "SalaryCapLedger" (145 : Nat) "SalaryCapLedger$Books" "players" "[LSalaryCapLedger$Player;") ∈ q_big := q_inbig q_sub1 (i := 182) (by decide +kernel) rfl
theorem k1_183 : (Jvm.Cond.fieldLink "SalaryCapLedger$Books" (19 : Nat) "SalaryCapLedger$Books" "teams" "[LSalaryCapLedger$Team;") ∈ q_big := q_inbig q_sub1 (i := 183) (by decide +kernel) rfl
theorem k1_184 : (Jvm.Cond.fieldLink "SalaryCapLedger" (136 : Nat) "SalaryCapLedger$Books" "teams" "[LSalaryCapLedger$Team;") ∈ q_big := q_inbig q_sub1 (i := 184) (by decide +kernel) rfl
theorem k1_185 : (Jvm.Cond.fieldLink "SalaryCapLedger$Books" (26 : Nat) "SalaryCapLedger$Books" "offered" "LSalaryCapLedger$Deal;") ∈ q_big := q_inbig q_sub1 (i := 185) (by decide +kernel) rfl
theorem k1_186 : (Jvm.Cond.fieldLink "SalaryCapLedger" (109 : Nat) "SalaryCapLedger$Books" "offered" "LSalaryCapLedger$Deal;") ∈ q_big := q_inbig q_sub1 (i := 186) (by decide +kernel) rfl
theorem k1_187 : (Jvm.Cond.fieldLink "SalaryCapLedger$Books" (30 : Nat) "SalaryCapLedger$Books" "now" "I") ∈ q_big := q_inbig q_sub1 (i := 187) (by decide +kernel) rfl
theorem k1_188 : (Jvm.Cond.fieldLink "SalaryCapLedger$Releases" (35 : Nat) "SalaryCapLedger$Books" "now" "I") ∈ q_big := q_inbig q_sub1 (i := 188) (by decide +kernel) rfl
theorem k1_189 : (Jvm.Cond.fieldLink "SalaryCapLedger" (149 : Nat) "SalaryCapLedger$Books" "now" "I") ∈ q_big := q_inbig q_sub1 (i := 189) (by decide +kernel) rfl
theorem k1_190 : (Jvm.Cond.laysFinal "SalaryCapLedger$Books" "SalaryCapLedger$Books" "players" "[LSalaryCapLedger$Player;") ∈ q_big := q_inbig q_sub1 (i := 190) (by decide +kernel) rfl
theorem k1_192 : (Jvm.Cond.laysFinal "SalaryCapLedger$Books" "SalaryCapLedger$Books" "teams" "[LSalaryCapLedger$Team;") ∈ q_big := q_inbig q_sub1 (i := 192) (by decide +kernel) rfl
theorem k1_194 : (Jvm.Cond.laysFinal "SalaryCapLedger$Books" "SalaryCapLedger$Books" "offered" "LSalaryCapLedger$Deal;") ∈ q_big := q_inbig q_sub1 (i := 194) (by decide +kernel) rfl
theorem k1_196 : (Jvm.Cond.lays "SalaryCapLedger$Books" "SalaryCapLedger$Books" "now" "I") ∈ q_big := q_inbig q_sub1 (i := 196) (by decide +kernel) rfl
theorem k1_199 : (Jvm.Cond.fieldLink "SalaryCapLedger$History" (11 : Nat) "SalaryCapLedger$History" "earlier" "[LSalaryCapLedger$Books;") ∈ q_big := q_inbig q_sub1 (i := 199) (by decide +kernel) rfl
theorem k1_200 : (Jvm.Cond.fieldLink "SalaryCapLedger$History" (17 : Nat) "SalaryCapLedger$History" "next" "I") ∈ q_big := q_inbig q_sub1 (i := 200) (by decide +kernel) rfl
theorem k1_201 : (Jvm.Cond.fieldLink "SalaryCapLedger$History" (21 : Nat) "SalaryCapLedger$History" "count" "I") ∈ q_big := q_inbig q_sub1 (i := 201) (by decide +kernel) rfl
theorem k1_202 : (Jvm.Cond.fieldLink "SalaryCapLedger" (368 : Nat) "SalaryCapLedger$History" "count" "I") ∈ q_big := q_inbig q_sub1 (i := 202) (by decide +kernel) rfl
theorem k1_203 : (Jvm.Cond.laysFinal "SalaryCapLedger$History" "SalaryCapLedger$History" "earlier" "[LSalaryCapLedger$Books;") ∈ q_big := q_inbig q_sub1 (i := 203) (by decide +kernel) rfl
theorem k1_205 : (Jvm.Cond.lays "SalaryCapLedger$History" "SalaryCapLedger$History" "next" "I") ∈ q_big := q_inbig q_sub1 (i := 205) (by decide +kernel) rfl
theorem k1_207 : (Jvm.Cond.lays "SalaryCapLedger$History" "SalaryCapLedger$History" "count" "I") ∈ q_big := q_inbig q_sub1 (i := 207) (by decide +kernel) rfl
theorem k1_210 : (Jvm.Cond.classLink "SalaryCapLedger" (34 : Nat) "SalaryCapLedger$Releases") ∈ q_big := q_inbig q_sub1 (i := 210) (by decide +kernel) rfl
theorem k1_211 : (Jvm.Cond.instantiable "SalaryCapLedger$Releases" (4 : Nat)) ∈ q_big := q_inbig q_sub1 (i := 211) (by decide +kernel) rfl
theorem k1_213 : (Jvm.Cond.instanceMethod ({ cls := "SalaryCapLedger$Releases", name := "<init>", desc := "()V" } : Jvm.MethodName)) ∈ q_big := q_inbig q_sub1 (i := 213) (by decide +kernel) rfl
theorem k1_214 : (Jvm.Cond.code ({ cls := "SalaryCapLedger$Releases", name := "<init>", desc := "()V" } : Jvm.MethodName) prog_7_method_1_code (1 : Nat) (Option.none : Option Jvm.ClassFile.FieldType)) ∈ q_big := q_inbig q_sub1 (i := 214) (by decide +kernel) rfl
theorem k1_215 : (Jvm.Cond.methodLink "SalaryCapLedger$Releases" (3 : Nat) ({ cls := "java/lang/Object", name := "<init>", desc := "()V" } : Jvm.MethodName)) ∈ q_big := q_inbig q_sub1 (i := 215) (by decide +kernel) rfl
theorem k1_216 : (Jvm.Cond.fieldLink "SalaryCapLedger$Releases" (9 : Nat) "SalaryCapLedger$Releases" "numbers" "[I") ∈ q_big := q_inbig q_sub1 (i := 216) (by decide +kernel) rfl
theorem k1_217 : (Jvm.Cond.fieldLink "SalaryCapLedger$Releases" (15 : Nat) "SalaryCapLedger$Releases" "gains" "[I") ∈ q_big := q_inbig q_sub1 (i := 217) (by decide +kernel) rfl
theorem k1_218 : (Jvm.Cond.fieldLink "SalaryCapLedger$Releases" (18 : Nat) "SalaryCapLedger$Releases" "costs" "[I") ∈ q_big := q_inbig q_sub1 (i := 218) (by decide +kernel) rfl
theorem k1_219 : (Jvm.Cond.fieldLink "SalaryCapLedger$Releases" (21 : Nat) "SalaryCapLedger$Releases" "size" "I") ∈ q_big := q_inbig q_sub1 (i := 219) (by decide +kernel) rfl
theorem k1_220 : (Jvm.Cond.laysFinal "SalaryCapLedger$Releases" "SalaryCapLedger$Releases" "numbers" "[I") ∈ q_big := q_inbig q_sub1 (i := 220) (by decide +kernel) rfl
theorem k1_222 : (Jvm.Cond.laysFinal "SalaryCapLedger$Releases" "SalaryCapLedger$Releases" "gains" "[I") ∈ q_big := q_inbig q_sub1 (i := 222) (by decide +kernel) rfl
theorem k1_224 : (Jvm.Cond.laysFinal "SalaryCapLedger$Releases" "SalaryCapLedger$Releases" "costs" "[I") ∈ q_big := q_inbig q_sub1 (i := 224) (by decide +kernel) rfl
theorem k1_226 : (Jvm.Cond.lays "SalaryCapLedger$Releases" "SalaryCapLedger$Releases" "size" "I") ∈ q_big := q_inbig q_sub1 (i := 226) (by decide +kernel) rfl
theorem k1_229 : (Jvm.Cond.classLink "SalaryCapLedger" (45 : Nat) "SalaryCapLedger$Terms") ∈ q_big := q_inbig q_sub1 (i := 229) (by decide +kernel) rfl
theorem k1_230 : (Jvm.Cond.instantiable "SalaryCapLedger$Terms" (9 : Nat)) ∈ q_big := q_inbig q_sub1 (i := 230) (by decide +kernel) rfl
theorem k1_232 : (Jvm.Cond.instanceMethod ({ cls := "SalaryCapLedger$Terms", name := "<init>", desc := "()V" } : Jvm.MethodName)) ∈ q_big := q_inbig q_sub1 (i := 232) (by decide +kernel) rfl
theorem k1_233 : (Jvm.Cond.code ({ cls := "SalaryCapLedger$Terms", name := "<init>", desc := "()V" } : Jvm.MethodName) prog_9_method_1_code (1 : Nat) (Option.none : Option Jvm.ClassFile.FieldType)) ∈ q_big := q_inbig q_sub1 (i := 233) (by decide +kernel) rfl
theorem k1_234 : (Jvm.Cond.methodLink "SalaryCapLedger$Terms" (3 : Nat) ({ cls := "java/lang/Object", name := "<init>", desc := "()V" } : Jvm.MethodName)) ∈ q_big := q_inbig q_sub1 (i := 234) (by decide +kernel) rfl
theorem k1_235 : (Jvm.Cond.fieldLink "SalaryCapLedger$Terms" (9 : Nat) "SalaryCapLedger$Terms" "caps" "[I") ∈ q_big := q_inbig q_sub1 (i := 235) (by decide +kernel) rfl
theorem k1_236 : (Jvm.Cond.fieldLink "SalaryCapLedger$Terms" (15 : Nat) "SalaryCapLedger$Terms" "taxLines" "[I") ∈ q_big := q_inbig q_sub1 (i := 236) (by decide +kernel) rfl
theorem k1_237 : (Jvm.Cond.fieldLink "SalaryCapLedger$Terms" (18 : Nat) "SalaryCapLedger$Terms" "sizes" "[I") ∈ q_big := q_inbig q_sub1 (i := 237) (by decide +kernel) rfl
theorem k1_238 : (Jvm.Cond.fieldLink "SalaryCapLedger$Terms" (21 : Nat) "SalaryCapLedger$Terms" "rates" "[I") ∈ q_big := q_inbig q_sub1 (i := 238) (by decide +kernel) rfl
theorem k1_239 : (Jvm.Cond.fieldLink "SalaryCapLedger$Terms" (24 : Nat) "SalaryCapLedger$Terms" "bracketCount" "I") ∈ q_big := q_inbig q_sub1 (i := 239) (by decide +kernel) rfl
theorem k2_0 : (Jvm.Cond.fieldLink "SalaryCapLedger$Reader" (119 : Nat) "SalaryCapLedger$Terms" "bracketCount" "I") ∈ q_big := q_inbig q_sub2 (i := 0) (by decide +kernel) rfl
theorem k2_1 : (Jvm.Cond.fieldLink "SalaryCapLedger$Terms" (28 : Nat) "SalaryCapLedger$Terms" "midLevelAmount" "I") ∈ q_big := q_inbig q_sub2 (i := 1) (by decide +kernel) rfl
theorem k2_2 : (Jvm.Cond.fieldLink "SalaryCapLedger$Reader" (101 : Nat) "SalaryCapLedger$Terms" "midLevelAmount" "I") ∈ q_big := q_inbig q_sub2 (i := 2) (by decide +kernel) rfl
theorem k2_3 : (Jvm.Cond.fieldLink "SalaryCapLedger" (188 : Nat) "SalaryCapLedger$Terms" "midLevelAmount" "I") ∈ q_big := q_inbig q_sub2 (i := 3) (by decide +kernel) rfl
theorem k2_4 : (Jvm.Cond.fieldLink "SalaryCapLedger$Terms" (31 : Nat) "SalaryCapLedger$Terms" "minimumSalary" "I") ∈ q_big := q_inbig q_sub2 (i := 4) (by decide +kernel) rfl
theorem k2_5 : (Jvm.Cond.fieldLink "SalaryCapLedger$Reader" (116 : Nat) "SalaryCapLedger$Terms" "minimumSalary" "I") ∈ q_big := q_inbig q_sub2 (i := 5) (by decide +kernel) rfl
theorem k2_6 : (Jvm.Cond.fieldLink "SalaryCapLedger" (320 : Nat) "SalaryCapLedger$Terms" "minimumSalary" "I") ∈ q_big := q_inbig q_sub2 (i := 6) (by decide +kernel) rfl
theorem k2_7 : (Jvm.Cond.fieldLink "SalaryCapLedger$Terms" (34 : Nat) "SalaryCapLedger$Terms" "teamCount" "I") ∈ q_big := q_inbig q_sub2 (i := 7) (by decide +kernel) rfl
theorem k2_8 : (Jvm.Cond.fieldLink "SalaryCapLedger$Reader" (80 : Nat) "SalaryCapLedger$Terms" "teamCount" "I") ∈ q_big := q_inbig q_sub2 (i := 8) (by decide +kernel) rfl
theorem k2_9 : (Jvm.Cond.fieldLink "SalaryCapLedger" (181 : Nat) "SalaryCapLedger$Terms" "teamCount" "I") ∈ q_big := q_inbig q_sub2 (i := 9) (by decide +kernel) rfl
theorem k2_10 : (Jvm.Cond.fieldLink "SalaryCapLedger$Terms" (37 : Nat) "SalaryCapLedger$Terms" "playerCount" "I") ∈ q_big := q_inbig q_sub2 (i := 10) (by decide +kernel) rfl
theorem k2_11 : (Jvm.Cond.fieldLink "SalaryCapLedger$Reader" (90 : Nat) "SalaryCapLedger$Terms" "playerCount" "I") ∈ q_big := q_inbig q_sub2 (i := 11) (by decide +kernel) rfl
theorem k2_12 : (Jvm.Cond.fieldLink "SalaryCapLedger" (290 : Nat) "SalaryCapLedger$Terms" "playerCount" "I") ∈ q_big := q_inbig q_sub2 (i := 12) (by decide +kernel) rfl
theorem k2_13 : (Jvm.Cond.laysFinal "SalaryCapLedger$Terms" "SalaryCapLedger$Terms" "caps" "[I") ∈ q_big := q_inbig q_sub2 (i := 13) (by decide +kernel) rfl
theorem k2_15 : (Jvm.Cond.laysFinal "SalaryCapLedger$Terms" "SalaryCapLedger$Terms" "taxLines" "[I") ∈ q_big := q_inbig q_sub2 (i := 15) (by decide +kernel) rfl
theorem k2_17 : (Jvm.Cond.laysFinal "SalaryCapLedger$Terms" "SalaryCapLedger$Terms" "sizes" "[I") ∈ q_big := q_inbig q_sub2 (i := 17) (by decide +kernel) rfl
theorem k2_19 : (Jvm.Cond.laysFinal "SalaryCapLedger$Terms" "SalaryCapLedger$Terms" "rates" "[I") ∈ q_big := q_inbig q_sub2 (i := 19) (by decide +kernel) rfl
theorem k2_21 : (Jvm.Cond.lays "SalaryCapLedger$Terms" "SalaryCapLedger$Terms" "bracketCount" "I") ∈ q_big := q_inbig q_sub2 (i := 21) (by decide +kernel) rfl
theorem k2_23 : (Jvm.Cond.lays "SalaryCapLedger$Terms" "SalaryCapLedger$Terms" "midLevelAmount" "I") ∈ q_big := q_inbig q_sub2 (i := 23) (by decide +kernel) rfl
theorem k2_25 : (Jvm.Cond.lays "SalaryCapLedger$Terms" "SalaryCapLedger$Terms" "minimumSalary" "I") ∈ q_big := q_inbig q_sub2 (i := 25) (by decide +kernel) rfl
theorem k2_27 : (Jvm.Cond.lays "SalaryCapLedger$Terms" "SalaryCapLedger$Terms" "teamCount" "I") ∈ q_big := q_inbig q_sub2 (i := 27) (by decide +kernel) rfl
theorem k2_29 : (Jvm.Cond.lays "SalaryCapLedger$Terms" "SalaryCapLedger$Terms" "playerCount" "I") ∈ q_big := q_inbig q_sub2 (i := 29) (by decide +kernel) rfl
theorem k2_32 : (Jvm.Cond.classLink "SalaryCapLedger" (52 : Nat) "SalaryCapLedger$Books") ∈ q_big := q_inbig q_sub2 (i := 32) (by decide +kernel) rfl
theorem k2_33 : (Jvm.Cond.methodLink "SalaryCapLedger" (54 : Nat) ({ cls := "SalaryCapLedger$Books", name := "<init>", desc := "()V" } : Jvm.MethodName)) ∈ q_big := q_inbig q_sub2 (i := 33) (by decide +kernel) rfl
theorem k2_34 : (Jvm.Cond.fieldLink "SalaryCapLedger" (9 : Nat) "SalaryCapLedger" "text" "[B") ∈ q_big := q_inbig q_sub2 (i := 34) (by decide +kernel) rfl
theorem k2_35 : (Jvm.Cond.fieldLink "SalaryCapLedger" (13 : Nat) "SalaryCapLedger" "textLength" "I") ∈ q_big := q_inbig q_sub2 (i := 35) (by decide +kernel) rfl
theorem k2_36 : (Jvm.Cond.fieldLink "SalaryCapLedger" (17 : Nat) "SalaryCapLedger" "errorAt" "I") ∈ q_big := q_inbig q_sub2 (i := 36) (by decide +kernel) rfl
theorem k2_37 : (Jvm.Cond.fieldLink "SalaryCapLedger" (23 : Nat) "SalaryCapLedger" "reader" "LSalaryCapLedger$Reader;") ∈ q_big := q_inbig q_sub2 (i := 37) (by decide +kernel) rfl
theorem k2_38 : (Jvm.Cond.fieldLink "SalaryCapLedger" (30 : Nat) "SalaryCapLedger" "history" "LSalaryCapLedger$History;") ∈ q_big := q_inbig q_sub2 (i := 38) (by decide +kernel) rfl
theorem k2_39 : (Jvm.Cond.fieldLink "SalaryCapLedger" (37 : Nat) "SalaryCapLedger" "releases" "LSalaryCapLedger$Releases;") ∈ q_big := q_inbig q_sub2 (i := 39) (by decide +kernel) rfl
theorem k2_40 : (Jvm.Cond.fieldLink "SalaryCapLedger" (41 : Nat) "SalaryCapLedger" "loaded" "Z") ∈ q_big := q_inbig q_sub2 (i := 40) (by decide +kernel) rfl
theorem k2_41 : (Jvm.Cond.fieldLink "SalaryCapLedger" (48 : Nat) "SalaryCapLedger" "terms" "LSalaryCapLedger$Terms;") ∈ q_big := q_inbig q_sub2 (i := 41) (by decide +kernel) rfl
theorem k2_42 : (Jvm.Cond.fieldLink "SalaryCapLedger" (55 : Nat) "SalaryCapLedger" "books" "LSalaryCapLedger$Books;") ∈ q_big := q_inbig q_sub2 (i := 42) (by decide +kernel) rfl
theorem k2_43 : (Jvm.Cond.fieldLink "SalaryCapLedger" (59 : Nat) "SalaryCapLedger" "spareTerms" "LSalaryCapLedger$Terms;") ∈ q_big := q_inbig q_sub2 (i := 43) (by decide +kernel) rfl
theorem k2_44 : (Jvm.Cond.fieldLink "SalaryCapLedger" (62 : Nat) "SalaryCapLedger" "spareBooks" "LSalaryCapLedger$Books;") ∈ q_big := q_inbig q_sub2 (i := 44) (by decide +kernel) rfl
theorem k2_45 : (Jvm.Cond.laysFinal "SalaryCapLedger" "SalaryCapLedger" "text" "[B") ∈ q_big := q_inbig q_sub2 (i := 45) (by decide +kernel) rfl
theorem k2_47 : (Jvm.Cond.lays "SalaryCapLedger" "SalaryCapLedger" "textLength" "I") ∈ q_big := q_inbig q_sub2 (i := 47) (by decide +kernel) rfl
theorem k2_49 : (Jvm.Cond.lays "SalaryCapLedger" "SalaryCapLedger" "errorAt" "I") ∈ q_big := q_inbig q_sub2 (i := 49) (by decide +kernel) rfl
theorem k2_51 : (Jvm.Cond.laysFinal "SalaryCapLedger" "SalaryCapLedger" "reader" "LSalaryCapLedger$Reader;") ∈ q_big := q_inbig q_sub2 (i := 51) (by decide +kernel) rfl
theorem k2_53 : (Jvm.Cond.laysFinal "SalaryCapLedger" "SalaryCapLedger" "history" "LSalaryCapLedger$History;") ∈ q_big := q_inbig q_sub2 (i := 53) (by decide +kernel) rfl
theorem k2_55 : (Jvm.Cond.laysFinal "SalaryCapLedger" "SalaryCapLedger" "releases" "LSalaryCapLedger$Releases;") ∈ q_big := q_inbig q_sub2 (i := 55) (by decide +kernel) rfl
theorem k2_57 : (Jvm.Cond.lays "SalaryCapLedger" "SalaryCapLedger" "loaded" "Z") ∈ q_big := q_inbig q_sub2 (i := 57) (by decide +kernel) rfl
theorem k2_59 : (Jvm.Cond.lays "SalaryCapLedger" "SalaryCapLedger" "terms" "LSalaryCapLedger$Terms;") ∈ q_big := q_inbig q_sub2 (i := 59) (by decide +kernel) rfl
theorem k2_61 : (Jvm.Cond.lays "SalaryCapLedger" "SalaryCapLedger" "books" "LSalaryCapLedger$Books;") ∈ q_big := q_inbig q_sub2 (i := 61) (by decide +kernel) rfl
theorem k2_63 : (Jvm.Cond.lays "SalaryCapLedger" "SalaryCapLedger" "spareTerms" "LSalaryCapLedger$Terms;") ∈ q_big := q_inbig q_sub2 (i := 63) (by decide +kernel) rfl
theorem k2_65 : (Jvm.Cond.lays "SalaryCapLedger" "SalaryCapLedger" "spareBooks" "LSalaryCapLedger$Books;") ∈ q_big := q_inbig q_sub2 (i := 65) (by decide +kernel) rfl
theorem k2_68 : (Jvm.Cond.methodLink "SalaryCapLedgerLaw" (157 : Nat) ({ cls := "SalaryCapLedger", name := "load", desc := "()I" } : Jvm.MethodName)) ∈ q_big := q_inbig q_sub2 (i := 68) (by decide +kernel) rfl
theorem k2_69 : (Jvm.Cond.instanceMethod ({ cls := "SalaryCapLedger", name := "load", desc := "()I" } : Jvm.MethodName)) ∈ q_big := q_inbig q_sub2 (i := 69) (by decide +kernel) rfl
theorem k2_70 : (Jvm.Cond.selects "SalaryCapLedger" ({ cls := "SalaryCapLedger", name := "load", desc := "()I" } : Jvm.MethodName) ({ cls := "SalaryCapLedger", name := "load", desc := "()I" } : Jvm.MethodName)) ∈ q_big := q_inbig q_sub2 (i := 70) (by decide +kernel) rfl
theorem k2_71 : (Jvm.Cond.code ({ cls := "SalaryCapLedger", name := "load", desc := "()I" } : Jvm.MethodName) prog_1_method_5_code (1 : Nat) (Option.some Jvm.ClassFile.FieldType.int)) ∈ q_big := q_inbig q_sub2 (i := 71) (by decide +kernel) rfl
theorem k2_72 : (Jvm.Cond.methodLink "SalaryCapLedger" (80 : Nat) ({ cls := "SalaryCapLedger$Reader", name := "readText", desc := "([BILSalaryCapLedger$Terms;LSalaryCapLedger$Books;)V" } : Jvm.MethodName)) ∈ q_big := q_inbig q_sub2 (i := 72) (by decide +kernel) rfl
theorem k2_73 : (Jvm.Cond.instanceMethod ({ cls := "SalaryCapLedger$Reader", name := "readText", desc := "([BILSalaryCapLedger$Terms;LSalaryCapLedger$Books;)V" } : Jvm.MethodName)) ∈ q_big := q_inbig q_sub2 (i := 73) (by decide +kernel) rfl
theorem k2_74 : (Jvm.Cond.selects "SalaryCapLedger$Reader" ({ cls := "SalaryCapLedger$Reader", name := "readText", desc := "([BILSalaryCapLedger$Terms;LSalaryCapLedger$Books;)V" } : Jvm.MethodName) ({ cls := "SalaryCapLedger$Reader", name := "readText", desc := "([BILSalaryCapLedger$Terms;LSalaryCapLedger$Books;)V" } : Jvm.MethodName)) ∈ q_big := q_inbig q_sub2 (i := 74) (by decide +kernel) rfl
theorem k2_75 : (Jvm.Cond.code ({ cls := "SalaryCapLedger$Reader", name := "readText", desc := "([BILSalaryCapLedger$Terms;LSalaryCapLedger$Books;)V" } : Jvm.MethodName) prog_6_method_3_code (6 : Nat) (Option.none : Option Jvm.ClassFile.FieldType)) ∈ q_big := q_inbig q_sub2 (i := 75) (by decide +kernel) rfl
theorem k2_76 : (Jvm.Cond.methodLink "SalaryCapLedger$Reader" (50 : Nat) ({ cls := "java/lang/Math", name := "min", desc := "(II)I" } : Jvm.MethodName)) ∈ q_big := q_inbig q_sub2 (i := 76) (by decide +kernel) rfl
theorem k2_77 : (Jvm.Cond.static ({ cls := "java/lang/Math", name := "min", desc := "(II)I" } : Jvm.MethodName)) ∈ q_big := q_inbig q_sub2 (i := 77) (by decide +kernel) rfl
theorem k2_78 : (Jvm.Cond.code ({ cls := "java/lang/Math", name := "min", desc := "(II)I" } : Jvm.MethodName) prog_20_method_69_code (2 : Nat) (Option.some Jvm.ClassFile.FieldType.int)) ∈ q_big := q_inbig q_sub2 (i := 78) (by decide +kernel) rfl
theorem k2_79 : (Jvm.Cond.methodLink "SalaryCapLedger$Reader" (56 : Nat) ({ cls := "SalaryCapLedger$Books", name := "clear", desc := "()V" } : Jvm.MethodName)) ∈ q_big := q_inbig q_sub2 (i := 79) (by decide +kernel) rfl
theorem k2_80 : (Jvm.Cond.instanceMethod ({ cls := "SalaryCapLedger$Books", name := "clear", desc := "()V" } : Jvm.MethodName)) ∈ q_big := q_inbig q_sub2 (i := 80) (by decide +kernel) rfl
theorem k2_81 : (Jvm.Cond.selects "SalaryCapLedger$Books" ({ cls := "SalaryCapLedger$Books", name := "clear", desc := "()V" } : Jvm.MethodName) ({ cls := "SalaryCapLedger$Books", name := "clear", desc := "()V" } : Jvm.MethodName)) ∈ q_big := q_inbig q_sub2 (i := 81) (by decide +kernel) rfl
theorem k2_82 : (Jvm.Cond.code ({ cls := "SalaryCapLedger$Books", name := "clear", desc := "()V" } : Jvm.MethodName) prog_2_method_2_code (2 : Nat) (Option.none : Option Jvm.ClassFile.FieldType)) ∈ q_big := q_inbig q_sub2 (i := 82) (by decide +kernel) rfl
theorem k2_83 : (Jvm.Cond.methodLink "SalaryCapLedger$Books" (36 : Nat) ({ cls := "SalaryCapLedger$Player", name := "becomeUnknown", desc := "()V" } : Jvm.MethodName)) ∈ q_big := q_inbig q_sub2 (i := 83) (by decide +kernel) rfl
theorem k2_84 : (Jvm.Cond.instanceMethod ({ cls := "SalaryCapLedger$Player", name := "becomeUnknown", desc := "()V" } : Jvm.MethodName)) ∈ q_big := q_inbig q_sub2 (i := 84) (by decide +kernel) rfl
theorem k2_85 : (Jvm.Cond.selects "SalaryCapLedger$Player" ({ cls := "SalaryCapLedger$Player", name := "becomeUnknown", desc := "()V" } : Jvm.MethodName) ({ cls := "SalaryCapLedger$Player", name := "becomeUnknown", desc := "()V" } : Jvm.MethodName)) ∈ q_big := q_inbig q_sub2 (i := 85) (by decide +kernel) rfl
theorem k2_86 : (Jvm.Cond.code ({ cls := "SalaryCapLedger$Player", name := "becomeUnknown", desc := "()V" } : Jvm.MethodName) prog_5_method_3_code (1 : Nat) (Option.none : Option Jvm.ClassFile.FieldType)) ∈ q_big := q_inbig q_sub2 (i := 86) (by decide +kernel) rfl
theorem k2_87 : (Jvm.Cond.methodLink "SalaryCapLedger$Books" (39 : Nat) ({ cls := "SalaryCapLedger$Team", name := "clear", desc := "()V" } : Jvm.MethodName)) ∈ q_big := q_inbig q_sub2 (i := 87) (by decide +kernel) rfl
theorem k2_88 : (Jvm.Cond.instanceMethod ({ cls := "SalaryCapLedger$Team", name := "clear", desc := "()V" } : Jvm.MethodName)) ∈ q_big := q_inbig q_sub2 (i := 88) (by decide +kernel) rfl
theorem k2_89 : (Jvm.Cond.selects "SalaryCapLedger$Team" ({ cls := "SalaryCapLedger$Team", name := "clear", desc := "()V" } : Jvm.MethodName) ({ cls := "SalaryCapLedger$Team", name := "clear", desc := "()V" } : Jvm.MethodName)) ∈ q_big := q_inbig q_sub2 (i := 89) (by decide +kernel) rfl
theorem k2_90 : (Jvm.Cond.code ({ cls := "SalaryCapLedger$Team", name := "clear", desc := "()V" } : Jvm.MethodName) prog_8_method_2_code (2 : Nat) (Option.none : Option Jvm.ClassFile.FieldType)) ∈ q_big := q_inbig q_sub2 (i := 90) (by decide +kernel) rfl
theorem k2_91 : (Jvm.Cond.methodLink "SalaryCapLedger$Books" (42 : Nat) ({ cls := "SalaryCapLedger$Deal", name := "agree", desc := "(IIIII)V" } : Jvm.MethodName)) ∈ q_big := q_inbig q_sub2 (i := 91) (by decide +kernel) rfl
theorem k2_92 : (Jvm.Cond.instanceMethod ({ cls := "SalaryCapLedger$Deal", name := "agree", desc := "(IIIII)V" } : Jvm.MethodName)) ∈ q_big := q_inbig q_sub2 (i := 92) (by decide +kernel) rfl
theorem k2_93 : (Jvm.Cond.selects "SalaryCapLedger$Deal" ({ cls := "SalaryCapLedger$Deal", name := "agree", desc := "(IIIII)V" } : Jvm.MethodName) ({ cls := "SalaryCapLedger$Deal", name := "agree", desc := "(IIIII)V" } : Jvm.MethodName)) ∈ q_big := q_inbig q_sub2 (i := 93) (by decide +kernel) rfl
theorem k2_94 : (Jvm.Cond.code ({ cls := "SalaryCapLedger$Deal", name := "agree", desc := "(IIIII)V" } : Jvm.MethodName) prog_3_method_2_code (6 : Nat) (Option.none : Option Jvm.ClassFile.FieldType)) ∈ q_big := q_inbig q_sub2 (i := 94) (by decide +kernel) rfl
theorem k2_95 : (Jvm.Cond.methodLink "SalaryCapLedger$Reader" (61 : Nat) ({ cls := "SalaryCapLedger$Reader", name := "findToken", desc := "()V" } : Jvm.MethodName)) ∈ q_big := q_inbig q_sub2 (i := 95) (by decide +kernel) rfl
theorem k2_97 : (Jvm.Cond.instanceMethod ({ cls := "SalaryCapLedger$Reader", name := "findToken", desc := "()V" } : Jvm.MethodName)) ∈ q_big := q_inbig q_sub2 (i := 97) (by decide +kernel) rfl
theorem k2_98 : (Jvm.Cond.code ({ cls := "SalaryCapLedger$Reader", name := "findToken", desc := "()V" } : Jvm.MethodName) prog_6_method_12_code (1 : Nat) (Option.none : Option Jvm.ClassFile.FieldType)) ∈ q_big := q_inbig q_sub2 (i := 98) (by decide +kernel) rfl
theorem k2_99 : (Jvm.Cond.methodLink "SalaryCapLedger$Reader" (171 : Nat) ({ cls := "SalaryCapLedger$Reader", name := "isLetter", desc := "(I)Z" } : Jvm.MethodName)) ∈ q_big := q_inbig q_sub2 (i := 99) (by decide +kernel) rfl
theorem k2_101 : (Jvm.Cond.instanceMethod ({ cls := "SalaryCapLedger$Reader", name := "isLetter", desc := "(I)Z" } : Jvm.MethodName)) ∈ q_big := q_inbig q_sub2 (i := 101) (by decide +kernel) rfl
theorem k2_102 : (Jvm.Cond.code ({ cls := "SalaryCapLedger$Reader", name := "isLetter", desc := "(I)Z" } : Jvm.MethodName) prog_6_method_14_code (2 : Nat) (Option.some Jvm.ClassFile.FieldType.boolean)) ∈ q_big := q_inbig q_sub2 (i := 102) (by decide +kernel) rfl
theorem k2_103 : (Jvm.Cond.methodLink "SalaryCapLedger$Reader" (175 : Nat) ({ cls := "SalaryCapLedger$Reader", name := "isDigit", desc := "(I)Z" } : Jvm.MethodName)) ∈ q_big := q_inbig q_sub2 (i := 103) (by decide +kernel) rfl
theorem k2_105 : (Jvm.Cond.instanceMethod ({ cls := "SalaryCapLedger$Reader", name := "isDigit", desc := "(I)Z" } : Jvm.MethodName)) ∈ q_big := q_inbig q_sub2 (i := 105) (by decide +kernel) rfl
theorem k2_106 : (Jvm.Cond.code ({ cls := "SalaryCapLedger$Reader", name := "isDigit", desc := "(I)Z" } : Jvm.MethodName) prog_6_method_15_code (2 : Nat) (Option.some Jvm.ClassFile.FieldType.boolean)) ∈ q_big := q_inbig q_sub2 (i := 106) (by decide +kernel) rfl
theorem k2_107 : (Jvm.Cond.methodLink "SalaryCapLedger$Reader" (178 : Nat) ({ cls := "SalaryCapLedger$Reader", name := "findNumber", desc := "()V" } : Jvm.MethodName)) ∈ q_big := q_inbig q_sub2 (i := 107) (by decide +kernel) rfl
theorem k2_109 : (Jvm.Cond.instanceMethod ({ cls := "SalaryCapLedger$Reader", name := "findNumber", desc := "()V" } : Jvm.MethodName)) ∈ q_big := q_inbig q_sub2 (i := 109) (by decide +kernel) rfl
theorem k2_110 : (Jvm.Cond.code ({ cls := "SalaryCapLedger$Reader", name := "findNumber", desc := "()V" } : Jvm.MethodName) prog_6_method_13_code (1 : Nat) (Option.none : Option Jvm.ClassFile.FieldType)) ∈ q_big := q_inbig q_sub2 (i := 110) (by decide +kernel) rfl
theorem k2_111 : (Jvm.Cond.methodLink "SalaryCapLedger$Reader" (64 : Nat) ({ cls := "SalaryCapLedger$Reader", name := "readLeague", desc := "(LSalaryCapLedger$Terms;)V" } : Jvm.MethodName)) ∈ q_big := q_inbig q_sub2 (i := 111) (by decide +kernel) rfl
theorem k2_113 : (Jvm.Cond.instanceMethod ({ cls := "SalaryCapLedger$Reader", name := "readLeague", desc := "(LSalaryCapLedger$Terms;)V" } : Jvm.MethodName)) ∈ q_big := q_inbig q_sub2 (i := 113) (by decide +kernel) rfl
theorem k2_114 : (Jvm.Cond.code ({ cls := "SalaryCapLedger$Reader", name := "readLeague", desc := "(LSalaryCapLedger$Terms;)V" } : Jvm.MethodName) prog_6_method_4_code (5 : Nat) (Option.none : Option Jvm.ClassFile.FieldType)) ∈ q_big := q_inbig q_sub2 (i := 114) (by decide +kernel) rfl
theorem k2_116 : (Jvm.Cond.methodLink "SalaryCapLedger$Reader" (73 : Nat) ({ cls := "SalaryCapLedger$Reader", name := "takeWord", desc := "(Ljava/lang/String;)V" } : Jvm.MethodName)) ∈ q_big := q_inbig q_sub2 (i := 116) (by decide +kernel) rfl
theorem k2_118 : (Jvm.Cond.instanceMethod ({ cls := "SalaryCapLedger$Reader", name := "takeWord", desc := "(Ljava/lang/String;)V" } : Jvm.MethodName)) ∈ q_big := q_inbig q_sub2 (i := 118) (by decide +kernel) rfl
theorem k2_119 : (Jvm.Cond.code ({ cls := "SalaryCapLedger$Reader", name := "takeWord", desc := "(Ljava/lang/String;)V" } : Jvm.MethodName) prog_6_method_9_code (2 : Nat) (Option.none : Option Jvm.ClassFile.FieldType)) ∈ q_big := q_inbig q_sub2 (i := 119) (by decide +kernel) rfl
theorem k2_120 : (Jvm.Cond.methodLink "SalaryCapLedger$Reader" (124 : Nat) ({ cls := "SalaryCapLedger$Reader", name := "isWord", desc := "(Ljava/lang/String;)Z" } : Jvm.MethodName)) ∈ q_big := q_inbig q_sub2 (i := 120) (by decide +kernel) rfl
theorem k2_122 : (Jvm.Cond.instanceMethod ({ cls := "SalaryCapLedger$Reader", name := "isWord", desc := "(Ljava/lang/String;)Z" } : Jvm.MethodName)) ∈ q_big := q_inbig q_sub2 (i := 122) (by decide +kernel) rfl
theorem k2_123 : (Jvm.Cond.code ({ cls := "SalaryCapLedger$Reader", name := "isWord", desc := "(Ljava/lang/String;)Z" } : Jvm.MethodName) prog_6_method_8_code (3 : Nat) (Option.some Jvm.ClassFile.FieldType.boolean)) ∈ q_big := q_inbig q_sub2 (i := 123) (by decide +kernel) rfl
theorem k2_124 : (Jvm.Cond.methodLink "SalaryCapLedger$Reader" (93 : Nat) ({ cls := "SalaryCapLedger$Reader", name := "failed", desc := "()Z" } : Jvm.MethodName)) ∈ q_big := q_inbig q_sub2 (i := 124) (by decide +kernel) rfl
theorem k2_125 : (Jvm.Cond.instanceMethod ({ cls := "SalaryCapLedger$Reader", name := "failed", desc := "()Z" } : Jvm.MethodName)) ∈ q_big := q_inbig q_sub2 (i := 125) (by decide +kernel) rfl
theorem k2_126 : (Jvm.Cond.selects "SalaryCapLedger$Reader" ({ cls := "SalaryCapLedger$Reader", name := "failed", desc := "()Z" } : Jvm.MethodName) ({ cls := "SalaryCapLedger$Reader", name := "failed", desc := "()Z" } : Jvm.MethodName)) ∈ q_big := q_inbig q_sub2 (i := 126) (by decide +kernel) rfl
theorem k2_127 : (Jvm.Cond.code ({ cls := "SalaryCapLedger$Reader", name := "failed", desc := "()Z" } : Jvm.MethodName) prog_6_method_2_code (1 : Nat) (Option.some Jvm.ClassFile.FieldType.boolean)) ∈ q_big := q_inbig q_sub2 (i := 127) (by decide +kernel) rfl
theorem k2_128 : (Jvm.Cond.methodLink "SalaryCapLedger$Reader" (162 : Nat) ({ cls := "java/lang/String", name := "length", desc := "()I" } : Jvm.MethodName)) ∈ q_big := q_inbig q_sub2 (i := 128) (by decide +kernel) rfl
theorem k2_129 : (Jvm.Cond.instanceMethod ({ cls := "java/lang/String", name := "length", desc := "()I" } : Jvm.MethodName)) ∈ q_big := q_inbig q_sub2 (i := 129) (by decide +kernel) rfl
theorem k2_130 : (Jvm.Cond.selects "java/lang/String" ({ cls := "java/lang/String", name := "length", desc := "()I" } : Jvm.MethodName) ({ cls := "java/lang/String", name := "length", desc := "()I" } : Jvm.MethodName)) ∈ q_big := q_inbig q_sub2 (i := 130) (by decide +kernel) rfl
theorem k2_131 : (Jvm.Cond.code ({ cls := "java/lang/String", name := "length", desc := "()I" } : Jvm.MethodName) prog_22_method_54_code (1 : Nat) (Option.some Jvm.ClassFile.FieldType.int)) ∈ q_big := q_inbig q_sub2 (i := 131) (by decide +kernel) rfl
theorem k2_132 : (Jvm.Cond.methodLink "java/lang/String" (335 : Nat) ({ cls := "java/lang/String", name := "coder", desc := "()B" } : Jvm.MethodName)) ∈ q_big := q_inbig q_sub2 (i := 132) (by decide +kernel) rfl
theorem k2_133 : (Jvm.Cond.instanceMethod ({ cls := "java/lang/String", name := "coder", desc := "()B" } : Jvm.MethodName)) ∈ q_big := q_inbig q_sub2 (i := 133) (by decide +kernel) rfl
theorem k2_134 : (Jvm.Cond.selects "java/lang/String" ({ cls := "java/lang/String", name := "coder", desc := "()B" } : Jvm.MethodName) ({ cls := "java/lang/String", name := "coder", desc := "()B" } : Jvm.MethodName)) ∈ q_big := q_inbig q_sub2 (i := 134) (by decide +kernel) rfl
theorem k2_135 : (Jvm.Cond.code ({ cls := "java/lang/String", name := "coder", desc := "()B" } : Jvm.MethodName) prog_22_method_152_code (1 : Nat) (Option.some Jvm.ClassFile.FieldType.byte)) ∈ q_big := q_inbig q_sub2 (i := 135) (by decide +kernel) rfl
theorem k2_136 : (Jvm.Cond.fieldLink "java/lang/String" (38 : Nat) "java/lang/String" "COMPACT_STRINGS" "Z") ∈ q_big := q_inbig q_sub2 (i := 136) (by decide +kernel) rfl
theorem k2_138 : (Jvm.Cond.methodLink "SalaryCapLedger$Reader" (167 : Nat) ({ cls := "java/lang/String", name := "charAt", desc := "(I)C" } : Jvm.MethodName)) ∈ q_big := q_inbig q_sub2 (i := 138) (by decide +kernel) rfl
theorem k2_139 : (Jvm.Cond.instanceMethod ({ cls := "java/lang/String", name := "charAt", desc := "(I)C" } : Jvm.MethodName)) ∈ q_big := q_inbig q_sub2 (i := 139) (by decide +kernel) rfl
theorem k2_140 : (Jvm.Cond.selects "java/lang/String" ({ cls := "java/lang/String", name := "charAt", desc := "(I)C" } : Jvm.MethodName) ({ cls := "java/lang/String", name := "charAt", desc := "(I)C" } : Jvm.MethodName)) ∈ q_big := q_inbig q_sub2 (i := 140) (by decide +kernel) rfl
theorem k2_141 : (Jvm.Cond.code ({ cls := "java/lang/String", name := "charAt", desc := "(I)C" } : Jvm.MethodName) prog_22_method_56_code (2 : Nat) (Option.some Jvm.ClassFile.FieldType.char)) ∈ q_big := q_inbig q_sub2 (i := 141) (by decide +kernel) rfl
theorem k2_142 : (Jvm.Cond.methodLink "java/lang/String" (492 : Nat) ({ cls := "java/lang/String", name := "isLatin1", desc := "()Z" } : Jvm.MethodName)) ∈ q_big := q_inbig q_sub2 (i := 142) (by decide +kernel) rfl
theorem k2_143 : (Jvm.Cond.instanceMethod ({ cls := "java/lang/String", name := "isLatin1", desc := "()Z" } : Jvm.MethodName)) ∈ q_big := q_inbig q_sub2 (i := 143) (by decide +kernel) rfl
theorem k2_144 : (Jvm.Cond.selects "java/lang/String" ({ cls := "java/lang/String", name := "isLatin1", desc := "()Z" } : Jvm.MethodName) ({ cls := "java/lang/String", name := "isLatin1", desc := "()Z" } : Jvm.MethodName)) ∈ q_big := q_inbig q_sub2 (i := 144) (by decide +kernel) rfl
theorem k2_145 : (Jvm.Cond.code ({ cls := "java/lang/String", name := "isLatin1", desc := "()Z" } : Jvm.MethodName) prog_22_method_154_code (1 : Nat) (Option.some Jvm.ClassFile.FieldType.boolean)) ∈ q_big := q_inbig q_sub2 (i := 145) (by decide +kernel) rfl
theorem k2_146 : (Jvm.Cond.methodLink "java/lang/String" (495 : Nat) ({ cls := "java/lang/StringLatin1", name := "charAt", desc := "([BI)C" } : Jvm.MethodName)) ∈ q_big := q_inbig q_sub2 (i := 146) (by decide +kernel) rfl
theorem k2_147 : (Jvm.Cond.static ({ cls := "java/lang/StringLatin1", name := "charAt", desc := "([BI)C" } : Jvm.MethodName)) ∈ q_big := q_inbig q_sub2 (i := 147) (by decide +kernel) rfl
theorem k2_148 : (Jvm.Cond.code ({ cls := "java/lang/StringLatin1", name := "charAt", desc := "([BI)C" } : Jvm.MethodName) prog_23_method_2_code (2 : Nat) (Option.some Jvm.ClassFile.FieldType.char)) ∈ q_big := q_inbig q_sub2 (i := 148) (by decide +kernel) rfl
theorem k2_149 : (Jvm.Cond.methodLink "java/lang/StringLatin1" (9 : Nat) ({ cls := "java/lang/String", name := "checkIndex", desc := "(II)V" } : Jvm.MethodName)) ∈ q_big := q_inbig q_sub2 (i := 149) (by decide +kernel) rfl
theorem k2_150 : (Jvm.Cond.static ({ cls := "java/lang/String", name := "checkIndex", desc := "(II)V" } : Jvm.MethodName)) ∈ q_big := q_inbig q_sub2 (i := 150) (by decide +kernel) rfl
theorem k2_151 : (Jvm.Cond.code ({ cls := "java/lang/String", name := "checkIndex", desc := "(II)V" } : Jvm.MethodName) prog_22_method_155_code (2 : Nat) (Option.none : Option Jvm.ClassFile.FieldType)) ∈ q_big := q_inbig q_sub2 (i := 151) (by decide +kernel) rfl
theorem k2_152 : (Jvm.Cond.fieldLink "java/lang/String" (1053 : Nat) "jdk/internal/util/Preconditions" "SIOOBE_FORMATTER" "Ljava/util/function/BiFunction;") ∈ q_big := q_inbig q_sub2 (i := 152) (by decide +kernel) rfl
theorem k2_154 : (Jvm.Cond.methodLink "java/lang/String" (1059 : Nat) ({ cls := "jdk/internal/util/Preconditions", name := "checkIndex", desc := "(IILjava/util/function/BiFunction;)I" } : Jvm.MethodName)) ∈ q_big := q_inbig q_sub2 (i := 154) (by decide +kernel) rfl
theorem k2_155 : (Jvm.Cond.static ({ cls := "jdk/internal/util/Preconditions", name := "checkIndex", desc := "(IILjava/util/function/BiFunction;)I" } : Jvm.MethodName)) ∈ q_big := q_inbig q_sub2 (i := 155) (by decide +kernel) rfl
theorem k2_156 : (Jvm.Cond.code ({ cls := "jdk/internal/util/Preconditions", name := "checkIndex", desc := "(IILjava/util/function/BiFunction;)I" } : Jvm.MethodName) prog_30_method_11_code (3 : Nat) (Option.some Jvm.ClassFile.FieldType.int)) ∈ q_big := q_inbig q_sub2 (i := 156) (by decide +kernel) rfl
theorem k2_157 : (Jvm.Cond.methodLink "java/lang/String" (498 : Nat) ({ cls := "java/lang/StringUTF16", name := "charAt", desc := "([BI)C" } : Jvm.MethodName)) ∈ q_big := q_inbig q_sub2 (i := 157) (by decide +kernel) rfl
theorem k2_158 : (Jvm.Cond.static ({ cls := "java/lang/StringUTF16", name := "charAt", desc := "([BI)C" } : Jvm.MethodName)) ∈ q_big := q_inbig q_sub2 (i := 158) (by decide +kernel) rfl
theorem k2_159 : (Jvm.Cond.code ({ cls := "java/lang/StringUTF16", name := "charAt", desc := "([BI)C" } : Jvm.MethodName) prog_24_method_83_code (2 : Nat) (Option.some Jvm.ClassFile.FieldType.char)) ∈ q_big := q_inbig q_sub2 (i := 159) (by decide +kernel) rfl
theorem k2_160 : (Jvm.Cond.methodLink "java/lang/StringUTF16" (67 : Nat) ({ cls := "java/lang/StringUTF16", name := "checkIndex", desc := "(I[B)V" } : Jvm.MethodName)) ∈ q_big := q_inbig q_sub2 (i := 160) (by decide +kernel) rfl
theorem k2_161 : (Jvm.Cond.static ({ cls := "java/lang/StringUTF16", name := "checkIndex", desc := "(I[B)V" } : Jvm.MethodName)) ∈ q_big := q_inbig q_sub2 (i := 161) (by decide +kernel) rfl
theorem k2_162 : (Jvm.Cond.code ({ cls := "java/lang/StringUTF16", name := "checkIndex", desc := "(I[B)V" } : Jvm.MethodName) prog_24_method_91_code (2 : Nat) (Option.none : Option Jvm.ClassFile.FieldType)) ∈ q_big := q_inbig q_sub2 (i := 162) (by decide +kernel) rfl
theorem k2_163 : (Jvm.Cond.methodLink "java/lang/StringUTF16" (48 : Nat) ({ cls := "java/lang/StringUTF16", name := "length", desc := "([B)I" } : Jvm.MethodName)) ∈ q_big := q_inbig q_sub2 (i := 163) (by decide +kernel) rfl
theorem k2_164 : (Jvm.Cond.static ({ cls := "java/lang/StringUTF16", name := "length", desc := "([B)I" } : Jvm.MethodName)) ∈ q_big := q_inbig q_sub2 (i := 164) (by decide +kernel) rfl
theorem k2_165 : (Jvm.Cond.code ({ cls := "java/lang/StringUTF16", name := "length", desc := "([B)I" } : Jvm.MethodName) prog_24_method_6_code (1 : Nat) (Option.some Jvm.ClassFile.FieldType.int)) ∈ q_big := q_inbig q_sub2 (i := 165) (by decide +kernel) rfl
theorem k2_166 : (Jvm.Cond.methodLink "java/lang/StringUTF16" (414 : Nat) ({ cls := "java/lang/String", name := "checkIndex", desc := "(II)V" } : Jvm.MethodName)) ∈ q_big := q_inbig q_sub2 (i := 166) (by decide +kernel) rfl
theorem k2_167 : (Jvm.Cond.methodLink "java/lang/StringUTF16" (71 : Nat) ({ cls := "java/lang/StringUTF16", name := "getChar", desc := "([BI)C" } : Jvm.MethodName)) ∈ q_big := q_inbig q_sub2 (i := 167) (by decide +kernel) rfl
theorem k2_168 : (Jvm.Cond.static ({ cls := "java/lang/StringUTF16", name := "getChar", desc := "([BI)C" } : Jvm.MethodName)) ∈ q_big := q_inbig q_sub2 (i := 168) (by decide +kernel) rfl
theorem k2_169 : (Jvm.Cond.code ({ cls := "java/lang/StringUTF16", name := "getChar", desc := "([BI)C" } : Jvm.MethodName) prog_24_method_5_code (2 : Nat) (Option.some Jvm.ClassFile.FieldType.char)) ∈ q_big := q_inbig q_sub2 (i := 169) (by decide +kernel) rfl
theorem k2_170 : (Jvm.Cond.fieldLink "java/lang/StringUTF16" (44 : Nat) "java/lang/StringUTF16" "$assertionsDisabled" "Z") ∈ q_big := q_inbig q_sub2 (i := 170) (by decide +kernel) rfl
theorem k2_172 : (Jvm.Cond.fieldLink "java/lang/StringUTF16" (59 : Nat) "java/lang/StringUTF16" "HI_BYTE_SHIFT" "I") ∈ q_big := q_inbig q_sub2 (i := 172) (by decide +kernel) rfl
theorem k2_174 : (Jvm.Cond.fieldLink "java/lang/StringUTF16" (63 : Nat) "java/lang/StringUTF16" "LO_BYTE_SHIFT" "I") ∈ q_big := q_inbig q_sub2 (i := 174) (by decide +kernel) rfl
theorem k2_176 : (Jvm.Cond.methodLink "SalaryCapLedger$Reader" (132 : Nat) ({ cls := "SalaryCapLedger$Reader", name := "fail", desc := "(II)V" } : Jvm.MethodName)) ∈ q_big := q_inbig q_sub2 (i := 176) (by decide +kernel) rfl
theorem k2_178 : (Jvm.Cond.instanceMethod ({ cls := "SalaryCapLedger$Reader", name := "fail", desc := "(II)V" } : Jvm.MethodName)) ∈ q_big := q_inbig q_sub2 (i := 178) (by decide +kernel) rfl
theorem k2_179 : (Jvm.Cond.code ({ cls := "SalaryCapLedger$Reader", name := "fail", desc := "(II)V" } : Jvm.MethodName) prog_6_method_7_code (3 : Nat) (Option.none : Option Jvm.ClassFile.FieldType)) ∈ q_big := q_inbig q_sub2 (i := 179) (by decide +kernel) rfl
theorem k2_180 : (Jvm.Cond.constant "SalaryCapLedger$Reader" (110 : Nat) (999999 : Int32)) ∈ q_big := q_inbig q_sub2 (i := 180) (by decide +kernel) rfl
theorem k2_181 : (Jvm.Cond.methodLink "SalaryCapLedger$Reader" (77 : Nat) ({ cls := "SalaryCapLedger$Reader", name := "takeNumber", desc := "(II)I" } : Jvm.MethodName)) ∈ q_big := q_inbig q_sub2 (i := 181) (by decide +kernel) rfl
theorem k2_183 : (Jvm.Cond.instanceMethod ({ cls := "SalaryCapLedger$Reader", name := "takeNumber", desc := "(II)I" } : Jvm.MethodName)) ∈ q_big := q_inbig q_sub2 (i := 183) (by decide +kernel) rfl
theorem k2_184 : (Jvm.Cond.code ({ cls := "SalaryCapLedger$Reader", name := "takeNumber", desc := "(II)I" } : Jvm.MethodName) prog_6_method_11_code (4 : Nat) (Option.some Jvm.ClassFile.FieldType.int)) ∈ q_big := q_inbig q_sub2 (i := 184) (by decide +kernel) rfl
theorem k2_185 : (Jvm.Cond.methodLink "SalaryCapLedger$Reader" (111 : Nat) ({ cls := "SalaryCapLedger$Terms", name := "growLines", desc := "(III)V" } : Jvm.MethodName)) ∈ q_big := q_inbig q_sub2 (i := 185) (by decide +kernel) rfl
theorem k2_186 : (Jvm.Cond.instanceMethod ({ cls := "SalaryCapLedger$Terms", name := "growLines", desc := "(III)V" } : Jvm.MethodName)) ∈ q_big := q_inbig q_sub2 (i := 186) (by decide +kernel) rfl
theorem k2_187 : (Jvm.Cond.selects "SalaryCapLedger$Terms" ({ cls := "SalaryCapLedger$Terms", name := "growLines", desc := "(III)V" } : Jvm.MethodName) ({ cls := "SalaryCapLedger$Terms", name := "growLines", desc := "(III)V" } : Jvm.MethodName)) ∈ q_big := q_inbig q_sub2 (i := 187) (by decide +kernel) rfl
theorem k2_188 : (Jvm.Cond.code ({ cls := "SalaryCapLedger$Terms", name := "growLines", desc := "(III)V" } : Jvm.MethodName) prog_9_method_2_code (9 : Nat) (Option.none : Option Jvm.ClassFile.FieldType)) ∈ q_big := q_inbig q_sub2 (i := 188) (by decide +kernel) rfl
theorem k2_189 : (Jvm.Cond.constantLong "SalaryCapLedger$Terms" (40 : Nat) (1000 : Int64)) ∈ q_big := q_inbig q_sub2 (i := 189) (by decide +kernel) rfl
theorem k2_190 : (Jvm.Cond.constant "SalaryCapLedger$Reader" (115 : Nat) (99999 : Int32)) ∈ q_big := q_inbig q_sub2 (i := 190) (by decide +kernel) rfl
theorem k2_191 : (Jvm.Cond.methodLink "SalaryCapLedger$Reader" (85 : Nat) ({ cls := "SalaryCapLedger$Reader", name := "takeSemicolon", desc := "()V" } : Jvm.MethodName)) ∈ q_big := q_inbig q_sub2 (i := 191) (by decide +kernel) rfl
theorem k2_193 : (Jvm.Cond.instanceMethod ({ cls := "SalaryCapLedger$Reader", name := "takeSemicolon", desc := "()V" } : Jvm.MethodName)) ∈ q_big := q_inbig q_sub2 (i := 193) (by decide +kernel) rfl
theorem k2_194 : (Jvm.Cond.code ({ cls := "SalaryCapLedger$Reader", name := "takeSemicolon", desc := "()V" } : Jvm.MethodName) prog_6_method_10_code (1 : Nat) (Option.none : Option Jvm.ClassFile.FieldType)) ∈ q_big := q_inbig q_sub2 (i := 194) (by decide +kernel) rfl
theorem k2_195 : (Jvm.Cond.methodLink "SalaryCapLedger$Reader" (68 : Nat) ({ cls := "SalaryCapLedger$Reader", name := "readBrackets", desc := "(LSalaryCapLedger$Terms;)V" } : Jvm.MethodName)) ∈ q_big := q_inbig q_sub2 (i := 195) (by decide +kernel) rfl
theorem k2_197 : (Jvm.Cond.instanceMethod ({ cls := "SalaryCapLedger$Reader", name := "readBrackets", desc := "(LSalaryCapLedger$Terms;)V" } : Jvm.MethodName)) ∈ q_big := q_inbig q_sub2 (i := 197) (by decide +kernel) rfl
theorem k2_198 : (Jvm.Cond.code ({ cls := "SalaryCapLedger$Reader", name := "readBrackets", desc := "(LSalaryCapLedger$Terms;)V" } : Jvm.MethodName) prog_6_method_5_code (5 : Nat) (Option.none : Option Jvm.ClassFile.FieldType)) ∈ q_big := q_inbig q_sub2 (i := 198) (by decide +kernel) rfl
theorem k2_200 : (Jvm.Cond.methodLink "SalaryCapLedger$Reader" (128 : Nat) ({ cls := "SalaryCapLedger$Terms", name := "addBracket", desc := "(II)V" } : Jvm.MethodName)) ∈ q_big := q_inbig q_sub2 (i := 200) (by decide +kernel) rfl
theorem k2_201 : (Jvm.Cond.instanceMethod ({ cls := "SalaryCapLedger$Terms", name := "addBracket", desc := "(II)V" } : Jvm.MethodName)) ∈ q_big := q_inbig q_sub2 (i := 201) (by decide +kernel) rfl
theorem k2_202 : (Jvm.Cond.selects "SalaryCapLedger$Terms" ({ cls := "SalaryCapLedger$Terms", name := "addBracket", desc := "(II)V" } : Jvm.MethodName) ({ cls := "SalaryCapLedger$Terms", name := "addBracket", desc := "(II)V" } : Jvm.MethodName)) ∈ q_big := q_inbig q_sub2 (i := 202) (by decide +kernel) rfl
theorem k2_203 : (Jvm.Cond.code ({ cls := "SalaryCapLedger$Terms", name := "addBracket", desc := "(II)V" } : Jvm.MethodName) prog_9_method_3_code (3 : Nat) (Option.none : Option Jvm.ClassFile.FieldType)) ∈ q_big := q_inbig q_sub2 (i := 203) (by decide +kernel) rfl
theorem k2_206 : (Jvm.Cond.methodLink "SalaryCapLedger$Reader" (97 : Nat) ({ cls := "SalaryCapLedger$Reader", name := "readContract", desc := "(LSalaryCapLedger$Terms;LSalaryCapLedger$Books;)V" } : Jvm.MethodName)) ∈ q_big := q_inbig q_sub2 (i := 206) (by decide +kernel) rfl
theorem k2_208 : (Jvm.Cond.instanceMethod ({ cls := "SalaryCapLedger$Reader", name := "readContract", desc := "(LSalaryCapLedger$Terms;LSalaryCapLedger$Books;)V" } : Jvm.MethodName)) ∈ q_big := q_inbig q_sub2 (i := 208) (by decide +kernel) rfl
theorem k2_209 : (Jvm.Cond.code ({ cls := "SalaryCapLedger$Reader", name := "readContract", desc := "(LSalaryCapLedger$Terms;LSalaryCapLedger$Books;)V" } : Jvm.MethodName) prog_6_method_6_code (10 : Nat) (Option.none : Option Jvm.ClassFile.FieldType)) ∈ q_big := q_inbig q_sub2 (i := 209) (by decide +kernel) rfl
theorem k2_211 : (Jvm.Cond.methodLink "SalaryCapLedger$Reader" (140 : Nat) ({ cls := "SalaryCapLedger$Player", name := "hasContract", desc := "()Z" } : Jvm.MethodName)) ∈ q_big := q_inbig q_sub2 (i := 211) (by decide +kernel) rfl
theorem k2_212 : (Jvm.Cond.instanceMethod ({ cls := "SalaryCapLedger$Player", name := "hasContract", desc := "()Z" } : Jvm.MethodName)) ∈ q_big := q_inbig q_sub2 (i := 212) (by decide +kernel) rfl
theorem k2_213 : (Jvm.Cond.selects "SalaryCapLedger$Player" ({ cls := "SalaryCapLedger$Player", name := "hasContract", desc := "()Z" } : Jvm.MethodName) ({ cls := "SalaryCapLedger$Player", name := "hasContract", desc := "()Z" } : Jvm.MethodName)) ∈ q_big := q_inbig q_sub2 (i := 213) (by decide +kernel) rfl
theorem k2_214 : (Jvm.Cond.code ({ cls := "SalaryCapLedger$Player", name := "hasContract", desc := "()Z" } : Jvm.MethodName) prog_5_method_2_code (1 : Nat) (Option.some Jvm.ClassFile.FieldType.boolean)) ∈ q_big := q_inbig q_sub2 (i := 214) (by decide +kernel) rfl
theorem k2_215 : (Jvm.Cond.methodLink "SalaryCapLedger$Reader" (145 : Nat) ({ cls := "SalaryCapLedger$Books", name := "playersOf", desc := "(I)I" } : Jvm.MethodName)) ∈ q_big := q_inbig q_sub2 (i := 215) (by decide +kernel) rfl
theorem k2_216 : (Jvm.Cond.instanceMethod ({ cls := "SalaryCapLedger$Books", name := "playersOf", desc := "(I)I" } : Jvm.MethodName)) ∈ q_big := q_inbig q_sub2 (i := 216) (by decide +kernel) rfl
theorem k2_217 : (Jvm.Cond.selects "SalaryCapLedger$Books" ({ cls := "SalaryCapLedger$Books", name := "playersOf", desc := "(I)I" } : Jvm.MethodName) ({ cls := "SalaryCapLedger$Books", name := "playersOf", desc := "(I)I" } : Jvm.MethodName)) ∈ q_big := q_inbig q_sub2 (i := 217) (by decide +kernel) rfl
theorem k2_218 : (Jvm.Cond.code ({ cls := "SalaryCapLedger$Books", name := "playersOf", desc := "(I)I" } : Jvm.MethodName) prog_2_method_6_code (4 : Nat) (Option.some Jvm.ClassFile.FieldType.int)) ∈ q_big := q_inbig q_sub2 (i := 218) (by decide +kernel) rfl
theorem k2_219 : (Jvm.Cond.methodLink "SalaryCapLedger$Books" (62 : Nat) ({ cls := "SalaryCapLedger$Books", name := "playsFor", desc := "(II)Z" } : Jvm.MethodName)) ∈ q_big := q_inbig q_sub2 (i := 219) (by decide +kernel) rfl
theorem k2_220 : (Jvm.Cond.instanceMethod ({ cls := "SalaryCapLedger$Books", name := "playsFor", desc := "(II)Z" } : Jvm.MethodName)) ∈ q_big := q_inbig q_sub2 (i := 220) (by decide +kernel) rfl
theorem k2_221 : (Jvm.Cond.selects "SalaryCapLedger$Books" ({ cls := "SalaryCapLedger$Books", name := "playsFor", desc := "(II)Z" } : Jvm.MethodName) ({ cls := "SalaryCapLedger$Books", name := "playsFor", desc := "(II)Z" } : Jvm.MethodName)) ∈ q_big := q_inbig q_sub2 (i := 221) (by decide +kernel) rfl
theorem k2_222 : (Jvm.Cond.code ({ cls := "SalaryCapLedger$Books", name := "playsFor", desc := "(II)Z" } : Jvm.MethodName) prog_2_method_5_code (3 : Nat) (Option.some Jvm.ClassFile.FieldType.boolean)) ∈ q_big := q_inbig q_sub2 (i := 222) (by decide +kernel) rfl
theorem k2_223 : (Jvm.Cond.methodLink "SalaryCapLedger$Reader" (149 : Nat) ({ cls := "java/lang/Integer", name := "bitCount", desc := "(I)I" } : Jvm.MethodName)) ∈ q_big := q_inbig q_sub2 (i := 223) (by decide +kernel) rfl
theorem k2_224 : (Jvm.Cond.static ({ cls := "java/lang/Integer", name := "bitCount", desc := "(I)I" } : Jvm.MethodName)) ∈ q_big := q_inbig q_sub2 (i := 224) (by decide +kernel) rfl
theorem k2_225 : (Jvm.Cond.code ({ cls := "java/lang/Integer", name := "bitCount", desc := "(I)I" } : Jvm.MethodName) prog_19_method_49_code (1 : Nat) (Option.some Jvm.ClassFile.FieldType.int)) ∈ q_big := q_inbig q_sub2 (i := 225) (by decide +kernel) rfl
theorem k2_226 : (Jvm.Cond.constant "java/lang/Integer" (265 : Nat) (1431655765 : Int32)) ∈ q_big := q_inbig q_sub2 (i := 226) (by decide +kernel) rfl
theorem k2_227 : (Jvm.Cond.constant "java/lang/Integer" (266 : Nat) (858993459 : Int32)) ∈ q_big := q_inbig q_sub2 (i := 227) (by decide +kernel) rfl
theorem k2_228 : (Jvm.Cond.constant "java/lang/Integer" (267 : Nat) (252645135 : Int32)) ∈ q_big := q_inbig q_sub2 (i := 228) (by decide +kernel) rfl
theorem k2_229 : (Jvm.Cond.methodLink "SalaryCapLedger$Reader" (154 : Nat) ({ cls := "SalaryCapLedger$Deal", name := "agree", desc := "(IIIII)V" } : Jvm.MethodName)) ∈ q_big := q_inbig q_sub2 (i := 229) (by decide +kernel) rfl
theorem k2_230 : (Jvm.Cond.methodLink "SalaryCapLedger$Reader" (158 : Nat) ({ cls := "SalaryCapLedger$Player", name := "begin", desc := "(IILSalaryCapLedger$Deal;)V" } : Jvm.MethodName)) ∈ q_big := q_inbig q_sub2 (i := 230) (by decide +kernel) rfl
theorem k2_231 : (Jvm.Cond.instanceMethod ({ cls := "SalaryCapLedger$Player", name := "begin", desc := "(IILSalaryCapLedger$Deal;)V" } : Jvm.MethodName)) ∈ q_big := q_inbig q_sub2 (i := 231) (by decide +kernel) rfl
theorem k2_232 : (Jvm.Cond.selects "SalaryCapLedger$Player" ({ cls := "SalaryCapLedger$Player", name := "begin", desc := "(IILSalaryCapLedger$Deal;)V" } : Jvm.MethodName) ({ cls := "SalaryCapLedger$Player", name := "begin", desc := "(IILSalaryCapLedger$Deal;)V" } : Jvm.MethodName)) ∈ q_big := q_inbig q_sub2 (i := 232) (by decide +kernel) rfl
theorem k2_233 : (Jvm.Cond.code ({ cls := "SalaryCapLedger$Player", name := "begin", desc := "(IILSalaryCapLedger$Deal;)V" } : Jvm.MethodName) prog_5_method_5_code (4 : Nat) (Option.none : Option Jvm.ClassFile.FieldType)) ∈ q_big := q_inbig q_sub2 (i := 233) (by decide +kernel) rfl
theorem k2_234 : (Jvm.Cond.methodLink "SalaryCapLedger$Player" (31 : Nat) ({ cls := "SalaryCapLedger$Deal", name := "copyFrom", desc := "(LSalaryCapLedger$Deal;)V" } : Jvm.MethodName)) ∈ q_big := q_inbig q_sub2 (i := 234) (by decide +kernel) rfl
theorem k2_235 : (Jvm.Cond.instanceMethod ({ cls := "SalaryCapLedger$Deal", name := "copyFrom", desc := "(LSalaryCapLedger$Deal;)V" } : Jvm.MethodName)) ∈ q_big := q_inbig q_sub2 (i := 235) (by decide +kernel) rfl
theorem k2_236 : (Jvm.Cond.selects "SalaryCapLedger$Deal" ({ cls := "SalaryCapLedger$Deal", name := "copyFrom", desc := "(LSalaryCapLedger$Deal;)V" } : Jvm.MethodName) ({ cls := "SalaryCapLedger$Deal", name := "copyFrom", desc := "(LSalaryCapLedger$Deal;)V" } : Jvm.MethodName)) ∈ q_big := q_inbig q_sub2 (i := 236) (by decide +kernel) rfl
theorem k2_237 : (Jvm.Cond.code ({ cls := "SalaryCapLedger$Deal", name := "copyFrom", desc := "(LSalaryCapLedger$Deal;)V" } : Jvm.MethodName) prog_3_method_3_code (2 : Nat) (Option.none : Option Jvm.ClassFile.FieldType)) ∈ q_big := q_inbig q_sub2 (i := 237) (by decide +kernel) rfl
theorem k2_238 : (Jvm.Cond.methodLink "SalaryCapLedger$Deal" (25 : Nat) ({ cls := "SalaryCapLedger$Deal", name := "agree", desc := "(IIIII)V" } : Jvm.MethodName)) ∈ q_big := q_inbig q_sub2 (i := 238) (by decide +kernel) rfl
theorem k2_239 : (Jvm.Cond.methodLink "SalaryCapLedger$Reader" (104 : Nat) ({ cls := "SalaryCapLedger$Books", name := "refillMidLevel", desc := "(I)V" } : Jvm.MethodName)) ∈ q_big := q_inbig q_sub2 (i := 239) (by decide +kernel) rfl
theorem k3_0 : (Jvm.Cond.instanceMethod ({ cls := "SalaryCapLedger$Books", name := "refillMidLevel", desc := "(I)V" } : Jvm.MethodName)) ∈ q_big := q_inbig q_sub3 (i := 0) (by decide +kernel) rfl
theorem k3_1 : (Jvm.Cond.selects "SalaryCapLedger$Books" ({ cls := "SalaryCapLedger$Books", name := "refillMidLevel", desc := "(I)V" } : Jvm.MethodName) ({ cls := "SalaryCapLedger$Books", name := "refillMidLevel", desc := "(I)V" } : Jvm.MethodName)) ∈ q_big := q_inbig q_sub3 (i := 1) (by decide +kernel) rfl
theorem k3_2 : (Jvm.Cond.code ({ cls := "SalaryCapLedger$Books", name := "refillMidLevel", desc := "(I)V" } : Jvm.MethodName) prog_2_method_4_code (3 : Nat) (Option.none : Option Jvm.ClassFile.FieldType)) ∈ q_big := q_inbig q_sub3 (i := 2) (by decide +kernel) rfl
theorem k3_3 : (Jvm.Cond.methodLink "SalaryCapLedger" (85 : Nat) ({ cls := "SalaryCapLedger$Reader", name := "failed", desc := "()Z" } : Jvm.MethodName)) ∈ q_big := q_inbig q_sub3 (i := 3) (by decide +kernel) rfl
theorem k3_4 : (Jvm.Cond.methodLink "SalaryCapLedger" (92 : Nat) ({ cls := "SalaryCapLedger", name := "useSpareLeague", desc := "()V" } : Jvm.MethodName)) ∈ q_big := q_inbig q_sub3 (i := 4) (by decide +kernel) rfl
theorem k3_6 : (Jvm.Cond.instanceMethod ({ cls := "SalaryCapLedger", name := "useSpareLeague", desc := "()V" } : Jvm.MethodName)) ∈ q_big := q_inbig q_sub3 (i := 6) (by decide +kernel) rfl
theorem k3_7 : (Jvm.Cond.code ({ cls := "SalaryCapLedger", name := "useSpareLeague", desc := "()V" } : Jvm.MethodName) prog_1_method_6_code (3 : Nat) (Option.none : Option Jvm.ClassFile.FieldType)) ∈ q_big := q_inbig q_sub3 (i := 7) (by decide +kernel) rfl
theorem k3_8 : (Jvm.Cond.methodLink "SalaryCapLedger" (98 : Nat) ({ cls := "SalaryCapLedger$History", name := "forget", desc := "()V" } : Jvm.MethodName)) ∈ q_big := q_inbig q_sub3 (i := 8) (by decide +kernel) rfl
theorem k3_9 : (Jvm.Cond.instanceMethod ({ cls := "SalaryCapLedger$History", name := "forget", desc := "()V" } : Jvm.MethodName)) ∈ q_big := q_inbig q_sub3 (i := 9) (by decide +kernel) rfl
theorem k3_10 : (Jvm.Cond.selects "SalaryCapLedger$History" ({ cls := "SalaryCapLedger$History", name := "forget", desc := "()V" } : Jvm.MethodName) ({ cls := "SalaryCapLedger$History", name := "forget", desc := "()V" } : Jvm.MethodName)) ∈ q_big := q_inbig q_sub3 (i := 10) (by decide +kernel) rfl
theorem k3_11 : (Jvm.Cond.code ({ cls := "SalaryCapLedger$History", name := "forget", desc := "()V" } : Jvm.MethodName) prog_4_method_2_code (1 : Nat) (Option.none : Option Jvm.ClassFile.FieldType)) ∈ q_big := q_inbig q_sub3 (i := 11) (by decide +kernel) rfl
theorem k3_12 : (Jvm.Cond.methodLink "SalaryCapLedgerLaw" (161 : Nat) ({ cls := "SalaryCapLedger", name := "errorPosition", desc := "()I" } : Jvm.MethodName)) ∈ q_big := q_inbig q_sub3 (i := 12) (by decide +kernel) rfl
theorem k3_13 : (Jvm.Cond.instanceMethod ({ cls := "SalaryCapLedger", name := "errorPosition", desc := "()I" } : Jvm.MethodName)) ∈ q_big := q_inbig q_sub3 (i := 13) (by decide +kernel) rfl
theorem k3_14 : (Jvm.Cond.selects "SalaryCapLedger" ({ cls := "SalaryCapLedger", name := "errorPosition", desc := "()I" } : Jvm.MethodName) ({ cls := "SalaryCapLedger", name := "errorPosition", desc := "()I" } : Jvm.MethodName)) ∈ q_big := q_inbig q_sub3 (i := 14) (by decide +kernel) rfl
theorem k3_15 : (Jvm.Cond.code ({ cls := "SalaryCapLedger", name := "errorPosition", desc := "()I" } : Jvm.MethodName) prog_1_method_7_code (1 : Nat) (Option.some Jvm.ClassFile.FieldType.int)) ∈ q_big := q_inbig q_sub3 (i := 15) (by decide +kernel) rfl
theorem k3_16 : (Jvm.Cond.methodLink "SalaryCapLedgerLaw" (144 : Nat) ({ cls := "SalaryCapLedgerLaw", name := "append", desc := "(LSalaryCapLedger;IIIII[J)I" } : Jvm.MethodName)) ∈ q_big := q_inbig q_sub3 (i := 16) (by decide +kernel) rfl
theorem k3_17 : (Jvm.Cond.static ({ cls := "SalaryCapLedgerLaw", name := "append", desc := "(LSalaryCapLedger;IIIII[J)I" } : Jvm.MethodName)) ∈ q_big := q_inbig q_sub3 (i := 17) (by decide +kernel) rfl
theorem k3_18 : (Jvm.Cond.codeWith ({ cls := "SalaryCapLedgerLaw", name := "append", desc := "(LSalaryCapLedger;IIIII[J)I" } : Jvm.MethodName) method_3_code (8 : Nat) (Option.some Jvm.ClassFile.FieldType.int) [((0 : Nat), (16 : Nat), (19 : Nat), (13 : Nat))]) ∈ q_big := q_inbig q_sub3 (i := 18) (by decide +kernel) rfl
theorem k3_19 : (Jvm.Cond.classLink "SalaryCapLedgerLaw" (13 : Nat) "java/lang/IllegalStateException") ∈ q_big := q_inbig q_sub3 (i := 19) (by decide +kernel) rfl
theorem k3_20 : (Jvm.Cond.methodLink "SalaryCapLedgerLaw" (7 : Nat) ({ cls := "SalaryCapLedger", name := "append", desc := "(IIIII)I" } : Jvm.MethodName)) ∈ q_big := q_inbig q_sub3 (i := 20) (by decide +kernel) rfl
theorem k3_21 : (Jvm.Cond.instanceMethod ({ cls := "SalaryCapLedger", name := "append", desc := "(IIIII)I" } : Jvm.MethodName)) ∈ q_big := q_inbig q_sub3 (i := 21) (by decide +kernel) rfl
theorem k3_22 : (Jvm.Cond.selects "SalaryCapLedger" ({ cls := "SalaryCapLedger", name := "append", desc := "(IIIII)I" } : Jvm.MethodName) ({ cls := "SalaryCapLedger", name := "append", desc := "(IIIII)I" } : Jvm.MethodName)) ∈ q_big := q_inbig q_sub3 (i := 22) (by decide +kernel) rfl
theorem k3_23 : (Jvm.Cond.code ({ cls := "SalaryCapLedger", name := "append", desc := "(IIIII)I" } : Jvm.MethodName) prog_1_method_2_code (6 : Nat) (Option.some Jvm.ClassFile.FieldType.int)) ∈ q_big := q_inbig q_sub3 (i := 23) (by decide +kernel) rfl
theorem k3_24 : (Jvm.Cond.classLink "SalaryCapLedger" (65 : Nat) "java/lang/IllegalStateException") ∈ q_big := q_inbig q_sub3 (i := 24) (by decide +kernel) rfl
theorem k3_25 : (Jvm.Cond.instantiable "java/lang/IllegalStateException" (6 : Nat)) ∈ q_big := q_inbig q_sub3 (i := 25) (by decide +kernel) rfl
theorem k3_33 : (Jvm.Cond.selects "java/lang/IllegalStateException" ({ cls := "java/lang/Throwable", name := "fillInStackTrace", desc := "(I)Ljava/lang/Throwable;" } : Jvm.MethodName) ({ cls := "java/lang/Throwable", name := "fillInStackTrace", desc := "(I)Ljava/lang/Throwable;" } : Jvm.MethodName)) ∈ q_big := q_inbig q_sub3 (i := 33) (by decide +kernel) rfl
theorem k3_34 : (Jvm.Cond.selects "java/lang/IllegalStateException" ({ cls := "java/lang/Throwable", name := "fillInStackTrace", desc := "()Ljava/lang/Throwable;" } : Jvm.MethodName) ({ cls := "java/lang/Throwable", name := "fillInStackTrace", desc := "()Ljava/lang/Throwable;" } : Jvm.MethodName)) ∈ q_big := q_inbig q_sub3 (i := 34) (by decide +kernel) rfl
theorem k3_35 : (Jvm.Cond.lays "java/lang/IllegalStateException" "java/lang/Throwable" "cause" "Ljava/lang/Throwable;") ∈ q_big := q_inbig q_sub3 (i := 35) (by decide +kernel) rfl
theorem k3_36 : (Jvm.Cond.lays "java/lang/Throwable" "java/lang/Throwable" "cause" "Ljava/lang/Throwable;") ∈ q_big := q_inbig q_sub3 (i := 36) (by decide +kernel) rfl
theorem k3_37 : (Jvm.Cond.lays "java/lang/IllegalStateException" "java/lang/Throwable" "stackTrace" "[Ljava/lang/StackTraceElement;") ∈ q_big := q_inbig q_sub3 (i := 37) (by decide +kernel) rfl
theorem k3_38 : (Jvm.Cond.lays "java/lang/Throwable" "java/lang/Throwable" "stackTrace" "[Ljava/lang/StackTraceElement;") ∈ q_big := q_inbig q_sub3 (i := 38) (by decide +kernel) rfl
theorem k3_39 : (Jvm.Cond.lays "java/lang/IllegalStateException" "java/lang/Throwable" "suppressedExceptions" "Ljava/util/List;") ∈ q_big := q_inbig q_sub3 (i := 39) (by decide +kernel) rfl
theorem k3_40 : (Jvm.Cond.lays "java/lang/Throwable" "java/lang/Throwable" "suppressedExceptions" "Ljava/util/List;") ∈ q_big := q_inbig q_sub3 (i := 40) (by decide +kernel) rfl
theorem k3_41 : (Jvm.Cond.lays "java/lang/IllegalStateException" "java/lang/Throwable" "detailMessage" "Ljava/lang/String;") ∈ q_big := q_inbig q_sub3 (i := 41) (by decide +kernel) rfl
theorem k3_42 : (Jvm.Cond.lays "java/lang/Throwable" "java/lang/Throwable" "detailMessage" "Ljava/lang/String;") ∈ q_big := q_inbig q_sub3 (i := 42) (by decide +kernel) rfl
theorem k3_43 : (Jvm.Cond.lays "java/lang/IllegalStateException" "java/lang/Throwable" "backtrace" "Ljava/lang/Object;") ∈ q_big := q_inbig q_sub3 (i := 43) (by decide +kernel) rfl
theorem k3_44 : (Jvm.Cond.lays "java/lang/Throwable" "java/lang/Throwable" "backtrace" "Ljava/lang/Object;") ∈ q_big := q_inbig q_sub3 (i := 44) (by decide +kernel) rfl
theorem k3_45 : (Jvm.Cond.fieldLink "java/lang/Throwable" (198 : Nat) "java/lang/Throwable" "backtrace" "Ljava/lang/Object;") ∈ q_big := q_inbig q_sub3 (i := 45) (by decide +kernel) rfl
theorem k3_47 : (Jvm.Cond.instanceMethod ({ cls := "java/lang/Throwable", name := "<init>", desc := "()V" } : Jvm.MethodName)) ∈ q_big := q_inbig q_sub3 (i := 47) (by decide +kernel) rfl
theorem k3_48 : (Jvm.Cond.code ({ cls := "java/lang/Throwable", name := "<init>", desc := "()V" } : Jvm.MethodName) prog_26_method_1_code (1 : Nat) (Option.none : Option Jvm.ClassFile.FieldType)) ∈ q_big := q_inbig q_sub3 (i := 48) (by decide +kernel) rfl
theorem k3_49 : (Jvm.Cond.methodLink "java/lang/Throwable" (1 : Nat) ({ cls := "java/lang/Object", name := "<init>", desc := "()V" } : Jvm.MethodName)) ∈ q_big := q_inbig q_sub3 (i := 49) (by decide +kernel) rfl
theorem k3_50 : (Jvm.Cond.fieldLink "java/lang/Throwable" (13 : Nat) "java/lang/Throwable" "UNASSIGNED_STACK" "[Ljava/lang/StackTraceElement;") ∈ q_big := q_inbig q_sub3 (i := 50) (by decide +kernel) rfl
theorem k3_52 : (Jvm.Cond.fieldLink "java/lang/Throwable" (20 : Nat) "java/lang/Throwable" "SUPPRESSED_SENTINEL" "Ljava/util/List;") ∈ q_big := q_inbig q_sub3 (i := 52) (by decide +kernel) rfl
theorem k3_54 : (Jvm.Cond.methodLink "java/lang/Throwable" (27 : Nat) ({ cls := "java/lang/Throwable", name := "fillInStackTrace", desc := "()Ljava/lang/Throwable;" } : Jvm.MethodName)) ∈ q_big := q_inbig q_sub3 (i := 54) (by decide +kernel) rfl
theorem k3_55 : (Jvm.Cond.instanceMethod ({ cls := "java/lang/Throwable", name := "fillInStackTrace", desc := "()Ljava/lang/Throwable;" } : Jvm.MethodName)) ∈ q_big := q_inbig q_sub3 (i := 55) (by decide +kernel) rfl
theorem k3_57 : (Jvm.Cond.selects "java/lang/ArithmeticException" ({ cls := "java/lang/Throwable", name := "fillInStackTrace", desc := "()Ljava/lang/Throwable;" } : Jvm.MethodName) ({ cls := "java/lang/Throwable", name := "fillInStackTrace", desc := "()Ljava/lang/Throwable;" } : Jvm.MethodName)) ∈ q_big := q_inbig q_sub3 (i := 57) (by decide +kernel) rfl
theorem k3_58 : (Jvm.Cond.selects "java/lang/IllegalArgumentException" ({ cls := "java/lang/Throwable", name := "fillInStackTrace", desc := "()Ljava/lang/Throwable;" } : Jvm.MethodName) ({ cls := "java/lang/Throwable", name := "fillInStackTrace", desc := "()Ljava/lang/Throwable;" } : Jvm.MethodName)) ∈ q_big := q_inbig q_sub3 (i := 58) (by decide +kernel) rfl
theorem k3_59 : (Jvm.Cond.selects "java/util/NoSuchElementException" ({ cls := "java/lang/Throwable", name := "fillInStackTrace", desc := "()Ljava/lang/Throwable;" } : Jvm.MethodName) ({ cls := "java/lang/Throwable", name := "fillInStackTrace", desc := "()Ljava/lang/Throwable;" } : Jvm.MethodName)) ∈ q_big := q_inbig q_sub3 (i := 59) (by decide +kernel) rfl
theorem k3_61 : (Jvm.Cond.methodLink "java/lang/Throwable" (202 : Nat) ({ cls := "java/lang/Throwable", name := "fillInStackTrace", desc := "(I)Ljava/lang/Throwable;" } : Jvm.MethodName)) ∈ q_big := q_inbig q_sub3 (i := 61) (by decide +kernel) rfl
theorem k3_63 : (Jvm.Cond.instanceMethod ({ cls := "java/lang/Throwable", name := "fillInStackTrace", desc := "(I)Ljava/lang/Throwable;" } : Jvm.MethodName)) ∈ q_big := q_inbig q_sub3 (i := 63) (by decide +kernel) rfl
theorem k3_64 : (Jvm.Cond.instantiable "java/lang/Throwable" (6 : Nat)) ∈ q_big := q_inbig q_sub3 (i := 64) (by decide +kernel) rfl
theorem k3_65 : (Jvm.Cond.native ({ cls := "java/lang/Throwable", name := "fillInStackTrace", desc := "(I)Ljava/lang/Throwable;" } : Jvm.MethodName)) ∈ q_big := q_inbig q_sub3 (i := 65) (by decide +kernel) rfl
theorem k3_67 : (Jvm.Cond.methodLink "SalaryCapLedger" (69 : Nat) ({ cls := "java/lang/IllegalStateException", name := "<init>", desc := "(Ljava/lang/String;)V" } : Jvm.MethodName)) ∈ q_big := q_inbig q_sub3 (i := 67) (by decide +kernel) rfl
theorem k3_68 : (Jvm.Cond.instanceMethod ({ cls := "java/lang/IllegalStateException", name := "<init>", desc := "(Ljava/lang/String;)V" } : Jvm.MethodName)) ∈ q_big := q_inbig q_sub3 (i := 68) (by decide +kernel) rfl
theorem k3_69 : (Jvm.Cond.code ({ cls := "java/lang/IllegalStateException", name := "<init>", desc := "(Ljava/lang/String;)V" } : Jvm.MethodName) prog_18_method_2_code (2 : Nat) (Option.none : Option Jvm.ClassFile.FieldType)) ∈ q_big := q_inbig q_sub3 (i := 69) (by decide +kernel) rfl
theorem k3_70 : (Jvm.Cond.methodLink "java/lang/IllegalStateException" (7 : Nat) ({ cls := "java/lang/RuntimeException", name := "<init>", desc := "(Ljava/lang/String;)V" } : Jvm.MethodName)) ∈ q_big := q_inbig q_sub3 (i := 70) (by decide +kernel) rfl
theorem k3_71 : (Jvm.Cond.instanceMethod ({ cls := "java/lang/RuntimeException", name := "<init>", desc := "(Ljava/lang/String;)V" } : Jvm.MethodName)) ∈ q_big := q_inbig q_sub3 (i := 71) (by decide +kernel) rfl
theorem k3_72 : (Jvm.Cond.code ({ cls := "java/lang/RuntimeException", name := "<init>", desc := "(Ljava/lang/String;)V" } : Jvm.MethodName) prog_21_method_2_code (2 : Nat) (Option.none : Option Jvm.ClassFile.FieldType)) ∈ q_big := q_inbig q_sub3 (i := 72) (by decide +kernel) rfl
theorem k3_73 : (Jvm.Cond.methodLink "java/lang/RuntimeException" (7 : Nat) ({ cls := "java/lang/Exception", name := "<init>", desc := "(Ljava/lang/String;)V" } : Jvm.MethodName)) ∈ q_big := q_inbig q_sub3 (i := 73) (by decide +kernel) rfl
theorem k3_74 : (Jvm.Cond.instanceMethod ({ cls := "java/lang/Exception", name := "<init>", desc := "(Ljava/lang/String;)V" } : Jvm.MethodName)) ∈ q_big := q_inbig q_sub3 (i := 74) (by decide +kernel) rfl
theorem k3_75 : (Jvm.Cond.code ({ cls := "java/lang/Exception", name := "<init>", desc := "(Ljava/lang/String;)V" } : Jvm.MethodName) prog_16_method_2_code (2 : Nat) (Option.none : Option Jvm.ClassFile.FieldType)) ∈ q_big := q_inbig q_sub3 (i := 75) (by decide +kernel) rfl
theorem k3_76 : (Jvm.Cond.methodLink "java/lang/Exception" (7 : Nat) ({ cls := "java/lang/Throwable", name := "<init>", desc := "(Ljava/lang/String;)V" } : Jvm.MethodName)) ∈ q_big := q_inbig q_sub3 (i := 76) (by decide +kernel) rfl
theorem k3_77 : (Jvm.Cond.instanceMethod ({ cls := "java/lang/Throwable", name := "<init>", desc := "(Ljava/lang/String;)V" } : Jvm.MethodName)) ∈ q_big := q_inbig q_sub3 (i := 77) (by decide +kernel) rfl
theorem k3_78 : (Jvm.Cond.code ({ cls := "java/lang/Throwable", name := "<init>", desc := "(Ljava/lang/String;)V" } : Jvm.MethodName) prog_26_method_2_code (2 : Nat) (Option.none : Option Jvm.ClassFile.FieldType)) ∈ q_big := q_inbig q_sub3 (i := 78) (by decide +kernel) rfl
theorem k3_80 : (Jvm.Cond.fieldLink "java/lang/Throwable" (31 : Nat) "java/lang/Throwable" "detailMessage" "Ljava/lang/String;") ∈ q_big := q_inbig q_sub3 (i := 80) (by decide +kernel) rfl
theorem k3_81 : (Jvm.Cond.fieldLink "java/lang/Throwable" (7 : Nat) "java/lang/Throwable" "cause" "Ljava/lang/Throwable;") ∈ q_big := q_inbig q_sub3 (i := 81) (by decide +kernel) rfl
theorem k3_82 : (Jvm.Cond.fieldLink "java/lang/Throwable" (17 : Nat) "java/lang/Throwable" "stackTrace" "[Ljava/lang/StackTraceElement;") ∈ q_big := q_inbig q_sub3 (i := 82) (by decide +kernel) rfl
theorem k3_83 : (Jvm.Cond.fieldLink "java/lang/Throwable" (24 : Nat) "java/lang/Throwable" "suppressedExceptions" "Ljava/util/List;") ∈ q_big := q_inbig q_sub3 (i := 83) (by decide +kernel) rfl
theorem k3_88 : (Jvm.Cond.lays "java/lang/IllegalStateException" "java/lang/Throwable" "depth" "I") ∈ q_big := q_inbig q_sub3 (i := 88) (by decide +kernel) rfl
theorem k3_92 : (Jvm.Cond.methodLink "SalaryCapLedger" (72 : Nat) ({ cls := "SalaryCapLedger", name := "appendWord", desc := "(I)V" } : Jvm.MethodName)) ∈ q_big := q_inbig q_sub3 (i := 92) (by decide +kernel) rfl
theorem k3_94 : (Jvm.Cond.instanceMethod ({ cls := "SalaryCapLedger", name := "appendWord", desc := "(I)V" } : Jvm.MethodName)) ∈ q_big := q_inbig q_sub3 (i := 94) (by decide +kernel) rfl
theorem k3_95 : (Jvm.Cond.code ({ cls := "SalaryCapLedger", name := "appendWord", desc := "(I)V" } : Jvm.MethodName) prog_1_method_3_code (3 : Nat) (Option.none : Option Jvm.ClassFile.FieldType)) ∈ q_big := q_inbig q_sub3 (i := 95) (by decide +kernel) rfl
theorem k3_96 : (Jvm.Cond.methodLink "SalaryCapLedgerLaw" (153 : Nat) ({ cls := "SalaryCapLedgerLaw", name := "truncate", desc := "(LSalaryCapLedger;I[J)I" } : Jvm.MethodName)) ∈ q_big := q_inbig q_sub3 (i := 96) (by decide +kernel) rfl
theorem k3_97 : (Jvm.Cond.static ({ cls := "SalaryCapLedgerLaw", name := "truncate", desc := "(LSalaryCapLedger;I[J)I" } : Jvm.MethodName)) ∈ q_big := q_inbig q_sub3 (i := 97) (by decide +kernel) rfl
theorem k3_98 : (Jvm.Cond.codeWith ({ cls := "SalaryCapLedgerLaw", name := "truncate", desc := "(LSalaryCapLedger;I[J)I" } : Jvm.MethodName) method_4_code (4 : Nat) (Option.some Jvm.ClassFile.FieldType.int) [((0 : Nat), (9 : Nat), (12 : Nat), (19 : Nat))]) ∈ q_big := q_inbig q_sub3 (i := 98) (by decide +kernel) rfl
theorem k3_99 : (Jvm.Cond.classLink "SalaryCapLedgerLaw" (19 : Nat) "java/lang/IllegalArgumentException") ∈ q_big := q_inbig q_sub3 (i := 99) (by decide +kernel) rfl
theorem k3_100 : (Jvm.Cond.methodLink "SalaryCapLedgerLaw" (15 : Nat) ({ cls := "SalaryCapLedger", name := "truncate", desc := "(I)I" } : Jvm.MethodName)) ∈ q_big := q_inbig q_sub3 (i := 100) (by decide +kernel) rfl
theorem k3_101 : (Jvm.Cond.instanceMethod ({ cls := "SalaryCapLedger", name := "truncate", desc := "(I)I" } : Jvm.MethodName)) ∈ q_big := q_inbig q_sub3 (i := 101) (by decide +kernel) rfl
theorem k3_102 : (Jvm.Cond.selects "SalaryCapLedger" ({ cls := "SalaryCapLedger", name := "truncate", desc := "(I)I" } : Jvm.MethodName) ({ cls := "SalaryCapLedger", name := "truncate", desc := "(I)I" } : Jvm.MethodName)) ∈ q_big := q_inbig q_sub3 (i := 102) (by decide +kernel) rfl
theorem k3_103 : (Jvm.Cond.code ({ cls := "SalaryCapLedger", name := "truncate", desc := "(I)I" } : Jvm.MethodName) prog_1_method_4_code (2 : Nat) (Option.some Jvm.ClassFile.FieldType.int)) ∈ q_big := q_inbig q_sub3 (i := 103) (by decide +kernel) rfl
theorem k3_104 : (Jvm.Cond.methodLink "SalaryCapLedger" (76 : Nat) ({ cls := "SalaryCapLedger", name := "requireRange", desc := "(III)V" } : Jvm.MethodName)) ∈ q_big := q_inbig q_sub3 (i := 104) (by decide +kernel) rfl
theorem k3_105 : (Jvm.Cond.static ({ cls := "SalaryCapLedger", name := "requireRange", desc := "(III)V" } : Jvm.MethodName)) ∈ q_big := q_inbig q_sub3 (i := 105) (by decide +kernel) rfl
theorem k3_106 : (Jvm.Cond.code ({ cls := "SalaryCapLedger", name := "requireRange", desc := "(III)V" } : Jvm.MethodName) prog_1_method_62_code (3 : Nat) (Option.none : Option Jvm.ClassFile.FieldType)) ∈ q_big := q_inbig q_sub3 (i := 106) (by decide +kernel) rfl
theorem k3_107 : (Jvm.Cond.classLink "SalaryCapLedger" (376 : Nat) "java/lang/IllegalArgumentException") ∈ q_big := q_inbig q_sub3 (i := 107) (by decide +kernel) rfl
theorem k3_108 : (Jvm.Cond.instantiable "java/lang/IllegalArgumentException" (6 : Nat)) ∈ q_big := q_inbig q_sub3 (i := 108) (by decide +kernel) rfl
theorem k3_110 : (Jvm.Cond.selects "java/lang/IllegalArgumentException" ({ cls := "java/lang/Throwable", name := "fillInStackTrace", desc := "(I)Ljava/lang/Throwable;" } : Jvm.MethodName) ({ cls := "java/lang/Throwable", name := "fillInStackTrace", desc := "(I)Ljava/lang/Throwable;" } : Jvm.MethodName)) ∈ q_big := q_inbig q_sub3 (i := 110) (by decide +kernel) rfl
theorem k3_111 : (Jvm.Cond.lays "java/lang/IllegalArgumentException" "java/lang/Throwable" "cause" "Ljava/lang/Throwable;") ∈ q_big := q_inbig q_sub3 (i := 111) (by decide +kernel) rfl
theorem k3_112 : (Jvm.Cond.lays "java/lang/IllegalArgumentException" "java/lang/Throwable" "stackTrace" "[Ljava/lang/StackTraceElement;") ∈ q_big := q_inbig q_sub3 (i := 112) (by decide +kernel) rfl
theorem k3_113 : (Jvm.Cond.lays "java/lang/IllegalArgumentException" "java/lang/Throwable" "suppressedExceptions" "Ljava/util/List;") ∈ q_big := q_inbig q_sub3 (i := 113) (by decide +kernel) rfl
theorem k3_114 : (Jvm.Cond.lays "java/lang/IllegalArgumentException" "java/lang/Throwable" "detailMessage" "Ljava/lang/String;") ∈ q_big := q_inbig q_sub3 (i := 114) (by decide +kernel) rfl
theorem k3_115 : (Jvm.Cond.lays "java/lang/IllegalArgumentException" "java/lang/Throwable" "backtrace" "Ljava/lang/Object;") ∈ q_big := q_inbig q_sub3 (i := 115) (by decide +kernel) rfl
theorem k3_117 : (Jvm.Cond.methodLink "SalaryCapLedger" (380 : Nat) ({ cls := "java/lang/IllegalArgumentException", name := "<init>", desc := "(Ljava/lang/String;)V" } : Jvm.MethodName)) ∈ q_big := q_inbig q_sub3 (i := 117) (by decide +kernel) rfl
theorem k3_118 : (Jvm.Cond.instanceMethod ({ cls := "java/lang/IllegalArgumentException", name := "<init>", desc := "(Ljava/lang/String;)V" } : Jvm.MethodName)) ∈ q_big := q_inbig q_sub3 (i := 118) (by decide +kernel) rfl
theorem k3_119 : (Jvm.Cond.code ({ cls := "java/lang/IllegalArgumentException", name := "<init>", desc := "(Ljava/lang/String;)V" } : Jvm.MethodName) prog_17_method_2_code (2 : Nat) (Option.none : Option Jvm.ClassFile.FieldType)) ∈ q_big := q_inbig q_sub3 (i := 119) (by decide +kernel) rfl
theorem k3_120 : (Jvm.Cond.methodLink "java/lang/IllegalArgumentException" (7 : Nat) ({ cls := "java/lang/RuntimeException", name := "<init>", desc := "(Ljava/lang/String;)V" } : Jvm.MethodName)) ∈ q_big := q_inbig q_sub3 (i := 120) (by decide +kernel) rfl
theorem k3_121 : (Jvm.Cond.lays "java/lang/IllegalArgumentException" "java/lang/Throwable" "depth" "I") ∈ q_big := q_inbig q_sub3 (i := 121) (by decide +kernel) rfl
theorem k3_123 : (Jvm.Cond.methodLink "SalaryCapLedgerLaw" (165 : Nat) ({ cls := "SalaryCapLedgerLaw", name := "makeOffer", desc := "(LSalaryCapLedger;IIIII[J)I" } : Jvm.MethodName)) ∈ q_big := q_inbig q_sub3 (i := 123) (by decide +kernel) rfl
theorem k3_124 : (Jvm.Cond.static ({ cls := "SalaryCapLedgerLaw", name := "makeOffer", desc := "(LSalaryCapLedger;IIIII[J)I" } : Jvm.MethodName)) ∈ q_big := q_inbig q_sub3 (i := 124) (by decide +kernel) rfl
theorem k3_125 : (Jvm.Cond.codeWith ({ cls := "SalaryCapLedgerLaw", name := "makeOffer", desc := "(LSalaryCapLedger;IIIII[J)I" } : Jvm.MethodName) method_5_code (8 : Nat) (Option.some Jvm.ClassFile.FieldType.int) [((0 : Nat), (16 : Nat), (19 : Nat), (13 : Nat)), ((0 : Nat), (16 : Nat), (23 : Nat), (19 : Nat))]) ∈ q_big := q_inbig q_sub3 (i := 125) (by decide +kernel) rfl
theorem k3_126 : (Jvm.Cond.methodLink "SalaryCapLedgerLaw" (21 : Nat) ({ cls := "SalaryCapLedger", name := "makeOffer", desc := "(IIIII)I" } : Jvm.MethodName)) ∈ q_big := q_inbig q_sub3 (i := 126) (by decide +kernel) rfl
theorem k3_127 : (Jvm.Cond.instanceMethod ({ cls := "SalaryCapLedger", name := "makeOffer", desc := "(IIIII)I" } : Jvm.MethodName)) ∈ q_big := q_inbig q_sub3 (i := 127) (by decide +kernel) rfl
theorem k3_128 : (Jvm.Cond.selects "SalaryCapLedger" ({ cls := "SalaryCapLedger", name := "makeOffer", desc := "(IIIII)I" } : Jvm.MethodName) ({ cls := "SalaryCapLedger", name := "makeOffer", desc := "(IIIII)I" } : Jvm.MethodName)) ∈ q_big := q_inbig q_sub3 (i := 128) (by decide +kernel) rfl
theorem k3_129 : (Jvm.Cond.code ({ cls := "SalaryCapLedger", name := "makeOffer", desc := "(IIIII)I" } : Jvm.MethodName) prog_1_method_8_code (6 : Nat) (Option.some Jvm.ClassFile.FieldType.int)) ∈ q_big := q_inbig q_sub3 (i := 129) (by decide +kernel) rfl
theorem k3_130 : (Jvm.Cond.methodLink "SalaryCapLedger" (101 : Nat) ({ cls := "SalaryCapLedger", name := "requireLeague", desc := "()V" } : Jvm.MethodName)) ∈ q_big := q_inbig q_sub3 (i := 130) (by decide +kernel) rfl
theorem k3_132 : (Jvm.Cond.instanceMethod ({ cls := "SalaryCapLedger", name := "requireLeague", desc := "()V" } : Jvm.MethodName)) ∈ q_big := q_inbig q_sub3 (i := 132) (by decide +kernel) rfl
theorem k3_133 : (Jvm.Cond.code ({ cls := "SalaryCapLedger", name := "requireLeague", desc := "()V" } : Jvm.MethodName) prog_1_method_56_code (1 : Nat) (Option.none : Option Jvm.ClassFile.FieldType)) ∈ q_big := q_inbig q_sub3 (i := 133) (by decide +kernel) rfl
theorem k3_135 : (Jvm.Cond.constant "SalaryCapLedger" (104 : Nat) (99999 : Int32)) ∈ q_big := q_inbig q_sub3 (i := 135) (by decide +kernel) rfl
theorem k3_136 : (Jvm.Cond.methodLink "SalaryCapLedger" (105 : Nat) ({ cls := "SalaryCapLedger$History", name := "remember", desc := "(LSalaryCapLedger$Books;)V" } : Jvm.MethodName)) ∈ q_big := q_inbig q_sub3 (i := 136) (by decide +kernel) rfl
theorem k3_137 : (Jvm.Cond.instanceMethod ({ cls := "SalaryCapLedger$History", name := "remember", desc := "(LSalaryCapLedger$Books;)V" } : Jvm.MethodName)) ∈ q_big := q_inbig q_sub3 (i := 137) (by decide +kernel) rfl
theorem k3_138 : (Jvm.Cond.selects "SalaryCapLedger$History" ({ cls := "SalaryCapLedger$History", name := "remember", desc := "(LSalaryCapLedger$Books;)V" } : Jvm.MethodName) ({ cls := "SalaryCapLedger$History", name := "remember", desc := "(LSalaryCapLedger$Books;)V" } : Jvm.MethodName)) ∈ q_big := q_inbig q_sub3 (i := 138) (by decide +kernel) rfl
theorem k3_139 : (Jvm.Cond.code ({ cls := "SalaryCapLedger$History", name := "remember", desc := "(LSalaryCapLedger$Books;)V" } : Jvm.MethodName) prog_4_method_3_code (2 : Nat) (Option.none : Option Jvm.ClassFile.FieldType)) ∈ q_big := q_inbig q_sub3 (i := 139) (by decide +kernel) rfl
theorem k3_140 : (Jvm.Cond.methodLink "SalaryCapLedger$History" (25 : Nat) ({ cls := "SalaryCapLedger$Books", name := "copyFrom", desc := "(LSalaryCapLedger$Books;)V" } : Jvm.MethodName)) ∈ q_big := q_inbig q_sub3 (i := 140) (by decide +kernel) rfl
theorem k3_141 : (Jvm.Cond.instanceMethod ({ cls := "SalaryCapLedger$Books", name := "copyFrom", desc := "(LSalaryCapLedger$Books;)V" } : Jvm.MethodName)) ∈ q_big := q_inbig q_sub3 (i := 141) (by decide +kernel) rfl
theorem k3_142 : (Jvm.Cond.selects "SalaryCapLedger$Books" ({ cls := "SalaryCapLedger$Books", name := "copyFrom", desc := "(LSalaryCapLedger$Books;)V" } : Jvm.MethodName) ({ cls := "SalaryCapLedger$Books", name := "copyFrom", desc := "(LSalaryCapLedger$Books;)V" } : Jvm.MethodName)) ∈ q_big := q_inbig q_sub3 (i := 142) (by decide +kernel) rfl
theorem k3_143 : (Jvm.Cond.code ({ cls := "SalaryCapLedger$Books", name := "copyFrom", desc := "(LSalaryCapLedger$Books;)V" } : Jvm.MethodName) prog_2_method_3_code (3 : Nat) (Option.none : Option Jvm.ClassFile.FieldType)) ∈ q_big := q_inbig q_sub3 (i := 143) (by decide +kernel) rfl
theorem k3_144 : (Jvm.Cond.methodLink "SalaryCapLedger$Books" (46 : Nat) ({ cls := "SalaryCapLedger$Player", name := "copyFrom", desc := "(LSalaryCapLedger$Player;)V" } : Jvm.MethodName)) ∈ q_big := q_inbig q_sub3 (i := 144) (by decide +kernel) rfl
theorem k3_145 : (Jvm.Cond.instanceMethod ({ cls := "SalaryCapLedger$Player", name := "copyFrom", desc := "(LSalaryCapLedger$Player;)V" } : Jvm.MethodName)) ∈ q_big := q_inbig q_sub3 (i := 145) (by decide +kernel) rfl
theorem k3_146 : (Jvm.Cond.selects "SalaryCapLedger$Player" ({ cls := "SalaryCapLedger$Player", name := "copyFrom", desc := "(LSalaryCapLedger$Player;)V" } : Jvm.MethodName) ({ cls := "SalaryCapLedger$Player", name := "copyFrom", desc := "(LSalaryCapLedger$Player;)V" } : Jvm.MethodName)) ∈ q_big := q_inbig q_sub3 (i := 146) (by decide +kernel) rfl
theorem k3_147 : (Jvm.Cond.code ({ cls := "SalaryCapLedger$Player", name := "copyFrom", desc := "(LSalaryCapLedger$Player;)V" } : Jvm.MethodName) prog_5_method_4_code (2 : Nat) (Option.none : Option Jvm.ClassFile.FieldType)) ∈ q_big := q_inbig q_sub3 (i := 147) (by decide +kernel) rfl
theorem k3_148 : (Jvm.Cond.methodLink "SalaryCapLedger$Books" (50 : Nat) ({ cls := "SalaryCapLedger$Team", name := "copyFrom", desc := "(LSalaryCapLedger$Team;)V" } : Jvm.MethodName)) ∈ q_big := q_inbig q_sub3 (i := 148) (by decide +kernel) rfl
theorem k3_149 : (Jvm.Cond.instanceMethod ({ cls := "SalaryCapLedger$Team", name := "copyFrom", desc := "(LSalaryCapLedger$Team;)V" } : Jvm.MethodName)) ∈ q_big := q_inbig q_sub3 (i := 149) (by decide +kernel) rfl
theorem k3_150 : (Jvm.Cond.selects "SalaryCapLedger$Team" ({ cls := "SalaryCapLedger$Team", name := "copyFrom", desc := "(LSalaryCapLedger$Team;)V" } : Jvm.MethodName) ({ cls := "SalaryCapLedger$Team", name := "copyFrom", desc := "(LSalaryCapLedger$Team;)V" } : Jvm.MethodName)) ∈ q_big := q_inbig q_sub3 (i := 150) (by decide +kernel) rfl
theorem k3_151 : (Jvm.Cond.code ({ cls := "SalaryCapLedger$Team", name := "copyFrom", desc := "(LSalaryCapLedger$Team;)V" } : Jvm.MethodName) prog_8_method_3_code (2 : Nat) (Option.none : Option Jvm.ClassFile.FieldType)) ∈ q_big := q_inbig q_sub3 (i := 151) (by decide +kernel) rfl
theorem k3_152 : (Jvm.Cond.methodLink "SalaryCapLedger$Team" (26 : Nat) ({ cls := "java/lang/System", name := "arraycopy", desc := "(Ljava/lang/Object;ILjava/lang/Object;II)V" } : Jvm.MethodName)) ∈ q_big := q_inbig q_sub3 (i := 152) (by decide +kernel) rfl
theorem k3_153 : (Jvm.Cond.static ({ cls := "java/lang/System", name := "arraycopy", desc := "(Ljava/lang/Object;ILjava/lang/Object;II)V" } : Jvm.MethodName)) ∈ q_big := q_inbig q_sub3 (i := 153) (by decide +kernel) rfl
theorem k3_154 : (Jvm.Cond.native ({ cls := "java/lang/System", name := "arraycopy", desc := "(Ljava/lang/Object;ILjava/lang/Object;II)V" } : Jvm.MethodName)) ∈ q_big := q_inbig q_sub3 (i := 154) (by decide +kernel) rfl
theorem k3_155 : (Jvm.Cond.methodLink "SalaryCapLedger$Books" (53 : Nat) ({ cls := "SalaryCapLedger$Deal", name := "copyFrom", desc := "(LSalaryCapLedger$Deal;)V" } : Jvm.MethodName)) ∈ q_big := q_inbig q_sub3 (i := 155) (by decide +kernel) rfl
theorem k3_156 : (Jvm.Cond.methodLink "SalaryCapLedger$History" (29 : Nat) ({ cls := "java/lang/Math", name := "min", desc := "(II)I" } : Jvm.MethodName)) ∈ q_big := q_inbig q_sub3 (i := 156) (by decide +kernel) rfl
theorem k3_157 : (Jvm.Cond.methodLink "SalaryCapLedger" (113 : Nat) ({ cls := "SalaryCapLedger$Deal", name := "agree", desc := "(IIIII)V" } : Jvm.MethodName)) ∈ q_big := q_inbig q_sub3 (i := 157) (by decide +kernel) rfl
theorem k3_158 : (Jvm.Cond.methodLink "SalaryCapLedger" (119 : Nat) ({ cls := "SalaryCapLedger$Deal", name := "salaryOf", desc := "(I)I" } : Jvm.MethodName)) ∈ q_big := q_inbig q_sub3 (i := 158) (by decide +kernel) rfl
theorem k3_159 : (Jvm.Cond.instanceMethod ({ cls := "SalaryCapLedger$Deal", name := "salaryOf", desc := "(I)I" } : Jvm.MethodName)) ∈ q_big := q_inbig q_sub3 (i := 159) (by decide +kernel) rfl
theorem k3_160 : (Jvm.Cond.selects "SalaryCapLedger$Deal" ({ cls := "SalaryCapLedger$Deal", name := "salaryOf", desc := "(I)I" } : Jvm.MethodName) ({ cls := "SalaryCapLedger$Deal", name := "salaryOf", desc := "(I)I" } : Jvm.MethodName)) ∈ q_big := q_inbig q_sub3 (i := 160) (by decide +kernel) rfl
theorem k3_161 : (Jvm.Cond.code ({ cls := "SalaryCapLedger$Deal", name := "salaryOf", desc := "(I)I" } : Jvm.MethodName) prog_3_method_4_code (2 : Nat) (Option.some Jvm.ClassFile.FieldType.int)) ∈ q_big := q_inbig q_sub3 (i := 161) (by decide +kernel) rfl
theorem k3_162 : (Jvm.Cond.methodLink "SalaryCapLedger" (123 : Nat) ({ cls := "SalaryCapLedger$Deal", name := "shareOf", desc := "(I)I" } : Jvm.MethodName)) ∈ q_big := q_inbig q_sub3 (i := 162) (by decide +kernel) rfl
theorem k3_163 : (Jvm.Cond.instanceMethod ({ cls := "SalaryCapLedger$Deal", name := "shareOf", desc := "(I)I" } : Jvm.MethodName)) ∈ q_big := q_inbig q_sub3 (i := 163) (by decide +kernel) rfl
theorem k3_164 : (Jvm.Cond.selects "SalaryCapLedger$Deal" ({ cls := "SalaryCapLedger$Deal", name := "shareOf", desc := "(I)I" } : Jvm.MethodName) ({ cls := "SalaryCapLedger$Deal", name := "shareOf", desc := "(I)I" } : Jvm.MethodName)) ∈ q_big := q_inbig q_sub3 (i := 164) (by decide +kernel) rfl
theorem k3_165 : (Jvm.Cond.code ({ cls := "SalaryCapLedger$Deal", name := "shareOf", desc := "(I)I" } : Jvm.MethodName) prog_3_method_5_code (2 : Nat) (Option.some Jvm.ClassFile.FieldType.int)) ∈ q_big := q_inbig q_sub3 (i := 165) (by decide +kernel) rfl
theorem k3_166 : (Jvm.Cond.methodLink "SalaryCapLedgerLaw" (168 : Nat) ({ cls := "SalaryCapLedgerLaw", name := "sign", desc := "(LSalaryCapLedger;III[J)I" } : Jvm.MethodName)) ∈ q_big := q_inbig q_sub3 (i := 166) (by decide +kernel) rfl
theorem k3_167 : (Jvm.Cond.static ({ cls := "SalaryCapLedgerLaw", name := "sign", desc := "(LSalaryCapLedger;III[J)I" } : Jvm.MethodName)) ∈ q_big := q_inbig q_sub3 (i := 167) (by decide +kernel) rfl
theorem k3_168 : (Jvm.Cond.codeWith ({ cls := "SalaryCapLedgerLaw", name := "sign", desc := "(LSalaryCapLedger;III[J)I" } : Jvm.MethodName) method_6_code (6 : Nat) (Option.some Jvm.ClassFile.FieldType.int) [((0 : Nat), (12 : Nat), (15 : Nat), (13 : Nat)), ((0 : Nat), (12 : Nat), (19 : Nat), (19 : Nat))]) ∈ q_big := q_inbig q_sub3 (i := 168) (by decide +kernel) rfl
theorem k3_169 : (Jvm.Cond.methodLink "SalaryCapLedgerLaw" (24 : Nat) ({ cls := "SalaryCapLedger", name := "sign", desc := "(III)I" } : Jvm.MethodName)) ∈ q_big := q_inbig q_sub3 (i := 169) (by decide +kernel) rfl
theorem k3_170 : (Jvm.Cond.instanceMethod ({ cls := "SalaryCapLedger", name := "sign", desc := "(III)I" } : Jvm.MethodName)) ∈ q_big := q_inbig q_sub3 (i := 170) (by decide +kernel) rfl
theorem k3_171 : (Jvm.Cond.selects "SalaryCapLedger" ({ cls := "SalaryCapLedger", name := "sign", desc := "(III)I" } : Jvm.MethodName) ({ cls := "SalaryCapLedger", name := "sign", desc := "(III)I" } : Jvm.MethodName)) ∈ q_big := q_inbig q_sub3 (i := 171) (by decide +kernel) rfl
theorem k3_172 : (Jvm.Cond.code ({ cls := "SalaryCapLedger", name := "sign", desc := "(III)I" } : Jvm.MethodName) prog_1_method_9_code (5 : Nat) (Option.some Jvm.ClassFile.FieldType.int)) ∈ q_big := q_inbig q_sub3 (i := 172) (by decide +kernel) rfl
theorem k3_173 : (Jvm.Cond.methodLink "SalaryCapLedger" (126 : Nat) ({ cls := "SalaryCapLedger", name := "requireTeam", desc := "(I)V" } : Jvm.MethodName)) ∈ q_big := q_inbig q_sub3 (i := 173) (by decide +kernel) rfl
theorem k3_175 : (Jvm.Cond.instanceMethod ({ cls := "SalaryCapLedger", name := "requireTeam", desc := "(I)V" } : Jvm.MethodName)) ∈ q_big := q_inbig q_sub3 (i := 175) (by decide +kernel) rfl
theorem k3_176 : (Jvm.Cond.code ({ cls := "SalaryCapLedger", name := "requireTeam", desc := "(I)V" } : Jvm.MethodName) prog_1_method_57_code (2 : Nat) (Option.none : Option Jvm.ClassFile.FieldType)) ∈ q_big := q_inbig q_sub3 (i := 176) (by decide +kernel) rfl
theorem k3_177 : (Jvm.Cond.methodLink "SalaryCapLedger" (129 : Nat) ({ cls := "SalaryCapLedger", name := "requirePlayer", desc := "(I)V" } : Jvm.MethodName)) ∈ q_big := q_inbig q_sub3 (i := 177) (by decide +kernel) rfl
theorem k3_179 : (Jvm.Cond.instanceMethod ({ cls := "SalaryCapLedger", name := "requirePlayer", desc := "(I)V" } : Jvm.MethodName)) ∈ q_big := q_inbig q_sub3 (i := 179) (by decide +kernel) rfl
theorem k3_180 : (Jvm.Cond.code ({ cls := "SalaryCapLedger", name := "requirePlayer", desc := "(I)V" } : Jvm.MethodName) prog_1_method_58_code (2 : Nat) (Option.none : Option Jvm.ClassFile.FieldType)) ∈ q_big := q_inbig q_sub3 (i := 180) (by decide +kernel) rfl
theorem k3_181 : (Jvm.Cond.methodLink "SalaryCapLedger" (132 : Nat) ({ cls := "SalaryCapLedger", name := "signError", desc := "(III)I" } : Jvm.MethodName)) ∈ q_big := q_inbig q_sub3 (i := 181) (by decide +kernel) rfl
theorem k3_183 : (Jvm.Cond.instanceMethod ({ cls := "SalaryCapLedger", name := "signError", desc := "(III)I" } : Jvm.MethodName)) ∈ q_big := q_inbig q_sub3 (i := 183) (by decide +kernel) rfl
theorem k3_184 : (Jvm.Cond.code ({ cls := "SalaryCapLedger", name := "signError", desc := "(III)I" } : Jvm.MethodName) prog_1_method_39_code (5 : Nat) (Option.some Jvm.ClassFile.FieldType.int)) ∈ q_big := q_inbig q_sub3 (i := 184) (by decide +kernel) rfl
theorem k3_185 : (Jvm.Cond.methodLink "SalaryCapLedger" (309 : Nat) ({ cls := "SalaryCapLedger", name := "placeError", desc := "(II)I" } : Jvm.MethodName)) ∈ q_big := q_inbig q_sub3 (i := 185) (by decide +kernel) rfl
theorem k3_187 : (Jvm.Cond.instanceMethod ({ cls := "SalaryCapLedger", name := "placeError", desc := "(II)I" } : Jvm.MethodName)) ∈ q_big := q_inbig q_sub3 (i := 187) (by decide +kernel) rfl
theorem k3_188 : (Jvm.Cond.code ({ cls := "SalaryCapLedger", name := "placeError", desc := "(II)I" } : Jvm.MethodName) prog_1_method_40_code (3 : Nat) (Option.some Jvm.ClassFile.FieldType.int)) ∈ q_big := q_inbig q_sub3 (i := 188) (by decide +kernel) rfl
theorem k3_189 : (Jvm.Cond.methodLink "SalaryCapLedger" (161 : Nat) ({ cls := "SalaryCapLedger$Player", name := "hasContract", desc := "()Z" } : Jvm.MethodName)) ∈ q_big := q_inbig q_sub3 (i := 189) (by decide +kernel) rfl
theorem k3_190 : (Jvm.Cond.methodLink "SalaryCapLedger" (240 : Nat) ({ cls := "SalaryCapLedger$Books", name := "playersOf", desc := "(I)I" } : Jvm.MethodName)) ∈ q_big := q_inbig q_sub3 (i := 190) (by decide +kernel) rfl
theorem k3_191 : (Jvm.Cond.methodLink "SalaryCapLedger" (257 : Nat) ({ cls := "java/lang/Integer", name := "bitCount", desc := "(I)I" } : Jvm.MethodName)) ∈ q_big := q_inbig q_sub3 (i := 191) (by decide +kernel) rfl
theorem k3_192 : (Jvm.Cond.methodLink "SalaryCapLedger" (312 : Nat) ({ cls := "SalaryCapLedger", name := "baseLimit", desc := "(III)I" } : Jvm.MethodName)) ∈ q_big := q_inbig q_sub3 (i := 192) (by decide +kernel) rfl
theorem k3_194 : (Jvm.Cond.instanceMethod ({ cls := "SalaryCapLedger", name := "baseLimit", desc := "(III)I" } : Jvm.MethodName)) ∈ q_big := q_inbig q_sub3 (i := 194) (by decide +kernel) rfl
theorem k3_195 : (Jvm.Cond.code ({ cls := "SalaryCapLedger", name := "baseLimit", desc := "(III)I" } : Jvm.MethodName) prog_1_method_41_code (6 : Nat) (Option.some Jvm.ClassFile.FieldType.int)) ∈ q_big := q_inbig q_sub3 (i := 195) (by decide +kernel) rfl
theorem k3_196 : (Jvm.Cond.methodLink "SalaryCapLedger" (237 : Nat) ({ cls := "SalaryCapLedger", name := "roomOf", desc := "(I)I" } : Jvm.MethodName)) ∈ q_big := q_inbig q_sub3 (i := 196) (by decide +kernel) rfl
theorem k3_198 : (Jvm.Cond.instanceMethod ({ cls := "SalaryCapLedger", name := "roomOf", desc := "(I)I" } : Jvm.MethodName)) ∈ q_big := q_inbig q_sub3 (i := 198) (by decide +kernel) rfl
theorem k3_199 : (Jvm.Cond.code ({ cls := "SalaryCapLedger", name := "roomOf", desc := "(I)I" } : Jvm.MethodName) prog_1_method_54_code (2 : Nat) (Option.some Jvm.ClassFile.FieldType.int)) ∈ q_big := q_inbig q_sub3 (i := 199) (by decide +kernel) rfl
theorem k3_200 : (Jvm.Cond.methodLink "SalaryCapLedger" (209 : Nat) ({ cls := "SalaryCapLedger$Terms", name := "capIn", desc := "(I)I" } : Jvm.MethodName)) ∈ q_big := q_inbig q_sub3 (i := 200) (by decide +kernel) rfl
theorem k3_201 : (Jvm.Cond.instanceMethod ({ cls := "SalaryCapLedger$Terms", name := "capIn", desc := "(I)I" } : Jvm.MethodName)) ∈ q_big := q_inbig q_sub3 (i := 201) (by decide +kernel) rfl
theorem k3_202 : (Jvm.Cond.selects "SalaryCapLedger$Terms" ({ cls := "SalaryCapLedger$Terms", name := "capIn", desc := "(I)I" } : Jvm.MethodName) ({ cls := "SalaryCapLedger$Terms", name := "capIn", desc := "(I)I" } : Jvm.MethodName)) ∈ q_big := q_inbig q_sub3 (i := 202) (by decide +kernel) rfl
theorem k3_203 : (Jvm.Cond.code ({ cls := "SalaryCapLedger$Terms", name := "capIn", desc := "(I)I" } : Jvm.MethodName) prog_9_method_4_code (2 : Nat) (Option.some Jvm.ClassFile.FieldType.int)) ∈ q_big := q_inbig q_sub3 (i := 203) (by decide +kernel) rfl
theorem k3_204 : (Jvm.Cond.methodLink "SalaryCapLedger" (230 : Nat) ({ cls := "SalaryCapLedger$Books", name := "chargeIn", desc := "(II)I" } : Jvm.MethodName)) ∈ q_big := q_inbig q_sub3 (i := 204) (by decide +kernel) rfl
theorem k3_205 : (Jvm.Cond.instanceMethod ({ cls := "SalaryCapLedger$Books", name := "chargeIn", desc := "(II)I" } : Jvm.MethodName)) ∈ q_big := q_inbig q_sub3 (i := 205) (by decide +kernel) rfl
theorem k3_206 : (Jvm.Cond.selects "SalaryCapLedger$Books" ({ cls := "SalaryCapLedger$Books", name := "chargeIn", desc := "(II)I" } : Jvm.MethodName) ({ cls := "SalaryCapLedger$Books", name := "chargeIn", desc := "(II)I" } : Jvm.MethodName)) ∈ q_big := q_inbig q_sub3 (i := 206) (by decide +kernel) rfl
theorem k3_207 : (Jvm.Cond.code ({ cls := "SalaryCapLedger$Books", name := "chargeIn", desc := "(II)I" } : Jvm.MethodName) prog_2_method_7_code (5 : Nat) (Option.some Jvm.ClassFile.FieldType.int)) ∈ q_big := q_inbig q_sub3 (i := 207) (by decide +kernel) rfl
theorem k3_208 : (Jvm.Cond.methodLink "SalaryCapLedger$Books" (66 : Nat) ({ cls := "SalaryCapLedger$Team", name := "deadIn", desc := "(I)I" } : Jvm.MethodName)) ∈ q_big := q_inbig q_sub3 (i := 208) (by decide +kernel) rfl
theorem k3_209 : (Jvm.Cond.instanceMethod ({ cls := "SalaryCapLedger$Team", name := "deadIn", desc := "(I)I" } : Jvm.MethodName)) ∈ q_big := q_inbig q_sub3 (i := 209) (by decide +kernel) rfl
theorem k3_210 : (Jvm.Cond.selects "SalaryCapLedger$Team" ({ cls := "SalaryCapLedger$Team", name := "deadIn", desc := "(I)I" } : Jvm.MethodName) ({ cls := "SalaryCapLedger$Team", name := "deadIn", desc := "(I)I" } : Jvm.MethodName)) ∈ q_big := q_inbig q_sub3 (i := 210) (by decide +kernel) rfl
theorem k3_211 : (Jvm.Cond.code ({ cls := "SalaryCapLedger$Team", name := "deadIn", desc := "(I)I" } : Jvm.MethodName) prog_8_method_4_code (2 : Nat) (Option.some Jvm.ClassFile.FieldType.int)) ∈ q_big := q_inbig q_sub3 (i := 211) (by decide +kernel) rfl
theorem k3_212 : (Jvm.Cond.methodLink "SalaryCapLedger$Books" (70 : Nat) ({ cls := "SalaryCapLedger$Player", name := "costIn", desc := "(I)I" } : Jvm.MethodName)) ∈ q_big := q_inbig q_sub3 (i := 212) (by decide +kernel) rfl
theorem k3_213 : (Jvm.Cond.instanceMethod ({ cls := "SalaryCapLedger$Player", name := "costIn", desc := "(I)I" } : Jvm.MethodName)) ∈ q_big := q_inbig q_sub3 (i := 213) (by decide +kernel) rfl
theorem k3_214 : (Jvm.Cond.selects "SalaryCapLedger$Player" ({ cls := "SalaryCapLedger$Player", name := "costIn", desc := "(I)I" } : Jvm.MethodName) ({ cls := "SalaryCapLedger$Player", name := "costIn", desc := "(I)I" } : Jvm.MethodName)) ∈ q_big := q_inbig q_sub3 (i := 214) (by decide +kernel) rfl
theorem k3_215 : (Jvm.Cond.code ({ cls := "SalaryCapLedger$Player", name := "costIn", desc := "(I)I" } : Jvm.MethodName) prog_5_method_9_code (2 : Nat) (Option.some Jvm.ClassFile.FieldType.int)) ∈ q_big := q_inbig q_sub3 (i := 215) (by decide +kernel) rfl
theorem k3_216 : (Jvm.Cond.methodLink "SalaryCapLedger$Player" (35 : Nat) ({ cls := "SalaryCapLedger$Player", name := "hasContract", desc := "()Z" } : Jvm.MethodName)) ∈ q_big := q_inbig q_sub3 (i := 216) (by decide +kernel) rfl
theorem k3_217 : (Jvm.Cond.methodLink "SalaryCapLedger$Player" (42 : Nat) ({ cls := "SalaryCapLedger$Deal", name := "salaryOf", desc := "(I)I" } : Jvm.MethodName)) ∈ q_big := q_inbig q_sub3 (i := 217) (by decide +kernel) rfl
theorem k3_218 : (Jvm.Cond.methodLink "SalaryCapLedger$Player" (46 : Nat) ({ cls := "SalaryCapLedger$Deal", name := "shareOf", desc := "(I)I" } : Jvm.MethodName)) ∈ q_big := q_inbig q_sub3 (i := 218) (by decide +kernel) rfl
theorem k3_219 : (Jvm.Cond.methodLink "SalaryCapLedger" (152 : Nat) ({ cls := "SalaryCapLedger$Player", name := "begin", desc := "(IILSalaryCapLedger$Deal;)V" } : Jvm.MethodName)) ∈ q_big := q_inbig q_sub3 (i := 219) (by decide +kernel) rfl
theorem k3_220 : (Jvm.Cond.methodLink "SalaryCapLedger" (158 : Nat) ({ cls := "SalaryCapLedger$Books", name := "chargeNow", desc := "(I)I" } : Jvm.MethodName)) ∈ q_big := q_inbig q_sub3 (i := 220) (by decide +kernel) rfl
theorem k3_221 : (Jvm.Cond.instanceMethod ({ cls := "SalaryCapLedger$Books", name := "chargeNow", desc := "(I)I" } : Jvm.MethodName)) ∈ q_big := q_inbig q_sub3 (i := 221) (by decide +kernel) rfl
theorem k3_222 : (Jvm.Cond.selects "SalaryCapLedger$Books" ({ cls := "SalaryCapLedger$Books", name := "chargeNow", desc := "(I)I" } : Jvm.MethodName) ({ cls := "SalaryCapLedger$Books", name := "chargeNow", desc := "(I)I" } : Jvm.MethodName)) ∈ q_big := q_inbig q_sub3 (i := 222) (by decide +kernel) rfl
theorem k3_223 : (Jvm.Cond.code ({ cls := "SalaryCapLedger$Books", name := "chargeNow", desc := "(I)I" } : Jvm.MethodName) prog_2_method_8_code (2 : Nat) (Option.some Jvm.ClassFile.FieldType.int)) ∈ q_big := q_inbig q_sub3 (i := 223) (by decide +kernel) rfl
theorem k3_224 : (Jvm.Cond.methodLink "SalaryCapLedger$Books" (73 : Nat) ({ cls := "SalaryCapLedger$Books", name := "chargeIn", desc := "(II)I" } : Jvm.MethodName)) ∈ q_big := q_inbig q_sub3 (i := 224) (by decide +kernel) rfl
theorem k3_225 : (Jvm.Cond.methodLink "SalaryCapLedgerLaw" (172 : Nat) ({ cls := "SalaryCapLedgerLaw", name := "release", desc := "(LSalaryCapLedger;IZ[J)I" } : Jvm.MethodName)) ∈ q_big := q_inbig q_sub3 (i := 225) (by decide +kernel) rfl
theorem k3_226 : (Jvm.Cond.static ({ cls := "SalaryCapLedgerLaw", name := "release", desc := "(LSalaryCapLedger;IZ[J)I" } : Jvm.MethodName)) ∈ q_big := q_inbig q_sub3 (i := 226) (by decide +kernel) rfl
theorem k3_227 : (Jvm.Cond.codeWith ({ cls := "SalaryCapLedgerLaw", name := "release", desc := "(LSalaryCapLedger;IZ[J)I" } : Jvm.MethodName) method_7_code (5 : Nat) (Option.some Jvm.ClassFile.FieldType.int) [((0 : Nat), (10 : Nat), (13 : Nat), (13 : Nat)), ((0 : Nat), (10 : Nat), (17 : Nat), (19 : Nat))]) ∈ q_big := q_inbig q_sub3 (i := 227) (by decide +kernel) rfl
theorem k3_228 : (Jvm.Cond.methodLink "SalaryCapLedgerLaw" (28 : Nat) ({ cls := "SalaryCapLedger", name := "release", desc := "(IZ)I" } : Jvm.MethodName)) ∈ q_big := q_inbig q_sub3 (i := 228) (by decide +kernel) rfl
theorem k3_229 : (Jvm.Cond.instanceMethod ({ cls := "SalaryCapLedger", name := "release", desc := "(IZ)I" } : Jvm.MethodName)) ∈ q_big := q_inbig q_sub3 (i := 229) (by decide +kernel) rfl
theorem k3_230 : (Jvm.Cond.selects "SalaryCapLedger" ({ cls := "SalaryCapLedger", name := "release", desc := "(IZ)I" } : Jvm.MethodName) ({ cls := "SalaryCapLedger", name := "release", desc := "(IZ)I" } : Jvm.MethodName)) ∈ q_big := q_inbig q_sub3 (i := 230) (by decide +kernel) rfl
theorem k3_231 : (Jvm.Cond.code ({ cls := "SalaryCapLedger", name := "release", desc := "(IZ)I" } : Jvm.MethodName) prog_1_method_10_code (3 : Nat) (Option.some Jvm.ClassFile.FieldType.int)) ∈ q_big := q_inbig q_sub3 (i := 231) (by decide +kernel) rfl
theorem k3_232 : (Jvm.Cond.methodLink "SalaryCapLedger" (164 : Nat) ({ cls := "SalaryCapLedger$Books", name := "dismiss", desc := "(IZ)I" } : Jvm.MethodName)) ∈ q_big := q_inbig q_sub3 (i := 232) (by decide +kernel) rfl
theorem k3_233 : (Jvm.Cond.instanceMethod ({ cls := "SalaryCapLedger$Books", name := "dismiss", desc := "(IZ)I" } : Jvm.MethodName)) ∈ q_big := q_inbig q_sub3 (i := 233) (by decide +kernel) rfl
theorem k3_234 : (Jvm.Cond.selects "SalaryCapLedger$Books" ({ cls := "SalaryCapLedger$Books", name := "dismiss", desc := "(IZ)I" } : Jvm.MethodName) ({ cls := "SalaryCapLedger$Books", name := "dismiss", desc := "(IZ)I" } : Jvm.MethodName)) ∈ q_big := q_inbig q_sub3 (i := 234) (by decide +kernel) rfl
theorem k3_235 : (Jvm.Cond.code ({ cls := "SalaryCapLedger$Books", name := "dismiss", desc := "(IZ)I" } : Jvm.MethodName) prog_2_method_11_code (7 : Nat) (Option.some Jvm.ClassFile.FieldType.int)) ∈ q_big := q_inbig q_sub3 (i := 235) (by decide +kernel) rfl
theorem k3_236 : (Jvm.Cond.methodLink "SalaryCapLedger$Books" (86 : Nat) ({ cls := "SalaryCapLedger$Player", name := "hasContract", desc := "()Z" } : Jvm.MethodName)) ∈ q_big := q_inbig q_sub3 (i := 236) (by decide +kernel) rfl
theorem k3_237 : (Jvm.Cond.methodLink "SalaryCapLedger$Books" (90 : Nat) ({ cls := "SalaryCapLedger$Player", name := "releaseCostAhead", desc := "(IZI)I" } : Jvm.MethodName)) ∈ q_big := q_inbig q_sub3 (i := 237) (by decide +kernel) rfl
theorem k3_238 : (Jvm.Cond.instanceMethod ({ cls := "SalaryCapLedger$Player", name := "releaseCostAhead", desc := "(IZI)I" } : Jvm.MethodName)) ∈ q_big := q_inbig q_sub3 (i := 238) (by decide +kernel) rfl
theorem k3_239 : (Jvm.Cond.selects "SalaryCapLedger$Player" ({ cls := "SalaryCapLedger$Player", name := "releaseCostAhead", desc := "(IZI)I" } : Jvm.MethodName) ({ cls := "SalaryCapLedger$Player", name := "releaseCostAhead", desc := "(IZI)I" } : Jvm.MethodName)) ∈ q_big := q_inbig q_sub3 (i := 239) (by decide +kernel) rfl
theorem k4_0 : (Jvm.Cond.code ({ cls := "SalaryCapLedger$Player", name := "releaseCostAhead", desc := "(IZI)I" } : Jvm.MethodName) prog_5_method_11_code (6 : Nat) (Option.some Jvm.ClassFile.FieldType.int)) ∈ q_big := q_inbig q_sub4 (i := 0) (by decide +kernel) rfl
theorem k4_1 : (Jvm.Cond.methodLink "SalaryCapLedger$Player" (49 : Nat) ({ cls := "SalaryCapLedger$Deal", name := "sharesFrom", desc := "(I)I" } : Jvm.MethodName)) ∈ q_big := q_inbig q_sub4 (i := 1) (by decide +kernel) rfl
theorem k4_2 : (Jvm.Cond.instanceMethod ({ cls := "SalaryCapLedger$Deal", name := "sharesFrom", desc := "(I)I" } : Jvm.MethodName)) ∈ q_big := q_inbig q_sub4 (i := 2) (by decide +kernel) rfl
theorem k4_3 : (Jvm.Cond.selects "SalaryCapLedger$Deal" ({ cls := "SalaryCapLedger$Deal", name := "sharesFrom", desc := "(I)I" } : Jvm.MethodName) ({ cls := "SalaryCapLedger$Deal", name := "sharesFrom", desc := "(I)I" } : Jvm.MethodName)) ∈ q_big := q_inbig q_sub4 (i := 3) (by decide +kernel) rfl
theorem k4_4 : (Jvm.Cond.code ({ cls := "SalaryCapLedger$Deal", name := "sharesFrom", desc := "(I)I" } : Jvm.MethodName) prog_3_method_6_code (4 : Nat) (Option.some Jvm.ClassFile.FieldType.int)) ∈ q_big := q_inbig q_sub4 (i := 4) (by decide +kernel) rfl
theorem k4_5 : (Jvm.Cond.methodLink "SalaryCapLedger$Deal" (29 : Nat) ({ cls := "SalaryCapLedger$Deal", name := "shareOf", desc := "(I)I" } : Jvm.MethodName)) ∈ q_big := q_inbig q_sub4 (i := 5) (by decide +kernel) rfl
theorem k4_6 : (Jvm.Cond.methodLink "SalaryCapLedger$Player" (52 : Nat) ({ cls := "SalaryCapLedger$Deal", name := "stretchedPart", desc := "(II)I" } : Jvm.MethodName)) ∈ q_big := q_inbig q_sub4 (i := 6) (by decide +kernel) rfl
theorem k4_7 : (Jvm.Cond.instanceMethod ({ cls := "SalaryCapLedger$Deal", name := "stretchedPart", desc := "(II)I" } : Jvm.MethodName)) ∈ q_big := q_inbig q_sub4 (i := 7) (by decide +kernel) rfl
theorem k4_8 : (Jvm.Cond.selects "SalaryCapLedger$Deal" ({ cls := "SalaryCapLedger$Deal", name := "stretchedPart", desc := "(II)I" } : Jvm.MethodName) ({ cls := "SalaryCapLedger$Deal", name := "stretchedPart", desc := "(II)I" } : Jvm.MethodName)) ∈ q_big := q_inbig q_sub4 (i := 8) (by decide +kernel) rfl
theorem k4_9 : (Jvm.Cond.code ({ cls := "SalaryCapLedger$Deal", name := "stretchedPart", desc := "(II)I" } : Jvm.MethodName) prog_3_method_8_code (5 : Nat) (Option.some Jvm.ClassFile.FieldType.int)) ∈ q_big := q_inbig q_sub4 (i := 9) (by decide +kernel) rfl
theorem k4_10 : (Jvm.Cond.methodLink "SalaryCapLedger$Deal" (36 : Nat) ({ cls := "SalaryCapLedger$Deal", name := "guaranteedFrom", desc := "(I)I" } : Jvm.MethodName)) ∈ q_big := q_inbig q_sub4 (i := 10) (by decide +kernel) rfl
theorem k4_11 : (Jvm.Cond.instanceMethod ({ cls := "SalaryCapLedger$Deal", name := "guaranteedFrom", desc := "(I)I" } : Jvm.MethodName)) ∈ q_big := q_inbig q_sub4 (i := 11) (by decide +kernel) rfl
theorem k4_12 : (Jvm.Cond.selects "SalaryCapLedger$Deal" ({ cls := "SalaryCapLedger$Deal", name := "guaranteedFrom", desc := "(I)I" } : Jvm.MethodName) ({ cls := "SalaryCapLedger$Deal", name := "guaranteedFrom", desc := "(I)I" } : Jvm.MethodName)) ∈ q_big := q_inbig q_sub4 (i := 12) (by decide +kernel) rfl
theorem k4_13 : (Jvm.Cond.code ({ cls := "SalaryCapLedger$Deal", name := "guaranteedFrom", desc := "(I)I" } : Jvm.MethodName) prog_3_method_7_code (4 : Nat) (Option.some Jvm.ClassFile.FieldType.int)) ∈ q_big := q_inbig q_sub4 (i := 13) (by decide +kernel) rfl
theorem k4_14 : (Jvm.Cond.methodLink "SalaryCapLedger$Deal" (33 : Nat) ({ cls := "SalaryCapLedger$Deal", name := "salaryOf", desc := "(I)I" } : Jvm.MethodName)) ∈ q_big := q_inbig q_sub4 (i := 14) (by decide +kernel) rfl
theorem k4_15 : (Jvm.Cond.methodLink "SalaryCapLedger$Player" (56 : Nat) ({ cls := "SalaryCapLedger$Deal", name := "guaranteedPart", desc := "(II)I" } : Jvm.MethodName)) ∈ q_big := q_inbig q_sub4 (i := 15) (by decide +kernel) rfl
theorem k4_16 : (Jvm.Cond.instanceMethod ({ cls := "SalaryCapLedger$Deal", name := "guaranteedPart", desc := "(II)I" } : Jvm.MethodName)) ∈ q_big := q_inbig q_sub4 (i := 16) (by decide +kernel) rfl
theorem k4_17 : (Jvm.Cond.selects "SalaryCapLedger$Deal" ({ cls := "SalaryCapLedger$Deal", name := "guaranteedPart", desc := "(II)I" } : Jvm.MethodName) ({ cls := "SalaryCapLedger$Deal", name := "guaranteedPart", desc := "(II)I" } : Jvm.MethodName)) ∈ q_big := q_inbig q_sub4 (i := 17) (by decide +kernel) rfl
theorem k4_18 : (Jvm.Cond.code ({ cls := "SalaryCapLedger$Deal", name := "guaranteedPart", desc := "(II)I" } : Jvm.MethodName) prog_3_method_9_code (3 : Nat) (Option.some Jvm.ClassFile.FieldType.int)) ∈ q_big := q_inbig q_sub4 (i := 18) (by decide +kernel) rfl
theorem k4_19 : (Jvm.Cond.methodLink "SalaryCapLedger$Books" (94 : Nat) ({ cls := "SalaryCapLedger$Team", name := "addDead", desc := "(II)V" } : Jvm.MethodName)) ∈ q_big := q_inbig q_sub4 (i := 19) (by decide +kernel) rfl
theorem k4_20 : (Jvm.Cond.instanceMethod ({ cls := "SalaryCapLedger$Team", name := "addDead", desc := "(II)V" } : Jvm.MethodName)) ∈ q_big := q_inbig q_sub4 (i := 20) (by decide +kernel) rfl
theorem k4_21 : (Jvm.Cond.selects "SalaryCapLedger$Team" ({ cls := "SalaryCapLedger$Team", name := "addDead", desc := "(II)V" } : Jvm.MethodName) ({ cls := "SalaryCapLedger$Team", name := "addDead", desc := "(II)V" } : Jvm.MethodName)) ∈ q_big := q_inbig q_sub4 (i := 21) (by decide +kernel) rfl
theorem k4_22 : (Jvm.Cond.code ({ cls := "SalaryCapLedger$Team", name := "addDead", desc := "(II)V" } : Jvm.MethodName) prog_8_method_5_code (3 : Nat) (Option.none : Option Jvm.ClassFile.FieldType)) ∈ q_big := q_inbig q_sub4 (i := 22) (by decide +kernel) rfl
theorem k4_23 : (Jvm.Cond.methodLink "SalaryCapLedgerLaw" (176 : Nat) ({ cls := "SalaryCapLedgerLaw", name := "trade", desc := "(LSalaryCapLedger;IIII[J)I" } : Jvm.MethodName)) ∈ q_big := q_inbig q_sub4 (i := 23) (by decide +kernel) rfl
theorem k4_24 : (Jvm.Cond.static ({ cls := "SalaryCapLedgerLaw", name := "trade", desc := "(LSalaryCapLedger;IIII[J)I" } : Jvm.MethodName)) ∈ q_big := q_inbig q_sub4 (i := 24) (by decide +kernel) rfl
theorem k4_25 : (Jvm.Cond.codeWith ({ cls := "SalaryCapLedgerLaw", name := "trade", desc := "(LSalaryCapLedger;IIII[J)I" } : Jvm.MethodName) method_8_code (7 : Nat) (Option.some Jvm.ClassFile.FieldType.int) [((0 : Nat), (14 : Nat), (17 : Nat), (13 : Nat)), ((0 : Nat), (14 : Nat), (21 : Nat), (19 : Nat))]) ∈ q_big := q_inbig q_sub4 (i := 25) (by decide +kernel) rfl
theorem k4_26 : (Jvm.Cond.methodLink "SalaryCapLedgerLaw" (32 : Nat) ({ cls := "SalaryCapLedger", name := "trade", desc := "(IIII)I" } : Jvm.MethodName)) ∈ q_big := q_inbig q_sub4 (i := 26) (by decide +kernel) rfl
theorem k4_27 : (Jvm.Cond.instanceMethod ({ cls := "SalaryCapLedger", name := "trade", desc := "(IIII)I" } : Jvm.MethodName)) ∈ q_big := q_inbig q_sub4 (i := 27) (by decide +kernel) rfl
theorem k4_28 : (Jvm.Cond.selects "SalaryCapLedger" ({ cls := "SalaryCapLedger", name := "trade", desc := "(IIII)I" } : Jvm.MethodName) ({ cls := "SalaryCapLedger", name := "trade", desc := "(IIII)I" } : Jvm.MethodName)) ∈ q_big := q_inbig q_sub4 (i := 28) (by decide +kernel) rfl
theorem k4_29 : (Jvm.Cond.code ({ cls := "SalaryCapLedger", name := "trade", desc := "(IIII)I" } : Jvm.MethodName) prog_1_method_11_code (6 : Nat) (Option.some Jvm.ClassFile.FieldType.int)) ∈ q_big := q_inbig q_sub4 (i := 29) (by decide +kernel) rfl
theorem k4_30 : (Jvm.Cond.methodLink "SalaryCapLedger" (168 : Nat) ({ cls := "SalaryCapLedger", name := "requireTrade", desc := "(IIII)V" } : Jvm.MethodName)) ∈ q_big := q_inbig q_sub4 (i := 30) (by decide +kernel) rfl
theorem k4_32 : (Jvm.Cond.instanceMethod ({ cls := "SalaryCapLedger", name := "requireTrade", desc := "(IIII)V" } : Jvm.MethodName)) ∈ q_big := q_inbig q_sub4 (i := 32) (by decide +kernel) rfl
theorem k4_33 : (Jvm.Cond.code ({ cls := "SalaryCapLedger", name := "requireTrade", desc := "(IIII)V" } : Jvm.MethodName) prog_1_method_60_code (5 : Nat) (Option.none : Option Jvm.ClassFile.FieldType)) ∈ q_big := q_inbig q_sub4 (i := 33) (by decide +kernel) rfl
theorem k4_34 : (Jvm.Cond.methodLink "SalaryCapLedger" (353 : Nat) ({ cls := "SalaryCapLedger", name := "requireTwoTeams", desc := "(II)V" } : Jvm.MethodName)) ∈ q_big := q_inbig q_sub4 (i := 34) (by decide +kernel) rfl
theorem k4_36 : (Jvm.Cond.instanceMethod ({ cls := "SalaryCapLedger", name := "requireTwoTeams", desc := "(II)V" } : Jvm.MethodName)) ∈ q_big := q_inbig q_sub4 (i := 36) (by decide +kernel) rfl
theorem k4_37 : (Jvm.Cond.code ({ cls := "SalaryCapLedger", name := "requireTwoTeams", desc := "(II)V" } : Jvm.MethodName) prog_1_method_59_code (3 : Nat) (Option.none : Option Jvm.ClassFile.FieldType)) ∈ q_big := q_inbig q_sub4 (i := 37) (by decide +kernel) rfl
theorem k4_39 : (Jvm.Cond.methodLink "SalaryCapLedger" (172 : Nat) ({ cls := "SalaryCapLedger", name := "tradeError", desc := "(IIII)I" } : Jvm.MethodName)) ∈ q_big := q_inbig q_sub4 (i := 39) (by decide +kernel) rfl
theorem k4_41 : (Jvm.Cond.instanceMethod ({ cls := "SalaryCapLedger", name := "tradeError", desc := "(IIII)I" } : Jvm.MethodName)) ∈ q_big := q_inbig q_sub4 (i := 41) (by decide +kernel) rfl
theorem k4_42 : (Jvm.Cond.code ({ cls := "SalaryCapLedger", name := "tradeError", desc := "(IIII)I" } : Jvm.MethodName) prog_1_method_47_code (9 : Nat) (Option.some Jvm.ClassFile.FieldType.int)) ∈ q_big := q_inbig q_sub4 (i := 42) (by decide +kernel) rfl
theorem k4_43 : (Jvm.Cond.methodLink "SalaryCapLedger" (340 : Nat) ({ cls := "SalaryCapLedger", name := "salariesMatch", desc := "(III)Z" } : Jvm.MethodName)) ∈ q_big := q_inbig q_sub4 (i := 43) (by decide +kernel) rfl
theorem k4_45 : (Jvm.Cond.instanceMethod ({ cls := "SalaryCapLedger", name := "salariesMatch", desc := "(III)Z" } : Jvm.MethodName)) ∈ q_big := q_inbig q_sub4 (i := 45) (by decide +kernel) rfl
theorem k4_46 : (Jvm.Cond.code ({ cls := "SalaryCapLedger", name := "salariesMatch", desc := "(III)Z" } : Jvm.MethodName) prog_1_method_48_code (8 : Nat) (Option.some Jvm.ClassFile.FieldType.boolean)) ∈ q_big := q_inbig q_sub4 (i := 46) (by decide +kernel) rfl
theorem k4_47 : (Jvm.Cond.methodLink "SalaryCapLedger" (344 : Nat) ({ cls := "SalaryCapLedger$Books", name := "chargeChange", desc := "(II)I" } : Jvm.MethodName)) ∈ q_big := q_inbig q_sub4 (i := 47) (by decide +kernel) rfl
theorem k4_48 : (Jvm.Cond.instanceMethod ({ cls := "SalaryCapLedger$Books", name := "chargeChange", desc := "(II)I" } : Jvm.MethodName)) ∈ q_big := q_inbig q_sub4 (i := 48) (by decide +kernel) rfl
theorem k4_49 : (Jvm.Cond.selects "SalaryCapLedger$Books" ({ cls := "SalaryCapLedger$Books", name := "chargeChange", desc := "(II)I" } : Jvm.MethodName) ({ cls := "SalaryCapLedger$Books", name := "chargeChange", desc := "(II)I" } : Jvm.MethodName)) ∈ q_big := q_inbig q_sub4 (i := 49) (by decide +kernel) rfl
theorem k4_50 : (Jvm.Cond.code ({ cls := "SalaryCapLedger$Books", name := "chargeChange", desc := "(II)I" } : Jvm.MethodName) prog_2_method_10_code (5 : Nat) (Option.some Jvm.ClassFile.FieldType.int)) ∈ q_big := q_inbig q_sub4 (i := 50) (by decide +kernel) rfl
theorem k4_51 : (Jvm.Cond.methodLink "SalaryCapLedger$Books" (80 : Nat) ({ cls := "SalaryCapLedger$Books", name := "salariesNow", desc := "(I)I" } : Jvm.MethodName)) ∈ q_big := q_inbig q_sub4 (i := 51) (by decide +kernel) rfl
theorem k4_52 : (Jvm.Cond.instanceMethod ({ cls := "SalaryCapLedger$Books", name := "salariesNow", desc := "(I)I" } : Jvm.MethodName)) ∈ q_big := q_inbig q_sub4 (i := 52) (by decide +kernel) rfl
theorem k4_53 : (Jvm.Cond.selects "SalaryCapLedger$Books" ({ cls := "SalaryCapLedger$Books", name := "salariesNow", desc := "(I)I" } : Jvm.MethodName) ({ cls := "SalaryCapLedger$Books", name := "salariesNow", desc := "(I)I" } : Jvm.MethodName)) ∈ q_big := q_inbig q_sub4 (i := 53) (by decide +kernel) rfl
theorem k4_54 : (Jvm.Cond.code ({ cls := "SalaryCapLedger$Books", name := "salariesNow", desc := "(I)I" } : Jvm.MethodName) prog_2_method_9_code (4 : Nat) (Option.some Jvm.ClassFile.FieldType.int)) ∈ q_big := q_inbig q_sub4 (i := 54) (by decide +kernel) rfl
theorem k4_55 : (Jvm.Cond.methodLink "SalaryCapLedger$Books" (77 : Nat) ({ cls := "SalaryCapLedger$Player", name := "salaryIn", desc := "(I)I" } : Jvm.MethodName)) ∈ q_big := q_inbig q_sub4 (i := 55) (by decide +kernel) rfl
theorem k4_56 : (Jvm.Cond.instanceMethod ({ cls := "SalaryCapLedger$Player", name := "salaryIn", desc := "(I)I" } : Jvm.MethodName)) ∈ q_big := q_inbig q_sub4 (i := 56) (by decide +kernel) rfl
theorem k4_57 : (Jvm.Cond.selects "SalaryCapLedger$Player" ({ cls := "SalaryCapLedger$Player", name := "salaryIn", desc := "(I)I" } : Jvm.MethodName) ({ cls := "SalaryCapLedger$Player", name := "salaryIn", desc := "(I)I" } : Jvm.MethodName)) ∈ q_big := q_inbig q_sub4 (i := 57) (by decide +kernel) rfl
theorem k4_58 : (Jvm.Cond.code ({ cls := "SalaryCapLedger$Player", name := "salaryIn", desc := "(I)I" } : Jvm.MethodName) prog_5_method_7_code (2 : Nat) (Option.some Jvm.ClassFile.FieldType.int)) ∈ q_big := q_inbig q_sub4 (i := 58) (by decide +kernel) rfl
theorem k4_59 : (Jvm.Cond.methodLink "SalaryCapLedger$Books" (83 : Nat) ({ cls := "SalaryCapLedger$Player", name := "sharesLeft", desc := "(I)I" } : Jvm.MethodName)) ∈ q_big := q_inbig q_sub4 (i := 59) (by decide +kernel) rfl
theorem k4_60 : (Jvm.Cond.instanceMethod ({ cls := "SalaryCapLedger$Player", name := "sharesLeft", desc := "(I)I" } : Jvm.MethodName)) ∈ q_big := q_inbig q_sub4 (i := 60) (by decide +kernel) rfl
theorem k4_61 : (Jvm.Cond.selects "SalaryCapLedger$Player" ({ cls := "SalaryCapLedger$Player", name := "sharesLeft", desc := "(I)I" } : Jvm.MethodName) ({ cls := "SalaryCapLedger$Player", name := "sharesLeft", desc := "(I)I" } : Jvm.MethodName)) ∈ q_big := q_inbig q_sub4 (i := 61) (by decide +kernel) rfl
theorem k4_62 : (Jvm.Cond.code ({ cls := "SalaryCapLedger$Player", name := "sharesLeft", desc := "(I)I" } : Jvm.MethodName) prog_5_method_10_code (2 : Nat) (Option.some Jvm.ClassFile.FieldType.int)) ∈ q_big := q_inbig q_sub4 (i := 62) (by decide +kernel) rfl
theorem k4_63 : (Jvm.Cond.methodLink "SalaryCapLedger" (306 : Nat) ({ cls := "SalaryCapLedger$Books", name := "salariesNow", desc := "(I)I" } : Jvm.MethodName)) ∈ q_big := q_inbig q_sub4 (i := 63) (by decide +kernel) rfl
theorem k4_64 : (Jvm.Cond.methodLink "SalaryCapLedger" (212 : Nat) ({ cls := "SalaryCapLedger$Terms", name := "taxLineIn", desc := "(I)I" } : Jvm.MethodName)) ∈ q_big := q_inbig q_sub4 (i := 64) (by decide +kernel) rfl
theorem k4_65 : (Jvm.Cond.instanceMethod ({ cls := "SalaryCapLedger$Terms", name := "taxLineIn", desc := "(I)I" } : Jvm.MethodName)) ∈ q_big := q_inbig q_sub4 (i := 65) (by decide +kernel) rfl
theorem k4_66 : (Jvm.Cond.selects "SalaryCapLedger$Terms" ({ cls := "SalaryCapLedger$Terms", name := "taxLineIn", desc := "(I)I" } : Jvm.MethodName) ({ cls := "SalaryCapLedger$Terms", name := "taxLineIn", desc := "(I)I" } : Jvm.MethodName)) ∈ q_big := q_inbig q_sub4 (i := 66) (by decide +kernel) rfl
theorem k4_67 : (Jvm.Cond.code ({ cls := "SalaryCapLedger$Terms", name := "taxLineIn", desc := "(I)I" } : Jvm.MethodName) prog_9_method_5_code (2 : Nat) (Option.some Jvm.ClassFile.FieldType.int)) ∈ q_big := q_inbig q_sub4 (i := 67) (by decide +kernel) rfl
theorem k4_68 : (Jvm.Cond.constantLong "SalaryCapLedger" (347 : Nat) (125 : Int64)) ∈ q_big := q_inbig q_sub4 (i := 68) (by decide +kernel) rfl
theorem k4_69 : (Jvm.Cond.constantLong "SalaryCapLedger" (349 : Nat) (100 : Int64)) ∈ q_big := q_inbig q_sub4 (i := 69) (by decide +kernel) rfl
theorem k4_70 : (Jvm.Cond.constantLong "SalaryCapLedger" (351 : Nat) (110 : Int64)) ∈ q_big := q_inbig q_sub4 (i := 70) (by decide +kernel) rfl
theorem k4_71 : (Jvm.Cond.methodLink "SalaryCapLedger" (176 : Nat) ({ cls := "SalaryCapLedger$Books", name := "move", desc := "(III)V" } : Jvm.MethodName)) ∈ q_big := q_inbig q_sub4 (i := 71) (by decide +kernel) rfl
theorem k4_72 : (Jvm.Cond.instanceMethod ({ cls := "SalaryCapLedger$Books", name := "move", desc := "(III)V" } : Jvm.MethodName)) ∈ q_big := q_inbig q_sub4 (i := 72) (by decide +kernel) rfl
theorem k4_73 : (Jvm.Cond.selects "SalaryCapLedger$Books" ({ cls := "SalaryCapLedger$Books", name := "move", desc := "(III)V" } : Jvm.MethodName) ({ cls := "SalaryCapLedger$Books", name := "move", desc := "(III)V" } : Jvm.MethodName)) ∈ q_big := q_inbig q_sub4 (i := 73) (by decide +kernel) rfl
theorem k4_74 : (Jvm.Cond.code ({ cls := "SalaryCapLedger$Books", name := "move", desc := "(III)V" } : Jvm.MethodName) prog_2_method_12_code (5 : Nat) (Option.none : Option Jvm.ClassFile.FieldType)) ∈ q_big := q_inbig q_sub4 (i := 74) (by decide +kernel) rfl
theorem k4_75 : (Jvm.Cond.methodLink "SalaryCapLedgerLaw" (180 : Nat) ({ cls := "SalaryCapLedgerLaw", name := "nextYear", desc := "(LSalaryCapLedger;[J)I" } : Jvm.MethodName)) ∈ q_big := q_inbig q_sub4 (i := 75) (by decide +kernel) rfl
theorem k4_76 : (Jvm.Cond.static ({ cls := "SalaryCapLedgerLaw", name := "nextYear", desc := "(LSalaryCapLedger;[J)I" } : Jvm.MethodName)) ∈ q_big := q_inbig q_sub4 (i := 76) (by decide +kernel) rfl
theorem k4_77 : (Jvm.Cond.codeWith ({ cls := "SalaryCapLedgerLaw", name := "nextYear", desc := "(LSalaryCapLedger;[J)I" } : Jvm.MethodName) method_9_code (3 : Nat) (Option.some Jvm.ClassFile.FieldType.int) [((0 : Nat), (7 : Nat), (10 : Nat), (13 : Nat))]) ∈ q_big := q_inbig q_sub4 (i := 77) (by decide +kernel) rfl
theorem k4_78 : (Jvm.Cond.methodLink "SalaryCapLedgerLaw" (36 : Nat) ({ cls := "SalaryCapLedger", name := "nextYear", desc := "()J" } : Jvm.MethodName)) ∈ q_big := q_inbig q_sub4 (i := 78) (by decide +kernel) rfl
theorem k4_79 : (Jvm.Cond.instanceMethod ({ cls := "SalaryCapLedger", name := "nextYear", desc := "()J" } : Jvm.MethodName)) ∈ q_big := q_inbig q_sub4 (i := 79) (by decide +kernel) rfl
theorem k4_80 : (Jvm.Cond.selects "SalaryCapLedger" ({ cls := "SalaryCapLedger", name := "nextYear", desc := "()J" } : Jvm.MethodName) ({ cls := "SalaryCapLedger", name := "nextYear", desc := "()J" } : Jvm.MethodName)) ∈ q_big := q_inbig q_sub4 (i := 80) (by decide +kernel) rfl
theorem k4_81 : (Jvm.Cond.code ({ cls := "SalaryCapLedger", name := "nextYear", desc := "()J" } : Jvm.MethodName) prog_1_method_12_code (4 : Nat) (Option.some Jvm.ClassFile.FieldType.long)) ∈ q_big := q_inbig q_sub4 (i := 81) (by decide +kernel) rfl
theorem k4_82 : (Jvm.Cond.constantLong "SalaryCapLedger" (179 : Nat) (-2 : Int64)) ∈ q_big := q_inbig q_sub4 (i := 82) (by decide +kernel) rfl
theorem k4_83 : (Jvm.Cond.methodLink "SalaryCapLedger" (184 : Nat) ({ cls := "SalaryCapLedger", name := "payTax", desc := "(I)J" } : Jvm.MethodName)) ∈ q_big := q_inbig q_sub4 (i := 83) (by decide +kernel) rfl
theorem k4_85 : (Jvm.Cond.instanceMethod ({ cls := "SalaryCapLedger", name := "payTax", desc := "(I)J" } : Jvm.MethodName)) ∈ q_big := q_inbig q_sub4 (i := 85) (by decide +kernel) rfl
theorem k4_86 : (Jvm.Cond.code ({ cls := "SalaryCapLedger", name := "payTax", desc := "(I)J" } : Jvm.MethodName) prog_1_method_13_code (5 : Nat) (Option.some Jvm.ClassFile.FieldType.long)) ∈ q_big := q_inbig q_sub4 (i := 86) (by decide +kernel) rfl
theorem k4_87 : (Jvm.Cond.methodLink "SalaryCapLedger" (194 : Nat) ({ cls := "SalaryCapLedger", name := "taxOn", desc := "(II)J" } : Jvm.MethodName)) ∈ q_big := q_inbig q_sub4 (i := 87) (by decide +kernel) rfl
theorem k4_89 : (Jvm.Cond.instanceMethod ({ cls := "SalaryCapLedger", name := "taxOn", desc := "(II)J" } : Jvm.MethodName)) ∈ q_big := q_inbig q_sub4 (i := 89) (by decide +kernel) rfl
theorem k4_90 : (Jvm.Cond.code ({ cls := "SalaryCapLedger", name := "taxOn", desc := "(II)J" } : Jvm.MethodName) prog_1_method_55_code (3 : Nat) (Option.some Jvm.ClassFile.FieldType.long)) ∈ q_big := q_inbig q_sub4 (i := 90) (by decide +kernel) rfl
theorem k4_91 : (Jvm.Cond.methodLink "SalaryCapLedger" (364 : Nat) ({ cls := "SalaryCapLedger$Terms", name := "taxOf", desc := "(III)J" } : Jvm.MethodName)) ∈ q_big := q_inbig q_sub4 (i := 91) (by decide +kernel) rfl
theorem k4_92 : (Jvm.Cond.instanceMethod ({ cls := "SalaryCapLedger$Terms", name := "taxOf", desc := "(III)J" } : Jvm.MethodName)) ∈ q_big := q_inbig q_sub4 (i := 92) (by decide +kernel) rfl
theorem k4_93 : (Jvm.Cond.selects "SalaryCapLedger$Terms" ({ cls := "SalaryCapLedger$Terms", name := "taxOf", desc := "(III)J" } : Jvm.MethodName) ({ cls := "SalaryCapLedger$Terms", name := "taxOf", desc := "(III)J" } : Jvm.MethodName)) ∈ q_big := q_inbig q_sub4 (i := 93) (by decide +kernel) rfl
theorem k4_94 : (Jvm.Cond.code ({ cls := "SalaryCapLedger$Terms", name := "taxOf", desc := "(III)J" } : Jvm.MethodName) prog_9_method_7_code (13 : Nat) (Option.some Jvm.ClassFile.FieldType.long)) ∈ q_big := q_inbig q_sub4 (i := 94) (by decide +kernel) rfl
theorem k4_95 : (Jvm.Cond.methodLink "SalaryCapLedger$Terms" (46 : Nat) ({ cls := "SalaryCapLedger$Terms", name := "isTaxed", desc := "(II)Z" } : Jvm.MethodName)) ∈ q_big := q_inbig q_sub4 (i := 95) (by decide +kernel) rfl
theorem k4_96 : (Jvm.Cond.instanceMethod ({ cls := "SalaryCapLedger$Terms", name := "isTaxed", desc := "(II)Z" } : Jvm.MethodName)) ∈ q_big := q_inbig q_sub4 (i := 96) (by decide +kernel) rfl
theorem k4_97 : (Jvm.Cond.selects "SalaryCapLedger$Terms" ({ cls := "SalaryCapLedger$Terms", name := "isTaxed", desc := "(II)Z" } : Jvm.MethodName) ({ cls := "SalaryCapLedger$Terms", name := "isTaxed", desc := "(II)Z" } : Jvm.MethodName)) ∈ q_big := q_inbig q_sub4 (i := 97) (by decide +kernel) rfl
theorem k4_98 : (Jvm.Cond.code ({ cls := "SalaryCapLedger$Terms", name := "isTaxed", desc := "(II)Z" } : Jvm.MethodName) prog_9_method_6_code (3 : Nat) (Option.some Jvm.ClassFile.FieldType.boolean)) ∈ q_big := q_inbig q_sub4 (i := 98) (by decide +kernel) rfl
theorem k4_99 : (Jvm.Cond.methodLink "SalaryCapLedger$Terms" (42 : Nat) ({ cls := "SalaryCapLedger$Terms", name := "taxLineIn", desc := "(I)I" } : Jvm.MethodName)) ∈ q_big := q_inbig q_sub4 (i := 99) (by decide +kernel) rfl
theorem k4_100 : (Jvm.Cond.methodLink "SalaryCapLedger$Terms" (50 : Nat) ({ cls := "java/lang/Math", name := "min", desc := "(JJ)J" } : Jvm.MethodName)) ∈ q_big := q_inbig q_sub4 (i := 100) (by decide +kernel) rfl
theorem k4_101 : (Jvm.Cond.static ({ cls := "java/lang/Math", name := "min", desc := "(JJ)J" } : Jvm.MethodName)) ∈ q_big := q_inbig q_sub4 (i := 101) (by decide +kernel) rfl
theorem k4_102 : (Jvm.Cond.code ({ cls := "java/lang/Math", name := "min", desc := "(JJ)J" } : Jvm.MethodName) prog_20_method_70_code (4 : Nat) (Option.some Jvm.ClassFile.FieldType.long)) ∈ q_big := q_inbig q_sub4 (i := 102) (by decide +kernel) rfl
theorem k4_103 : (Jvm.Cond.constantLong "SalaryCapLedger$Terms" (56 : Nat) (100 : Int64)) ∈ q_big := q_inbig q_sub4 (i := 103) (by decide +kernel) rfl
theorem k4_104 : (Jvm.Cond.methodLink "SalaryCapLedger$Terms" (58 : Nat) ({ cls := "SalaryCapLedger$Terms", name := "isTaxedOften", desc := "(II)Z" } : Jvm.MethodName)) ∈ q_big := q_inbig q_sub4 (i := 104) (by decide +kernel) rfl
theorem k4_106 : (Jvm.Cond.instanceMethod ({ cls := "SalaryCapLedger$Terms", name := "isTaxedOften", desc := "(II)Z" } : Jvm.MethodName)) ∈ q_big := q_inbig q_sub4 (i := 106) (by decide +kernel) rfl
theorem k4_107 : (Jvm.Cond.code ({ cls := "SalaryCapLedger$Terms", name := "isTaxedOften", desc := "(II)Z" } : Jvm.MethodName) prog_9_method_8_code (4 : Nat) (Option.some Jvm.ClassFile.FieldType.boolean)) ∈ q_big := q_inbig q_sub4 (i := 107) (by decide +kernel) rfl
theorem k4_108 : (Jvm.Cond.methodLink "SalaryCapLedger$Terms" (61 : Nat) ({ cls := "java/lang/Integer", name := "bitCount", desc := "(I)I" } : Jvm.MethodName)) ∈ q_big := q_inbig q_sub4 (i := 108) (by decide +kernel) rfl
theorem k4_109 : (Jvm.Cond.methodLink "SalaryCapLedger" (202 : Nat) ({ cls := "SalaryCapLedger$Terms", name := "isTaxed", desc := "(II)Z" } : Jvm.MethodName)) ∈ q_big := q_inbig q_sub4 (i := 109) (by decide +kernel) rfl
theorem k4_110 : (Jvm.Cond.methodLink "SalaryCapLedger" (191 : Nat) ({ cls := "SalaryCapLedger$Books", name := "endYear", desc := "(I)V" } : Jvm.MethodName)) ∈ q_big := q_inbig q_sub4 (i := 110) (by decide +kernel) rfl
theorem k4_111 : (Jvm.Cond.instanceMethod ({ cls := "SalaryCapLedger$Books", name := "endYear", desc := "(I)V" } : Jvm.MethodName)) ∈ q_big := q_inbig q_sub4 (i := 111) (by decide +kernel) rfl
theorem k4_112 : (Jvm.Cond.selects "SalaryCapLedger$Books" ({ cls := "SalaryCapLedger$Books", name := "endYear", desc := "(I)V" } : Jvm.MethodName) ({ cls := "SalaryCapLedger$Books", name := "endYear", desc := "(I)V" } : Jvm.MethodName)) ∈ q_big := q_inbig q_sub4 (i := 112) (by decide +kernel) rfl
theorem k4_113 : (Jvm.Cond.code ({ cls := "SalaryCapLedger$Books", name := "endYear", desc := "(I)V" } : Jvm.MethodName) prog_2_method_13_code (3 : Nat) (Option.none : Option Jvm.ClassFile.FieldType)) ∈ q_big := q_inbig q_sub4 (i := 113) (by decide +kernel) rfl
theorem k4_114 : (Jvm.Cond.methodLink "SalaryCapLedger$Books" (107 : Nat) ({ cls := "SalaryCapLedger$Player", name := "endYear", desc := "(I)V" } : Jvm.MethodName)) ∈ q_big := q_inbig q_sub4 (i := 114) (by decide +kernel) rfl
theorem k4_115 : (Jvm.Cond.instanceMethod ({ cls := "SalaryCapLedger$Player", name := "endYear", desc := "(I)V" } : Jvm.MethodName)) ∈ q_big := q_inbig q_sub4 (i := 115) (by decide +kernel) rfl
theorem k4_116 : (Jvm.Cond.selects "SalaryCapLedger$Player" ({ cls := "SalaryCapLedger$Player", name := "endYear", desc := "(I)V" } : Jvm.MethodName) ({ cls := "SalaryCapLedger$Player", name := "endYear", desc := "(I)V" } : Jvm.MethodName)) ∈ q_big := q_inbig q_sub4 (i := 116) (by decide +kernel) rfl
theorem k4_117 : (Jvm.Cond.code ({ cls := "SalaryCapLedger$Player", name := "endYear", desc := "(I)V" } : Jvm.MethodName) prog_5_method_6_code (2 : Nat) (Option.none : Option Jvm.ClassFile.FieldType)) ∈ q_big := q_inbig q_sub4 (i := 117) (by decide +kernel) rfl
theorem k4_118 : (Jvm.Cond.methodLink "SalaryCapLedger$Books" (111 : Nat) ({ cls := "SalaryCapLedger$Books", name := "refillMidLevel", desc := "(I)V" } : Jvm.MethodName)) ∈ q_big := q_inbig q_sub4 (i := 118) (by decide +kernel) rfl
theorem k4_119 : (Jvm.Cond.methodLink "SalaryCapLedgerLaw" (184 : Nat) ({ cls := "SalaryCapLedgerLaw", name := "year", desc := "(LSalaryCapLedger;[J)I" } : Jvm.MethodName)) ∈ q_big := q_inbig q_sub4 (i := 119) (by decide +kernel) rfl
theorem k4_120 : (Jvm.Cond.static ({ cls := "SalaryCapLedgerLaw", name := "year", desc := "(LSalaryCapLedger;[J)I" } : Jvm.MethodName)) ∈ q_big := q_inbig q_sub4 (i := 120) (by decide +kernel) rfl
theorem k4_121 : (Jvm.Cond.codeWith ({ cls := "SalaryCapLedgerLaw", name := "year", desc := "(LSalaryCapLedger;[J)I" } : Jvm.MethodName) method_10_code (3 : Nat) (Option.some Jvm.ClassFile.FieldType.int) [((0 : Nat), (8 : Nat), (11 : Nat), (13 : Nat))]) ∈ q_big := q_inbig q_sub4 (i := 121) (by decide +kernel) rfl
theorem k4_122 : (Jvm.Cond.methodLink "SalaryCapLedgerLaw" (40 : Nat) ({ cls := "SalaryCapLedger", name := "year", desc := "()I" } : Jvm.MethodName)) ∈ q_big := q_inbig q_sub4 (i := 122) (by decide +kernel) rfl
theorem k4_123 : (Jvm.Cond.instanceMethod ({ cls := "SalaryCapLedger", name := "year", desc := "()I" } : Jvm.MethodName)) ∈ q_big := q_inbig q_sub4 (i := 123) (by decide +kernel) rfl
theorem k4_124 : (Jvm.Cond.selects "SalaryCapLedger" ({ cls := "SalaryCapLedger", name := "year", desc := "()I" } : Jvm.MethodName) ({ cls := "SalaryCapLedger", name := "year", desc := "()I" } : Jvm.MethodName)) ∈ q_big := q_inbig q_sub4 (i := 124) (by decide +kernel) rfl
theorem k4_125 : (Jvm.Cond.code ({ cls := "SalaryCapLedger", name := "year", desc := "()I" } : Jvm.MethodName) prog_1_method_14_code (1 : Nat) (Option.some Jvm.ClassFile.FieldType.int)) ∈ q_big := q_inbig q_sub4 (i := 125) (by decide +kernel) rfl
theorem k4_126 : (Jvm.Cond.methodLink "SalaryCapLedgerLaw" (187 : Nat) ({ cls := "SalaryCapLedgerLaw", name := "cap", desc := "(LSalaryCapLedger;I[J)I" } : Jvm.MethodName)) ∈ q_big := q_inbig q_sub4 (i := 126) (by decide +kernel) rfl
theorem k4_127 : (Jvm.Cond.static ({ cls := "SalaryCapLedgerLaw", name := "cap", desc := "(LSalaryCapLedger;I[J)I" } : Jvm.MethodName)) ∈ q_big := q_inbig q_sub4 (i := 127) (by decide +kernel) rfl
theorem k4_128 : (Jvm.Cond.codeWith ({ cls := "SalaryCapLedgerLaw", name := "cap", desc := "(LSalaryCapLedger;I[J)I" } : Jvm.MethodName) method_11_code (4 : Nat) (Option.some Jvm.ClassFile.FieldType.int) [((0 : Nat), (9 : Nat), (12 : Nat), (13 : Nat)), ((0 : Nat), (9 : Nat), (15 : Nat), (19 : Nat))]) ∈ q_big := q_inbig q_sub4 (i := 128) (by decide +kernel) rfl
theorem k4_129 : (Jvm.Cond.methodLink "SalaryCapLedgerLaw" (44 : Nat) ({ cls := "SalaryCapLedger", name := "cap", desc := "(I)I" } : Jvm.MethodName)) ∈ q_big := q_inbig q_sub4 (i := 129) (by decide +kernel) rfl
theorem k4_130 : (Jvm.Cond.instanceMethod ({ cls := "SalaryCapLedger", name := "cap", desc := "(I)I" } : Jvm.MethodName)) ∈ q_big := q_inbig q_sub4 (i := 130) (by decide +kernel) rfl
theorem k4_131 : (Jvm.Cond.selects "SalaryCapLedger" ({ cls := "SalaryCapLedger", name := "cap", desc := "(I)I" } : Jvm.MethodName) ({ cls := "SalaryCapLedger", name := "cap", desc := "(I)I" } : Jvm.MethodName)) ∈ q_big := q_inbig q_sub4 (i := 131) (by decide +kernel) rfl
theorem k4_132 : (Jvm.Cond.code ({ cls := "SalaryCapLedger", name := "cap", desc := "(I)I" } : Jvm.MethodName) prog_1_method_15_code (2 : Nat) (Option.some Jvm.ClassFile.FieldType.int)) ∈ q_big := q_inbig q_sub4 (i := 132) (by decide +kernel) rfl
theorem k4_133 : (Jvm.Cond.methodLink "SalaryCapLedgerLaw" (190 : Nat) ({ cls := "SalaryCapLedgerLaw", name := "taxLine", desc := "(LSalaryCapLedger;I[J)I" } : Jvm.MethodName)) ∈ q_big := q_inbig q_sub4 (i := 133) (by decide +kernel) rfl
theorem k4_134 : (Jvm.Cond.static ({ cls := "SalaryCapLedgerLaw", name := "taxLine", desc := "(LSalaryCapLedger;I[J)I" } : Jvm.MethodName)) ∈ q_big := q_inbig q_sub4 (i := 134) (by decide +kernel) rfl
theorem k4_135 : (Jvm.Cond.codeWith ({ cls := "SalaryCapLedgerLaw", name := "taxLine", desc := "(LSalaryCapLedger;I[J)I" } : Jvm.MethodName) method_12_code (4 : Nat) (Option.some Jvm.ClassFile.FieldType.int) [((0 : Nat), (9 : Nat), (12 : Nat), (13 : Nat)), ((0 : Nat), (9 : Nat), (15 : Nat), (19 : Nat))]) ∈ q_big := q_inbig q_sub4 (i := 135) (by decide +kernel) rfl
theorem k4_136 : (Jvm.Cond.methodLink "SalaryCapLedgerLaw" (47 : Nat) ({ cls := "SalaryCapLedger", name := "taxLine", desc := "(I)I" } : Jvm.MethodName)) ∈ q_big := q_inbig q_sub4 (i := 136) (by decide +kernel) rfl
theorem k4_137 : (Jvm.Cond.instanceMethod ({ cls := "SalaryCapLedger", name := "taxLine", desc := "(I)I" } : Jvm.MethodName)) ∈ q_big := q_inbig q_sub4 (i := 137) (by decide +kernel) rfl
theorem k4_138 : (Jvm.Cond.selects "SalaryCapLedger" ({ cls := "SalaryCapLedger", name := "taxLine", desc := "(I)I" } : Jvm.MethodName) ({ cls := "SalaryCapLedger", name := "taxLine", desc := "(I)I" } : Jvm.MethodName)) ∈ q_big := q_inbig q_sub4 (i := 138) (by decide +kernel) rfl
theorem k4_139 : (Jvm.Cond.code ({ cls := "SalaryCapLedger", name := "taxLine", desc := "(I)I" } : Jvm.MethodName) prog_1_method_16_code (2 : Nat) (Option.some Jvm.ClassFile.FieldType.int)) ∈ q_big := q_inbig q_sub4 (i := 139) (by decide +kernel) rfl
theorem k4_140 : (Jvm.Cond.methodLink "SalaryCapLedgerLaw" (193 : Nat) ({ cls := "SalaryCapLedgerLaw", name := "offer", desc := "(LSalaryCapLedger;I[J)I" } : Jvm.MethodName)) ∈ q_big := q_inbig q_sub4 (i := 140) (by decide +kernel) rfl
theorem k4_141 : (Jvm.Cond.static ({ cls := "SalaryCapLedgerLaw", name := "offer", desc := "(LSalaryCapLedger;I[J)I" } : Jvm.MethodName)) ∈ q_big := q_inbig q_sub4 (i := 141) (by decide +kernel) rfl
theorem k4_142 : (Jvm.Cond.codeWith ({ cls := "SalaryCapLedgerLaw", name := "offer", desc := "(LSalaryCapLedger;I[J)I" } : Jvm.MethodName) method_13_code (4 : Nat) (Option.some Jvm.ClassFile.FieldType.int) [((0 : Nat), (9 : Nat), (12 : Nat), (13 : Nat)), ((0 : Nat), (9 : Nat), (15 : Nat), (19 : Nat))]) ∈ q_big := q_inbig q_sub4 (i := 142) (by decide +kernel) rfl
theorem k4_143 : (Jvm.Cond.methodLink "SalaryCapLedgerLaw" (50 : Nat) ({ cls := "SalaryCapLedger", name := "offer", desc := "(I)I" } : Jvm.MethodName)) ∈ q_big := q_inbig q_sub4 (i := 143) (by decide +kernel) rfl
theorem k4_144 : (Jvm.Cond.instanceMethod ({ cls := "SalaryCapLedger", name := "offer", desc := "(I)I" } : Jvm.MethodName)) ∈ q_big := q_inbig q_sub4 (i := 144) (by decide +kernel) rfl
theorem k4_145 : (Jvm.Cond.selects "SalaryCapLedger" ({ cls := "SalaryCapLedger", name := "offer", desc := "(I)I" } : Jvm.MethodName) ({ cls := "SalaryCapLedger", name := "offer", desc := "(I)I" } : Jvm.MethodName)) ∈ q_big := q_inbig q_sub4 (i := 145) (by decide +kernel) rfl
theorem k4_146 : (Jvm.Cond.code ({ cls := "SalaryCapLedger", name := "offer", desc := "(I)I" } : Jvm.MethodName) prog_1_method_17_code (2 : Nat) (Option.some Jvm.ClassFile.FieldType.int)) ∈ q_big := q_inbig q_sub4 (i := 146) (by decide +kernel) rfl
theorem k4_147 : (Jvm.Cond.methodLink "SalaryCapLedgerLaw" (196 : Nat) ({ cls := "SalaryCapLedgerLaw", name := "charge", desc := "(LSalaryCapLedger;II[J)I" } : Jvm.MethodName)) ∈ q_big := q_inbig q_sub4 (i := 147) (by decide +kernel) rfl
theorem k4_148 : (Jvm.Cond.static ({ cls := "SalaryCapLedgerLaw", name := "charge", desc := "(LSalaryCapLedger;II[J)I" } : Jvm.MethodName)) ∈ q_big := q_inbig q_sub4 (i := 148) (by decide +kernel) rfl
theorem k4_149 : (Jvm.Cond.codeWith ({ cls := "SalaryCapLedgerLaw", name := "charge", desc := "(LSalaryCapLedger;II[J)I" } : Jvm.MethodName) method_14_code (5 : Nat) (Option.some Jvm.ClassFile.FieldType.int) [((0 : Nat), (10 : Nat), (13 : Nat), (13 : Nat)), ((0 : Nat), (10 : Nat), (17 : Nat), (19 : Nat))]) ∈ q_big := q_inbig q_sub4 (i := 149) (by decide +kernel) rfl
theorem k4_150 : (Jvm.Cond.methodLink "SalaryCapLedgerLaw" (53 : Nat) ({ cls := "SalaryCapLedger", name := "charge", desc := "(II)I" } : Jvm.MethodName)) ∈ q_big := q_inbig q_sub4 (i := 150) (by decide +kernel) rfl
theorem k4_151 : (Jvm.Cond.instanceMethod ({ cls := "SalaryCapLedger", name := "charge", desc := "(II)I" } : Jvm.MethodName)) ∈ q_big := q_inbig q_sub4 (i := 151) (by decide +kernel) rfl
theorem k4_152 : (Jvm.Cond.selects "SalaryCapLedger" ({ cls := "SalaryCapLedger", name := "charge", desc := "(II)I" } : Jvm.MethodName) ({ cls := "SalaryCapLedger", name := "charge", desc := "(II)I" } : Jvm.MethodName)) ∈ q_big := q_inbig q_sub4 (i := 152) (by decide +kernel) rfl
theorem k4_153 : (Jvm.Cond.code ({ cls := "SalaryCapLedger", name := "charge", desc := "(II)I" } : Jvm.MethodName) prog_1_method_18_code (3 : Nat) (Option.some Jvm.ClassFile.FieldType.int)) ∈ q_big := q_inbig q_sub4 (i := 153) (by decide +kernel) rfl
theorem k4_154 : (Jvm.Cond.methodLink "SalaryCapLedgerLaw" (200 : Nat) ({ cls := "SalaryCapLedgerLaw", name := "deadMoney", desc := "(LSalaryCapLedger;II[J)I" } : Jvm.MethodName)) ∈ q_big := q_inbig q_sub4 (i := 154) (by decide +kernel) rfl
theorem k4_155 : (Jvm.Cond.static ({ cls := "SalaryCapLedgerLaw", name := "deadMoney", desc := "(LSalaryCapLedger;II[J)I" } : Jvm.MethodName)) ∈ q_big := q_inbig q_sub4 (i := 155) (by decide +kernel) rfl
theorem k4_156 : (Jvm.Cond.codeWith ({ cls := "SalaryCapLedgerLaw", name := "deadMoney", desc := "(LSalaryCapLedger;II[J)I" } : Jvm.MethodName) method_15_code (5 : Nat) (Option.some Jvm.ClassFile.FieldType.int) [((0 : Nat), (10 : Nat), (13 : Nat), (13 : Nat)), ((0 : Nat), (10 : Nat), (17 : Nat), (19 : Nat))]) ∈ q_big := q_inbig q_sub4 (i := 156) (by decide +kernel) rfl
theorem k4_157 : (Jvm.Cond.methodLink "SalaryCapLedgerLaw" (57 : Nat) ({ cls := "SalaryCapLedger", name := "deadMoney", desc := "(II)I" } : Jvm.MethodName)) ∈ q_big := q_inbig q_sub4 (i := 157) (by decide +kernel) rfl
theorem k4_158 : (Jvm.Cond.instanceMethod ({ cls := "SalaryCapLedger", name := "deadMoney", desc := "(II)I" } : Jvm.MethodName)) ∈ q_big := q_inbig q_sub4 (i := 158) (by decide +kernel) rfl
theorem k4_159 : (Jvm.Cond.selects "SalaryCapLedger" ({ cls := "SalaryCapLedger", name := "deadMoney", desc := "(II)I" } : Jvm.MethodName) ({ cls := "SalaryCapLedger", name := "deadMoney", desc := "(II)I" } : Jvm.MethodName)) ∈ q_big := q_inbig q_sub4 (i := 159) (by decide +kernel) rfl
theorem k4_160 : (Jvm.Cond.code ({ cls := "SalaryCapLedger", name := "deadMoney", desc := "(II)I" } : Jvm.MethodName) prog_1_method_19_code (3 : Nat) (Option.some Jvm.ClassFile.FieldType.int)) ∈ q_big := q_inbig q_sub4 (i := 160) (by decide +kernel) rfl
theorem k4_161 : (Jvm.Cond.methodLink "SalaryCapLedger" (234 : Nat) ({ cls := "SalaryCapLedger$Team", name := "deadIn", desc := "(I)I" } : Jvm.MethodName)) ∈ q_big := q_inbig q_sub4 (i := 161) (by decide +kernel) rfl
theorem k4_162 : (Jvm.Cond.methodLink "SalaryCapLedgerLaw" (203 : Nat) ({ cls := "SalaryCapLedgerLaw", name := "room", desc := "(LSalaryCapLedger;I[J)I" } : Jvm.MethodName)) ∈ q_big := q_inbig q_sub4 (i := 162) (by decide +kernel) rfl
theorem k4_163 : (Jvm.Cond.static ({ cls := "SalaryCapLedgerLaw", name := "room", desc := "(LSalaryCapLedger;I[J)I" } : Jvm.MethodName)) ∈ q_big := q_inbig q_sub4 (i := 163) (by decide +kernel) rfl
theorem k4_164 : (Jvm.Cond.codeWith ({ cls := "SalaryCapLedgerLaw", name := "room", desc := "(LSalaryCapLedger;I[J)I" } : Jvm.MethodName) method_16_code (4 : Nat) (Option.some Jvm.ClassFile.FieldType.int) [((0 : Nat), (9 : Nat), (12 : Nat), (13 : Nat)), ((0 : Nat), (9 : Nat), (15 : Nat), (19 : Nat))]) ∈ q_big := q_inbig q_sub4 (i := 164) (by decide +kernel) rfl
theorem k4_165 : (Jvm.Cond.methodLink "SalaryCapLedgerLaw" (60 : Nat) ({ cls := "SalaryCapLedger", name := "room", desc := "(I)I" } : Jvm.MethodName)) ∈ q_big := q_inbig q_sub4 (i := 165) (by decide +kernel) rfl
theorem k4_166 : (Jvm.Cond.instanceMethod ({ cls := "SalaryCapLedger", name := "room", desc := "(I)I" } : Jvm.MethodName)) ∈ q_big := q_inbig q_sub4 (i := 166) (by decide +kernel) rfl
theorem k4_167 : (Jvm.Cond.selects "SalaryCapLedger" ({ cls := "SalaryCapLedger", name := "room", desc := "(I)I" } : Jvm.MethodName) ({ cls := "SalaryCapLedger", name := "room", desc := "(I)I" } : Jvm.MethodName)) ∈ q_big := q_inbig q_sub4 (i := 167) (by decide +kernel) rfl
theorem k4_168 : (Jvm.Cond.code ({ cls := "SalaryCapLedger", name := "room", desc := "(I)I" } : Jvm.MethodName) prog_1_method_20_code (2 : Nat) (Option.some Jvm.ClassFile.FieldType.int)) ∈ q_big := q_inbig q_sub4 (i := 168) (by decide +kernel) rfl
theorem k4_169 : (Jvm.Cond.methodLink "SalaryCapLedgerLaw" (206 : Nat) ({ cls := "SalaryCapLedgerLaw", name := "tax", desc := "(LSalaryCapLedger;I[J)I" } : Jvm.MethodName)) ∈ q_big := q_inbig q_sub4 (i := 169) (by decide +kernel) rfl
theorem k4_170 : (Jvm.Cond.static ({ cls := "SalaryCapLedgerLaw", name := "tax", desc := "(LSalaryCapLedger;I[J)I" } : Jvm.MethodName)) ∈ q_big := q_inbig q_sub4 (i := 170) (by decide +kernel) rfl
theorem k4_171 : (Jvm.Cond.codeWith ({ cls := "SalaryCapLedgerLaw", name := "tax", desc := "(LSalaryCapLedger;I[J)I" } : Jvm.MethodName) method_17_code (4 : Nat) (Option.some Jvm.ClassFile.FieldType.int) [((0 : Nat), (8 : Nat), (11 : Nat), (13 : Nat)), ((0 : Nat), (8 : Nat), (14 : Nat), (19 : Nat))]) ∈ q_big := q_inbig q_sub4 (i := 171) (by decide +kernel) rfl
theorem k4_172 : (Jvm.Cond.methodLink "SalaryCapLedgerLaw" (63 : Nat) ({ cls := "SalaryCapLedger", name := "tax", desc := "(I)J" } : Jvm.MethodName)) ∈ q_big := q_inbig q_sub4 (i := 172) (by decide +kernel) rfl
theorem k4_173 : (Jvm.Cond.instanceMethod ({ cls := "SalaryCapLedger", name := "tax", desc := "(I)J" } : Jvm.MethodName)) ∈ q_big := q_inbig q_sub4 (i := 173) (by decide +kernel) rfl
theorem k4_174 : (Jvm.Cond.selects "SalaryCapLedger" ({ cls := "SalaryCapLedger", name := "tax", desc := "(I)J" } : Jvm.MethodName) ({ cls := "SalaryCapLedger", name := "tax", desc := "(I)J" } : Jvm.MethodName)) ∈ q_big := q_inbig q_sub4 (i := 174) (by decide +kernel) rfl
theorem k4_175 : (Jvm.Cond.code ({ cls := "SalaryCapLedger", name := "tax", desc := "(I)J" } : Jvm.MethodName) prog_1_method_21_code (2 : Nat) (Option.some Jvm.ClassFile.FieldType.long)) ∈ q_big := q_inbig q_sub4 (i := 175) (by decide +kernel) rfl
theorem k4_176 : (Jvm.Cond.methodLink "SalaryCapLedgerLaw" (209 : Nat) ({ cls := "SalaryCapLedgerLaw", name := "paid", desc := "(LSalaryCapLedger;I[J)I" } : Jvm.MethodName)) ∈ q_big := q_inbig q_sub4 (i := 176) (by decide +kernel) rfl
theorem k4_177 : (Jvm.Cond.static ({ cls := "SalaryCapLedgerLaw", name := "paid", desc := "(LSalaryCapLedger;I[J)I" } : Jvm.MethodName)) ∈ q_big := q_inbig q_sub4 (i := 177) (by decide +kernel) rfl
theorem k4_178 : (Jvm.Cond.codeWith ({ cls := "SalaryCapLedgerLaw", name := "paid", desc := "(LSalaryCapLedger;I[J)I" } : Jvm.MethodName) method_18_code (4 : Nat) (Option.some Jvm.ClassFile.FieldType.int) [((0 : Nat), (8 : Nat), (11 : Nat), (13 : Nat)), ((0 : Nat), (8 : Nat), (14 : Nat), (19 : Nat))]) ∈ q_big := q_inbig q_sub4 (i := 178) (by decide +kernel) rfl
theorem k4_179 : (Jvm.Cond.methodLink "SalaryCapLedgerLaw" (67 : Nat) ({ cls := "SalaryCapLedger", name := "paid", desc := "(I)J" } : Jvm.MethodName)) ∈ q_big := q_inbig q_sub4 (i := 179) (by decide +kernel) rfl
theorem k4_180 : (Jvm.Cond.instanceMethod ({ cls := "SalaryCapLedger", name := "paid", desc := "(I)J" } : Jvm.MethodName)) ∈ q_big := q_inbig q_sub4 (i := 180) (by decide +kernel) rfl
theorem k4_181 : (Jvm.Cond.selects "SalaryCapLedger" ({ cls := "SalaryCapLedger", name := "paid", desc := "(I)J" } : Jvm.MethodName) ({ cls := "SalaryCapLedger", name := "paid", desc := "(I)J" } : Jvm.MethodName)) ∈ q_big := q_inbig q_sub4 (i := 181) (by decide +kernel) rfl
theorem k4_182 : (Jvm.Cond.code ({ cls := "SalaryCapLedger", name := "paid", desc := "(I)J" } : Jvm.MethodName) prog_1_method_22_code (2 : Nat) (Option.some Jvm.ClassFile.FieldType.long)) ∈ q_big := q_inbig q_sub4 (i := 182) (by decide +kernel) rfl
theorem k4_183 : (Jvm.Cond.methodLink "SalaryCapLedgerLaw" (212 : Nat) ({ cls := "SalaryCapLedgerLaw", name := "taxedYears", desc := "(LSalaryCapLedger;I[J)I" } : Jvm.MethodName)) ∈ q_big := q_inbig q_sub4 (i := 183) (by decide +kernel) rfl
theorem k4_184 : (Jvm.Cond.static ({ cls := "SalaryCapLedgerLaw", name := "taxedYears", desc := "(LSalaryCapLedger;I[J)I" } : Jvm.MethodName)) ∈ q_big := q_inbig q_sub4 (i := 184) (by decide +kernel) rfl
theorem k4_185 : (Jvm.Cond.codeWith ({ cls := "SalaryCapLedgerLaw", name := "taxedYears", desc := "(LSalaryCapLedger;I[J)I" } : Jvm.MethodName) method_19_code (4 : Nat) (Option.some Jvm.ClassFile.FieldType.int) [((0 : Nat), (9 : Nat), (12 : Nat), (13 : Nat)), ((0 : Nat), (9 : Nat), (15 : Nat), (19 : Nat))]) ∈ q_big := q_inbig q_sub4 (i := 185) (by decide +kernel) rfl
theorem k4_186 : (Jvm.Cond.methodLink "SalaryCapLedgerLaw" (70 : Nat) ({ cls := "SalaryCapLedger", name := "taxedYears", desc := "(I)I" } : Jvm.MethodName)) ∈ q_big := q_inbig q_sub4 (i := 186) (by decide +kernel) rfl
theorem k4_187 : (Jvm.Cond.instanceMethod ({ cls := "SalaryCapLedger", name := "taxedYears", desc := "(I)I" } : Jvm.MethodName)) ∈ q_big := q_inbig q_sub4 (i := 187) (by decide +kernel) rfl
theorem k4_188 : (Jvm.Cond.selects "SalaryCapLedger" ({ cls := "SalaryCapLedger", name := "taxedYears", desc := "(I)I" } : Jvm.MethodName) ({ cls := "SalaryCapLedger", name := "taxedYears", desc := "(I)I" } : Jvm.MethodName)) ∈ q_big := q_inbig q_sub4 (i := 188) (by decide +kernel) rfl
theorem k4_189 : (Jvm.Cond.code ({ cls := "SalaryCapLedger", name := "taxedYears", desc := "(I)I" } : Jvm.MethodName) prog_1_method_23_code (2 : Nat) (Option.some Jvm.ClassFile.FieldType.int)) ∈ q_big := q_inbig q_sub4 (i := 189) (by decide +kernel) rfl
theorem k4_190 : (Jvm.Cond.methodLink "SalaryCapLedgerLaw" (215 : Nat) ({ cls := "SalaryCapLedgerLaw", name := "midLevel", desc := "(LSalaryCapLedger;I[J)I" } : Jvm.MethodName)) ∈ q_big := q_inbig q_sub4 (i := 190) (by decide +kernel) rfl
theorem k4_191 : (Jvm.Cond.static ({ cls := "SalaryCapLedgerLaw", name := "midLevel", desc := "(LSalaryCapLedger;I[J)I" } : Jvm.MethodName)) ∈ q_big := q_inbig q_sub4 (i := 191) (by decide +kernel) rfl
theorem k4_192 : (Jvm.Cond.codeWith ({ cls := "SalaryCapLedgerLaw", name := "midLevel", desc := "(LSalaryCapLedger;I[J)I" } : Jvm.MethodName) method_20_code (4 : Nat) (Option.some Jvm.ClassFile.FieldType.int) [((0 : Nat), (9 : Nat), (12 : Nat), (13 : Nat)), ((0 : Nat), (9 : Nat), (15 : Nat), (19 : Nat))]) ∈ q_big := q_inbig q_sub4 (i := 192) (by decide +kernel) rfl
theorem k4_193 : (Jvm.Cond.methodLink "SalaryCapLedgerLaw" (73 : Nat) ({ cls := "SalaryCapLedger", name := "midLevel", desc := "(I)I" } : Jvm.MethodName)) ∈ q_big := q_inbig q_sub4 (i := 193) (by decide +kernel) rfl
theorem k4_194 : (Jvm.Cond.instanceMethod ({ cls := "SalaryCapLedger", name := "midLevel", desc := "(I)I" } : Jvm.MethodName)) ∈ q_big := q_inbig q_sub4 (i := 194) (by decide +kernel) rfl
theorem k4_195 : (Jvm.Cond.selects "SalaryCapLedger" ({ cls := "SalaryCapLedger", name := "midLevel", desc := "(I)I" } : Jvm.MethodName) ({ cls := "SalaryCapLedger", name := "midLevel", desc := "(I)I" } : Jvm.MethodName)) ∈ q_big := q_inbig q_sub4 (i := 195) (by decide +kernel) rfl
theorem k4_196 : (Jvm.Cond.code ({ cls := "SalaryCapLedger", name := "midLevel", desc := "(I)I" } : Jvm.MethodName) prog_1_method_24_code (2 : Nat) (Option.some Jvm.ClassFile.FieldType.int)) ∈ q_big := q_inbig q_sub4 (i := 196) (by decide +kernel) rfl
theorem k4_197 : (Jvm.Cond.methodLink "SalaryCapLedgerLaw" (218 : Nat) ({ cls := "SalaryCapLedgerLaw", name := "roster", desc := "(LSalaryCapLedger;I[J)I" } : Jvm.MethodName)) ∈ q_big := q_inbig q_sub4 (i := 197) (by decide +kernel) rfl
theorem k4_198 : (Jvm.Cond.static ({ cls := "SalaryCapLedgerLaw", name := "roster", desc := "(LSalaryCapLedger;I[J)I" } : Jvm.MethodName)) ∈ q_big := q_inbig q_sub4 (i := 198) (by decide +kernel) rfl
theorem k4_199 : (Jvm.Cond.codeWith ({ cls := "SalaryCapLedgerLaw", name := "roster", desc := "(LSalaryCapLedger;I[J)I" } : Jvm.MethodName) method_21_code (4 : Nat) (Option.some Jvm.ClassFile.FieldType.int) [((0 : Nat), (9 : Nat), (12 : Nat), (13 : Nat)), ((0 : Nat), (9 : Nat), (15 : Nat), (19 : Nat))]) ∈ q_big := q_inbig q_sub4 (i := 199) (by decide +kernel) rfl
theorem k4_200 : (Jvm.Cond.methodLink "SalaryCapLedgerLaw" (76 : Nat) ({ cls := "SalaryCapLedger", name := "roster", desc := "(I)I" } : Jvm.MethodName)) ∈ q_big := q_inbig q_sub4 (i := 200) (by decide +kernel) rfl
theorem k4_201 : (Jvm.Cond.instanceMethod ({ cls := "SalaryCapLedger", name := "roster", desc := "(I)I" } : Jvm.MethodName)) ∈ q_big := q_inbig q_sub4 (i := 201) (by decide +kernel) rfl
theorem k4_202 : (Jvm.Cond.selects "SalaryCapLedger" ({ cls := "SalaryCapLedger", name := "roster", desc := "(I)I" } : Jvm.MethodName) ({ cls := "SalaryCapLedger", name := "roster", desc := "(I)I" } : Jvm.MethodName)) ∈ q_big := q_inbig q_sub4 (i := 202) (by decide +kernel) rfl
theorem k4_203 : (Jvm.Cond.code ({ cls := "SalaryCapLedger", name := "roster", desc := "(I)I" } : Jvm.MethodName) prog_1_method_25_code (2 : Nat) (Option.some Jvm.ClassFile.FieldType.int)) ∈ q_big := q_inbig q_sub4 (i := 203) (by decide +kernel) rfl
theorem k4_204 : (Jvm.Cond.methodLink "SalaryCapLedgerLaw" (221 : Nat) ({ cls := "SalaryCapLedgerLaw", name := "teamRank", desc := "(LSalaryCapLedger;II[J)I" } : Jvm.MethodName)) ∈ q_big := q_inbig q_sub4 (i := 204) (by decide +kernel) rfl
theorem k4_205 : (Jvm.Cond.static ({ cls := "SalaryCapLedgerLaw", name := "teamRank", desc := "(LSalaryCapLedger;II[J)I" } : Jvm.MethodName)) ∈ q_big := q_inbig q_sub4 (i := 205) (by decide +kernel) rfl
theorem k4_206 : (Jvm.Cond.codeWith ({ cls := "SalaryCapLedgerLaw", name := "teamRank", desc := "(LSalaryCapLedger;II[J)I" } : Jvm.MethodName) method_22_code (5 : Nat) (Option.some Jvm.ClassFile.FieldType.int) [((0 : Nat), (10 : Nat), (13 : Nat), (13 : Nat)), ((0 : Nat), (10 : Nat), (17 : Nat), (19 : Nat)), ((0 : Nat), (10 : Nat), (21 : Nat), (82 : Nat))]) ∈ q_big := q_inbig q_sub4 (i := 206) (by decide +kernel) rfl
theorem k4_207 : (Jvm.Cond.classLink "SalaryCapLedgerLaw" (82 : Nat) "java/util/NoSuchElementException") ∈ q_big := q_inbig q_sub4 (i := 207) (by decide +kernel) rfl
theorem k4_208 : (Jvm.Cond.methodLink "SalaryCapLedgerLaw" (79 : Nat) ({ cls := "SalaryCapLedger", name := "teamRank", desc := "(II)I" } : Jvm.MethodName)) ∈ q_big := q_inbig q_sub4 (i := 208) (by decide +kernel) rfl
theorem k4_209 : (Jvm.Cond.instanceMethod ({ cls := "SalaryCapLedger", name := "teamRank", desc := "(II)I" } : Jvm.MethodName)) ∈ q_big := q_inbig q_sub4 (i := 209) (by decide +kernel) rfl
theorem k4_210 : (Jvm.Cond.selects "SalaryCapLedger" ({ cls := "SalaryCapLedger", name := "teamRank", desc := "(II)I" } : Jvm.MethodName) ({ cls := "SalaryCapLedger", name := "teamRank", desc := "(II)I" } : Jvm.MethodName)) ∈ q_big := q_inbig q_sub4 (i := 210) (by decide +kernel) rfl
theorem k4_211 : (Jvm.Cond.code ({ cls := "SalaryCapLedger", name := "teamRank", desc := "(II)I" } : Jvm.MethodName) prog_1_method_26_code (4 : Nat) (Option.some Jvm.ClassFile.FieldType.int)) ∈ q_big := q_inbig q_sub4 (i := 211) (by decide +kernel) rfl
theorem k4_212 : (Jvm.Cond.methodLink "SalaryCapLedger" (243 : Nat) ({ cls := "SalaryCapLedger", name := "requireNotNegative", desc := "(I)V" } : Jvm.MethodName)) ∈ q_big := q_inbig q_sub4 (i := 212) (by decide +kernel) rfl
theorem k4_213 : (Jvm.Cond.static ({ cls := "SalaryCapLedger", name := "requireNotNegative", desc := "(I)V" } : Jvm.MethodName)) ∈ q_big := q_inbig q_sub4 (i := 213) (by decide +kernel) rfl
theorem k4_214 : (Jvm.Cond.code ({ cls := "SalaryCapLedger", name := "requireNotNegative", desc := "(I)V" } : Jvm.MethodName) prog_1_method_61_code (1 : Nat) (Option.none : Option Jvm.ClassFile.FieldType)) ∈ q_big := q_inbig q_sub4 (i := 214) (by decide +kernel) rfl
theorem k4_216 : (Jvm.Cond.methodLink "SalaryCapLedger" (246 : Nat) ({ cls := "SalaryCapLedger", name := "teamsBefore", desc := "(II)I" } : Jvm.MethodName)) ∈ q_big := q_inbig q_sub4 (i := 216) (by decide +kernel) rfl
theorem k4_218 : (Jvm.Cond.instanceMethod ({ cls := "SalaryCapLedger", name := "teamsBefore", desc := "(II)I" } : Jvm.MethodName)) ∈ q_big := q_inbig q_sub4 (i := 218) (by decide +kernel) rfl
theorem k4_219 : (Jvm.Cond.code ({ cls := "SalaryCapLedger", name := "teamsBefore", desc := "(II)I" } : Jvm.MethodName) prog_1_method_27_code (9 : Nat) (Option.some Jvm.ClassFile.FieldType.int)) ∈ q_big := q_inbig q_sub4 (i := 219) (by decide +kernel) rfl
theorem k4_220 : (Jvm.Cond.methodLink "SalaryCapLedger" (254 : Nat) ({ cls := "SalaryCapLedger", name := "teamMeasure", desc := "(II)J" } : Jvm.MethodName)) ∈ q_big := q_inbig q_sub4 (i := 220) (by decide +kernel) rfl
theorem k4_222 : (Jvm.Cond.instanceMethod ({ cls := "SalaryCapLedger", name := "teamMeasure", desc := "(II)J" } : Jvm.MethodName)) ∈ q_big := q_inbig q_sub4 (i := 222) (by decide +kernel) rfl
theorem k4_223 : (Jvm.Cond.code ({ cls := "SalaryCapLedger", name := "teamMeasure", desc := "(II)J" } : Jvm.MethodName) prog_1_method_28_code (3 : Nat) (Option.some Jvm.ClassFile.FieldType.long)) ∈ q_big := q_inbig q_sub4 (i := 223) (by decide +kernel) rfl
theorem k4_224 : (Jvm.Cond.classLink "SalaryCapLedger" (249 : Nat) "java/util/NoSuchElementException") ∈ q_big := q_inbig q_sub4 (i := 224) (by decide +kernel) rfl
theorem k4_225 : (Jvm.Cond.instantiable "java/util/NoSuchElementException" (6 : Nat)) ∈ q_big := q_inbig q_sub4 (i := 225) (by decide +kernel) rfl
theorem k4_227 : (Jvm.Cond.selects "java/util/NoSuchElementException" ({ cls := "java/lang/Throwable", name := "fillInStackTrace", desc := "(I)Ljava/lang/Throwable;" } : Jvm.MethodName) ({ cls := "java/lang/Throwable", name := "fillInStackTrace", desc := "(I)Ljava/lang/Throwable;" } : Jvm.MethodName)) ∈ q_big := q_inbig q_sub4 (i := 227) (by decide +kernel) rfl
theorem k4_228 : (Jvm.Cond.lays "java/util/NoSuchElementException" "java/lang/Throwable" "cause" "Ljava/lang/Throwable;") ∈ q_big := q_inbig q_sub4 (i := 228) (by decide +kernel) rfl
theorem k4_229 : (Jvm.Cond.lays "java/util/NoSuchElementException" "java/lang/Throwable" "stackTrace" "[Ljava/lang/StackTraceElement;") ∈ q_big := q_inbig q_sub4 (i := 229) (by decide +kernel) rfl
theorem k4_230 : (Jvm.Cond.lays "java/util/NoSuchElementException" "java/lang/Throwable" "suppressedExceptions" "Ljava/util/List;") ∈ q_big := q_inbig q_sub4 (i := 230) (by decide +kernel) rfl
theorem k4_231 : (Jvm.Cond.lays "java/util/NoSuchElementException" "java/lang/Throwable" "detailMessage" "Ljava/lang/String;") ∈ q_big := q_inbig q_sub4 (i := 231) (by decide +kernel) rfl
theorem k4_232 : (Jvm.Cond.lays "java/util/NoSuchElementException" "java/lang/Throwable" "backtrace" "Ljava/lang/Object;") ∈ q_big := q_inbig q_sub4 (i := 232) (by decide +kernel) rfl
theorem k4_234 : (Jvm.Cond.methodLink "SalaryCapLedger" (253 : Nat) ({ cls := "java/util/NoSuchElementException", name := "<init>", desc := "(Ljava/lang/String;)V" } : Jvm.MethodName)) ∈ q_big := q_inbig q_sub4 (i := 234) (by decide +kernel) rfl
theorem k4_235 : (Jvm.Cond.instanceMethod ({ cls := "java/util/NoSuchElementException", name := "<init>", desc := "(Ljava/lang/String;)V" } : Jvm.MethodName)) ∈ q_big := q_inbig q_sub4 (i := 235) (by decide +kernel) rfl
theorem k4_236 : (Jvm.Cond.code ({ cls := "java/util/NoSuchElementException", name := "<init>", desc := "(Ljava/lang/String;)V" } : Jvm.MethodName) prog_29_method_4_code (2 : Nat) (Option.none : Option Jvm.ClassFile.FieldType)) ∈ q_big := q_inbig q_sub4 (i := 236) (by decide +kernel) rfl
theorem k4_237 : (Jvm.Cond.methodLink "java/util/NoSuchElementException" (13 : Nat) ({ cls := "java/lang/RuntimeException", name := "<init>", desc := "(Ljava/lang/String;)V" } : Jvm.MethodName)) ∈ q_big := q_inbig q_sub4 (i := 237) (by decide +kernel) rfl
theorem k4_238 : (Jvm.Cond.lays "java/util/NoSuchElementException" "java/lang/Throwable" "depth" "I") ∈ q_big := q_inbig q_sub4 (i := 238) (by decide +kernel) rfl
theorem k5_0 : (Jvm.Cond.methodLink "SalaryCapLedgerLaw" (224 : Nat) ({ cls := "SalaryCapLedgerLaw", name := "playerValue", desc := "(LSalaryCapLedger;II[J)I" } : Jvm.MethodName)) ∈ q_big := q_inbig q_sub5 (i := 0) (by decide +kernel) rfl
theorem k5_1 : (Jvm.Cond.static ({ cls := "SalaryCapLedgerLaw", name := "playerValue", desc := "(LSalaryCapLedger;II[J)I" } : Jvm.MethodName)) ∈ q_big := q_inbig q_sub5 (i := 1) (by decide +kernel) rfl
theorem k5_2 : (Jvm.Cond.codeWith ({ cls := "SalaryCapLedgerLaw", name := "playerValue", desc := "(LSalaryCapLedger;II[J)I" } : Jvm.MethodName) method_23_code (5 : Nat) (Option.some Jvm.ClassFile.FieldType.int) [((0 : Nat), (10 : Nat), (13 : Nat), (13 : Nat)), ((0 : Nat), (10 : Nat), (17 : Nat), (19 : Nat))]) ∈ q_big := q_inbig q_sub5 (i := 2) (by decide +kernel) rfl
theorem k5_3 : (Jvm.Cond.methodLink "SalaryCapLedgerLaw" (84 : Nat) ({ cls := "SalaryCapLedger", name := "playerValue", desc := "(II)I" } : Jvm.MethodName)) ∈ q_big := q_inbig q_sub5 (i := 3) (by decide +kernel) rfl
theorem k5_4 : (Jvm.Cond.instanceMethod ({ cls := "SalaryCapLedger", name := "playerValue", desc := "(II)I" } : Jvm.MethodName)) ∈ q_big := q_inbig q_sub5 (i := 4) (by decide +kernel) rfl
theorem k5_5 : (Jvm.Cond.selects "SalaryCapLedger" ({ cls := "SalaryCapLedger", name := "playerValue", desc := "(II)I" } : Jvm.MethodName) ({ cls := "SalaryCapLedger", name := "playerValue", desc := "(II)I" } : Jvm.MethodName)) ∈ q_big := q_inbig q_sub5 (i := 5) (by decide +kernel) rfl
theorem k5_6 : (Jvm.Cond.code ({ cls := "SalaryCapLedger", name := "playerValue", desc := "(II)I" } : Jvm.MethodName) prog_1_method_29_code (4 : Nat) (Option.some Jvm.ClassFile.FieldType.int)) ∈ q_big := q_inbig q_sub5 (i := 6) (by decide +kernel) rfl
theorem k5_7 : (Jvm.Cond.methodLink "SalaryCapLedger" (271 : Nat) ({ cls := "SalaryCapLedger", name := "contractValue", desc := "(LSalaryCapLedger$Player;I)I" } : Jvm.MethodName)) ∈ q_big := q_inbig q_sub5 (i := 7) (by decide +kernel) rfl
theorem k5_9 : (Jvm.Cond.instanceMethod ({ cls := "SalaryCapLedger", name := "contractValue", desc := "(LSalaryCapLedger$Player;I)I" } : Jvm.MethodName)) ∈ q_big := q_inbig q_sub5 (i := 9) (by decide +kernel) rfl
theorem k5_10 : (Jvm.Cond.code ({ cls := "SalaryCapLedger", name := "contractValue", desc := "(LSalaryCapLedger$Player;I)I" } : Jvm.MethodName) prog_1_method_30_code (4 : Nat) (Option.some Jvm.ClassFile.FieldType.int)) ∈ q_big := q_inbig q_sub5 (i := 10) (by decide +kernel) rfl
theorem k5_11 : (Jvm.Cond.methodLink "SalaryCapLedger" (281 : Nat) ({ cls := "SalaryCapLedger$Deal", name := "sharesFrom", desc := "(I)I" } : Jvm.MethodName)) ∈ q_big := q_inbig q_sub5 (i := 11) (by decide +kernel) rfl
theorem k5_12 : (Jvm.Cond.methodLink "SalaryCapLedgerLaw" (227 : Nat) ({ cls := "SalaryCapLedgerLaw", name := "salary", desc := "(LSalaryCapLedger;II[J)I" } : Jvm.MethodName)) ∈ q_big := q_inbig q_sub5 (i := 12) (by decide +kernel) rfl
theorem k5_13 : (Jvm.Cond.static ({ cls := "SalaryCapLedgerLaw", name := "salary", desc := "(LSalaryCapLedger;II[J)I" } : Jvm.MethodName)) ∈ q_big := q_inbig q_sub5 (i := 13) (by decide +kernel) rfl
theorem k5_14 : (Jvm.Cond.codeWith ({ cls := "SalaryCapLedgerLaw", name := "salary", desc := "(LSalaryCapLedger;II[J)I" } : Jvm.MethodName) method_24_code (5 : Nat) (Option.some Jvm.ClassFile.FieldType.int) [((0 : Nat), (10 : Nat), (13 : Nat), (13 : Nat)), ((0 : Nat), (10 : Nat), (17 : Nat), (19 : Nat))]) ∈ q_big := q_inbig q_sub5 (i := 14) (by decide +kernel) rfl
theorem k5_15 : (Jvm.Cond.methodLink "SalaryCapLedgerLaw" (87 : Nat) ({ cls := "SalaryCapLedger", name := "salary", desc := "(II)I" } : Jvm.MethodName)) ∈ q_big := q_inbig q_sub5 (i := 15) (by decide +kernel) rfl
theorem k5_16 : (Jvm.Cond.instanceMethod ({ cls := "SalaryCapLedger", name := "salary", desc := "(II)I" } : Jvm.MethodName)) ∈ q_big := q_inbig q_sub5 (i := 16) (by decide +kernel) rfl
theorem k5_17 : (Jvm.Cond.selects "SalaryCapLedger" ({ cls := "SalaryCapLedger", name := "salary", desc := "(II)I" } : Jvm.MethodName) ({ cls := "SalaryCapLedger", name := "salary", desc := "(II)I" } : Jvm.MethodName)) ∈ q_big := q_inbig q_sub5 (i := 17) (by decide +kernel) rfl
theorem k5_18 : (Jvm.Cond.code ({ cls := "SalaryCapLedger", name := "salary", desc := "(II)I" } : Jvm.MethodName) prog_1_method_31_code (3 : Nat) (Option.some Jvm.ClassFile.FieldType.int)) ∈ q_big := q_inbig q_sub5 (i := 18) (by decide +kernel) rfl
theorem k5_19 : (Jvm.Cond.methodLink "SalaryCapLedger" (284 : Nat) ({ cls := "SalaryCapLedger$Player", name := "salaryIn", desc := "(I)I" } : Jvm.MethodName)) ∈ q_big := q_inbig q_sub5 (i := 19) (by decide +kernel) rfl
theorem k5_20 : (Jvm.Cond.methodLink "SalaryCapLedgerLaw" (230 : Nat) ({ cls := "SalaryCapLedgerLaw", name := "share", desc := "(LSalaryCapLedger;II[J)I" } : Jvm.MethodName)) ∈ q_big := q_inbig q_sub5 (i := 20) (by decide +kernel) rfl
theorem k5_21 : (Jvm.Cond.static ({ cls := "SalaryCapLedgerLaw", name := "share", desc := "(LSalaryCapLedger;II[J)I" } : Jvm.MethodName)) ∈ q_big := q_inbig q_sub5 (i := 21) (by decide +kernel) rfl
theorem k5_22 : (Jvm.Cond.codeWith ({ cls := "SalaryCapLedgerLaw", name := "share", desc := "(LSalaryCapLedger;II[J)I" } : Jvm.MethodName) method_25_code (5 : Nat) (Option.some Jvm.ClassFile.FieldType.int) [((0 : Nat), (10 : Nat), (13 : Nat), (13 : Nat)), ((0 : Nat), (10 : Nat), (17 : Nat), (19 : Nat))]) ∈ q_big := q_inbig q_sub5 (i := 22) (by decide +kernel) rfl
theorem k5_23 : (Jvm.Cond.methodLink "SalaryCapLedgerLaw" (90 : Nat) ({ cls := "SalaryCapLedger", name := "share", desc := "(II)I" } : Jvm.MethodName)) ∈ q_big := q_inbig q_sub5 (i := 23) (by decide +kernel) rfl
theorem k5_24 : (Jvm.Cond.instanceMethod ({ cls := "SalaryCapLedger", name := "share", desc := "(II)I" } : Jvm.MethodName)) ∈ q_big := q_inbig q_sub5 (i := 24) (by decide +kernel) rfl
theorem k5_25 : (Jvm.Cond.selects "SalaryCapLedger" ({ cls := "SalaryCapLedger", name := "share", desc := "(II)I" } : Jvm.MethodName) ({ cls := "SalaryCapLedger", name := "share", desc := "(II)I" } : Jvm.MethodName)) ∈ q_big := q_inbig q_sub5 (i := 25) (by decide +kernel) rfl
theorem k5_26 : (Jvm.Cond.code ({ cls := "SalaryCapLedger", name := "share", desc := "(II)I" } : Jvm.MethodName) prog_1_method_32_code (3 : Nat) (Option.some Jvm.ClassFile.FieldType.int)) ∈ q_big := q_inbig q_sub5 (i := 26) (by decide +kernel) rfl
theorem k5_27 : (Jvm.Cond.methodLink "SalaryCapLedger" (287 : Nat) ({ cls := "SalaryCapLedger$Player", name := "shareIn", desc := "(I)I" } : Jvm.MethodName)) ∈ q_big := q_inbig q_sub5 (i := 27) (by decide +kernel) rfl
theorem k5_28 : (Jvm.Cond.instanceMethod ({ cls := "SalaryCapLedger$Player", name := "shareIn", desc := "(I)I" } : Jvm.MethodName)) ∈ q_big := q_inbig q_sub5 (i := 28) (by decide +kernel) rfl
theorem k5_29 : (Jvm.Cond.selects "SalaryCapLedger$Player" ({ cls := "SalaryCapLedger$Player", name := "shareIn", desc := "(I)I" } : Jvm.MethodName) ({ cls := "SalaryCapLedger$Player", name := "shareIn", desc := "(I)I" } : Jvm.MethodName)) ∈ q_big := q_inbig q_sub5 (i := 29) (by decide +kernel) rfl
theorem k5_30 : (Jvm.Cond.code ({ cls := "SalaryCapLedger$Player", name := "shareIn", desc := "(I)I" } : Jvm.MethodName) prog_5_method_8_code (2 : Nat) (Option.some Jvm.ClassFile.FieldType.int)) ∈ q_big := q_inbig q_sub5 (i := 30) (by decide +kernel) rfl
theorem k5_31 : (Jvm.Cond.methodLink "SalaryCapLedgerLaw" (233 : Nat) ({ cls := "SalaryCapLedgerLaw", name := "playerRank", desc := "(LSalaryCapLedger;I[J)I" } : Jvm.MethodName)) ∈ q_big := q_inbig q_sub5 (i := 31) (by decide +kernel) rfl
theorem k5_32 : (Jvm.Cond.static ({ cls := "SalaryCapLedgerLaw", name := "playerRank", desc := "(LSalaryCapLedger;I[J)I" } : Jvm.MethodName)) ∈ q_big := q_inbig q_sub5 (i := 32) (by decide +kernel) rfl
theorem k5_33 : (Jvm.Cond.codeWith ({ cls := "SalaryCapLedgerLaw", name := "playerRank", desc := "(LSalaryCapLedger;I[J)I" } : Jvm.MethodName) method_26_code (4 : Nat) (Option.some Jvm.ClassFile.FieldType.int) [((0 : Nat), (9 : Nat), (12 : Nat), (13 : Nat)), ((0 : Nat), (9 : Nat), (15 : Nat), (19 : Nat)), ((0 : Nat), (9 : Nat), (18 : Nat), (82 : Nat))]) ∈ q_big := q_inbig q_sub5 (i := 33) (by decide +kernel) rfl
theorem k5_34 : (Jvm.Cond.methodLink "SalaryCapLedgerLaw" (93 : Nat) ({ cls := "SalaryCapLedger", name := "playerRank", desc := "(I)I" } : Jvm.MethodName)) ∈ q_big := q_inbig q_sub5 (i := 34) (by decide +kernel) rfl
theorem k5_35 : (Jvm.Cond.instanceMethod ({ cls := "SalaryCapLedger", name := "playerRank", desc := "(I)I" } : Jvm.MethodName)) ∈ q_big := q_inbig q_sub5 (i := 35) (by decide +kernel) rfl
theorem k5_36 : (Jvm.Cond.selects "SalaryCapLedger" ({ cls := "SalaryCapLedger", name := "playerRank", desc := "(I)I" } : Jvm.MethodName) ({ cls := "SalaryCapLedger", name := "playerRank", desc := "(I)I" } : Jvm.MethodName)) ∈ q_big := q_inbig q_sub5 (i := 36) (by decide +kernel) rfl
theorem k5_37 : (Jvm.Cond.code ({ cls := "SalaryCapLedger", name := "playerRank", desc := "(I)I" } : Jvm.MethodName) prog_1_method_33_code (3 : Nat) (Option.some Jvm.ClassFile.FieldType.int)) ∈ q_big := q_inbig q_sub5 (i := 37) (by decide +kernel) rfl
theorem k5_38 : (Jvm.Cond.methodLink "SalaryCapLedger" (293 : Nat) ({ cls := "SalaryCapLedger", name := "playersBefore", desc := "(I)I" } : Jvm.MethodName)) ∈ q_big := q_inbig q_sub5 (i := 38) (by decide +kernel) rfl
theorem k5_40 : (Jvm.Cond.instanceMethod ({ cls := "SalaryCapLedger", name := "playersBefore", desc := "(I)I" } : Jvm.MethodName)) ∈ q_big := q_inbig q_sub5 (i := 40) (by decide +kernel) rfl
theorem k5_41 : (Jvm.Cond.code ({ cls := "SalaryCapLedger", name := "playersBefore", desc := "(I)I" } : Jvm.MethodName) prog_1_method_34_code (7 : Nat) (Option.some Jvm.ClassFile.FieldType.int)) ∈ q_big := q_inbig q_sub5 (i := 41) (by decide +kernel) rfl
theorem k5_42 : (Jvm.Cond.methodLink "SalaryCapLedger" (298 : Nat) ({ cls := "SalaryCapLedger$Player", name := "costIn", desc := "(I)I" } : Jvm.MethodName)) ∈ q_big := q_inbig q_sub5 (i := 42) (by decide +kernel) rfl
theorem k5_44 : (Jvm.Cond.methodLink "SalaryCapLedgerLaw" (236 : Nat) ({ cls := "SalaryCapLedgerLaw", name := "meanSalary", desc := "(LSalaryCapLedger;I[D)I" } : Jvm.MethodName)) ∈ q_big := q_inbig q_sub5 (i := 44) (by decide +kernel) rfl
theorem k5_45 : (Jvm.Cond.static ({ cls := "SalaryCapLedgerLaw", name := "meanSalary", desc := "(LSalaryCapLedger;I[D)I" } : Jvm.MethodName)) ∈ q_big := q_inbig q_sub5 (i := 45) (by decide +kernel) rfl
theorem k5_46 : (Jvm.Cond.codeWith ({ cls := "SalaryCapLedgerLaw", name := "meanSalary", desc := "(LSalaryCapLedger;I[D)I" } : Jvm.MethodName) method_27_code (4 : Nat) (Option.some Jvm.ClassFile.FieldType.int) [((0 : Nat), (8 : Nat), (11 : Nat), (13 : Nat)), ((0 : Nat), (8 : Nat), (14 : Nat), (19 : Nat)), ((0 : Nat), (8 : Nat), (17 : Nat), (100 : Nat))]) ∈ q_big := q_inbig q_sub5 (i := 46) (by decide +kernel) rfl
theorem k5_47 : (Jvm.Cond.classLink "SalaryCapLedgerLaw" (100 : Nat) "java/lang/ArithmeticException") ∈ q_big := q_inbig q_sub5 (i := 47) (by decide +kernel) rfl
theorem k5_48 : (Jvm.Cond.instantiable "java/lang/ArithmeticException" (6 : Nat)) ∈ q_big := q_inbig q_sub5 (i := 48) (by decide +kernel) rfl
theorem k5_49 : (Jvm.Cond.instanceMethod ({ cls := "java/lang/ArithmeticException", name := "<init>", desc := "(Ljava/lang/String;)V" } : Jvm.MethodName)) ∈ q_big := q_inbig q_sub5 (i := 49) (by decide +kernel) rfl
theorem k5_50 : (Jvm.Cond.code ({ cls := "java/lang/ArithmeticException", name := "<init>", desc := "(Ljava/lang/String;)V" } : Jvm.MethodName) prog_13_method_2_code (2 : Nat) (Option.none : Option Jvm.ClassFile.FieldType)) ∈ q_big := q_inbig q_sub5 (i := 50) (by decide +kernel) rfl
theorem k5_51 : (Jvm.Cond.methodLink "java/lang/ArithmeticException" (7 : Nat) ({ cls := "java/lang/RuntimeException", name := "<init>", desc := "(Ljava/lang/String;)V" } : Jvm.MethodName)) ∈ q_big := q_inbig q_sub5 (i := 51) (by decide +kernel) rfl
theorem k5_52 : (Jvm.Cond.lays "java/lang/ArithmeticException" "java/lang/Throwable" "backtrace" "Ljava/lang/Object;") ∈ q_big := q_inbig q_sub5 (i := 52) (by decide +kernel) rfl
theorem k5_53 : (Jvm.Cond.lays "java/lang/ArithmeticException" "java/lang/Throwable" "detailMessage" "Ljava/lang/String;") ∈ q_big := q_inbig q_sub5 (i := 53) (by decide +kernel) rfl
theorem k5_54 : (Jvm.Cond.lays "java/lang/ArithmeticException" "java/lang/Throwable" "cause" "Ljava/lang/Throwable;") ∈ q_big := q_inbig q_sub5 (i := 54) (by decide +kernel) rfl
theorem k5_55 : (Jvm.Cond.lays "java/lang/ArithmeticException" "java/lang/Throwable" "stackTrace" "[Ljava/lang/StackTraceElement;") ∈ q_big := q_inbig q_sub5 (i := 55) (by decide +kernel) rfl
theorem k5_56 : (Jvm.Cond.lays "java/lang/ArithmeticException" "java/lang/Throwable" "depth" "I") ∈ q_big := q_inbig q_sub5 (i := 56) (by decide +kernel) rfl
theorem k5_57 : (Jvm.Cond.lays "java/lang/ArithmeticException" "java/lang/Throwable" "suppressedExceptions" "Ljava/util/List;") ∈ q_big := q_inbig q_sub5 (i := 57) (by decide +kernel) rfl
theorem k5_60 : (Jvm.Cond.selects "java/lang/ArithmeticException" ({ cls := "java/lang/Throwable", name := "fillInStackTrace", desc := "(I)Ljava/lang/Throwable;" } : Jvm.MethodName) ({ cls := "java/lang/Throwable", name := "fillInStackTrace", desc := "(I)Ljava/lang/Throwable;" } : Jvm.MethodName)) ∈ q_big := q_inbig q_sub5 (i := 60) (by decide +kernel) rfl
theorem k5_61 : (Jvm.Cond.instantiable "java/lang/String" (4 : Nat)) ∈ q_big := q_inbig q_sub5 (i := 61) (by decide +kernel) rfl
theorem k5_62 : (Jvm.Cond.laysFinal "java/lang/String" "java/lang/String" "value" "[B") ∈ q_big := q_inbig q_sub5 (i := 62) (by decide +kernel) rfl
theorem k5_64 : (Jvm.Cond.laysFinal "java/lang/String" "java/lang/String" "coder" "B") ∈ q_big := q_inbig q_sub5 (i := 64) (by decide +kernel) rfl
theorem k5_66 : (Jvm.Cond.methodLink "SalaryCapLedgerLaw" (96 : Nat) ({ cls := "SalaryCapLedger", name := "meanSalary", desc := "(I)D" } : Jvm.MethodName)) ∈ q_big := q_inbig q_sub5 (i := 66) (by decide +kernel) rfl
theorem k5_67 : (Jvm.Cond.instanceMethod ({ cls := "SalaryCapLedger", name := "meanSalary", desc := "(I)D" } : Jvm.MethodName)) ∈ q_big := q_inbig q_sub5 (i := 67) (by decide +kernel) rfl
theorem k5_68 : (Jvm.Cond.selects "SalaryCapLedger" ({ cls := "SalaryCapLedger", name := "meanSalary", desc := "(I)D" } : Jvm.MethodName) ({ cls := "SalaryCapLedger", name := "meanSalary", desc := "(I)D" } : Jvm.MethodName)) ∈ q_big := q_inbig q_sub5 (i := 68) (by decide +kernel) rfl
theorem k5_69 : (Jvm.Cond.code ({ cls := "SalaryCapLedger", name := "meanSalary", desc := "(I)D" } : Jvm.MethodName) prog_1_method_35_code (4 : Nat) (Option.some Jvm.ClassFile.FieldType.double)) ∈ q_big := q_inbig q_sub5 (i := 69) (by decide +kernel) rfl
theorem k5_70 : (Jvm.Cond.classLink "SalaryCapLedger" (301 : Nat) "java/lang/ArithmeticException") ∈ q_big := q_inbig q_sub5 (i := 70) (by decide +kernel) rfl
theorem k5_72 : (Jvm.Cond.methodLink "SalaryCapLedger" (305 : Nat) ({ cls := "java/lang/ArithmeticException", name := "<init>", desc := "(Ljava/lang/String;)V" } : Jvm.MethodName)) ∈ q_big := q_inbig q_sub5 (i := 72) (by decide +kernel) rfl
theorem k5_73 : (Jvm.Cond.methodLink "SalaryCapLedgerLaw" (240 : Nat) ({ cls := "SalaryCapLedgerLaw", name := "signCode", desc := "(LSalaryCapLedger;III[J)I" } : Jvm.MethodName)) ∈ q_big := q_inbig q_sub5 (i := 73) (by decide +kernel) rfl
theorem k5_74 : (Jvm.Cond.static ({ cls := "SalaryCapLedgerLaw", name := "signCode", desc := "(LSalaryCapLedger;III[J)I" } : Jvm.MethodName)) ∈ q_big := q_inbig q_sub5 (i := 74) (by decide +kernel) rfl
theorem k5_75 : (Jvm.Cond.codeWith ({ cls := "SalaryCapLedgerLaw", name := "signCode", desc := "(LSalaryCapLedger;III[J)I" } : Jvm.MethodName) method_28_code (6 : Nat) (Option.some Jvm.ClassFile.FieldType.int) [((0 : Nat), (12 : Nat), (15 : Nat), (13 : Nat)), ((0 : Nat), (12 : Nat), (19 : Nat), (19 : Nat))]) ∈ q_big := q_inbig q_sub5 (i := 75) (by decide +kernel) rfl
theorem k5_76 : (Jvm.Cond.methodLink "SalaryCapLedgerLaw" (102 : Nat) ({ cls := "SalaryCapLedger", name := "signCode", desc := "(III)I" } : Jvm.MethodName)) ∈ q_big := q_inbig q_sub5 (i := 76) (by decide +kernel) rfl
theorem k5_77 : (Jvm.Cond.instanceMethod ({ cls := "SalaryCapLedger", name := "signCode", desc := "(III)I" } : Jvm.MethodName)) ∈ q_big := q_inbig q_sub5 (i := 77) (by decide +kernel) rfl
theorem k5_78 : (Jvm.Cond.selects "SalaryCapLedger" ({ cls := "SalaryCapLedger", name := "signCode", desc := "(III)I" } : Jvm.MethodName) ({ cls := "SalaryCapLedger", name := "signCode", desc := "(III)I" } : Jvm.MethodName)) ∈ q_big := q_inbig q_sub5 (i := 78) (by decide +kernel) rfl
theorem k5_79 : (Jvm.Cond.code ({ cls := "SalaryCapLedger", name := "signCode", desc := "(III)I" } : Jvm.MethodName) prog_1_method_36_code (4 : Nat) (Option.some Jvm.ClassFile.FieldType.int)) ∈ q_big := q_inbig q_sub5 (i := 79) (by decide +kernel) rfl
theorem k5_80 : (Jvm.Cond.methodLink "SalaryCapLedgerLaw" (243 : Nat) ({ cls := "SalaryCapLedgerLaw", name := "bestRule", desc := "(LSalaryCapLedger;II[J)I" } : Jvm.MethodName)) ∈ q_big := q_inbig q_sub5 (i := 80) (by decide +kernel) rfl
theorem k5_81 : (Jvm.Cond.static ({ cls := "SalaryCapLedgerLaw", name := "bestRule", desc := "(LSalaryCapLedger;II[J)I" } : Jvm.MethodName)) ∈ q_big := q_inbig q_sub5 (i := 81) (by decide +kernel) rfl
theorem k5_82 : (Jvm.Cond.codeWith ({ cls := "SalaryCapLedgerLaw", name := "bestRule", desc := "(LSalaryCapLedger;II[J)I" } : Jvm.MethodName) method_29_code (5 : Nat) (Option.some Jvm.ClassFile.FieldType.int) [((0 : Nat), (10 : Nat), (13 : Nat), (13 : Nat)), ((0 : Nat), (10 : Nat), (17 : Nat), (19 : Nat))]) ∈ q_big := q_inbig q_sub5 (i := 82) (by decide +kernel) rfl
theorem k5_83 : (Jvm.Cond.methodLink "SalaryCapLedgerLaw" (105 : Nat) ({ cls := "SalaryCapLedger", name := "bestRule", desc := "(II)I" } : Jvm.MethodName)) ∈ q_big := q_inbig q_sub5 (i := 83) (by decide +kernel) rfl
theorem k5_84 : (Jvm.Cond.instanceMethod ({ cls := "SalaryCapLedger", name := "bestRule", desc := "(II)I" } : Jvm.MethodName)) ∈ q_big := q_inbig q_sub5 (i := 84) (by decide +kernel) rfl
theorem k5_85 : (Jvm.Cond.selects "SalaryCapLedger" ({ cls := "SalaryCapLedger", name := "bestRule", desc := "(II)I" } : Jvm.MethodName) ({ cls := "SalaryCapLedger", name := "bestRule", desc := "(II)I" } : Jvm.MethodName)) ∈ q_big := q_inbig q_sub5 (i := 85) (by decide +kernel) rfl
theorem k5_86 : (Jvm.Cond.code ({ cls := "SalaryCapLedger", name := "bestRule", desc := "(II)I" } : Jvm.MethodName) prog_1_method_37_code (4 : Nat) (Option.some Jvm.ClassFile.FieldType.int)) ∈ q_big := q_inbig q_sub5 (i := 86) (by decide +kernel) rfl
theorem k5_87 : (Jvm.Cond.methodLink "SalaryCapLedgerLaw" (246 : Nat) ({ cls := "SalaryCapLedgerLaw", name := "greatestBase", desc := "(LSalaryCapLedger;III[J)I" } : Jvm.MethodName)) ∈ q_big := q_inbig q_sub5 (i := 87) (by decide +kernel) rfl
theorem k5_88 : (Jvm.Cond.static ({ cls := "SalaryCapLedgerLaw", name := "greatestBase", desc := "(LSalaryCapLedger;III[J)I" } : Jvm.MethodName)) ∈ q_big := q_inbig q_sub5 (i := 88) (by decide +kernel) rfl
theorem k5_89 : (Jvm.Cond.codeWith ({ cls := "SalaryCapLedgerLaw", name := "greatestBase", desc := "(LSalaryCapLedger;III[J)I" } : Jvm.MethodName) method_30_code (6 : Nat) (Option.some Jvm.ClassFile.FieldType.int) [((0 : Nat), (12 : Nat), (15 : Nat), (13 : Nat)), ((0 : Nat), (12 : Nat), (19 : Nat), (19 : Nat))]) ∈ q_big := q_inbig q_sub5 (i := 89) (by decide +kernel) rfl
theorem k5_90 : (Jvm.Cond.methodLink "SalaryCapLedgerLaw" (108 : Nat) ({ cls := "SalaryCapLedger", name := "greatestBase", desc := "(III)I" } : Jvm.MethodName)) ∈ q_big := q_inbig q_sub5 (i := 90) (by decide +kernel) rfl
theorem k5_91 : (Jvm.Cond.instanceMethod ({ cls := "SalaryCapLedger", name := "greatestBase", desc := "(III)I" } : Jvm.MethodName)) ∈ q_big := q_inbig q_sub5 (i := 91) (by decide +kernel) rfl
theorem k5_92 : (Jvm.Cond.selects "SalaryCapLedger" ({ cls := "SalaryCapLedger", name := "greatestBase", desc := "(III)I" } : Jvm.MethodName) ({ cls := "SalaryCapLedger", name := "greatestBase", desc := "(III)I" } : Jvm.MethodName)) ∈ q_big := q_inbig q_sub5 (i := 92) (by decide +kernel) rfl
theorem k5_93 : (Jvm.Cond.code ({ cls := "SalaryCapLedger", name := "greatestBase", desc := "(III)I" } : Jvm.MethodName) prog_1_method_38_code (5 : Nat) (Option.some Jvm.ClassFile.FieldType.int)) ∈ q_big := q_inbig q_sub5 (i := 93) (by decide +kernel) rfl
theorem k5_94 : (Jvm.Cond.methodLink "SalaryCapLedger" (315 : Nat) ({ cls := "java/lang/Math", name := "min", desc := "(II)I" } : Jvm.MethodName)) ∈ q_big := q_inbig q_sub5 (i := 94) (by decide +kernel) rfl
theorem k5_95 : (Jvm.Cond.methodLink "SalaryCapLedgerLaw" (249 : Nat) ({ cls := "SalaryCapLedgerLaw", name := "releaseCost", desc := "(LSalaryCapLedger;IZI[J)I" } : Jvm.MethodName)) ∈ q_big := q_inbig q_sub5 (i := 95) (by decide +kernel) rfl
theorem k5_96 : (Jvm.Cond.static ({ cls := "SalaryCapLedgerLaw", name := "releaseCost", desc := "(LSalaryCapLedger;IZI[J)I" } : Jvm.MethodName)) ∈ q_big := q_inbig q_sub5 (i := 96) (by decide +kernel) rfl
theorem k5_97 : (Jvm.Cond.codeWith ({ cls := "SalaryCapLedgerLaw", name := "releaseCost", desc := "(LSalaryCapLedger;IZI[J)I" } : Jvm.MethodName) method_31_code (6 : Nat) (Option.some Jvm.ClassFile.FieldType.int) [((0 : Nat), (12 : Nat), (15 : Nat), (13 : Nat)), ((0 : Nat), (12 : Nat), (19 : Nat), (19 : Nat))]) ∈ q_big := q_inbig q_sub5 (i := 97) (by decide +kernel) rfl
theorem k5_98 : (Jvm.Cond.methodLink "SalaryCapLedgerLaw" (111 : Nat) ({ cls := "SalaryCapLedger", name := "releaseCost", desc := "(IZI)I" } : Jvm.MethodName)) ∈ q_big := q_inbig q_sub5 (i := 98) (by decide +kernel) rfl
theorem k5_99 : (Jvm.Cond.instanceMethod ({ cls := "SalaryCapLedger", name := "releaseCost", desc := "(IZI)I" } : Jvm.MethodName)) ∈ q_big := q_inbig q_sub5 (i := 99) (by decide +kernel) rfl
theorem k5_100 : (Jvm.Cond.selects "SalaryCapLedger" ({ cls := "SalaryCapLedger", name := "releaseCost", desc := "(IZI)I" } : Jvm.MethodName) ({ cls := "SalaryCapLedger", name := "releaseCost", desc := "(IZI)I" } : Jvm.MethodName)) ∈ q_big := q_inbig q_sub5 (i := 100) (by decide +kernel) rfl
theorem k5_101 : (Jvm.Cond.code ({ cls := "SalaryCapLedger", name := "releaseCost", desc := "(IZI)I" } : Jvm.MethodName) prog_1_method_42_code (5 : Nat) (Option.some Jvm.ClassFile.FieldType.int)) ∈ q_big := q_inbig q_sub5 (i := 101) (by decide +kernel) rfl
theorem k5_102 : (Jvm.Cond.methodLink "SalaryCapLedger" (323 : Nat) ({ cls := "SalaryCapLedger$Player", name := "releaseCostAhead", desc := "(IZI)I" } : Jvm.MethodName)) ∈ q_big := q_inbig q_sub5 (i := 102) (by decide +kernel) rfl
theorem k5_103 : (Jvm.Cond.methodLink "SalaryCapLedgerLaw" (253 : Nat) ({ cls := "SalaryCapLedgerLaw", name := "releaseGain", desc := "(LSalaryCapLedger;IZ[J)I" } : Jvm.MethodName)) ∈ q_big := q_inbig q_sub5 (i := 103) (by decide +kernel) rfl
theorem k5_104 : (Jvm.Cond.static ({ cls := "SalaryCapLedgerLaw", name := "releaseGain", desc := "(LSalaryCapLedger;IZ[J)I" } : Jvm.MethodName)) ∈ q_big := q_inbig q_sub5 (i := 104) (by decide +kernel) rfl
theorem k5_105 : (Jvm.Cond.codeWith ({ cls := "SalaryCapLedgerLaw", name := "releaseGain", desc := "(LSalaryCapLedger;IZ[J)I" } : Jvm.MethodName) method_32_code (5 : Nat) (Option.some Jvm.ClassFile.FieldType.int) [((0 : Nat), (10 : Nat), (13 : Nat), (13 : Nat)), ((0 : Nat), (10 : Nat), (17 : Nat), (19 : Nat))]) ∈ q_big := q_inbig q_sub5 (i := 105) (by decide +kernel) rfl
theorem k5_106 : (Jvm.Cond.methodLink "SalaryCapLedgerLaw" (115 : Nat) ({ cls := "SalaryCapLedger", name := "releaseGain", desc := "(IZ)I" } : Jvm.MethodName)) ∈ q_big := q_inbig q_sub5 (i := 106) (by decide +kernel) rfl
theorem k5_107 : (Jvm.Cond.instanceMethod ({ cls := "SalaryCapLedger", name := "releaseGain", desc := "(IZ)I" } : Jvm.MethodName)) ∈ q_big := q_inbig q_sub5 (i := 107) (by decide +kernel) rfl
theorem k5_108 : (Jvm.Cond.selects "SalaryCapLedger" ({ cls := "SalaryCapLedger", name := "releaseGain", desc := "(IZ)I" } : Jvm.MethodName) ({ cls := "SalaryCapLedger", name := "releaseGain", desc := "(IZ)I" } : Jvm.MethodName)) ∈ q_big := q_inbig q_sub5 (i := 108) (by decide +kernel) rfl
theorem k5_109 : (Jvm.Cond.code ({ cls := "SalaryCapLedger", name := "releaseGain", desc := "(IZ)I" } : Jvm.MethodName) prog_1_method_43_code (4 : Nat) (Option.some Jvm.ClassFile.FieldType.int)) ∈ q_big := q_inbig q_sub5 (i := 109) (by decide +kernel) rfl
theorem k5_110 : (Jvm.Cond.methodLink "SalaryCapLedger" (327 : Nat) ({ cls := "SalaryCapLedger$Player", name := "gainIfReleased", desc := "(IZ)I" } : Jvm.MethodName)) ∈ q_big := q_inbig q_sub5 (i := 110) (by decide +kernel) rfl
theorem k5_111 : (Jvm.Cond.instanceMethod ({ cls := "SalaryCapLedger$Player", name := "gainIfReleased", desc := "(IZ)I" } : Jvm.MethodName)) ∈ q_big := q_inbig q_sub5 (i := 111) (by decide +kernel) rfl
theorem k5_112 : (Jvm.Cond.selects "SalaryCapLedger$Player" ({ cls := "SalaryCapLedger$Player", name := "gainIfReleased", desc := "(IZ)I" } : Jvm.MethodName) ({ cls := "SalaryCapLedger$Player", name := "gainIfReleased", desc := "(IZ)I" } : Jvm.MethodName)) ∈ q_big := q_inbig q_sub5 (i := 112) (by decide +kernel) rfl
theorem k5_113 : (Jvm.Cond.code ({ cls := "SalaryCapLedger$Player", name := "gainIfReleased", desc := "(IZ)I" } : Jvm.MethodName) prog_5_method_13_code (3 : Nat) (Option.some Jvm.ClassFile.FieldType.int)) ∈ q_big := q_inbig q_sub5 (i := 113) (by decide +kernel) rfl
theorem k5_114 : (Jvm.Cond.methodLink "SalaryCapLedger$Player" (62 : Nat) ({ cls := "SalaryCapLedger$Player", name := "costIn", desc := "(I)I" } : Jvm.MethodName)) ∈ q_big := q_inbig q_sub5 (i := 114) (by decide +kernel) rfl
theorem k5_115 : (Jvm.Cond.methodLink "SalaryCapLedger$Player" (65 : Nat) ({ cls := "SalaryCapLedger$Player", name := "releaseCostAhead", desc := "(IZI)I" } : Jvm.MethodName)) ∈ q_big := q_inbig q_sub5 (i := 115) (by decide +kernel) rfl
theorem k5_116 : (Jvm.Cond.methodLink "SalaryCapLedgerLaw" (256 : Nat) ({ cls := "SalaryCapLedgerLaw", name := "fewestReleases", desc := "(LSalaryCapLedger;I[J)I" } : Jvm.MethodName)) ∈ q_big := q_inbig q_sub5 (i := 116) (by decide +kernel) rfl
theorem k5_117 : (Jvm.Cond.static ({ cls := "SalaryCapLedgerLaw", name := "fewestReleases", desc := "(LSalaryCapLedger;I[J)I" } : Jvm.MethodName)) ∈ q_big := q_inbig q_sub5 (i := 117) (by decide +kernel) rfl
theorem k5_118 : (Jvm.Cond.codeWith ({ cls := "SalaryCapLedgerLaw", name := "fewestReleases", desc := "(LSalaryCapLedger;I[J)I" } : Jvm.MethodName) method_33_code (4 : Nat) (Option.some Jvm.ClassFile.FieldType.int) [((0 : Nat), (9 : Nat), (12 : Nat), (13 : Nat)), ((0 : Nat), (9 : Nat), (15 : Nat), (19 : Nat))]) ∈ q_big := q_inbig q_sub5 (i := 118) (by decide +kernel) rfl
theorem k5_119 : (Jvm.Cond.methodLink "SalaryCapLedgerLaw" (118 : Nat) ({ cls := "SalaryCapLedger", name := "fewestReleases", desc := "(I)I" } : Jvm.MethodName)) ∈ q_big := q_inbig q_sub5 (i := 119) (by decide +kernel) rfl
theorem k5_120 : (Jvm.Cond.instanceMethod ({ cls := "SalaryCapLedger", name := "fewestReleases", desc := "(I)I" } : Jvm.MethodName)) ∈ q_big := q_inbig q_sub5 (i := 120) (by decide +kernel) rfl
theorem k5_121 : (Jvm.Cond.selects "SalaryCapLedger" ({ cls := "SalaryCapLedger", name := "fewestReleases", desc := "(I)I" } : Jvm.MethodName) ({ cls := "SalaryCapLedger", name := "fewestReleases", desc := "(I)I" } : Jvm.MethodName)) ∈ q_big := q_inbig q_sub5 (i := 121) (by decide +kernel) rfl
theorem k5_122 : (Jvm.Cond.code ({ cls := "SalaryCapLedger", name := "fewestReleases", desc := "(I)I" } : Jvm.MethodName) prog_1_method_44_code (2 : Nat) (Option.some Jvm.ClassFile.FieldType.int)) ∈ q_big := q_inbig q_sub5 (i := 122) (by decide +kernel) rfl
theorem k5_123 : (Jvm.Cond.methodLink "SalaryCapLedger" (330 : Nat) ({ cls := "SalaryCapLedger$Releases", name := "consider", desc := "(LSalaryCapLedger$Books;I)V" } : Jvm.MethodName)) ∈ q_big := q_inbig q_sub5 (i := 123) (by decide +kernel) rfl
theorem k5_124 : (Jvm.Cond.instanceMethod ({ cls := "SalaryCapLedger$Releases", name := "consider", desc := "(LSalaryCapLedger$Books;I)V" } : Jvm.MethodName)) ∈ q_big := q_inbig q_sub5 (i := 124) (by decide +kernel) rfl
theorem k5_125 : (Jvm.Cond.selects "SalaryCapLedger$Releases" ({ cls := "SalaryCapLedger$Releases", name := "consider", desc := "(LSalaryCapLedger$Books;I)V" } : Jvm.MethodName) ({ cls := "SalaryCapLedger$Releases", name := "consider", desc := "(LSalaryCapLedger$Books;I)V" } : Jvm.MethodName)) ∈ q_big := q_inbig q_sub5 (i := 125) (by decide +kernel) rfl
theorem k5_126 : (Jvm.Cond.code ({ cls := "SalaryCapLedger$Releases", name := "consider", desc := "(LSalaryCapLedger$Books;I)V" } : Jvm.MethodName) prog_7_method_2_code (4 : Nat) (Option.none : Option Jvm.ClassFile.FieldType)) ∈ q_big := q_inbig q_sub5 (i := 126) (by decide +kernel) rfl
theorem k5_127 : (Jvm.Cond.methodLink "SalaryCapLedger$Releases" (25 : Nat) ({ cls := "SalaryCapLedger$Books", name := "playsFor", desc := "(II)Z" } : Jvm.MethodName)) ∈ q_big := q_inbig q_sub5 (i := 127) (by decide +kernel) rfl
theorem k5_128 : (Jvm.Cond.methodLink "SalaryCapLedger$Releases" (38 : Nat) ({ cls := "SalaryCapLedger$Player", name := "gainIfReleased", desc := "(IZ)I" } : Jvm.MethodName)) ∈ q_big := q_inbig q_sub5 (i := 128) (by decide +kernel) rfl
theorem k5_129 : (Jvm.Cond.methodLink "SalaryCapLedger$Releases" (44 : Nat) ({ cls := "SalaryCapLedger$Player", name := "wholeReleaseCost", desc := "(I)I" } : Jvm.MethodName)) ∈ q_big := q_inbig q_sub5 (i := 129) (by decide +kernel) rfl
theorem k5_130 : (Jvm.Cond.instanceMethod ({ cls := "SalaryCapLedger$Player", name := "wholeReleaseCost", desc := "(I)I" } : Jvm.MethodName)) ∈ q_big := q_inbig q_sub5 (i := 130) (by decide +kernel) rfl
theorem k5_131 : (Jvm.Cond.selects "SalaryCapLedger$Player" ({ cls := "SalaryCapLedger$Player", name := "wholeReleaseCost", desc := "(I)I" } : Jvm.MethodName) ({ cls := "SalaryCapLedger$Player", name := "wholeReleaseCost", desc := "(I)I" } : Jvm.MethodName)) ∈ q_big := q_inbig q_sub5 (i := 131) (by decide +kernel) rfl
theorem k5_132 : (Jvm.Cond.code ({ cls := "SalaryCapLedger$Player", name := "wholeReleaseCost", desc := "(I)I" } : Jvm.MethodName) prog_5_method_12_code (2 : Nat) (Option.some Jvm.ClassFile.FieldType.int)) ∈ q_big := q_inbig q_sub5 (i := 132) (by decide +kernel) rfl
theorem k5_133 : (Jvm.Cond.methodLink "SalaryCapLedger$Player" (59 : Nat) ({ cls := "SalaryCapLedger$Deal", name := "guaranteedFrom", desc := "(I)I" } : Jvm.MethodName)) ∈ q_big := q_inbig q_sub5 (i := 133) (by decide +kernel) rfl
theorem k5_134 : (Jvm.Cond.methodLink "SalaryCapLedger" (334 : Nat) ({ cls := "SalaryCapLedger$Releases", name := "fewest", desc := "(I)I" } : Jvm.MethodName)) ∈ q_big := q_inbig q_sub5 (i := 134) (by decide +kernel) rfl
theorem k5_135 : (Jvm.Cond.instanceMethod ({ cls := "SalaryCapLedger$Releases", name := "fewest", desc := "(I)I" } : Jvm.MethodName)) ∈ q_big := q_inbig q_sub5 (i := 135) (by decide +kernel) rfl
theorem k5_136 : (Jvm.Cond.selects "SalaryCapLedger$Releases" ({ cls := "SalaryCapLedger$Releases", name := "fewest", desc := "(I)I" } : Jvm.MethodName) ({ cls := "SalaryCapLedger$Releases", name := "fewest", desc := "(I)I" } : Jvm.MethodName)) ∈ q_big := q_inbig q_sub5 (i := 136) (by decide +kernel) rfl
theorem k5_137 : (Jvm.Cond.code ({ cls := "SalaryCapLedger$Releases", name := "fewest", desc := "(I)I" } : Jvm.MethodName) prog_7_method_3_code (6 : Nat) (Option.some Jvm.ClassFile.FieldType.int)) ∈ q_big := q_inbig q_sub5 (i := 137) (by decide +kernel) rfl
theorem k5_138 : (Jvm.Cond.methodLink "SalaryCapLedger$Releases" (48 : Nat) ({ cls := "SalaryCapLedger$Releases", name := "greatestGain", desc := "(I)I" } : Jvm.MethodName)) ∈ q_big := q_inbig q_sub5 (i := 138) (by decide +kernel) rfl
theorem k5_140 : (Jvm.Cond.instanceMethod ({ cls := "SalaryCapLedger$Releases", name := "greatestGain", desc := "(I)I" } : Jvm.MethodName)) ∈ q_big := q_inbig q_sub5 (i := 140) (by decide +kernel) rfl
theorem k5_141 : (Jvm.Cond.code ({ cls := "SalaryCapLedger$Releases", name := "greatestGain", desc := "(I)I" } : Jvm.MethodName) prog_7_method_4_code (4 : Nat) (Option.some Jvm.ClassFile.FieldType.int)) ∈ q_big := q_inbig q_sub5 (i := 141) (by decide +kernel) rfl
theorem k5_142 : (Jvm.Cond.methodLink "SalaryCapLedgerLaw" (259 : Nat) ({ cls := "SalaryCapLedgerLaw", name := "releaseSet", desc := "(LSalaryCapLedger;I[J)I" } : Jvm.MethodName)) ∈ q_big := q_inbig q_sub5 (i := 142) (by decide +kernel) rfl
theorem k5_143 : (Jvm.Cond.static ({ cls := "SalaryCapLedgerLaw", name := "releaseSet", desc := "(LSalaryCapLedger;I[J)I" } : Jvm.MethodName)) ∈ q_big := q_inbig q_sub5 (i := 143) (by decide +kernel) rfl
theorem k5_144 : (Jvm.Cond.codeWith ({ cls := "SalaryCapLedgerLaw", name := "releaseSet", desc := "(LSalaryCapLedger;I[J)I" } : Jvm.MethodName) method_34_code (4 : Nat) (Option.some Jvm.ClassFile.FieldType.int) [((0 : Nat), (9 : Nat), (12 : Nat), (13 : Nat)), ((0 : Nat), (9 : Nat), (15 : Nat), (19 : Nat))]) ∈ q_big := q_inbig q_sub5 (i := 144) (by decide +kernel) rfl
theorem k5_145 : (Jvm.Cond.methodLink "SalaryCapLedgerLaw" (121 : Nat) ({ cls := "SalaryCapLedger", name := "releaseSet", desc := "(I)I" } : Jvm.MethodName)) ∈ q_big := q_inbig q_sub5 (i := 145) (by decide +kernel) rfl
theorem k5_146 : (Jvm.Cond.instanceMethod ({ cls := "SalaryCapLedger", name := "releaseSet", desc := "(I)I" } : Jvm.MethodName)) ∈ q_big := q_inbig q_sub5 (i := 146) (by decide +kernel) rfl
theorem k5_147 : (Jvm.Cond.selects "SalaryCapLedger" ({ cls := "SalaryCapLedger", name := "releaseSet", desc := "(I)I" } : Jvm.MethodName) ({ cls := "SalaryCapLedger", name := "releaseSet", desc := "(I)I" } : Jvm.MethodName)) ∈ q_big := q_inbig q_sub5 (i := 147) (by decide +kernel) rfl
theorem k5_148 : (Jvm.Cond.code ({ cls := "SalaryCapLedger", name := "releaseSet", desc := "(I)I" } : Jvm.MethodName) prog_1_method_45_code (2 : Nat) (Option.some Jvm.ClassFile.FieldType.int)) ∈ q_big := q_inbig q_sub5 (i := 148) (by decide +kernel) rfl
theorem k5_149 : (Jvm.Cond.methodLink "SalaryCapLedger" (337 : Nat) ({ cls := "SalaryCapLedger$Releases", name := "cheapestSet", desc := "(I)I" } : Jvm.MethodName)) ∈ q_big := q_inbig q_sub5 (i := 149) (by decide +kernel) rfl
theorem k5_150 : (Jvm.Cond.instanceMethod ({ cls := "SalaryCapLedger$Releases", name := "cheapestSet", desc := "(I)I" } : Jvm.MethodName)) ∈ q_big := q_inbig q_sub5 (i := 150) (by decide +kernel) rfl
theorem k5_151 : (Jvm.Cond.selects "SalaryCapLedger$Releases" ({ cls := "SalaryCapLedger$Releases", name := "cheapestSet", desc := "(I)I" } : Jvm.MethodName) ({ cls := "SalaryCapLedger$Releases", name := "cheapestSet", desc := "(I)I" } : Jvm.MethodName)) ∈ q_big := q_inbig q_sub5 (i := 151) (by decide +kernel) rfl
theorem k5_152 : (Jvm.Cond.code ({ cls := "SalaryCapLedger$Releases", name := "cheapestSet", desc := "(I)I" } : Jvm.MethodName) prog_7_method_5_code (6 : Nat) (Option.some Jvm.ClassFile.FieldType.int)) ∈ q_big := q_inbig q_sub5 (i := 152) (by decide +kernel) rfl
theorem k5_153 : (Jvm.Cond.methodLink "SalaryCapLedger$Releases" (51 : Nat) ({ cls := "SalaryCapLedger$Releases", name := "fewest", desc := "(I)I" } : Jvm.MethodName)) ∈ q_big := q_inbig q_sub5 (i := 153) (by decide +kernel) rfl
theorem k5_154 : (Jvm.Cond.methodLink "SalaryCapLedger$Releases" (54 : Nat) ({ cls := "java/lang/Integer", name := "bitCount", desc := "(I)I" } : Jvm.MethodName)) ∈ q_big := q_inbig q_sub5 (i := 154) (by decide +kernel) rfl
theorem k5_155 : (Jvm.Cond.methodLink "SalaryCapLedger$Releases" (59 : Nat) ({ cls := "SalaryCapLedger$Releases", name := "sumAt", desc := "([II)I" } : Jvm.MethodName)) ∈ q_big := q_inbig q_sub5 (i := 155) (by decide +kernel) rfl
theorem k5_157 : (Jvm.Cond.instanceMethod ({ cls := "SalaryCapLedger$Releases", name := "sumAt", desc := "([II)I" } : Jvm.MethodName)) ∈ q_big := q_inbig q_sub5 (i := 157) (by decide +kernel) rfl
theorem k5_158 : (Jvm.Cond.code ({ cls := "SalaryCapLedger$Releases", name := "sumAt", desc := "([II)I" } : Jvm.MethodName) prog_7_method_6_code (5 : Nat) (Option.some Jvm.ClassFile.FieldType.int)) ∈ q_big := q_inbig q_sub5 (i := 158) (by decide +kernel) rfl
theorem k5_159 : (Jvm.Cond.methodLink "SalaryCapLedger$Releases" (63 : Nat) ({ cls := "SalaryCapLedger$Releases", name := "numbersAt", desc := "(I)I" } : Jvm.MethodName)) ∈ q_big := q_inbig q_sub5 (i := 159) (by decide +kernel) rfl
theorem k5_161 : (Jvm.Cond.instanceMethod ({ cls := "SalaryCapLedger$Releases", name := "numbersAt", desc := "(I)I" } : Jvm.MethodName)) ∈ q_big := q_inbig q_sub5 (i := 161) (by decide +kernel) rfl
theorem k5_162 : (Jvm.Cond.code ({ cls := "SalaryCapLedger$Releases", name := "numbersAt", desc := "(I)I" } : Jvm.MethodName) prog_7_method_7_code (4 : Nat) (Option.some Jvm.ClassFile.FieldType.int)) ∈ q_big := q_inbig q_sub5 (i := 162) (by decide +kernel) rfl
theorem k5_163 : (Jvm.Cond.methodLink "SalaryCapLedgerLaw" (262 : Nat) ({ cls := "SalaryCapLedgerLaw", name := "tradeCode", desc := "(LSalaryCapLedger;IIII[J)I" } : Jvm.MethodName)) ∈ q_big := q_inbig q_sub5 (i := 163) (by decide +kernel) rfl
theorem k5_164 : (Jvm.Cond.static ({ cls := "SalaryCapLedgerLaw", name := "tradeCode", desc := "(LSalaryCapLedger;IIII[J)I" } : Jvm.MethodName)) ∈ q_big := q_inbig q_sub5 (i := 164) (by decide +kernel) rfl
theorem k5_165 : (Jvm.Cond.codeWith ({ cls := "SalaryCapLedgerLaw", name := "tradeCode", desc := "(LSalaryCapLedger;IIII[J)I" } : Jvm.MethodName) method_35_code (7 : Nat) (Option.some Jvm.ClassFile.FieldType.int) [((0 : Nat), (14 : Nat), (17 : Nat), (13 : Nat)), ((0 : Nat), (14 : Nat), (21 : Nat), (19 : Nat))]) ∈ q_big := q_inbig q_sub5 (i := 165) (by decide +kernel) rfl
theorem k5_166 : (Jvm.Cond.methodLink "SalaryCapLedgerLaw" (124 : Nat) ({ cls := "SalaryCapLedger", name := "tradeCode", desc := "(IIII)I" } : Jvm.MethodName)) ∈ q_big := q_inbig q_sub5 (i := 166) (by decide +kernel) rfl
theorem k5_167 : (Jvm.Cond.instanceMethod ({ cls := "SalaryCapLedger", name := "tradeCode", desc := "(IIII)I" } : Jvm.MethodName)) ∈ q_big := q_inbig q_sub5 (i := 167) (by decide +kernel) rfl
theorem k5_168 : (Jvm.Cond.selects "SalaryCapLedger" ({ cls := "SalaryCapLedger", name := "tradeCode", desc := "(IIII)I" } : Jvm.MethodName) ({ cls := "SalaryCapLedger", name := "tradeCode", desc := "(IIII)I" } : Jvm.MethodName)) ∈ q_big := q_inbig q_sub5 (i := 168) (by decide +kernel) rfl
theorem k5_169 : (Jvm.Cond.code ({ cls := "SalaryCapLedger", name := "tradeCode", desc := "(IIII)I" } : Jvm.MethodName) prog_1_method_46_code (5 : Nat) (Option.some Jvm.ClassFile.FieldType.int)) ∈ q_big := q_inbig q_sub5 (i := 169) (by decide +kernel) rfl
theorem k5_170 : (Jvm.Cond.methodLink "SalaryCapLedgerLaw" (265 : Nat) ({ cls := "SalaryCapLedgerLaw", name := "swapCount", desc := "(LSalaryCapLedger;II[J)I" } : Jvm.MethodName)) ∈ q_big := q_inbig q_sub5 (i := 170) (by decide +kernel) rfl
theorem k5_171 : (Jvm.Cond.static ({ cls := "SalaryCapLedgerLaw", name := "swapCount", desc := "(LSalaryCapLedger;II[J)I" } : Jvm.MethodName)) ∈ q_big := q_inbig q_sub5 (i := 171) (by decide +kernel) rfl
theorem k5_172 : (Jvm.Cond.codeWith ({ cls := "SalaryCapLedgerLaw", name := "swapCount", desc := "(LSalaryCapLedger;II[J)I" } : Jvm.MethodName) method_36_code (5 : Nat) (Option.some Jvm.ClassFile.FieldType.int) [((0 : Nat), (10 : Nat), (13 : Nat), (13 : Nat)), ((0 : Nat), (10 : Nat), (17 : Nat), (19 : Nat))]) ∈ q_big := q_inbig q_sub5 (i := 172) (by decide +kernel) rfl
theorem k5_173 : (Jvm.Cond.methodLink "SalaryCapLedgerLaw" (127 : Nat) ({ cls := "SalaryCapLedger", name := "swapCount", desc := "(II)I" } : Jvm.MethodName)) ∈ q_big := q_inbig q_sub5 (i := 173) (by decide +kernel) rfl
theorem k5_174 : (Jvm.Cond.instanceMethod ({ cls := "SalaryCapLedger", name := "swapCount", desc := "(II)I" } : Jvm.MethodName)) ∈ q_big := q_inbig q_sub5 (i := 174) (by decide +kernel) rfl
theorem k5_175 : (Jvm.Cond.selects "SalaryCapLedger" ({ cls := "SalaryCapLedger", name := "swapCount", desc := "(II)I" } : Jvm.MethodName) ({ cls := "SalaryCapLedger", name := "swapCount", desc := "(II)I" } : Jvm.MethodName)) ∈ q_big := q_inbig q_sub5 (i := 175) (by decide +kernel) rfl
theorem k5_176 : (Jvm.Cond.code ({ cls := "SalaryCapLedger", name := "swapCount", desc := "(II)I" } : Jvm.MethodName) prog_1_method_50_code (8 : Nat) (Option.some Jvm.ClassFile.FieldType.int)) ∈ q_big := q_inbig q_sub5 (i := 176) (by decide +kernel) rfl
theorem k5_177 : (Jvm.Cond.methodLink "SalaryCapLedger" (357 : Nat) ({ cls := "SalaryCapLedger$Books", name := "playsFor", desc := "(II)Z" } : Jvm.MethodName)) ∈ q_big := q_inbig q_sub5 (i := 177) (by decide +kernel) rfl
theorem k5_178 : (Jvm.Cond.methodLink "SalaryCapLedger" (360 : Nat) ({ cls := "SalaryCapLedger", name := "swapMatches", desc := "(IIII)Z" } : Jvm.MethodName)) ∈ q_big := q_inbig q_sub5 (i := 178) (by decide +kernel) rfl
theorem k5_180 : (Jvm.Cond.instanceMethod ({ cls := "SalaryCapLedger", name := "swapMatches", desc := "(IIII)Z" } : Jvm.MethodName)) ∈ q_big := q_inbig q_sub5 (i := 180) (by decide +kernel) rfl
theorem k5_181 : (Jvm.Cond.code ({ cls := "SalaryCapLedger", name := "swapMatches", desc := "(IIII)Z" } : Jvm.MethodName) prog_1_method_49_code (5 : Nat) (Option.some Jvm.ClassFile.FieldType.boolean)) ∈ q_big := q_inbig q_sub5 (i := 181) (by decide +kernel) rfl
theorem k5_182 : (Jvm.Cond.methodLink "SalaryCapLedgerLaw" (268 : Nat) ({ cls := "SalaryCapLedgerLaw", name := "bestSwap", desc := "(LSalaryCapLedger;II[J)I" } : Jvm.MethodName)) ∈ q_big := q_inbig q_sub5 (i := 182) (by decide +kernel) rfl
theorem k5_183 : (Jvm.Cond.static ({ cls := "SalaryCapLedgerLaw", name := "bestSwap", desc := "(LSalaryCapLedger;II[J)I" } : Jvm.MethodName)) ∈ q_big := q_inbig q_sub5 (i := 183) (by decide +kernel) rfl
theorem k5_184 : (Jvm.Cond.codeWith ({ cls := "SalaryCapLedgerLaw", name := "bestSwap", desc := "(LSalaryCapLedger;II[J)I" } : Jvm.MethodName) method_37_code (5 : Nat) (Option.some Jvm.ClassFile.FieldType.int) [((0 : Nat), (10 : Nat), (13 : Nat), (13 : Nat)), ((0 : Nat), (10 : Nat), (17 : Nat), (19 : Nat))]) ∈ q_big := q_inbig q_sub5 (i := 184) (by decide +kernel) rfl
theorem k5_185 : (Jvm.Cond.methodLink "SalaryCapLedgerLaw" (130 : Nat) ({ cls := "SalaryCapLedger", name := "bestSwap", desc := "(II)I" } : Jvm.MethodName)) ∈ q_big := q_inbig q_sub5 (i := 185) (by decide +kernel) rfl
theorem k5_186 : (Jvm.Cond.instanceMethod ({ cls := "SalaryCapLedger", name := "bestSwap", desc := "(II)I" } : Jvm.MethodName)) ∈ q_big := q_inbig q_sub5 (i := 186) (by decide +kernel) rfl
theorem k5_187 : (Jvm.Cond.selects "SalaryCapLedger" ({ cls := "SalaryCapLedger", name := "bestSwap", desc := "(II)I" } : Jvm.MethodName) ({ cls := "SalaryCapLedger", name := "bestSwap", desc := "(II)I" } : Jvm.MethodName)) ∈ q_big := q_inbig q_sub5 (i := 187) (by decide +kernel) rfl
theorem k5_188 : (Jvm.Cond.code ({ cls := "SalaryCapLedger", name := "bestSwap", desc := "(II)I" } : Jvm.MethodName) prog_1_method_51_code (12 : Nat) (Option.some Jvm.ClassFile.FieldType.int)) ∈ q_big := q_inbig q_sub5 (i := 188) (by decide +kernel) rfl
theorem k5_189 : (Jvm.Cond.methodLink "SalaryCapLedgerLaw" (271 : Nat) ({ cls := "SalaryCapLedgerLaw", name := "taxAhead", desc := "(LSalaryCapLedger;II[J)I" } : Jvm.MethodName)) ∈ q_big := q_inbig q_sub5 (i := 189) (by decide +kernel) rfl
theorem k5_190 : (Jvm.Cond.static ({ cls := "SalaryCapLedgerLaw", name := "taxAhead", desc := "(LSalaryCapLedger;II[J)I" } : Jvm.MethodName)) ∈ q_big := q_inbig q_sub5 (i := 190) (by decide +kernel) rfl
theorem k5_191 : (Jvm.Cond.codeWith ({ cls := "SalaryCapLedgerLaw", name := "taxAhead", desc := "(LSalaryCapLedger;II[J)I" } : Jvm.MethodName) method_38_code (5 : Nat) (Option.some Jvm.ClassFile.FieldType.int) [((0 : Nat), (9 : Nat), (12 : Nat), (13 : Nat)), ((0 : Nat), (9 : Nat), (16 : Nat), (19 : Nat))]) ∈ q_big := q_inbig q_sub5 (i := 191) (by decide +kernel) rfl
theorem k5_192 : (Jvm.Cond.methodLink "SalaryCapLedgerLaw" (133 : Nat) ({ cls := "SalaryCapLedger", name := "taxAhead", desc := "(II)J" } : Jvm.MethodName)) ∈ q_big := q_inbig q_sub5 (i := 192) (by decide +kernel) rfl
theorem k5_193 : (Jvm.Cond.instanceMethod ({ cls := "SalaryCapLedger", name := "taxAhead", desc := "(II)J" } : Jvm.MethodName)) ∈ q_big := q_inbig q_sub5 (i := 193) (by decide +kernel) rfl
theorem k5_194 : (Jvm.Cond.selects "SalaryCapLedger" ({ cls := "SalaryCapLedger", name := "taxAhead", desc := "(II)J" } : Jvm.MethodName) ({ cls := "SalaryCapLedger", name := "taxAhead", desc := "(II)J" } : Jvm.MethodName)) ∈ q_big := q_inbig q_sub5 (i := 194) (by decide +kernel) rfl
theorem k5_195 : (Jvm.Cond.code ({ cls := "SalaryCapLedger", name := "taxAhead", desc := "(II)J" } : Jvm.MethodName) prog_1_method_52_code (9 : Nat) (Option.some Jvm.ClassFile.FieldType.long)) ∈ q_big := q_inbig q_sub5 (i := 195) (by decide +kernel) rfl
theorem k5_196 : (Jvm.Cond.methodLink "SalaryCapLedgerLaw" (274 : Nat) ({ cls := "SalaryCapLedgerLaw", name := "undo", desc := "(LSalaryCapLedger;[J)I" } : Jvm.MethodName)) ∈ q_big := q_inbig q_sub5 (i := 196) (by decide +kernel) rfl
theorem k5_197 : (Jvm.Cond.static ({ cls := "SalaryCapLedgerLaw", name := "undo", desc := "(LSalaryCapLedger;[J)I" } : Jvm.MethodName)) ∈ q_big := q_inbig q_sub5 (i := 197) (by decide +kernel) rfl
theorem k5_198 : (Jvm.Cond.codeWith ({ cls := "SalaryCapLedgerLaw", name := "undo", desc := "(LSalaryCapLedger;[J)I" } : Jvm.MethodName) method_39_code (3 : Nat) (Option.some Jvm.ClassFile.FieldType.int) [((0 : Nat), (8 : Nat), (11 : Nat), (13 : Nat))]) ∈ q_big := q_inbig q_sub5 (i := 198) (by decide +kernel) rfl
theorem k5_199 : (Jvm.Cond.methodLink "SalaryCapLedgerLaw" (137 : Nat) ({ cls := "SalaryCapLedger", name := "undo", desc := "()I" } : Jvm.MethodName)) ∈ q_big := q_inbig q_sub5 (i := 199) (by decide +kernel) rfl
theorem k5_200 : (Jvm.Cond.instanceMethod ({ cls := "SalaryCapLedger", name := "undo", desc := "()I" } : Jvm.MethodName)) ∈ q_big := q_inbig q_sub5 (i := 200) (by decide +kernel) rfl
theorem k5_201 : (Jvm.Cond.selects "SalaryCapLedger" ({ cls := "SalaryCapLedger", name := "undo", desc := "()I" } : Jvm.MethodName) ({ cls := "SalaryCapLedger", name := "undo", desc := "()I" } : Jvm.MethodName)) ∈ q_big := q_inbig q_sub5 (i := 201) (by decide +kernel) rfl
theorem k5_202 : (Jvm.Cond.code ({ cls := "SalaryCapLedger", name := "undo", desc := "()I" } : Jvm.MethodName) prog_1_method_53_code (1 : Nat) (Option.some Jvm.ClassFile.FieldType.int)) ∈ q_big := q_inbig q_sub5 (i := 202) (by decide +kernel) rfl
theorem k5_203 : (Jvm.Cond.methodLink "SalaryCapLedger" (371 : Nat) ({ cls := "SalaryCapLedger$History", name := "restoreTo", desc := "(LSalaryCapLedger$Books;)V" } : Jvm.MethodName)) ∈ q_big := q_inbig q_sub5 (i := 203) (by decide +kernel) rfl
theorem k5_204 : (Jvm.Cond.instanceMethod ({ cls := "SalaryCapLedger$History", name := "restoreTo", desc := "(LSalaryCapLedger$Books;)V" } : Jvm.MethodName)) ∈ q_big := q_inbig q_sub5 (i := 204) (by decide +kernel) rfl
theorem k5_205 : (Jvm.Cond.selects "SalaryCapLedger$History" ({ cls := "SalaryCapLedger$History", name := "restoreTo", desc := "(LSalaryCapLedger$Books;)V" } : Jvm.MethodName) ({ cls := "SalaryCapLedger$History", name := "restoreTo", desc := "(LSalaryCapLedger$Books;)V" } : Jvm.MethodName)) ∈ q_big := q_inbig q_sub5 (i := 205) (by decide +kernel) rfl
theorem k5_206 : (Jvm.Cond.code ({ cls := "SalaryCapLedger$History", name := "restoreTo", desc := "(LSalaryCapLedger$Books;)V" } : Jvm.MethodName) prog_4_method_4_code (2 : Nat) (Option.none : Option Jvm.ClassFile.FieldType)) ∈ q_big := q_inbig q_sub5 (i := 206) (by decide +kernel) rfl
theorem k5_207 : (Jvm.Cond.classLink "SalaryCapLedgerLaw" (141 : Nat) "SalaryCapLedgerModel") ∈ q_big := q_inbig q_sub5 (i := 207) (by decide +kernel) rfl
theorem k5_208 : (Jvm.Cond.instantiable "SalaryCapLedgerModel" (35 : Nat)) ∈ q_big := q_inbig q_sub5 (i := 208) (by decide +kernel) rfl
theorem k5_209 : (Jvm.Cond.methodLink "SalaryCapLedgerLaw" (143 : Nat) ({ cls := "SalaryCapLedgerModel", name := "<init>", desc := "()V" } : Jvm.MethodName)) ∈ q_big := q_inbig q_sub5 (i := 209) (by decide +kernel) rfl
theorem k5_210 : (Jvm.Cond.instanceMethod ({ cls := "SalaryCapLedgerModel", name := "<init>", desc := "()V" } : Jvm.MethodName)) ∈ q_big := q_inbig q_sub5 (i := 210) (by decide +kernel) rfl
theorem k5_211 : (Jvm.Cond.code ({ cls := "SalaryCapLedgerModel", name := "<init>", desc := "()V" } : Jvm.MethodName) prog_11_method_1_code (1 : Nat) (Option.none : Option Jvm.ClassFile.FieldType)) ∈ q_big := q_inbig q_sub5 (i := 211) (by decide +kernel) rfl
theorem k5_212 : (Jvm.Cond.methodLink "SalaryCapLedgerModel" (1 : Nat) ({ cls := "java/lang/Object", name := "<init>", desc := "()V" } : Jvm.MethodName)) ∈ q_big := q_inbig q_sub5 (i := 212) (by decide +kernel) rfl
theorem k5_213 : (Jvm.Cond.fieldLink "SalaryCapLedgerModel" (7 : Nat) "SalaryCapLedgerModel" "row" "[J") ∈ q_big := q_inbig q_sub5 (i := 213) (by decide +kernel) rfl
theorem k5_214 : (Jvm.Cond.fieldLink "SalaryCapLedgerModel" (13 : Nat) "SalaryCapLedgerModel" "past" "[J") ∈ q_big := q_inbig q_sub5 (i := 214) (by decide +kernel) rfl
theorem k5_215 : (Jvm.Cond.fieldLink "SalaryCapLedgerModel" (178 : Nat) "SalaryCapLedgerModel" "actions" "I") ∈ q_big := q_inbig q_sub5 (i := 215) (by decide +kernel) rfl
theorem k5_216 : (Jvm.Cond.fieldLink "SalaryCapLedgerModel" (54 : Nat) "SalaryCapLedgerModel" "isLoaded" "Z") ∈ q_big := q_inbig q_sub5 (i := 216) (by decide +kernel) rfl
theorem k5_217 : (Jvm.Cond.fieldLink "SalaryCapLedgerModel" (51 : Nat) "SalaryCapLedgerModel" "thrown" "I") ∈ q_big := q_inbig q_sub5 (i := 217) (by decide +kernel) rfl
theorem k5_218 : (Jvm.Cond.fieldLink "SalaryCapLedgerModel" (196 : Nat) "SalaryCapLedgerModel" "teams" "I") ∈ q_big := q_inbig q_sub5 (i := 218) (by decide +kernel) rfl
theorem k5_219 : (Jvm.Cond.fieldLink "SalaryCapLedgerModel" (198 : Nat) "SalaryCapLedgerModel" "players" "I") ∈ q_big := q_inbig q_sub5 (i := 219) (by decide +kernel) rfl
theorem k5_220 : (Jvm.Cond.fieldLink "SalaryCapLedgerModel" (200 : Nat) "SalaryCapLedgerModel" "brackets" "I") ∈ q_big := q_inbig q_sub5 (i := 220) (by decide +kernel) rfl
theorem k5_221 : (Jvm.Cond.fieldLink "SalaryCapLedgerModel" (181 : Nat) "SalaryCapLedgerModel" "firstCap" "I") ∈ q_big := q_inbig q_sub5 (i := 221) (by decide +kernel) rfl
theorem k5_222 : (Jvm.Cond.fieldLink "SalaryCapLedgerModel" (184 : Nat) "SalaryCapLedgerModel" "firstLine" "I") ∈ q_big := q_inbig q_sub5 (i := 222) (by decide +kernel) rfl
theorem k5_223 : (Jvm.Cond.fieldLink "SalaryCapLedgerModel" (187 : Nat) "SalaryCapLedgerModel" "growth" "I") ∈ q_big := q_inbig q_sub5 (i := 223) (by decide +kernel) rfl
theorem k5_224 : (Jvm.Cond.fieldLink "SalaryCapLedgerModel" (190 : Nat) "SalaryCapLedgerModel" "midLevel" "I") ∈ q_big := q_inbig q_sub5 (i := 224) (by decide +kernel) rfl
theorem k5_225 : (Jvm.Cond.fieldLink "SalaryCapLedgerModel" (193 : Nat) "SalaryCapLedgerModel" "minimum" "I") ∈ q_big := q_inbig q_sub5 (i := 225) (by decide +kernel) rfl
theorem k5_226 : (Jvm.Cond.fieldLink "SalaryCapLedgerModel" (16 : Nat) "SalaryCapLedgerModel" "sizes" "[I") ∈ q_big := q_inbig q_sub5 (i := 226) (by decide +kernel) rfl
theorem k5_227 : (Jvm.Cond.fieldLink "SalaryCapLedgerModel" (20 : Nat) "SalaryCapLedgerModel" "rates" "[I") ∈ q_big := q_inbig q_sub5 (i := 227) (by decide +kernel) rfl
theorem k5_228 : (Jvm.Cond.fieldLink "SalaryCapLedgerModel" (23 : Nat) "SalaryCapLedgerModel" "buffer" "[I") ∈ q_big := q_inbig q_sub5 (i := 228) (by decide +kernel) rfl
theorem k5_229 : (Jvm.Cond.fieldLink "SalaryCapLedgerModel" (58 : Nat) "SalaryCapLedgerModel" "buffered" "I") ∈ q_big := q_inbig q_sub5 (i := 229) (by decide +kernel) rfl
theorem k5_230 : (Jvm.Cond.fieldLink "SalaryCapLedgerModel" (69 : Nat) "SalaryCapLedgerModel" "textSize" "I") ∈ q_big := q_inbig q_sub5 (i := 230) (by decide +kernel) rfl
theorem k5_231 : (Jvm.Cond.fieldLink "SalaryCapLedgerModel" (91 : Nat) "SalaryCapLedgerModel" "at" "I") ∈ q_big := q_inbig q_sub5 (i := 231) (by decide +kernel) rfl
theorem k5_232 : (Jvm.Cond.fieldLink "SalaryCapLedgerModel" (94 : Nat) "SalaryCapLedgerModel" "start" "I") ∈ q_big := q_inbig q_sub5 (i := 232) (by decide +kernel) rfl
theorem k5_233 : (Jvm.Cond.fieldLink "SalaryCapLedgerModel" (97 : Nat) "SalaryCapLedgerModel" "token" "I") ∈ q_big := q_inbig q_sub5 (i := 233) (by decide +kernel) rfl
theorem k5_234 : (Jvm.Cond.fieldLink "SalaryCapLedgerModel" (107 : Nat) "SalaryCapLedgerModel" "number" "I") ∈ q_big := q_inbig q_sub5 (i := 234) (by decide +kernel) rfl
theorem k5_235 : (Jvm.Cond.fieldLink "SalaryCapLedgerModel" (84 : Nat) "SalaryCapLedgerModel" "errorCode" "I") ∈ q_big := q_inbig q_sub5 (i := 235) (by decide +kernel) rfl
theorem k5_236 : (Jvm.Cond.fieldLink "SalaryCapLedgerModel" (26 : Nat) "SalaryCapLedgerModel" "errorAt" "I") ∈ q_big := q_inbig q_sub5 (i := 236) (by decide +kernel) rfl
theorem k5_237 : (Jvm.Cond.fieldLink "SalaryCapLedgerModel" (30 : Nat) "SalaryCapLedgerModel" "draft" "[I") ∈ q_big := q_inbig q_sub5 (i := 237) (by decide +kernel) rfl
theorem k5_238 : (Jvm.Cond.fieldLink "SalaryCapLedgerModel" (33 : Nat) "SalaryCapLedgerModel" "draftBracket" "[I") ∈ q_big := q_inbig q_sub5 (i := 238) (by decide +kernel) rfl
theorem k5_239 : (Jvm.Cond.fieldLink "SalaryCapLedgerModel" (145 : Nat) "SalaryCapLedgerModel" "draftBrackets" "I") ∈ q_big := q_inbig q_sub5 (i := 239) (by decide +kernel) rfl
theorem k6_0 : (Jvm.Cond.fieldLink "SalaryCapLedgerModel" (36 : Nat) "SalaryCapLedgerModel" "draftPlayer" "[I") ∈ q_big := q_inbig q_sub6 (i := 0) (by decide +kernel) rfl
theorem k6_1 : (Jvm.Cond.fieldLink "SalaryCapLedgerModel" (157 : Nat) "SalaryCapLedgerModel" "draftContracts" "I") ∈ q_big := q_inbig q_sub6 (i := 1) (by decide +kernel) rfl
theorem k6_2 : (Jvm.Cond.fieldLink "SalaryCapLedgerModel" (39 : Nat) "SalaryCapLedgerModel" "aside" "[J") ∈ q_big := q_inbig q_sub6 (i := 2) (by decide +kernel) rfl
theorem k6_3 : (Jvm.Cond.fieldLink "SalaryCapLedgerModel" (42 : Nat) "SalaryCapLedgerModel" "dead" "[I") ∈ q_big := q_inbig q_sub6 (i := 3) (by decide +kernel) rfl
theorem k6_4 : (Jvm.Cond.fieldLink "SalaryCapLedgerModel" (45 : Nat) "SalaryCapLedgerModel" "gains" "[I") ∈ q_big := q_inbig q_sub6 (i := 4) (by decide +kernel) rfl
theorem k6_5 : (Jvm.Cond.fieldLink "SalaryCapLedgerModel" (48 : Nat) "SalaryCapLedgerModel" "costs" "[I") ∈ q_big := q_inbig q_sub6 (i := 5) (by decide +kernel) rfl
theorem k6_6 : (Jvm.Cond.fieldLink "SalaryCapLedgerModel" (396 : Nat) "SalaryCapLedgerModel" "swaps" "I") ∈ q_big := q_inbig q_sub6 (i := 6) (by decide +kernel) rfl
theorem k6_7 : (Jvm.Cond.fieldLink "SalaryCapLedgerModel" (399 : Nat) "SalaryCapLedgerModel" "swapBest" "I") ∈ q_big := q_inbig q_sub6 (i := 7) (by decide +kernel) rfl
theorem k6_8 : (Jvm.Cond.laysFinal "SalaryCapLedgerModel" "SalaryCapLedgerModel" "row" "[J") ∈ q_big := q_inbig q_sub6 (i := 8) (by decide +kernel) rfl
theorem k6_10 : (Jvm.Cond.laysFinal "SalaryCapLedgerModel" "SalaryCapLedgerModel" "past" "[J") ∈ q_big := q_inbig q_sub6 (i := 10) (by decide +kernel) rfl
theorem k6_12 : (Jvm.Cond.lays "SalaryCapLedgerModel" "SalaryCapLedgerModel" "actions" "I") ∈ q_big := q_inbig q_sub6 (i := 12) (by decide +kernel) rfl
theorem k6_14 : (Jvm.Cond.lays "SalaryCapLedgerModel" "SalaryCapLedgerModel" "isLoaded" "Z") ∈ q_big := q_inbig q_sub6 (i := 14) (by decide +kernel) rfl
theorem k6_16 : (Jvm.Cond.lays "SalaryCapLedgerModel" "SalaryCapLedgerModel" "thrown" "I") ∈ q_big := q_inbig q_sub6 (i := 16) (by decide +kernel) rfl
theorem k6_18 : (Jvm.Cond.lays "SalaryCapLedgerModel" "SalaryCapLedgerModel" "teams" "I") ∈ q_big := q_inbig q_sub6 (i := 18) (by decide +kernel) rfl
theorem k6_20 : (Jvm.Cond.lays "SalaryCapLedgerModel" "SalaryCapLedgerModel" "players" "I") ∈ q_big := q_inbig q_sub6 (i := 20) (by decide +kernel) rfl
theorem k6_22 : (Jvm.Cond.lays "SalaryCapLedgerModel" "SalaryCapLedgerModel" "brackets" "I") ∈ q_big := q_inbig q_sub6 (i := 22) (by decide +kernel) rfl
theorem k6_24 : (Jvm.Cond.lays "SalaryCapLedgerModel" "SalaryCapLedgerModel" "firstCap" "I") ∈ q_big := q_inbig q_sub6 (i := 24) (by decide +kernel) rfl
theorem k6_26 : (Jvm.Cond.lays "SalaryCapLedgerModel" "SalaryCapLedgerModel" "firstLine" "I") ∈ q_big := q_inbig q_sub6 (i := 26) (by decide +kernel) rfl
theorem k6_28 : (Jvm.Cond.lays "SalaryCapLedgerModel" "SalaryCapLedgerModel" "growth" "I") ∈ q_big := q_inbig q_sub6 (i := 28) (by decide +kernel) rfl
theorem k6_30 : (Jvm.Cond.lays "SalaryCapLedgerModel" "SalaryCapLedgerModel" "midLevel" "I") ∈ q_big := q_inbig q_sub6 (i := 30) (by decide +kernel) rfl
theorem k6_32 : (Jvm.Cond.lays "SalaryCapLedgerModel" "SalaryCapLedgerModel" "minimum" "I") ∈ q_big := q_inbig q_sub6 (i := 32) (by decide +kernel) rfl
theorem k6_34 : (Jvm.Cond.laysFinal "SalaryCapLedgerModel" "SalaryCapLedgerModel" "sizes" "[I") ∈ q_big := q_inbig q_sub6 (i := 34) (by decide +kernel) rfl
theorem k6_36 : (Jvm.Cond.laysFinal "SalaryCapLedgerModel" "SalaryCapLedgerModel" "rates" "[I") ∈ q_big := q_inbig q_sub6 (i := 36) (by decide +kernel) rfl
theorem k6_38 : (Jvm.Cond.laysFinal "SalaryCapLedgerModel" "SalaryCapLedgerModel" "buffer" "[I") ∈ q_big := q_inbig q_sub6 (i := 38) (by decide +kernel) rfl
theorem k6_40 : (Jvm.Cond.lays "SalaryCapLedgerModel" "SalaryCapLedgerModel" "buffered" "I") ∈ q_big := q_inbig q_sub6 (i := 40) (by decide +kernel) rfl
theorem k6_42 : (Jvm.Cond.lays "SalaryCapLedgerModel" "SalaryCapLedgerModel" "textSize" "I") ∈ q_big := q_inbig q_sub6 (i := 42) (by decide +kernel) rfl
theorem k6_44 : (Jvm.Cond.lays "SalaryCapLedgerModel" "SalaryCapLedgerModel" "at" "I") ∈ q_big := q_inbig q_sub6 (i := 44) (by decide +kernel) rfl
theorem k6_46 : (Jvm.Cond.lays "SalaryCapLedgerModel" "SalaryCapLedgerModel" "start" "I") ∈ q_big := q_inbig q_sub6 (i := 46) (by decide +kernel) rfl
theorem k6_48 : (Jvm.Cond.lays "SalaryCapLedgerModel" "SalaryCapLedgerModel" "token" "I") ∈ q_big := q_inbig q_sub6 (i := 48) (by decide +kernel) rfl
theorem k6_50 : (Jvm.Cond.lays "SalaryCapLedgerModel" "SalaryCapLedgerModel" "number" "I") ∈ q_big := q_inbig q_sub6 (i := 50) (by decide +kernel) rfl
theorem k6_52 : (Jvm.Cond.lays "SalaryCapLedgerModel" "SalaryCapLedgerModel" "errorCode" "I") ∈ q_big := q_inbig q_sub6 (i := 52) (by decide +kernel) rfl
theorem k6_54 : (Jvm.Cond.lays "SalaryCapLedgerModel" "SalaryCapLedgerModel" "errorAt" "I") ∈ q_big := q_inbig q_sub6 (i := 54) (by decide +kernel) rfl
theorem k6_56 : (Jvm.Cond.laysFinal "SalaryCapLedgerModel" "SalaryCapLedgerModel" "draft" "[I") ∈ q_big := q_inbig q_sub6 (i := 56) (by decide +kernel) rfl
theorem k6_58 : (Jvm.Cond.laysFinal "SalaryCapLedgerModel" "SalaryCapLedgerModel" "draftBracket" "[I") ∈ q_big := q_inbig q_sub6 (i := 58) (by decide +kernel) rfl
theorem k6_60 : (Jvm.Cond.lays "SalaryCapLedgerModel" "SalaryCapLedgerModel" "draftBrackets" "I") ∈ q_big := q_inbig q_sub6 (i := 60) (by decide +kernel) rfl
theorem k6_62 : (Jvm.Cond.laysFinal "SalaryCapLedgerModel" "SalaryCapLedgerModel" "draftPlayer" "[I") ∈ q_big := q_inbig q_sub6 (i := 62) (by decide +kernel) rfl
theorem k6_64 : (Jvm.Cond.lays "SalaryCapLedgerModel" "SalaryCapLedgerModel" "draftContracts" "I") ∈ q_big := q_inbig q_sub6 (i := 64) (by decide +kernel) rfl
theorem k6_66 : (Jvm.Cond.laysFinal "SalaryCapLedgerModel" "SalaryCapLedgerModel" "aside" "[J") ∈ q_big := q_inbig q_sub6 (i := 66) (by decide +kernel) rfl
theorem k6_68 : (Jvm.Cond.laysFinal "SalaryCapLedgerModel" "SalaryCapLedgerModel" "dead" "[I") ∈ q_big := q_inbig q_sub6 (i := 68) (by decide +kernel) rfl
theorem k6_70 : (Jvm.Cond.laysFinal "SalaryCapLedgerModel" "SalaryCapLedgerModel" "gains" "[I") ∈ q_big := q_inbig q_sub6 (i := 70) (by decide +kernel) rfl
theorem k6_72 : (Jvm.Cond.laysFinal "SalaryCapLedgerModel" "SalaryCapLedgerModel" "costs" "[I") ∈ q_big := q_inbig q_sub6 (i := 72) (by decide +kernel) rfl
theorem k6_74 : (Jvm.Cond.lays "SalaryCapLedgerModel" "SalaryCapLedgerModel" "swaps" "I") ∈ q_big := q_inbig q_sub6 (i := 74) (by decide +kernel) rfl
theorem k6_76 : (Jvm.Cond.lays "SalaryCapLedgerModel" "SalaryCapLedgerModel" "swapBest" "I") ∈ q_big := q_inbig q_sub6 (i := 76) (by decide +kernel) rfl
theorem k6_79 : (Jvm.Cond.arrayClass Jvm.ClassFile.FieldType.long) ∈ q_big := q_inbig q_sub6 (i := 79) (by decide +kernel) rfl
theorem k6_80 : (Jvm.Cond.methodLink "SalaryCapLedgerLaw" (150 : Nat) ({ cls := "SalaryCapLedgerModel", name := "thrown", desc := "()I" } : Jvm.MethodName)) ∈ q_big := q_inbig q_sub6 (i := 80) (by decide +kernel) rfl
theorem k6_81 : (Jvm.Cond.instanceMethod ({ cls := "SalaryCapLedgerModel", name := "thrown", desc := "()I" } : Jvm.MethodName)) ∈ q_big := q_inbig q_sub6 (i := 81) (by decide +kernel) rfl
theorem k6_82 : (Jvm.Cond.selects "SalaryCapLedgerModel" ({ cls := "SalaryCapLedgerModel", name := "thrown", desc := "()I" } : Jvm.MethodName) ({ cls := "SalaryCapLedgerModel", name := "thrown", desc := "()I" } : Jvm.MethodName)) ∈ q_big := q_inbig q_sub6 (i := 82) (by decide +kernel) rfl
theorem k6_83 : (Jvm.Cond.code ({ cls := "SalaryCapLedgerModel", name := "thrown", desc := "()I" } : Jvm.MethodName) prog_11_method_2_code (1 : Nat) (Option.some Jvm.ClassFile.FieldType.int)) ∈ q_big := q_inbig q_sub6 (i := 83) (by decide +kernel) rfl
theorem k6_84 : (Jvm.Cond.methodLink "SalaryCapLedgerLaw" (149 : Nat) ({ cls := "SalaryCapLedgerModel", name := "append", desc := "(IIIII)I" } : Jvm.MethodName)) ∈ q_big := q_inbig q_sub6 (i := 84) (by decide +kernel) rfl
theorem k6_85 : (Jvm.Cond.instanceMethod ({ cls := "SalaryCapLedgerModel", name := "append", desc := "(IIIII)I" } : Jvm.MethodName)) ∈ q_big := q_inbig q_sub6 (i := 85) (by decide +kernel) rfl
theorem k6_86 : (Jvm.Cond.selects "SalaryCapLedgerModel" ({ cls := "SalaryCapLedgerModel", name := "append", desc := "(IIIII)I" } : Jvm.MethodName) ({ cls := "SalaryCapLedgerModel", name := "append", desc := "(IIIII)I" } : Jvm.MethodName)) ∈ q_big := q_inbig q_sub6 (i := 86) (by decide +kernel) rfl
theorem k6_87 : (Jvm.Cond.code ({ cls := "SalaryCapLedgerModel", name := "append", desc := "(IIIII)I" } : Jvm.MethodName) prog_11_method_8_code (6 : Nat) (Option.some Jvm.ClassFile.FieldType.int)) ∈ q_big := q_inbig q_sub6 (i := 87) (by decide +kernel) rfl
theorem k6_88 : (Jvm.Cond.methodLink "SalaryCapLedgerModel" (61 : Nat) ({ cls := "SalaryCapLedgerModel", name := "put", desc := "(I)V" } : Jvm.MethodName)) ∈ q_big := q_inbig q_sub6 (i := 88) (by decide +kernel) rfl
theorem k6_90 : (Jvm.Cond.instanceMethod ({ cls := "SalaryCapLedgerModel", name := "put", desc := "(I)V" } : Jvm.MethodName)) ∈ q_big := q_inbig q_sub6 (i := 90) (by decide +kernel) rfl
theorem k6_91 : (Jvm.Cond.code ({ cls := "SalaryCapLedgerModel", name := "put", desc := "(I)V" } : Jvm.MethodName) prog_11_method_7_code (3 : Nat) (Option.none : Option Jvm.ClassFile.FieldType)) ∈ q_big := q_inbig q_sub6 (i := 91) (by decide +kernel) rfl
theorem k6_92 : (Jvm.Cond.methodLink "SalaryCapLedgerLaw" (156 : Nat) ({ cls := "SalaryCapLedgerModel", name := "truncate", desc := "(I)I" } : Jvm.MethodName)) ∈ q_big := q_inbig q_sub6 (i := 92) (by decide +kernel) rfl
theorem k6_93 : (Jvm.Cond.instanceMethod ({ cls := "SalaryCapLedgerModel", name := "truncate", desc := "(I)I" } : Jvm.MethodName)) ∈ q_big := q_inbig q_sub6 (i := 93) (by decide +kernel) rfl
theorem k6_94 : (Jvm.Cond.selects "SalaryCapLedgerModel" ({ cls := "SalaryCapLedgerModel", name := "truncate", desc := "(I)I" } : Jvm.MethodName) ({ cls := "SalaryCapLedgerModel", name := "truncate", desc := "(I)I" } : Jvm.MethodName)) ∈ q_big := q_inbig q_sub6 (i := 94) (by decide +kernel) rfl
theorem k6_95 : (Jvm.Cond.code ({ cls := "SalaryCapLedgerModel", name := "truncate", desc := "(I)I" } : Jvm.MethodName) prog_11_method_9_code (2 : Nat) (Option.some Jvm.ClassFile.FieldType.int)) ∈ q_big := q_inbig q_sub6 (i := 95) (by decide +kernel) rfl
theorem k6_96 : (Jvm.Cond.methodLink "SalaryCapLedgerModel" (65 : Nat) ({ cls := "SalaryCapLedgerModel", name := "isIn", desc := "(JJJ)Z" } : Jvm.MethodName)) ∈ q_big := q_inbig q_sub6 (i := 96) (by decide +kernel) rfl
theorem k6_97 : (Jvm.Cond.static ({ cls := "SalaryCapLedgerModel", name := "isIn", desc := "(JJJ)Z" } : Jvm.MethodName)) ∈ q_big := q_inbig q_sub6 (i := 97) (by decide +kernel) rfl
theorem k6_98 : (Jvm.Cond.code ({ cls := "SalaryCapLedgerModel", name := "isIn", desc := "(JJJ)Z" } : Jvm.MethodName) prog_11_method_3_code (6 : Nat) (Option.some Jvm.ClassFile.FieldType.boolean)) ∈ q_big := q_inbig q_sub6 (i := 98) (by decide +kernel) rfl
theorem k6_99 : (Jvm.Cond.methodLink "SalaryCapLedgerLaw" (160 : Nat) ({ cls := "SalaryCapLedgerModel", name := "load", desc := "()I" } : Jvm.MethodName)) ∈ q_big := q_inbig q_sub6 (i := 99) (by decide +kernel) rfl
theorem k6_100 : (Jvm.Cond.instanceMethod ({ cls := "SalaryCapLedgerModel", name := "load", desc := "()I" } : Jvm.MethodName)) ∈ q_big := q_inbig q_sub6 (i := 100) (by decide +kernel) rfl
theorem k6_101 : (Jvm.Cond.selects "SalaryCapLedgerModel" ({ cls := "SalaryCapLedgerModel", name := "load", desc := "()I" } : Jvm.MethodName) ({ cls := "SalaryCapLedgerModel", name := "load", desc := "()I" } : Jvm.MethodName)) ∈ q_big := q_inbig q_sub6 (i := 101) (by decide +kernel) rfl
theorem k6_102 : (Jvm.Cond.code ({ cls := "SalaryCapLedgerModel", name := "load", desc := "()I" } : Jvm.MethodName) prog_11_method_25_code (2 : Nat) (Option.some Jvm.ClassFile.FieldType.int)) ∈ q_big := q_inbig q_sub6 (i := 102) (by decide +kernel) rfl
theorem k6_103 : (Jvm.Cond.methodLink "SalaryCapLedgerModel" (127 : Nat) ({ cls := "SalaryCapLedgerModel", name := "next", desc := "()V" } : Jvm.MethodName)) ∈ q_big := q_inbig q_sub6 (i := 103) (by decide +kernel) rfl
theorem k6_105 : (Jvm.Cond.instanceMethod ({ cls := "SalaryCapLedgerModel", name := "next", desc := "()V" } : Jvm.MethodName)) ∈ q_big := q_inbig q_sub6 (i := 105) (by decide +kernel) rfl
theorem k6_106 : (Jvm.Cond.code ({ cls := "SalaryCapLedgerModel", name := "next", desc := "()V" } : Jvm.MethodName) prog_11_method_14_code (1 : Nat) (Option.none : Option Jvm.ClassFile.FieldType)) ∈ q_big := q_inbig q_sub6 (i := 106) (by decide +kernel) rfl
theorem k6_107 : (Jvm.Cond.methodLink "SalaryCapLedgerModel" (87 : Nat) ({ cls := "SalaryCapLedgerModel", name := "isFine", desc := "()Z" } : Jvm.MethodName)) ∈ q_big := q_inbig q_sub6 (i := 107) (by decide +kernel) rfl
theorem k6_109 : (Jvm.Cond.instanceMethod ({ cls := "SalaryCapLedgerModel", name := "isFine", desc := "()Z" } : Jvm.MethodName)) ∈ q_big := q_inbig q_sub6 (i := 109) (by decide +kernel) rfl
theorem k6_110 : (Jvm.Cond.code ({ cls := "SalaryCapLedgerModel", name := "isFine", desc := "()Z" } : Jvm.MethodName) prog_11_method_13_code (1 : Nat) (Option.some Jvm.ClassFile.FieldType.boolean)) ∈ q_big := q_inbig q_sub6 (i := 110) (by decide +kernel) rfl
theorem k6_111 : (Jvm.Cond.methodLink "SalaryCapLedgerModel" (72 : Nat) ({ cls := "SalaryCapLedgerModel", name := "byteAt", desc := "(I)I" } : Jvm.MethodName)) ∈ q_big := q_inbig q_sub6 (i := 111) (by decide +kernel) rfl
theorem k6_113 : (Jvm.Cond.instanceMethod ({ cls := "SalaryCapLedgerModel", name := "byteAt", desc := "(I)I" } : Jvm.MethodName)) ∈ q_big := q_inbig q_sub6 (i := 113) (by decide +kernel) rfl
theorem k6_114 : (Jvm.Cond.code ({ cls := "SalaryCapLedgerModel", name := "byteAt", desc := "(I)I" } : Jvm.MethodName) prog_11_method_10_code (2 : Nat) (Option.some Jvm.ClassFile.FieldType.int)) ∈ q_big := q_inbig q_sub6 (i := 114) (by decide +kernel) rfl
theorem k6_115 : (Jvm.Cond.methodLink "SalaryCapLedgerModel" (100 : Nat) ({ cls := "SalaryCapLedgerModel", name := "isLetterAt", desc := "(I)Z" } : Jvm.MethodName)) ∈ q_big := q_inbig q_sub6 (i := 115) (by decide +kernel) rfl
theorem k6_117 : (Jvm.Cond.instanceMethod ({ cls := "SalaryCapLedgerModel", name := "isLetterAt", desc := "(I)Z" } : Jvm.MethodName)) ∈ q_big := q_inbig q_sub6 (i := 117) (by decide +kernel) rfl
theorem k6_118 : (Jvm.Cond.code ({ cls := "SalaryCapLedgerModel", name := "isLetterAt", desc := "(I)Z" } : Jvm.MethodName) prog_11_method_11_code (2 : Nat) (Option.some Jvm.ClassFile.FieldType.boolean)) ∈ q_big := q_inbig q_sub6 (i := 118) (by decide +kernel) rfl
theorem k6_119 : (Jvm.Cond.constantLong "SalaryCapLedgerModel" (76 : Nat) (97 : Int64)) ∈ q_big := q_inbig q_sub6 (i := 119) (by decide +kernel) rfl
theorem k6_120 : (Jvm.Cond.constantLong "SalaryCapLedgerModel" (78 : Nat) (122 : Int64)) ∈ q_big := q_inbig q_sub6 (i := 120) (by decide +kernel) rfl
theorem k6_121 : (Jvm.Cond.methodLink "SalaryCapLedgerModel" (104 : Nat) ({ cls := "SalaryCapLedgerModel", name := "isDigitAt", desc := "(I)Z" } : Jvm.MethodName)) ∈ q_big := q_inbig q_sub6 (i := 121) (by decide +kernel) rfl
theorem k6_123 : (Jvm.Cond.instanceMethod ({ cls := "SalaryCapLedgerModel", name := "isDigitAt", desc := "(I)Z" } : Jvm.MethodName)) ∈ q_big := q_inbig q_sub6 (i := 123) (by decide +kernel) rfl
theorem k6_124 : (Jvm.Cond.code ({ cls := "SalaryCapLedgerModel", name := "isDigitAt", desc := "(I)Z" } : Jvm.MethodName) prog_11_method_12_code (2 : Nat) (Option.some Jvm.ClassFile.FieldType.boolean)) ∈ q_big := q_inbig q_sub6 (i := 124) (by decide +kernel) rfl
theorem k6_125 : (Jvm.Cond.constantLong "SalaryCapLedgerModel" (80 : Nat) (48 : Int64)) ∈ q_big := q_inbig q_sub6 (i := 125) (by decide +kernel) rfl
theorem k6_126 : (Jvm.Cond.constantLong "SalaryCapLedgerModel" (82 : Nat) (57 : Int64)) ∈ q_big := q_inbig q_sub6 (i := 126) (by decide +kernel) rfl
theorem k6_127 : (Jvm.Cond.methodLink "SalaryCapLedgerModel" (160 : Nat) ({ cls := "SalaryCapLedgerModel", name := "readLeague", desc := "()V" } : Jvm.MethodName)) ∈ q_big := q_inbig q_sub6 (i := 127) (by decide +kernel) rfl
theorem k6_129 : (Jvm.Cond.instanceMethod ({ cls := "SalaryCapLedgerModel", name := "readLeague", desc := "()V" } : Jvm.MethodName)) ∈ q_big := q_inbig q_sub6 (i := 129) (by decide +kernel) rfl
theorem k6_130 : (Jvm.Cond.code ({ cls := "SalaryCapLedgerModel", name := "readLeague", desc := "()V" } : Jvm.MethodName) prog_11_method_20_code (1 : Nat) (Option.none : Option Jvm.ClassFile.FieldType)) ∈ q_big := q_inbig q_sub6 (i := 130) (by decide +kernel) rfl
theorem k6_132 : (Jvm.Cond.methodLink "SalaryCapLedgerModel" (132 : Nat) ({ cls := "SalaryCapLedgerModel", name := "expect", desc := "(Ljava/lang/String;)V" } : Jvm.MethodName)) ∈ q_big := q_inbig q_sub6 (i := 132) (by decide +kernel) rfl
theorem k6_134 : (Jvm.Cond.instanceMethod ({ cls := "SalaryCapLedgerModel", name := "expect", desc := "(Ljava/lang/String;)V" } : Jvm.MethodName)) ∈ q_big := q_inbig q_sub6 (i := 134) (by decide +kernel) rfl
theorem k6_135 : (Jvm.Cond.code ({ cls := "SalaryCapLedgerModel", name := "expect", desc := "(Ljava/lang/String;)V" } : Jvm.MethodName) prog_11_method_17_code (2 : Nat) (Option.none : Option Jvm.ClassFile.FieldType)) ∈ q_big := q_inbig q_sub6 (i := 135) (by decide +kernel) rfl
theorem k6_136 : (Jvm.Cond.methodLink "SalaryCapLedgerModel" (120 : Nat) ({ cls := "SalaryCapLedgerModel", name := "isWord", desc := "(Ljava/lang/String;)Z" } : Jvm.MethodName)) ∈ q_big := q_inbig q_sub6 (i := 136) (by decide +kernel) rfl
theorem k6_138 : (Jvm.Cond.instanceMethod ({ cls := "SalaryCapLedgerModel", name := "isWord", desc := "(Ljava/lang/String;)Z" } : Jvm.MethodName)) ∈ q_big := q_inbig q_sub6 (i := 138) (by decide +kernel) rfl
theorem k6_139 : (Jvm.Cond.code ({ cls := "SalaryCapLedgerModel", name := "isWord", desc := "(Ljava/lang/String;)Z" } : Jvm.MethodName) prog_11_method_16_code (3 : Nat) (Option.some Jvm.ClassFile.FieldType.boolean)) ∈ q_big := q_inbig q_sub6 (i := 139) (by decide +kernel) rfl
theorem k6_140 : (Jvm.Cond.methodLink "SalaryCapLedgerModel" (110 : Nat) ({ cls := "java/lang/String", name := "length", desc := "()I" } : Jvm.MethodName)) ∈ q_big := q_inbig q_sub6 (i := 140) (by decide +kernel) rfl
theorem k6_141 : (Jvm.Cond.methodLink "SalaryCapLedgerModel" (116 : Nat) ({ cls := "java/lang/String", name := "charAt", desc := "(I)C" } : Jvm.MethodName)) ∈ q_big := q_inbig q_sub6 (i := 141) (by decide +kernel) rfl
theorem k6_142 : (Jvm.Cond.methodLink "SalaryCapLedgerModel" (124 : Nat) ({ cls := "SalaryCapLedgerModel", name := "fail", desc := "(I)V" } : Jvm.MethodName)) ∈ q_big := q_inbig q_sub6 (i := 142) (by decide +kernel) rfl
theorem k6_144 : (Jvm.Cond.instanceMethod ({ cls := "SalaryCapLedgerModel", name := "fail", desc := "(I)V" } : Jvm.MethodName)) ∈ q_big := q_inbig q_sub6 (i := 144) (by decide +kernel) rfl
theorem k6_145 : (Jvm.Cond.code ({ cls := "SalaryCapLedgerModel", name := "fail", desc := "(I)V" } : Jvm.MethodName) prog_11_method_15_code (2 : Nat) (Option.none : Option Jvm.ClassFile.FieldType)) ∈ q_big := q_inbig q_sub6 (i := 145) (by decide +kernel) rfl
theorem k6_146 : (Jvm.Cond.constant "SalaryCapLedgerModel" (136 : Nat) (999999 : Int32)) ∈ q_big := q_inbig q_sub6 (i := 146) (by decide +kernel) rfl
theorem k6_147 : (Jvm.Cond.methodLink "SalaryCapLedgerModel" (137 : Nat) ({ cls := "SalaryCapLedgerModel", name := "read", desc := "(II)I" } : Jvm.MethodName)) ∈ q_big := q_inbig q_sub6 (i := 147) (by decide +kernel) rfl
theorem k6_149 : (Jvm.Cond.instanceMethod ({ cls := "SalaryCapLedgerModel", name := "read", desc := "(II)I" } : Jvm.MethodName)) ∈ q_big := q_inbig q_sub6 (i := 149) (by decide +kernel) rfl
theorem k6_150 : (Jvm.Cond.code ({ cls := "SalaryCapLedgerModel", name := "read", desc := "(II)I" } : Jvm.MethodName) prog_11_method_18_code (4 : Nat) (Option.some Jvm.ClassFile.FieldType.int)) ∈ q_big := q_inbig q_sub6 (i := 150) (by decide +kernel) rfl
theorem k6_151 : (Jvm.Cond.constant "SalaryCapLedgerModel" (141 : Nat) (99999 : Int32)) ∈ q_big := q_inbig q_sub6 (i := 151) (by decide +kernel) rfl
theorem k6_152 : (Jvm.Cond.methodLink "SalaryCapLedgerModel" (142 : Nat) ({ cls := "SalaryCapLedgerModel", name := "expectSemicolon", desc := "()V" } : Jvm.MethodName)) ∈ q_big := q_inbig q_sub6 (i := 152) (by decide +kernel) rfl
theorem k6_154 : (Jvm.Cond.instanceMethod ({ cls := "SalaryCapLedgerModel", name := "expectSemicolon", desc := "()V" } : Jvm.MethodName)) ∈ q_big := q_inbig q_sub6 (i := 154) (by decide +kernel) rfl
theorem k6_155 : (Jvm.Cond.code ({ cls := "SalaryCapLedgerModel", name := "expectSemicolon", desc := "()V" } : Jvm.MethodName) prog_11_method_19_code (1 : Nat) (Option.none : Option Jvm.ClassFile.FieldType)) ∈ q_big := q_inbig q_sub6 (i := 155) (by decide +kernel) rfl
theorem k6_156 : (Jvm.Cond.methodLink "SalaryCapLedgerModel" (163 : Nat) ({ cls := "SalaryCapLedgerModel", name := "readBrackets", desc := "()V" } : Jvm.MethodName)) ∈ q_big := q_inbig q_sub6 (i := 156) (by decide +kernel) rfl
theorem k6_158 : (Jvm.Cond.instanceMethod ({ cls := "SalaryCapLedgerModel", name := "readBrackets", desc := "()V" } : Jvm.MethodName)) ∈ q_big := q_inbig q_sub6 (i := 158) (by decide +kernel) rfl
theorem k6_159 : (Jvm.Cond.code ({ cls := "SalaryCapLedgerModel", name := "readBrackets", desc := "()V" } : Jvm.MethodName) prog_11_method_21_code (1 : Nat) (Option.none : Option Jvm.ClassFile.FieldType)) ∈ q_big := q_inbig q_sub6 (i := 159) (by decide +kernel) rfl
theorem k6_164 : (Jvm.Cond.methodLink "SalaryCapLedgerModel" (172 : Nat) ({ cls := "SalaryCapLedgerModel", name := "readContract", desc := "()V" } : Jvm.MethodName)) ∈ q_big := q_inbig q_sub6 (i := 164) (by decide +kernel) rfl
theorem k6_166 : (Jvm.Cond.instanceMethod ({ cls := "SalaryCapLedgerModel", name := "readContract", desc := "()V" } : Jvm.MethodName)) ∈ q_big := q_inbig q_sub6 (i := 166) (by decide +kernel) rfl
theorem k6_167 : (Jvm.Cond.code ({ cls := "SalaryCapLedgerModel", name := "readContract", desc := "()V" } : Jvm.MethodName) prog_11_method_24_code (9 : Nat) (Option.none : Option Jvm.ClassFile.FieldType)) ∈ q_big := q_inbig q_sub6 (i := 167) (by decide +kernel) rfl
theorem k6_168 : (Jvm.Cond.methodLink "SalaryCapLedgerModel" (153 : Nat) ({ cls := "SalaryCapLedgerModel", name := "readTaker", desc := "(IZ)I" } : Jvm.MethodName)) ∈ q_big := q_inbig q_sub6 (i := 168) (by decide +kernel) rfl
theorem k6_170 : (Jvm.Cond.instanceMethod ({ cls := "SalaryCapLedgerModel", name := "readTaker", desc := "(IZ)I" } : Jvm.MethodName)) ∈ q_big := q_inbig q_sub6 (i := 170) (by decide +kernel) rfl
theorem k6_171 : (Jvm.Cond.code ({ cls := "SalaryCapLedgerModel", name := "readTaker", desc := "(IZ)I" } : Jvm.MethodName) prog_11_method_23_code (3 : Nat) (Option.some Jvm.ClassFile.FieldType.int)) ∈ q_big := q_inbig q_sub6 (i := 171) (by decide +kernel) rfl
theorem k6_172 : (Jvm.Cond.methodLink "SalaryCapLedgerModel" (150 : Nat) ({ cls := "SalaryCapLedgerModel", name := "draftRoster", desc := "(I)I" } : Jvm.MethodName)) ∈ q_big := q_inbig q_sub6 (i := 172) (by decide +kernel) rfl
theorem k6_174 : (Jvm.Cond.instanceMethod ({ cls := "SalaryCapLedgerModel", name := "draftRoster", desc := "(I)I" } : Jvm.MethodName)) ∈ q_big := q_inbig q_sub6 (i := 174) (by decide +kernel) rfl
theorem k6_175 : (Jvm.Cond.code ({ cls := "SalaryCapLedgerModel", name := "draftRoster", desc := "(I)I" } : Jvm.MethodName) prog_11_method_22_code (4 : Nat) (Option.some Jvm.ClassFile.FieldType.int)) ∈ q_big := q_inbig q_sub6 (i := 175) (by decide +kernel) rfl
theorem k6_176 : (Jvm.Cond.methodLink "SalaryCapLedgerModel" (175 : Nat) ({ cls := "SalaryCapLedgerModel", name := "takeOver", desc := "()V" } : Jvm.MethodName)) ∈ q_big := q_inbig q_sub6 (i := 176) (by decide +kernel) rfl
theorem k6_178 : (Jvm.Cond.instanceMethod ({ cls := "SalaryCapLedgerModel", name := "takeOver", desc := "()V" } : Jvm.MethodName)) ∈ q_big := q_inbig q_sub6 (i := 178) (by decide +kernel) rfl
theorem k6_179 : (Jvm.Cond.code ({ cls := "SalaryCapLedgerModel", name := "takeOver", desc := "()V" } : Jvm.MethodName) prog_11_method_26_code (4 : Nat) (Option.none : Option Jvm.ClassFile.FieldType)) ∈ q_big := q_inbig q_sub6 (i := 179) (by decide +kernel) rfl
theorem k6_180 : (Jvm.Cond.methodLink "SalaryCapLedgerLaw" (164 : Nat) ({ cls := "SalaryCapLedgerModel", name := "errorPosition", desc := "()I" } : Jvm.MethodName)) ∈ q_big := q_inbig q_sub6 (i := 180) (by decide +kernel) rfl
theorem k6_181 : (Jvm.Cond.instanceMethod ({ cls := "SalaryCapLedgerModel", name := "errorPosition", desc := "()I" } : Jvm.MethodName)) ∈ q_big := q_inbig q_sub6 (i := 181) (by decide +kernel) rfl
theorem k6_182 : (Jvm.Cond.selects "SalaryCapLedgerModel" ({ cls := "SalaryCapLedgerModel", name := "errorPosition", desc := "()I" } : Jvm.MethodName) ({ cls := "SalaryCapLedgerModel", name := "errorPosition", desc := "()I" } : Jvm.MethodName)) ∈ q_big := q_inbig q_sub6 (i := 182) (by decide +kernel) rfl
theorem k6_183 : (Jvm.Cond.code ({ cls := "SalaryCapLedgerModel", name := "errorPosition", desc := "()I" } : Jvm.MethodName) prog_11_method_27_code (1 : Nat) (Option.some Jvm.ClassFile.FieldType.int)) ∈ q_big := q_inbig q_sub6 (i := 183) (by decide +kernel) rfl
theorem k6_184 : (Jvm.Cond.methodLink "SalaryCapLedgerLaw" (276 : Nat) ({ cls := "SalaryCapLedgerModel", name := "undo", desc := "()I" } : Jvm.MethodName)) ∈ q_big := q_inbig q_sub6 (i := 184) (by decide +kernel) rfl
theorem k6_185 : (Jvm.Cond.instanceMethod ({ cls := "SalaryCapLedgerModel", name := "undo", desc := "()I" } : Jvm.MethodName)) ∈ q_big := q_inbig q_sub6 (i := 185) (by decide +kernel) rfl
theorem k6_186 : (Jvm.Cond.selects "SalaryCapLedgerModel" ({ cls := "SalaryCapLedgerModel", name := "undo", desc := "()I" } : Jvm.MethodName) ({ cls := "SalaryCapLedgerModel", name := "undo", desc := "()I" } : Jvm.MethodName)) ∈ q_big := q_inbig q_sub6 (i := 186) (by decide +kernel) rfl
theorem k6_187 : (Jvm.Cond.code ({ cls := "SalaryCapLedgerModel", name := "undo", desc := "()I" } : Jvm.MethodName) prog_11_method_34_code (2 : Nat) (Option.some Jvm.ClassFile.FieldType.int)) ∈ q_big := q_inbig q_sub6 (i := 187) (by decide +kernel) rfl
theorem k6_188 : (Jvm.Cond.methodLink "SalaryCapLedgerModel" (203 : Nat) ({ cls := "SalaryCapLedgerModel", name := "isWrong", desc := "(Z)Z" } : Jvm.MethodName)) ∈ q_big := q_inbig q_sub6 (i := 188) (by decide +kernel) rfl
theorem k6_190 : (Jvm.Cond.instanceMethod ({ cls := "SalaryCapLedgerModel", name := "isWrong", desc := "(Z)Z" } : Jvm.MethodName)) ∈ q_big := q_inbig q_sub6 (i := 190) (by decide +kernel) rfl
theorem k6_191 : (Jvm.Cond.code ({ cls := "SalaryCapLedgerModel", name := "isWrong", desc := "(Z)Z" } : Jvm.MethodName) prog_11_method_6_code (2 : Nat) (Option.some Jvm.ClassFile.FieldType.boolean)) ∈ q_big := q_inbig q_sub6 (i := 191) (by decide +kernel) rfl
theorem k6_192 : (Jvm.Cond.methodLink "SalaryCapLedgerLaw" (167 : Nat) ({ cls := "SalaryCapLedgerModel", name := "makeOffer", desc := "(IIIII)I" } : Jvm.MethodName)) ∈ q_big := q_inbig q_sub6 (i := 192) (by decide +kernel) rfl
theorem k6_193 : (Jvm.Cond.instanceMethod ({ cls := "SalaryCapLedgerModel", name := "makeOffer", desc := "(IIIII)I" } : Jvm.MethodName)) ∈ q_big := q_inbig q_sub6 (i := 193) (by decide +kernel) rfl
theorem k6_194 : (Jvm.Cond.selects "SalaryCapLedgerModel" ({ cls := "SalaryCapLedgerModel", name := "makeOffer", desc := "(IIIII)I" } : Jvm.MethodName) ({ cls := "SalaryCapLedgerModel", name := "makeOffer", desc := "(IIIII)I" } : Jvm.MethodName)) ∈ q_big := q_inbig q_sub6 (i := 194) (by decide +kernel) rfl
theorem k6_195 : (Jvm.Cond.code ({ cls := "SalaryCapLedgerModel", name := "makeOffer", desc := "(IIIII)I" } : Jvm.MethodName) prog_11_method_59_code (6 : Nat) (Option.some Jvm.ClassFile.FieldType.int)) ∈ q_big := q_inbig q_sub6 (i := 195) (by decide +kernel) rfl
theorem k6_196 : (Jvm.Cond.constantLong "SalaryCapLedgerModel" (279 : Nat) (99999 : Int64)) ∈ q_big := q_inbig q_sub6 (i := 196) (by decide +kernel) rfl
theorem k6_197 : (Jvm.Cond.constantLong "SalaryCapLedgerModel" (281 : Nat) (20 : Int64)) ∈ q_big := q_inbig q_sub6 (i := 197) (by decide +kernel) rfl
theorem k6_198 : (Jvm.Cond.constantLong "SalaryCapLedgerModel" (283 : Nat) (5 : Int64)) ∈ q_big := q_inbig q_sub6 (i := 198) (by decide +kernel) rfl
theorem k6_199 : (Jvm.Cond.methodLink "SalaryCapLedgerModel" (285 : Nat) ({ cls := "SalaryCapLedgerModel", name := "remember", desc := "()V" } : Jvm.MethodName)) ∈ q_big := q_inbig q_sub6 (i := 199) (by decide +kernel) rfl
theorem k6_201 : (Jvm.Cond.instanceMethod ({ cls := "SalaryCapLedgerModel", name := "remember", desc := "()V" } : Jvm.MethodName)) ∈ q_big := q_inbig q_sub6 (i := 201) (by decide +kernel) rfl
theorem k6_202 : (Jvm.Cond.code ({ cls := "SalaryCapLedgerModel", name := "remember", desc := "()V" } : Jvm.MethodName) prog_11_method_33_code (2 : Nat) (Option.none : Option Jvm.ClassFile.FieldType)) ∈ q_big := q_inbig q_sub6 (i := 202) (by decide +kernel) rfl
theorem k6_203 : (Jvm.Cond.methodLink "SalaryCapLedgerModel" (288 : Nat) ({ cls := "SalaryCapLedgerModel", name := "firstCost", desc := "()I" } : Jvm.MethodName)) ∈ q_big := q_inbig q_sub6 (i := 203) (by decide +kernel) rfl
theorem k6_205 : (Jvm.Cond.instanceMethod ({ cls := "SalaryCapLedgerModel", name := "firstCost", desc := "()I" } : Jvm.MethodName)) ∈ q_big := q_inbig q_sub6 (i := 205) (by decide +kernel) rfl
theorem k6_206 : (Jvm.Cond.code ({ cls := "SalaryCapLedgerModel", name := "firstCost", desc := "()I" } : Jvm.MethodName) prog_11_method_62_code (1 : Nat) (Option.some Jvm.ClassFile.FieldType.int)) ∈ q_big := q_inbig q_sub6 (i := 206) (by decide +kernel) rfl
theorem k6_207 : (Jvm.Cond.methodLink "SalaryCapLedgerModel" (291 : Nat) ({ cls := "SalaryCapLedgerModel", name := "ofOffer", desc := "(I)I" } : Jvm.MethodName)) ∈ q_big := q_inbig q_sub6 (i := 207) (by decide +kernel) rfl
theorem k6_209 : (Jvm.Cond.instanceMethod ({ cls := "SalaryCapLedgerModel", name := "ofOffer", desc := "(I)I" } : Jvm.MethodName)) ∈ q_big := q_inbig q_sub6 (i := 209) (by decide +kernel) rfl
theorem k6_210 : (Jvm.Cond.code ({ cls := "SalaryCapLedgerModel", name := "ofOffer", desc := "(I)I" } : Jvm.MethodName) prog_11_method_60_code (2 : Nat) (Option.some Jvm.ClassFile.FieldType.int)) ∈ q_big := q_inbig q_sub6 (i := 210) (by decide +kernel) rfl
theorem k6_211 : (Jvm.Cond.methodLink "SalaryCapLedgerModel" (294 : Nat) ({ cls := "SalaryCapLedgerModel", name := "firstShare", desc := "()I" } : Jvm.MethodName)) ∈ q_big := q_inbig q_sub6 (i := 211) (by decide +kernel) rfl
theorem k6_213 : (Jvm.Cond.instanceMethod ({ cls := "SalaryCapLedgerModel", name := "firstShare", desc := "()I" } : Jvm.MethodName)) ∈ q_big := q_inbig q_sub6 (i := 213) (by decide +kernel) rfl
theorem k6_214 : (Jvm.Cond.code ({ cls := "SalaryCapLedgerModel", name := "firstShare", desc := "()I" } : Jvm.MethodName) prog_11_method_61_code (1 : Nat) (Option.some Jvm.ClassFile.FieldType.int)) ∈ q_big := q_inbig q_sub6 (i := 214) (by decide +kernel) rfl
theorem k6_215 : (Jvm.Cond.methodLink "SalaryCapLedgerModel" (225 : Nat) ({ cls := "SalaryCapLedgerModel", name := "shareBy", desc := "(III)I" } : Jvm.MethodName)) ∈ q_big := q_inbig q_sub6 (i := 215) (by decide +kernel) rfl
theorem k6_216 : (Jvm.Cond.static ({ cls := "SalaryCapLedgerModel", name := "shareBy", desc := "(III)I" } : Jvm.MethodName)) ∈ q_big := q_inbig q_sub6 (i := 216) (by decide +kernel) rfl
theorem k6_217 : (Jvm.Cond.code ({ cls := "SalaryCapLedgerModel", name := "shareBy", desc := "(III)I" } : Jvm.MethodName) prog_11_method_43_code (3 : Nat) (Option.some Jvm.ClassFile.FieldType.int)) ∈ q_big := q_inbig q_sub6 (i := 217) (by decide +kernel) rfl
theorem k6_218 : (Jvm.Cond.methodLink "SalaryCapLedgerLaw" (171 : Nat) ({ cls := "SalaryCapLedgerModel", name := "sign", desc := "(III)I" } : Jvm.MethodName)) ∈ q_big := q_inbig q_sub6 (i := 218) (by decide +kernel) rfl
theorem k6_219 : (Jvm.Cond.instanceMethod ({ cls := "SalaryCapLedgerModel", name := "sign", desc := "(III)I" } : Jvm.MethodName)) ∈ q_big := q_inbig q_sub6 (i := 219) (by decide +kernel) rfl
theorem k6_220 : (Jvm.Cond.selects "SalaryCapLedgerModel" ({ cls := "SalaryCapLedgerModel", name := "sign", desc := "(III)I" } : Jvm.MethodName) ({ cls := "SalaryCapLedgerModel", name := "sign", desc := "(III)I" } : Jvm.MethodName)) ∈ q_big := q_inbig q_sub6 (i := 220) (by decide +kernel) rfl
theorem k6_221 : (Jvm.Cond.code ({ cls := "SalaryCapLedgerModel", name := "sign", desc := "(III)I" } : Jvm.MethodName) prog_11_method_66_code (6 : Nat) (Option.some Jvm.ClassFile.FieldType.int)) ∈ q_big := q_inbig q_sub6 (i := 221) (by decide +kernel) rfl
theorem k6_222 : (Jvm.Cond.methodLink "SalaryCapLedgerModel" (318 : Nat) ({ cls := "SalaryCapLedgerModel", name := "isSigning", desc := "(III)Z" } : Jvm.MethodName)) ∈ q_big := q_inbig q_sub6 (i := 222) (by decide +kernel) rfl
theorem k6_224 : (Jvm.Cond.instanceMethod ({ cls := "SalaryCapLedgerModel", name := "isSigning", desc := "(III)Z" } : Jvm.MethodName)) ∈ q_big := q_inbig q_sub6 (i := 224) (by decide +kernel) rfl
theorem k6_225 : (Jvm.Cond.code ({ cls := "SalaryCapLedgerModel", name := "isSigning", desc := "(III)Z" } : Jvm.MethodName) prog_11_method_65_code (4 : Nat) (Option.some Jvm.ClassFile.FieldType.boolean)) ∈ q_big := q_inbig q_sub6 (i := 225) (by decide +kernel) rfl
theorem k6_226 : (Jvm.Cond.methodLink "SalaryCapLedgerModel" (310 : Nat) ({ cls := "SalaryCapLedgerModel", name := "isTeam", desc := "(I)Z" } : Jvm.MethodName)) ∈ q_big := q_inbig q_sub6 (i := 226) (by decide +kernel) rfl
theorem k6_228 : (Jvm.Cond.instanceMethod ({ cls := "SalaryCapLedgerModel", name := "isTeam", desc := "(I)Z" } : Jvm.MethodName)) ∈ q_big := q_inbig q_sub6 (i := 228) (by decide +kernel) rfl
theorem k6_229 : (Jvm.Cond.code ({ cls := "SalaryCapLedgerModel", name := "isTeam", desc := "(I)Z" } : Jvm.MethodName) prog_11_method_37_code (2 : Nat) (Option.some Jvm.ClassFile.FieldType.boolean)) ∈ q_big := q_inbig q_sub6 (i := 229) (by decide +kernel) rfl
theorem k6_230 : (Jvm.Cond.methodLink "SalaryCapLedgerModel" (313 : Nat) ({ cls := "SalaryCapLedgerModel", name := "isPlayer", desc := "(I)Z" } : Jvm.MethodName)) ∈ q_big := q_inbig q_sub6 (i := 230) (by decide +kernel) rfl
theorem k6_232 : (Jvm.Cond.instanceMethod ({ cls := "SalaryCapLedgerModel", name := "isPlayer", desc := "(I)Z" } : Jvm.MethodName)) ∈ q_big := q_inbig q_sub6 (i := 232) (by decide +kernel) rfl
theorem k6_233 : (Jvm.Cond.code ({ cls := "SalaryCapLedgerModel", name := "isPlayer", desc := "(I)Z" } : Jvm.MethodName) prog_11_method_38_code (2 : Nat) (Option.some Jvm.ClassFile.FieldType.boolean)) ∈ q_big := q_inbig q_sub6 (i := 233) (by decide +kernel) rfl
theorem k6_234 : (Jvm.Cond.constantLong "SalaryCapLedgerModel" (316 : Nat) (3 : Int64)) ∈ q_big := q_inbig q_sub6 (i := 234) (by decide +kernel) rfl
theorem k6_235 : (Jvm.Cond.methodLink "SalaryCapLedgerModel" (321 : Nat) ({ cls := "SalaryCapLedgerModel", name := "whyNotSign", desc := "(III)I" } : Jvm.MethodName)) ∈ q_big := q_inbig q_sub6 (i := 235) (by decide +kernel) rfl
theorem k6_237 : (Jvm.Cond.instanceMethod ({ cls := "SalaryCapLedgerModel", name := "whyNotSign", desc := "(III)I" } : Jvm.MethodName)) ∈ q_big := q_inbig q_sub6 (i := 237) (by decide +kernel) rfl
theorem k6_238 : (Jvm.Cond.code ({ cls := "SalaryCapLedgerModel", name := "whyNotSign", desc := "(III)I" } : Jvm.MethodName) prog_11_method_64_code (4 : Nat) (Option.some Jvm.ClassFile.FieldType.int)) ∈ q_big := q_inbig q_sub6 (i := 238) (by decide +kernel) rfl
theorem k6_239 : (Jvm.Cond.methodLink "SalaryCapLedgerModel" (215 : Nat) ({ cls := "SalaryCapLedgerModel", name := "hasContract", desc := "(I)Z" } : Jvm.MethodName)) ∈ q_big := q_inbig q_sub6 (i := 239) (by decide +kernel) rfl
theorem k7_1 : (Jvm.Cond.instanceMethod ({ cls := "SalaryCapLedgerModel", name := "hasContract", desc := "(I)Z" } : Jvm.MethodName)) ∈ q_big := q_inbig q_sub7 (i := 1) (by decide +kernel) rfl
theorem k7_2 : (Jvm.Cond.code ({ cls := "SalaryCapLedgerModel", name := "hasContract", desc := "(I)Z" } : Jvm.MethodName) prog_11_method_40_code (2 : Nat) (Option.some Jvm.ClassFile.FieldType.boolean)) ∈ q_big := q_inbig q_sub7 (i := 2) (by decide +kernel) rfl
theorem k7_3 : (Jvm.Cond.methodLink "SalaryCapLedgerModel" (209 : Nat) ({ cls := "SalaryCapLedgerModel", name := "ofPlayer", desc := "(II)I" } : Jvm.MethodName)) ∈ q_big := q_inbig q_sub7 (i := 3) (by decide +kernel) rfl
theorem k7_5 : (Jvm.Cond.instanceMethod ({ cls := "SalaryCapLedgerModel", name := "ofPlayer", desc := "(II)I" } : Jvm.MethodName)) ∈ q_big := q_inbig q_sub7 (i := 5) (by decide +kernel) rfl
theorem k7_6 : (Jvm.Cond.code ({ cls := "SalaryCapLedgerModel", name := "ofPlayer", desc := "(II)I" } : Jvm.MethodName) prog_11_method_28_code (3 : Nat) (Option.some Jvm.ClassFile.FieldType.int)) ∈ q_big := q_inbig q_sub7 (i := 6) (by decide +kernel) rfl
theorem k7_7 : (Jvm.Cond.methodLink "SalaryCapLedgerModel" (300 : Nat) ({ cls := "SalaryCapLedgerModel", name := "rosterOf", desc := "(I)I" } : Jvm.MethodName)) ∈ q_big := q_inbig q_sub7 (i := 7) (by decide +kernel) rfl
theorem k7_9 : (Jvm.Cond.instanceMethod ({ cls := "SalaryCapLedgerModel", name := "rosterOf", desc := "(I)I" } : Jvm.MethodName)) ∈ q_big := q_inbig q_sub7 (i := 9) (by decide +kernel) rfl
theorem k7_10 : (Jvm.Cond.code ({ cls := "SalaryCapLedgerModel", name := "rosterOf", desc := "(I)I" } : Jvm.MethodName) prog_11_method_53_code (4 : Nat) (Option.some Jvm.ClassFile.FieldType.int)) ∈ q_big := q_inbig q_sub7 (i := 10) (by decide +kernel) rfl
theorem k7_11 : (Jvm.Cond.methodLink "SalaryCapLedgerModel" (303 : Nat) ({ cls := "SalaryCapLedgerModel", name := "many", desc := "(I)I" } : Jvm.MethodName)) ∈ q_big := q_inbig q_sub7 (i := 11) (by decide +kernel) rfl
theorem k7_12 : (Jvm.Cond.static ({ cls := "SalaryCapLedgerModel", name := "many", desc := "(I)I" } : Jvm.MethodName)) ∈ q_big := q_inbig q_sub7 (i := 12) (by decide +kernel) rfl
theorem k7_13 : (Jvm.Cond.code ({ cls := "SalaryCapLedgerModel", name := "many", desc := "(I)I" } : Jvm.MethodName) prog_11_method_5_code (3 : Nat) (Option.some Jvm.ClassFile.FieldType.int)) ∈ q_big := q_inbig q_sub7 (i := 13) (by decide +kernel) rfl
theorem k7_14 : (Jvm.Cond.methodLink "SalaryCapLedgerModel" (306 : Nat) ({ cls := "SalaryCapLedgerModel", name := "isAllowed", desc := "(III)Z" } : Jvm.MethodName)) ∈ q_big := q_inbig q_sub7 (i := 14) (by decide +kernel) rfl
theorem k7_16 : (Jvm.Cond.instanceMethod ({ cls := "SalaryCapLedgerModel", name := "isAllowed", desc := "(III)Z" } : Jvm.MethodName)) ∈ q_big := q_inbig q_sub7 (i := 16) (by decide +kernel) rfl
theorem k7_17 : (Jvm.Cond.code ({ cls := "SalaryCapLedgerModel", name := "isAllowed", desc := "(III)Z" } : Jvm.MethodName) prog_11_method_63_code (4 : Nat) (Option.some Jvm.ClassFile.FieldType.boolean)) ∈ q_big := q_inbig q_sub7 (i := 17) (by decide +kernel) rfl
theorem k7_18 : (Jvm.Cond.methodLink "SalaryCapLedgerModel" (297 : Nat) ({ cls := "SalaryCapLedgerModel", name := "roomOf", desc := "(I)I" } : Jvm.MethodName)) ∈ q_big := q_inbig q_sub7 (i := 18) (by decide +kernel) rfl
theorem k7_20 : (Jvm.Cond.instanceMethod ({ cls := "SalaryCapLedgerModel", name := "roomOf", desc := "(I)I" } : Jvm.MethodName)) ∈ q_big := q_inbig q_sub7 (i := 20) (by decide +kernel) rfl
theorem k7_21 : (Jvm.Cond.code ({ cls := "SalaryCapLedgerModel", name := "roomOf", desc := "(I)I" } : Jvm.MethodName) prog_11_method_52_code (2 : Nat) (Option.some Jvm.ClassFile.FieldType.int)) ∈ q_big := q_inbig q_sub7 (i := 21) (by decide +kernel) rfl
theorem k7_22 : (Jvm.Cond.methodLink "SalaryCapLedgerModel" (246 : Nat) ({ cls := "SalaryCapLedgerModel", name := "capIn", desc := "(I)I" } : Jvm.MethodName)) ∈ q_big := q_inbig q_sub7 (i := 22) (by decide +kernel) rfl
theorem k7_24 : (Jvm.Cond.instanceMethod ({ cls := "SalaryCapLedgerModel", name := "capIn", desc := "(I)I" } : Jvm.MethodName)) ∈ q_big := q_inbig q_sub7 (i := 24) (by decide +kernel) rfl
theorem k7_25 : (Jvm.Cond.code ({ cls := "SalaryCapLedgerModel", name := "capIn", desc := "(I)I" } : Jvm.MethodName) prog_11_method_50_code (2 : Nat) (Option.some Jvm.ClassFile.FieldType.int)) ∈ q_big := q_inbig q_sub7 (i := 25) (by decide +kernel) rfl
theorem k7_26 : (Jvm.Cond.methodLink "SalaryCapLedgerModel" (212 : Nat) ({ cls := "SalaryCapLedgerModel", name := "now", desc := "()I" } : Jvm.MethodName)) ∈ q_big := q_inbig q_sub7 (i := 26) (by decide +kernel) rfl
theorem k7_28 : (Jvm.Cond.instanceMethod ({ cls := "SalaryCapLedgerModel", name := "now", desc := "()I" } : Jvm.MethodName)) ∈ q_big := q_inbig q_sub7 (i := 28) (by decide +kernel) rfl
theorem k7_29 : (Jvm.Cond.code ({ cls := "SalaryCapLedgerModel", name := "now", desc := "()I" } : Jvm.MethodName) prog_11_method_32_code (1 : Nat) (Option.some Jvm.ClassFile.FieldType.int)) ∈ q_big := q_inbig q_sub7 (i := 29) (by decide +kernel) rfl
theorem k7_30 : (Jvm.Cond.methodLink "SalaryCapLedgerModel" (243 : Nat) ({ cls := "SalaryCapLedgerModel", name := "grown", desc := "(II)I" } : Jvm.MethodName)) ∈ q_big := q_inbig q_sub7 (i := 30) (by decide +kernel) rfl
theorem k7_32 : (Jvm.Cond.instanceMethod ({ cls := "SalaryCapLedgerModel", name := "grown", desc := "(II)I" } : Jvm.MethodName)) ∈ q_big := q_inbig q_sub7 (i := 32) (by decide +kernel) rfl
theorem k7_33 : (Jvm.Cond.code ({ cls := "SalaryCapLedgerModel", name := "grown", desc := "(II)I" } : Jvm.MethodName) prog_11_method_49_code (6 : Nat) (Option.some Jvm.ClassFile.FieldType.int)) ∈ q_big := q_inbig q_sub7 (i := 33) (by decide +kernel) rfl
theorem k7_34 : (Jvm.Cond.constantLong "SalaryCapLedgerModel" (241 : Nat) (1000 : Int64)) ∈ q_big := q_inbig q_sub7 (i := 34) (by decide +kernel) rfl
theorem k7_35 : (Jvm.Cond.methodLink "SalaryCapLedgerModel" (249 : Nat) ({ cls := "SalaryCapLedgerModel", name := "chargeOf", desc := "(II)I" } : Jvm.MethodName)) ∈ q_big := q_inbig q_sub7 (i := 35) (by decide +kernel) rfl
theorem k7_37 : (Jvm.Cond.instanceMethod ({ cls := "SalaryCapLedgerModel", name := "chargeOf", desc := "(II)I" } : Jvm.MethodName)) ∈ q_big := q_inbig q_sub7 (i := 37) (by decide +kernel) rfl
theorem k7_38 : (Jvm.Cond.code ({ cls := "SalaryCapLedgerModel", name := "chargeOf", desc := "(II)I" } : Jvm.MethodName) prog_11_method_48_code (5 : Nat) (Option.some Jvm.ClassFile.FieldType.int)) ∈ q_big := q_inbig q_sub7 (i := 38) (by decide +kernel) rfl
theorem k7_39 : (Jvm.Cond.methodLink "SalaryCapLedgerModel" (235 : Nat) ({ cls := "SalaryCapLedgerModel", name := "deadIn", desc := "(II)I" } : Jvm.MethodName)) ∈ q_big := q_inbig q_sub7 (i := 39) (by decide +kernel) rfl
theorem k7_41 : (Jvm.Cond.instanceMethod ({ cls := "SalaryCapLedgerModel", name := "deadIn", desc := "(II)I" } : Jvm.MethodName)) ∈ q_big := q_inbig q_sub7 (i := 41) (by decide +kernel) rfl
theorem k7_42 : (Jvm.Cond.code ({ cls := "SalaryCapLedgerModel", name := "deadIn", desc := "(II)I" } : Jvm.MethodName) prog_11_method_47_code (4 : Nat) (Option.some Jvm.ClassFile.FieldType.int)) ∈ q_big := q_inbig q_sub7 (i := 42) (by decide +kernel) rfl
theorem k7_43 : (Jvm.Cond.methodLink "SalaryCapLedgerModel" (231 : Nat) ({ cls := "SalaryCapLedgerModel", name := "ofTeam", desc := "(II)J" } : Jvm.MethodName)) ∈ q_big := q_inbig q_sub7 (i := 43) (by decide +kernel) rfl
theorem k7_45 : (Jvm.Cond.instanceMethod ({ cls := "SalaryCapLedgerModel", name := "ofTeam", desc := "(II)J" } : Jvm.MethodName)) ∈ q_big := q_inbig q_sub7 (i := 45) (by decide +kernel) rfl
theorem k7_46 : (Jvm.Cond.code ({ cls := "SalaryCapLedgerModel", name := "ofTeam", desc := "(II)J" } : Jvm.MethodName) prog_11_method_30_code (3 : Nat) (Option.some Jvm.ClassFile.FieldType.long)) ∈ q_big := q_inbig q_sub7 (i := 46) (by decide +kernel) rfl
theorem k7_47 : (Jvm.Cond.methodLink "SalaryCapLedgerModel" (238 : Nat) ({ cls := "SalaryCapLedgerModel", name := "salaryIn", desc := "(II)I" } : Jvm.MethodName)) ∈ q_big := q_inbig q_sub7 (i := 47) (by decide +kernel) rfl
theorem k7_49 : (Jvm.Cond.instanceMethod ({ cls := "SalaryCapLedgerModel", name := "salaryIn", desc := "(II)I" } : Jvm.MethodName)) ∈ q_big := q_inbig q_sub7 (i := 49) (by decide +kernel) rfl
theorem k7_50 : (Jvm.Cond.code ({ cls := "SalaryCapLedgerModel", name := "salaryIn", desc := "(II)I" } : Jvm.MethodName) prog_11_method_44_code (4 : Nat) (Option.some Jvm.ClassFile.FieldType.int)) ∈ q_big := q_inbig q_sub7 (i := 50) (by decide +kernel) rfl
theorem k7_51 : (Jvm.Cond.methodLink "SalaryCapLedgerModel" (218 : Nat) ({ cls := "SalaryCapLedgerModel", name := "yearNumber", desc := "(II)I" } : Jvm.MethodName)) ∈ q_big := q_inbig q_sub7 (i := 51) (by decide +kernel) rfl
theorem k7_53 : (Jvm.Cond.instanceMethod ({ cls := "SalaryCapLedgerModel", name := "yearNumber", desc := "(II)I" } : Jvm.MethodName)) ∈ q_big := q_inbig q_sub7 (i := 53) (by decide +kernel) rfl
theorem k7_54 : (Jvm.Cond.code ({ cls := "SalaryCapLedgerModel", name := "yearNumber", desc := "(II)I" } : Jvm.MethodName) prog_11_method_41_code (4 : Nat) (Option.some Jvm.ClassFile.FieldType.int)) ∈ q_big := q_inbig q_sub7 (i := 54) (by decide +kernel) rfl
theorem k7_55 : (Jvm.Cond.methodLink "SalaryCapLedgerModel" (221 : Nat) ({ cls := "SalaryCapLedgerModel", name := "salaryBy", desc := "(III)I" } : Jvm.MethodName)) ∈ q_big := q_inbig q_sub7 (i := 55) (by decide +kernel) rfl
theorem k7_56 : (Jvm.Cond.static ({ cls := "SalaryCapLedgerModel", name := "salaryBy", desc := "(III)I" } : Jvm.MethodName)) ∈ q_big := q_inbig q_sub7 (i := 56) (by decide +kernel) rfl
theorem k7_57 : (Jvm.Cond.code ({ cls := "SalaryCapLedgerModel", name := "salaryBy", desc := "(III)I" } : Jvm.MethodName) prog_11_method_42_code (3 : Nat) (Option.some Jvm.ClassFile.FieldType.int)) ∈ q_big := q_inbig q_sub7 (i := 57) (by decide +kernel) rfl
theorem k7_58 : (Jvm.Cond.methodLink "SalaryCapLedgerModel" (228 : Nat) ({ cls := "SalaryCapLedgerModel", name := "shareIn", desc := "(II)I" } : Jvm.MethodName)) ∈ q_big := q_inbig q_sub7 (i := 58) (by decide +kernel) rfl
theorem k7_60 : (Jvm.Cond.instanceMethod ({ cls := "SalaryCapLedgerModel", name := "shareIn", desc := "(II)I" } : Jvm.MethodName)) ∈ q_big := q_inbig q_sub7 (i := 60) (by decide +kernel) rfl
theorem k7_61 : (Jvm.Cond.code ({ cls := "SalaryCapLedgerModel", name := "shareIn", desc := "(II)I" } : Jvm.MethodName) prog_11_method_45_code (4 : Nat) (Option.some Jvm.ClassFile.FieldType.int)) ∈ q_big := q_inbig q_sub7 (i := 61) (by decide +kernel) rfl
theorem k7_62 : (Jvm.Cond.methodLink "SalaryCapLedgerModel" (324 : Nat) ({ cls := "SalaryCapLedgerModel", name := "addTeam", desc := "(IIJ)V" } : Jvm.MethodName)) ∈ q_big := q_inbig q_sub7 (i := 62) (by decide +kernel) rfl
theorem k7_64 : (Jvm.Cond.instanceMethod ({ cls := "SalaryCapLedgerModel", name := "addTeam", desc := "(IIJ)V" } : Jvm.MethodName)) ∈ q_big := q_inbig q_sub7 (i := 64) (by decide +kernel) rfl
theorem k7_65 : (Jvm.Cond.code ({ cls := "SalaryCapLedgerModel", name := "addTeam", desc := "(IIJ)V" } : Jvm.MethodName) prog_11_method_31_code (5 : Nat) (Option.none : Option Jvm.ClassFile.FieldType)) ∈ q_big := q_inbig q_sub7 (i := 65) (by decide +kernel) rfl
theorem k7_66 : (Jvm.Cond.methodLink "SalaryCapLedgerModel" (328 : Nat) ({ cls := "SalaryCapLedgerModel", name := "putPlayer", desc := "(III)V" } : Jvm.MethodName)) ∈ q_big := q_inbig q_sub7 (i := 66) (by decide +kernel) rfl
theorem k7_68 : (Jvm.Cond.instanceMethod ({ cls := "SalaryCapLedgerModel", name := "putPlayer", desc := "(III)V" } : Jvm.MethodName)) ∈ q_big := q_inbig q_sub7 (i := 68) (by decide +kernel) rfl
theorem k7_69 : (Jvm.Cond.code ({ cls := "SalaryCapLedgerModel", name := "putPlayer", desc := "(III)V" } : Jvm.MethodName) prog_11_method_29_code (4 : Nat) (Option.none : Option Jvm.ClassFile.FieldType)) ∈ q_big := q_inbig q_sub7 (i := 69) (by decide +kernel) rfl
theorem k7_70 : (Jvm.Cond.methodLink "SalaryCapLedgerLaw" (175 : Nat) ({ cls := "SalaryCapLedgerModel", name := "release", desc := "(IZ)I" } : Jvm.MethodName)) ∈ q_big := q_inbig q_sub7 (i := 70) (by decide +kernel) rfl
theorem k7_71 : (Jvm.Cond.instanceMethod ({ cls := "SalaryCapLedgerModel", name := "release", desc := "(IZ)I" } : Jvm.MethodName)) ∈ q_big := q_inbig q_sub7 (i := 71) (by decide +kernel) rfl
theorem k7_72 : (Jvm.Cond.selects "SalaryCapLedgerModel" ({ cls := "SalaryCapLedgerModel", name := "release", desc := "(IZ)I" } : Jvm.MethodName) ({ cls := "SalaryCapLedgerModel", name := "release", desc := "(IZ)I" } : Jvm.MethodName)) ∈ q_big := q_inbig q_sub7 (i := 72) (by decide +kernel) rfl
theorem k7_73 : (Jvm.Cond.code ({ cls := "SalaryCapLedgerModel", name := "release", desc := "(IZ)I" } : Jvm.MethodName) prog_11_method_68_code (6 : Nat) (Option.some Jvm.ClassFile.FieldType.int)) ∈ q_big := q_inbig q_sub7 (i := 73) (by decide +kernel) rfl
theorem k7_74 : (Jvm.Cond.methodLink "SalaryCapLedgerModel" (335 : Nat) ({ cls := "SalaryCapLedgerModel", name := "layDead", desc := "(IZ)I" } : Jvm.MethodName)) ∈ q_big := q_inbig q_sub7 (i := 74) (by decide +kernel) rfl
theorem k7_76 : (Jvm.Cond.instanceMethod ({ cls := "SalaryCapLedgerModel", name := "layDead", desc := "(IZ)I" } : Jvm.MethodName)) ∈ q_big := q_inbig q_sub7 (i := 76) (by decide +kernel) rfl
theorem k7_77 : (Jvm.Cond.code ({ cls := "SalaryCapLedgerModel", name := "layDead", desc := "(IZ)I" } : Jvm.MethodName) prog_11_method_67_code (8 : Nat) (Option.some Jvm.ClassFile.FieldType.int)) ∈ q_big := q_inbig q_sub7 (i := 77) (by decide +kernel) rfl
theorem k7_78 : (Jvm.Cond.methodLink "SalaryCapLedgerModel" (332 : Nat) ({ cls := "SalaryCapLedgerModel", name := "sharesFrom", desc := "(I)I" } : Jvm.MethodName)) ∈ q_big := q_inbig q_sub7 (i := 78) (by decide +kernel) rfl
theorem k7_80 : (Jvm.Cond.instanceMethod ({ cls := "SalaryCapLedgerModel", name := "sharesFrom", desc := "(I)I" } : Jvm.MethodName)) ∈ q_big := q_inbig q_sub7 (i := 80) (by decide +kernel) rfl
theorem k7_81 : (Jvm.Cond.code ({ cls := "SalaryCapLedgerModel", name := "sharesFrom", desc := "(I)I" } : Jvm.MethodName) prog_11_method_46_code (4 : Nat) (Option.some Jvm.ClassFile.FieldType.int)) ∈ q_big := q_inbig q_sub7 (i := 81) (by decide +kernel) rfl
theorem k7_82 : (Jvm.Cond.methodLink "SalaryCapLedgerLaw" (179 : Nat) ({ cls := "SalaryCapLedgerModel", name := "trade", desc := "(IIII)I" } : Jvm.MethodName)) ∈ q_big := q_inbig q_sub7 (i := 82) (by decide +kernel) rfl
theorem k7_83 : (Jvm.Cond.instanceMethod ({ cls := "SalaryCapLedgerModel", name := "trade", desc := "(IIII)I" } : Jvm.MethodName)) ∈ q_big := q_inbig q_sub7 (i := 83) (by decide +kernel) rfl
theorem k7_84 : (Jvm.Cond.selects "SalaryCapLedgerModel" ({ cls := "SalaryCapLedgerModel", name := "trade", desc := "(IIII)I" } : Jvm.MethodName) ({ cls := "SalaryCapLedgerModel", name := "trade", desc := "(IIII)I" } : Jvm.MethodName)) ∈ q_big := q_inbig q_sub7 (i := 84) (by decide +kernel) rfl
theorem k7_85 : (Jvm.Cond.code ({ cls := "SalaryCapLedgerModel", name := "trade", desc := "(IIII)I" } : Jvm.MethodName) prog_11_method_74_code (7 : Nat) (Option.some Jvm.ClassFile.FieldType.int)) ∈ q_big := q_inbig q_sub7 (i := 85) (by decide +kernel) rfl
theorem k7_86 : (Jvm.Cond.methodLink "SalaryCapLedgerModel" (355 : Nat) ({ cls := "SalaryCapLedgerModel", name := "isTrade", desc := "(IIII)Z" } : Jvm.MethodName)) ∈ q_big := q_inbig q_sub7 (i := 86) (by decide +kernel) rfl
theorem k7_88 : (Jvm.Cond.instanceMethod ({ cls := "SalaryCapLedgerModel", name := "isTrade", desc := "(IIII)Z" } : Jvm.MethodName)) ∈ q_big := q_inbig q_sub7 (i := 88) (by decide +kernel) rfl
theorem k7_89 : (Jvm.Cond.code ({ cls := "SalaryCapLedgerModel", name := "isTrade", desc := "(IIII)Z" } : Jvm.MethodName) prog_11_method_72_code (6 : Nat) (Option.some Jvm.ClassFile.FieldType.boolean)) ∈ q_big := q_inbig q_sub7 (i := 89) (by decide +kernel) rfl
theorem k7_90 : (Jvm.Cond.methodLink "SalaryCapLedgerModel" (358 : Nat) ({ cls := "SalaryCapLedgerModel", name := "putAside", desc := "()V" } : Jvm.MethodName)) ∈ q_big := q_inbig q_sub7 (i := 90) (by decide +kernel) rfl
theorem k7_92 : (Jvm.Cond.instanceMethod ({ cls := "SalaryCapLedgerModel", name := "putAside", desc := "()V" } : Jvm.MethodName)) ∈ q_big := q_inbig q_sub7 (i := 92) (by decide +kernel) rfl
theorem k7_93 : (Jvm.Cond.code ({ cls := "SalaryCapLedgerModel", name := "putAside", desc := "()V" } : Jvm.MethodName) prog_11_method_35_code (2 : Nat) (Option.none : Option Jvm.ClassFile.FieldType)) ∈ q_big := q_inbig q_sub7 (i := 93) (by decide +kernel) rfl
theorem k7_94 : (Jvm.Cond.methodLink "SalaryCapLedgerModel" (361 : Nat) ({ cls := "SalaryCapLedgerModel", name := "trades", desc := "(IIII)I" } : Jvm.MethodName)) ∈ q_big := q_inbig q_sub7 (i := 94) (by decide +kernel) rfl
theorem k7_96 : (Jvm.Cond.instanceMethod ({ cls := "SalaryCapLedgerModel", name := "trades", desc := "(IIII)I" } : Jvm.MethodName)) ∈ q_big := q_inbig q_sub7 (i := 96) (by decide +kernel) rfl
theorem k7_97 : (Jvm.Cond.code ({ cls := "SalaryCapLedgerModel", name := "trades", desc := "(IIII)I" } : Jvm.MethodName) prog_11_method_73_code (11 : Nat) (Option.some Jvm.ClassFile.FieldType.int)) ∈ q_big := q_inbig q_sub7 (i := 97) (by decide +kernel) rfl
theorem k7_98 : (Jvm.Cond.methodLink "SalaryCapLedgerModel" (345 : Nat) ({ cls := "SalaryCapLedgerModel", name := "salariesOf", desc := "(I)I" } : Jvm.MethodName)) ∈ q_big := q_inbig q_sub7 (i := 98) (by decide +kernel) rfl
theorem k7_100 : (Jvm.Cond.instanceMethod ({ cls := "SalaryCapLedgerModel", name := "salariesOf", desc := "(I)I" } : Jvm.MethodName)) ∈ q_big := q_inbig q_sub7 (i := 100) (by decide +kernel) rfl
theorem k7_101 : (Jvm.Cond.code ({ cls := "SalaryCapLedgerModel", name := "salariesOf", desc := "(I)I" } : Jvm.MethodName) prog_11_method_69_code (4 : Nat) (Option.some Jvm.ClassFile.FieldType.int)) ∈ q_big := q_inbig q_sub7 (i := 101) (by decide +kernel) rfl
theorem k7_102 : (Jvm.Cond.methodLink "SalaryCapLedgerModel" (338 : Nat) ({ cls := "SalaryCapLedgerModel", name := "has", desc := "(II)Z" } : Jvm.MethodName)) ∈ q_big := q_inbig q_sub7 (i := 102) (by decide +kernel) rfl
theorem k7_103 : (Jvm.Cond.static ({ cls := "SalaryCapLedgerModel", name := "has", desc := "(II)Z" } : Jvm.MethodName)) ∈ q_big := q_inbig q_sub7 (i := 103) (by decide +kernel) rfl
theorem k7_104 : (Jvm.Cond.code ({ cls := "SalaryCapLedgerModel", name := "has", desc := "(II)Z" } : Jvm.MethodName) prog_11_method_4_code (2 : Nat) (Option.some Jvm.ClassFile.FieldType.boolean)) ∈ q_big := q_inbig q_sub7 (i := 104) (by decide +kernel) rfl
theorem k7_105 : (Jvm.Cond.methodLink "SalaryCapLedgerModel" (348 : Nat) ({ cls := "SalaryCapLedgerModel", name := "moves", desc := "(III)V" } : Jvm.MethodName)) ∈ q_big := q_inbig q_sub7 (i := 105) (by decide +kernel) rfl
theorem k7_107 : (Jvm.Cond.instanceMethod ({ cls := "SalaryCapLedgerModel", name := "moves", desc := "(III)V" } : Jvm.MethodName)) ∈ q_big := q_inbig q_sub7 (i := 107) (by decide +kernel) rfl
theorem k7_108 : (Jvm.Cond.code ({ cls := "SalaryCapLedgerModel", name := "moves", desc := "(III)V" } : Jvm.MethodName) prog_11_method_70_code (5 : Nat) (Option.none : Option Jvm.ClassFile.FieldType)) ∈ q_big := q_inbig q_sub7 (i := 108) (by decide +kernel) rfl
theorem k7_109 : (Jvm.Cond.methodLink "SalaryCapLedgerModel" (351 : Nat) ({ cls := "SalaryCapLedgerModel", name := "matches", desc := "(IIII)Z" } : Jvm.MethodName)) ∈ q_big := q_inbig q_sub7 (i := 109) (by decide +kernel) rfl
theorem k7_111 : (Jvm.Cond.instanceMethod ({ cls := "SalaryCapLedgerModel", name := "matches", desc := "(IIII)Z" } : Jvm.MethodName)) ∈ q_big := q_inbig q_sub7 (i := 111) (by decide +kernel) rfl
theorem k7_112 : (Jvm.Cond.code ({ cls := "SalaryCapLedgerModel", name := "matches", desc := "(IIII)Z" } : Jvm.MethodName) prog_11_method_71_code (7 : Nat) (Option.some Jvm.ClassFile.FieldType.boolean)) ∈ q_big := q_inbig q_sub7 (i := 112) (by decide +kernel) rfl
theorem k7_113 : (Jvm.Cond.methodLink "SalaryCapLedgerModel" (262 : Nat) ({ cls := "SalaryCapLedgerModel", name := "lineIn", desc := "(I)I" } : Jvm.MethodName)) ∈ q_big := q_inbig q_sub7 (i := 113) (by decide +kernel) rfl
theorem k7_115 : (Jvm.Cond.instanceMethod ({ cls := "SalaryCapLedgerModel", name := "lineIn", desc := "(I)I" } : Jvm.MethodName)) ∈ q_big := q_inbig q_sub7 (i := 115) (by decide +kernel) rfl
theorem k7_116 : (Jvm.Cond.code ({ cls := "SalaryCapLedgerModel", name := "lineIn", desc := "(I)I" } : Jvm.MethodName) prog_11_method_51_code (2 : Nat) (Option.some Jvm.ClassFile.FieldType.int)) ∈ q_big := q_inbig q_sub7 (i := 116) (by decide +kernel) rfl
theorem k7_117 : (Jvm.Cond.constantLong "SalaryCapLedgerModel" (341 : Nat) (125 : Int64)) ∈ q_big := q_inbig q_sub7 (i := 117) (by decide +kernel) rfl
theorem k7_118 : (Jvm.Cond.constantLong "SalaryCapLedgerModel" (257 : Nat) (100 : Int64)) ∈ q_big := q_inbig q_sub7 (i := 118) (by decide +kernel) rfl
theorem k7_119 : (Jvm.Cond.constantLong "SalaryCapLedgerModel" (343 : Nat) (110 : Int64)) ∈ q_big := q_inbig q_sub7 (i := 119) (by decide +kernel) rfl
theorem k7_120 : (Jvm.Cond.methodLink "SalaryCapLedgerModel" (365 : Nat) ({ cls := "SalaryCapLedgerModel", name := "takeBack", desc := "()V" } : Jvm.MethodName)) ∈ q_big := q_inbig q_sub7 (i := 120) (by decide +kernel) rfl
theorem k7_122 : (Jvm.Cond.instanceMethod ({ cls := "SalaryCapLedgerModel", name := "takeBack", desc := "()V" } : Jvm.MethodName)) ∈ q_big := q_inbig q_sub7 (i := 122) (by decide +kernel) rfl
theorem k7_123 : (Jvm.Cond.code ({ cls := "SalaryCapLedgerModel", name := "takeBack", desc := "()V" } : Jvm.MethodName) prog_11_method_36_code (2 : Nat) (Option.none : Option Jvm.ClassFile.FieldType)) ∈ q_big := q_inbig q_sub7 (i := 123) (by decide +kernel) rfl
theorem k7_124 : (Jvm.Cond.methodLink "SalaryCapLedgerLaw" (183 : Nat) ({ cls := "SalaryCapLedgerModel", name := "nextYear", desc := "()J" } : Jvm.MethodName)) ∈ q_big := q_inbig q_sub7 (i := 124) (by decide +kernel) rfl
theorem k7_125 : (Jvm.Cond.instanceMethod ({ cls := "SalaryCapLedgerModel", name := "nextYear", desc := "()J" } : Jvm.MethodName)) ∈ q_big := q_inbig q_sub7 (i := 125) (by decide +kernel) rfl
theorem k7_126 : (Jvm.Cond.selects "SalaryCapLedgerModel" ({ cls := "SalaryCapLedgerModel", name := "nextYear", desc := "()J" } : Jvm.MethodName) ({ cls := "SalaryCapLedgerModel", name := "nextYear", desc := "()J" } : Jvm.MethodName)) ∈ q_big := q_inbig q_sub7 (i := 126) (by decide +kernel) rfl
theorem k7_127 : (Jvm.Cond.code ({ cls := "SalaryCapLedgerModel", name := "nextYear", desc := "()J" } : Jvm.MethodName) prog_11_method_75_code (6 : Nat) (Option.some Jvm.ClassFile.FieldType.long)) ∈ q_big := q_inbig q_sub7 (i := 127) (by decide +kernel) rfl
theorem k7_128 : (Jvm.Cond.constantLong "SalaryCapLedgerModel" (368 : Nat) (-2 : Int64)) ∈ q_big := q_inbig q_sub7 (i := 128) (by decide +kernel) rfl
theorem k7_129 : (Jvm.Cond.methodLink "SalaryCapLedgerModel" (370 : Nat) ({ cls := "SalaryCapLedgerModel", name := "taxOf", desc := "(I)J" } : Jvm.MethodName)) ∈ q_big := q_inbig q_sub7 (i := 129) (by decide +kernel) rfl
theorem k7_131 : (Jvm.Cond.instanceMethod ({ cls := "SalaryCapLedgerModel", name := "taxOf", desc := "(I)J" } : Jvm.MethodName)) ∈ q_big := q_inbig q_sub7 (i := 131) (by decide +kernel) rfl
theorem k7_132 : (Jvm.Cond.code ({ cls := "SalaryCapLedgerModel", name := "taxOf", desc := "(I)J" } : Jvm.MethodName) prog_11_method_58_code (2 : Nat) (Option.some Jvm.ClassFile.FieldType.long)) ∈ q_big := q_inbig q_sub7 (i := 132) (by decide +kernel) rfl
theorem k7_133 : (Jvm.Cond.methodLink "SalaryCapLedgerModel" (265 : Nat) ({ cls := "SalaryCapLedgerModel", name := "aboveLine", desc := "(II)I" } : Jvm.MethodName)) ∈ q_big := q_inbig q_sub7 (i := 133) (by decide +kernel) rfl
theorem k7_135 : (Jvm.Cond.instanceMethod ({ cls := "SalaryCapLedgerModel", name := "aboveLine", desc := "(II)I" } : Jvm.MethodName)) ∈ q_big := q_inbig q_sub7 (i := 135) (by decide +kernel) rfl
theorem k7_136 : (Jvm.Cond.code ({ cls := "SalaryCapLedgerModel", name := "aboveLine", desc := "(II)I" } : Jvm.MethodName) prog_11_method_56_code (3 : Nat) (Option.some Jvm.ClassFile.FieldType.int)) ∈ q_big := q_inbig q_sub7 (i := 136) (by decide +kernel) rfl
theorem k7_137 : (Jvm.Cond.methodLink "SalaryCapLedgerModel" (268 : Nat) ({ cls := "SalaryCapLedgerModel", name := "taxedOf", desc := "(I)I" } : Jvm.MethodName)) ∈ q_big := q_inbig q_sub7 (i := 137) (by decide +kernel) rfl
theorem k7_139 : (Jvm.Cond.instanceMethod ({ cls := "SalaryCapLedgerModel", name := "taxedOf", desc := "(I)I" } : Jvm.MethodName)) ∈ q_big := q_inbig q_sub7 (i := 139) (by decide +kernel) rfl
theorem k7_140 : (Jvm.Cond.code ({ cls := "SalaryCapLedgerModel", name := "taxedOf", desc := "(I)I" } : Jvm.MethodName) prog_11_method_57_code (2 : Nat) (Option.some Jvm.ClassFile.FieldType.int)) ∈ q_big := q_inbig q_sub7 (i := 140) (by decide +kernel) rfl
theorem k7_141 : (Jvm.Cond.methodLink "SalaryCapLedgerModel" (271 : Nat) ({ cls := "SalaryCapLedgerModel", name := "isRepeated", desc := "(II)Z" } : Jvm.MethodName)) ∈ q_big := q_inbig q_sub7 (i := 141) (by decide +kernel) rfl
theorem k7_142 : (Jvm.Cond.static ({ cls := "SalaryCapLedgerModel", name := "isRepeated", desc := "(II)Z" } : Jvm.MethodName)) ∈ q_big := q_inbig q_sub7 (i := 142) (by decide +kernel) rfl
theorem k7_143 : (Jvm.Cond.code ({ cls := "SalaryCapLedgerModel", name := "isRepeated", desc := "(II)Z" } : Jvm.MethodName) prog_11_method_55_code (4 : Nat) (Option.some Jvm.ClassFile.FieldType.boolean)) ∈ q_big := q_inbig q_sub7 (i := 143) (by decide +kernel) rfl
theorem k7_144 : (Jvm.Cond.methodLink "SalaryCapLedgerModel" (259 : Nat) ({ cls := "java/lang/Math", name := "max", desc := "(II)I" } : Jvm.MethodName)) ∈ q_big := q_inbig q_sub7 (i := 144) (by decide +kernel) rfl
theorem k7_145 : (Jvm.Cond.static ({ cls := "java/lang/Math", name := "max", desc := "(II)I" } : Jvm.MethodName)) ∈ q_big := q_inbig q_sub7 (i := 145) (by decide +kernel) rfl
theorem k7_146 : (Jvm.Cond.code ({ cls := "java/lang/Math", name := "max", desc := "(II)I" } : Jvm.MethodName) prog_20_method_65_code (2 : Nat) (Option.some Jvm.ClassFile.FieldType.int)) ∈ q_big := q_inbig q_sub7 (i := 146) (by decide +kernel) rfl
theorem k7_147 : (Jvm.Cond.methodLink "SalaryCapLedgerModel" (275 : Nat) ({ cls := "SalaryCapLedgerModel", name := "taxOn", desc := "(IZ)J" } : Jvm.MethodName)) ∈ q_big := q_inbig q_sub7 (i := 147) (by decide +kernel) rfl
theorem k7_149 : (Jvm.Cond.instanceMethod ({ cls := "SalaryCapLedgerModel", name := "taxOn", desc := "(IZ)J" } : Jvm.MethodName)) ∈ q_big := q_inbig q_sub7 (i := 149) (by decide +kernel) rfl
theorem k7_150 : (Jvm.Cond.code ({ cls := "SalaryCapLedgerModel", name := "taxOn", desc := "(IZ)J" } : Jvm.MethodName) prog_11_method_54_code (8 : Nat) (Option.some Jvm.ClassFile.FieldType.long)) ∈ q_big := q_inbig q_sub7 (i := 150) (by decide +kernel) rfl
theorem k7_151 : (Jvm.Cond.methodLink "SalaryCapLedgerModel" (252 : Nat) ({ cls := "java/lang/Math", name := "min", desc := "(II)I" } : Jvm.MethodName)) ∈ q_big := q_inbig q_sub7 (i := 151) (by decide +kernel) rfl
theorem k7_152 : (Jvm.Cond.methodLink "SalaryCapLedgerLaw" (186 : Nat) ({ cls := "SalaryCapLedgerModel", name := "year", desc := "()I" } : Jvm.MethodName)) ∈ q_big := q_inbig q_sub7 (i := 152) (by decide +kernel) rfl
theorem k7_153 : (Jvm.Cond.instanceMethod ({ cls := "SalaryCapLedgerModel", name := "year", desc := "()I" } : Jvm.MethodName)) ∈ q_big := q_inbig q_sub7 (i := 153) (by decide +kernel) rfl
theorem k7_154 : (Jvm.Cond.selects "SalaryCapLedgerModel" ({ cls := "SalaryCapLedgerModel", name := "year", desc := "()I" } : Jvm.MethodName) ({ cls := "SalaryCapLedgerModel", name := "year", desc := "()I" } : Jvm.MethodName)) ∈ q_big := q_inbig q_sub7 (i := 154) (by decide +kernel) rfl
theorem k7_155 : (Jvm.Cond.code ({ cls := "SalaryCapLedgerModel", name := "year", desc := "()I" } : Jvm.MethodName) prog_11_method_76_code (1 : Nat) (Option.some Jvm.ClassFile.FieldType.int)) ∈ q_big := q_inbig q_sub7 (i := 155) (by decide +kernel) rfl
theorem k7_156 : (Jvm.Cond.methodLink "SalaryCapLedgerLaw" (189 : Nat) ({ cls := "SalaryCapLedgerModel", name := "cap", desc := "(I)I" } : Jvm.MethodName)) ∈ q_big := q_inbig q_sub7 (i := 156) (by decide +kernel) rfl
theorem k7_157 : (Jvm.Cond.instanceMethod ({ cls := "SalaryCapLedgerModel", name := "cap", desc := "(I)I" } : Jvm.MethodName)) ∈ q_big := q_inbig q_sub7 (i := 157) (by decide +kernel) rfl
theorem k7_158 : (Jvm.Cond.selects "SalaryCapLedgerModel" ({ cls := "SalaryCapLedgerModel", name := "cap", desc := "(I)I" } : Jvm.MethodName) ({ cls := "SalaryCapLedgerModel", name := "cap", desc := "(I)I" } : Jvm.MethodName)) ∈ q_big := q_inbig q_sub7 (i := 158) (by decide +kernel) rfl
theorem k7_159 : (Jvm.Cond.code ({ cls := "SalaryCapLedgerModel", name := "cap", desc := "(I)I" } : Jvm.MethodName) prog_11_method_77_code (2 : Nat) (Option.some Jvm.ClassFile.FieldType.int)) ∈ q_big := q_inbig q_sub7 (i := 159) (by decide +kernel) rfl
theorem k7_160 : (Jvm.Cond.methodLink "SalaryCapLedgerModel" (374 : Nat) ({ cls := "SalaryCapLedgerModel", name := "isAhead", desc := "(I)Z" } : Jvm.MethodName)) ∈ q_big := q_inbig q_sub7 (i := 160) (by decide +kernel) rfl
theorem k7_161 : (Jvm.Cond.static ({ cls := "SalaryCapLedgerModel", name := "isAhead", desc := "(I)Z" } : Jvm.MethodName)) ∈ q_big := q_inbig q_sub7 (i := 161) (by decide +kernel) rfl
theorem k7_162 : (Jvm.Cond.code ({ cls := "SalaryCapLedgerModel", name := "isAhead", desc := "(I)Z" } : Jvm.MethodName) prog_11_method_39_code (1 : Nat) (Option.some Jvm.ClassFile.FieldType.boolean)) ∈ q_big := q_inbig q_sub7 (i := 162) (by decide +kernel) rfl
theorem k7_163 : (Jvm.Cond.constantLong "SalaryCapLedgerModel" (207 : Nat) (11 : Int64)) ∈ q_big := q_inbig q_sub7 (i := 163) (by decide +kernel) rfl
theorem k7_164 : (Jvm.Cond.methodLink "SalaryCapLedgerLaw" (192 : Nat) ({ cls := "SalaryCapLedgerModel", name := "taxLine", desc := "(I)I" } : Jvm.MethodName)) ∈ q_big := q_inbig q_sub7 (i := 164) (by decide +kernel) rfl
theorem k7_165 : (Jvm.Cond.instanceMethod ({ cls := "SalaryCapLedgerModel", name := "taxLine", desc := "(I)I" } : Jvm.MethodName)) ∈ q_big := q_inbig q_sub7 (i := 165) (by decide +kernel) rfl
theorem k7_166 : (Jvm.Cond.selects "SalaryCapLedgerModel" ({ cls := "SalaryCapLedgerModel", name := "taxLine", desc := "(I)I" } : Jvm.MethodName) ({ cls := "SalaryCapLedgerModel", name := "taxLine", desc := "(I)I" } : Jvm.MethodName)) ∈ q_big := q_inbig q_sub7 (i := 166) (by decide +kernel) rfl
theorem k7_167 : (Jvm.Cond.code ({ cls := "SalaryCapLedgerModel", name := "taxLine", desc := "(I)I" } : Jvm.MethodName) prog_11_method_78_code (2 : Nat) (Option.some Jvm.ClassFile.FieldType.int)) ∈ q_big := q_inbig q_sub7 (i := 167) (by decide +kernel) rfl
theorem k7_168 : (Jvm.Cond.methodLink "SalaryCapLedgerLaw" (195 : Nat) ({ cls := "SalaryCapLedgerModel", name := "offer", desc := "(I)I" } : Jvm.MethodName)) ∈ q_big := q_inbig q_sub7 (i := 168) (by decide +kernel) rfl
theorem k7_169 : (Jvm.Cond.instanceMethod ({ cls := "SalaryCapLedgerModel", name := "offer", desc := "(I)I" } : Jvm.MethodName)) ∈ q_big := q_inbig q_sub7 (i := 169) (by decide +kernel) rfl
theorem k7_170 : (Jvm.Cond.selects "SalaryCapLedgerModel" ({ cls := "SalaryCapLedgerModel", name := "offer", desc := "(I)I" } : Jvm.MethodName) ({ cls := "SalaryCapLedgerModel", name := "offer", desc := "(I)I" } : Jvm.MethodName)) ∈ q_big := q_inbig q_sub7 (i := 170) (by decide +kernel) rfl
theorem k7_171 : (Jvm.Cond.code ({ cls := "SalaryCapLedgerModel", name := "offer", desc := "(I)I" } : Jvm.MethodName) prog_11_method_79_code (2 : Nat) (Option.some Jvm.ClassFile.FieldType.int)) ∈ q_big := q_inbig q_sub7 (i := 171) (by decide +kernel) rfl
theorem k7_172 : (Jvm.Cond.constantLong "SalaryCapLedgerModel" (377 : Nat) (4 : Int64)) ∈ q_big := q_inbig q_sub7 (i := 172) (by decide +kernel) rfl
theorem k7_173 : (Jvm.Cond.methodLink "SalaryCapLedgerLaw" (199 : Nat) ({ cls := "SalaryCapLedgerModel", name := "charge", desc := "(II)I" } : Jvm.MethodName)) ∈ q_big := q_inbig q_sub7 (i := 173) (by decide +kernel) rfl
theorem k7_174 : (Jvm.Cond.instanceMethod ({ cls := "SalaryCapLedgerModel", name := "charge", desc := "(II)I" } : Jvm.MethodName)) ∈ q_big := q_inbig q_sub7 (i := 174) (by decide +kernel) rfl
theorem k7_175 : (Jvm.Cond.selects "SalaryCapLedgerModel" ({ cls := "SalaryCapLedgerModel", name := "charge", desc := "(II)I" } : Jvm.MethodName) ({ cls := "SalaryCapLedgerModel", name := "charge", desc := "(II)I" } : Jvm.MethodName)) ∈ q_big := q_inbig q_sub7 (i := 175) (by decide +kernel) rfl
theorem k7_176 : (Jvm.Cond.code ({ cls := "SalaryCapLedgerModel", name := "charge", desc := "(II)I" } : Jvm.MethodName) prog_11_method_80_code (3 : Nat) (Option.some Jvm.ClassFile.FieldType.int)) ∈ q_big := q_inbig q_sub7 (i := 176) (by decide +kernel) rfl
theorem k7_177 : (Jvm.Cond.methodLink "SalaryCapLedgerLaw" (202 : Nat) ({ cls := "SalaryCapLedgerModel", name := "deadMoney", desc := "(II)I" } : Jvm.MethodName)) ∈ q_big := q_inbig q_sub7 (i := 177) (by decide +kernel) rfl
theorem k7_178 : (Jvm.Cond.instanceMethod ({ cls := "SalaryCapLedgerModel", name := "deadMoney", desc := "(II)I" } : Jvm.MethodName)) ∈ q_big := q_inbig q_sub7 (i := 178) (by decide +kernel) rfl
theorem k7_179 : (Jvm.Cond.selects "SalaryCapLedgerModel" ({ cls := "SalaryCapLedgerModel", name := "deadMoney", desc := "(II)I" } : Jvm.MethodName) ({ cls := "SalaryCapLedgerModel", name := "deadMoney", desc := "(II)I" } : Jvm.MethodName)) ∈ q_big := q_inbig q_sub7 (i := 179) (by decide +kernel) rfl
theorem k7_180 : (Jvm.Cond.code ({ cls := "SalaryCapLedgerModel", name := "deadMoney", desc := "(II)I" } : Jvm.MethodName) prog_11_method_81_code (3 : Nat) (Option.some Jvm.ClassFile.FieldType.int)) ∈ q_big := q_inbig q_sub7 (i := 180) (by decide +kernel) rfl
theorem k7_181 : (Jvm.Cond.methodLink "SalaryCapLedgerLaw" (205 : Nat) ({ cls := "SalaryCapLedgerModel", name := "room", desc := "(I)I" } : Jvm.MethodName)) ∈ q_big := q_inbig q_sub7 (i := 181) (by decide +kernel) rfl
theorem k7_182 : (Jvm.Cond.instanceMethod ({ cls := "SalaryCapLedgerModel", name := "room", desc := "(I)I" } : Jvm.MethodName)) ∈ q_big := q_inbig q_sub7 (i := 182) (by decide +kernel) rfl
theorem k7_183 : (Jvm.Cond.selects "SalaryCapLedgerModel" ({ cls := "SalaryCapLedgerModel", name := "room", desc := "(I)I" } : Jvm.MethodName) ({ cls := "SalaryCapLedgerModel", name := "room", desc := "(I)I" } : Jvm.MethodName)) ∈ q_big := q_inbig q_sub7 (i := 183) (by decide +kernel) rfl
theorem k7_184 : (Jvm.Cond.code ({ cls := "SalaryCapLedgerModel", name := "room", desc := "(I)I" } : Jvm.MethodName) prog_11_method_82_code (2 : Nat) (Option.some Jvm.ClassFile.FieldType.int)) ∈ q_big := q_inbig q_sub7 (i := 184) (by decide +kernel) rfl
theorem k7_185 : (Jvm.Cond.methodLink "SalaryCapLedgerLaw" (208 : Nat) ({ cls := "SalaryCapLedgerModel", name := "tax", desc := "(I)J" } : Jvm.MethodName)) ∈ q_big := q_inbig q_sub7 (i := 185) (by decide +kernel) rfl
theorem k7_186 : (Jvm.Cond.instanceMethod ({ cls := "SalaryCapLedgerModel", name := "tax", desc := "(I)J" } : Jvm.MethodName)) ∈ q_big := q_inbig q_sub7 (i := 186) (by decide +kernel) rfl
theorem k7_187 : (Jvm.Cond.selects "SalaryCapLedgerModel" ({ cls := "SalaryCapLedgerModel", name := "tax", desc := "(I)J" } : Jvm.MethodName) ({ cls := "SalaryCapLedgerModel", name := "tax", desc := "(I)J" } : Jvm.MethodName)) ∈ q_big := q_inbig q_sub7 (i := 187) (by decide +kernel) rfl
theorem k7_188 : (Jvm.Cond.code ({ cls := "SalaryCapLedgerModel", name := "tax", desc := "(I)J" } : Jvm.MethodName) prog_11_method_83_code (2 : Nat) (Option.some Jvm.ClassFile.FieldType.long)) ∈ q_big := q_inbig q_sub7 (i := 188) (by decide +kernel) rfl
theorem k7_189 : (Jvm.Cond.methodLink "SalaryCapLedgerLaw" (211 : Nat) ({ cls := "SalaryCapLedgerModel", name := "paid", desc := "(I)J" } : Jvm.MethodName)) ∈ q_big := q_inbig q_sub7 (i := 189) (by decide +kernel) rfl
theorem k7_190 : (Jvm.Cond.instanceMethod ({ cls := "SalaryCapLedgerModel", name := "paid", desc := "(I)J" } : Jvm.MethodName)) ∈ q_big := q_inbig q_sub7 (i := 190) (by decide +kernel) rfl
theorem k7_191 : (Jvm.Cond.selects "SalaryCapLedgerModel" ({ cls := "SalaryCapLedgerModel", name := "paid", desc := "(I)J" } : Jvm.MethodName) ({ cls := "SalaryCapLedgerModel", name := "paid", desc := "(I)J" } : Jvm.MethodName)) ∈ q_big := q_inbig q_sub7 (i := 191) (by decide +kernel) rfl
theorem k7_192 : (Jvm.Cond.code ({ cls := "SalaryCapLedgerModel", name := "paid", desc := "(I)J" } : Jvm.MethodName) prog_11_method_84_code (2 : Nat) (Option.some Jvm.ClassFile.FieldType.long)) ∈ q_big := q_inbig q_sub7 (i := 192) (by decide +kernel) rfl
theorem k7_193 : (Jvm.Cond.methodLink "SalaryCapLedgerLaw" (214 : Nat) ({ cls := "SalaryCapLedgerModel", name := "taxedYears", desc := "(I)I" } : Jvm.MethodName)) ∈ q_big := q_inbig q_sub7 (i := 193) (by decide +kernel) rfl
theorem k7_194 : (Jvm.Cond.instanceMethod ({ cls := "SalaryCapLedgerModel", name := "taxedYears", desc := "(I)I" } : Jvm.MethodName)) ∈ q_big := q_inbig q_sub7 (i := 194) (by decide +kernel) rfl
theorem k7_195 : (Jvm.Cond.selects "SalaryCapLedgerModel" ({ cls := "SalaryCapLedgerModel", name := "taxedYears", desc := "(I)I" } : Jvm.MethodName) ({ cls := "SalaryCapLedgerModel", name := "taxedYears", desc := "(I)I" } : Jvm.MethodName)) ∈ q_big := q_inbig q_sub7 (i := 195) (by decide +kernel) rfl
theorem k7_196 : (Jvm.Cond.code ({ cls := "SalaryCapLedgerModel", name := "taxedYears", desc := "(I)I" } : Jvm.MethodName) prog_11_method_85_code (2 : Nat) (Option.some Jvm.ClassFile.FieldType.int)) ∈ q_big := q_inbig q_sub7 (i := 196) (by decide +kernel) rfl
theorem k7_197 : (Jvm.Cond.methodLink "SalaryCapLedgerLaw" (217 : Nat) ({ cls := "SalaryCapLedgerModel", name := "midLevel", desc := "(I)I" } : Jvm.MethodName)) ∈ q_big := q_inbig q_sub7 (i := 197) (by decide +kernel) rfl
theorem k7_198 : (Jvm.Cond.instanceMethod ({ cls := "SalaryCapLedgerModel", name := "midLevel", desc := "(I)I" } : Jvm.MethodName)) ∈ q_big := q_inbig q_sub7 (i := 198) (by decide +kernel) rfl
theorem k7_199 : (Jvm.Cond.selects "SalaryCapLedgerModel" ({ cls := "SalaryCapLedgerModel", name := "midLevel", desc := "(I)I" } : Jvm.MethodName) ({ cls := "SalaryCapLedgerModel", name := "midLevel", desc := "(I)I" } : Jvm.MethodName)) ∈ q_big := q_inbig q_sub7 (i := 199) (by decide +kernel) rfl
theorem k7_200 : (Jvm.Cond.code ({ cls := "SalaryCapLedgerModel", name := "midLevel", desc := "(I)I" } : Jvm.MethodName) prog_11_method_86_code (2 : Nat) (Option.some Jvm.ClassFile.FieldType.int)) ∈ q_big := q_inbig q_sub7 (i := 200) (by decide +kernel) rfl
theorem k7_201 : (Jvm.Cond.methodLink "SalaryCapLedgerLaw" (220 : Nat) ({ cls := "SalaryCapLedgerModel", name := "roster", desc := "(I)I" } : Jvm.MethodName)) ∈ q_big := q_inbig q_sub7 (i := 201) (by decide +kernel) rfl
theorem k7_202 : (Jvm.Cond.instanceMethod ({ cls := "SalaryCapLedgerModel", name := "roster", desc := "(I)I" } : Jvm.MethodName)) ∈ q_big := q_inbig q_sub7 (i := 202) (by decide +kernel) rfl
theorem k7_203 : (Jvm.Cond.selects "SalaryCapLedgerModel" ({ cls := "SalaryCapLedgerModel", name := "roster", desc := "(I)I" } : Jvm.MethodName) ({ cls := "SalaryCapLedgerModel", name := "roster", desc := "(I)I" } : Jvm.MethodName)) ∈ q_big := q_inbig q_sub7 (i := 203) (by decide +kernel) rfl
theorem k7_204 : (Jvm.Cond.code ({ cls := "SalaryCapLedgerModel", name := "roster", desc := "(I)I" } : Jvm.MethodName) prog_11_method_87_code (2 : Nat) (Option.some Jvm.ClassFile.FieldType.int)) ∈ q_big := q_inbig q_sub7 (i := 204) (by decide +kernel) rfl
theorem k7_205 : (Jvm.Cond.methodLink "SalaryCapLedgerLaw" (223 : Nat) ({ cls := "SalaryCapLedgerModel", name := "teamRank", desc := "(II)I" } : Jvm.MethodName)) ∈ q_big := q_inbig q_sub7 (i := 205) (by decide +kernel) rfl
theorem k7_206 : (Jvm.Cond.instanceMethod ({ cls := "SalaryCapLedgerModel", name := "teamRank", desc := "(II)I" } : Jvm.MethodName)) ∈ q_big := q_inbig q_sub7 (i := 206) (by decide +kernel) rfl
theorem k7_207 : (Jvm.Cond.selects "SalaryCapLedgerModel" ({ cls := "SalaryCapLedgerModel", name := "teamRank", desc := "(II)I" } : Jvm.MethodName) ({ cls := "SalaryCapLedgerModel", name := "teamRank", desc := "(II)I" } : Jvm.MethodName)) ∈ q_big := q_inbig q_sub7 (i := 207) (by decide +kernel) rfl
theorem k7_208 : (Jvm.Cond.code ({ cls := "SalaryCapLedgerModel", name := "teamRank", desc := "(II)I" } : Jvm.MethodName) prog_11_method_89_code (8 : Nat) (Option.some Jvm.ClassFile.FieldType.int)) ∈ q_big := q_inbig q_sub7 (i := 208) (by decide +kernel) rfl
theorem k7_209 : (Jvm.Cond.methodLink "SalaryCapLedgerModel" (379 : Nat) ({ cls := "SalaryCapLedgerModel", name := "measure", desc := "(II)J" } : Jvm.MethodName)) ∈ q_big := q_inbig q_sub7 (i := 209) (by decide +kernel) rfl
theorem k7_211 : (Jvm.Cond.instanceMethod ({ cls := "SalaryCapLedgerModel", name := "measure", desc := "(II)J" } : Jvm.MethodName)) ∈ q_big := q_inbig q_sub7 (i := 211) (by decide +kernel) rfl
theorem k7_212 : (Jvm.Cond.code ({ cls := "SalaryCapLedgerModel", name := "measure", desc := "(II)J" } : Jvm.MethodName) prog_11_method_88_code (3 : Nat) (Option.some Jvm.ClassFile.FieldType.long)) ∈ q_big := q_inbig q_sub7 (i := 212) (by decide +kernel) rfl
theorem k7_213 : (Jvm.Cond.methodLink "SalaryCapLedgerLaw" (226 : Nat) ({ cls := "SalaryCapLedgerModel", name := "playerValue", desc := "(II)I" } : Jvm.MethodName)) ∈ q_big := q_inbig q_sub7 (i := 213) (by decide +kernel) rfl
theorem k7_214 : (Jvm.Cond.instanceMethod ({ cls := "SalaryCapLedgerModel", name := "playerValue", desc := "(II)I" } : Jvm.MethodName)) ∈ q_big := q_inbig q_sub7 (i := 214) (by decide +kernel) rfl
theorem k7_215 : (Jvm.Cond.selects "SalaryCapLedgerModel" ({ cls := "SalaryCapLedgerModel", name := "playerValue", desc := "(II)I" } : Jvm.MethodName) ({ cls := "SalaryCapLedgerModel", name := "playerValue", desc := "(II)I" } : Jvm.MethodName)) ∈ q_big := q_inbig q_sub7 (i := 215) (by decide +kernel) rfl
theorem k7_216 : (Jvm.Cond.code ({ cls := "SalaryCapLedgerModel", name := "playerValue", desc := "(II)I" } : Jvm.MethodName) prog_11_method_90_code (4 : Nat) (Option.some Jvm.ClassFile.FieldType.int)) ∈ q_big := q_inbig q_sub7 (i := 216) (by decide +kernel) rfl
theorem k7_217 : (Jvm.Cond.constantLong "SalaryCapLedgerModel" (382 : Nat) (6 : Int64)) ∈ q_big := q_inbig q_sub7 (i := 217) (by decide +kernel) rfl
theorem k7_218 : (Jvm.Cond.methodLink "SalaryCapLedgerLaw" (229 : Nat) ({ cls := "SalaryCapLedgerModel", name := "salary", desc := "(II)I" } : Jvm.MethodName)) ∈ q_big := q_inbig q_sub7 (i := 218) (by decide +kernel) rfl
theorem k7_219 : (Jvm.Cond.instanceMethod ({ cls := "SalaryCapLedgerModel", name := "salary", desc := "(II)I" } : Jvm.MethodName)) ∈ q_big := q_inbig q_sub7 (i := 219) (by decide +kernel) rfl
theorem k7_220 : (Jvm.Cond.selects "SalaryCapLedgerModel" ({ cls := "SalaryCapLedgerModel", name := "salary", desc := "(II)I" } : Jvm.MethodName) ({ cls := "SalaryCapLedgerModel", name := "salary", desc := "(II)I" } : Jvm.MethodName)) ∈ q_big := q_inbig q_sub7 (i := 220) (by decide +kernel) rfl
theorem k7_221 : (Jvm.Cond.code ({ cls := "SalaryCapLedgerModel", name := "salary", desc := "(II)I" } : Jvm.MethodName) prog_11_method_91_code (3 : Nat) (Option.some Jvm.ClassFile.FieldType.int)) ∈ q_big := q_inbig q_sub7 (i := 221) (by decide +kernel) rfl
theorem k7_222 : (Jvm.Cond.methodLink "SalaryCapLedgerLaw" (232 : Nat) ({ cls := "SalaryCapLedgerModel", name := "share", desc := "(II)I" } : Jvm.MethodName)) ∈ q_big := q_inbig q_sub7 (i := 222) (by decide +kernel) rfl
theorem k7_223 : (Jvm.Cond.instanceMethod ({ cls := "SalaryCapLedgerModel", name := "share", desc := "(II)I" } : Jvm.MethodName)) ∈ q_big := q_inbig q_sub7 (i := 223) (by decide +kernel) rfl
theorem k7_224 : (Jvm.Cond.selects "SalaryCapLedgerModel" ({ cls := "SalaryCapLedgerModel", name := "share", desc := "(II)I" } : Jvm.MethodName) ({ cls := "SalaryCapLedgerModel", name := "share", desc := "(II)I" } : Jvm.MethodName)) ∈ q_big := q_inbig q_sub7 (i := 224) (by decide +kernel) rfl
theorem k7_225 : (Jvm.Cond.code ({ cls := "SalaryCapLedgerModel", name := "share", desc := "(II)I" } : Jvm.MethodName) prog_11_method_92_code (3 : Nat) (Option.some Jvm.ClassFile.FieldType.int)) ∈ q_big := q_inbig q_sub7 (i := 225) (by decide +kernel) rfl
theorem k7_226 : (Jvm.Cond.methodLink "SalaryCapLedgerLaw" (235 : Nat) ({ cls := "SalaryCapLedgerModel", name := "playerRank", desc := "(I)I" } : Jvm.MethodName)) ∈ q_big := q_inbig q_sub7 (i := 226) (by decide +kernel) rfl
theorem k7_227 : (Jvm.Cond.instanceMethod ({ cls := "SalaryCapLedgerModel", name := "playerRank", desc := "(I)I" } : Jvm.MethodName)) ∈ q_big := q_inbig q_sub7 (i := 227) (by decide +kernel) rfl
theorem k7_228 : (Jvm.Cond.selects "SalaryCapLedgerModel" ({ cls := "SalaryCapLedgerModel", name := "playerRank", desc := "(I)I" } : Jvm.MethodName) ({ cls := "SalaryCapLedgerModel", name := "playerRank", desc := "(I)I" } : Jvm.MethodName)) ∈ q_big := q_inbig q_sub7 (i := 228) (by decide +kernel) rfl
theorem k7_229 : (Jvm.Cond.code ({ cls := "SalaryCapLedgerModel", name := "playerRank", desc := "(I)I" } : Jvm.MethodName) prog_11_method_94_code (6 : Nat) (Option.some Jvm.ClassFile.FieldType.int)) ∈ q_big := q_inbig q_sub7 (i := 229) (by decide +kernel) rfl
theorem k7_230 : (Jvm.Cond.methodLink "SalaryCapLedgerModel" (384 : Nat) ({ cls := "SalaryCapLedgerModel", name := "costNow", desc := "(I)I" } : Jvm.MethodName)) ∈ q_big := q_inbig q_sub7 (i := 230) (by decide +kernel) rfl
theorem k7_232 : (Jvm.Cond.instanceMethod ({ cls := "SalaryCapLedgerModel", name := "costNow", desc := "(I)I" } : Jvm.MethodName)) ∈ q_big := q_inbig q_sub7 (i := 232) (by decide +kernel) rfl
theorem k7_233 : (Jvm.Cond.code ({ cls := "SalaryCapLedgerModel", name := "costNow", desc := "(I)I" } : Jvm.MethodName) prog_11_method_93_code (2 : Nat) (Option.some Jvm.ClassFile.FieldType.int)) ∈ q_big := q_inbig q_sub7 (i := 233) (by decide +kernel) rfl
theorem k7_234 : (Jvm.Cond.methodLink "SalaryCapLedgerLaw" (239 : Nat) ({ cls := "SalaryCapLedgerModel", name := "meanSalary", desc := "(I)D" } : Jvm.MethodName)) ∈ q_big := q_inbig q_sub7 (i := 234) (by decide +kernel) rfl
theorem k7_235 : (Jvm.Cond.instanceMethod ({ cls := "SalaryCapLedgerModel", name := "meanSalary", desc := "(I)D" } : Jvm.MethodName)) ∈ q_big := q_inbig q_sub7 (i := 235) (by decide +kernel) rfl
theorem k7_236 : (Jvm.Cond.selects "SalaryCapLedgerModel" ({ cls := "SalaryCapLedgerModel", name := "meanSalary", desc := "(I)D" } : Jvm.MethodName) ({ cls := "SalaryCapLedgerModel", name := "meanSalary", desc := "(I)D" } : Jvm.MethodName)) ∈ q_big := q_inbig q_sub7 (i := 236) (by decide +kernel) rfl
theorem k7_237 : (Jvm.Cond.code ({ cls := "SalaryCapLedgerModel", name := "meanSalary", desc := "(I)D" } : Jvm.MethodName) prog_11_method_95_code (3 : Nat) (Option.some Jvm.ClassFile.FieldType.double)) ∈ q_big := q_inbig q_sub7 (i := 237) (by decide +kernel) rfl
theorem k7_238 : (Jvm.Cond.methodLink "SalaryCapLedgerLaw" (242 : Nat) ({ cls := "SalaryCapLedgerModel", name := "signCode", desc := "(III)I" } : Jvm.MethodName)) ∈ q_big := q_inbig q_sub7 (i := 238) (by decide +kernel) rfl
theorem k7_239 : (Jvm.Cond.instanceMethod ({ cls := "SalaryCapLedgerModel", name := "signCode", desc := "(III)I" } : Jvm.MethodName)) ∈ q_big := q_inbig q_sub7 (i := 239) (by decide +kernel) rfl
theorem k8_0 : (Jvm.Cond.selects "SalaryCapLedgerModel" ({ cls := "SalaryCapLedgerModel", name := "signCode", desc := "(III)I" } : Jvm.MethodName) ({ cls := "SalaryCapLedgerModel", name := "signCode", desc := "(III)I" } : Jvm.MethodName)) ∈ q_big := q_inbig q_sub8 (i := 0) (by decide +kernel) rfl
theorem k8_1 : (Jvm.Cond.code ({ cls := "SalaryCapLedgerModel", name := "signCode", desc := "(III)I" } : Jvm.MethodName) prog_11_method_96_code (4 : Nat) (Option.some Jvm.ClassFile.FieldType.int)) ∈ q_big := q_inbig q_sub8 (i := 1) (by decide +kernel) rfl
theorem k8_2 : (Jvm.Cond.methodLink "SalaryCapLedgerLaw" (245 : Nat) ({ cls := "SalaryCapLedgerModel", name := "bestRule", desc := "(II)I" } : Jvm.MethodName)) ∈ q_big := q_inbig q_sub8 (i := 2) (by decide +kernel) rfl
theorem k8_3 : (Jvm.Cond.instanceMethod ({ cls := "SalaryCapLedgerModel", name := "bestRule", desc := "(II)I" } : Jvm.MethodName)) ∈ q_big := q_inbig q_sub8 (i := 3) (by decide +kernel) rfl
theorem k8_4 : (Jvm.Cond.selects "SalaryCapLedgerModel" ({ cls := "SalaryCapLedgerModel", name := "bestRule", desc := "(II)I" } : Jvm.MethodName) ({ cls := "SalaryCapLedgerModel", name := "bestRule", desc := "(II)I" } : Jvm.MethodName)) ∈ q_big := q_inbig q_sub8 (i := 4) (by decide +kernel) rfl
theorem k8_5 : (Jvm.Cond.code ({ cls := "SalaryCapLedgerModel", name := "bestRule", desc := "(II)I" } : Jvm.MethodName) prog_11_method_97_code (4 : Nat) (Option.some Jvm.ClassFile.FieldType.int)) ∈ q_big := q_inbig q_sub8 (i := 5) (by decide +kernel) rfl
theorem k8_6 : (Jvm.Cond.methodLink "SalaryCapLedgerLaw" (248 : Nat) ({ cls := "SalaryCapLedgerModel", name := "greatestBase", desc := "(III)I" } : Jvm.MethodName)) ∈ q_big := q_inbig q_sub8 (i := 6) (by decide +kernel) rfl
theorem k8_7 : (Jvm.Cond.instanceMethod ({ cls := "SalaryCapLedgerModel", name := "greatestBase", desc := "(III)I" } : Jvm.MethodName)) ∈ q_big := q_inbig q_sub8 (i := 7) (by decide +kernel) rfl
theorem k8_8 : (Jvm.Cond.selects "SalaryCapLedgerModel" ({ cls := "SalaryCapLedgerModel", name := "greatestBase", desc := "(III)I" } : Jvm.MethodName) ({ cls := "SalaryCapLedgerModel", name := "greatestBase", desc := "(III)I" } : Jvm.MethodName)) ∈ q_big := q_inbig q_sub8 (i := 8) (by decide +kernel) rfl
theorem k8_9 : (Jvm.Cond.code ({ cls := "SalaryCapLedgerModel", name := "greatestBase", desc := "(III)I" } : Jvm.MethodName) prog_11_method_98_code (9 : Nat) (Option.some Jvm.ClassFile.FieldType.int)) ∈ q_big := q_inbig q_sub8 (i := 9) (by decide +kernel) rfl
theorem k8_10 : (Jvm.Cond.methodLink "SalaryCapLedgerModel" (387 : Nat) ({ cls := "java/lang/Math", name := "min", desc := "(JJ)J" } : Jvm.MethodName)) ∈ q_big := q_inbig q_sub8 (i := 10) (by decide +kernel) rfl
theorem k8_11 : (Jvm.Cond.methodLink "SalaryCapLedgerLaw" (252 : Nat) ({ cls := "SalaryCapLedgerModel", name := "releaseCost", desc := "(IZI)I" } : Jvm.MethodName)) ∈ q_big := q_inbig q_sub8 (i := 11) (by decide +kernel) rfl
theorem k8_12 : (Jvm.Cond.instanceMethod ({ cls := "SalaryCapLedgerModel", name := "releaseCost", desc := "(IZI)I" } : Jvm.MethodName)) ∈ q_big := q_inbig q_sub8 (i := 12) (by decide +kernel) rfl
theorem k8_13 : (Jvm.Cond.selects "SalaryCapLedgerModel" ({ cls := "SalaryCapLedgerModel", name := "releaseCost", desc := "(IZI)I" } : Jvm.MethodName) ({ cls := "SalaryCapLedgerModel", name := "releaseCost", desc := "(IZI)I" } : Jvm.MethodName)) ∈ q_big := q_inbig q_sub8 (i := 13) (by decide +kernel) rfl
theorem k8_14 : (Jvm.Cond.code ({ cls := "SalaryCapLedgerModel", name := "releaseCost", desc := "(IZI)I" } : Jvm.MethodName) prog_11_method_99_code (5 : Nat) (Option.some Jvm.ClassFile.FieldType.int)) ∈ q_big := q_inbig q_sub8 (i := 14) (by decide +kernel) rfl
theorem k8_15 : (Jvm.Cond.methodLink "SalaryCapLedgerLaw" (255 : Nat) ({ cls := "SalaryCapLedgerModel", name := "releaseGain", desc := "(IZ)I" } : Jvm.MethodName)) ∈ q_big := q_inbig q_sub8 (i := 15) (by decide +kernel) rfl
theorem k8_16 : (Jvm.Cond.instanceMethod ({ cls := "SalaryCapLedgerModel", name := "releaseGain", desc := "(IZ)I" } : Jvm.MethodName)) ∈ q_big := q_inbig q_sub8 (i := 16) (by decide +kernel) rfl
theorem k8_17 : (Jvm.Cond.selects "SalaryCapLedgerModel" ({ cls := "SalaryCapLedgerModel", name := "releaseGain", desc := "(IZ)I" } : Jvm.MethodName) ({ cls := "SalaryCapLedgerModel", name := "releaseGain", desc := "(IZ)I" } : Jvm.MethodName)) ∈ q_big := q_inbig q_sub8 (i := 17) (by decide +kernel) rfl
theorem k8_18 : (Jvm.Cond.code ({ cls := "SalaryCapLedgerModel", name := "releaseGain", desc := "(IZ)I" } : Jvm.MethodName) prog_11_method_101_code (3 : Nat) (Option.some Jvm.ClassFile.FieldType.int)) ∈ q_big := q_inbig q_sub8 (i := 18) (by decide +kernel) rfl
theorem k8_19 : (Jvm.Cond.methodLink "SalaryCapLedgerModel" (390 : Nat) ({ cls := "SalaryCapLedgerModel", name := "gainOf", desc := "(IZ)I" } : Jvm.MethodName)) ∈ q_big := q_inbig q_sub8 (i := 19) (by decide +kernel) rfl
theorem k8_21 : (Jvm.Cond.instanceMethod ({ cls := "SalaryCapLedgerModel", name := "gainOf", desc := "(IZ)I" } : Jvm.MethodName)) ∈ q_big := q_inbig q_sub8 (i := 21) (by decide +kernel) rfl
theorem k8_22 : (Jvm.Cond.code ({ cls := "SalaryCapLedgerModel", name := "gainOf", desc := "(IZ)I" } : Jvm.MethodName) prog_11_method_100_code (4 : Nat) (Option.some Jvm.ClassFile.FieldType.int)) ∈ q_big := q_inbig q_sub8 (i := 22) (by decide +kernel) rfl
theorem k8_23 : (Jvm.Cond.methodLink "SalaryCapLedgerLaw" (258 : Nat) ({ cls := "SalaryCapLedgerModel", name := "fewestReleases", desc := "(I)I" } : Jvm.MethodName)) ∈ q_big := q_inbig q_sub8 (i := 23) (by decide +kernel) rfl
theorem k8_24 : (Jvm.Cond.instanceMethod ({ cls := "SalaryCapLedgerModel", name := "fewestReleases", desc := "(I)I" } : Jvm.MethodName)) ∈ q_big := q_inbig q_sub8 (i := 24) (by decide +kernel) rfl
theorem k8_25 : (Jvm.Cond.selects "SalaryCapLedgerModel" ({ cls := "SalaryCapLedgerModel", name := "fewestReleases", desc := "(I)I" } : Jvm.MethodName) ({ cls := "SalaryCapLedgerModel", name := "fewestReleases", desc := "(I)I" } : Jvm.MethodName)) ∈ q_big := q_inbig q_sub8 (i := 25) (by decide +kernel) rfl
theorem k8_26 : (Jvm.Cond.code ({ cls := "SalaryCapLedgerModel", name := "fewestReleases", desc := "(I)I" } : Jvm.MethodName) prog_11_method_103_code (3 : Nat) (Option.some Jvm.ClassFile.FieldType.int)) ∈ q_big := q_inbig q_sub8 (i := 26) (by decide +kernel) rfl
theorem k8_27 : (Jvm.Cond.methodLink "SalaryCapLedgerModel" (393 : Nat) ({ cls := "SalaryCapLedgerModel", name := "bestReleases", desc := "(I)I" } : Jvm.MethodName)) ∈ q_big := q_inbig q_sub8 (i := 27) (by decide +kernel) rfl
theorem k8_29 : (Jvm.Cond.instanceMethod ({ cls := "SalaryCapLedgerModel", name := "bestReleases", desc := "(I)I" } : Jvm.MethodName)) ∈ q_big := q_inbig q_sub8 (i := 29) (by decide +kernel) rfl
theorem k8_30 : (Jvm.Cond.code ({ cls := "SalaryCapLedgerModel", name := "bestReleases", desc := "(I)I" } : Jvm.MethodName) prog_11_method_102_code (13 : Nat) (Option.some Jvm.ClassFile.FieldType.int)) ∈ q_big := q_inbig q_sub8 (i := 30) (by decide +kernel) rfl
theorem k8_31 : (Jvm.Cond.methodLink "SalaryCapLedgerLaw" (261 : Nat) ({ cls := "SalaryCapLedgerModel", name := "releaseSet", desc := "(I)I" } : Jvm.MethodName)) ∈ q_big := q_inbig q_sub8 (i := 31) (by decide +kernel) rfl
theorem k8_32 : (Jvm.Cond.instanceMethod ({ cls := "SalaryCapLedgerModel", name := "releaseSet", desc := "(I)I" } : Jvm.MethodName)) ∈ q_big := q_inbig q_sub8 (i := 32) (by decide +kernel) rfl
theorem k8_33 : (Jvm.Cond.selects "SalaryCapLedgerModel" ({ cls := "SalaryCapLedgerModel", name := "releaseSet", desc := "(I)I" } : Jvm.MethodName) ({ cls := "SalaryCapLedgerModel", name := "releaseSet", desc := "(I)I" } : Jvm.MethodName)) ∈ q_big := q_inbig q_sub8 (i := 33) (by decide +kernel) rfl
theorem k8_34 : (Jvm.Cond.code ({ cls := "SalaryCapLedgerModel", name := "releaseSet", desc := "(I)I" } : Jvm.MethodName) prog_11_method_104_code (3 : Nat) (Option.some Jvm.ClassFile.FieldType.int)) ∈ q_big := q_inbig q_sub8 (i := 34) (by decide +kernel) rfl
theorem k8_35 : (Jvm.Cond.methodLink "SalaryCapLedgerLaw" (264 : Nat) ({ cls := "SalaryCapLedgerModel", name := "tradeCode", desc := "(IIII)I" } : Jvm.MethodName)) ∈ q_big := q_inbig q_sub8 (i := 35) (by decide +kernel) rfl
theorem k8_36 : (Jvm.Cond.instanceMethod ({ cls := "SalaryCapLedgerModel", name := "tradeCode", desc := "(IIII)I" } : Jvm.MethodName)) ∈ q_big := q_inbig q_sub8 (i := 36) (by decide +kernel) rfl
theorem k8_37 : (Jvm.Cond.selects "SalaryCapLedgerModel" ({ cls := "SalaryCapLedgerModel", name := "tradeCode", desc := "(IIII)I" } : Jvm.MethodName) ({ cls := "SalaryCapLedgerModel", name := "tradeCode", desc := "(IIII)I" } : Jvm.MethodName)) ∈ q_big := q_inbig q_sub8 (i := 37) (by decide +kernel) rfl
theorem k8_38 : (Jvm.Cond.code ({ cls := "SalaryCapLedgerModel", name := "tradeCode", desc := "(IIII)I" } : Jvm.MethodName) prog_11_method_105_code (6 : Nat) (Option.some Jvm.ClassFile.FieldType.int)) ∈ q_big := q_inbig q_sub8 (i := 38) (by decide +kernel) rfl
theorem k8_39 : (Jvm.Cond.methodLink "SalaryCapLedgerLaw" (267 : Nat) ({ cls := "SalaryCapLedgerModel", name := "swapCount", desc := "(II)I" } : Jvm.MethodName)) ∈ q_big := q_inbig q_sub8 (i := 39) (by decide +kernel) rfl
theorem k8_40 : (Jvm.Cond.instanceMethod ({ cls := "SalaryCapLedgerModel", name := "swapCount", desc := "(II)I" } : Jvm.MethodName)) ∈ q_big := q_inbig q_sub8 (i := 40) (by decide +kernel) rfl
theorem k8_41 : (Jvm.Cond.selects "SalaryCapLedgerModel" ({ cls := "SalaryCapLedgerModel", name := "swapCount", desc := "(II)I" } : Jvm.MethodName) ({ cls := "SalaryCapLedgerModel", name := "swapCount", desc := "(II)I" } : Jvm.MethodName)) ∈ q_big := q_inbig q_sub8 (i := 41) (by decide +kernel) rfl
theorem k8_42 : (Jvm.Cond.code ({ cls := "SalaryCapLedgerModel", name := "swapCount", desc := "(II)I" } : Jvm.MethodName) prog_11_method_108_code (3 : Nat) (Option.some Jvm.ClassFile.FieldType.int)) ∈ q_big := q_inbig q_sub8 (i := 42) (by decide +kernel) rfl
theorem k8_43 : (Jvm.Cond.methodLink "SalaryCapLedgerModel" (402 : Nat) ({ cls := "SalaryCapLedgerModel", name := "areTwo", desc := "(II)Z" } : Jvm.MethodName)) ∈ q_big := q_inbig q_sub8 (i := 43) (by decide +kernel) rfl
theorem k8_45 : (Jvm.Cond.instanceMethod ({ cls := "SalaryCapLedgerModel", name := "areTwo", desc := "(II)Z" } : Jvm.MethodName)) ∈ q_big := q_inbig q_sub8 (i := 45) (by decide +kernel) rfl
theorem k8_46 : (Jvm.Cond.code ({ cls := "SalaryCapLedgerModel", name := "areTwo", desc := "(II)Z" } : Jvm.MethodName) prog_11_method_107_code (3 : Nat) (Option.some Jvm.ClassFile.FieldType.boolean)) ∈ q_big := q_inbig q_sub8 (i := 46) (by decide +kernel) rfl
theorem k8_47 : (Jvm.Cond.methodLink "SalaryCapLedgerModel" (405 : Nat) ({ cls := "SalaryCapLedgerModel", name := "trySwaps", desc := "(II)V" } : Jvm.MethodName)) ∈ q_big := q_inbig q_sub8 (i := 47) (by decide +kernel) rfl
theorem k8_49 : (Jvm.Cond.instanceMethod ({ cls := "SalaryCapLedgerModel", name := "trySwaps", desc := "(II)V" } : Jvm.MethodName)) ∈ q_big := q_inbig q_sub8 (i := 49) (by decide +kernel) rfl
theorem k8_50 : (Jvm.Cond.code ({ cls := "SalaryCapLedgerModel", name := "trySwaps", desc := "(II)V" } : Jvm.MethodName) prog_11_method_106_code (12 : Nat) (Option.none : Option Jvm.ClassFile.FieldType)) ∈ q_big := q_inbig q_sub8 (i := 50) (by decide +kernel) rfl
theorem k8_51 : (Jvm.Cond.methodLink "SalaryCapLedgerLaw" (270 : Nat) ({ cls := "SalaryCapLedgerModel", name := "bestSwap", desc := "(II)I" } : Jvm.MethodName)) ∈ q_big := q_inbig q_sub8 (i := 51) (by decide +kernel) rfl
theorem k8_52 : (Jvm.Cond.instanceMethod ({ cls := "SalaryCapLedgerModel", name := "bestSwap", desc := "(II)I" } : Jvm.MethodName)) ∈ q_big := q_inbig q_sub8 (i := 52) (by decide +kernel) rfl
theorem k8_53 : (Jvm.Cond.selects "SalaryCapLedgerModel" ({ cls := "SalaryCapLedgerModel", name := "bestSwap", desc := "(II)I" } : Jvm.MethodName) ({ cls := "SalaryCapLedgerModel", name := "bestSwap", desc := "(II)I" } : Jvm.MethodName)) ∈ q_big := q_inbig q_sub8 (i := 53) (by decide +kernel) rfl
theorem k8_54 : (Jvm.Cond.code ({ cls := "SalaryCapLedgerModel", name := "bestSwap", desc := "(II)I" } : Jvm.MethodName) prog_11_method_109_code (3 : Nat) (Option.some Jvm.ClassFile.FieldType.int)) ∈ q_big := q_inbig q_sub8 (i := 54) (by decide +kernel) rfl
theorem k8_55 : (Jvm.Cond.methodLink "SalaryCapLedgerLaw" (273 : Nat) ({ cls := "SalaryCapLedgerModel", name := "taxAhead", desc := "(II)J" } : Jvm.MethodName)) ∈ q_big := q_inbig q_sub8 (i := 55) (by decide +kernel) rfl
theorem k8_56 : (Jvm.Cond.instanceMethod ({ cls := "SalaryCapLedgerModel", name := "taxAhead", desc := "(II)J" } : Jvm.MethodName)) ∈ q_big := q_inbig q_sub8 (i := 56) (by decide +kernel) rfl
theorem k8_57 : (Jvm.Cond.selects "SalaryCapLedgerModel" ({ cls := "SalaryCapLedgerModel", name := "taxAhead", desc := "(II)J" } : Jvm.MethodName) ({ cls := "SalaryCapLedgerModel", name := "taxAhead", desc := "(II)J" } : Jvm.MethodName)) ∈ q_big := q_inbig q_sub8 (i := 57) (by decide +kernel) rfl
theorem k8_58 : (Jvm.Cond.code ({ cls := "SalaryCapLedgerModel", name := "taxAhead", desc := "(II)J" } : Jvm.MethodName) prog_11_method_110_code (8 : Nat) (Option.some Jvm.ClassFile.FieldType.long)) ∈ q_big := q_inbig q_sub8 (i := 58) (by decide +kernel) rfl
theorem k8_59 : (Jvm.Cond.constantLong "SalaryCapLedgerModel" (409 : Nat) (8 : Int64)) ∈ q_big := q_inbig q_sub8 (i := 59) (by decide +kernel) rfl
theorem k8_60 : (Jvm.Cond.arrayClass Jvm.ClassFile.FieldType.double) ∈ q_big := q_inbig q_sub8 (i := 60) (by decide +kernel) rfl
theorem k8_78 : (Jvm.Cond.fieldLink "java/lang/String" (9 : Nat) "java/lang/String" "value" "[B") ∈ q_big := q_inbig q_sub8 (i := 78) (by decide +kernel) rfl
theorem k8_79 : (Jvm.Cond.fieldLink "java/lang/String" (15 : Nat) "java/lang/String" "coder" "B") ∈ q_big := q_inbig q_sub8 (i := 79) (by decide +kernel) rfl
theorem ks_0 : Cond.selects "SalaryCapLedger$Reader" ⟨"SalaryCapLedger$Reader", "findToken", "()V"⟩ ⟨"SalaryCapLedger$Reader", "findToken", "()V"⟩ ∈ q_big := q_insel (i := 0) (q := (⟨"SalaryCapLedger$Reader", "findToken", "()V"⟩, 11)) (by decide +kernel) rfl
theorem ks_1 : Cond.selects "SalaryCapLedger$Reader" ⟨"SalaryCapLedger$Reader", "isLetter", "(I)Z"⟩ ⟨"SalaryCapLedger$Reader", "isLetter", "(I)Z"⟩ ∈ q_big := q_insel (i := 1) (q := (⟨"SalaryCapLedger$Reader", "isLetter", "(I)Z"⟩, 11)) (by decide +kernel) rfl
theorem ks_2 : Cond.selects "SalaryCapLedger$Reader" ⟨"SalaryCapLedger$Reader", "isDigit", "(I)Z"⟩ ⟨"SalaryCapLedger$Reader", "isDigit", "(I)Z"⟩ ∈ q_big := q_insel (i := 2) (q := (⟨"SalaryCapLedger$Reader", "isDigit", "(I)Z"⟩, 11)) (by decide +kernel) rfl
theorem ks_3 : Cond.selects "SalaryCapLedger$Reader" ⟨"SalaryCapLedger$Reader", "findNumber", "()V"⟩ ⟨"SalaryCapLedger$Reader", "findNumber", "()V"⟩ ∈ q_big := q_insel (i := 3) (q := (⟨"SalaryCapLedger$Reader", "findNumber", "()V"⟩, 11)) (by decide +kernel) rfl
theorem ks_4 : Cond.selects "SalaryCapLedger$Reader" ⟨"SalaryCapLedger$Reader", "readLeague", "(LSalaryCapLedger$Terms;)V"⟩ ⟨"SalaryCapLedger$Reader", "readLeague", "(LSalaryCapLedger$Terms;)V"⟩ ∈ q_big := q_insel (i := 4) (q := (⟨"SalaryCapLedger$Reader", "readLeague", "(LSalaryCapLedger$Terms;)V"⟩, 11)) (by decide +kernel) rfl
theorem ks_5 : Cond.selects "SalaryCapLedger$Reader" ⟨"SalaryCapLedger$Reader", "takeWord", "(Ljava/lang/String;)V"⟩ ⟨"SalaryCapLedger$Reader", "takeWord", "(Ljava/lang/String;)V"⟩ ∈ q_big := q_insel (i := 5) (q := (⟨"SalaryCapLedger$Reader", "takeWord", "(Ljava/lang/String;)V"⟩, 11)) (by decide +kernel) rfl
theorem ks_6 : Cond.selects "SalaryCapLedger$Reader" ⟨"SalaryCapLedger$Reader", "isWord", "(Ljava/lang/String;)Z"⟩ ⟨"SalaryCapLedger$Reader", "isWord", "(Ljava/lang/String;)Z"⟩ ∈ q_big := q_insel (i := 6) (q := (⟨"SalaryCapLedger$Reader", "isWord", "(Ljava/lang/String;)Z"⟩, 11)) (by decide +kernel) rfl
theorem ks_7 : Cond.selects "SalaryCapLedger$Reader" ⟨"SalaryCapLedger$Reader", "fail", "(II)V"⟩ ⟨"SalaryCapLedger$Reader", "fail", "(II)V"⟩ ∈ q_big := q_insel (i := 7) (q := (⟨"SalaryCapLedger$Reader", "fail", "(II)V"⟩, 11)) (by decide +kernel) rfl
theorem ks_8 : Cond.selects "SalaryCapLedger$Reader" ⟨"SalaryCapLedger$Reader", "takeNumber", "(II)I"⟩ ⟨"SalaryCapLedger$Reader", "takeNumber", "(II)I"⟩ ∈ q_big := q_insel (i := 8) (q := (⟨"SalaryCapLedger$Reader", "takeNumber", "(II)I"⟩, 11)) (by decide +kernel) rfl
theorem ks_9 : Cond.selects "SalaryCapLedger$Reader" ⟨"SalaryCapLedger$Reader", "takeSemicolon", "()V"⟩ ⟨"SalaryCapLedger$Reader", "takeSemicolon", "()V"⟩ ∈ q_big := q_insel (i := 9) (q := (⟨"SalaryCapLedger$Reader", "takeSemicolon", "()V"⟩, 11)) (by decide +kernel) rfl
theorem ks_10 : Cond.selects "SalaryCapLedger$Reader" ⟨"SalaryCapLedger$Reader", "readBrackets", "(LSalaryCapLedger$Terms;)V"⟩ ⟨"SalaryCapLedger$Reader", "readBrackets", "(LSalaryCapLedger$Terms;)V"⟩ ∈ q_big := q_insel (i := 10) (q := (⟨"SalaryCapLedger$Reader", "readBrackets", "(LSalaryCapLedger$Terms;)V"⟩, 11)) (by decide +kernel) rfl
theorem ks_11 : Cond.selects "SalaryCapLedger$Reader" ⟨"SalaryCapLedger$Reader", "readContract", "(LSalaryCapLedger$Terms;LSalaryCapLedger$Books;)V"⟩ ⟨"SalaryCapLedger$Reader", "readContract", "(LSalaryCapLedger$Terms;LSalaryCapLedger$Books;)V"⟩ ∈ q_big := q_insel (i := 11) (q := (⟨"SalaryCapLedger$Reader", "readContract", "(LSalaryCapLedger$Terms;LSalaryCapLedger$Books;)V"⟩, 11)) (by decide +kernel) rfl
theorem ks_12 : Cond.selects "SalaryCapLedger" ⟨"SalaryCapLedger", "useSpareLeague", "()V"⟩ ⟨"SalaryCapLedger", "useSpareLeague", "()V"⟩ ∈ q_big := q_insel (i := 12) (q := (⟨"SalaryCapLedger", "useSpareLeague", "()V"⟩, 11)) (by decide +kernel) rfl
theorem ks_13 : Cond.selects "java/lang/Throwable" ⟨"java/lang/Throwable", "fillInStackTrace", "(I)Ljava/lang/Throwable;"⟩ ⟨"java/lang/Throwable", "fillInStackTrace", "(I)Ljava/lang/Throwable;"⟩ ∈ q_big := q_insel (i := 13) (q := (⟨"java/lang/Throwable", "fillInStackTrace", "(I)Ljava/lang/Throwable;"⟩, 6)) (by decide +kernel) rfl
theorem ks_14 : Cond.selects "SalaryCapLedger" ⟨"SalaryCapLedger", "appendWord", "(I)V"⟩ ⟨"SalaryCapLedger", "appendWord", "(I)V"⟩ ∈ q_big := q_insel (i := 14) (q := (⟨"SalaryCapLedger", "appendWord", "(I)V"⟩, 11)) (by decide +kernel) rfl
theorem ks_15 : Cond.selects "SalaryCapLedger" ⟨"SalaryCapLedger", "requireLeague", "()V"⟩ ⟨"SalaryCapLedger", "requireLeague", "()V"⟩ ∈ q_big := q_insel (i := 15) (q := (⟨"SalaryCapLedger", "requireLeague", "()V"⟩, 11)) (by decide +kernel) rfl
theorem ks_16 : Cond.selects "SalaryCapLedger" ⟨"SalaryCapLedger", "requireTeam", "(I)V"⟩ ⟨"SalaryCapLedger", "requireTeam", "(I)V"⟩ ∈ q_big := q_insel (i := 16) (q := (⟨"SalaryCapLedger", "requireTeam", "(I)V"⟩, 11)) (by decide +kernel) rfl
theorem ks_17 : Cond.selects "SalaryCapLedger" ⟨"SalaryCapLedger", "requirePlayer", "(I)V"⟩ ⟨"SalaryCapLedger", "requirePlayer", "(I)V"⟩ ∈ q_big := q_insel (i := 17) (q := (⟨"SalaryCapLedger", "requirePlayer", "(I)V"⟩, 11)) (by decide +kernel) rfl
theorem ks_18 : Cond.selects "SalaryCapLedger" ⟨"SalaryCapLedger", "signError", "(III)I"⟩ ⟨"SalaryCapLedger", "signError", "(III)I"⟩ ∈ q_big := q_insel (i := 18) (q := (⟨"SalaryCapLedger", "signError", "(III)I"⟩, 11)) (by decide +kernel) rfl
theorem ks_19 : Cond.selects "SalaryCapLedger" ⟨"SalaryCapLedger", "placeError", "(II)I"⟩ ⟨"SalaryCapLedger", "placeError", "(II)I"⟩ ∈ q_big := q_insel (i := 19) (q := (⟨"SalaryCapLedger", "placeError", "(II)I"⟩, 11)) (by decide +kernel) rfl
theorem ks_20 : Cond.selects "SalaryCapLedger" ⟨"SalaryCapLedger", "baseLimit", "(III)I"⟩ ⟨"SalaryCapLedger", "baseLimit", "(III)I"⟩ ∈ q_big := q_insel (i := 20) (q := (⟨"SalaryCapLedger", "baseLimit", "(III)I"⟩, 11)) (by decide +kernel) rfl
theorem ks_21 : Cond.selects "SalaryCapLedger" ⟨"SalaryCapLedger", "roomOf", "(I)I"⟩ ⟨"SalaryCapLedger", "roomOf", "(I)I"⟩ ∈ q_big := q_insel (i := 21) (q := (⟨"SalaryCapLedger", "roomOf", "(I)I"⟩, 11)) (by decide +kernel) rfl
theorem ks_22 : Cond.selects "SalaryCapLedger" ⟨"SalaryCapLedger", "requireTrade", "(IIII)V"⟩ ⟨"SalaryCapLedger", "requireTrade", "(IIII)V"⟩ ∈ q_big := q_insel (i := 22) (q := (⟨"SalaryCapLedger", "requireTrade", "(IIII)V"⟩, 11)) (by decide +kernel) rfl
theorem ks_23 : Cond.selects "SalaryCapLedger" ⟨"SalaryCapLedger", "requireTwoTeams", "(II)V"⟩ ⟨"SalaryCapLedger", "requireTwoTeams", "(II)V"⟩ ∈ q_big := q_insel (i := 23) (q := (⟨"SalaryCapLedger", "requireTwoTeams", "(II)V"⟩, 11)) (by decide +kernel) rfl
theorem ks_24 : Cond.selects "SalaryCapLedger" ⟨"SalaryCapLedger", "tradeError", "(IIII)I"⟩ ⟨"SalaryCapLedger", "tradeError", "(IIII)I"⟩ ∈ q_big := q_insel (i := 24) (q := (⟨"SalaryCapLedger", "tradeError", "(IIII)I"⟩, 11)) (by decide +kernel) rfl
theorem ks_25 : Cond.selects "SalaryCapLedger" ⟨"SalaryCapLedger", "salariesMatch", "(III)Z"⟩ ⟨"SalaryCapLedger", "salariesMatch", "(III)Z"⟩ ∈ q_big := q_insel (i := 25) (q := (⟨"SalaryCapLedger", "salariesMatch", "(III)Z"⟩, 11)) (by decide +kernel) rfl
theorem ks_26 : Cond.selects "SalaryCapLedger" ⟨"SalaryCapLedger", "payTax", "(I)J"⟩ ⟨"SalaryCapLedger", "payTax", "(I)J"⟩ ∈ q_big := q_insel (i := 26) (q := (⟨"SalaryCapLedger", "payTax", "(I)J"⟩, 11)) (by decide +kernel) rfl
theorem ks_27 : Cond.selects "SalaryCapLedger" ⟨"SalaryCapLedger", "taxOn", "(II)J"⟩ ⟨"SalaryCapLedger", "taxOn", "(II)J"⟩ ∈ q_big := q_insel (i := 27) (q := (⟨"SalaryCapLedger", "taxOn", "(II)J"⟩, 11)) (by decide +kernel) rfl
theorem ks_28 : Cond.selects "SalaryCapLedger$Terms" ⟨"SalaryCapLedger$Terms", "isTaxedOften", "(II)Z"⟩ ⟨"SalaryCapLedger$Terms", "isTaxedOften", "(II)Z"⟩ ∈ q_big := q_insel (i := 28) (q := (⟨"SalaryCapLedger$Terms", "isTaxedOften", "(II)Z"⟩, 9)) (by decide +kernel) rfl
theorem ks_29 : Cond.selects "SalaryCapLedger" ⟨"SalaryCapLedger", "teamsBefore", "(II)I"⟩ ⟨"SalaryCapLedger", "teamsBefore", "(II)I"⟩ ∈ q_big := q_insel (i := 29) (q := (⟨"SalaryCapLedger", "teamsBefore", "(II)I"⟩, 11)) (by decide +kernel) rfl
theorem ks_30 : Cond.selects "SalaryCapLedger" ⟨"SalaryCapLedger", "teamMeasure", "(II)J"⟩ ⟨"SalaryCapLedger", "teamMeasure", "(II)J"⟩ ∈ q_big := q_insel (i := 30) (q := (⟨"SalaryCapLedger", "teamMeasure", "(II)J"⟩, 11)) (by decide +kernel) rfl
theorem ks_31 : Cond.selects "SalaryCapLedger" ⟨"SalaryCapLedger", "contractValue", "(LSalaryCapLedger$Player;I)I"⟩ ⟨"SalaryCapLedger", "contractValue", "(LSalaryCapLedger$Player;I)I"⟩ ∈ q_big := q_insel (i := 31) (q := (⟨"SalaryCapLedger", "contractValue", "(LSalaryCapLedger$Player;I)I"⟩, 11)) (by decide +kernel) rfl
theorem ks_32 : Cond.selects "SalaryCapLedger" ⟨"SalaryCapLedger", "playersBefore", "(I)I"⟩ ⟨"SalaryCapLedger", "playersBefore", "(I)I"⟩ ∈ q_big := q_insel (i := 32) (q := (⟨"SalaryCapLedger", "playersBefore", "(I)I"⟩, 11)) (by decide +kernel) rfl
theorem ks_33 : Cond.selects "SalaryCapLedger$Releases" ⟨"SalaryCapLedger$Releases", "greatestGain", "(I)I"⟩ ⟨"SalaryCapLedger$Releases", "greatestGain", "(I)I"⟩ ∈ q_big := q_insel (i := 33) (q := (⟨"SalaryCapLedger$Releases", "greatestGain", "(I)I"⟩, 4)) (by decide +kernel) rfl
theorem ks_34 : Cond.selects "SalaryCapLedger$Releases" ⟨"SalaryCapLedger$Releases", "sumAt", "([II)I"⟩ ⟨"SalaryCapLedger$Releases", "sumAt", "([II)I"⟩ ∈ q_big := q_insel (i := 34) (q := (⟨"SalaryCapLedger$Releases", "sumAt", "([II)I"⟩, 4)) (by decide +kernel) rfl
theorem ks_35 : Cond.selects "SalaryCapLedger$Releases" ⟨"SalaryCapLedger$Releases", "numbersAt", "(I)I"⟩ ⟨"SalaryCapLedger$Releases", "numbersAt", "(I)I"⟩ ∈ q_big := q_insel (i := 35) (q := (⟨"SalaryCapLedger$Releases", "numbersAt", "(I)I"⟩, 4)) (by decide +kernel) rfl
theorem ks_36 : Cond.selects "SalaryCapLedger" ⟨"SalaryCapLedger", "swapMatches", "(IIII)Z"⟩ ⟨"SalaryCapLedger", "swapMatches", "(IIII)Z"⟩ ∈ q_big := q_insel (i := 36) (q := (⟨"SalaryCapLedger", "swapMatches", "(IIII)Z"⟩, 11)) (by decide +kernel) rfl
theorem ks_37 : Cond.selects "SalaryCapLedgerModel" ⟨"SalaryCapLedgerModel", "put", "(I)V"⟩ ⟨"SalaryCapLedgerModel", "put", "(I)V"⟩ ∈ q_big := q_insel (i := 37) (q := (⟨"SalaryCapLedgerModel", "put", "(I)V"⟩, 35)) (by decide +kernel) rfl
theorem ks_38 : Cond.selects "SalaryCapLedgerModel" ⟨"SalaryCapLedgerModel", "next", "()V"⟩ ⟨"SalaryCapLedgerModel", "next", "()V"⟩ ∈ q_big := q_insel (i := 38) (q := (⟨"SalaryCapLedgerModel", "next", "()V"⟩, 35)) (by decide +kernel) rfl
theorem ks_39 : Cond.selects "SalaryCapLedgerModel" ⟨"SalaryCapLedgerModel", "isFine", "()Z"⟩ ⟨"SalaryCapLedgerModel", "isFine", "()Z"⟩ ∈ q_big := q_insel (i := 39) (q := (⟨"SalaryCapLedgerModel", "isFine", "()Z"⟩, 35)) (by decide +kernel) rfl
theorem ks_40 : Cond.selects "SalaryCapLedgerModel" ⟨"SalaryCapLedgerModel", "byteAt", "(I)I"⟩ ⟨"SalaryCapLedgerModel", "byteAt", "(I)I"⟩ ∈ q_big := q_insel (i := 40) (q := (⟨"SalaryCapLedgerModel", "byteAt", "(I)I"⟩, 35)) (by decide +kernel) rfl
theorem ks_41 : Cond.selects "SalaryCapLedgerModel" ⟨"SalaryCapLedgerModel", "isLetterAt", "(I)Z"⟩ ⟨"SalaryCapLedgerModel", "isLetterAt", "(I)Z"⟩ ∈ q_big := q_insel (i := 41) (q := (⟨"SalaryCapLedgerModel", "isLetterAt", "(I)Z"⟩, 35)) (by decide +kernel) rfl
theorem ks_42 : Cond.selects "SalaryCapLedgerModel" ⟨"SalaryCapLedgerModel", "isDigitAt", "(I)Z"⟩ ⟨"SalaryCapLedgerModel", "isDigitAt", "(I)Z"⟩ ∈ q_big := q_insel (i := 42) (q := (⟨"SalaryCapLedgerModel", "isDigitAt", "(I)Z"⟩, 35)) (by decide +kernel) rfl
theorem ks_43 : Cond.selects "SalaryCapLedgerModel" ⟨"SalaryCapLedgerModel", "readLeague", "()V"⟩ ⟨"SalaryCapLedgerModel", "readLeague", "()V"⟩ ∈ q_big := q_insel (i := 43) (q := (⟨"SalaryCapLedgerModel", "readLeague", "()V"⟩, 35)) (by decide +kernel) rfl
theorem ks_44 : Cond.selects "SalaryCapLedgerModel" ⟨"SalaryCapLedgerModel", "expect", "(Ljava/lang/String;)V"⟩ ⟨"SalaryCapLedgerModel", "expect", "(Ljava/lang/String;)V"⟩ ∈ q_big := q_insel (i := 44) (q := (⟨"SalaryCapLedgerModel", "expect", "(Ljava/lang/String;)V"⟩, 35)) (by decide +kernel) rfl
theorem ks_45 : Cond.selects "SalaryCapLedgerModel" ⟨"SalaryCapLedgerModel", "isWord", "(Ljava/lang/String;)Z"⟩ ⟨"SalaryCapLedgerModel", "isWord", "(Ljava/lang/String;)Z"⟩ ∈ q_big := q_insel (i := 45) (q := (⟨"SalaryCapLedgerModel", "isWord", "(Ljava/lang/String;)Z"⟩, 35)) (by decide +kernel) rfl
theorem ks_46 : Cond.selects "SalaryCapLedgerModel" ⟨"SalaryCapLedgerModel", "fail", "(I)V"⟩ ⟨"SalaryCapLedgerModel", "fail", "(I)V"⟩ ∈ q_big := q_insel (i := 46) (q := (⟨"SalaryCapLedgerModel", "fail", "(I)V"⟩, 35)) (by decide +kernel) rfl
theorem ks_47 : Cond.selects "SalaryCapLedgerModel" ⟨"SalaryCapLedgerModel", "read", "(II)I"⟩ ⟨"SalaryCapLedgerModel", "read", "(II)I"⟩ ∈ q_big := q_insel (i := 47) (q := (⟨"SalaryCapLedgerModel", "read", "(II)I"⟩, 35)) (by decide +kernel) rfl
theorem ks_48 : Cond.selects "SalaryCapLedgerModel" ⟨"SalaryCapLedgerModel", "expectSemicolon", "()V"⟩ ⟨"SalaryCapLedgerModel", "expectSemicolon", "()V"⟩ ∈ q_big := q_insel (i := 48) (q := (⟨"SalaryCapLedgerModel", "expectSemicolon", "()V"⟩, 35)) (by decide +kernel) rfl
theorem ks_49 : Cond.selects "SalaryCapLedgerModel" ⟨"SalaryCapLedgerModel", "readBrackets", "()V"⟩ ⟨"SalaryCapLedgerModel", "readBrackets", "()V"⟩ ∈ q_big := q_insel (i := 49) (q := (⟨"SalaryCapLedgerModel", "readBrackets", "()V"⟩, 35)) (by decide +kernel) rfl
theorem ks_50 : Cond.selects "SalaryCapLedgerModel" ⟨"SalaryCapLedgerModel", "readContract", "()V"⟩ ⟨"SalaryCapLedgerModel", "readContract", "()V"⟩ ∈ q_big := q_insel (i := 50) (q := (⟨"SalaryCapLedgerModel", "readContract", "()V"⟩, 35)) (by decide +kernel) rfl
theorem ks_51 : Cond.selects "SalaryCapLedgerModel" ⟨"SalaryCapLedgerModel", "readTaker", "(IZ)I"⟩ ⟨"SalaryCapLedgerModel", "readTaker", "(IZ)I"⟩ ∈ q_big := q_insel (i := 51) (q := (⟨"SalaryCapLedgerModel", "readTaker", "(IZ)I"⟩, 35)) (by decide +kernel) rfl
theorem ks_52 : Cond.selects "SalaryCapLedgerModel" ⟨"SalaryCapLedgerModel", "draftRoster", "(I)I"⟩ ⟨"SalaryCapLedgerModel", "draftRoster", "(I)I"⟩ ∈ q_big := q_insel (i := 52) (q := (⟨"SalaryCapLedgerModel", "draftRoster", "(I)I"⟩, 35)) (by decide +kernel) rfl
theorem ks_53 : Cond.selects "SalaryCapLedgerModel" ⟨"SalaryCapLedgerModel", "takeOver", "()V"⟩ ⟨"SalaryCapLedgerModel", "takeOver", "()V"⟩ ∈ q_big := q_insel (i := 53) (q := (⟨"SalaryCapLedgerModel", "takeOver", "()V"⟩, 35)) (by decide +kernel) rfl
theorem ks_54 : Cond.selects "SalaryCapLedgerModel" ⟨"SalaryCapLedgerModel", "isWrong", "(Z)Z"⟩ ⟨"SalaryCapLedgerModel", "isWrong", "(Z)Z"⟩ ∈ q_big := q_insel (i := 54) (q := (⟨"SalaryCapLedgerModel", "isWrong", "(Z)Z"⟩, 35)) (by decide +kernel) rfl
theorem ks_55 : Cond.selects "SalaryCapLedgerModel" ⟨"SalaryCapLedgerModel", "remember", "()V"⟩ ⟨"SalaryCapLedgerModel", "remember", "()V"⟩ ∈ q_big := q_insel (i := 55) (q := (⟨"SalaryCapLedgerModel", "remember", "()V"⟩, 35)) (by decide +kernel) rfl
theorem ks_56 : Cond.selects "SalaryCapLedgerModel" ⟨"SalaryCapLedgerModel", "firstCost", "()I"⟩ ⟨"SalaryCapLedgerModel", "firstCost", "()I"⟩ ∈ q_big := q_insel (i := 56) (q := (⟨"SalaryCapLedgerModel", "firstCost", "()I"⟩, 35)) (by decide +kernel) rfl
theorem ks_57 : Cond.selects "SalaryCapLedgerModel" ⟨"SalaryCapLedgerModel", "ofOffer", "(I)I"⟩ ⟨"SalaryCapLedgerModel", "ofOffer", "(I)I"⟩ ∈ q_big := q_insel (i := 57) (q := (⟨"SalaryCapLedgerModel", "ofOffer", "(I)I"⟩, 35)) (by decide +kernel) rfl
theorem ks_58 : Cond.selects "SalaryCapLedgerModel" ⟨"SalaryCapLedgerModel", "firstShare", "()I"⟩ ⟨"SalaryCapLedgerModel", "firstShare", "()I"⟩ ∈ q_big := q_insel (i := 58) (q := (⟨"SalaryCapLedgerModel", "firstShare", "()I"⟩, 35)) (by decide +kernel) rfl
theorem ks_59 : Cond.selects "SalaryCapLedgerModel" ⟨"SalaryCapLedgerModel", "isSigning", "(III)Z"⟩ ⟨"SalaryCapLedgerModel", "isSigning", "(III)Z"⟩ ∈ q_big := q_insel (i := 59) (q := (⟨"SalaryCapLedgerModel", "isSigning", "(III)Z"⟩, 35)) (by decide +kernel) rfl
theorem ks_60 : Cond.selects "SalaryCapLedgerModel" ⟨"SalaryCapLedgerModel", "isTeam", "(I)Z"⟩ ⟨"SalaryCapLedgerModel", "isTeam", "(I)Z"⟩ ∈ q_big := q_insel (i := 60) (q := (⟨"SalaryCapLedgerModel", "isTeam", "(I)Z"⟩, 35)) (by decide +kernel) rfl
theorem ks_61 : Cond.selects "SalaryCapLedgerModel" ⟨"SalaryCapLedgerModel", "isPlayer", "(I)Z"⟩ ⟨"SalaryCapLedgerModel", "isPlayer", "(I)Z"⟩ ∈ q_big := q_insel (i := 61) (q := (⟨"SalaryCapLedgerModel", "isPlayer", "(I)Z"⟩, 35)) (by decide +kernel) rfl
theorem ks_62 : Cond.selects "SalaryCapLedgerModel" ⟨"SalaryCapLedgerModel", "whyNotSign", "(III)I"⟩ ⟨"SalaryCapLedgerModel", "whyNotSign", "(III)I"⟩ ∈ q_big := q_insel (i := 62) (q := (⟨"SalaryCapLedgerModel", "whyNotSign", "(III)I"⟩, 35)) (by decide +kernel) rfl
theorem ks_63 : Cond.selects "SalaryCapLedgerModel" ⟨"SalaryCapLedgerModel", "hasContract", "(I)Z"⟩ ⟨"SalaryCapLedgerModel", "hasContract", "(I)Z"⟩ ∈ q_big := q_insel (i := 63) (q := (⟨"SalaryCapLedgerModel", "hasContract", "(I)Z"⟩, 35)) (by decide +kernel) rfl
theorem ks_64 : Cond.selects "SalaryCapLedgerModel" ⟨"SalaryCapLedgerModel", "ofPlayer", "(II)I"⟩ ⟨"SalaryCapLedgerModel", "ofPlayer", "(II)I"⟩ ∈ q_big := q_insel (i := 64) (q := (⟨"SalaryCapLedgerModel", "ofPlayer", "(II)I"⟩, 35)) (by decide +kernel) rfl
theorem ks_65 : Cond.selects "SalaryCapLedgerModel" ⟨"SalaryCapLedgerModel", "rosterOf", "(I)I"⟩ ⟨"SalaryCapLedgerModel", "rosterOf", "(I)I"⟩ ∈ q_big := q_insel (i := 65) (q := (⟨"SalaryCapLedgerModel", "rosterOf", "(I)I"⟩, 35)) (by decide +kernel) rfl
theorem ks_66 : Cond.selects "SalaryCapLedgerModel" ⟨"SalaryCapLedgerModel", "isAllowed", "(III)Z"⟩ ⟨"SalaryCapLedgerModel", "isAllowed", "(III)Z"⟩ ∈ q_big := q_insel (i := 66) (q := (⟨"SalaryCapLedgerModel", "isAllowed", "(III)Z"⟩, 35)) (by decide +kernel) rfl
theorem ks_67 : Cond.selects "SalaryCapLedgerModel" ⟨"SalaryCapLedgerModel", "roomOf", "(I)I"⟩ ⟨"SalaryCapLedgerModel", "roomOf", "(I)I"⟩ ∈ q_big := q_insel (i := 67) (q := (⟨"SalaryCapLedgerModel", "roomOf", "(I)I"⟩, 35)) (by decide +kernel) rfl
theorem ks_68 : Cond.selects "SalaryCapLedgerModel" ⟨"SalaryCapLedgerModel", "capIn", "(I)I"⟩ ⟨"SalaryCapLedgerModel", "capIn", "(I)I"⟩ ∈ q_big := q_insel (i := 68) (q := (⟨"SalaryCapLedgerModel", "capIn", "(I)I"⟩, 35)) (by decide +kernel) rfl
theorem ks_69 : Cond.selects "SalaryCapLedgerModel" ⟨"SalaryCapLedgerModel", "now", "()I"⟩ ⟨"SalaryCapLedgerModel", "now", "()I"⟩ ∈ q_big := q_insel (i := 69) (q := (⟨"SalaryCapLedgerModel", "now", "()I"⟩, 35)) (by decide +kernel) rfl
theorem ks_70 : Cond.selects "SalaryCapLedgerModel" ⟨"SalaryCapLedgerModel", "grown", "(II)I"⟩ ⟨"SalaryCapLedgerModel", "grown", "(II)I"⟩ ∈ q_big := q_insel (i := 70) (q := (⟨"SalaryCapLedgerModel", "grown", "(II)I"⟩, 35)) (by decide +kernel) rfl
theorem ks_71 : Cond.selects "SalaryCapLedgerModel" ⟨"SalaryCapLedgerModel", "chargeOf", "(II)I"⟩ ⟨"SalaryCapLedgerModel", "chargeOf", "(II)I"⟩ ∈ q_big := q_insel (i := 71) (q := (⟨"SalaryCapLedgerModel", "chargeOf", "(II)I"⟩, 35)) (by decide +kernel) rfl
theorem ks_72 : Cond.selects "SalaryCapLedgerModel" ⟨"SalaryCapLedgerModel", "deadIn", "(II)I"⟩ ⟨"SalaryCapLedgerModel", "deadIn", "(II)I"⟩ ∈ q_big := q_insel (i := 72) (q := (⟨"SalaryCapLedgerModel", "deadIn", "(II)I"⟩, 35)) (by decide +kernel) rfl
theorem ks_73 : Cond.selects "SalaryCapLedgerModel" ⟨"SalaryCapLedgerModel", "ofTeam", "(II)J"⟩ ⟨"SalaryCapLedgerModel", "ofTeam", "(II)J"⟩ ∈ q_big := q_insel (i := 73) (q := (⟨"SalaryCapLedgerModel", "ofTeam", "(II)J"⟩, 35)) (by decide +kernel) rfl
theorem ks_74 : Cond.selects "SalaryCapLedgerModel" ⟨"SalaryCapLedgerModel", "salaryIn", "(II)I"⟩ ⟨"SalaryCapLedgerModel", "salaryIn", "(II)I"⟩ ∈ q_big := q_insel (i := 74) (q := (⟨"SalaryCapLedgerModel", "salaryIn", "(II)I"⟩, 35)) (by decide +kernel) rfl
theorem ks_75 : Cond.selects "SalaryCapLedgerModel" ⟨"SalaryCapLedgerModel", "yearNumber", "(II)I"⟩ ⟨"SalaryCapLedgerModel", "yearNumber", "(II)I"⟩ ∈ q_big := q_insel (i := 75) (q := (⟨"SalaryCapLedgerModel", "yearNumber", "(II)I"⟩, 35)) (by decide +kernel) rfl
theorem ks_76 : Cond.selects "SalaryCapLedgerModel" ⟨"SalaryCapLedgerModel", "shareIn", "(II)I"⟩ ⟨"SalaryCapLedgerModel", "shareIn", "(II)I"⟩ ∈ q_big := q_insel (i := 76) (q := (⟨"SalaryCapLedgerModel", "shareIn", "(II)I"⟩, 35)) (by decide +kernel) rfl
theorem ks_77 : Cond.selects "SalaryCapLedgerModel" ⟨"SalaryCapLedgerModel", "addTeam", "(IIJ)V"⟩ ⟨"SalaryCapLedgerModel", "addTeam", "(IIJ)V"⟩ ∈ q_big := q_insel (i := 77) (q := (⟨"SalaryCapLedgerModel", "addTeam", "(IIJ)V"⟩, 35)) (by decide +kernel) rfl
theorem ks_78 : Cond.selects "SalaryCapLedgerModel" ⟨"SalaryCapLedgerModel", "putPlayer", "(III)V"⟩ ⟨"SalaryCapLedgerModel", "putPlayer", "(III)V"⟩ ∈ q_big := q_insel (i := 78) (q := (⟨"SalaryCapLedgerModel", "putPlayer", "(III)V"⟩, 35)) (by decide +kernel) rfl
theorem ks_79 : Cond.selects "SalaryCapLedgerModel" ⟨"SalaryCapLedgerModel", "layDead", "(IZ)I"⟩ ⟨"SalaryCapLedgerModel", "layDead", "(IZ)I"⟩ ∈ q_big := q_insel (i := 79) (q := (⟨"SalaryCapLedgerModel", "layDead", "(IZ)I"⟩, 35)) (by decide +kernel) rfl
theorem ks_80 : Cond.selects "SalaryCapLedgerModel" ⟨"SalaryCapLedgerModel", "sharesFrom", "(I)I"⟩ ⟨"SalaryCapLedgerModel", "sharesFrom", "(I)I"⟩ ∈ q_big := q_insel (i := 80) (q := (⟨"SalaryCapLedgerModel", "sharesFrom", "(I)I"⟩, 35)) (by decide +kernel) rfl
theorem ks_81 : Cond.selects "SalaryCapLedgerModel" ⟨"SalaryCapLedgerModel", "isTrade", "(IIII)Z"⟩ ⟨"SalaryCapLedgerModel", "isTrade", "(IIII)Z"⟩ ∈ q_big := q_insel (i := 81) (q := (⟨"SalaryCapLedgerModel", "isTrade", "(IIII)Z"⟩, 35)) (by decide +kernel) rfl
theorem ks_82 : Cond.selects "SalaryCapLedgerModel" ⟨"SalaryCapLedgerModel", "putAside", "()V"⟩ ⟨"SalaryCapLedgerModel", "putAside", "()V"⟩ ∈ q_big := q_insel (i := 82) (q := (⟨"SalaryCapLedgerModel", "putAside", "()V"⟩, 35)) (by decide +kernel) rfl
theorem ks_83 : Cond.selects "SalaryCapLedgerModel" ⟨"SalaryCapLedgerModel", "trades", "(IIII)I"⟩ ⟨"SalaryCapLedgerModel", "trades", "(IIII)I"⟩ ∈ q_big := q_insel (i := 83) (q := (⟨"SalaryCapLedgerModel", "trades", "(IIII)I"⟩, 35)) (by decide +kernel) rfl
theorem ks_84 : Cond.selects "SalaryCapLedgerModel" ⟨"SalaryCapLedgerModel", "salariesOf", "(I)I"⟩ ⟨"SalaryCapLedgerModel", "salariesOf", "(I)I"⟩ ∈ q_big := q_insel (i := 84) (q := (⟨"SalaryCapLedgerModel", "salariesOf", "(I)I"⟩, 35)) (by decide +kernel) rfl
theorem ks_85 : Cond.selects "SalaryCapLedgerModel" ⟨"SalaryCapLedgerModel", "moves", "(III)V"⟩ ⟨"SalaryCapLedgerModel", "moves", "(III)V"⟩ ∈ q_big := q_insel (i := 85) (q := (⟨"SalaryCapLedgerModel", "moves", "(III)V"⟩, 35)) (by decide +kernel) rfl
theorem ks_86 : Cond.selects "SalaryCapLedgerModel" ⟨"SalaryCapLedgerModel", "matches", "(IIII)Z"⟩ ⟨"SalaryCapLedgerModel", "matches", "(IIII)Z"⟩ ∈ q_big := q_insel (i := 86) (q := (⟨"SalaryCapLedgerModel", "matches", "(IIII)Z"⟩, 35)) (by decide +kernel) rfl
theorem ks_87 : Cond.selects "SalaryCapLedgerModel" ⟨"SalaryCapLedgerModel", "lineIn", "(I)I"⟩ ⟨"SalaryCapLedgerModel", "lineIn", "(I)I"⟩ ∈ q_big := q_insel (i := 87) (q := (⟨"SalaryCapLedgerModel", "lineIn", "(I)I"⟩, 35)) (by decide +kernel) rfl
theorem ks_88 : Cond.selects "SalaryCapLedgerModel" ⟨"SalaryCapLedgerModel", "takeBack", "()V"⟩ ⟨"SalaryCapLedgerModel", "takeBack", "()V"⟩ ∈ q_big := q_insel (i := 88) (q := (⟨"SalaryCapLedgerModel", "takeBack", "()V"⟩, 35)) (by decide +kernel) rfl
theorem ks_89 : Cond.selects "SalaryCapLedgerModel" ⟨"SalaryCapLedgerModel", "taxOf", "(I)J"⟩ ⟨"SalaryCapLedgerModel", "taxOf", "(I)J"⟩ ∈ q_big := q_insel (i := 89) (q := (⟨"SalaryCapLedgerModel", "taxOf", "(I)J"⟩, 35)) (by decide +kernel) rfl
theorem ks_90 : Cond.selects "SalaryCapLedgerModel" ⟨"SalaryCapLedgerModel", "aboveLine", "(II)I"⟩ ⟨"SalaryCapLedgerModel", "aboveLine", "(II)I"⟩ ∈ q_big := q_insel (i := 90) (q := (⟨"SalaryCapLedgerModel", "aboveLine", "(II)I"⟩, 35)) (by decide +kernel) rfl
theorem ks_91 : Cond.selects "SalaryCapLedgerModel" ⟨"SalaryCapLedgerModel", "taxedOf", "(I)I"⟩ ⟨"SalaryCapLedgerModel", "taxedOf", "(I)I"⟩ ∈ q_big := q_insel (i := 91) (q := (⟨"SalaryCapLedgerModel", "taxedOf", "(I)I"⟩, 35)) (by decide +kernel) rfl
theorem ks_92 : Cond.selects "SalaryCapLedgerModel" ⟨"SalaryCapLedgerModel", "taxOn", "(IZ)J"⟩ ⟨"SalaryCapLedgerModel", "taxOn", "(IZ)J"⟩ ∈ q_big := q_insel (i := 92) (q := (⟨"SalaryCapLedgerModel", "taxOn", "(IZ)J"⟩, 35)) (by decide +kernel) rfl
theorem ks_93 : Cond.selects "SalaryCapLedgerModel" ⟨"SalaryCapLedgerModel", "measure", "(II)J"⟩ ⟨"SalaryCapLedgerModel", "measure", "(II)J"⟩ ∈ q_big := q_insel (i := 93) (q := (⟨"SalaryCapLedgerModel", "measure", "(II)J"⟩, 35)) (by decide +kernel) rfl
theorem ks_94 : Cond.selects "SalaryCapLedgerModel" ⟨"SalaryCapLedgerModel", "costNow", "(I)I"⟩ ⟨"SalaryCapLedgerModel", "costNow", "(I)I"⟩ ∈ q_big := q_insel (i := 94) (q := (⟨"SalaryCapLedgerModel", "costNow", "(I)I"⟩, 35)) (by decide +kernel) rfl
theorem ks_95 : Cond.selects "SalaryCapLedgerModel" ⟨"SalaryCapLedgerModel", "gainOf", "(IZ)I"⟩ ⟨"SalaryCapLedgerModel", "gainOf", "(IZ)I"⟩ ∈ q_big := q_insel (i := 95) (q := (⟨"SalaryCapLedgerModel", "gainOf", "(IZ)I"⟩, 35)) (by decide +kernel) rfl
theorem ks_96 : Cond.selects "SalaryCapLedgerModel" ⟨"SalaryCapLedgerModel", "bestReleases", "(I)I"⟩ ⟨"SalaryCapLedgerModel", "bestReleases", "(I)I"⟩ ∈ q_big := q_insel (i := 96) (q := (⟨"SalaryCapLedgerModel", "bestReleases", "(I)I"⟩, 35)) (by decide +kernel) rfl
theorem ks_97 : Cond.selects "SalaryCapLedgerModel" ⟨"SalaryCapLedgerModel", "areTwo", "(II)Z"⟩ ⟨"SalaryCapLedgerModel", "areTwo", "(II)Z"⟩ ∈ q_big := q_insel (i := 97) (q := (⟨"SalaryCapLedgerModel", "areTwo", "(II)Z"⟩, 35)) (by decide +kernel) rfl
theorem ks_98 : Cond.selects "SalaryCapLedgerModel" ⟨"SalaryCapLedgerModel", "trySwaps", "(II)V"⟩ ⟨"SalaryCapLedgerModel", "trySwaps", "(II)V"⟩ ∈ q_big := q_insel (i := 98) (q := (⟨"SalaryCapLedgerModel", "trySwaps", "(II)V"⟩, 35)) (by decide +kernel) rfl
theorem klX0 : ∀ w ∈ u_ws RX0 TX0 4, w ∈ q_big := by
  intro w hw
  obtain ⟨k, hk, rfl⟩ := List.mem_map.mp hw
  have hk := List.mem_range.mp hk
  match k, hk with
  | 0, _ => exact k1_190
  | 1, _ => exact k1_192
  | 2, _ => exact k1_194
  | 3, _ => exact k1_196
  | n + 4, h => exact absurd h (by omega)
theorem klX1 : ∀ w ∈ u_ws RX1 TX1 5, w ∈ q_big := by
  intro w hw
  obtain ⟨k, hk, rfl⟩ := List.mem_map.mp hw
  have hk := List.mem_range.mp hk
  match k, hk with
  | 0, _ => exact k1_57
  | 1, _ => exact k1_59
  | 2, _ => exact k1_61
  | 3, _ => exact k1_63
  | 4, _ => exact k1_65
  | n + 5, h => exact absurd h (by omega)
theorem klX2 : ∀ w ∈ u_ws RX2 TX2 3, w ∈ q_big := by
  intro w hw
  obtain ⟨k, hk, rfl⟩ := List.mem_map.mp hw
  have hk := List.mem_range.mp hk
  match k, hk with
  | 0, _ => exact k1_203
  | 1, _ => exact k1_205
  | 2, _ => exact k1_207
  | n + 3, h => exact absurd h (by omega)
theorem klX3 : ∀ w ∈ u_ws RX3 TX3 5, w ∈ q_big := by
  intro w hw
  obtain ⟨k, hk, rfl⟩ := List.mem_map.mp hw
  have hk := List.mem_range.mp hk
  match k, hk with
  | 0, _ => exact k1_145
  | 1, _ => exact k1_147
  | 2, _ => exact k1_149
  | 3, _ => exact k1_151
  | 4, _ => exact k1_153
  | n + 5, h => exact absurd h (by omega)
theorem klX4 : ∀ w ∈ u_ws RX4 TX4 11, w ∈ q_big := by
  intro w hw
  obtain ⟨k, hk, rfl⟩ := List.mem_map.mp hw
  have hk := List.mem_range.mp hk
  match k, hk with
  | 0, _ => exact k1_83
  | 1, _ => exact k1_85
  | 2, _ => exact k1_87
  | 3, _ => exact k1_89
  | 4, _ => exact k1_91
  | 5, _ => exact k1_93
  | 6, _ => exact k1_95
  | 7, _ => exact k1_97
  | 8, _ => exact k1_99
  | 9, _ => exact k1_101
  | 10, _ => exact k1_103
  | n + 11, h => exact absurd h (by omega)
theorem klX5 : ∀ w ∈ u_ws RX5 TX5 4, w ∈ q_big := by
  intro w hw
  obtain ⟨k, hk, rfl⟩ := List.mem_map.mp hw
  have hk := List.mem_range.mp hk
  match k, hk with
  | 0, _ => exact k1_220
  | 1, _ => exact k1_222
  | 2, _ => exact k1_224
  | 3, _ => exact k1_226
  | n + 4, h => exact absurd h (by omega)
theorem klX6 : ∀ w ∈ u_ws RX6 TX6 4, w ∈ q_big := by
  intro w hw
  obtain ⟨k, hk, rfl⟩ := List.mem_map.mp hw
  have hk := List.mem_range.mp hk
  match k, hk with
  | 0, _ => exact k1_169
  | 1, _ => exact k1_171
  | 2, _ => exact k1_173
  | 3, _ => exact k1_175
  | n + 4, h => exact absurd h (by omega)
theorem klX7 : ∀ w ∈ u_ws RX7 TX7 9, w ∈ q_big := by
  intro w hw
  obtain ⟨k, hk, rfl⟩ := List.mem_map.mp hw
  have hk := List.mem_range.mp hk
  match k, hk with
  | 0, _ => exact k2_13
  | 1, _ => exact k2_15
  | 2, _ => exact k2_17
  | 3, _ => exact k2_19
  | 4, _ => exact k2_21
  | 5, _ => exact k2_23
  | 6, _ => exact k2_25
  | 7, _ => exact k2_27
  | 8, _ => exact k2_29
  | n + 9, h => exact absurd h (by omega)
theorem klX8 : ∀ w ∈ u_ws RX8 TX8 11, w ∈ q_big := by
  intro w hw
  obtain ⟨k, hk, rfl⟩ := List.mem_map.mp hw
  have hk := List.mem_range.mp hk
  match k, hk with
  | 0, _ => exact k2_45
  | 1, _ => exact k2_47
  | 2, _ => exact k2_49
  | 3, _ => exact k2_51
  | 4, _ => exact k2_53
  | 5, _ => exact k2_55
  | 6, _ => exact k2_57
  | 7, _ => exact k2_59
  | 8, _ => exact k2_61
  | 9, _ => exact k2_63
  | 10, _ => exact k2_65
  | n + 11, h => exact absurd h (by omega)
theorem klX9 : ∀ w ∈ u_ws RX9 TX9 35, w ∈ q_big := by
  intro w hw
  obtain ⟨k, hk, rfl⟩ := List.mem_map.mp hw
  have hk := List.mem_range.mp hk
  match k, hk with
  | 0, _ => exact k6_8
  | 1, _ => exact k6_10
  | 2, _ => exact k6_12
  | 3, _ => exact k6_14
  | 4, _ => exact k6_16
  | 5, _ => exact k6_18
  | 6, _ => exact k6_20
  | 7, _ => exact k6_22
  | 8, _ => exact k6_24
  | 9, _ => exact k6_26
  | 10, _ => exact k6_28
  | 11, _ => exact k6_30
  | 12, _ => exact k6_32
  | 13, _ => exact k6_34
  | 14, _ => exact k6_36
  | 15, _ => exact k6_38
  | 16, _ => exact k6_40
  | 17, _ => exact k6_42
  | 18, _ => exact k6_44
  | 19, _ => exact k6_46
  | 20, _ => exact k6_48
  | 21, _ => exact k6_50
  | 22, _ => exact k6_52
  | 23, _ => exact k6_54
  | 24, _ => exact k6_56
  | 25, _ => exact k6_58
  | 26, _ => exact k6_60
  | 27, _ => exact k6_62
  | 28, _ => exact k6_64
  | 29, _ => exact k6_66
  | 30, _ => exact k6_68
  | 31, _ => exact k6_70
  | 32, _ => exact k6_72
  | 33, _ => exact k6_74
  | 34, _ => exact k6_76
  | n + 35, h => exact absurd h (by omega)
