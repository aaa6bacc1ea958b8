def RX0 : String := "GloveHouses$Acts"
def TX0 : u_T := fun k => match k with
  | 0 => ("GloveHouses$Acts", "size", "I", false)
  | 1 => ("GloveHouses$Acts", "next", "I", false)
  | _ => ("GloveHouses$Acts", "rows", "[I", true)
def tyX0 : Nat → FieldType := fun k => match k with
  | 0 => .int
  | 1 => .int
  | _ => .array .int
abbrev wsX00 : List Cond := u_ws RX0 TX0 3
theorem nmX0 : ∀ a, a < 3 → ∀ b, b < 3 → a ≠ b → (TX0 a).2.1 ≠ (TX0 b).2.1 := by decide +kernel
theorem tyX0_ok : ∀ k, k < 3 → parseFieldDescriptor (TX0 k).2.2.1 = some (tyX0 k) := by decide +kernel
abbrev cX0_init : ByteArray := prog_2_method_1_code
def yX0_init : MethodName := ⟨RX0, "<init>", "()V"⟩
abbrev cX0_keep : ByteArray := prog_2_method_2_code
def yX0_keep : MethodName := ⟨RX0, "keep", "(LGloveHouses$State;)V"⟩
abbrev cX0_takeBack : ByteArray := prog_2_method_3_code
def yX0_takeBack : MethodName := ⟨RX0, "takeBack", "(LGloveHouses$State;)V"⟩
abbrev cX0_forget : ByteArray := prog_2_method_4_code
def yX0_forget : MethodName := ⟨RX0, "forget", "()V"⟩
def RX1 : String := "GloveHouses$LawReader"
def TX1 : u_T := fun k => match k with
  | 0 => ("GloveHouses$LawReader", "code", "[I", true)
  | 1 => ("GloveHouses$LawReader", "size", "I", false)
  | _ => ("GloveHouses$LawReader", "tape", "LGloveHouses$Tape;", true)
def tyX1 : Nat → FieldType := fun k => match k with
  | 0 => .array .int
  | 1 => .int
  | _ => .object "GloveHouses$Tape"
abbrev wsX10 : List Cond := u_ws RX1 TX1 3
theorem nmX1 : ∀ a, a < 3 → ∀ b, b < 3 → a ≠ b → (TX1 a).2.1 ≠ (TX1 b).2.1 := by decide +kernel
theorem tyX1_ok : ∀ k, k < 3 → parseFieldDescriptor (TX1 k).2.2.1 = some (tyX1 k) := by decide +kernel
abbrev cX1_init : ByteArray := prog_3_method_1_code
def yX1_init : MethodName := ⟨RX1, "<init>", "(LGloveHouses$Tape;)V"⟩
abbrev cX1_readsAll : ByteArray := prog_3_method_2_code
def yX1_readsAll : MethodName := ⟨RX1, "readsAll", "()Z"⟩
abbrev cX1_readsClause : ByteArray := prog_3_method_3_code
def yX1_readsClause : MethodName := ⟨RX1, "readsClause", "()Z"⟩
abbrev cX1_readsCondition : ByteArray := prog_3_method_4_code
def yX1_readsCondition : MethodName := ⟨RX1, "readsCondition", "(I)Z"⟩
abbrev cX1_readsMoreTruths : ByteArray := prog_3_method_5_code
def yX1_readsMoreTruths : MethodName := ⟨RX1, "readsMoreTruths", "(I)Z"⟩
abbrev cX1_readsMoreUnits : ByteArray := prog_3_method_6_code
def yX1_readsMoreUnits : MethodName := ⟨RX1, "readsMoreUnits", "(I)Z"⟩
abbrev cX1_readsUnit : ByteArray := prog_3_method_7_code
def yX1_readsUnit : MethodName := ⟨RX1, "readsUnit", "(I)Z"⟩
abbrev cX1_comparison : ByteArray := prog_3_method_8_code
def yX1_comparison : MethodName := ⟨RX1, "comparison", "(I)I"⟩
abbrev cX1_readsComparison : ByteArray := prog_3_method_9_code
def yX1_readsComparison : MethodName := ⟨RX1, "readsComparison", "(I)Z"⟩
abbrev cX1_readsSum : ByteArray := prog_3_method_10_code
def yX1_readsSum : MethodName := ⟨RX1, "readsSum", "(I)Z"⟩
abbrev cX1_readsTerm : ByteArray := prog_3_method_11_code
def yX1_readsTerm : MethodName := ⟨RX1, "readsTerm", "(I)Z"⟩
abbrev cX1_readsAtom : ByteArray := prog_3_method_12_code
def yX1_readsAtom : MethodName := ⟨RX1, "readsAtom", "(I)Z"⟩
abbrev cX1_put : ByteArray := prog_3_method_13_code
def yX1_put : MethodName := ⟨RX1, "put", "(I)Z"⟩
def RX2 : String := "GloveHouses$Laws"
def TX2 : u_T := fun k => match k with
  | 0 => ("GloveHouses$Laws", "size", "I", false)
  | 1 => ("GloveHouses$Laws", "holds", "I", false)
  | 2 => ("GloveHouses$Laws", "codes", "[[I", true)
  | 3 => ("GloveHouses$Laws", "lengths", "[I", true)
  | 4 => ("GloveHouses$Laws", "letters", "[I", true)
  | _ => ("GloveHouses$Laws", "stack", "[I", true)
def tyX2 : Nat → FieldType := fun k => match k with
  | 0 => .int
  | 1 => .int
  | 2 => .array (.array .int)
  | 3 => .array .int
  | 4 => .array .int
  | _ => .array .int
abbrev wsX20 : List Cond := u_ws RX2 TX2 6
theorem nmX2 : ∀ a, a < 6 → ∀ b, b < 6 → a ≠ b → (TX2 a).2.1 ≠ (TX2 b).2.1 := by decide +kernel
theorem tyX2_ok : ∀ k, k < 6 → parseFieldDescriptor (TX2 k).2.2.1 = some (tyX2 k) := by decide +kernel
abbrev cX2_init : ByteArray := prog_4_method_1_code
def yX2_init : MethodName := ⟨RX2, "<init>", "()V"⟩
abbrev cX2_letter : ByteArray := prog_4_method_2_code
def yX2_letter : MethodName := ⟨RX2, "letter", "(I)I"⟩
abbrev cX2_isFull : ByteArray := prog_4_method_3_code
def yX2_isFull : MethodName := ⟨RX2, "isFull", "()Z"⟩
abbrev cX2_add : ByteArray := prog_4_method_4_code
def yX2_add : MethodName := ⟨RX2, "add", "([II)V"⟩
abbrev cX2_riseBy : ByteArray := prog_4_method_5_code
def yX2_riseBy : MethodName := ⟨RX2, "riseBy", "(IIIIII)I"⟩
abbrev cX2_worth : ByteArray := prog_4_method_6_code
def yX2_worth : MethodName := ⟨RX2, "worth", "([II)I"⟩
abbrev cX2_endOfClause : ByteArray := prog_4_method_7_code
def yX2_endOfClause : MethodName := ⟨RX2, "endOfClause", "([III)I"⟩
abbrev cX2_combine : ByteArray := prog_4_method_8_code
def yX2_combine : MethodName := ⟨RX2, "combine", "(IJJ)I"⟩
def RX3 : String := "GloveHouses$LogBook"
def TX3 : u_T := fun k => match k with
  | _ => ("GloveHouses$LogBook", "rows", "[I", true)
def tyX3 : Nat → FieldType := fun k => match k with
  | _ => .array .int
abbrev wsX30 : List Cond := u_ws RX3 TX3 1
theorem nmX3 : ∀ a, a < 1 → ∀ b, b < 1 → a ≠ b → (TX3 a).2.1 ≠ (TX3 b).2.1 := by decide +kernel
theorem tyX3_ok : ∀ k, k < 1 → parseFieldDescriptor (TX3 k).2.2.1 = some (tyX3 k) := by decide +kernel
abbrev cX3_init : ByteArray := prog_5_method_1_code
def yX3_init : MethodName := ⟨RX3, "<init>", "()V"⟩
abbrev cX3_lengthOn : ByteArray := prog_5_method_2_code
def yX3_lengthOn : MethodName := ⟨RX3, "lengthOn", "(I)I"⟩
abbrev cX3_write : ByteArray := prog_5_method_3_code
def yX3_write : MethodName := ⟨RX3, "write", "(IIII)V"⟩
abbrev cX3_read : ByteArray := prog_5_method_4_code
def yX3_read : MethodName := ⟨RX3, "read", "(II)I"⟩
abbrev cX3_copyFrom : ByteArray := prog_5_method_5_code
def yX3_copyFrom : MethodName := ⟨RX3, "copyFrom", "(LGloveHouses$LogBook;)V"⟩
def RX4 : String := "GloveHouses$Match"
def TX4 : u_T := fun k => match k with
  | 0 => ("GloveHouses$Match", "size", "I", false)
  | 1 => ("GloveHouses$Match", "bestSum", "I", false)
  | 2 => ("GloveHouses$Match", "bestRow", "I", false)
  | 3 => ("GloveHouses$Match", "unmet", "[I", true)
  | 4 => ("GloveHouses$Match", "rise", "[I", true)
  | 5 => ("GloveHouses$Match", "told", "LGloveHouses$Peace;", true)
  | _ => ("GloveHouses$Match", "found", "Z", false)
def tyX4 : Nat → FieldType := fun k => match k with
  | 0 => .int
  | 1 => .int
  | 2 => .int
  | 3 => .array .int
  | 4 => .array .int
  | 5 => .object "GloveHouses$Peace"
  | _ => .boolean
abbrev wsX40 : List Cond := u_ws RX4 TX4 7
theorem nmX4 : ∀ a, a < 7 → ∀ b, b < 7 → a ≠ b → (TX4 a).2.1 ≠ (TX4 b).2.1 := by decide +kernel
theorem tyX4_ok : ∀ k, k < 7 → parseFieldDescriptor (TX4 k).2.2.1 = some (tyX4 k) := by decide +kernel
abbrev cX4_init : ByteArray := prog_6_method_1_code
def yX4_init : MethodName := ⟨RX4, "<init>", "(LGloveHouses$Peace;)V"⟩
abbrev cX4_solve : ByteArray := prog_6_method_2_code
def yX4_solve : MethodName := ⟨RX4, "solve", "(LGloveHouses$State;)V"⟩
abbrev cX4_search : ByteArray := prog_6_method_3_code
def yX4_search : MethodName := ⟨RX4, "search", "(IIII)V"⟩
abbrev cX4_perform : ByteArray := prog_6_method_4_code
def yX4_perform : MethodName := ⟨RX4, "perform", "(LGloveHouses$State;)V"⟩
def RX5 : String := "GloveHouses$Peace"
def TX5 : u_T := fun k => match k with
  | 0 => ("GloveHouses$Peace", "gloves", "I", false)
  | 1 => ("GloveHouses$Peace", "matters", "I", false)
  | 2 => ("GloveHouses$Peace", "pride", "I", false)
  | 3 => ("GloveHouses$Peace", "coins", "I", false)
  | 4 => ("GloveHouses$Peace", "house", "[I", true)
  | 5 => ("GloveHouses$Peace", "free", "[I", true)
  | 6 => ("GloveHouses$Peace", "stuffed", "[I", true)
  | 7 => ("GloveHouses$Peace", "after", "[I", true)
  | 8 => ("GloveHouses$Peace", "weight", "[I", true)
  | _ => ("GloveHouses$Peace", "need", "[I", true)
def tyX5 : Nat → FieldType := fun k => match k with
  | 0 => .int
  | 1 => .int
  | 2 => .int
  | 3 => .int
  | 4 => .array .int
  | 5 => .array .int
  | 6 => .array .int
  | 7 => .array .int
  | 8 => .array .int
  | _ => .array .int
abbrev wsX50 : List Cond := u_ws RX5 TX5 10
theorem nmX5 : ∀ a, a < 10 → ∀ b, b < 10 → a ≠ b → (TX5 a).2.1 ≠ (TX5 b).2.1 := by decide +kernel
theorem tyX5_ok : ∀ k, k < 10 → parseFieldDescriptor (TX5 k).2.2.1 = some (tyX5 k) := by decide +kernel
abbrev cX5_init : ByteArray := prog_7_method_1_code
def yX5_init : MethodName := ⟨RX5, "<init>", "()V"⟩
abbrev cX5_copyFrom : ByteArray := prog_7_method_2_code
def yX5_copyFrom : MethodName := ⟨RX5, "copyFrom", "(LGloveHouses$Peace;)V"⟩
abbrev cX5_hasGlove : ByteArray := prog_7_method_3_code
def yX5_hasGlove : MethodName := ⟨RX5, "hasGlove", "(I)Z"⟩
abbrev cX5_hasMatter : ByteArray := prog_7_method_4_code
def yX5_hasMatter : MethodName := ⟨RX5, "hasMatter", "(I)Z"⟩
abbrev cX5_unlike : ByteArray := prog_7_method_5_code
def yX5_unlike : MethodName := ⟨RX5, "unlike", "(II)Z"⟩
abbrev cX5_sameAim : ByteArray := prog_7_method_6_code
def yX5_sameAim : MethodName := ⟨RX5, "sameAim", "(II)I"⟩
abbrev cX5_sizeOf : ByteArray := prog_7_method_7_code
def yX5_sizeOf : MethodName := ⟨RX5, "sizeOf", "(I)I"⟩
abbrev cX5_nth : ByteArray := prog_7_method_8_code
def yX5_nth : MethodName := ⟨RX5, "nth", "(II)I"⟩
abbrev cX5_heaviest : ByteArray := prog_7_method_9_code
def yX5_heaviest : MethodName := ⟨RX5, "heaviest", "()I"⟩
def RX6 : String := "GloveHouses$PeaceReader"
def TX6 : u_T := fun k => match k with
  | 0 => ("GloveHouses$PeaceReader", "read", "LGloveHouses$Peace;", true)
  | 1 => ("GloveHouses$PeaceReader", "tape", "LGloveHouses$Tape;", true)
  | 2 => ("GloveHouses$PeaceReader", "values", "[I", true)
  | _ => ("GloveHouses$PeaceReader", "ruled", "Z", false)
def tyX6 : Nat → FieldType := fun k => match k with
  | 0 => .object "GloveHouses$Peace"
  | 1 => .object "GloveHouses$Tape"
  | 2 => .array .int
  | _ => .boolean
abbrev wsX60 : List Cond := u_ws RX6 TX6 4
theorem nmX6 : ∀ a, a < 4 → ∀ b, b < 4 → a ≠ b → (TX6 a).2.1 ≠ (TX6 b).2.1 := by decide +kernel
theorem tyX6_ok : ∀ k, k < 4 → parseFieldDescriptor (TX6 k).2.2.1 = some (tyX6 k) := by decide +kernel
abbrev cX6_init : ByteArray := prog_8_method_1_code
def yX6_init : MethodName := ⟨RX6, "<init>", "(LGloveHouses$Tape;)V"⟩
abbrev cX6_readsAll : ByteArray := prog_8_method_2_code
def yX6_readsAll : MethodName := ⟨RX6, "readsAll", "()Z"⟩
abbrev cX6_readsClause : ByteArray := prog_8_method_3_code
def yX6_readsClause : MethodName := ⟨RX6, "readsClause", "()Z"⟩
abbrev cX6_kindOf : ByteArray := prog_8_method_4_code
def yX6_kindOf : MethodName := ⟨RX6, "kindOf", "(I)I"⟩
abbrev cX6_isTooMany : ByteArray := prog_8_method_5_code
def yX6_isTooMany : MethodName := ⟨RX6, "isTooMany", "(I)Z"⟩
abbrev cX6_readsItems : ByteArray := prog_8_method_6_code
def yX6_readsItems : MethodName := ⟨RX6, "readsItems", "(I)Z"⟩
abbrev cX6_itemOf : ByteArray := prog_8_method_7_code
def yX6_itemOf : MethodName := ⟨RX6, "itemOf", "(II)I"⟩
abbrev cX6_readsValue : ByteArray := prog_8_method_8_code
def yX6_readsValue : MethodName := ⟨RX6, "readsValue", "(II)Z"⟩
abbrev cX6_keep : ByteArray := prog_8_method_9_code
def yX6_keep : MethodName := ⟨RX6, "keep", "(I)V"⟩
def RX7 : String := "GloveHouses$Quarrels"
def TX7 : u_T := fun k => match k with
  | 0 => ("GloveHouses$Quarrels", "state", "LGloveHouses$State;", false)
  | 1 => ("GloveHouses$Quarrels", "pair", "I", false)
  | 2 => ("GloveHouses$Quarrels", "need", "I", false)
  | 3 => ("GloveHouses$Quarrels", "meetings", "I", false)
  | _ => ("GloveHouses$Quarrels", "chance", "I", false)
def tyX7 : Nat → FieldType := fun k => match k with
  | 0 => .object "GloveHouses$State"
  | 1 => .int
  | 2 => .int
  | 3 => .int
  | _ => .int
abbrev wsX70 : List Cond := u_ws RX7 TX7 5
theorem nmX7 : ∀ a, a < 5 → ∀ b, b < 5 → a ≠ b → (TX7 a).2.1 ≠ (TX7 b).2.1 := by decide +kernel
theorem tyX7_ok : ∀ k, k < 5 → parseFieldDescriptor (TX7 k).2.2.1 = some (tyX7 k) := by decide +kernel
abbrev cX7_init : ByteArray := prog_9_method_1_code
def yX7_init : MethodName := ⟨RX7, "<init>", "()V"⟩
abbrev cX7_partsWarm : ByteArray := prog_9_method_2_code
def yX7_partsWarm : MethodName := ⟨RX7, "partsWarm", "(LGloveHouses$State;IIII)I"⟩
abbrev cX7_split : ByteArray := prog_9_method_3_code
def yX7_split : MethodName := ⟨RX7, "split", "(III)I"⟩
abbrev cX7_behind : ByteArray := prog_9_method_4_code
def yX7_behind : MethodName := ⟨RX7, "behind", "(III)I"⟩
def RX8 : String := "GloveHouses$Sightings"
def TX8 : u_T := fun k => match k with
  | 0 => ("GloveHouses$Sightings", "size", "I", false)
  | 1 => ("GloveHouses$Sightings", "ones", "[I", true)
  | 2 => ("GloveHouses$Sightings", "others", "[I", true)
  | 3 => ("GloveHouses$Sightings", "bounds", "[I", true)
  | 4 => ("GloveHouses$Sightings", "reached", "[Z", true)
  | 5 => ("GloveHouses$Sightings", "told", "LGloveHouses$Peace;", true)
  | _ => ("GloveHouses$Sightings", "laws", "LGloveHouses$Laws;", true)
def tyX8 : Nat → FieldType := fun k => match k with
  | 0 => .int
  | 1 => .array .int
  | 2 => .array .int
  | 3 => .array .int
  | 4 => .array .boolean
  | 5 => .object "GloveHouses$Peace"
  | _ => .object "GloveHouses$Laws"
abbrev wsX80 : List Cond := u_ws RX8 TX8 7
theorem nmX8 : ∀ a, a < 7 → ∀ b, b < 7 → a ≠ b → (TX8 a).2.1 ≠ (TX8 b).2.1 := by decide +kernel
theorem tyX8_ok : ∀ k, k < 7 → parseFieldDescriptor (TX8 k).2.2.1 = some (tyX8 k) := by decide +kernel
abbrev cX8_init : ByteArray := prog_10_method_1_code
def yX8_init : MethodName := ⟨RX8, "<init>", "(LGloveHouses$Peace;LGloveHouses$Laws;)V"⟩
abbrev cX8_isFull : ByteArray := prog_10_method_2_code
def yX8_isFull : MethodName := ⟨RX8, "isFull", "()Z"⟩
abbrev cX8_add : ByteArray := prog_10_method_3_code
def yX8_add : MethodName := ⟨RX8, "add", "(IIIZ)V"⟩
abbrev cX8_reaches : ByteArray := prog_10_method_4_code
def yX8_reaches : MethodName := ⟨RX8, "reaches", "(IIII)Z"⟩
abbrev cX8_allow : ByteArray := prog_10_method_5_code
def yX8_allow : MethodName := ⟨RX8, "allow", "(II)Z"⟩
abbrev cX8_fitting : ByteArray := prog_10_method_6_code
def yX8_fitting : MethodName := ⟨RX8, "fitting", "(I)I"⟩
abbrev cX8_gap : ByteArray := prog_10_method_7_code
def yX8_gap : MethodName := ⟨RX8, "gap", "(IIII)I"⟩
def RX9 : String := "GloveHouses$State"
def TX9 : u_T := fun k => match k with
  | 0 => ("GloveHouses$State", "cells", "[I", true)
  | 1 => ("GloveHouses$State", "told", "LGloveHouses$Peace;", true)
  | _ => ("GloveHouses$State", "laws", "LGloveHouses$Laws;", true)
def tyX9 : Nat → FieldType := fun k => match k with
  | 0 => .array .int
  | 1 => .object "GloveHouses$Peace"
  | _ => .object "GloveHouses$Laws"
abbrev wsX90 : List Cond := u_ws RX9 TX9 3
theorem nmX9 : ∀ a, a < 3 → ∀ b, b < 3 → a ≠ b → (TX9 a).2.1 ≠ (TX9 b).2.1 := by decide +kernel
theorem tyX9_ok : ∀ k, k < 3 → parseFieldDescriptor (TX9 k).2.2.1 = some (tyX9 k) := by decide +kernel
abbrev cX9_init : ByteArray := prog_11_method_1_code
def yX9_init : MethodName := ⟨RX9, "<init>", "(LGloveHouses$Peace;LGloveHouses$Laws;)V"⟩
abbrev cX9_copyFrom : ByteArray := prog_11_method_2_code
def yX9_copyFrom : MethodName := ⟨RX9, "copyFrom", "(LGloveHouses$State;)V"⟩
abbrev cX9_begin : ByteArray := prog_11_method_3_code
def yX9_begin : MethodName := ⟨RX9, "begin", "()V"⟩
abbrev cX9_free : ByteArray := prog_11_method_4_code
def yX9_free : MethodName := ⟨RX9, "free", "(I)I"⟩
abbrev cX9_setFree : ByteArray := prog_11_method_5_code
def yX9_setFree : MethodName := ⟨RX9, "setFree", "(II)V"⟩
abbrev cX9_stuffed : ByteArray := prog_11_method_6_code
def yX9_stuffed : MethodName := ⟨RX9, "stuffed", "(I)I"⟩
abbrev cX9_setStuffed : ByteArray := prog_11_method_7_code
def yX9_setStuffed : MethodName := ⟨RX9, "setStuffed", "(II)V"⟩
abbrev cX9_knows : ByteArray := prog_11_method_8_code
def yX9_knows : MethodName := ⟨RX9, "knows", "(I)I"⟩
abbrev cX9_hasMet : ByteArray := prog_11_method_9_code
def yX9_hasMet : MethodName := ⟨RX9, "hasMet", "(I)Z"⟩
abbrev cX9_signers : ByteArray := prog_11_method_10_code
def yX9_signers : MethodName := ⟨RX9, "signers", "(I)I"⟩
abbrev cX9_tearUp : ByteArray := prog_11_method_11_code
def yX9_tearUp : MethodName := ⟨RX9, "tearUp", "(I)V"⟩
abbrev cX9_signedToday : ByteArray := prog_11_method_12_code
def yX9_signedToday : MethodName := ⟨RX9, "signedToday", "()I"⟩
abbrev cX9_pride : ByteArray := prog_11_method_13_code
def yX9_pride : MethodName := ⟨RX9, "pride", "()I"⟩
abbrev cX9_setPride : ByteArray := prog_11_method_14_code
def yX9_setPride : MethodName := ⟨RX9, "setPride", "(I)V"⟩
abbrev cX9_growProud : ByteArray := prog_11_method_15_code
def yX9_growProud : MethodName := ⟨RX9, "growProud", "()V"⟩
abbrev cX9_coins : ByteArray := prog_11_method_16_code
def yX9_coins : MethodName := ⟨RX9, "coins", "()I"⟩
abbrev cX9_pay : ByteArray := prog_11_method_17_code
def yX9_pay : MethodName := ⟨RX9, "pay", "(I)V"⟩
abbrev cX9_day : ByteArray := prog_11_method_18_code
def yX9_day : MethodName := ⟨RX9, "day", "()I"⟩
abbrev cX9_placeOf : ByteArray := prog_11_method_19_code
def yX9_placeOf : MethodName := ⟨RX9, "placeOf", "(II)I"⟩
abbrev cX9_warmthOf : ByteArray := prog_11_method_20_code
def yX9_warmthOf : MethodName := ⟨RX9, "warmthOf", "(II)I"⟩
abbrev cX9_riseOf : ByteArray := prog_11_method_21_code
def yX9_riseOf : MethodName := ⟨RX9, "riseOf", "(II)I"⟩
abbrev cX9_riseAt : ByteArray := prog_11_method_22_code
def yX9_riseAt : MethodName := ⟨RX9, "riseAt", "(IIII)I"⟩
abbrev cX9_warmer : ByteArray := prog_11_method_23_code
def yX9_warmer : MethodName := ⟨RX9, "warmer", "(IIII)I"⟩
abbrev cX9_meet : ByteArray := prog_11_method_24_code
def yX9_meet : MethodName := ⟨RX9, "meet", "(II)V"⟩
abbrev cX9_signLowest : ByteArray := prog_11_method_25_code
def yX9_signLowest : MethodName := ⟨RX9, "signLowest", "(II)V"⟩
abbrev cX9_cool : ByteArray := prog_11_method_26_code
def yX9_cool : MethodName := ⟨RX9, "cool", "()V"⟩
abbrev cX9_dawn : ByteArray := prog_11_method_27_code
def yX9_dawn : MethodName := ⟨RX9, "dawn", "()V"⟩
abbrev cX9_allKnown : ByteArray := prog_11_method_28_code
def yX9_allKnown : MethodName := ⟨RX9, "allKnown", "()Z"⟩
abbrev cX9_gains : ByteArray := prog_11_method_29_code
def yX9_gains : MethodName := ⟨RX9, "gains", "(II)I"⟩
abbrev cX9_freeOf : ByteArray := prog_11_method_30_code
def yX9_freeOf : MethodName := ⟨RX9, "freeOf", "(I)I"⟩
abbrev cX9_warmthOfAll : ByteArray := prog_11_method_31_code
def yX9_warmthOfAll : MethodName := ⟨RX9, "warmthOfAll", "()I"⟩
abbrev cX9_metBits : ByteArray := prog_11_method_32_code
def yX9_metBits : MethodName := ⟨RX9, "metBits", "()I"⟩
abbrev cX9_signedBits : ByteArray := prog_11_method_33_code
def yX9_signedBits : MethodName := ⟨RX9, "signedBits", "()I"⟩
abbrev cX9_warmestPair : ByteArray := prog_11_method_34_code
def yX9_warmestPair : MethodName := ⟨RX9, "warmestPair", "()I"⟩
abbrev cX9_coldestPair : ByteArray := prog_11_method_35_code
def yX9_coldestPair : MethodName := ⟨RX9, "coldestPair", "()I"⟩
abbrev cX9_pairMost : ByteArray := prog_11_method_36_code
def yX9_pairMost : MethodName := ⟨RX9, "pairMost", "(I)I"⟩
abbrev cX9_freest : ByteArray := prog_11_method_37_code
def yX9_freest : MethodName := ⟨RX9, "freest", "()I"⟩
abbrev cX9_stiffest : ByteArray := prog_11_method_38_code
def yX9_stiffest : MethodName := ⟨RX9, "stiffest", "()I"⟩
abbrev cX9_gloveMost : ByteArray := prog_11_method_39_code
def yX9_gloveMost : MethodName := ⟨RX9, "gloveMost", "(I)I"⟩
abbrev cX9_bound : ByteArray := prog_11_method_40_code
def yX9_bound : MethodName := ⟨RX9, "bound", "()I"⟩
abbrev cX9_dueBits : ByteArray := prog_11_method_41_code
def yX9_dueBits : MethodName := ⟨RX9, "dueBits", "()I"⟩
def RX10 : String := "GloveHouses$Tape"
def TX10 : u_T := fun k => match k with
  | 0 => ("GloveHouses$Tape", "bytes", "[I", true)
  | 1 => ("GloveHouses$Tape", "length", "I", false)
  | _ => ("GloveHouses$Tape", "at", "I", false)
def tyX10 : Nat → FieldType := fun k => match k with
  | 0 => .array .int
  | 1 => .int
  | _ => .int
abbrev wsX100 : List Cond := u_ws RX10 TX10 3
theorem nmX10 : ∀ a, a < 3 → ∀ b, b < 3 → a ≠ b → (TX10 a).2.1 ≠ (TX10 b).2.1 := by decide +kernel
theorem tyX10_ok : ∀ k, k < 3 → parseFieldDescriptor (TX10 k).2.2.1 = some (tyX10 k) := by decide +kernel
abbrev cX10_init : ByteArray := prog_12_method_1_code
def yX10_init : MethodName := ⟨RX10, "<init>", "()V"⟩
abbrev cX10_bytesOf : ByteArray := prog_12_method_2_code
def yX10_bytesOf : MethodName := ⟨RX10, "bytesOf", "(I)I"⟩
abbrev cX10_put : ByteArray := prog_12_method_3_code
def yX10_put : MethodName := ⟨RX10, "put", "(I)V"⟩
abbrev cX10_sign : ByteArray := prog_12_method_4_code
def yX10_sign : MethodName := ⟨RX10, "sign", "()I"⟩
abbrev cX10_take : ByteArray := prog_12_method_5_code
def yX10_take : MethodName := ⟨RX10, "take", "(I)Z"⟩
abbrev cX10_isAtDigit : ByteArray := prog_12_method_6_code
def yX10_isAtDigit : MethodName := ⟨RX10, "isAtDigit", "()Z"⟩
abbrev cX10_number : ByteArray := prog_12_method_7_code
def yX10_number : MethodName := ⟨RX10, "number", "(I)I"⟩
def RX11 : String := "GloveHouses"
def TX11 : u_T := fun k => match k with
  | 0 => ("GloveHouses", "tape", "LGloveHouses$Tape;", true)
  | 1 => ("GloveHouses", "peaceReader", "LGloveHouses$PeaceReader;", true)
  | 2 => ("GloveHouses", "lawReader", "LGloveHouses$LawReader;", true)
  | 3 => ("GloveHouses", "told", "LGloveHouses$Peace;", true)
  | 4 => ("GloveHouses", "laws", "LGloveHouses$Laws;", true)
  | 5 => ("GloveHouses", "now", "LGloveHouses$State;", true)
  | 6 => ("GloveHouses", "apart", "LGloveHouses$State;", true)
  | 7 => ("GloveHouses", "book", "LGloveHouses$LogBook;", true)
  | 8 => ("GloveHouses", "acts", "LGloveHouses$Acts;", true)
  | 9 => ("GloveHouses", "imageState", "LGloveHouses$State;", true)
  | 10 => ("GloveHouses", "imageBook", "LGloveHouses$LogBook;", true)
  | 11 => ("GloveHouses", "sightings", "LGloveHouses$Sightings;", true)
  | 12 => ("GloveHouses", "match", "LGloveHouses$Match;", true)
  | 13 => ("GloveHouses", "quarrels", "LGloveHouses$Quarrels;", true)
  | 14 => ("GloveHouses", "refused", "[I", true)
  | 15 => ("GloveHouses", "imaged", "Z", false)
  | 16 => ("GloveHouses", "spiteNow", "I", false)
  | _ => ("GloveHouses", "drawn", "J", false)
def tyX11 : Nat → FieldType := fun k => match k with
  | 0 => .object "GloveHouses$Tape"
  | 1 => .object "GloveHouses$PeaceReader"
  | 2 => .object "GloveHouses$LawReader"
  | 3 => .object "GloveHouses$Peace"
  | 4 => .object "GloveHouses$Laws"
  | 5 => .object "GloveHouses$State"
  | 6 => .object "GloveHouses$State"
  | 7 => .object "GloveHouses$LogBook"
  | 8 => .object "GloveHouses$Acts"
  | 9 => .object "GloveHouses$State"
  | 10 => .object "GloveHouses$LogBook"
  | 11 => .object "GloveHouses$Sightings"
  | 12 => .object "GloveHouses$Match"
  | 13 => .object "GloveHouses$Quarrels"
  | 14 => .array .int
  | 15 => .boolean
  | 16 => .int
  | _ => .long
abbrev wsX110 : List Cond := u_ws RX11 TX11 18
theorem nmX11 : ∀ a, a < 18 → ∀ b, b < 18 → a ≠ b → (TX11 a).2.1 ≠ (TX11 b).2.1 := by decide +kernel
theorem tyX11_ok : ∀ k, k < 18 → parseFieldDescriptor (TX11 k).2.2.1 = some (tyX11 k) := by decide +kernel
abbrev cX11_init : ByteArray := prog_1_method_1_code
def yX11_init : MethodName := ⟨RX11, "<init>", "()V"⟩
abbrev cX11_feed : ByteArray := prog_1_method_2_code
def yX11_feed : MethodName := ⟨RX11, "feed", "(IIIII)I"⟩
abbrev cX11_end : ByteArray := prog_1_method_3_code
def yX11_end : MethodName := ⟨RX11, "end", "(I)Z"⟩
abbrev cX11_fault : ByteArray := prog_1_method_4_code
def yX11_fault : MethodName := ⟨RX11, "fault", "(I)I"⟩
abbrev cX11_text : ByteArray := prog_1_method_5_code
def yX11_text : MethodName := ⟨RX11, "text", "(I)I"⟩
abbrev cX11_rule : ByteArray := prog_1_method_6_code
def yX11_rule : MethodName := ⟨RX11, "rule", "(I)I"⟩
abbrev cX11_glove : ByteArray := prog_1_method_7_code
def yX11_glove : MethodName := ⟨RX11, "glove", "(II)I"⟩
abbrev cX11_matter : ByteArray := prog_1_method_8_code
def yX11_matter : MethodName := ⟨RX11, "matter", "(II)I"⟩
abbrev cX11_warmth : ByteArray := prog_1_method_9_code
def yX11_warmth : MethodName := ⟨RX11, "warmth", "(II)I"⟩
abbrev cX11_law : ByteArray := prog_1_method_10_code
def yX11_law : MethodName := ⟨RX11, "law", "(I)Z"⟩
abbrev cX11_meets : ByteArray := prog_1_method_11_code
def yX11_meets : MethodName := ⟨RX11, "meets", "(II)I"⟩
abbrev cX11_loosen : ByteArray := prog_1_method_12_code
def yX11_loosen : MethodName := ⟨RX11, "loosen", "(I)I"⟩
abbrev cX11_stuff : ByteArray := prog_1_method_13_code
def yX11_stuff : MethodName := ⟨RX11, "stuff", "(II)I"⟩
abbrev cX11_swallow : ByteArray := prog_1_method_14_code
def yX11_swallow : MethodName := ⟨RX11, "swallow", "()I"⟩
abbrev cX11_tear : ByteArray := prog_1_method_15_code
def yX11_tear : MethodName := ⟨RX11, "tear", "(I)I"⟩
abbrev cX11_give : ByteArray := prog_1_method_16_code
def yX11_give : MethodName := ⟨RX11, "give", "(I)I"⟩
abbrev cX11_days : ByteArray := prog_1_method_17_code
def yX11_days : MethodName := ⟨RX11, "days", "(I)I"⟩
abbrev cX11_spite : ByteArray := prog_1_method_18_code
def yX11_spite : MethodName := ⟨RX11, "spite", "(I)Z"⟩
abbrev cX11_years : ByteArray := prog_1_method_19_code
def yX11_years : MethodName := ⟨RX11, "years", "(IJ)I"⟩
abbrev cX11_status : ByteArray := prog_1_method_20_code
def yX11_status : MethodName := ⟨RX11, "status", "(I)I"⟩
abbrev cX11_undo : ByteArray := prog_1_method_21_code
def yX11_undo : MethodName := ⟨RX11, "undo", "()I"⟩
abbrev cX11_log : ByteArray := prog_1_method_22_code
def yX11_log : MethodName := ⟨RX11, "log", "(II)I"⟩
abbrev cX11_rises : ByteArray := prog_1_method_23_code
def yX11_rises : MethodName := ⟨RX11, "rises", "(II)I"⟩
abbrev cX11_later : ByteArray := prog_1_method_24_code
def yX11_later : MethodName := ⟨RX11, "later", "(III)I"⟩
abbrev cX11_soonest : ByteArray := prog_1_method_25_code
def yX11_soonest : MethodName := ⟨RX11, "soonest", "(II)I"⟩
abbrev cX11_pairs : ByteArray := prog_1_method_26_code
def yX11_pairs : MethodName := ⟨RX11, "pairs", "(I)I"⟩
abbrev cX11_allKnow : ByteArray := prog_1_method_27_code
def yX11_allKnow : MethodName := ⟨RX11, "allKnow", "()I"⟩
abbrev cX11_seen : ByteArray := prog_1_method_28_code
def yX11_seen : MethodName := ⟨RX11, "seen", "(IIIZ)I"⟩
abbrev cX11_fits : ByteArray := prog_1_method_29_code
def yX11_fits : MethodName := ⟨RX11, "fits", "(II)I"⟩
abbrev cX11_ask : ByteArray := prog_1_method_30_code
def yX11_ask : MethodName := ⟨RX11, "ask", "(II)I"⟩
abbrev cX11_game : ByteArray := prog_1_method_31_code
def yX11_game : MethodName := ⟨RX11, "game", "(III)I"⟩
abbrev cX11_sure : ByteArray := prog_1_method_32_code
def yX11_sure : MethodName := ⟨RX11, "sure", "(I)I"⟩
abbrev cX11_rests : ByteArray := prog_1_method_33_code
def yX11_rests : MethodName := ⟨RX11, "rests", "(I)I"⟩
abbrev cX11_odds : ByteArray := prog_1_method_34_code
def yX11_odds : MethodName := ⟨RX11, "odds", "(IIIII)I"⟩
abbrev cX11_shares : ByteArray := prog_1_method_35_code
def yX11_shares : MethodName := ⟨RX11, "shares", "(II)I"⟩
abbrev cX11_most : ByteArray := prog_1_method_36_code
def yX11_most : MethodName := ⟨RX11, "most", "(I)I"⟩
abbrev cX11_allies : ByteArray := prog_1_method_37_code
def yX11_allies : MethodName := ⟨RX11, "allies", "(I)I"⟩
abbrev cX11_image : ByteArray := prog_1_method_38_code
def yX11_image : MethodName := ⟨RX11, "image", "()I"⟩
abbrev cX11_back : ByteArray := prog_1_method_39_code
def yX11_back : MethodName := ⟨RX11, "back", "()I"⟩
abbrev cX11_count : ByteArray := prog_1_method_40_code
def yX11_count : MethodName := ⟨RX11, "count", "(I)I"⟩
abbrev cX11_noPeace : ByteArray := prog_1_method_41_code
def yX11_noPeace : MethodName := ⟨RX11, "noPeace", "()Z"⟩
abbrev cX11_isNoRise : ByteArray := prog_1_method_42_code
def yX11_isNoRise : MethodName := ⟨RX11, "isNoRise", "(I)Z"⟩
abbrev cX11_refuse : ByteArray := prog_1_method_43_code
def yX11_refuse : MethodName := ⟨RX11, "refuse", "(I)I"⟩
abbrev cX11_takePeace : ByteArray := prog_1_method_44_code
def yX11_takePeace : MethodName := ⟨RX11, "takePeace", "()I"⟩
abbrev cX11_takeLaw : ByteArray := prog_1_method_45_code
def yX11_takeLaw : MethodName := ⟨RX11, "takeLaw", "()I"⟩
abbrev cX11_passDay : ByteArray := prog_1_method_46_code
def yX11_passDay : MethodName := ⟨RX11, "passDay", "()V"⟩
abbrev cX11_draw : ByteArray := prog_1_method_47_code
def yX11_draw : MethodName := ⟨RX11, "draw", "(I)I"⟩
abbrev cX11_drawMeeting : ByteArray := prog_1_method_48_code
def yX11_drawMeeting : MethodName := ⟨RX11, "drawMeeting", "()V"⟩
abbrev cX11_daysUntil : ByteArray := prog_1_method_49_code
def yX11_daysUntil : MethodName := ⟨RX11, "daysUntil", "(III)I"⟩
abbrev cX11_leastGain : ByteArray := prog_1_method_50_code
def yX11_leastGain : MethodName := ⟨RX11, "leastGain", "(I)I"⟩
abbrev cX11_isRest : ByteArray := prog_1_method_51_code
def yX11_isRest : MethodName := ⟨RX11, "isRest", "(II)Z"⟩
def RX12 : String := "GloveHousesModel"
def TX12 : u_T := fun k => match k with
  | 0 => ("GloveHousesModel", "thrown", "I", false)
  | 1 => ("GloveHousesModel", "tape", "[I", true)
  | 2 => ("GloveHousesModel", "size", "I", false)
  | 3 => ("GloveHousesModel", "at", "I", false)
  | 4 => ("GloveHousesModel", "wrong", "I", false)
  | 5 => ("GloveHousesModel", "deep", "I", false)
  | 6 => ("GloveHousesModel", "code", "[I", true)
  | 7 => ("GloveHousesModel", "value", "[I", true)
  | 8 => ("GloveHousesModel", "codes", "[I", true)
  | 9 => ("GloveHousesModel", "clauses", "[I", true)
  | 10 => ("GloveHousesModel", "testFrom", "[I", true)
  | 11 => ("GloveHousesModel", "sumFrom", "[I", true)
  | 12 => ("GloveHousesModel", "sumTo", "[I", true)
  | 13 => ("GloveHousesModel", "laws", "I", false)
  | 14 => ("GloveHousesModel", "text", "I", false)
  | 15 => ("GloveHousesModel", "letters", "[I", true)
  | 16 => ("GloveHousesModel", "stack", "[I", true)
  | 17 => ("GloveHousesModel", "readRule", "[I", true)
  | 18 => ("GloveHousesModel", "readGlove", "[I", true)
  | 19 => ("GloveHousesModel", "readMatter", "[I", true)
  | 20 => ("GloveHousesModel", "readGloves", "I", false)
  | 21 => ("GloveHousesModel", "readMatters", "I", false)
  | 22 => ("GloveHousesModel", "rule", "[I", true)
  | 23 => ("GloveHousesModel", "glove", "[I", true)
  | 24 => ("GloveHousesModel", "matter", "[I", true)
  | 25 => ("GloveHousesModel", "gloves", "I", false)
  | 26 => ("GloveHousesModel", "matters", "I", false)
  | 27 => ("GloveHousesModel", "now", "[I", true)
  | 28 => ("GloveHousesModel", "refused", "[I", true)
  | 29 => ("GloveHousesModel", "holding", "I", false)
  | 30 => ("GloveHousesModel", "spiteful", "I", false)
  | 31 => ("GloveHousesModel", "kept", "[I", true)
  | 32 => ("GloveHousesModel", "acts", "I", false)
  | 33 => ("GloveHousesModel", "draws", "J", false)
  | 34 => ("GloveHousesModel", "bestRow", "I", false)
  | 35 => ("GloveHousesModel", "bestRise", "I", false)
  | 36 => ("GloveHousesModel", "isFound", "Z", false)
  | 37 => ("GloveHousesModel", "with", "[I", true)
  | 38 => ("GloveHousesModel", "aside", "[I", true)
  | 39 => ("GloveHousesModel", "noteOne", "[I", true)
  | 40 => ("GloveHousesModel", "noteOther", "[I", true)
  | 41 => ("GloveHousesModel", "noteRise", "[I", true)
  | 42 => ("GloveHousesModel", "noteIs", "[Z", true)
  | 43 => ("GloveHousesModel", "noted", "I", false)
  | 44 => ("GloveHousesModel", "image", "[I", true)
  | _ => ("GloveHousesModel", "hasImage", "Z", false)
def tyX12 : Nat → FieldType := fun k => match k with
  | 0 => .int
  | 1 => .array .int
  | 2 => .int
  | 3 => .int
  | 4 => .int
  | 5 => .int
  | 6 => .array .int
  | 7 => .array .int
  | 8 => .array .int
  | 9 => .array .int
  | 10 => .array .int
  | 11 => .array .int
  | 12 => .array .int
  | 13 => .int
  | 14 => .int
  | 15 => .array .int
  | 16 => .array .int
  | 17 => .array .int
  | 18 => .array .int
  | 19 => .array .int
  | 20 => .int
  | 21 => .int
  | 22 => .array .int
  | 23 => .array .int
  | 24 => .array .int
  | 25 => .int
  | 26 => .int
  | 27 => .array .int
  | 28 => .array .int
  | 29 => .int
  | 30 => .int
  | 31 => .array .int
  | 32 => .int
  | 33 => .long
  | 34 => .int
  | 35 => .int
  | 36 => .boolean
  | 37 => .array .int
  | 38 => .array .int
  | 39 => .array .int
  | 40 => .array .int
  | 41 => .array .int
  | 42 => .array .boolean
  | 43 => .int
  | 44 => .array .int
  | _ => .boolean
abbrev wsX120 : List Cond := u_ws RX12 TX12 46
theorem nmX12 : ∀ a, a < 46 → ∀ b, b < 46 → a ≠ b → (TX12 a).2.1 ≠ (TX12 b).2.1 := by decide +kernel
theorem tyX12_ok : ∀ k, k < 46 → parseFieldDescriptor (TX12 k).2.2.1 = some (tyX12 k) := by decide +kernel
abbrev cX12_in : ByteArray := prog_14_method_1_code
def yX12_in : MethodName := ⟨RX12, "in", "(III)Z"⟩
abbrev cX12_has : ByteArray := prog_14_method_2_code
def yX12_has : MethodName := ⟨RX12, "has", "(II)Z"⟩
abbrev cX12_init : ByteArray := prog_14_method_3_code
def yX12_init : MethodName := ⟨RX12, "<init>", "()V"⟩
abbrev cX12_byteOf : ByteArray := prog_14_method_5_code
def yX12_byteOf : MethodName := ⟨RX12, "byteOf", "(IIIIII)I"⟩
abbrev cX12_feed : ByteArray := prog_14_method_6_code
def yX12_feed : MethodName := ⟨RX12, "feed", "(IIIII)I"⟩
abbrev cX12_end : ByteArray := prog_14_method_7_code
def yX12_end : MethodName := ⟨RX12, "end", "(I)Z"⟩
abbrev cX12_here : ByteArray := prog_14_method_8_code
def yX12_here : MethodName := ⟨RX12, "here", "()I"⟩
abbrev cX12_look : ByteArray := prog_14_method_9_code
def yX12_look : MethodName := ⟨RX12, "look", "()I"⟩
abbrev cX12_bad : ByteArray := prog_14_method_10_code
def yX12_bad : MethodName := ⟨RX12, "bad", "()V"⟩
abbrev cX12_isDigit : ByteArray := prog_14_method_11_code
def yX12_isDigit : MethodName := ⟨RX12, "isDigit", "(I)Z"⟩
abbrev cX12_put : ByteArray := prog_14_method_12_code
def yX12_put : MethodName := ⟨RX12, "put", "(II)V"⟩
abbrev cX12_letterOf : ByteArray := prog_14_method_13_code
def yX12_letterOf : MethodName := ⟨RX12, "letterOf", "(I)I"⟩
abbrev cX12_opens : ByteArray := prog_14_method_14_code
def yX12_opens : MethodName := ⟨RX12, "opens", "()V"⟩
abbrev cX12_closes : ByteArray := prog_14_method_15_code
def yX12_closes : MethodName := ⟨RX12, "closes", "(I)V"⟩
abbrev cX12_plainNumber : ByteArray := prog_14_method_16_code
def yX12_plainNumber : MethodName := ⟨RX12, "plainNumber", "()I"⟩
abbrev cX12_atom : ByteArray := prog_14_method_17_code
def yX12_atom : MethodName := ⟨RX12, "atom", "()V"⟩
abbrev cX12_term : ByteArray := prog_14_method_18_code
def yX12_term : MethodName := ⟨RX12, "term", "()V"⟩
abbrev cX12_sum : ByteArray := prog_14_method_19_code
def yX12_sum : MethodName := ⟨RX12, "sum", "()V"⟩
abbrev cX12_isSign : ByteArray := prog_14_method_20_code
def yX12_isSign : MethodName := ⟨RX12, "isSign", "(I)Z"⟩
abbrev cX12_compare : ByteArray := prog_14_method_21_code
def yX12_compare : MethodName := ⟨RX12, "compare", "()V"⟩
abbrev cX12_unit : ByteArray := prog_14_method_22_code
def yX12_unit : MethodName := ⟨RX12, "unit", "()V"⟩
abbrev cX12_goOnAnd : ByteArray := prog_14_method_23_code
def yX12_goOnAnd : MethodName := ⟨RX12, "goOnAnd", "()V"⟩
abbrev cX12_goOnOr : ByteArray := prog_14_method_24_code
def yX12_goOnOr : MethodName := ⟨RX12, "goOnOr", "()V"⟩
abbrev cX12_condition : ByteArray := prog_14_method_25_code
def yX12_condition : MethodName := ⟨RX12, "condition", "()V"⟩
abbrev cX12_clause : ByteArray := prog_14_method_26_code
def yX12_clause : MethodName := ⟨RX12, "clause", "()V"⟩
abbrev cX12_open : ByteArray := prog_14_method_27_code
def yX12_open : MethodName := ⟨RX12, "open", "(I)V"⟩
abbrev cX12_atEnd : ByteArray := prog_14_method_28_code
def yX12_atEnd : MethodName := ⟨RX12, "atEnd", "()I"⟩
abbrev cX12_readLaw : ByteArray := prog_14_method_29_code
def yX12_readLaw : MethodName := ⟨RX12, "readLaw", "(I)I"⟩
abbrev cX12_bounded : ByteArray := prog_14_method_30_code
def yX12_bounded : MethodName := ⟨RX12, "bounded", "(J)I"⟩
abbrev cX12_worked : ByteArray := prog_14_method_31_code
def yX12_worked : MethodName := ⟨RX12, "worked", "(IJJ)I"⟩
abbrev cX12_workOut : ByteArray := prog_14_method_32_code
def yX12_workOut : MethodName := ⟨RX12, "workOut", "(III)I"⟩
abbrev cX12_worthOf : ByteArray := prog_14_method_33_code
def yX12_worthOf : MethodName := ⟨RX12, "worthOf", "(I)I"⟩
abbrev cX12_number : ByteArray := prog_14_method_34_code
def yX12_number : MethodName := ⟨RX12, "number", "(II)I"⟩
abbrev cX12_itemOf : ByteArray := prog_14_method_35_code
def yX12_itemOf : MethodName := ⟨RX12, "itemOf", "(II)I"⟩
abbrev cX12_highest : ByteArray := prog_14_method_36_code
def yX12_highest : MethodName := ⟨RX12, "highest", "(II)I"⟩
abbrev cX12_usual : ByteArray := prog_14_method_37_code
def yX12_usual : MethodName := ⟨RX12, "usual", "(II)I"⟩
abbrev cX12_items : ByteArray := prog_14_method_38_code
def yX12_items : MethodName := ⟨RX12, "items", "(I[III)V"⟩
abbrev cX12_isWhole : ByteArray := prog_14_method_39_code
def yX12_isWhole : MethodName := ⟨RX12, "isWhole", "()Z"⟩
abbrev cX12_readPeace : ByteArray := prog_14_method_40_code
def yX12_readPeace : MethodName := ⟨RX12, "readPeace", "()I"⟩
abbrev cX12_fault : ByteArray := prog_14_method_41_code
def yX12_fault : MethodName := ⟨RX12, "fault", "(I)I"⟩
abbrev cX12_takePeace : ByteArray := prog_14_method_42_code
def yX12_takePeace : MethodName := ⟨RX12, "takePeace", "()I"⟩
abbrev cX12_text : ByteArray := prog_14_method_43_code
def yX12_text : MethodName := ⟨RX12, "text", "(I)I"⟩
abbrev cX12_of : ByteArray := prog_14_method_44_code
def yX12_of : MethodName := ⟨RX12, "of", "(II)I"⟩
abbrev cX12_isGlove : ByteArray := prog_14_method_45_code
def yX12_isGlove : MethodName := ⟨RX12, "isGlove", "(I)Z"⟩
abbrev cX12_isMatter : ByteArray := prog_14_method_46_code
def yX12_isMatter : MethodName := ⟨RX12, "isMatter", "(I)Z"⟩
abbrev cX12_areTwo : ByteArray := prog_14_method_47_code
def yX12_areTwo : MethodName := ⟨RX12, "areTwo", "(II)Z"⟩
abbrev cX12_pairAt : ByteArray := prog_14_method_48_code
def yX12_pairAt : MethodName := ⟨RX12, "pairAt", "(II)I"⟩
abbrev cX12_codeOf : ByteArray := prog_14_method_49_code
def yX12_codeOf : MethodName := ⟨RX12, "codeOf", "(II)I"⟩
abbrev cX12_held : ByteArray := prog_14_method_50_code
def yX12_held : MethodName := ⟨RX12, "held", "(I)I"⟩
abbrev cX12_riseBy : ByteArray := prog_14_method_51_code
def yX12_riseBy : MethodName := ⟨RX12, "riseBy", "(IIIZII)I"⟩
abbrev cX12_areAllies : ByteArray := prog_14_method_52_code
def yX12_areAllies : MethodName := ⟨RX12, "areAllies", "(II)Z"⟩
abbrev cX12_riseFrom : ByteArray := prog_14_method_53_code
def yX12_riseFrom : MethodName := ⟨RX12, "riseFrom", "(IIII)I"⟩
abbrev cX12_riseOf : ByteArray := prog_14_method_54_code
def yX12_riseOf : MethodName := ⟨RX12, "riseOf", "(II)I"⟩
abbrev cX12_isFree : ByteArray := prog_14_method_55_code
def yX12_isFree : MethodName := ⟨RX12, "isFree", "(I)Z"⟩
abbrev cX12_signNow : ByteArray := prog_14_method_56_code
def yX12_signNow : MethodName := ⟨RX12, "signNow", "(II)V"⟩
abbrev cX12_meetNow : ByteArray := prog_14_method_57_code
def yX12_meetNow : MethodName := ⟨RX12, "meetNow", "(II)V"⟩
abbrev cX12_metMany : ByteArray := prog_14_method_58_code
def yX12_metMany : MethodName := ⟨RX12, "metMany", "()I"⟩
abbrev cX12_warmthOfAll : ByteArray := prog_14_method_59_code
def yX12_warmthOfAll : MethodName := ⟨RX12, "warmthOfAll", "()I"⟩
abbrev cX12_cool : ByteArray := prog_14_method_60_code
def yX12_cool : MethodName := ⟨RX12, "cool", "()V"⟩
abbrev cX12_live : ByteArray := prog_14_method_61_code
def yX12_live : MethodName := ⟨RX12, "live", "()V"⟩
abbrev cX12_passDay : ByteArray := prog_14_method_62_code
def yX12_passDay : MethodName := ⟨RX12, "passDay", "()V"⟩
abbrev cX12_rule : ByteArray := prog_14_method_63_code
def yX12_rule : MethodName := ⟨RX12, "rule", "(I)I"⟩
abbrev cX12_glove : ByteArray := prog_14_method_64_code
def yX12_glove : MethodName := ⟨RX12, "glove", "(II)I"⟩
abbrev cX12_matter : ByteArray := prog_14_method_65_code
def yX12_matter : MethodName := ⟨RX12, "matter", "(II)I"⟩
abbrev cX12_warmth : ByteArray := prog_14_method_66_code
def yX12_warmth : MethodName := ⟨RX12, "warmth", "(II)I"⟩
abbrev cX12_law : ByteArray := prog_14_method_67_code
def yX12_law : MethodName := ⟨RX12, "law", "(I)Z"⟩
abbrev cX12_keep : ByteArray := prog_14_method_68_code
def yX12_keep : MethodName := ⟨RX12, "keep", "()V"⟩
abbrev cX12_isRefused : ByteArray := prog_14_method_69_code
def yX12_isRefused : MethodName := ⟨RX12, "isRefused", "(I)Z"⟩
abbrev cX12_meets : ByteArray := prog_14_method_70_code
def yX12_meets : MethodName := ⟨RX12, "meets", "(II)I"⟩
abbrev cX12_loosen : ByteArray := prog_14_method_71_code
def yX12_loosen : MethodName := ⟨RX12, "loosen", "(I)I"⟩
abbrev cX12_stuff : ByteArray := prog_14_method_72_code
def yX12_stuff : MethodName := ⟨RX12, "stuff", "(II)I"⟩
abbrev cX12_swallow : ByteArray := prog_14_method_73_code
def yX12_swallow : MethodName := ⟨RX12, "swallow", "()I"⟩
abbrev cX12_tear : ByteArray := prog_14_method_74_code
def yX12_tear : MethodName := ⟨RX12, "tear", "(I)I"⟩
abbrev cX12_give : ByteArray := prog_14_method_75_code
def yX12_give : MethodName := ⟨RX12, "give", "(I)I"⟩
abbrev cX12_areDays : ByteArray := prog_14_method_76_code
def yX12_areDays : MethodName := ⟨RX12, "areDays", "(I)Z"⟩
abbrev cX12_days : ByteArray := prog_14_method_77_code
def yX12_days : MethodName := ⟨RX12, "days", "(I)I"⟩
abbrev cX12_spite : ByteArray := prog_14_method_78_code
def yX12_spite : MethodName := ⟨RX12, "spite", "(I)Z"⟩
abbrev cX12_draw : ByteArray := prog_14_method_79_code
def yX12_draw : MethodName := ⟨RX12, "draw", "(I)I"⟩
abbrev cX12_drawDay : ByteArray := prog_14_method_80_code
def yX12_drawDay : MethodName := ⟨RX12, "drawDay", "()V"⟩
abbrev cX12_years : ByteArray := prog_14_method_81_code
def yX12_years : MethodName := ⟨RX12, "years", "(IJ)I"⟩
abbrev cX12_status : ByteArray := prog_14_method_82_code
def yX12_status : MethodName := ⟨RX12, "status", "(I)I"⟩
abbrev cX12_undo : ByteArray := prog_14_method_83_code
def yX12_undo : MethodName := ⟨RX12, "undo", "()I"⟩
abbrev cX12_log : ByteArray := prog_14_method_84_code
def yX12_log : MethodName := ⟨RX12, "log", "(II)I"⟩
abbrev cX12_rises : ByteArray := prog_14_method_85_code
def yX12_rises : MethodName := ⟨RX12, "rises", "(II)I"⟩
abbrev cX12_later : ByteArray := prog_14_method_86_code
def yX12_later : MethodName := ⟨RX12, "later", "(III)I"⟩
abbrev cX12_daysTo : ByteArray := prog_14_method_87_code
def yX12_daysTo : MethodName := ⟨RX12, "daysTo", "(III)I"⟩
abbrev cX12_soonest : ByteArray := prog_14_method_88_code
def yX12_soonest : MethodName := ⟨RX12, "soonest", "(II)I"⟩
abbrev cX12_tryPairs : ByteArray := prog_14_method_89_code
def yX12_tryPairs : MethodName := ⟨RX12, "tryPairs", "(IIII)V"⟩
abbrev cX12_freeOfFirst : ByteArray := prog_14_method_90_code
def yX12_freeOfFirst : MethodName := ⟨RX12, "freeOfFirst", "()I"⟩
abbrev cX12_layPairs : ByteArray := prog_14_method_91_code
def yX12_layPairs : MethodName := ⟨RX12, "layPairs", "()V"⟩
abbrev cX12_pairs : ByteArray := prog_14_method_92_code
def yX12_pairs : MethodName := ⟨RX12, "pairs", "(I)I"⟩
abbrev cX12_doAllKnow : ByteArray := prog_14_method_93_code
def yX12_doAllKnow : MethodName := ⟨RX12, "doAllKnow", "()Z"⟩
abbrev cX12_meetPairs : ByteArray := prog_14_method_94_code
def yX12_meetPairs : MethodName := ⟨RX12, "meetPairs", "()V"⟩
abbrev cX12_allKnow : ByteArray := prog_14_method_95_code
def yX12_allKnow : MethodName := ⟨RX12, "allKnow", "()I"⟩
abbrev cX12_seen : ByteArray := prog_14_method_96_code
def yX12_seen : MethodName := ⟨RX12, "seen", "(IIIZ)I"⟩
abbrev cX12_toldRise : ByteArray := prog_14_method_97_code
def yX12_toldRise : MethodName := ⟨RX12, "toldRise", "(III)I"⟩
abbrev cX12_isFreedom : ByteArray := prog_14_method_98_code
def yX12_isFreedom : MethodName := ⟨RX12, "isFreedom", "(II)Z"⟩
abbrev cX12_fits : ByteArray := prog_14_method_99_code
def yX12_fits : MethodName := ⟨RX12, "fits", "(II)I"⟩
abbrev cX12_ask : ByteArray := prog_14_method_100_code
def yX12_ask : MethodName := ⟨RX12, "ask", "(II)I"⟩
abbrev cX12_gloveOf : ByteArray := prog_14_method_101_code
def yX12_gloveOf : MethodName := ⟨RX12, "gloveOf", "(II)I"⟩
abbrev cX12_gameOf : ByteArray := prog_14_method_102_code
def yX12_gameOf : MethodName := ⟨RX12, "gameOf", "(III)I"⟩
abbrev cX12_game : ByteArray := prog_14_method_103_code
def yX12_game : MethodName := ⟨RX12, "game", "(III)I"⟩
abbrev cX12_manyOf : ByteArray := prog_14_method_104_code
def yX12_manyOf : MethodName := ⟨RX12, "manyOf", "(I)I"⟩
abbrev cX12_leastOf : ByteArray := prog_14_method_105_code
def yX12_leastOf : MethodName := ⟨RX12, "leastOf", "(II)I"⟩
abbrev cX12_sure : ByteArray := prog_14_method_106_code
def yX12_sure : MethodName := ⟨RX12, "sure", "(I)I"⟩
abbrev cX12_isRest : ByteArray := prog_14_method_107_code
def yX12_isRest : MethodName := ⟨RX12, "isRest", "(II)Z"⟩
abbrev cX12_rests : ByteArray := prog_14_method_108_code
def yX12_rests : MethodName := ⟨RX12, "rests", "(I)I"⟩
abbrev cX12_oddsFrom : ByteArray := prog_14_method_109_code
def yX12_oddsFrom : MethodName := ⟨RX12, "oddsFrom", "(IIIIIIII)I"⟩
abbrev cX12_odds : ByteArray := prog_14_method_110_code
def yX12_odds : MethodName := ⟨RX12, "odds", "(IIIII)I"⟩
abbrev cX12_shares : ByteArray := prog_14_method_111_code
def yX12_shares : MethodName := ⟨RX12, "shares", "(II)I"⟩
abbrev cX12_metSet : ByteArray := prog_14_method_112_code
def yX12_metSet : MethodName := ⟨RX12, "metSet", "()I"⟩
abbrev cX12_signedSet : ByteArray := prog_14_method_113_code
def yX12_signedSet : MethodName := ⟨RX12, "signedSet", "()I"⟩
abbrev cX12_topPair : ByteArray := prog_14_method_114_code
def yX12_topPair : MethodName := ⟨RX12, "topPair", "(I)I"⟩
abbrev cX12_topGlove : ByteArray := prog_14_method_115_code
def yX12_topGlove : MethodName := ⟨RX12, "topGlove", "(I)I"⟩
abbrev cX12_heaviest : ByteArray := prog_14_method_116_code
def yX12_heaviest : MethodName := ⟨RX12, "heaviest", "()I"⟩
abbrev cX12_bound : ByteArray := prog_14_method_117_code
def yX12_bound : MethodName := ⟨RX12, "bound", "()I"⟩
abbrev cX12_due : ByteArray := prog_14_method_118_code
def yX12_due : MethodName := ⟨RX12, "due", "()I"⟩
abbrev cX12_most : ByteArray := prog_14_method_119_code
def yX12_most : MethodName := ⟨RX12, "most", "(I)I"⟩
abbrev cX12_allies : ByteArray := prog_14_method_120_code
def yX12_allies : MethodName := ⟨RX12, "allies", "(I)I"⟩
abbrev cX12_image : ByteArray := prog_14_method_121_code
def yX12_image : MethodName := ⟨RX12, "image", "()I"⟩
abbrev cX12_back : ByteArray := prog_14_method_122_code
def yX12_back : MethodName := ⟨RX12, "back", "()I"⟩
abbrev cX12_count : ByteArray := prog_14_method_123_code
def yX12_count : MethodName := ⟨RX12, "count", "(I)I"⟩
def RJx145de : String := "java/io/Serializable"
def TJx145de : u_T := fun k => match k with
  | _ => ("", "", "", false)
def tyJx145de : Nat → FieldType := fun k => match k with
  | _ => .int
abbrev wsJx145de0 : List Cond := u_ws RJx145de TJx145de 0
theorem nmJx145de : ∀ a, a < 0 → ∀ b, b < 0 → a ≠ b → (TJx145de a).2.1 ≠ (TJx145de b).2.1 := by decide +kernel
theorem tyJx145de_ok : ∀ k, k < 0 → parseFieldDescriptor (TJx145de k).2.2.1 = some (tyJx145de k) := by decide +kernel
def RJ6 : String := "java/lang/Integer"
def TJ6 : u_T := fun k => match k with
  | _ => ("", "", "", false)
def tyJ6 : Nat → FieldType := fun k => match k with
  | _ => .int
abbrev wsJ60 : List Cond := u_ws RJ6 TJ6 0
theorem nmJ6 : ∀ a, a < 0 → ∀ b, b < 0 → a ≠ b → (TJ6 a).2.1 ≠ (TJ6 b).2.1 := by decide +kernel
theorem tyJ6_ok : ∀ k, k < 0 → parseFieldDescriptor (TJ6 k).2.2.1 = some (tyJ6 k) := by decide +kernel
abbrev cJ6_bitCount_0f7a4 : ByteArray := prog_17_method_49_code
def yJ6_bitCount_0f7a4 : MethodName := ⟨RJ6, "bitCount", "(I)I"⟩
def RJ9 : String := "java/lang/Math"
def TJ9 : u_T := fun k => match k with
  | _ => ("", "", "", false)
def tyJ9 : Nat → FieldType := fun k => match k with
  | _ => .int
abbrev wsJ90 : List Cond := u_ws RJ9 TJ9 0
theorem nmJ9 : ∀ a, a < 0 → ∀ b, b < 0 → a ≠ b → (TJ9 a).2.1 ≠ (TJ9 b).2.1 := by decide +kernel
theorem tyJ9_ok : ∀ k, k < 0 → parseFieldDescriptor (TJ9 k).2.2.1 = some (tyJ9 k) := by decide +kernel
abbrev cJ9_abs_0f7a4 : ByteArray := prog_18_method_59_code
def yJ9_abs_0f7a4 : MethodName := ⟨RJ9, "abs", "(I)I"⟩
abbrev cJ9_max_7cf53 : ByteArray := prog_18_method_65_code
def yJ9_max_7cf53 : MethodName := ⟨RJ9, "max", "(II)I"⟩
abbrev cJ9_max_f86c9 : ByteArray := prog_18_method_66_code
def yJ9_max_f86c9 : MethodName := ⟨RJ9, "max", "(JJ)J"⟩
abbrev cJ9_min_7cf53 : ByteArray := prog_18_method_69_code
def yJ9_min_7cf53 : MethodName := ⟨RJ9, "min", "(II)I"⟩
abbrev cJ9_min_f86c9 : ByteArray := prog_18_method_70_code
def yJ9_min_f86c9 : MethodName := ⟨RJ9, "min", "(JJ)J"⟩
def RJ0 : String := "java/lang/String"
def TJ0 : u_T := fun k => match k with
  | _ => ("", "", "", false)
def tyJ0 : Nat → FieldType := fun k => match k with
  | _ => .int
abbrev wsJ00 : List Cond := u_ws RJ0 TJ0 0
theorem nmJ0 : ∀ a, a < 0 → ∀ b, b < 0 → a ≠ b → (TJ0 a).2.1 ≠ (TJ0 b).2.1 := by decide +kernel
theorem tyJ0_ok : ∀ k, k < 0 → parseFieldDescriptor (TJ0 k).2.2.1 = some (tyJ0 k) := by decide +kernel
def RJ10 : String := "java/lang/System"
def TJ10 : u_T := fun k => match k with
  | _ => ("", "", "", false)
def tyJ10 : Nat → FieldType := fun k => match k with
  | _ => .int
abbrev wsJ100 : List Cond := u_ws RJ10 TJ10 0
theorem nmJ10 : ∀ a, a < 0 → ∀ b, b < 0 → a ≠ b → (TJ10 a).2.1 ≠ (TJ10 b).2.1 := by decide +kernel
theorem tyJ10_ok : ∀ k, k < 0 → parseFieldDescriptor (TJ10 k).2.2.1 = some (tyJ10 k) := by decide +kernel
def RL : String := "GloveHousesLaw"
abbrev cL_glove : ByteArray := method_3_code
def yL_glove : MethodName := ⟨RL, "glove", "(LGloveHouses;II[J)I"⟩
abbrev cL_law : ByteArray := code
def yL_law : MethodName := ⟨RL, "law", "([I)Z"⟩
def wsL_law0_r1 : List Cond := [Cond.classLink RL 8 RX11, Cond.instantiable RX11 18, Cond.initialized RX11, Cond.classLink RL 16 RX12, Cond.instantiable RX12 46, Cond.initialized RX12, Cond.arrayClass .long, Cond.constantLong RL 93 (4294967295), Cond.methodLink RL 15 yX11_init, Cond.instanceMethod yX11_init, Cond.code yX11_init cX11_init 1 none, Cond.methodLink RX11 1 objectInit, Cond.instanceMethod objectInit, Cond.code objectInit ⟨#[0xb1]⟩ 1 none, Cond.classLink RX11 7 RX10, Cond.instantiable RX10 3, Cond.initialized RX10, Cond.fieldLink RX11 10 "GloveHouses" "tape" "LGloveHouses$Tape;", Cond.classLink RX11 16 RX6, Cond.instantiable RX6 4, Cond.initialized RX6, Cond.fieldLink RX11 21 "GloveHouses" "peaceReader" "LGloveHouses$PeaceReader;", Cond.classLink RX11 25 RX1, Cond.instantiable RX1 3]
def wsL_law0_r2 : List Cond := [Cond.initialized RX1, Cond.fieldLink RX11 28 "GloveHouses" "lawReader" "LGloveHouses$LawReader;", Cond.classLink RX11 32 RX5, Cond.instantiable RX5 10, Cond.initialized RX5, Cond.fieldLink RX11 35 "GloveHouses" "told" "LGloveHouses$Peace;", Cond.classLink RX11 39 RX2, Cond.instantiable RX2 6, Cond.initialized RX2, Cond.fieldLink RX11 42 "GloveHouses" "laws" "LGloveHouses$Laws;", Cond.classLink RX11 46 RX9, Cond.instantiable RX9 3, Cond.initialized RX9, Cond.fieldLink RX11 51 "GloveHouses" "now" "LGloveHouses$State;", Cond.fieldLink RX11 55 "GloveHouses" "apart" "LGloveHouses$State;", Cond.classLink RX11 58 RX3, Cond.instantiable RX3 1, Cond.initialized RX3, Cond.fieldLink RX11 61 "GloveHouses" "book" "LGloveHouses$LogBook;", Cond.classLink RX11 65 RX0, Cond.instantiable RX0 3, Cond.initialized RX0, Cond.fieldLink RX11 68 "GloveHouses" "acts" "LGloveHouses$Acts;", Cond.fieldLink RX11 72 "GloveHouses" "imageState" "LGloveHouses$State;"]
def wsL_law0_r3 : List Cond := [Cond.fieldLink RX11 75 "GloveHouses" "imageBook" "LGloveHouses$LogBook;", Cond.classLink RX11 78 RX8, Cond.instantiable RX8 7, Cond.initialized RX8, Cond.fieldLink RX11 81 "GloveHouses" "sightings" "LGloveHouses$Sightings;", Cond.classLink RX11 85 RX4, Cond.instantiable RX4 7, Cond.initialized RX4, Cond.fieldLink RX11 90 "GloveHouses" "match" "LGloveHouses$Match;", Cond.classLink RX11 94 RX7, Cond.instantiable RX7 5, Cond.initialized RX7, Cond.fieldLink RX11 97 "GloveHouses" "quarrels" "LGloveHouses$Quarrels;", Cond.arrayClass .int, Cond.fieldLink RX11 101 "GloveHouses" "refused" "[I", Cond.fieldLink RX11 105 "GloveHouses" "imaged" "Z", Cond.fieldLink RX11 109 "GloveHouses" "spiteNow" "I", Cond.fieldLink RX11 113 "GloveHouses" "drawn" "J", Cond.instanceMethod yX10_init, Cond.code yX10_init cX10_init 1 none, Cond.methodLink RX10 3 objectInit, Cond.fieldLink RX10 9 "GloveHouses$Tape" "bytes" "[I", Cond.methodLink RX11 18 yX6_init, Cond.instanceMethod yX6_init]
def wsL_law0_r4 : List Cond := [Cond.code yX6_init cX6_init 2 none, Cond.methodLink RX6 3 objectInit, Cond.classLink RX6 9 RX5, Cond.fieldLink RX6 12 "GloveHouses$PeaceReader" "read" "LGloveHouses$Peace;", Cond.fieldLink RX6 18 "GloveHouses$PeaceReader" "values" "[I", Cond.fieldLink RX6 22 "GloveHouses$PeaceReader" "tape" "LGloveHouses$Tape;", Cond.instanceMethod yX5_init, Cond.code yX5_init cX5_init 1 none, Cond.methodLink RX5 3 objectInit, Cond.fieldLink RX5 9 "GloveHouses$Peace" "house" "[I", Cond.fieldLink RX5 15 "GloveHouses$Peace" "free" "[I", Cond.fieldLink RX5 18 "GloveHouses$Peace" "stuffed" "[I", Cond.fieldLink RX5 21 "GloveHouses$Peace" "after" "[I", Cond.fieldLink RX5 24 "GloveHouses$Peace" "weight" "[I", Cond.fieldLink RX5 27 "GloveHouses$Peace" "need" "[I", Cond.methodLink RX11 27 yX1_init, Cond.instanceMethod yX1_init, Cond.code yX1_init cX1_init 2 none, Cond.methodLink RX1 3 objectInit, Cond.fieldLink RX1 11 "GloveHouses$LawReader" "code" "[I", Cond.fieldLink RX1 17 "GloveHouses$LawReader" "tape" "LGloveHouses$Tape;", Cond.instanceMethod yX2_init, Cond.code yX2_init cX2_init 1 none, Cond.methodLink RX2 3 objectInit]
def wsL_law0_r5 : List Cond := [Cond.fieldLink RX2 9 "GloveHouses$Laws" "holds" "I", Cond.classLink RX2 15 "[[I", Cond.fieldLink RX2 17 "GloveHouses$Laws" "codes" "[[I", Cond.fieldLink RX2 20 "GloveHouses$Laws" "lengths" "[I", Cond.fieldLink RX2 24 "GloveHouses$Laws" "LETTERS" "[C", Cond.fieldLink RX2 28 "GloveHouses$Laws" "letters" "[I", Cond.fieldLink RX2 31 "GloveHouses$Laws" "stack" "[I", Cond.methodLink RX11 48 yX9_init, Cond.instanceMethod yX9_init, Cond.code yX9_init cX9_init 3 none, Cond.methodLink RX9 3 objectInit, Cond.fieldLink RX9 11 "GloveHouses$State" "cells" "[I", Cond.fieldLink RX9 15 "GloveHouses$State" "told" "LGloveHouses$Peace;", Cond.fieldLink RX9 19 "GloveHouses$State" "laws" "LGloveHouses$Laws;", Cond.instanceMethod yX3_init, Cond.code yX3_init cX3_init 1 none, Cond.methodLink RX3 1 objectInit, Cond.fieldLink RX3 9 "GloveHouses$LogBook" "rows" "[I", Cond.instanceMethod yX0_init, Cond.code yX0_init cX0_init 1 none, Cond.methodLink RX0 1 objectInit, Cond.fieldLink RX0 11 "GloveHouses$Acts" "rows" "[I", Cond.methodLink RX11 80 yX8_init, Cond.instanceMethod yX8_init]
def wsL_law0_r6 : List Cond := [Cond.code yX8_init cX8_init 3 none, Cond.methodLink RX8 3 objectInit, Cond.fieldLink RX8 11 "GloveHouses$Sightings" "ones" "[I", Cond.fieldLink RX8 15 "GloveHouses$Sightings" "others" "[I", Cond.fieldLink RX8 18 "GloveHouses$Sightings" "bounds" "[I", Cond.arrayClass .boolean, Cond.fieldLink RX8 21 "GloveHouses$Sightings" "reached" "[Z", Cond.fieldLink RX8 25 "GloveHouses$Sightings" "told" "LGloveHouses$Peace;", Cond.fieldLink RX8 29 "GloveHouses$Sightings" "laws" "LGloveHouses$Laws;", Cond.methodLink RX11 87 yX4_init, Cond.instanceMethod yX4_init, Cond.code yX4_init cX4_init 2 none, Cond.methodLink RX4 3 objectInit, Cond.fieldLink RX4 9 "GloveHouses$Match" "unmet" "[I", Cond.fieldLink RX4 15 "GloveHouses$Match" "rise" "[I", Cond.fieldLink RX4 18 "GloveHouses$Match" "told" "LGloveHouses$Peace;", Cond.instanceMethod yX7_init, Cond.code yX7_init cX7_init 1 none, Cond.methodLink RX7 3 objectInit, Cond.methodLink RL 18 yX12_init, Cond.instanceMethod yX12_init, Cond.code yX12_init cX12_init 1 none, Cond.methodLink RX12 3 objectInit, Cond.fieldLink RX12 9 "GloveHousesModel" "tape" "[I"]
def wsL_law0_r7 : List Cond := [Cond.fieldLink RX12 13 "GloveHousesModel" "code" "[I", Cond.fieldLink RX12 16 "GloveHousesModel" "value" "[I", Cond.fieldLink RX12 19 "GloveHousesModel" "codes" "[I", Cond.fieldLink RX12 22 "GloveHousesModel" "clauses" "[I", Cond.fieldLink RX12 25 "GloveHousesModel" "testFrom" "[I", Cond.fieldLink RX12 28 "GloveHousesModel" "sumFrom" "[I", Cond.fieldLink RX12 31 "GloveHousesModel" "sumTo" "[I", Cond.fieldLink RX12 34 "GloveHousesModel" "letters" "[I", Cond.fieldLink RX12 37 "GloveHousesModel" "stack" "[I", Cond.fieldLink RX12 40 "GloveHousesModel" "readRule" "[I", Cond.fieldLink RX12 43 "GloveHousesModel" "readGlove" "[I", Cond.fieldLink RX12 46 "GloveHousesModel" "readMatter" "[I", Cond.fieldLink RX12 49 "GloveHousesModel" "rule" "[I", Cond.fieldLink RX12 52 "GloveHousesModel" "glove" "[I", Cond.fieldLink RX12 55 "GloveHousesModel" "matter" "[I", Cond.fieldLink RX12 58 "GloveHousesModel" "now" "[I", Cond.fieldLink RX12 61 "GloveHousesModel" "refused" "[I", Cond.fieldLink RX12 64 "GloveHousesModel" "holding" "I", Cond.fieldLink RX12 68 "GloveHousesModel" "spiteful" "I", Cond.fieldLink RX12 71 "GloveHousesModel" "kept" "[I", Cond.fieldLink RX12 74 "GloveHousesModel" "with" "[I", Cond.fieldLink RX12 77 "GloveHousesModel" "aside" "[I", Cond.fieldLink RX12 80 "GloveHousesModel" "noteOne" "[I", Cond.fieldLink RX12 83 "GloveHousesModel" "noteOther" "[I"]
def wsL_law0_r8 : List Cond := [Cond.fieldLink RX12 86 "GloveHousesModel" "noteRise" "[I", Cond.fieldLink RX12 89 "GloveHousesModel" "noteIs" "[Z", Cond.fieldLink RX12 93 "GloveHousesModel" "image" "[I", Cond.methodLink RL 19 yX11_feed, Cond.instanceMethod yX11_feed, Cond.selects RX11 yX11_feed yX11_feed, Cond.code yX11_feed cX11_feed 7 (some .int), Cond.fieldLink RX11 121 "GloveHouses$Tape" "length" "I", Cond.methodLink RX11 117 yX10_bytesOf, Cond.static yX10_bytesOf, Cond.code yX10_bytesOf cX10_bytesOf 3 (some .int), Cond.methodLink RX11 124 yX10_put, Cond.instanceMethod yX10_put, Cond.selects RX10 yX10_put yX10_put, Cond.code yX10_put cX10_put 4 none, Cond.fieldLink RX10 15 "GloveHouses$Tape" "length" "I", Cond.methodLink RL 23 yX12_feed, Cond.instanceMethod yX12_feed, Cond.selects RX12 yX12_feed yX12_feed, Cond.code yX12_feed cX12_feed 9 (some .int), Cond.fieldLink RX12 103 "GloveHousesModel" "size" "I", Cond.methodLink RX12 99 yX12_byteOf, Cond.static yX12_byteOf, Cond.code yX12_byteOf cX12_byteOf 7 (some .int)]
def wsL_law0_r9 : List Cond := [Cond.methodLink RL 24 yX11_end, Cond.instanceMethod yX11_end, Cond.selects RX11 yX11_end yX11_end, Cond.code yX11_end cX11_end 2 (some .boolean), Cond.methodLink RL 28 yX12_end, Cond.instanceMethod yX12_end, Cond.selects RX12 yX12_end yX12_end, Cond.code yX12_end cX12_end 2 (some .boolean), Cond.methodLink RL 29 yX11_fault, Cond.instanceMethod yX11_fault, Cond.selects RX11 yX11_fault yX11_fault, Cond.code yX11_fault cX11_fault 3 (some .int), Cond.fieldLink RX11 133 "GloveHouses$Tape" "at" "I", Cond.methodLink RX11 128 yX6_readsAll, Cond.instanceMethod yX6_readsAll, Cond.selects RX6 yX6_readsAll yX6_readsAll, Cond.code yX6_readsAll cX6_readsAll 2 (some .boolean), Cond.fieldLink RX6 26 "GloveHouses$Tape" "at" "I", Cond.fieldLink RX6 32 "GloveHouses$PeaceReader" "ruled" "Z", Cond.fieldLink RX6 36 "GloveHouses$Peace" "gloves" "I", Cond.fieldLink RX6 39 "GloveHouses$Peace" "matters" "I", Cond.fieldLink RX6 42 "GloveHouses$PeaceReader" "USUAL" "[I", Cond.fieldLink RX6 45 "GloveHouses$Peace" "pride" "I", Cond.fieldLink RX6 48 "GloveHouses$Peace" "coins" "I"]
def wsL_law0_r10 : List Cond := [Cond.methodLink RX6 51 yX6_readsClause, Cond.instanceMethod yX6_readsClause, Cond.selects RX6 yX6_readsClause yX6_readsClause, Cond.code yX6_readsClause cX6_readsClause 2 (some .boolean), Cond.methodLink RX6 55 yX10_sign, Cond.instanceMethod yX10_sign, Cond.selects RX10 yX10_sign yX10_sign, Cond.code yX10_sign cX10_sign 1 (some .int), Cond.fieldLink RX10 19 "GloveHouses$Tape" "at" "I", Cond.methodLink RX6 67 yX6_kindOf, Cond.static yX6_kindOf, Cond.code yX6_kindOf cX6_kindOf 1 (some .int), Cond.methodLink RX6 70 yX6_isTooMany, Cond.instanceMethod yX6_isTooMany, Cond.selects RX6 yX6_isTooMany yX6_isTooMany, Cond.code yX6_isTooMany cX6_isTooMany 2 (some .boolean), Cond.methodLink RX6 73 yX6_readsItems, Cond.instanceMethod yX6_readsItems, Cond.selects RX6 yX6_readsItems yX6_readsItems, Cond.code yX6_readsItems cX6_readsItems 6 (some .boolean), Cond.methodLink RX6 80 arraycopyName, Cond.native arraycopyName, Cond.static arraycopyName, Cond.initialized "java/lang/System"]
def wsL_law0_r11 : List Cond := [Cond.methodLink RX6 86 yX6_itemOf, Cond.static yX6_itemOf, Cond.code yX6_itemOf cX6_itemOf 3 (some .int), Cond.fieldLink RX6 94 "GloveHouses$PeaceReader" "LETTERS" "[C", Cond.methodLink RX6 90 yX6_readsValue, Cond.instanceMethod yX6_readsValue, Cond.selects RX6 yX6_readsValue yX6_readsValue, Cond.code yX6_readsValue cX6_readsValue 4 (some .boolean), Cond.fieldLink RX6 101 "GloveHouses$PeaceReader" "MOST" "[I", Cond.methodLink RX6 98 yX10_number, Cond.instanceMethod yX10_number, Cond.selects RX10 yX10_number yX10_number, Cond.code yX10_number cX10_number 4 (some .int), Cond.methodLink RX10 22 yX10_sign, Cond.methodLink RX10 26 yX10_isAtDigit, Cond.instanceMethod yX10_isAtDigit, Cond.selects RX10 yX10_isAtDigit yX10_isAtDigit, Cond.code yX10_isAtDigit cX10_isAtDigit 1 (some .boolean), Cond.methodLink RX6 76 yX6_keep, Cond.instanceMethod yX6_keep, Cond.selects RX6 yX6_keep yX6_keep, Cond.code yX6_keep cX6_keep 2 none, Cond.fieldLink RX6 104 "GloveHouses$Peace" "house" "[I", Cond.fieldLink RX6 107 "GloveHouses$Peace" "free" "[I"]
def wsL_law0_r12 : List Cond := [Cond.fieldLink RX6 110 "GloveHouses$Peace" "stuffed" "[I", Cond.fieldLink RX6 113 "GloveHouses$Peace" "after" "[I", Cond.fieldLink RX6 116 "GloveHouses$Peace" "weight" "[I", Cond.fieldLink RX6 119 "GloveHouses$Peace" "need" "[I", Cond.methodLink RX6 59 yX5_sizeOf, Cond.instanceMethod yX5_sizeOf, Cond.selects RX5 yX5_sizeOf yX5_sizeOf, Cond.code yX5_sizeOf cX5_sizeOf 4 (some .int), Cond.fieldLink RX5 30 "GloveHouses$Peace" "gloves" "I", Cond.methodLink RX6 63 yX10_take, Cond.instanceMethod yX10_take, Cond.selects RX10 yX10_take yX10_take, Cond.code yX10_take cX10_take 2 (some .boolean), Cond.methodLink RX11 132 yX1_readsAll, Cond.instanceMethod yX1_readsAll, Cond.selects RX1 yX1_readsAll yX1_readsAll, Cond.code yX1_readsAll cX1_readsAll 2 (some .boolean), Cond.fieldLink RX1 21 "GloveHouses$Tape" "at" "I", Cond.fieldLink RX1 27 "GloveHouses$LawReader" "size" "I", Cond.methodLink RX1 30 yX1_readsClause, Cond.instanceMethod yX1_readsClause, Cond.selects RX1 yX1_readsClause yX1_readsClause, Cond.code yX1_readsClause cX1_readsClause 3 (some .boolean), Cond.methodLink RX1 38 yX10_take]
def wsL_law0_r13 : List Cond := [Cond.methodLink RX1 34 yX10_sign, Cond.methodLink RX1 42 yX1_readsCondition, Cond.instanceMethod yX1_readsCondition, Cond.selects RX1 yX1_readsCondition yX1_readsCondition, Cond.code yX1_readsCondition cX1_readsCondition 2 (some .boolean), Cond.methodLink RX1 64 yX1_readsUnit, Cond.instanceMethod yX1_readsUnit, Cond.selects RX1 yX1_readsUnit yX1_readsUnit, Cond.methodLink RX1 55 yX1_readsMoreUnits, Cond.instanceMethod yX1_readsMoreUnits, Cond.selects RX1 yX1_readsMoreUnits yX1_readsMoreUnits, Cond.methodLink RX1 58 yX1_readsMoreTruths, Cond.instanceMethod yX1_readsMoreTruths, Cond.selects RX1 yX1_readsMoreTruths yX1_readsMoreTruths, Cond.code yX1_readsMoreTruths cX1_readsMoreTruths 3 (some .boolean), Cond.methodLink RX1 61 yX1_put, Cond.instanceMethod yX1_put, Cond.selects RX1 yX1_put yX1_put, Cond.code yX1_put cX1_put 2 (some .boolean), Cond.code yX1_readsMoreUnits cX1_readsMoreUnits 3 (some .boolean), Cond.code yX1_readsUnit cX1_readsUnit 3 (some .boolean), Cond.methodLink RX1 45 yX1_readsSum, Cond.instanceMethod yX1_readsSum, Cond.selects RX1 yX1_readsSum yX1_readsSum]
def wsL_law0_r14 : List Cond := [Cond.code yX1_readsSum cX1_readsSum 4 (some .boolean), Cond.methodLink RX1 67 yX1_readsTerm, Cond.instanceMethod yX1_readsTerm, Cond.selects RX1 yX1_readsTerm yX1_readsTerm, Cond.code yX1_readsAtom cX1_readsAtom 5 (some .boolean), Cond.methodLink RX1 73 yX2_letter, Cond.static yX2_letter, Cond.code yX2_letter cX2_letter 2 (some .int), Cond.methodLink RX1 76 yX10_number, Cond.code yX1_readsTerm cX1_readsTerm 4 (some .boolean), Cond.methodLink RX1 70 yX1_readsAtom, Cond.instanceMethod yX1_readsAtom, Cond.selects RX1 yX1_readsAtom yX1_readsAtom, Cond.methodLink RX1 52 yX1_readsComparison, Cond.instanceMethod yX1_readsComparison, Cond.selects RX1 yX1_readsComparison yX1_readsComparison, Cond.code yX1_readsComparison cX1_readsComparison 3 (some .boolean), Cond.methodLink RX1 48 yX1_comparison, Cond.static yX1_comparison, Cond.code yX1_comparison cX1_comparison 1 (some .int), Cond.methodLink RL 33 yX12_fault, Cond.instanceMethod yX12_fault, Cond.selects RX12 yX12_fault yX12_fault, Cond.code yX12_fault cX12_fault 2 (some .int)]
def wsL_law0_r15 : List Cond := [Cond.methodLink RX12 246 yX12_readPeace, Cond.instanceMethod yX12_readPeace, Cond.selects RX12 yX12_readPeace yX12_readPeace, Cond.code yX12_readPeace cX12_readPeace 4 (some .int), Cond.fieldLink RX12 106 "GloveHousesModel" "at" "I", Cond.fieldLink RX12 113 "GloveHousesModel" "wrong" "I", Cond.fieldLink RX12 232 "GloveHousesModel" "readGloves" "I", Cond.fieldLink RX12 235 "GloveHousesModel" "readMatters" "I", Cond.methodLink RX12 215 yX12_usual, Cond.static yX12_usual, Cond.code yX12_usual cX12_usual 2 (some .int), Cond.methodLink RX12 125 yX12_look, Cond.instanceMethod yX12_look, Cond.selects RX12 yX12_look yX12_look, Cond.code yX12_look cX12_look 1 (some .int), Cond.methodLink RX12 109 yX12_here, Cond.instanceMethod yX12_here, Cond.selects RX12 yX12_here yX12_here, Cond.code yX12_here cX12_here 1 (some .int), Cond.methodLink RX12 238 yX12_items, Cond.instanceMethod yX12_items, Cond.selects RX12 yX12_items yX12_items, Cond.code yX12_items cX12_items 7 none, Cond.methodLink RX12 219 yX12_itemOf]
def wsL_law0_r16 : List Cond := [Cond.static yX12_itemOf, Cond.code yX12_itemOf cX12_itemOf 2 (some .int), Cond.methodLink RX12 222 yX12_has, Cond.static yX12_has, Cond.code yX12_has cX12_has 2 (some .boolean), Cond.methodLink RX12 226 yX12_highest, Cond.static yX12_highest, Cond.code yX12_highest cX12_highest 2 (some .int), Cond.methodLink RX12 229 yX12_number, Cond.instanceMethod yX12_number, Cond.selects RX12 yX12_number yX12_number, Cond.code yX12_number cX12_number 4 (some .int), Cond.methodLink RX12 128 yX12_isDigit, Cond.static yX12_isDigit, Cond.code yX12_isDigit cX12_isDigit 1 (some .boolean), Cond.methodLink RX12 122 yX12_bad, Cond.instanceMethod yX12_bad, Cond.selects RX12 yX12_bad yX12_bad, Cond.code yX12_bad cX12_bad 1 none, Cond.methodLink RX12 211 yX12_in, Cond.static yX12_in, Cond.code yX12_in cX12_in 3 (some .boolean), Cond.methodLink RX12 242 yX12_isWhole, Cond.instanceMethod yX12_isWhole]
def wsL_law0_r17 : List Cond := [Cond.selects RX12 yX12_isWhole yX12_isWhole, Cond.code yX12_isWhole cX12_isWhole 3 (some .boolean), Cond.methodLink RX12 249 yX12_readLaw, Cond.instanceMethod yX12_readLaw, Cond.selects RX12 yX12_readLaw yX12_readLaw, Cond.code yX12_readLaw cX12_readLaw 2 (some .int), Cond.methodLink RX12 177 yX12_open, Cond.instanceMethod yX12_open, Cond.selects RX12 yX12_open yX12_open, Cond.code yX12_open cX12_open 2 none, Cond.fieldLink RX12 116 "GloveHousesModel" "text" "I", Cond.fieldLink RX12 119 "GloveHousesModel" "deep" "I", Cond.methodLink RX12 180 yX12_clause, Cond.instanceMethod yX12_clause, Cond.selects RX12 yX12_clause yX12_clause, Cond.code yX12_clause cX12_clause 3 none, Cond.methodLink RX12 165 yX12_condition, Cond.instanceMethod yX12_condition, Cond.selects RX12 yX12_condition yX12_condition, Cond.code yX12_condition cX12_condition 1 none, Cond.methodLink RX12 162 yX12_unit, Cond.instanceMethod yX12_unit, Cond.selects RX12 yX12_unit yX12_unit, Cond.methodLink RX12 171 yX12_goOnAnd]
def wsL_law0_r18 : List Cond := [Cond.instanceMethod yX12_goOnAnd, Cond.selects RX12 yX12_goOnAnd yX12_goOnAnd, Cond.methodLink RX12 174 yX12_goOnOr, Cond.instanceMethod yX12_goOnOr, Cond.selects RX12 yX12_goOnOr yX12_goOnOr, Cond.code yX12_goOnAnd cX12_goOnAnd 1 none, Cond.methodLink RX12 135 yX12_put, Cond.instanceMethod yX12_put, Cond.selects RX12 yX12_put yX12_put, Cond.code yX12_put cX12_put 3 none, Cond.code yX12_goOnOr cX12_goOnOr 1 none, Cond.code yX12_unit cX12_unit 2 none, Cond.methodLink RX12 143 yX12_opens, Cond.instanceMethod yX12_opens, Cond.selects RX12 yX12_opens yX12_opens, Cond.code yX12_opens cX12_opens 1 none, Cond.methodLink RX12 149 yX12_closes, Cond.instanceMethod yX12_closes, Cond.selects RX12 yX12_closes yX12_closes, Cond.code yX12_closes cX12_closes 2 none, Cond.methodLink RX12 146 yX12_sum, Cond.instanceMethod yX12_sum, Cond.selects RX12 yX12_sum yX12_sum, Cond.code yX12_sum cX12_sum 2 none]
def wsL_law0_r19 : List Cond := [Cond.methodLink RX12 156 yX12_term, Cond.instanceMethod yX12_term, Cond.selects RX12 yX12_term yX12_term, Cond.code yX12_atom cX12_atom 2 none, Cond.methodLink RX12 132 yX12_plainNumber, Cond.instanceMethod yX12_plainNumber, Cond.selects RX12 yX12_plainNumber yX12_plainNumber, Cond.code yX12_plainNumber cX12_plainNumber 3 (some .int), Cond.methodLink RX12 139 yX12_letterOf, Cond.static yX12_letterOf, Cond.code yX12_letterOf cX12_letterOf 1 (some .int), Cond.code yX12_term cX12_term 2 none, Cond.methodLink RX12 153 yX12_atom, Cond.instanceMethod yX12_atom, Cond.selects RX12 yX12_atom yX12_atom, Cond.methodLink RX12 168 yX12_compare, Cond.instanceMethod yX12_compare, Cond.selects RX12 yX12_compare yX12_compare, Cond.code yX12_compare cX12_compare 2 none, Cond.methodLink RX12 159 yX12_isSign, Cond.static yX12_isSign, Cond.code yX12_isSign cX12_isSign 1 (some .boolean), Cond.methodLink RX12 183 yX12_atEnd, Cond.instanceMethod yX12_atEnd]
def wsL_law0_r20 : List Cond := [Cond.selects RX12 yX12_atEnd yX12_atEnd, Cond.code yX12_atEnd cX12_atEnd 1 (some .int), Cond.methodLink RL 34 yX11_text, Cond.instanceMethod yX11_text, Cond.selects RX11 yX11_text yX11_text, Cond.code yX11_text cX11_text 2 (some .int), Cond.methodLink RX11 136 yX11_takePeace, Cond.instanceMethod yX11_takePeace, Cond.selects RX11 yX11_takePeace yX11_takePeace, Cond.code yX11_takePeace cX11_takePeace 1 (some .int), Cond.fieldLink RX11 393 "GloveHouses$PeaceReader" "read" "LGloveHouses$Peace;", Cond.fieldLink RX11 309 "GloveHouses$Sightings" "size" "I", Cond.fieldLink RX11 269 "GloveHouses$Peace" "gloves" "I", Cond.methodLink RX11 395 yX5_copyFrom, Cond.instanceMethod yX5_copyFrom, Cond.selects RX5 yX5_copyFrom yX5_copyFrom, Cond.code yX5_copyFrom cX5_copyFrom 2 none, Cond.fieldLink RX5 34 "GloveHouses$Peace" "matters" "I", Cond.fieldLink RX5 37 "GloveHouses$Peace" "pride" "I", Cond.fieldLink RX5 40 "GloveHouses$Peace" "coins" "I", Cond.methodLink RX5 43 arraycopyName, Cond.methodLink RX11 397 yX9_begin, Cond.instanceMethod yX9_begin, Cond.selects RX9 yX9_begin yX9_begin]
def wsL_law0_r21 : List Cond := [Cond.code yX9_begin cX9_begin 2 none, Cond.fieldLink RX9 29 "GloveHouses$Peace" "free" "[I", Cond.fieldLink RX9 34 "GloveHouses$Peace" "stuffed" "[I", Cond.fieldLink RX9 37 "GloveHouses$Peace" "pride" "I", Cond.fieldLink RX9 41 "GloveHouses$Peace" "coins" "I", Cond.methodLink RX11 379 yX0_forget, Cond.instanceMethod yX0_forget, Cond.selects RX0 yX0_forget yX0_forget, Cond.code yX0_forget cX0_forget 1 none, Cond.fieldLink RX0 28 "GloveHouses$Acts" "size" "I", Cond.methodLink RX11 140 yX2_isFull, Cond.instanceMethod yX2_isFull, Cond.selects RX2 yX2_isFull yX2_isFull, Cond.code yX2_isFull cX2_isFull 1 (some .boolean), Cond.fieldLink RX2 34 "GloveHouses$Laws" "size" "I", Cond.methodLink RX11 143 yX11_takeLaw, Cond.instanceMethod yX11_takeLaw, Cond.selects RX11 yX11_takeLaw yX11_takeLaw, Cond.code yX11_takeLaw cX11_takeLaw 1 (some .int), Cond.fieldLink RX11 400 "GloveHouses$LawReader" "code" "[I", Cond.fieldLink RX11 403 "GloveHouses$LawReader" "size" "I", Cond.fieldLink RX11 204 "GloveHouses$Laws" "size" "I", Cond.methodLink RX11 404 yX2_add, Cond.instanceMethod yX2_add]
def wsL_law0_r22 : List Cond := [Cond.selects RX2 yX2_add yX2_add, Cond.code yX2_add cX2_add 3 none, Cond.methodLink RX2 41 arraycopyName, Cond.methodLink RX2 37 yX2_isFull, Cond.methodLink RL 37 yX12_text, Cond.instanceMethod yX12_text, Cond.selects RX12 yX12_text yX12_text, Cond.code yX12_text cX12_text 2 (some .int), Cond.fieldLink RX12 274 "GloveHousesModel" "laws" "I", Cond.methodLink RX12 271 yX12_takePeace, Cond.instanceMethod yX12_takePeace, Cond.selects RX12 yX12_takePeace yX12_takePeace, Cond.code yX12_takePeace cX12_takePeace 2 (some .int), Cond.fieldLink RX12 252 "GloveHousesModel" "gloves" "I", Cond.fieldLink RX12 255 "GloveHousesModel" "matters" "I", Cond.fieldLink RX12 261 "GloveHousesModel" "noted" "I", Cond.fieldLink RX12 264 "GloveHousesModel" "acts" "I", Cond.fieldLink RX12 267 "GloveHousesModel" "hasImage" "Z", Cond.methodLink RX12 258 yX12_of, Cond.instanceMethod yX12_of, Cond.selects RX12 yX12_of yX12_of, Cond.code yX12_of cX12_of 3 (some .int), Cond.methodLink RL 38 yX11_rule, Cond.instanceMethod yX11_rule]
def wsL_law0_r23 : List Cond := [Cond.selects RX11 yX11_rule yX11_rule, Cond.code yX11_rule cX11_rule 2 (some .int), Cond.methodLink RX11 146 yX11_noPeace, Cond.instanceMethod yX11_noPeace, Cond.selects RX11 yX11_noPeace yX11_noPeace, Cond.code yX11_noPeace cX11_noPeace 1 (some .boolean), Cond.methodLink RX11 149 yX9_pride, Cond.instanceMethod yX9_pride, Cond.selects RX9 yX9_pride yX9_pride, Cond.code yX9_pride cX9_pride 1 (some .int), Cond.methodLink RX11 152 yX9_coins, Cond.instanceMethod yX9_coins, Cond.selects RX9 yX9_coins yX9_coins, Cond.code yX9_coins cX9_coins 1 (some .int), Cond.methodLink RL 41 yX12_rule, Cond.instanceMethod yX12_rule, Cond.selects RX12 yX12_rule yX12_rule, Cond.code yX12_rule cX12_rule 2 (some .int), Cond.methodLink RL 42 yL_glove, Cond.static yL_glove, Cond.initialized RL, Cond.codeWith yL_glove cL_glove 5 (some .int) [(0, 10, 13, 13)], Cond.classLink RL 13 "java/util/NoSuchElementException", Cond.methodLink RL 7 yX11_glove]
def wsL_law0_r24 : List Cond := [Cond.instanceMethod yX11_glove, Cond.selects RX11 yX11_glove yX11_glove, Cond.code yX11_glove cX11_glove 3 (some .int), Cond.classLink RX11 159 "java/util/NoSuchElementException", Cond.initialized "java/util/NoSuchElementException", Cond.fieldLink RX11 166 "GloveHouses$Peace" "house" "[I", Cond.fieldLink RX11 175 "GloveHouses$Peace" "after" "[I", Cond.methodLink RX11 155 yX5_hasGlove, Cond.instanceMethod yX5_hasGlove, Cond.selects RX5 yX5_hasGlove yX5_hasGlove, Cond.code yX5_hasGlove cX5_hasGlove 2 (some .boolean), Cond.methodLink RX11 169 yX9_free, Cond.instanceMethod yX9_free, Cond.selects RX9 yX9_free yX9_free, Cond.code yX9_free cX9_free 2 (some .int), Cond.methodLink RX11 172 yX9_stuffed, Cond.instanceMethod yX9_stuffed, Cond.selects RX9 yX9_stuffed yX9_stuffed, Cond.code yX9_stuffed cX9_stuffed 2 (some .int), Cond.methodLink RX11 178 yX9_hasMet, Cond.instanceMethod yX9_hasMet, Cond.selects RX9 yX9_hasMet yX9_hasMet, Cond.code yX9_hasMet cX9_hasMet 2 (some .boolean), Cond.methodLink RX11 181 yX9_knows]
def wsL_law0_r25 : List Cond := [Cond.instanceMethod yX9_knows, Cond.selects RX9 yX9_knows yX9_knows, Cond.code yX9_knows cX9_knows 2 (some .int), Cond.methodLink RL 47 yX12_glove, Cond.instanceMethod yX12_glove, Cond.selects RX12 yX12_glove yX12_glove, Cond.code yX12_glove cX12_glove 3 (some .int), Cond.fieldLink RX12 96 "GloveHousesModel" "thrown" "I", Cond.methodLink RX12 277 yX12_isGlove, Cond.instanceMethod yX12_isGlove, Cond.selects RX12 yX12_isGlove yX12_isGlove, Cond.code yX12_isGlove cX12_isGlove 2 (some .boolean), Cond.methodLink RX12 313 yX12_isFree, Cond.instanceMethod yX12_isFree, Cond.selects RX12 yX12_isFree yX12_isFree, Cond.code yX12_isFree cX12_isFree 2 (some .boolean), Cond.methodLink RL 48 yX11_matter, Cond.instanceMethod yX11_matter, Cond.selects RX11 yX11_matter yX11_matter, Cond.code yX11_matter cX11_matter 3 (some .int), Cond.fieldLink RX11 190 "GloveHouses$Peace" "weight" "[I", Cond.fieldLink RX11 193 "GloveHouses$Peace" "need" "[I", Cond.methodLink RX11 184 yX5_hasMatter, Cond.instanceMethod yX5_hasMatter]
def wsL_law0_r26 : List Cond := [Cond.selects RX5 yX5_hasMatter yX5_hasMatter, Cond.code yX5_hasMatter cX5_hasMatter 2 (some .boolean), Cond.methodLink RX11 187 yX9_signers, Cond.instanceMethod yX9_signers, Cond.selects RX9 yX9_signers yX9_signers, Cond.code yX9_signers cX9_signers 2 (some .int), Cond.methodLink RL 51 yX12_matter, Cond.instanceMethod yX12_matter, Cond.selects RX12 yX12_matter yX12_matter, Cond.code yX12_matter cX12_matter 3 (some .int), Cond.methodLink RX12 331 yX12_isMatter, Cond.instanceMethod yX12_isMatter, Cond.selects RX12 yX12_isMatter yX12_isMatter, Cond.code yX12_isMatter cX12_isMatter 2 (some .boolean), Cond.methodLink RL 52 yX11_warmth, Cond.instanceMethod yX11_warmth, Cond.selects RX11 yX11_warmth yX11_warmth, Cond.code yX11_warmth cX11_warmth 3 (some .int), Cond.methodLink RX11 196 yX5_unlike, Cond.instanceMethod yX5_unlike, Cond.selects RX5 yX5_unlike yX5_unlike, Cond.code yX5_unlike cX5_unlike 3 (some .boolean), Cond.methodLink RX5 49 yX5_hasGlove, Cond.methodLink RX11 200 yX9_warmthOf]
def wsL_law0_r27 : List Cond := [Cond.instanceMethod yX9_warmthOf, Cond.selects RX9 yX9_warmthOf yX9_warmthOf, Cond.code yX9_warmthOf cX9_warmthOf 3 (some .int), Cond.methodLink RX9 50 yX9_placeOf, Cond.static yX9_placeOf, Cond.code yX9_placeOf cX9_placeOf 2 (some .int), Cond.methodLink RL 55 yX12_warmth, Cond.instanceMethod yX12_warmth, Cond.selects RX12 yX12_warmth yX12_warmth, Cond.code yX12_warmth cX12_warmth 3 (some .int), Cond.methodLink RX12 316 yX12_areTwo, Cond.instanceMethod yX12_areTwo, Cond.selects RX12 yX12_areTwo yX12_areTwo, Cond.code yX12_areTwo cX12_areTwo 3 (some .boolean), Cond.methodLink RX12 294 yX12_pairAt, Cond.static yX12_pairAt, Cond.code yX12_pairAt cX12_pairAt 2 (some .int), Cond.methodLink RX12 280 Lib.Math.min.name, Cond.static Lib.Math.min.name, Cond.initialized "java/lang/Math", Cond.code Lib.Math.min.name Lib.Math.min.code 2 (some .int), Cond.methodLink RX12 282 Lib.Math.max.name, Cond.static Lib.Math.max.name, Cond.code Lib.Math.max.name Lib.Math.max.code 2 (some .int)]
def wsL_law0_r28 : List Cond := [Cond.methodLink RL 56 yX11_law, Cond.instanceMethod yX11_law, Cond.selects RX11 yX11_law yX11_law, Cond.code yX11_law cX11_law 2 (some .boolean), Cond.fieldLink RX11 207 "GloveHouses$Laws" "holds" "I", Cond.methodLink RL 59 yX12_law, Cond.instanceMethod yX12_law, Cond.selects RX12 yX12_law yX12_law, Cond.code yX12_law cX12_law 2 (some .boolean), Cond.methodLink RL 60 yX11_meets, Cond.instanceMethod yX11_meets, Cond.selects RX11 yX11_meets yX11_meets, Cond.code yX11_meets cX11_meets 3 (some .int), Cond.methodLink RX11 210 yX11_refuse, Cond.instanceMethod yX11_refuse, Cond.selects RX11 yX11_refuse yX11_refuse, Cond.code yX11_refuse cX11_refuse 2 (some .int), Cond.methodLink RX11 213 yX0_keep, Cond.instanceMethod yX0_keep, Cond.selects RX0 yX0_keep yX0_keep, Cond.code yX0_keep cX0_keep 2 none, Cond.fieldLink RX0 15 "GloveHouses$State" "cells" "[I", Cond.fieldLink RX0 18 "GloveHouses$Acts" "next" "I", Cond.methodLink RX0 22 arraycopyName]
def wsL_law0_r29 : List Cond := [Cond.methodLink RX0 31 Lib.Math.min.name, Cond.methodLink RX11 217 yX9_pay, Cond.instanceMethod yX9_pay, Cond.selects RX9 yX9_pay yX9_pay, Cond.code yX9_pay cX9_pay 2 none, Cond.methodLink RX11 220 yX9_meet, Cond.instanceMethod yX9_meet, Cond.selects RX9 yX9_meet yX9_meet, Cond.code yX9_meet cX9_meet 4 none, Cond.methodLink RX9 53 yX9_warmthOf, Cond.methodLink RX9 83 yX9_warmer, Cond.instanceMethod yX9_warmer, Cond.selects RX9 yX9_warmer yX9_warmer, Cond.code yX9_warmer cX9_warmer 6 (some .int), Cond.methodLink RX9 44 Lib.Math.min.name, Cond.methodLink RX9 80 Lib.Math.max.name, Cond.methodLink RX9 56 yX9_day, Cond.instanceMethod yX9_day, Cond.selects RX9 yX9_day yX9_day, Cond.code yX9_day cX9_day 1 (some .int), Cond.methodLink RX9 60 yX9_riseAt, Cond.instanceMethod yX9_riseAt, Cond.selects RX9 yX9_riseAt yX9_riseAt, Cond.code yX9_riseAt cX9_riseAt 5 (some .int)]
def wsL_law0_r30 : List Cond := [Cond.methodLink RX9 64 yX9_free, Cond.methodLink RX9 67 yX9_stuffed, Cond.methodLink RX9 69 yX5_sameAim, Cond.instanceMethod yX5_sameAim, Cond.selects RX5 yX5_sameAim yX5_sameAim, Cond.code yX5_sameAim cX5_sameAim 3 (some .int), Cond.methodLink RX9 72 yX9_pride, Cond.methodLink RX9 74 yX2_riseBy, Cond.instanceMethod yX2_riseBy, Cond.selects RX2 yX2_riseBy yX2_riseBy, Cond.code yX2_riseBy cX2_riseBy 8 (some .int), Cond.methodLink RX2 51 Lib.Math.min.name, Cond.methodLink RX2 57 Lib.Math.max.name, Cond.methodLink RX2 47 yX2_worth, Cond.instanceMethod yX2_worth, Cond.selects RX2 yX2_worth yX2_worth, Cond.code yX2_worth cX2_worth 6 (some .int), Cond.methodLink RX2 60 yX2_endOfClause, Cond.static yX2_endOfClause, Cond.code yX2_endOfClause cX2_endOfClause 4 (some .int), Cond.methodLink RX2 64 yX2_combine, Cond.static yX2_combine, Cond.code yX2_combine cX2_combine 7 (some .int), Cond.constantLong RX2 68 (1000000)]
def wsL_law0_r31 : List Cond := [Cond.constant RX2 70 (1000000), Cond.constantLong RX2 71 (-1000000), Cond.constant RX2 73 (-1000000), Cond.methodLink RX9 86 yX9_knows, Cond.methodLink RX9 89 yX9_signLowest, Cond.instanceMethod yX9_signLowest, Cond.selects RX9 yX9_signLowest yX9_signLowest, Cond.code yX9_signLowest cX9_signLowest 4 none, Cond.fieldLink RX9 93 "GloveHouses$Peace" "matters" "I", Cond.fieldLink RX9 99 "GloveHouses$Peace" "need" "[I", Cond.methodLink RX9 96 yX9_signers, Cond.methodLink RL 63 yX12_meets, Cond.instanceMethod yX12_meets, Cond.selects RX12 yX12_meets yX12_meets, Cond.code yX12_meets cX12_meets 3 (some .int), Cond.methodLink RX12 334 yX12_isRefused, Cond.instanceMethod yX12_isRefused, Cond.selects RX12 yX12_isRefused yX12_isRefused, Cond.code yX12_isRefused cX12_isRefused 2 (some .boolean), Cond.methodLink RX12 337 yX12_keep, Cond.instanceMethod yX12_keep, Cond.selects RX12 yX12_keep yX12_keep, Cond.code yX12_keep cX12_keep 2 none, Cond.methodLink RX12 340 yX12_meetNow]
def wsL_law0_r32 : List Cond := [Cond.instanceMethod yX12_meetNow, Cond.selects RX12 yX12_meetNow yX12_meetNow, Cond.code yX12_meetNow cX12_meetNow 5 none, Cond.methodLink RX12 304 yX12_riseOf, Cond.instanceMethod yX12_riseOf, Cond.selects RX12 yX12_riseOf yX12_riseOf, Cond.code yX12_riseOf cX12_riseOf 3 (some .int), Cond.methodLink RX12 297 yX12_riseFrom, Cond.instanceMethod yX12_riseFrom, Cond.selects RX12 yX12_riseFrom yX12_riseFrom, Cond.code yX12_riseFrom cX12_riseFrom 5 (some .int), Cond.methodLink RX12 287 yX12_areAllies, Cond.instanceMethod yX12_areAllies, Cond.selects RX12 yX12_areAllies yX12_areAllies, Cond.code yX12_areAllies cX12_areAllies 3 (some .boolean), Cond.methodLink RX12 290 yX12_riseBy, Cond.instanceMethod yX12_riseBy, Cond.selects RX12 yX12_riseBy yX12_riseBy, Cond.code yX12_riseBy cX12_riseBy 8 (some .int), Cond.methodLink RX12 284 yX12_worthOf, Cond.instanceMethod yX12_worthOf, Cond.selects RX12 yX12_worthOf yX12_worthOf, Cond.code yX12_worthOf cX12_worthOf 3 (some .int), Cond.methodLink RX12 207 yX12_workOut]
def wsL_law0_r33 : List Cond := [Cond.instanceMethod yX12_workOut, Cond.selects RX12 yX12_workOut yX12_workOut, Cond.code yX12_workOut cX12_workOut 6 (some .int), Cond.methodLink RX12 203 yX12_worked, Cond.static yX12_worked, Cond.code yX12_worked cX12_worked 5 (some .int), Cond.methodLink RX12 199 yX12_bounded, Cond.static yX12_bounded, Cond.code yX12_bounded cX12_bounded 2 (some .int), Cond.constantLong RX12 186 (-1000000), Cond.constantLong RX12 188 (1000000), Cond.methodLink RX12 190 Lib.MathLoose.min_long.x, Cond.static Lib.MathLoose.min_long.x, Cond.code Lib.MathLoose.min_long.x Lib.MathLoose.min_long.code 4 (some .long), Cond.methodLink RX12 196 Lib.MathLoose.max_long.x, Cond.static Lib.MathLoose.max_long.x, Cond.code Lib.MathLoose.max_long.x Lib.MathLoose.max_long.code 4 (some .long), Cond.methodLink RX12 307 yX12_held, Cond.static yX12_held, Cond.code yX12_held cX12_held 1 (some .int), Cond.methodLink RX12 310 yX12_signNow, Cond.instanceMethod yX12_signNow, Cond.selects RX12 yX12_signNow yX12_signNow, Cond.code yX12_signNow cX12_signNow 4 none]
def wsL_law0_r34 : List Cond := [Cond.methodLink RX12 301 yX12_codeOf, Cond.static yX12_codeOf, Cond.code yX12_codeOf cX12_codeOf 2 (some .int), Cond.methodLink RL 64 yX11_loosen, Cond.instanceMethod yX11_loosen, Cond.selects RX11 yX11_loosen yX11_loosen, Cond.code yX11_loosen cX11_loosen 2 (some .int), Cond.methodLink RX11 224 yX9_setFree, Cond.instanceMethod yX9_setFree, Cond.selects RX9 yX9_setFree yX9_setFree, Cond.code yX9_setFree cX9_setFree 3 none, Cond.methodLink RL 67 yX12_loosen, Cond.instanceMethod yX12_loosen, Cond.selects RX12 yX12_loosen yX12_loosen, Cond.code yX12_loosen cX12_loosen 2 (some .int), Cond.methodLink RL 68 yX11_stuff, Cond.instanceMethod yX11_stuff, Cond.selects RX11 yX11_stuff yX11_stuff, Cond.code yX11_stuff cX11_stuff 4 (some .int), Cond.methodLink RX11 227 yX9_setStuffed, Cond.instanceMethod yX9_setStuffed, Cond.selects RX9 yX9_setStuffed yX9_setStuffed, Cond.code yX9_setStuffed cX9_setStuffed 3 none, Cond.methodLink RL 71 yX12_stuff]
def wsL_law0_r35 : List Cond := [Cond.instanceMethod yX12_stuff, Cond.selects RX12 yX12_stuff yX12_stuff, Cond.code yX12_stuff cX12_stuff 4 (some .int), Cond.methodLink RL 72 yX11_swallow, Cond.instanceMethod yX11_swallow, Cond.selects RX11 yX11_swallow yX11_swallow, Cond.code yX11_swallow cX11_swallow 1 (some .int), Cond.methodLink RX11 230 yX9_setPride, Cond.instanceMethod yX9_setPride, Cond.selects RX9 yX9_setPride yX9_setPride, Cond.code yX9_setPride cX9_setPride 2 none, Cond.methodLink RL 76 yX12_swallow, Cond.instanceMethod yX12_swallow, Cond.selects RX12 yX12_swallow yX12_swallow, Cond.code yX12_swallow cX12_swallow 1 (some .int), Cond.methodLink RL 77 yX11_tear, Cond.instanceMethod yX11_tear, Cond.selects RX11 yX11_tear yX11_tear, Cond.code yX11_tear cX11_tear 2 (some .int), Cond.methodLink RX11 233 yX9_tearUp, Cond.instanceMethod yX9_tearUp, Cond.selects RX9 yX9_tearUp yX9_tearUp, Cond.code yX9_tearUp cX9_tearUp 2 none, Cond.methodLink RX11 236 yX9_growProud]
def wsL_law0_r36 : List Cond := [Cond.instanceMethod yX9_growProud, Cond.selects RX9 yX9_growProud yX9_growProud, Cond.code yX9_growProud cX9_growProud 1 none, Cond.methodLink RL 80 yX12_tear, Cond.instanceMethod yX12_tear, Cond.selects RX12 yX12_tear yX12_tear, Cond.code yX12_tear cX12_tear 2 (some .int), Cond.methodLink RL 81 yX11_give, Cond.instanceMethod yX11_give, Cond.selects RX11 yX11_give yX11_give, Cond.code yX11_give cX11_give 2 (some .int), Cond.methodLink RL 84 yX12_give, Cond.instanceMethod yX12_give, Cond.selects RX12 yX12_give yX12_give, Cond.code yX12_give cX12_give 2 (some .int), Cond.methodLink RL 85 yX11_days, Cond.instanceMethod yX11_days, Cond.selects RX11 yX11_days yX11_days, Cond.code yX11_days cX11_days 3 (some .int), Cond.methodLink RX11 239 yX9_day, Cond.methodLink RX11 242 yX11_passDay, Cond.instanceMethod yX11_passDay, Cond.selects RX11 yX11_passDay yX11_passDay, Cond.code yX11_passDay cX11_passDay 1 none]
def wsL_law0_r37 : List Cond := [Cond.methodLink RX11 295 yX9_cool, Cond.instanceMethod yX9_cool, Cond.selects RX9 yX9_cool yX9_cool, Cond.code yX9_cool cX9_cool 4 none, Cond.fieldLink RX9 102 "GloveHouses$Peace" "gloves" "I", Cond.methodLink RX11 346 yX9_metBits, Cond.instanceMethod yX9_metBits, Cond.selects RX9 yX9_metBits yX9_metBits, Cond.code yX9_metBits cX9_metBits 3 (some .int), Cond.methodLink RX9 115 yX9_hasMet, Cond.methodLink RX11 388 yJ6_bitCount_0f7a4, Cond.static yJ6_bitCount_0f7a4, Cond.initialized RJ6, Cond.code yJ6_bitCount_0f7a4 cJ6_bitCount_0f7a4 1 (some .int), Cond.constant RJ6 265 (1431655765), Cond.constant RJ6 266 (858993459), Cond.constant RJ6 267 (252645135), Cond.methodLink RX11 407 yX9_signedToday, Cond.instanceMethod yX9_signedToday, Cond.selects RX9 yX9_signedToday yX9_signedToday, Cond.code yX9_signedToday cX9_signedToday 1 (some .int), Cond.methodLink RX11 385 yX9_warmthOfAll, Cond.instanceMethod yX9_warmthOfAll, Cond.selects RX9 yX9_warmthOfAll yX9_warmthOfAll]
def wsL_law0_r38 : List Cond := [Cond.code yX9_warmthOfAll cX9_warmthOfAll 3 (some .int), Cond.methodLink RX11 410 yX3_write, Cond.instanceMethod yX3_write, Cond.selects RX3 yX3_write yX3_write, Cond.code yX3_write cX3_write 6 none, Cond.methodLink RX11 298 yX9_dawn, Cond.instanceMethod yX9_dawn, Cond.selects RX9 yX9_dawn yX9_dawn, Cond.code yX9_dawn cX9_dawn 2 none, Cond.methodLink RL 88 yX12_days, Cond.instanceMethod yX12_days, Cond.selects RX12 yX12_days yX12_days, Cond.code yX12_days cX12_days 3 (some .int), Cond.methodLink RX12 343 yX12_areDays, Cond.instanceMethod yX12_areDays, Cond.selects RX12 yX12_areDays yX12_areDays, Cond.code yX12_areDays cX12_areDays 2 (some .boolean), Cond.methodLink RX12 346 yX12_passDay, Cond.instanceMethod yX12_passDay, Cond.selects RX12 yX12_passDay yX12_passDay, Cond.code yX12_passDay cX12_passDay 4 none, Cond.methodLink RX12 322 yX12_metMany, Cond.instanceMethod yX12_metMany, Cond.selects RX12 yX12_metMany yX12_metMany]
def wsL_law0_r39 : List Cond := [Cond.code yX12_metMany cX12_metMany 3 (some .int), Cond.methodLink RX12 325 yX12_live, Cond.instanceMethod yX12_live, Cond.selects RX12 yX12_live yX12_live, Cond.code yX12_live cX12_live 2 none, Cond.methodLink RX12 319 yX12_cool, Cond.instanceMethod yX12_cool, Cond.selects RX12 yX12_cool yX12_cool, Cond.code yX12_cool cX12_cool 3 none, Cond.methodLink RX12 328 yX12_warmthOfAll, Cond.instanceMethod yX12_warmthOfAll, Cond.selects RX12 yX12_warmthOfAll yX12_warmthOfAll, Cond.code yX12_warmthOfAll cX12_warmthOfAll 3 (some .int), Cond.methodLink RL 89 yX11_spite, Cond.instanceMethod yX11_spite, Cond.selects RX11 yX11_spite yX11_spite, Cond.code yX11_spite cX11_spite 2 (some .boolean), Cond.methodLink RL 92 yX12_spite, Cond.instanceMethod yX12_spite, Cond.selects RX12 yX12_spite yX12_spite, Cond.code yX12_spite cX12_spite 2 (some .boolean), Cond.methodLink RL 95 yX11_years, Cond.instanceMethod yX11_years, Cond.selects RX11 yX11_years yX11_years]
def wsL_law0_r40 : List Cond := [Cond.code yX11_years cX11_years 5 (some .int), Cond.methodLink RX11 245 yX11_drawMeeting, Cond.instanceMethod yX11_drawMeeting, Cond.selects RX11 yX11_drawMeeting yX11_drawMeeting, Cond.code yX11_drawMeeting cX11_drawMeeting 3 none, Cond.methodLink RX11 248 yX11_draw, Cond.instanceMethod yX11_draw, Cond.selects RX11 yX11_draw yX11_draw, Cond.code yX11_draw cX11_draw 2 (some .int), Cond.constantLong RX11 414 (6364136223846793005), Cond.constantLong RX11 416 (1442695040888963407), Cond.methodLink RL 99 yX12_years, Cond.instanceMethod yX12_years, Cond.selects RX12 yX12_years yX12_years, Cond.code yX12_years cX12_years 5 (some .int), Cond.fieldLink RX12 349 "GloveHousesModel" "draws" "J", Cond.methodLink RX12 360 yX12_drawDay, Cond.instanceMethod yX12_drawDay, Cond.selects RX12 yX12_drawDay yX12_drawDay, Cond.code yX12_drawDay cX12_drawDay 4 none, Cond.methodLink RX12 357 yX12_draw, Cond.instanceMethod yX12_draw, Cond.selects RX12 yX12_draw yX12_draw, Cond.code yX12_draw cX12_draw 2 (some .int)]
def wsL_law0_r41 : List Cond := [Cond.constantLong RX12 353 (6364136223846793005), Cond.constantLong RX12 355 (1442695040888963407), Cond.methodLink RL 100 yX11_status, Cond.instanceMethod yX11_status, Cond.selects RX11 yX11_status yX11_status, Cond.code yX11_status cX11_status 2 (some .int), Cond.methodLink RL 103 yX12_status, Cond.instanceMethod yX12_status, Cond.selects RX12 yX12_status yX12_status, Cond.code yX12_status cX12_status 2 (some .int), Cond.methodLink RL 104 yX11_undo, Cond.instanceMethod yX11_undo, Cond.selects RX11 yX11_undo yX11_undo, Cond.code yX11_undo cX11_undo 1 (some .int), Cond.fieldLink RX11 251 "GloveHouses$Acts" "size" "I", Cond.methodLink RX11 252 yX0_takeBack, Cond.instanceMethod yX0_takeBack, Cond.selects RX0 yX0_takeBack yX0_takeBack, Cond.code yX0_takeBack cX0_takeBack 2 none, Cond.methodLink RL 107 yX12_undo, Cond.instanceMethod yX12_undo, Cond.selects RX12 yX12_undo yX12_undo, Cond.code yX12_undo cX12_undo 2 (some .int), Cond.methodLink RL 108 yX11_log]
def wsL_law0_r42 : List Cond := [Cond.instanceMethod yX11_log, Cond.selects RX11 yX11_log yX11_log, Cond.code yX11_log cX11_log 3 (some .int), Cond.methodLink RX11 255 yX3_lengthOn, Cond.static yX3_lengthOn, Cond.code yX3_lengthOn cX3_lengthOn 1 (some .int), Cond.methodLink RX3 13 Lib.Math.min.name, Cond.methodLink RX11 258 yX3_read, Cond.instanceMethod yX3_read, Cond.selects RX3 yX3_read yX3_read, Cond.code yX3_read cX3_read 3 (some .int), Cond.methodLink RL 111 yX12_log, Cond.instanceMethod yX12_log, Cond.selects RX12 yX12_log yX12_log, Cond.code yX12_log cX12_log 3 (some .int), Cond.methodLink RL 112 yX11_rises, Cond.instanceMethod yX11_rises, Cond.selects RX11 yX11_rises yX11_rises, Cond.code yX11_rises cX11_rises 3 (some .int), Cond.constant RX11 264 (-1000000), Cond.methodLink RX11 261 yX9_riseOf, Cond.instanceMethod yX9_riseOf, Cond.selects RX9 yX9_riseOf yX9_riseOf, Cond.code yX9_riseOf cX9_riseOf 3 (some .int)]
def wsL_law0_r43 : List Cond := [Cond.methodLink RL 115 yX12_rises, Cond.instanceMethod yX12_rises, Cond.selects RX12 yX12_rises yX12_rises, Cond.code yX12_rises cX12_rises 3 (some .int), Cond.constant RX12 363 (-1000000), Cond.methodLink RL 116 yX11_later, Cond.instanceMethod yX11_later, Cond.selects RX11 yX11_later yX11_later, Cond.code yX11_later cX11_later 6 (some .int), Cond.methodLink RX11 265 yX9_warmer, Cond.methodLink RL 120 yX12_later, Cond.instanceMethod yX12_later, Cond.selects RX12 yX12_later yX12_later, Cond.code yX12_later cX12_later 6 (some .int), Cond.methodLink RL 121 yX11_soonest, Cond.instanceMethod yX11_soonest, Cond.selects RX11 yX11_soonest yX11_soonest, Cond.code yX11_soonest cX11_soonest 8 (some .int), Cond.methodLink RX11 272 yX11_daysUntil, Cond.instanceMethod yX11_daysUntil, Cond.selects RX11 yX11_daysUntil yX11_daysUntil, Cond.code yX11_daysUntil cX11_daysUntil 6 (some .int), Cond.methodLink RL 124 yX12_soonest, Cond.instanceMethod yX12_soonest]
def wsL_law0_r44 : List Cond := [Cond.selects RX12 yX12_soonest yX12_soonest, Cond.code yX12_soonest cX12_soonest 8 (some .int), Cond.methodLink RX12 364 yX12_daysTo, Cond.instanceMethod yX12_daysTo, Cond.selects RX12 yX12_daysTo yX12_daysTo, Cond.code yX12_daysTo cX12_daysTo 6 (some .int), Cond.methodLink RL 125 yX11_pairs, Cond.instanceMethod yX11_pairs, Cond.selects RX11 yX11_pairs yX11_pairs, Cond.code yX11_pairs cX11_pairs 2 (some .int), Cond.fieldLink RX11 279 "GloveHouses$Match" "bestSum" "I", Cond.fieldLink RX11 282 "GloveHouses$Match" "size" "I", Cond.fieldLink RX11 283 "GloveHouses$Match" "bestRow" "I", Cond.methodLink RX11 276 yX4_solve, Cond.instanceMethod yX4_solve, Cond.selects RX4 yX4_solve yX4_solve, Cond.code yX4_solve cX4_solve 4 none, Cond.fieldLink RX4 22 "GloveHouses$Match" "size" "I", Cond.fieldLink RX4 26 "GloveHouses$Peace" "gloves" "I", Cond.fieldLink RX4 31 "GloveHouses$Peace" "house" "[I", Cond.fieldLink RX4 48 "GloveHouses$Match" "found" "Z", Cond.methodLink RX4 34 yX9_hasMet, Cond.methodLink RX4 40 yX5_unlike, Cond.methodLink RX4 44 yX9_riseOf]
def wsL_law0_r45 : List Cond := [Cond.methodLink RX4 52 yX9_metBits, Cond.methodLink RX4 56 yX4_search, Cond.instanceMethod yX4_search, Cond.selects RX4 yX4_search yX4_search, Cond.code yX4_search cX4_search 6 none, Cond.fieldLink RX4 60 "GloveHouses$Match" "bestSum" "I", Cond.fieldLink RX4 63 "GloveHouses$Match" "bestRow" "I", Cond.methodLink RL 128 yX12_pairs, Cond.instanceMethod yX12_pairs, Cond.selects RX12 yX12_pairs yX12_pairs, Cond.code yX12_pairs cX12_pairs 2 (some .int), Cond.fieldLink RX12 370 "GloveHousesModel" "bestRise" "I", Cond.fieldLink RX12 373 "GloveHousesModel" "bestRow" "I", Cond.methodLink RX12 380 yX12_layPairs, Cond.instanceMethod yX12_layPairs, Cond.selects RX12 yX12_layPairs yX12_layPairs, Cond.code yX12_layPairs cX12_layPairs 1 none, Cond.fieldLink RX12 367 "GloveHousesModel" "isFound" "Z", Cond.methodLink RX12 376 yX12_tryPairs, Cond.instanceMethod yX12_tryPairs, Cond.selects RX12 yX12_tryPairs yX12_tryPairs, Cond.code yX12_tryPairs cX12_tryPairs 6 none, Cond.methodLink RX12 383 yX12_freeOfFirst, Cond.instanceMethod yX12_freeOfFirst]
def wsL_law0_r46 : List Cond := [Cond.selects RX12 yX12_freeOfFirst yX12_freeOfFirst, Cond.code yX12_freeOfFirst cX12_freeOfFirst 3 (some .int), Cond.methodLink RL 129 yX11_allKnow, Cond.instanceMethod yX11_allKnow, Cond.selects RX11 yX11_allKnow yX11_allKnow, Cond.code yX11_allKnow cX11_allKnow 2 (some .int), Cond.methodLink RX11 286 yX9_copyFrom, Cond.instanceMethod yX9_copyFrom, Cond.selects RX9 yX9_copyFrom yX9_copyFrom, Cond.code yX9_copyFrom cX9_copyFrom 2 none, Cond.methodLink RX9 23 arraycopyName, Cond.methodLink RX11 289 yX9_allKnown, Cond.instanceMethod yX9_allKnown, Cond.selects RX9 yX9_allKnown yX9_allKnown, Cond.code yX9_allKnown cX9_allKnown 2 (some .boolean), Cond.methodLink RX11 292 yX4_perform, Cond.instanceMethod yX4_perform, Cond.selects RX4 yX4_perform yX4_perform, Cond.code yX4_perform cX4_perform 4 none, Cond.methodLink RX4 66 yX9_meet, Cond.methodLink RL 132 yX12_allKnow, Cond.instanceMethod yX12_allKnow, Cond.selects RX12 yX12_allKnow yX12_allKnow, Cond.code yX12_allKnow cX12_allKnow 4 (some .int)]
def wsL_law0_r47 : List Cond := [Cond.methodLink RX12 386 yX12_doAllKnow, Cond.instanceMethod yX12_doAllKnow, Cond.selects RX12 yX12_doAllKnow yX12_doAllKnow, Cond.code yX12_doAllKnow cX12_doAllKnow 3 (some .boolean), Cond.methodLink RX12 389 yX12_meetPairs, Cond.instanceMethod yX12_meetPairs, Cond.selects RX12 yX12_meetPairs yX12_meetPairs, Cond.code yX12_meetPairs cX12_meetPairs 4 none, Cond.methodLink RL 133 yX11_seen, Cond.instanceMethod yX11_seen, Cond.selects RX11 yX11_seen yX11_seen, Cond.code yX11_seen cX11_seen 5 (some .int), Cond.methodLink RX11 301 yX11_isNoRise, Cond.static yX11_isNoRise, Cond.code yX11_isNoRise cX11_isNoRise 1 (some .boolean), Cond.methodLink RX11 304 yX8_isFull, Cond.instanceMethod yX8_isFull, Cond.selects RX8 yX8_isFull yX8_isFull, Cond.code yX8_isFull cX8_isFull 1 (some .boolean), Cond.fieldLink RX8 33 "GloveHouses$Sightings" "size" "I", Cond.methodLink RX11 305 yX8_add, Cond.instanceMethod yX8_add, Cond.selects RX8 yX8_add yX8_add, Cond.code yX8_add cX8_add 5 none]
def wsL_law0_r48 : List Cond := [Cond.methodLink RL 137 yX12_seen, Cond.instanceMethod yX12_seen, Cond.selects RX12 yX12_seen yX12_seen, Cond.code yX12_seen cX12_seen 5 (some .int), Cond.methodLink RL 138 yX11_fits, Cond.instanceMethod yX11_fits, Cond.selects RX11 yX11_fits yX11_fits, Cond.code yX11_fits cX11_fits 5 (some .int), Cond.methodLink RX11 310 yX8_allow, Cond.instanceMethod yX8_allow, Cond.selects RX8 yX8_allow yX8_allow, Cond.code yX8_allow cX8_allow 5 (some .boolean), Cond.methodLink RX8 58 yX8_reaches, Cond.instanceMethod yX8_reaches, Cond.selects RX8 yX8_reaches yX8_reaches, Cond.code yX8_reaches cX8_reaches 5 (some .boolean), Cond.fieldLink RX8 37 "GloveHouses$Peace" "free" "[I", Cond.fieldLink RX8 42 "GloveHouses$Peace" "stuffed" "[I", Cond.fieldLink RX8 49 "GloveHouses$Peace" "pride" "I", Cond.methodLink RX8 45 yX5_sameAim, Cond.methodLink RX8 52 yX2_riseBy, Cond.methodLink RL 141 yX12_fits, Cond.instanceMethod yX12_fits, Cond.selects RX12 yX12_fits yX12_fits]
def wsL_law0_r49 : List Cond := [Cond.code yX12_fits cX12_fits 5 (some .int), Cond.methodLink RX12 395 yX12_isFreedom, Cond.instanceMethod yX12_isFreedom, Cond.selects RX12 yX12_isFreedom yX12_isFreedom, Cond.code yX12_isFreedom cX12_isFreedom 5 (some .boolean), Cond.methodLink RX12 392 yX12_toldRise, Cond.instanceMethod yX12_toldRise, Cond.selects RX12 yX12_toldRise yX12_toldRise, Cond.code yX12_toldRise cX12_toldRise 4 (some .int), Cond.methodLink RL 142 yX11_ask, Cond.instanceMethod yX11_ask, Cond.selects RX11 yX11_ask yX11_ask, Cond.code yX11_ask cX11_ask 8 (some .int), Cond.methodLink RX11 313 yX8_fitting, Cond.instanceMethod yX8_fitting, Cond.selects RX8 yX8_fitting yX8_fitting, Cond.code yX8_fitting cX8_fitting 4 (some .int), Cond.methodLink RX8 62 yX8_allow, Cond.methodLink RX11 316 yX8_gap, Cond.instanceMethod yX8_gap, Cond.selects RX8 yX8_gap yX8_gap, Cond.code yX8_gap cX8_gap 7 (some .int), Cond.methodLink RX8 66 Lib.Math.abs.name, Cond.static Lib.Math.abs.name]
def wsL_law0_r50 : List Cond := [Cond.code Lib.Math.abs.name Lib.Math.abs.code 1 (some .int), Cond.methodLink RL 145 yX12_ask, Cond.instanceMethod yX12_ask, Cond.selects RX12 yX12_ask yX12_ask, Cond.code yX12_ask cX12_ask 8 (some .int), Cond.methodLink RX12 401 Lib.Math.abs.name, Cond.methodLink RX12 398 yX12_fits, Cond.methodLink RL 146 yX11_game, Cond.instanceMethod yX11_game, Cond.selects RX11 yX11_game yX11_game, Cond.code yX11_game cX11_game 6 (some .int), Cond.methodLink RX11 319 yX5_nth, Cond.instanceMethod yX5_nth, Cond.selects RX5 yX5_nth yX5_nth, Cond.code yX5_nth cX5_nth 5 (some .int), Cond.methodLink RX11 322 yX9_gains, Cond.instanceMethod yX9_gains, Cond.selects RX9 yX9_gains yX9_gains, Cond.code yX9_gains cX9_gains 3 (some .int), Cond.methodLink RX9 105 yX5_hasGlove, Cond.methodLink RX9 109 yX9_riseOf, Cond.methodLink RL 149 yX12_game, Cond.instanceMethod yX12_game, Cond.selects RX12 yX12_game yX12_game]
def wsL_law0_r51 : List Cond := [Cond.code yX12_game cX12_game 4 (some .int), Cond.methodLink RX12 407 yX12_gameOf, Cond.instanceMethod yX12_gameOf, Cond.selects RX12 yX12_gameOf yX12_gameOf, Cond.code yX12_gameOf cX12_gameOf 7 (some .int), Cond.methodLink RX12 404 yX12_gloveOf, Cond.instanceMethod yX12_gloveOf, Cond.selects RX12 yX12_gloveOf yX12_gloveOf, Cond.code yX12_gloveOf cX12_gloveOf 5 (some .int), Cond.methodLink RL 150 yX11_sure, Cond.instanceMethod yX11_sure, Cond.selects RX11 yX11_sure yX11_sure, Cond.code yX11_sure cX11_sure 4 (some .int), Cond.methodLink RX11 328 Lib.Math.max.name, Cond.methodLink RX11 325 yX11_leastGain, Cond.instanceMethod yX11_leastGain, Cond.selects RX11 yX11_leastGain yX11_leastGain, Cond.code yX11_leastGain cX11_leastGain 4 (some .int), Cond.methodLink RX11 418 Lib.Math.min.name, Cond.methodLink RL 153 yX12_sure, Cond.instanceMethod yX12_sure, Cond.selects RX12 yX12_sure yX12_sure, Cond.code yX12_sure cX12_sure 4 (some .int), Cond.methodLink RX12 410 yX12_manyOf]
def wsL_law0_r52 : List Cond := [Cond.instanceMethod yX12_manyOf, Cond.selects RX12 yX12_manyOf yX12_manyOf, Cond.code yX12_manyOf cX12_manyOf 4 (some .int), Cond.methodLink RX12 413 yX12_leastOf, Cond.instanceMethod yX12_leastOf, Cond.selects RX12 yX12_leastOf yX12_leastOf, Cond.code yX12_leastOf cX12_leastOf 5 (some .int), Cond.methodLink RL 154 yX11_rests, Cond.instanceMethod yX11_rests, Cond.selects RX11 yX11_rests yX11_rests, Cond.code yX11_rests cX11_rests 5 (some .int), Cond.methodLink RX11 333 yX5_sizeOf, Cond.methodLink RX11 336 yX11_isRest, Cond.instanceMethod yX11_isRest, Cond.selects RX11 yX11_isRest yX11_isRest, Cond.code yX11_isRest cX11_isRest 7 (some .boolean), Cond.methodLink RL 157 yX12_rests, Cond.instanceMethod yX12_rests, Cond.selects RX12 yX12_rests yX12_rests, Cond.code yX12_rests cX12_rests 5 (some .int), Cond.methodLink RX12 416 yX12_isRest, Cond.instanceMethod yX12_isRest, Cond.selects RX12 yX12_isRest yX12_isRest, Cond.code yX12_isRest cX12_isRest 5 (some .boolean)]
def wsL_law0_r53 : List Cond := [Cond.methodLink RL 158 yX11_odds, Cond.instanceMethod yX11_odds, Cond.selects RX11 yX11_odds yX11_odds, Cond.code yX11_odds cX11_odds 6 (some .int), Cond.methodLink RX11 339 yX7_partsWarm, Cond.instanceMethod yX7_partsWarm, Cond.selects RX7 yX7_partsWarm yX7_partsWarm, Cond.code yX7_partsWarm cX7_partsWarm 6 (some .int), Cond.fieldLink RX7 9 "GloveHouses$Quarrels" "state" "LGloveHouses$State;", Cond.fieldLink RX7 15 "GloveHouses$Quarrels" "pair" "I", Cond.fieldLink RX7 19 "GloveHouses$Quarrels" "need" "I", Cond.fieldLink RX7 22 "GloveHouses$Quarrels" "meetings" "I", Cond.fieldLink RX7 25 "GloveHouses$Quarrels" "chance" "I", Cond.constant RX7 28 (1000000000), Cond.methodLink RX7 29 yX9_warmthOf, Cond.methodLink RX7 35 yX7_split, Cond.instanceMethod yX7_split, Cond.selects RX7 yX7_split yX7_split, Cond.code yX7_split cX7_split 6 (some .int), Cond.constantLong RX7 39 (100), Cond.methodLink RX7 41 yX9_warmer, Cond.methodLink RX7 45 yX7_behind, Cond.instanceMethod yX7_behind, Cond.selects RX7 yX7_behind yX7_behind]
def wsL_law0_r54 : List Cond := [Cond.code yX7_behind cX7_behind 4 (some .int), Cond.methodLink RL 161 yX12_odds, Cond.instanceMethod yX12_odds, Cond.selects RX12 yX12_odds yX12_odds, Cond.code yX12_odds cX12_odds 6 (some .int), Cond.constant RX12 425 (1000000000), Cond.methodLink RX12 421 yX12_oddsFrom, Cond.instanceMethod yX12_oddsFrom, Cond.selects RX12 yX12_oddsFrom yX12_oddsFrom, Cond.code yX12_oddsFrom cX12_oddsFrom 14 (some .int), Cond.constantLong RX12 419 (100), Cond.methodLink RL 162 yX11_shares, Cond.instanceMethod yX11_shares, Cond.selects RX11 yX11_shares yX11_shares, Cond.code yX11_shares cX11_shares 4 (some .int), Cond.methodLink RX11 343 yX9_freeOf, Cond.instanceMethod yX9_freeOf, Cond.selects RX9 yX9_freeOf yX9_freeOf, Cond.code yX9_freeOf cX9_freeOf 4 (some .int), Cond.fieldLink RX9 112 "GloveHouses$Peace" "house" "[I", Cond.methodLink RL 165 yX12_shares, Cond.instanceMethod yX12_shares, Cond.selects RX12 yX12_shares yX12_shares, Cond.code yX12_shares cX12_shares 6 (some .int)]
def wsL_law0_r55 : List Cond := [Cond.methodLink RL 166 yX11_most, Cond.instanceMethod yX11_most, Cond.selects RX11 yX11_most yX11_most, Cond.code yX11_most cX11_most 2 (some .int), Cond.methodLink RX11 349 yX9_signedBits, Cond.instanceMethod yX9_signedBits, Cond.selects RX9 yX9_signedBits yX9_signedBits, Cond.code yX9_signedBits cX9_signedBits 3 (some .int), Cond.methodLink RX11 352 yX9_warmestPair, Cond.instanceMethod yX9_warmestPair, Cond.selects RX9 yX9_warmestPair yX9_warmestPair, Cond.code yX9_warmestPair cX9_warmestPair 1 (some .int), Cond.methodLink RX9 118 yX9_pairMost, Cond.instanceMethod yX9_pairMost, Cond.selects RX9 yX9_pairMost yX9_pairMost, Cond.code yX9_pairMost cX9_pairMost 5 (some .int), Cond.methodLink RX9 121 yX5_unlike, Cond.methodLink RX11 355 yX9_coldestPair, Cond.instanceMethod yX9_coldestPair, Cond.selects RX9 yX9_coldestPair yX9_coldestPair, Cond.code yX9_coldestPair cX9_coldestPair 1 (some .int), Cond.methodLink RX11 358 yX9_freest, Cond.instanceMethod yX9_freest, Cond.selects RX9 yX9_freest yX9_freest]
def wsL_law0_r56 : List Cond := [Cond.code yX9_freest cX9_freest 1 (some .int), Cond.methodLink RX9 125 yX9_gloveMost, Cond.instanceMethod yX9_gloveMost, Cond.selects RX9 yX9_gloveMost yX9_gloveMost, Cond.code yX9_gloveMost cX9_gloveMost 4 (some .int), Cond.methodLink RX11 361 yX9_stiffest, Cond.instanceMethod yX9_stiffest, Cond.selects RX9 yX9_stiffest yX9_stiffest, Cond.code yX9_stiffest cX9_stiffest 1 (some .int), Cond.methodLink RX11 364 yX5_heaviest, Cond.instanceMethod yX5_heaviest, Cond.selects RX5 yX5_heaviest yX5_heaviest, Cond.code yX5_heaviest cX5_heaviest 4 (some .int), Cond.methodLink RX11 367 yX9_bound, Cond.instanceMethod yX9_bound, Cond.selects RX9 yX9_bound yX9_bound, Cond.code yX9_bound cX9_bound 3 (some .int), Cond.fieldLink RX9 128 "GloveHouses$Peace" "weight" "[I", Cond.methodLink RX11 370 yX9_dueBits, Cond.instanceMethod yX9_dueBits, Cond.selects RX9 yX9_dueBits yX9_dueBits, Cond.code yX9_dueBits cX9_dueBits 5 (some .int), Cond.methodLink RX9 131 yX9_warmestPair, Cond.methodLink RL 169 yX12_most]
def wsL_law0_r57 : List Cond := [Cond.instanceMethod yX12_most, Cond.selects RX12 yX12_most yX12_most, Cond.code yX12_most cX12_most 2 (some .int), Cond.methodLink RX12 426 yX12_metSet, Cond.instanceMethod yX12_metSet, Cond.selects RX12 yX12_metSet yX12_metSet, Cond.code yX12_metSet cX12_metSet 3 (some .int), Cond.methodLink RX12 429 yX12_signedSet, Cond.instanceMethod yX12_signedSet, Cond.selects RX12 yX12_signedSet yX12_signedSet, Cond.code yX12_signedSet cX12_signedSet 3 (some .int), Cond.methodLink RX12 432 yX12_topPair, Cond.instanceMethod yX12_topPair, Cond.selects RX12 yX12_topPair yX12_topPair, Cond.code yX12_topPair cX12_topPair 6 (some .int), Cond.methodLink RX12 435 yX12_topGlove, Cond.instanceMethod yX12_topGlove, Cond.selects RX12 yX12_topGlove yX12_topGlove, Cond.code yX12_topGlove cX12_topGlove 4 (some .int), Cond.methodLink RX12 438 yX12_heaviest, Cond.instanceMethod yX12_heaviest, Cond.selects RX12 yX12_heaviest yX12_heaviest, Cond.code yX12_heaviest cX12_heaviest 3 (some .int), Cond.methodLink RX12 441 yX12_bound]
def wsL_law0_r58 : List Cond := [Cond.instanceMethod yX12_bound, Cond.selects RX12 yX12_bound yX12_bound, Cond.code yX12_bound cX12_bound 3 (some .int), Cond.methodLink RX12 444 yX12_due, Cond.instanceMethod yX12_due, Cond.selects RX12 yX12_due yX12_due, Cond.code yX12_due cX12_due 4 (some .int), Cond.methodLink RL 170 yX11_allies, Cond.instanceMethod yX11_allies, Cond.selects RX11 yX11_allies yX11_allies, Cond.code yX11_allies cX11_allies 4 (some .int), Cond.methodLink RX11 373 yX5_sameAim, Cond.methodLink RL 173 yX12_allies, Cond.instanceMethod yX12_allies, Cond.selects RX12 yX12_allies yX12_allies, Cond.code yX12_allies cX12_allies 4 (some .int), Cond.methodLink RL 174 yX11_image, Cond.instanceMethod yX11_image, Cond.selects RX11 yX11_image yX11_image, Cond.code yX11_image cX11_image 1 (some .int), Cond.methodLink RX11 376 yX3_copyFrom, Cond.instanceMethod yX3_copyFrom, Cond.selects RX3 yX3_copyFrom yX3_copyFrom, Cond.code yX3_copyFrom cX3_copyFrom 2 none]
def wsL_law0_r59 : List Cond := [Cond.methodLink RX3 19 arraycopyName, Cond.methodLink RL 177 yX12_image, Cond.instanceMethod yX12_image, Cond.selects RX12 yX12_image yX12_image, Cond.code yX12_image cX12_image 2 (some .int), Cond.methodLink RL 178 yX11_back, Cond.instanceMethod yX11_back, Cond.selects RX11 yX11_back yX11_back, Cond.code yX11_back cX11_back 1 (some .int), Cond.methodLink RL 181 yX12_back, Cond.instanceMethod yX12_back, Cond.selects RX12 yX12_back yX12_back, Cond.code yX12_back cX12_back 2 (some .int), Cond.methodLink RL 182 yX11_count, Cond.instanceMethod yX11_count, Cond.selects RX11 yX11_count yX11_count, Cond.code yX11_count cX11_count 2 (some .int), Cond.fieldLink RX11 382 "GloveHouses$Peace" "matters" "I", Cond.methodLink RL 185 yX12_count, Cond.instanceMethod yX12_count, Cond.selects RX12 yX12_count yX12_count, Cond.code yX12_count cX12_count 2 (some .int)]
def wsL_law0 : List Cond := (wsL_law0_r1 ++ (wsL_law0_r2 ++ (wsL_law0_r3 ++ (wsL_law0_r4 ++ (wsL_law0_r5 ++ (wsL_law0_r6 ++ (wsL_law0_r7 ++ (wsL_law0_r8 ++ (wsL_law0_r9 ++ (wsL_law0_r10 ++ (wsL_law0_r11 ++ (wsL_law0_r12 ++ (wsL_law0_r13 ++ (wsL_law0_r14 ++ (wsL_law0_r15 ++ (wsL_law0_r16 ++ (wsL_law0_r17 ++ (wsL_law0_r18 ++ (wsL_law0_r19 ++ (wsL_law0_r20 ++ (wsL_law0_r21 ++ (wsL_law0_r22 ++ (wsL_law0_r23 ++ (wsL_law0_r24 ++ (wsL_law0_r25 ++ (wsL_law0_r26 ++ (wsL_law0_r27 ++ (wsL_law0_r28 ++ (wsL_law0_r29 ++ (wsL_law0_r30 ++ (wsL_law0_r31 ++ (wsL_law0_r32 ++ (wsL_law0_r33 ++ (wsL_law0_r34 ++ (wsL_law0_r35 ++ (wsL_law0_r36 ++ (wsL_law0_r37 ++ (wsL_law0_r38 ++ (wsL_law0_r39 ++ (wsL_law0_r40 ++ (wsL_law0_r41 ++ (wsL_law0_r42 ++ (wsL_law0_r43 ++ (wsL_law0_r44 ++ (wsL_law0_r45 ++ (wsL_law0_r46 ++ (wsL_law0_r47 ++ (wsL_law0_r48 ++ (wsL_law0_r49 ++ (wsL_law0_r50 ++ (wsL_law0_r51 ++ (wsL_law0_r52 ++ (wsL_law0_r53 ++ (wsL_law0_r54 ++ (wsL_law0_r55 ++ (wsL_law0_r56 ++ (wsL_law0_r57 ++ (wsL_law0_r58 ++ wsL_law0_r59)))))))))))))))))))))))))))))))))))))))))))))))))))))))))) ++ wsX110 ++ wsX120 ++ wsX100 ++ wsX60 ++ wsX10 ++ wsX50 ++ wsX20 ++ wsX90 ++ wsX30 ++ wsX00 ++ wsX80 ++ wsX40 ++ wsX70 ++ ([] : List Cond)
def wsL_law : List Cond := wsL_law0 ++ (vx_atX RX11 163 "java/util/NoSuchElementException" 13 prog_23_method_4_code ["java/lang/RuntimeException", "java/lang/Exception"]).filter goodWord
def wsX0_init : List Cond := .code yX0_init cX0_init 1 none :: wsL_law
def wsX0_keep : List Cond := .code yX0_keep cX0_keep 2 none :: wsL_law
def wsX0_takeBack : List Cond := .code yX0_takeBack cX0_takeBack 2 none :: wsL_law
def wsX0_forget : List Cond := .code yX0_forget cX0_forget 1 none :: wsL_law
def wsX1_init : List Cond := .code yX1_init cX1_init 2 none :: wsL_law
def wsX10_sign : List Cond := .code yX10_sign cX10_sign 1 (some .int) :: wsL_law
def wsX10_take : List Cond := .code yX10_take cX10_take 2 (some .boolean) :: wsL_law
def wsX1_put : List Cond := .code yX1_put cX1_put 2 (some .boolean) :: wsL_law
def wsX2_letter : List Cond := .code yX2_letter cX2_letter 2 (some .int) :: wsL_law
def wsX10_isAtDigit : List Cond := .code yX10_isAtDigit cX10_isAtDigit 1 (some .boolean) :: wsL_law
def wsX10_number : List Cond := .code yX10_number cX10_number 4 (some .int) :: wsL_law
def wsX1_readsAtom : List Cond := .code yX1_readsAtom cX1_readsAtom 5 (some .boolean) :: wsL_law
def wsX1_readsSum : List Cond := .code yX1_readsSum cX1_readsSum 4 (some .boolean) :: wsL_law
def wsX1_readsTerm : List Cond := .code yX1_readsTerm cX1_readsTerm 4 (some .boolean) :: wsL_law
def wsX1_comparison : List Cond := .code yX1_comparison cX1_comparison 1 (some .int) :: wsL_law
def wsX1_readsComparison : List Cond := .code yX1_readsComparison cX1_readsComparison 3 (some .boolean) :: wsL_law
def wsX1_readsCondition : List Cond := .code yX1_readsCondition cX1_readsCondition 2 (some .boolean) :: wsL_law
def wsX1_readsMoreTruths : List Cond := .code yX1_readsMoreTruths cX1_readsMoreTruths 3 (some .boolean) :: wsL_law
def wsX1_readsMoreUnits : List Cond := .code yX1_readsMoreUnits cX1_readsMoreUnits 3 (some .boolean) :: wsL_law
def wsX1_readsUnit : List Cond := .code yX1_readsUnit cX1_readsUnit 3 (some .boolean) :: wsL_law
def wsX1_readsClause : List Cond := .code yX1_readsClause cX1_readsClause 3 (some .boolean) :: wsL_law
def wsX1_readsAll : List Cond := .code yX1_readsAll cX1_readsAll 2 (some .boolean) :: wsL_law
def wsX2_init : List Cond := .code yX2_init cX2_init 1 none :: wsL_law
def wsX2_isFull : List Cond := .code yX2_isFull cX2_isFull 1 (some .boolean) :: wsL_law
def wsX2_add : List Cond := .code yX2_add cX2_add 3 none :: wsL_law
def wsX2_endOfClause : List Cond := .code yX2_endOfClause cX2_endOfClause 4 (some .int) :: wsL_law
def wsX2_combine : List Cond := .code yX2_combine cX2_combine 7 (some .int) :: wsL_law
def wsX2_worth : List Cond := .code yX2_worth cX2_worth 6 (some .int) :: wsL_law
def wsX2_riseBy : List Cond := .code yX2_riseBy cX2_riseBy 8 (some .int) :: wsL_law
def wsX3_init : List Cond := .code yX3_init cX3_init 1 none :: wsL_law
def wsX3_lengthOn : List Cond := .code yX3_lengthOn cX3_lengthOn 1 (some .int) :: wsL_law
def wsX3_write : List Cond := .code yX3_write cX3_write 6 none :: wsL_law
def wsX3_read : List Cond := .code yX3_read cX3_read 3 (some .int) :: wsL_law
def wsX3_copyFrom : List Cond := .code yX3_copyFrom cX3_copyFrom 2 none :: wsL_law
def wsX4_init : List Cond := .code yX4_init cX4_init 2 none :: wsL_law
def wsX9_hasMet : List Cond := .code yX9_hasMet cX9_hasMet 2 (some .boolean) :: wsL_law
def wsX5_hasGlove : List Cond := .code yX5_hasGlove cX5_hasGlove 2 (some .boolean) :: wsL_law
def wsX5_unlike : List Cond := .code yX5_unlike cX5_unlike 3 (some .boolean) :: wsL_law
def wsX9_placeOf : List Cond := .code yX9_placeOf cX9_placeOf 2 (some .int) :: wsL_law
def wsX9_warmthOf : List Cond := .code yX9_warmthOf cX9_warmthOf 3 (some .int) :: wsL_law
def wsX9_day : List Cond := .code yX9_day cX9_day 1 (some .int) :: wsL_law
def wsX9_free : List Cond := .code yX9_free cX9_free 2 (some .int) :: wsL_law
def wsX9_stuffed : List Cond := .code yX9_stuffed cX9_stuffed 2 (some .int) :: wsL_law
def wsX5_sameAim : List Cond := .code yX5_sameAim cX5_sameAim 3 (some .int) :: wsL_law
def wsX9_pride : List Cond := .code yX9_pride cX9_pride 1 (some .int) :: wsL_law
def wsX9_riseAt : List Cond := .code yX9_riseAt cX9_riseAt 5 (some .int) :: wsL_law
def wsX9_riseOf : List Cond := .code yX9_riseOf cX9_riseOf 3 (some .int) :: wsL_law
def wsX9_metBits : List Cond := .code yX9_metBits cX9_metBits 3 (some .int) :: wsL_law
def wsX4_search : List Cond := .code yX4_search cX4_search 6 none :: wsL_law
def wsX4_solve : List Cond := .code yX4_solve cX4_solve 4 none :: wsL_law
def wsX9_warmer : List Cond := .code yX9_warmer cX9_warmer 6 (some .int) :: wsL_law
def wsX9_knows : List Cond := .code yX9_knows cX9_knows 2 (some .int) :: wsL_law
def wsX9_signers : List Cond := .code yX9_signers cX9_signers 2 (some .int) :: wsL_law
def wsX9_signLowest : List Cond := .code yX9_signLowest cX9_signLowest 4 none :: wsL_law
def wsX9_meet : List Cond := .code yX9_meet cX9_meet 4 none :: wsL_law
def wsX4_perform : List Cond := .code yX4_perform cX4_perform 4 none :: wsL_law
def wsX5_init : List Cond := .code yX5_init cX5_init 1 none :: wsL_law
def wsX5_copyFrom : List Cond := .code yX5_copyFrom cX5_copyFrom 2 none :: wsL_law
def wsX5_hasMatter : List Cond := .code yX5_hasMatter cX5_hasMatter 2 (some .boolean) :: wsL_law
def wsX5_sizeOf : List Cond := .code yX5_sizeOf cX5_sizeOf 4 (some .int) :: wsL_law
def wsX5_nth : List Cond := .code yX5_nth cX5_nth 5 (some .int) :: wsL_law
def wsX5_heaviest : List Cond := .code yX5_heaviest cX5_heaviest 4 (some .int) :: wsL_law
def wsX6_init : List Cond := .code yX6_init cX6_init 2 none :: wsL_law
def wsX6_kindOf : List Cond := .code yX6_kindOf cX6_kindOf 1 (some .int) :: wsL_law
def wsX6_isTooMany : List Cond := .code yX6_isTooMany cX6_isTooMany 2 (some .boolean) :: wsL_law
def wsX6_itemOf : List Cond := .code yX6_itemOf cX6_itemOf 3 (some .int) :: wsL_law
def wsX6_readsValue : List Cond := .code yX6_readsValue cX6_readsValue 4 (some .boolean) :: wsL_law
def wsX6_readsItems : List Cond := .code yX6_readsItems cX6_readsItems 6 (some .boolean) :: wsL_law
def wsX6_keep : List Cond := .code yX6_keep cX6_keep 2 none :: wsL_law
def wsX6_readsClause : List Cond := .code yX6_readsClause cX6_readsClause 2 (some .boolean) :: wsL_law
def wsX6_readsAll : List Cond := .code yX6_readsAll cX6_readsAll 2 (some .boolean) :: wsL_law
def wsX7_init : List Cond := .code yX7_init cX7_init 1 none :: wsL_law
def wsX7_behind : List Cond := .code yX7_behind cX7_behind 4 (some .int) :: wsL_law
def wsX7_split : List Cond := .code yX7_split cX7_split 6 (some .int) :: wsL_law
def wsX7_partsWarm : List Cond := .code yX7_partsWarm cX7_partsWarm 6 (some .int) :: wsL_law
def wsX8_init : List Cond := .code yX8_init cX8_init 3 none :: wsL_law
def wsX8_isFull : List Cond := .code yX8_isFull cX8_isFull 1 (some .boolean) :: wsL_law
def wsX8_add : List Cond := .code yX8_add cX8_add 5 none :: wsL_law
def wsX8_reaches : List Cond := .code yX8_reaches cX8_reaches 5 (some .boolean) :: wsL_law
def wsX8_allow : List Cond := .code yX8_allow cX8_allow 5 (some .boolean) :: wsL_law
def wsX8_fitting : List Cond := .code yX8_fitting cX8_fitting 4 (some .int) :: wsL_law
def wsX8_gap : List Cond := .code yX8_gap cX8_gap 7 (some .int) :: wsL_law
def wsX9_init : List Cond := .code yX9_init cX9_init 3 none :: wsL_law
def wsX9_copyFrom : List Cond := .code yX9_copyFrom cX9_copyFrom 2 none :: wsL_law
def wsX9_begin : List Cond := .code yX9_begin cX9_begin 2 none :: wsL_law
def wsX9_setFree : List Cond := .code yX9_setFree cX9_setFree 3 none :: wsL_law
def wsX9_setStuffed : List Cond := .code yX9_setStuffed cX9_setStuffed 3 none :: wsL_law
def wsX9_tearUp : List Cond := .code yX9_tearUp cX9_tearUp 2 none :: wsL_law
def wsX9_signedToday : List Cond := .code yX9_signedToday cX9_signedToday 1 (some .int) :: wsL_law
def wsX9_setPride : List Cond := .code yX9_setPride cX9_setPride 2 none :: wsL_law
def wsX9_growProud : List Cond := .code yX9_growProud cX9_growProud 1 none :: wsL_law
def wsX9_coins : List Cond := .code yX9_coins cX9_coins 1 (some .int) :: wsL_law
def wsX9_pay : List Cond := .code yX9_pay cX9_pay 2 none :: wsL_law
def wsX9_cool : List Cond := .code yX9_cool cX9_cool 4 none :: wsL_law
def wsX9_dawn : List Cond := .code yX9_dawn cX9_dawn 2 none :: wsL_law
def wsX9_allKnown : List Cond := .code yX9_allKnown cX9_allKnown 2 (some .boolean) :: wsL_law
def wsX9_gains : List Cond := .code yX9_gains cX9_gains 3 (some .int) :: wsL_law
def wsX9_freeOf : List Cond := .code yX9_freeOf cX9_freeOf 4 (some .int) :: wsL_law
def wsX9_warmthOfAll : List Cond := .code yX9_warmthOfAll cX9_warmthOfAll 3 (some .int) :: wsL_law
def wsX9_signedBits : List Cond := .code yX9_signedBits cX9_signedBits 3 (some .int) :: wsL_law
def wsX9_pairMost : List Cond := .code yX9_pairMost cX9_pairMost 5 (some .int) :: wsL_law
def wsX9_warmestPair : List Cond := .code yX9_warmestPair cX9_warmestPair 1 (some .int) :: wsL_law
def wsX9_coldestPair : List Cond := .code yX9_coldestPair cX9_coldestPair 1 (some .int) :: wsL_law
def wsX9_gloveMost : List Cond := .code yX9_gloveMost cX9_gloveMost 4 (some .int) :: wsL_law
def wsX9_freest : List Cond := .code yX9_freest cX9_freest 1 (some .int) :: wsL_law
def wsX9_stiffest : List Cond := .code yX9_stiffest cX9_stiffest 1 (some .int) :: wsL_law
def wsX9_bound : List Cond := .code yX9_bound cX9_bound 3 (some .int) :: wsL_law
def wsX9_dueBits : List Cond := .code yX9_dueBits cX9_dueBits 5 (some .int) :: wsL_law
def wsX10_init : List Cond := .code yX10_init cX10_init 1 none :: wsL_law
def wsX10_bytesOf : List Cond := .code yX10_bytesOf cX10_bytesOf 3 (some .int) :: wsL_law
def wsX10_put : List Cond := .code yX10_put cX10_put 4 none :: wsL_law
def wsX11_init : List Cond := .code yX11_init cX11_init 1 none :: wsL_law
def wsX11_feed : List Cond := .code yX11_feed cX11_feed 7 (some .int) :: wsL_law
def wsX11_end : List Cond := .code yX11_end cX11_end 2 (some .boolean) :: wsL_law
def wsX11_fault : List Cond := .code yX11_fault cX11_fault 3 (some .int) :: wsL_law
def wsX11_takePeace : List Cond := .code yX11_takePeace cX11_takePeace 1 (some .int) :: wsL_law
def wsX11_takeLaw : List Cond := .code yX11_takeLaw cX11_takeLaw 1 (some .int) :: wsL_law
def wsX11_text : List Cond := .code yX11_text cX11_text 2 (some .int) :: wsL_law
def wsX11_noPeace : List Cond := .code yX11_noPeace cX11_noPeace 1 (some .boolean) :: wsL_law
def wsX11_rule : List Cond := .code yX11_rule cX11_rule 2 (some .int) :: wsL_law
def wsX11_glove : List Cond := .code yX11_glove cX11_glove 3 (some .int) :: wsL_law
def wsX11_matter : List Cond := .code yX11_matter cX11_matter 3 (some .int) :: wsL_law
def wsX11_warmth : List Cond := .code yX11_warmth cX11_warmth 3 (some .int) :: wsL_law
def wsX11_law : List Cond := .code yX11_law cX11_law 2 (some .boolean) :: wsL_law
def wsX11_refuse : List Cond := .code yX11_refuse cX11_refuse 2 (some .int) :: wsL_law
def wsX11_meets : List Cond := .code yX11_meets cX11_meets 3 (some .int) :: wsL_law
def wsX11_loosen : List Cond := .code yX11_loosen cX11_loosen 2 (some .int) :: wsL_law
def wsX11_stuff : List Cond := .code yX11_stuff cX11_stuff 4 (some .int) :: wsL_law
def wsX11_swallow : List Cond := .code yX11_swallow cX11_swallow 1 (some .int) :: wsL_law
def wsX11_tear : List Cond := .code yX11_tear cX11_tear 2 (some .int) :: wsL_law
def wsX11_give : List Cond := .code yX11_give cX11_give 2 (some .int) :: wsL_law
def wsJ6_bitCount_0f7a4 : List Cond := .code yJ6_bitCount_0f7a4 cJ6_bitCount_0f7a4 1 (some .int) :: wsL_law
def wsX11_passDay : List Cond := .code yX11_passDay cX11_passDay 1 none :: wsL_law
def wsX11_days : List Cond := .code yX11_days cX11_days 3 (some .int) :: wsL_law
def wsX11_spite : List Cond := .code yX11_spite cX11_spite 2 (some .boolean) :: wsL_law
def wsX11_draw : List Cond := .code yX11_draw cX11_draw 2 (some .int) :: wsL_law
def wsX11_drawMeeting : List Cond := .code yX11_drawMeeting cX11_drawMeeting 3 none :: wsL_law
def wsX11_years : List Cond := .code yX11_years cX11_years 5 (some .int) :: wsL_law
def wsX11_status : List Cond := .code yX11_status cX11_status 2 (some .int) :: wsL_law
def wsX11_undo : List Cond := .code yX11_undo cX11_undo 1 (some .int) :: wsL_law
def wsX11_log : List Cond := .code yX11_log cX11_log 3 (some .int) :: wsL_law
def wsX11_rises : List Cond := .code yX11_rises cX11_rises 3 (some .int) :: wsL_law
def wsX11_later : List Cond := .code yX11_later cX11_later 6 (some .int) :: wsL_law
def wsX11_daysUntil : List Cond := .code yX11_daysUntil cX11_daysUntil 6 (some .int) :: wsL_law
def wsX11_soonest : List Cond := .code yX11_soonest cX11_soonest 8 (some .int) :: wsL_law
def wsX11_pairs : List Cond := .code yX11_pairs cX11_pairs 2 (some .int) :: wsL_law
def wsX11_allKnow : List Cond := .code yX11_allKnow cX11_allKnow 2 (some .int) :: wsL_law
def wsX11_isNoRise : List Cond := .code yX11_isNoRise cX11_isNoRise 1 (some .boolean) :: wsL_law
def wsX11_seen : List Cond := .code yX11_seen cX11_seen 5 (some .int) :: wsL_law
def wsX11_fits : List Cond := .code yX11_fits cX11_fits 5 (some .int) :: wsL_law
def wsX11_ask : List Cond := .code yX11_ask cX11_ask 8 (some .int) :: wsL_law
def wsX11_game : List Cond := .code yX11_game cX11_game 6 (some .int) :: wsL_law
def wsX11_leastGain : List Cond := .code yX11_leastGain cX11_leastGain 4 (some .int) :: wsL_law
def wsX11_sure : List Cond := .code yX11_sure cX11_sure 4 (some .int) :: wsL_law
def wsX11_isRest : List Cond := .code yX11_isRest cX11_isRest 7 (some .boolean) :: wsL_law
def wsX11_rests : List Cond := .code yX11_rests cX11_rests 5 (some .int) :: wsL_law
def wsX11_odds : List Cond := .code yX11_odds cX11_odds 6 (some .int) :: wsL_law
def wsX11_shares : List Cond := .code yX11_shares cX11_shares 4 (some .int) :: wsL_law
def wsX11_most : List Cond := .code yX11_most cX11_most 2 (some .int) :: wsL_law
def wsX11_allies : List Cond := .code yX11_allies cX11_allies 4 (some .int) :: wsL_law
def wsX11_image : List Cond := .code yX11_image cX11_image 1 (some .int) :: wsL_law
def wsX11_back : List Cond := .code yX11_back cX11_back 1 (some .int) :: wsL_law
def wsX11_count : List Cond := .code yX11_count cX11_count 2 (some .int) :: wsL_law
def wsX12_in : List Cond := .code yX12_in cX12_in 3 (some .boolean) :: wsL_law
def wsX12_has : List Cond := .code yX12_has cX12_has 2 (some .boolean) :: wsL_law
def wsX12_init : List Cond := .code yX12_init cX12_init 1 none :: wsL_law
def wsX12_byteOf : List Cond := .code yX12_byteOf cX12_byteOf 7 (some .int) :: wsL_law
def wsX12_feed : List Cond := .code yX12_feed cX12_feed 9 (some .int) :: wsL_law
def wsX12_end : List Cond := .code yX12_end cX12_end 2 (some .boolean) :: wsL_law
def wsX12_here : List Cond := .code yX12_here cX12_here 1 (some .int) :: wsL_law
def wsX12_look : List Cond := .code yX12_look cX12_look 1 (some .int) :: wsL_law
def wsX12_bad : List Cond := .code yX12_bad cX12_bad 1 none :: wsL_law
def wsX12_isDigit : List Cond := .code yX12_isDigit cX12_isDigit 1 (some .boolean) :: wsL_law
def wsX12_put : List Cond := .code yX12_put cX12_put 3 none :: wsL_law
def wsX12_letterOf : List Cond := .code yX12_letterOf cX12_letterOf 1 (some .int) :: wsL_law
def wsX12_opens : List Cond := .code yX12_opens cX12_opens 1 none :: wsL_law
def wsX12_closes : List Cond := .code yX12_closes cX12_closes 2 none :: wsL_law
def wsX12_plainNumber : List Cond := .code yX12_plainNumber cX12_plainNumber 3 (some .int) :: wsL_law
def wsX12_atom : List Cond := .code yX12_atom cX12_atom 2 none :: wsL_law
def wsX12_sum : List Cond := .code yX12_sum cX12_sum 2 none :: wsL_law
def wsX12_term : List Cond := .code yX12_term cX12_term 2 none :: wsL_law
def wsX12_isSign : List Cond := .code yX12_isSign cX12_isSign 1 (some .boolean) :: wsL_law
def wsX12_compare : List Cond := .code yX12_compare cX12_compare 2 none :: wsL_law
def wsX12_condition : List Cond := .code yX12_condition cX12_condition 1 none :: wsL_law
def wsX12_goOnAnd : List Cond := .code yX12_goOnAnd cX12_goOnAnd 1 none :: wsL_law
def wsX12_goOnOr : List Cond := .code yX12_goOnOr cX12_goOnOr 1 none :: wsL_law
def wsX12_unit : List Cond := .code yX12_unit cX12_unit 2 none :: wsL_law
def wsX12_clause : List Cond := .code yX12_clause cX12_clause 3 none :: wsL_law
def wsX12_open : List Cond := .code yX12_open cX12_open 2 none :: wsL_law
def wsX12_atEnd : List Cond := .code yX12_atEnd cX12_atEnd 1 (some .int) :: wsL_law
def wsX12_readLaw : List Cond := .code yX12_readLaw cX12_readLaw 2 (some .int) :: wsL_law
def wsX12_bounded : List Cond := .code yX12_bounded cX12_bounded 2 (some .int) :: wsL_law
def wsX12_worked : List Cond := .code yX12_worked cX12_worked 5 (some .int) :: wsL_law
def wsX12_workOut : List Cond := .code yX12_workOut cX12_workOut 6 (some .int) :: wsL_law
def wsX12_worthOf : List Cond := .code yX12_worthOf cX12_worthOf 3 (some .int) :: wsL_law
def wsX12_number : List Cond := .code yX12_number cX12_number 4 (some .int) :: wsL_law
def wsX12_itemOf : List Cond := .code yX12_itemOf cX12_itemOf 2 (some .int) :: wsL_law
def wsX12_highest : List Cond := .code yX12_highest cX12_highest 2 (some .int) :: wsL_law
def wsX12_usual : List Cond := .code yX12_usual cX12_usual 2 (some .int) :: wsL_law
def wsX12_items : List Cond := .code yX12_items cX12_items 7 none :: wsL_law
def wsX12_isWhole : List Cond := .code yX12_isWhole cX12_isWhole 3 (some .boolean) :: wsL_law
def wsX12_readPeace : List Cond := .code yX12_readPeace cX12_readPeace 4 (some .int) :: wsL_law
def wsX12_fault : List Cond := .code yX12_fault cX12_fault 2 (some .int) :: wsL_law
def wsX12_of : List Cond := .code yX12_of cX12_of 3 (some .int) :: wsL_law
def wsX12_takePeace : List Cond := .code yX12_takePeace cX12_takePeace 2 (some .int) :: wsL_law
def wsX12_text : List Cond := .code yX12_text cX12_text 2 (some .int) :: wsL_law
def wsX12_isGlove : List Cond := .code yX12_isGlove cX12_isGlove 2 (some .boolean) :: wsL_law
def wsX12_isMatter : List Cond := .code yX12_isMatter cX12_isMatter 2 (some .boolean) :: wsL_law
def wsX12_areTwo : List Cond := .code yX12_areTwo cX12_areTwo 3 (some .boolean) :: wsL_law
def wsX12_pairAt : List Cond := .code yX12_pairAt cX12_pairAt 2 (some .int) :: wsL_law
def wsX12_codeOf : List Cond := .code yX12_codeOf cX12_codeOf 2 (some .int) :: wsL_law
def wsX12_held : List Cond := .code yX12_held cX12_held 1 (some .int) :: wsL_law
def wsX12_riseBy : List Cond := .code yX12_riseBy cX12_riseBy 8 (some .int) :: wsL_law
def wsX12_areAllies : List Cond := .code yX12_areAllies cX12_areAllies 3 (some .boolean) :: wsL_law
def wsX12_riseFrom : List Cond := .code yX12_riseFrom cX12_riseFrom 5 (some .int) :: wsL_law
def wsX12_riseOf : List Cond := .code yX12_riseOf cX12_riseOf 3 (some .int) :: wsL_law
def wsX12_isFree : List Cond := .code yX12_isFree cX12_isFree 2 (some .boolean) :: wsL_law
def wsX12_signNow : List Cond := .code yX12_signNow cX12_signNow 4 none :: wsL_law
def wsX12_meetNow : List Cond := .code yX12_meetNow cX12_meetNow 5 none :: wsL_law
def wsX12_metMany : List Cond := .code yX12_metMany cX12_metMany 3 (some .int) :: wsL_law
def wsX12_warmthOfAll : List Cond := .code yX12_warmthOfAll cX12_warmthOfAll 3 (some .int) :: wsL_law
def wsX12_cool : List Cond := .code yX12_cool cX12_cool 3 none :: wsL_law
def wsX12_live : List Cond := .code yX12_live cX12_live 2 none :: wsL_law
def wsX12_passDay : List Cond := .code yX12_passDay cX12_passDay 4 none :: wsL_law
def wsX12_rule : List Cond := .code yX12_rule cX12_rule 2 (some .int) :: wsL_law
def wsX12_glove : List Cond := .code yX12_glove cX12_glove 3 (some .int) :: wsL_law
def wsX12_matter : List Cond := .code yX12_matter cX12_matter 3 (some .int) :: wsL_law
def wsX12_warmth : List Cond := .code yX12_warmth cX12_warmth 3 (some .int) :: wsL_law
def wsX12_law : List Cond := .code yX12_law cX12_law 2 (some .boolean) :: wsL_law
def wsX12_keep : List Cond := .code yX12_keep cX12_keep 2 none :: wsL_law
def wsX12_isRefused : List Cond := .code yX12_isRefused cX12_isRefused 2 (some .boolean) :: wsL_law
def wsX12_meets : List Cond := .code yX12_meets cX12_meets 3 (some .int) :: wsL_law
def wsX12_loosen : List Cond := .code yX12_loosen cX12_loosen 2 (some .int) :: wsL_law
def wsX12_stuff : List Cond := .code yX12_stuff cX12_stuff 4 (some .int) :: wsL_law
def wsX12_swallow : List Cond := .code yX12_swallow cX12_swallow 1 (some .int) :: wsL_law
def wsX12_tear : List Cond := .code yX12_tear cX12_tear 2 (some .int) :: wsL_law
def wsX12_give : List Cond := .code yX12_give cX12_give 2 (some .int) :: wsL_law
def wsX12_areDays : List Cond := .code yX12_areDays cX12_areDays 2 (some .boolean) :: wsL_law
def wsX12_days : List Cond := .code yX12_days cX12_days 3 (some .int) :: wsL_law
def wsX12_spite : List Cond := .code yX12_spite cX12_spite 2 (some .boolean) :: wsL_law
def wsX12_draw : List Cond := .code yX12_draw cX12_draw 2 (some .int) :: wsL_law
def wsX12_drawDay : List Cond := .code yX12_drawDay cX12_drawDay 4 none :: wsL_law
def wsX12_years : List Cond := .code yX12_years cX12_years 5 (some .int) :: wsL_law
def wsX12_status : List Cond := .code yX12_status cX12_status 2 (some .int) :: wsL_law
def wsX12_undo : List Cond := .code yX12_undo cX12_undo 2 (some .int) :: wsL_law
def wsX12_log : List Cond := .code yX12_log cX12_log 3 (some .int) :: wsL_law
def wsX12_rises : List Cond := .code yX12_rises cX12_rises 3 (some .int) :: wsL_law
def wsX12_later : List Cond := .code yX12_later cX12_later 6 (some .int) :: wsL_law
def wsX12_daysTo : List Cond := .code yX12_daysTo cX12_daysTo 6 (some .int) :: wsL_law
def wsX12_soonest : List Cond := .code yX12_soonest cX12_soonest 8 (some .int) :: wsL_law
def wsX12_tryPairs : List Cond := .code yX12_tryPairs cX12_tryPairs 6 none :: wsL_law
def wsX12_freeOfFirst : List Cond := .code yX12_freeOfFirst cX12_freeOfFirst 3 (some .int) :: wsL_law
def wsX12_layPairs : List Cond := .code yX12_layPairs cX12_layPairs 1 none :: wsL_law
def wsX12_pairs : List Cond := .code yX12_pairs cX12_pairs 2 (some .int) :: wsL_law
def wsX12_doAllKnow : List Cond := .code yX12_doAllKnow cX12_doAllKnow 3 (some .boolean) :: wsL_law
def wsX12_meetPairs : List Cond := .code yX12_meetPairs cX12_meetPairs 4 none :: wsL_law
def wsX12_allKnow : List Cond := .code yX12_allKnow cX12_allKnow 4 (some .int) :: wsL_law
def wsX12_seen : List Cond := .code yX12_seen cX12_seen 5 (some .int) :: wsL_law
def wsX12_toldRise : List Cond := .code yX12_toldRise cX12_toldRise 4 (some .int) :: wsL_law
def wsX12_isFreedom : List Cond := .code yX12_isFreedom cX12_isFreedom 5 (some .boolean) :: wsL_law
def wsX12_fits : List Cond := .code yX12_fits cX12_fits 5 (some .int) :: wsL_law
def wsX12_ask : List Cond := .code yX12_ask cX12_ask 8 (some .int) :: wsL_law
def wsX12_gloveOf : List Cond := .code yX12_gloveOf cX12_gloveOf 5 (some .int) :: wsL_law
def wsX12_gameOf : List Cond := .code yX12_gameOf cX12_gameOf 7 (some .int) :: wsL_law
def wsX12_game : List Cond := .code yX12_game cX12_game 4 (some .int) :: wsL_law
def wsX12_manyOf : List Cond := .code yX12_manyOf cX12_manyOf 4 (some .int) :: wsL_law
def wsX12_leastOf : List Cond := .code yX12_leastOf cX12_leastOf 5 (some .int) :: wsL_law
def wsX12_sure : List Cond := .code yX12_sure cX12_sure 4 (some .int) :: wsL_law
def wsX12_isRest : List Cond := .code yX12_isRest cX12_isRest 5 (some .boolean) :: wsL_law
def wsX12_rests : List Cond := .code yX12_rests cX12_rests 5 (some .int) :: wsL_law
def wsX12_oddsFrom : List Cond := .code yX12_oddsFrom cX12_oddsFrom 14 (some .int) :: wsL_law
def wsX12_odds : List Cond := .code yX12_odds cX12_odds 6 (some .int) :: wsL_law
def wsX12_shares : List Cond := .code yX12_shares cX12_shares 6 (some .int) :: wsL_law
def wsX12_metSet : List Cond := .code yX12_metSet cX12_metSet 3 (some .int) :: wsL_law
def wsX12_signedSet : List Cond := .code yX12_signedSet cX12_signedSet 3 (some .int) :: wsL_law
def wsX12_topPair : List Cond := .code yX12_topPair cX12_topPair 6 (some .int) :: wsL_law
def wsX12_topGlove : List Cond := .code yX12_topGlove cX12_topGlove 4 (some .int) :: wsL_law
def wsX12_heaviest : List Cond := .code yX12_heaviest cX12_heaviest 3 (some .int) :: wsL_law
def wsX12_bound : List Cond := .code yX12_bound cX12_bound 3 (some .int) :: wsL_law
def wsX12_due : List Cond := .code yX12_due cX12_due 4 (some .int) :: wsL_law
def wsX12_most : List Cond := .code yX12_most cX12_most 2 (some .int) :: wsL_law
def wsX12_allies : List Cond := .code yX12_allies cX12_allies 4 (some .int) :: wsL_law
def wsX12_image : List Cond := .code yX12_image cX12_image 2 (some .int) :: wsL_law
def wsX12_back : List Cond := .code yX12_back cX12_back 2 (some .int) :: wsL_law
def wsX12_count : List Cond := .code yX12_count cX12_count 2 (some .int) :: wsL_law
def wsJ9_abs_0f7a4 : List Cond := .code yJ9_abs_0f7a4 cJ9_abs_0f7a4 1 (some .int) :: wsL_law
def wsJ9_max_7cf53 : List Cond := .code yJ9_max_7cf53 cJ9_max_7cf53 2 (some .int) :: wsL_law
def wsJ9_max_f86c9 : List Cond := .code yJ9_max_f86c9 cJ9_max_f86c9 4 (some .long) :: wsL_law
def wsJ9_min_7cf53 : List Cond := .code yJ9_min_7cf53 cJ9_min_7cf53 2 (some .int) :: wsL_law
def wsJ9_min_f86c9 : List Cond := .code yJ9_min_f86c9 cJ9_min_f86c9 4 (some .long) :: wsL_law
def wsL_glove : List Cond := .codeWith yL_glove cL_glove 5 (some .int) [(0, 10, 13, 13)] :: wsL_law
set_option maxRecDepth 100000 in
theorem bi_wsL_law0_r1 : ∀ w ∈ wsL_law0_r1, w ∈ wsL_law := fun _ h => (List.mem_append_left _ (List.mem_append_left _ (List.mem_append_left _ (List.mem_append_left _ (List.mem_append_left _ (List.mem_append_left _ (List.mem_append_left _ (List.mem_append_left _ (List.mem_append_left _ (List.mem_append_left _ (List.mem_append_left _ (List.mem_append_left _ (List.mem_append_left _ (List.mem_append_left _ (List.mem_append_left _ (List.mem_append_left _ h))))))))))))))))
set_option maxRecDepth 100000 in
theorem bi_wsL_law0_r2 : ∀ w ∈ wsL_law0_r2, w ∈ wsL_law := fun _ h => (List.mem_append_left _ (List.mem_append_left _ (List.mem_append_left _ (List.mem_append_left _ (List.mem_append_left _ (List.mem_append_left _ (List.mem_append_left _ (List.mem_append_left _ (List.mem_append_left _ (List.mem_append_left _ (List.mem_append_left _ (List.mem_append_left _ (List.mem_append_left _ (List.mem_append_left _ (List.mem_append_left _ (List.mem_append_right _ (List.mem_append_left _ h)))))))))))))))))
set_option maxRecDepth 100000 in
theorem bi_wsL_law0_r3 : ∀ w ∈ wsL_law0_r3, w ∈ wsL_law := fun _ h => (List.mem_append_left _ (List.mem_append_left _ (List.mem_append_left _ (List.mem_append_left _ (List.mem_append_left _ (List.mem_append_left _ (List.mem_append_left _ (List.mem_append_left _ (List.mem_append_left _ (List.mem_append_left _ (List.mem_append_left _ (List.mem_append_left _ (List.mem_append_left _ (List.mem_append_left _ (List.mem_append_left _ (List.mem_append_right _ (List.mem_append_right _ (List.mem_append_left _ h))))))))))))))))))
set_option maxRecDepth 100000 in
theorem bi_wsL_law0_r4 : ∀ w ∈ wsL_law0_r4, w ∈ wsL_law := fun _ h => (List.mem_append_left _ (List.mem_append_left _ (List.mem_append_left _ (List.mem_append_left _ (List.mem_append_left _ (List.mem_append_left _ (List.mem_append_left _ (List.mem_append_left _ (List.mem_append_left _ (List.mem_append_left _ (List.mem_append_left _ (List.mem_append_left _ (List.mem_append_left _ (List.mem_append_left _ (List.mem_append_left _ (List.mem_append_right _ (List.mem_append_right _ (List.mem_append_right _ (List.mem_append_left _ h)))))))))))))))))))
set_option maxRecDepth 100000 in
theorem bi_wsL_law0_r5 : ∀ w ∈ wsL_law0_r5, w ∈ wsL_law := fun _ h => (List.mem_append_left _ (List.mem_append_left _ (List.mem_append_left _ (List.mem_append_left _ (List.mem_append_left _ (List.mem_append_left _ (List.mem_append_left _ (List.mem_append_left _ (List.mem_append_left _ (List.mem_append_left _ (List.mem_append_left _ (List.mem_append_left _ (List.mem_append_left _ (List.mem_append_left _ (List.mem_append_left _ (List.mem_append_right _ (List.mem_append_right _ (List.mem_append_right _ (List.mem_append_right _ (List.mem_append_left _ h))))))))))))))))))))
set_option maxRecDepth 100000 in
theorem bi_wsL_law0_r6 : ∀ w ∈ wsL_law0_r6, w ∈ wsL_law := fun _ h => (List.mem_append_left _ (List.mem_append_left _ (List.mem_append_left _ (List.mem_append_left _ (List.mem_append_left _ (List.mem_append_left _ (List.mem_append_left _ (List.mem_append_left _ (List.mem_append_left _ (List.mem_append_left _ (List.mem_append_left _ (List.mem_append_left _ (List.mem_append_left _ (List.mem_append_left _ (List.mem_append_left _ (List.mem_append_right _ (List.mem_append_right _ (List.mem_append_right _ (List.mem_append_right _ (List.mem_append_right _ (List.mem_append_left _ h)))))))))))))))))))))
set_option maxRecDepth 100000 in
theorem bi_wsL_law0_r7 : ∀ w ∈ wsL_law0_r7, w ∈ wsL_law := fun _ h => (List.mem_append_left _ (List.mem_append_left _ (List.mem_append_left _ (List.mem_append_left _ (List.mem_append_left _ (List.mem_append_left _ (List.mem_append_left _ (List.mem_append_left _ (List.mem_append_left _ (List.mem_append_left _ (List.mem_append_left _ (List.mem_append_left _ (List.mem_append_left _ (List.mem_append_left _ (List.mem_append_left _ (List.mem_append_right _ (List.mem_append_right _ (List.mem_append_right _ (List.mem_append_right _ (List.mem_append_right _ (List.mem_append_right _ (List.mem_append_left _ h))))))))))))))))))))))
set_option maxRecDepth 100000 in
theorem bi_wsL_law0_r8 : ∀ w ∈ wsL_law0_r8, w ∈ wsL_law := fun _ h => (List.mem_append_left _ (List.mem_append_left _ (List.mem_append_left _ (List.mem_append_left _ (List.mem_append_left _ (List.mem_append_left _ (List.mem_append_left _ (List.mem_append_left _ (List.mem_append_left _ (List.mem_append_left _ (List.mem_append_left _ (List.mem_append_left _ (List.mem_append_left _ (List.mem_append_left _ (List.mem_append_left _ (List.mem_append_right _ (List.mem_append_right _ (List.mem_append_right _ (List.mem_append_right _ (List.mem_append_right _ (List.mem_append_right _ (List.mem_append_right _ (List.mem_append_left _ h)))))))))))))))))))))))
set_option maxRecDepth 100000 in
theorem bi_wsL_law0_r9 : ∀ w ∈ wsL_law0_r9, w ∈ wsL_law := fun _ h => (List.mem_append_left _ (List.mem_append_left _ (List.mem_append_left _ (List.mem_append_left _ (List.mem_append_left _ (List.mem_append_left _ (List.mem_append_left _ (List.mem_append_left _ (List.mem_append_left _ (List.mem_append_left _ (List.mem_append_left _ (List.mem_append_left _ (List.mem_append_left _ (List.mem_append_left _ (List.mem_append_left _ (List.mem_append_right _ (List.mem_append_right _ (List.mem_append_right _ (List.mem_append_right _ (List.mem_append_right _ (List.mem_append_right _ (List.mem_append_right _ (List.mem_append_right _ (List.mem_append_left _ h))))))))))))))))))))))))
set_option maxRecDepth 100000 in
theorem bi_wsL_law0_r10 : ∀ w ∈ wsL_law0_r10, w ∈ wsL_law := fun _ h => (List.mem_append_left _ (List.mem_append_left _ (List.mem_append_left _ (List.mem_append_left _ (List.mem_append_left _ (List.mem_append_left _ (List.mem_append_left _ (List.mem_append_left _ (List.mem_append_left _ (List.mem_append_left _ (List.mem_append_left _ (List.mem_append_left _ (List.mem_append_left _ (List.mem_append_left _ (List.mem_append_left _ (List.mem_append_right _ (List.mem_append_right _ (List.mem_append_right _ (List.mem_append_right _ (List.mem_append_right _ (List.mem_append_right _ (List.mem_append_right _ (List.mem_append_right _ (List.mem_append_right _ (List.mem_append_left _ h)))))))))))))))))))))))))
set_option maxRecDepth 100000 in
theorem bi_wsL_law0_r11 : ∀ w ∈ wsL_law0_r11, w ∈ wsL_law := fun _ h => (List.mem_append_left _ (List.mem_append_left _ (List.mem_append_left _ (List.mem_append_left _ (List.mem_append_left _ (List.mem_append_left _ (List.mem_append_left _ (List.mem_append_left _ (List.mem_append_left _ (List.mem_append_left _ (List.mem_append_left _ (List.mem_append_left _ (List.mem_append_left _ (List.mem_append_left _ (List.mem_append_left _ (List.mem_append_right _ (List.mem_append_right _ (List.mem_append_right _ (List.mem_append_right _ (List.mem_append_right _ (List.mem_append_right _ (List.mem_append_right _ (List.mem_append_right _ (List.mem_append_right _ (List.mem_append_right _ (List.mem_append_left _ h))))))))))))))))))))))))))
set_option maxRecDepth 100000 in
theorem bi_wsL_law0_r12 : ∀ w ∈ wsL_law0_r12, w ∈ wsL_law := fun _ h => (List.mem_append_left _ (List.mem_append_left _ (List.mem_append_left _ (List.mem_append_left _ (List.mem_append_left _ (List.mem_append_left _ (List.mem_append_left _ (List.mem_append_left _ (List.mem_append_left _ (List.mem_append_left _ (List.mem_append_left _ (List.mem_append_left _ (List.mem_append_left _ (List.mem_append_left _ (List.mem_append_left _ (List.mem_append_right _ (List.mem_append_right _ (List.mem_append_right _ (List.mem_append_right _ (List.mem_append_right _ (List.mem_append_right _ (List.mem_append_right _ (List.mem_append_right _ (List.mem_append_right _ (List.mem_append_right _ (List.mem_append_right _ (List.mem_append_left _ h)))))))))))))))))))))))))))
set_option maxRecDepth 100000 in
theorem bi_wsL_law0_r13 : ∀ w ∈ wsL_law0_r13, w ∈ wsL_law := fun _ h => (List.mem_append_left _ (List.mem_append_left _ (List.mem_append_left _ (List.mem_append_left _ (List.mem_append_left _ (List.mem_append_left _ (List.mem_append_left _ (List.mem_append_left _ (List.mem_append_left _ (List.mem_append_left _ (List.mem_append_left _ (List.mem_append_left _ (List.mem_append_left _ (List.mem_append_left _ (List.mem_append_left _ (List.mem_append_right _ (List.mem_append_right _ (List.mem_append_right _ (List.mem_append_right _ (List.mem_append_right _ (List.mem_append_right _ (List.mem_append_right _ (List.mem_append_right _ (List.mem_append_right _ (List.mem_append_right _ (List.mem_append_right _ (List.mem_append_right _ (List.mem_append_left _ h))))))))))))))))))))))))))))
set_option maxRecDepth 100000 in
theorem bi_wsL_law0_r14 : ∀ w ∈ wsL_law0_r14, w ∈ wsL_law := fun _ h => (List.mem_append_left _ (List.mem_append_left _ (List.mem_append_left _ (List.mem_append_left _ (List.mem_append_left _ (List.mem_append_left _ (List.mem_append_left _ (List.mem_append_left _ (List.mem_append_left _ (List.mem_append_left _ (List.mem_append_left _ (List.mem_append_left _ (List.mem_append_left _ (List.mem_append_left _ (List.mem_append_left _ (List.mem_append_right _ (List.mem_append_right _ (List.mem_append_right _ (List.mem_append_right _ (List.mem_append_right _ (List.mem_append_right _ (List.mem_append_right _ (List.mem_append_right _ (List.mem_append_right _ (List.mem_append_right _ (List.mem_append_right _ (List.mem_append_right _ (List.mem_append_right _ (List.mem_append_left _ h)))))))))))))))))))))))))))))
set_option maxRecDepth 100000 in
theorem bi_wsL_law0_r15 : ∀ w ∈ wsL_law0_r15, w ∈ wsL_law := fun _ h => (List.mem_append_left _ (List.mem_append_left _ (List.mem_append_left _ (List.mem_append_left _ (List.mem_append_left _ (List.mem_append_left _ (List.mem_append_left _ (List.mem_append_left _ (List.mem_append_left _ (List.mem_append_left _ (List.mem_append_left _ (List.mem_append_left _ (List.mem_append_left _ (List.mem_append_left _ (List.mem_append_left _ (List.mem_append_right _ (List.mem_append_right _ (List.mem_append_right _ (List.mem_append_right _ (List.mem_append_right _ (List.mem_append_right _ (List.mem_append_right _ (List.mem_append_right _ (List.mem_append_right _ (List.mem_append_right _ (List.mem_append_right _ (List.mem_append_right _ (List.mem_append_right _ (List.mem_append_right _ (List.mem_append_left _ h))))))))))))))))))))))))))))))
set_option maxRecDepth 100000 in
theorem bi_wsL_law0_r16 : ∀ w ∈ wsL_law0_r16, w ∈ wsL_law := fun _ h => (List.mem_append_left _ (List.mem_append_left _ (List.mem_append_left _ (List.mem_append_left _ (List.mem_append_left _ (List.mem_append_left _ (List.mem_append_left _ (List.mem_append_left _ (List.mem_append_left _ (List.mem_append_left _ (List.mem_append_left _ (List.mem_append_left _ (List.mem_append_left _ (List.mem_append_left _ (List.mem_append_left _ (List.mem_append_right _ (List.mem_append_right _ (List.mem_append_right _ (List.mem_append_right _ (List.mem_append_right _ (List.mem_append_right _ (List.mem_append_right _ (List.mem_append_right _ (List.mem_append_right _ (List.mem_append_right _ (List.mem_append_right _ (List.mem_append_right _ (List.mem_append_right _ (List.mem_append_right _ (List.mem_append_right _ (List.mem_append_left _ h)))))))))))))))))))))))))))))))
set_option maxRecDepth 100000 in
theorem bi_wsL_law0_r17 : ∀ w ∈ wsL_law0_r17, w ∈ wsL_law := fun _ h => (List.mem_append_left _ (List.mem_append_left _ (List.mem_append_left _ (List.mem_append_left _ (List.mem_append_left _ (List.mem_append_left _ (List.mem_append_left _ (List.mem_append_left _ (List.mem_append_left _ (List.mem_append_left _ (List.mem_append_left _ (List.mem_append_left _ (List.mem_append_left _ (List.mem_append_left _ (List.mem_append_left _ (List.mem_append_right _ (List.mem_append_right _ (List.mem_append_right _ (List.mem_append_right _ (List.mem_append_right _ (List.mem_append_right _ (List.mem_append_right _ (List.mem_append_right _ (List.mem_append_right _ (List.mem_append_right _ (List.mem_append_right _ (List.mem_append_right _ (List.mem_append_right _ (List.mem_append_right _ (List.mem_append_right _ (List.mem_append_right _ (List.mem_append_left _ h))))))))))))))))))))))))))))))))
set_option maxRecDepth 100000 in
theorem bi_wsL_law0_r18 : ∀ w ∈ wsL_law0_r18, w ∈ wsL_law := fun _ h => (List.mem_append_left _ (List.mem_append_left _ (List.mem_append_left _ (List.mem_append_left _ (List.mem_append_left _ (List.mem_append_left _ (List.mem_append_left _ (List.mem_append_left _ (List.mem_append_left _ (List.mem_append_left _ (List.mem_append_left _ (List.mem_append_left _ (List.mem_append_left _ (List.mem_append_left _ (List.mem_append_left _ (List.mem_append_right _ (List.mem_append_right _ (List.mem_append_right _ (List.mem_append_right _ (List.mem_append_right _ (List.mem_append_right _ (List.mem_append_right _ (List.mem_append_right _ (List.mem_append_right _ (List.mem_append_right _ (List.mem_append_right _ (List.mem_append_right _ (List.mem_append_right _ (List.mem_append_right _ (List.mem_append_right _ (List.mem_append_right _ (List.mem_append_right _ (List.mem_append_left _ h)))))))))))))))))))))))))))))))))
set_option maxRecDepth 100000 in
theorem bi_wsL_law0_r19 : ∀ w ∈ wsL_law0_r19, w ∈ wsL_law := fun _ h => (List.mem_append_left _ (List.mem_append_left _ (List.mem_append_left _ (List.mem_append_left _ (List.mem_append_left _ (List.mem_append_left _ (List.mem_append_left _ (List.mem_append_left _ (List.mem_append_left _ (List.mem_append_left _ (List.mem_append_left _ (List.mem_append_left _ (List.mem_append_left _ (List.mem_append_left _ (List.mem_append_left _ (List.mem_append_right _ (List.mem_append_right _ (List.mem_append_right _ (List.mem_append_right _ (List.mem_append_right _ (List.mem_append_right _ (List.mem_append_right _ (List.mem_append_right _ (List.mem_append_right _ (List.mem_append_right _ (List.mem_append_right _ (List.mem_append_right _ (List.mem_append_right _ (List.mem_append_right _ (List.mem_append_right _ (List.mem_append_right _ (List.mem_append_right _ (List.mem_append_right _ (List.mem_append_left _ h))))))))))))))))))))))))))))))))))
set_option maxRecDepth 100000 in
theorem bi_wsL_law0_r20 : ∀ w ∈ wsL_law0_r20, w ∈ wsL_law := fun _ h => (List.mem_append_left _ (List.mem_append_left _ (List.mem_append_left _ (List.mem_append_left _ (List.mem_append_left _ (List.mem_append_left _ (List.mem_append_left _ (List.mem_append_left _ (List.mem_append_left _ (List.mem_append_left _ (List.mem_append_left _ (List.mem_append_left _ (List.mem_append_left _ (List.mem_append_left _ (List.mem_append_left _ (List.mem_append_right _ (List.mem_append_right _ (List.mem_append_right _ (List.mem_append_right _ (List.mem_append_right _ (List.mem_append_right _ (List.mem_append_right _ (List.mem_append_right _ (List.mem_append_right _ (List.mem_append_right _ (List.mem_append_right _ (List.mem_append_right _ (List.mem_append_right _ (List.mem_append_right _ (List.mem_append_right _ (List.mem_append_right _ (List.mem_append_right _ (List.mem_append_right _ (List.mem_append_right _ (List.mem_append_left _ h)))))))))))))))))))))))))))))))))))
set_option maxRecDepth 100000 in
theorem bi_wsL_law0_r21 : ∀ w ∈ wsL_law0_r21, w ∈ wsL_law := fun _ h => (List.mem_append_left _ (List.mem_append_left _ (List.mem_append_left _ (List.mem_append_left _ (List.mem_append_left _ (List.mem_append_left _ (List.mem_append_left _ (List.mem_append_left _ (List.mem_append_left _ (List.mem_append_left _ (List.mem_append_left _ (List.mem_append_left _ (List.mem_append_left _ (List.mem_append_left _ (List.mem_append_left _ (List.mem_append_right _ (List.mem_append_right _ (List.mem_append_right _ (List.mem_append_right _ (List.mem_append_right _ (List.mem_append_right _ (List.mem_append_right _ (List.mem_append_right _ (List.mem_append_right _ (List.mem_append_right _ (List.mem_append_right _ (List.mem_append_right _ (List.mem_append_right _ (List.mem_append_right _ (List.mem_append_right _ (List.mem_append_right _ (List.mem_append_right _ (List.mem_append_right _ (List.mem_append_right _ (List.mem_append_right _ (List.mem_append_left _ h))))))))))))))))))))))))))))))))))))
set_option maxRecDepth 100000 in
theorem bi_wsL_law0_r22 : ∀ w ∈ wsL_law0_r22, w ∈ wsL_law := fun _ h => (List.mem_append_left _ (List.mem_append_left _ (List.mem_append_left _ (List.mem_append_left _ (List.mem_append_left _ (List.mem_append_left _ (List.mem_append_left _ (List.mem_append_left _ (List.mem_append_left _ (List.mem_append_left _ (List.mem_append_left _ (List.mem_append_left _ (List.mem_append_left _ (List.mem_append_left _ (List.mem_append_left _ (List.mem_append_right _ (List.mem_append_right _ (List.mem_append_right _ (List.mem_append_right _ (List.mem_append_right _ (List.mem_append_right _ (List.mem_append_right _ (List.mem_append_right _ (List.mem_append_right _ (List.mem_append_right _ (List.mem_append_right _ (List.mem_append_right _ (List.mem_append_right _ (List.mem_append_right _ (List.mem_append_right _ (List.mem_append_right _ (List.mem_append_right _ (List.mem_append_right _ (List.mem_append_right _ (List.mem_append_right _ (List.mem_append_right _ (List.mem_append_left _ h)))))))))))))))))))))))))))))))))))))
set_option maxRecDepth 100000 in
theorem bi_wsL_law0_r23 : ∀ w ∈ wsL_law0_r23, w ∈ wsL_law := fun _ h => (List.mem_append_left _ (List.mem_append_left _ (List.mem_append_left _ (List.mem_append_left _ (List.mem_append_left _ (List.mem_append_left _ (List.mem_append_left _ (List.mem_append_left _ (List.mem_append_left _ (List.mem_append_left _ (List.mem_append_left _ (List.mem_append_left _ (List.mem_append_left _ (List.mem_append_left _ (List.mem_append_left _ (List.mem_append_right _ (List.mem_append_right _ (List.mem_append_right _ (List.mem_append_right _ (List.mem_append_right _ (List.mem_append_right _ (List.mem_append_right _ (List.mem_append_right _ (List.mem_append_right _ (List.mem_append_right _ (List.mem_append_right _ (List.mem_append_right _ (List.mem_append_right _ (List.mem_append_right _ (List.mem_append_right _ (List.mem_append_right _ (List.mem_append_right _ (List.mem_append_right _ (List.mem_append_right _ (List.mem_append_right _ (List.mem_append_right _ (List.mem_append_right _ (List.mem_append_left _ h))))))))))))))))))))))))))))))))))))))
set_option maxRecDepth 100000 in
theorem bi_wsL_law0_r24 : ∀ w ∈ wsL_law0_r24, w ∈ wsL_law := fun _ h => (List.mem_append_left _ (List.mem_append_left _ (List.mem_append_left _ (List.mem_append_left _ (List.mem_append_left _ (List.mem_append_left _ (List.mem_append_left _ (List.mem_append_left _ (List.mem_append_left _ (List.mem_append_left _ (List.mem_append_left _ (List.mem_append_left _ (List.mem_append_left _ (List.mem_append_left _ (List.mem_append_left _ (List.mem_append_right _ (List.mem_append_right _ (List.mem_append_right _ (List.mem_append_right _ (List.mem_append_right _ (List.mem_append_right _ (List.mem_append_right _ (List.mem_append_right _ (List.mem_append_right _ (List.mem_append_right _ (List.mem_append_right _ (List.mem_append_right _ (List.mem_append_right _ (List.mem_append_right _ (List.mem_append_right _ (List.mem_append_right _ (List.mem_append_right _ (List.mem_append_right _ (List.mem_append_right _ (List.mem_append_right _ (List.mem_append_right _ (List.mem_append_right _ (List.mem_append_right _ (List.mem_append_left _ h)))))))))))))))))))))))))))))))))))))))
set_option maxRecDepth 100000 in
theorem bi_wsL_law0_r25 : ∀ w ∈ wsL_law0_r25, w ∈ wsL_law := fun _ h => (List.mem_append_left _ (List.mem_append_left _ (List.mem_append_left _ (List.mem_append_left _ (List.mem_append_left _ (List.mem_append_left _ (List.mem_append_left _ (List.mem_append_left _ (List.mem_append_left _ (List.mem_append_left _ (List.mem_append_left _ (List.mem_append_left _ (List.mem_append_left _ (List.mem_append_left _ (List.mem_append_left _ (List.mem_append_right _ (List.mem_append_right _ (List.mem_append_right _ (List.mem_append_right _ (List.mem_append_right _ (List.mem_append_right _ (List.mem_append_right _ (List.mem_append_right _ (List.mem_append_right _ (List.mem_append_right _ (List.mem_append_right _ (List.mem_append_right _ (List.mem_append_right _ (List.mem_append_right _ (List.mem_append_right _ (List.mem_append_right _ (List.mem_append_right _ (List.mem_append_right _ (List.mem_append_right _ (List.mem_append_right _ (List.mem_append_right _ (List.mem_append_right _ (List.mem_append_right _ (List.mem_append_right _ (List.mem_append_left _ h))))))))))))))))))))))))))))))))))))))))
set_option maxRecDepth 100000 in
theorem bi_wsL_law0_r26 : ∀ w ∈ wsL_law0_r26, w ∈ wsL_law := fun _ h => (List.mem_append_left _ (List.mem_append_left _ (List.mem_append_left _ (List.mem_append_left _ (List.mem_append_left _ (List.mem_append_left _ (List.mem_append_left _ (List.mem_append_left _ (List.mem_append_left _ (List.mem_append_left _ (List.mem_append_left _ (List.mem_append_left _ (List.mem_append_left _ (List.mem_append_left _ (List.mem_append_left _ (List.mem_append_right _ (List.mem_append_right _ (List.mem_append_right _ (List.mem_append_right _ (List.mem_append_right _ (List.mem_append_right _ (List.mem_append_right _ (List.mem_append_right _ (List.mem_append_right _ (List.mem_append_right _ (List.mem_append_right _ (List.mem_append_right _ (List.mem_append_right _ (List.mem_append_right _ (List.mem_append_right _ (List.mem_append_right _ (List.mem_append_right _ (List.mem_append_right _ (List.mem_append_right _ (List.mem_append_right _ (List.mem_append_right _ (List.mem_append_right _ (List.mem_append_right _ (List.mem_append_right _ (List.mem_append_right _ (List.mem_append_left _ h)))))))))))))))))))))))))))))))))))))))))
set_option maxRecDepth 100000 in
theorem bi_wsL_law0_r27 : ∀ w ∈ wsL_law0_r27, w ∈ wsL_law := fun _ h => (List.mem_append_left _ (List.mem_append_left _ (List.mem_append_left _ (List.mem_append_left _ (List.mem_append_left _ (List.mem_append_left _ (List.mem_append_left _ (List.mem_append_left _ (List.mem_append_left _ (List.mem_append_left _ (List.mem_append_left _ (List.mem_append_left _ (List.mem_append_left _ (List.mem_append_left _ (List.mem_append_left _ (List.mem_append_right _ (List.mem_append_right _ (List.mem_append_right _ (List.mem_append_right _ (List.mem_append_right _ (List.mem_append_right _ (List.mem_append_right _ (List.mem_append_right _ (List.mem_append_right _ (List.mem_append_right _ (List.mem_append_right _ (List.mem_append_right _ (List.mem_append_right _ (List.mem_append_right _ (List.mem_append_right _ (List.mem_append_right _ (List.mem_append_right _ (List.mem_append_right _ (List.mem_append_right _ (List.mem_append_right _ (List.mem_append_right _ (List.mem_append_right _ (List.mem_append_right _ (List.mem_append_right _ (List.mem_append_right _ (List.mem_append_right _ (List.mem_append_left _ h))))))))))))))))))))))))))))))))))))))))))
set_option maxRecDepth 100000 in
theorem bi_wsL_law0_r28 : ∀ w ∈ wsL_law0_r28, w ∈ wsL_law := fun _ h => (List.mem_append_left _ (List.mem_append_left _ (List.mem_append_left _ (List.mem_append_left _ (List.mem_append_left _ (List.mem_append_left _ (List.mem_append_left _ (List.mem_append_left _ (List.mem_append_left _ (List.mem_append_left _ (List.mem_append_left _ (List.mem_append_left _ (List.mem_append_left _ (List.mem_append_left _ (List.mem_append_left _ (List.mem_append_right _ (List.mem_append_right _ (List.mem_append_right _ (List.mem_append_right _ (List.mem_append_right _ (List.mem_append_right _ (List.mem_append_right _ (List.mem_append_right _ (List.mem_append_right _ (List.mem_append_right _ (List.mem_append_right _ (List.mem_append_right _ (List.mem_append_right _ (List.mem_append_right _ (List.mem_append_right _ (List.mem_append_right _ (List.mem_append_right _ (List.mem_append_right _ (List.mem_append_right _ (List.mem_append_right _ (List.mem_append_right _ (List.mem_append_right _ (List.mem_append_right _ (List.mem_append_right _ (List.mem_append_right _ (List.mem_append_right _ (List.mem_append_right _ (List.mem_append_left _ h)))))))))))))))))))))))))))))))))))))))))))
set_option maxRecDepth 100000 in
theorem bi_wsL_law0_r29 : ∀ w ∈ wsL_law0_r29, w ∈ wsL_law := fun _ h => (List.mem_append_left _ (List.mem_append_left _ (List.mem_append_left _ (List.mem_append_left _ (List.mem_append_left _ (List.mem_append_left _ (List.mem_append_left _ (List.mem_append_left _ (List.mem_append_left _ (List.mem_append_left _ (List.mem_append_left _ (List.mem_append_left _ (List.mem_append_left _ (List.mem_append_left _ (List.mem_append_left _ (List.mem_append_right _ (List.mem_append_right _ (List.mem_append_right _ (List.mem_append_right _ (List.mem_append_right _ (List.mem_append_right _ (List.mem_append_right _ (List.mem_append_right _ (List.mem_append_right _ (List.mem_append_right _ (List.mem_append_right _ (List.mem_append_right _ (List.mem_append_right _ (List.mem_append_right _ (List.mem_append_right _ (List.mem_append_right _ (List.mem_append_right _ (List.mem_append_right _ (List.mem_append_right _ (List.mem_append_right _ (List.mem_append_right _ (List.mem_append_right _ (List.mem_append_right _ (List.mem_append_right _ (List.mem_append_right _ (List.mem_append_right _ (List.mem_append_right _ (List.mem_append_right _ (List.mem_append_left _ h))))))))))))))))))))))))))))))))))))))))))))
set_option maxRecDepth 100000 in
theorem bi_wsL_law0_r30 : ∀ w ∈ wsL_law0_r30, w ∈ wsL_law := fun _ h => (List.mem_append_left _ (List.mem_append_left _ (List.mem_append_left _ (List.mem_append_left _ (List.mem_append_left _ (List.mem_append_left _ (List.mem_append_left _ (List.mem_append_left _ (List.mem_append_left _ (List.mem_append_left _ (List.mem_append_left _ (List.mem_append_left _ (List.mem_append_left _ (List.mem_append_left _ (List.mem_append_left _ (List.mem_append_right _ (List.mem_append_right _ (List.mem_append_right _ (List.mem_append_right _ (List.mem_append_right _ (List.mem_append_right _ (List.mem_append_right _ (List.mem_append_right _ (List.mem_append_right _ (List.mem_append_right _ (List.mem_append_right _ (List.mem_append_right _ (List.mem_append_right _ (List.mem_append_right _ (List.mem_append_right _ (List.mem_append_right _ (List.mem_append_right _ (List.mem_append_right _ (List.mem_append_right _ (List.mem_append_right _ (List.mem_append_right _ (List.mem_append_right _ (List.mem_append_right _ (List.mem_append_right _ (List.mem_append_right _ (List.mem_append_right _ (List.mem_append_right _ (List.mem_append_right _ (List.mem_append_right _ (List.mem_append_left _ h)))))))))))))))))))))))))))))))))))))))))))))
set_option maxRecDepth 100000 in
theorem bi_wsL_law0_r31 : ∀ w ∈ wsL_law0_r31, w ∈ wsL_law := fun _ h => (List.mem_append_left _ (List.mem_append_left _ (List.mem_append_left _ (List.mem_append_left _ (List.mem_append_left _ (List.mem_append_left _ (List.mem_append_left _ (List.mem_append_left _ (List.mem_append_left _ (List.mem_append_left _ (List.mem_append_left _ (List.mem_append_left _ (List.mem_append_left _ (List.mem_append_left _ (List.mem_append_left _ (List.mem_append_right _ (List.mem_append_right _ (List.mem_append_right _ (List.mem_append_right _ (List.mem_append_right _ (List.mem_append_right _ (List.mem_append_right _ (List.mem_append_right _ (List.mem_append_right _ (List.mem_append_right _ (List.mem_append_right _ (List.mem_append_right _ (List.mem_append_right _ (List.mem_append_right _ (List.mem_append_right _ (List.mem_append_right _ (List.mem_append_right _ (List.mem_append_right _ (List.mem_append_right _ (List.mem_append_right _ (List.mem_append_right _ (List.mem_append_right _ (List.mem_append_right _ (List.mem_append_right _ (List.mem_append_right _ (List.mem_append_right _ (List.mem_append_right _ (List.mem_append_right _ (List.mem_append_right _ (List.mem_append_right _ (List.mem_append_left _ h))))))))))))))))))))))))))))))))))))))))))))))
set_option maxRecDepth 100000 in
theorem bi_wsL_law0_r32 : ∀ w ∈ wsL_law0_r32, w ∈ wsL_law := fun _ h => (List.mem_append_left _ (List.mem_append_left _ (List.mem_append_left _ (List.mem_append_left _ (List.mem_append_left _ (List.mem_append_left _ (List.mem_append_left _ (List.mem_append_left _ (List.mem_append_left _ (List.mem_append_left _ (List.mem_append_left _ (List.mem_append_left _ (List.mem_append_left _ (List.mem_append_left _ (List.mem_append_left _ (List.mem_append_right _ (List.mem_append_right _ (List.mem_append_right _ (List.mem_append_right _ (List.mem_append_right _ (List.mem_append_right _ (List.mem_append_right _ (List.mem_append_right _ (List.mem_append_right _ (List.mem_append_right _ (List.mem_append_right _ (List.mem_append_right _ (List.mem_append_right _ (List.mem_append_right _ (List.mem_append_right _ (List.mem_append_right _ (List.mem_append_right _ (List.mem_append_right _ (List.mem_append_right _ (List.mem_append_right _ (List.mem_append_right _ (List.mem_append_right _ (List.mem_append_right _ (List.mem_append_right _ (List.mem_append_right _ (List.mem_append_right _ (List.mem_append_right _ (List.mem_append_right _ (List.mem_append_right _ (List.mem_append_right _ (List.mem_append_right _ (List.mem_append_left _ h)))))))))))))))))))))))))))))))))))))))))))))))
set_option maxRecDepth 100000 in
theorem bi_wsL_law0_r33 : ∀ w ∈ wsL_law0_r33, w ∈ wsL_law := fun _ h => (List.mem_append_left _ (List.mem_append_left _ (List.mem_append_left _ (List.mem_append_left _ (List.mem_append_left _ (List.mem_append_left _ (List.mem_append_left _ (List.mem_append_left _ (List.mem_append_left _ (List.mem_append_left _ (List.mem_append_left _ (List.mem_append_left _ (List.mem_append_left _ (List.mem_append_left _ (List.mem_append_left _ (List.mem_append_right _ (List.mem_append_right _ (List.mem_append_right _ (List.mem_append_right _ (List.mem_append_right _ (List.mem_append_right _ (List.mem_append_right _ (List.mem_append_right _ (List.mem_append_right _ (List.mem_append_right _ (List.mem_append_right _ (List.mem_append_right _ (List.mem_append_right _ (List.mem_append_right _ (List.mem_append_right _ (List.mem_append_right _ (List.mem_append_right _ (List.mem_append_right _ (List.mem_append_right _ (List.mem_append_right _ (List.mem_append_right _ (List.mem_append_right _ (List.mem_append_right _ (List.mem_append_right _ (List.mem_append_right _ (List.mem_append_right _ (List.mem_append_right _ (List.mem_append_right _ (List.mem_append_right _ (List.mem_append_right _ (List.mem_append_right _ (List.mem_append_right _ (List.mem_append_left _ h))))))))))))))))))))))))))))))))))))))))))))))))
set_option maxRecDepth 100000 in
theorem bi_wsL_law0_r34 : ∀ w ∈ wsL_law0_r34, w ∈ wsL_law := fun _ h => (List.mem_append_left _ (List.mem_append_left _ (List.mem_append_left _ (List.mem_append_left _ (List.mem_append_left _ (List.mem_append_left _ (List.mem_append_left _ (List.mem_append_left _ (List.mem_append_left _ (List.mem_append_left _ (List.mem_append_left _ (List.mem_append_left _ (List.mem_append_left _ (List.mem_append_left _ (List.mem_append_left _ (List.mem_append_right _ (List.mem_append_right _ (List.mem_append_right _ (List.mem_append_right _ (List.mem_append_right _ (List.mem_append_right _ (List.mem_append_right _ (List.mem_append_right _ (List.mem_append_right _ (List.mem_append_right _ (List.mem_append_right _ (List.mem_append_right _ (List.mem_append_right _ (List.mem_append_right _ (List.mem_append_right _ (List.mem_append_right _ (List.mem_append_right _ (List.mem_append_right _ (List.mem_append_right _ (List.mem_append_right _ (List.mem_append_right _ (List.mem_append_right _ (List.mem_append_right _ (List.mem_append_right _ (List.mem_append_right _ (List.mem_append_right _ (List.mem_append_right _ (List.mem_append_right _ (List.mem_append_right _ (List.mem_append_right _ (List.mem_append_right _ (List.mem_append_right _ (List.mem_append_right _ (List.mem_append_left _ h)))))))))))))))))))))))))))))))))))))))))))))))))
set_option maxRecDepth 100000 in
theorem bi_wsL_law0_r35 : ∀ w ∈ wsL_law0_r35, w ∈ wsL_law := fun _ h => (List.mem_append_left _ (List.mem_append_left _ (List.mem_append_left _ (List.mem_append_left _ (List.mem_append_left _ (List.mem_append_left _ (List.mem_append_left _ (List.mem_append_left _ (List.mem_append_left _ (List.mem_append_left _ (List.mem_append_left _ (List.mem_append_left _ (List.mem_append_left _ (List.mem_append_left _ (List.mem_append_left _ (List.mem_append_right _ (List.mem_append_right _ (List.mem_append_right _ (List.mem_append_right _ (List.mem_append_right _ (List.mem_append_right _ (List.mem_append_right _ (List.mem_append_right _ (List.mem_append_right _ (List.mem_append_right _ (List.mem_append_right _ (List.mem_append_right _ (List.mem_append_right _ (List.mem_append_right _ (List.mem_append_right _ (List.mem_append_right _ (List.mem_append_right _ (List.mem_append_right _ (List.mem_append_right _ (List.mem_append_right _ (List.mem_append_right _ (List.mem_append_right _ (List.mem_append_right _ (List.mem_append_right _ (List.mem_append_right _ (List.mem_append_right _ (List.mem_append_right _ (List.mem_append_right _ (List.mem_append_right _ (List.mem_append_right _ (List.mem_append_right _ (List.mem_append_right _ (List.mem_append_right _ (List.mem_append_right _ (List.mem_append_left _ h))))))))))))))))))))))))))))))))))))))))))))))))))
set_option maxRecDepth 100000 in
theorem bi_wsL_law0_r36 : ∀ w ∈ wsL_law0_r36, w ∈ wsL_law := fun _ h => (List.mem_append_left _ (List.mem_append_left _ (List.mem_append_left _ (List.mem_append_left _ (List.mem_append_left _ (List.mem_append_left _ (List.mem_append_left _ (List.mem_append_left _ (List.mem_append_left _ (List.mem_append_left _ (List.mem_append_left _ (List.mem_append_left _ (List.mem_append_left _ (List.mem_append_left _ (List.mem_append_left _ (List.mem_append_right _ (List.mem_append_right _ (List.mem_append_right _ (List.mem_append_right _ (List.mem_append_right _ (List.mem_append_right _ (List.mem_append_right _ (List.mem_append_right _ (List.mem_append_right _ (List.mem_append_right _ (List.mem_append_right _ (List.mem_append_right _ (List.mem_append_right _ (List.mem_append_right _ (List.mem_append_right _ (List.mem_append_right _ (List.mem_append_right _ (List.mem_append_right _ (List.mem_append_right _ (List.mem_append_right _ (List.mem_append_right _ (List.mem_append_right _ (List.mem_append_right _ (List.mem_append_right _ (List.mem_append_right _ (List.mem_append_right _ (List.mem_append_right _ (List.mem_append_right _ (List.mem_append_right _ (List.mem_append_right _ (List.mem_append_right _ (List.mem_append_right _ (List.mem_append_right _ (List.mem_append_right _ (List.mem_append_right _ (List.mem_append_left _ h)))))))))))))))))))))))))))))))))))))))))))))))))))
set_option maxRecDepth 100000 in
theorem bi_wsL_law0_r37 : ∀ w ∈ wsL_law0_r37, w ∈ wsL_law := fun _ h => (List.mem_append_left _ (List.mem_append_left _ (List.mem_append_left _ (List.mem_append_left _ (List.mem_append_left _ (List.mem_append_left _ (List.mem_append_left _ (List.mem_append_left _ (List.mem_append_left _ (List.mem_append_left _ (List.mem_append_left _ (List.mem_append_left _ (List.mem_append_left _ (List.mem_append_left _ (List.mem_append_left _ (List.mem_append_right _ (List.mem_append_right _ (List.mem_append_right _ (List.mem_append_right _ (List.mem_append_right _ (List.mem_append_right _ (List.mem_append_right _ (List.mem_append_right _ (List.mem_append_right _ (List.mem_append_right _ (List.mem_append_right _ (List.mem_append_right _ (List.mem_append_right _ (List.mem_append_right _ (List.mem_append_right _ (List.mem_append_right _ (List.mem_append_right _ (List.mem_append_right _ (List.mem_append_right _ (List.mem_append_right _ (List.mem_append_right _ (List.mem_append_right _ (List.mem_append_right _ (List.mem_append_right _ (List.mem_append_right _ (List.mem_append_right _ (List.mem_append_right _ (List.mem_append_right _ (List.mem_append_right _ (List.mem_append_right _ (List.mem_append_right _ (List.mem_append_right _ (List.mem_append_right _ (List.mem_append_right _ (List.mem_append_right _ (List.mem_append_right _ (List.mem_append_left _ h))))))))))))))))))))))))))))))))))))))))))))))))))))
set_option maxRecDepth 100000 in
theorem bi_wsL_law0_r38 : ∀ w ∈ wsL_law0_r38, w ∈ wsL_law := fun _ h => (List.mem_append_left _ (List.mem_append_left _ (List.mem_append_left _ (List.mem_append_left _ (List.mem_append_left _ (List.mem_append_left _ (List.mem_append_left _ (List.mem_append_left _ (List.mem_append_left _ (List.mem_append_left _ (List.mem_append_left _ (List.mem_append_left _ (List.mem_append_left _ (List.mem_append_left _ (List.mem_append_left _ (List.mem_append_right _ (List.mem_append_right _ (List.mem_append_right _ (List.mem_append_right _ (List.mem_append_right _ (List.mem_append_right _ (List.mem_append_right _ (List.mem_append_right _ (List.mem_append_right _ (List.mem_append_right _ (List.mem_append_right _ (List.mem_append_right _ (List.mem_append_right _ (List.mem_append_right _ (List.mem_append_right _ (List.mem_append_right _ (List.mem_append_right _ (List.mem_append_right _ (List.mem_append_right _ (List.mem_append_right _ (List.mem_append_right _ (List.mem_append_right _ (List.mem_append_right _ (List.mem_append_right _ (List.mem_append_right _ (List.mem_append_right _ (List.mem_append_right _ (List.mem_append_right _ (List.mem_append_right _ (List.mem_append_right _ (List.mem_append_right _ (List.mem_append_right _ (List.mem_append_right _ (List.mem_append_right _ (List.mem_append_right _ (List.mem_append_right _ (List.mem_append_right _ (List.mem_append_left _ h)))))))))))))))))))))))))))))))))))))))))))))))))))))
set_option maxRecDepth 100000 in
theorem bi_wsL_law0_r39 : ∀ w ∈ wsL_law0_r39, w ∈ wsL_law := fun _ h => (List.mem_append_left _ (List.mem_append_left _ (List.mem_append_left _ (List.mem_append_left _ (List.mem_append_left _ (List.mem_append_left _ (List.mem_append_left _ (List.mem_append_left _ (List.mem_append_left _ (List.mem_append_left _ (List.mem_append_left _ (List.mem_append_left _ (List.mem_append_left _ (List.mem_append_left _ (List.mem_append_left _ (List.mem_append_right _ (List.mem_append_right _ (List.mem_append_right _ (List.mem_append_right _ (List.mem_append_right _ (List.mem_append_right _ (List.mem_append_right _ (List.mem_append_right _ (List.mem_append_right _ (List.mem_append_right _ (List.mem_append_right _ (List.mem_append_right _ (List.mem_append_right _ (List.mem_append_right _ (List.mem_append_right _ (List.mem_append_right _ (List.mem_append_right _ (List.mem_append_right _ (List.mem_append_right _ (List.mem_append_right _ (List.mem_append_right _ (List.mem_append_right _ (List.mem_append_right _ (List.mem_append_right _ (List.mem_append_right _ (List.mem_append_right _ (List.mem_append_right _ (List.mem_append_right _ (List.mem_append_right _ (List.mem_append_right _ (List.mem_append_right _ (List.mem_append_right _ (List.mem_append_right _ (List.mem_append_right _ (List.mem_append_right _ (List.mem_append_right _ (List.mem_append_right _ (List.mem_append_right _ (List.mem_append_left _ h))))))))))))))))))))))))))))))))))))))))))))))))))))))
set_option maxRecDepth 100000 in
theorem bi_wsL_law0_r40 : ∀ w ∈ wsL_law0_r40, w ∈ wsL_law := fun _ h => (List.mem_append_left _ (List.mem_append_left _ (List.mem_append_left _ (List.mem_append_left _ (List.mem_append_left _ (List.mem_append_left _ (List.mem_append_left _ (List.mem_append_left _ (List.mem_append_left _ (List.mem_append_left _ (List.mem_append_left _ (List.mem_append_left _ (List.mem_append_left _ (List.mem_append_left _ (List.mem_append_left _ (List.mem_append_right _ (List.mem_append_right _ (List.mem_append_right _ (List.mem_append_right _ (List.mem_append_right _ (List.mem_append_right _ (List.mem_append_right _ (List.mem_append_right _ (List.mem_append_right _ (List.mem_append_right _ (List.mem_append_right _ (List.mem_append_right _ (List.mem_append_right _ (List.mem_append_right _ (List.mem_append_right _ (List.mem_append_right _ (List.mem_append_right _ (List.mem_append_right _ (List.mem_append_right _ (List.mem_append_right _ (List.mem_append_right _ (List.mem_append_right _ (List.mem_append_right _ (List.mem_append_right _ (List.mem_append_right _ (List.mem_append_right _ (List.mem_append_right _ (List.mem_append_right _ (List.mem_append_right _ (List.mem_append_right _ (List.mem_append_right _ (List.mem_append_right _ (List.mem_append_right _ (List.mem_append_right _ (List.mem_append_right _ (List.mem_append_right _ (List.mem_append_right _ (List.mem_append_right _ (List.mem_append_right _ (List.mem_append_left _ h)))))))))))))))))))))))))))))))))))))))))))))))))))))))
set_option maxRecDepth 100000 in
theorem bi_wsL_law0_r41 : ∀ w ∈ wsL_law0_r41, w ∈ wsL_law := fun _ h => (List.mem_append_left _ (List.mem_append_left _ (List.mem_append_left _ (List.mem_append_left _ (List.mem_append_left _ (List.mem_append_left _ (List.mem_append_left _ (List.mem_append_left _ (List.mem_append_left _ (List.mem_append_left _ (List.mem_append_left _ (List.mem_append_left _ (List.mem_append_left _ (List.mem_append_left _ (List.mem_append_left _ (List.mem_append_right _ (List.mem_append_right _ (List.mem_append_right _ (List.mem_append_right _ (List.mem_append_right _ (List.mem_append_right _ (List.mem_append_right _ (List.mem_append_right _ (List.mem_append_right _ (List.mem_append_right _ (List.mem_append_right _ (List.mem_append_right _ (List.mem_append_right _ (List.mem_append_right _ (List.mem_append_right _ (List.mem_append_right _ (List.mem_append_right _ (List.mem_append_right _ (List.mem_append_right _ (List.mem_append_right _ (List.mem_append_right _ (List.mem_append_right _ (List.mem_append_right _ (List.mem_append_right _ (List.mem_append_right _ (List.mem_append_right _ (List.mem_append_right _ (List.mem_append_right _ (List.mem_append_right _ (List.mem_append_right _ (List.mem_append_right _ (List.mem_append_right _ (List.mem_append_right _ (List.mem_append_right _ (List.mem_append_right _ (List.mem_append_right _ (List.mem_append_right _ (List.mem_append_right _ (List.mem_append_right _ (List.mem_append_right _ (List.mem_append_left _ h))))))))))))))))))))))))))))))))))))))))))))))))))))))))
set_option maxRecDepth 100000 in
theorem bi_wsL_law0_r42 : ∀ w ∈ wsL_law0_r42, w ∈ wsL_law := fun _ h => (List.mem_append_left _ (List.mem_append_left _ (List.mem_append_left _ (List.mem_append_left _ (List.mem_append_left _ (List.mem_append_left _ (List.mem_append_left _ (List.mem_append_left _ (List.mem_append_left _ (List.mem_append_left _ (List.mem_append_left _ (List.mem_append_left _ (List.mem_append_left _ (List.mem_append_left _ (List.mem_append_left _ (List.mem_append_right _ (List.mem_append_right _ (List.mem_append_right _ (List.mem_append_right _ (List.mem_append_right _ (List.mem_append_right _ (List.mem_append_right _ (List.mem_append_right _ (List.mem_append_right _ (List.mem_append_right _ (List.mem_append_right _ (List.mem_append_right _ (List.mem_append_right _ (List.mem_append_right _ (List.mem_append_right _ (List.mem_append_right _ (List.mem_append_right _ (List.mem_append_right _ (List.mem_append_right _ (List.mem_append_right _ (List.mem_append_right _ (List.mem_append_right _ (List.mem_append_right _ (List.mem_append_right _ (List.mem_append_right _ (List.mem_append_right _ (List.mem_append_right _ (List.mem_append_right _ (List.mem_append_right _ (List.mem_append_right _ (List.mem_append_right _ (List.mem_append_right _ (List.mem_append_right _ (List.mem_append_right _ (List.mem_append_right _ (List.mem_append_right _ (List.mem_append_right _ (List.mem_append_right _ (List.mem_append_right _ (List.mem_append_right _ (List.mem_append_right _ (List.mem_append_left _ h)))))))))))))))))))))))))))))))))))))))))))))))))))))))))
set_option maxRecDepth 100000 in
theorem bi_wsL_law0_r43 : ∀ w ∈ wsL_law0_r43, w ∈ wsL_law := fun _ h => (List.mem_append_left _ (List.mem_append_left _ (List.mem_append_left _ (List.mem_append_left _ (List.mem_append_left _ (List.mem_append_left _ (List.mem_append_left _ (List.mem_append_left _ (List.mem_append_left _ (List.mem_append_left _ (List.mem_append_left _ (List.mem_append_left _ (List.mem_append_left _ (List.mem_append_left _ (List.mem_append_left _ (List.mem_append_right _ (List.mem_append_right _ (List.mem_append_right _ (List.mem_append_right _ (List.mem_append_right _ (List.mem_append_right _ (List.mem_append_right _ (List.mem_append_right _ (List.mem_append_right _ (List.mem_append_right _ (List.mem_append_right _ (List.mem_append_right _ (List.mem_append_right _ (List.mem_append_right _ (List.mem_append_right _ (List.mem_append_right _ (List.mem_append_right _ (List.mem_append_right _ (List.mem_append_right _ (List.mem_append_right _ (List.mem_append_right _ (List.mem_append_right _ (List.mem_append_right _ (List.mem_append_right _ (List.mem_append_right _ (List.mem_append_right _ (List.mem_append_right _ (List.mem_append_right _ (List.mem_append_right _ (List.mem_append_right _ (List.mem_append_right _ (List.mem_append_right _ (List.mem_append_right _ (List.mem_append_right _ (List.mem_append_right _ (List.mem_append_right _ (List.mem_append_right _ (List.mem_append_right _ (List.mem_append_right _ (List.mem_append_right _ (List.mem_append_right _ (List.mem_append_right _ (List.mem_append_left _ h))))))))))))))))))))))))))))))))))))))))))))))))))))))))))
set_option maxRecDepth 100000 in
theorem bi_wsL_law0_r44 : ∀ w ∈ wsL_law0_r44, w ∈ wsL_law := fun _ h => (List.mem_append_left _ (List.mem_append_left _ (List.mem_append_left _ (List.mem_append_left _ (List.mem_append_left _ (List.mem_append_left _ (List.mem_append_left _ (List.mem_append_left _ (List.mem_append_left _ (List.mem_append_left _ (List.mem_append_left _ (List.mem_append_left _ (List.mem_append_left _ (List.mem_append_left _ (List.mem_append_left _ (List.mem_append_right _ (List.mem_append_right _ (List.mem_append_right _ (List.mem_append_right _ (List.mem_append_right _ (List.mem_append_right _ (List.mem_append_right _ (List.mem_append_right _ (List.mem_append_right _ (List.mem_append_right _ (List.mem_append_right _ (List.mem_append_right _ (List.mem_append_right _ (List.mem_append_right _ (List.mem_append_right _ (List.mem_append_right _ (List.mem_append_right _ (List.mem_append_right _ (List.mem_append_right _ (List.mem_append_right _ (List.mem_append_right _ (List.mem_append_right _ (List.mem_append_right _ (List.mem_append_right _ (List.mem_append_right _ (List.mem_append_right _ (List.mem_append_right _ (List.mem_append_right _ (List.mem_append_right _ (List.mem_append_right _ (List.mem_append_right _ (List.mem_append_right _ (List.mem_append_right _ (List.mem_append_right _ (List.mem_append_right _ (List.mem_append_right _ (List.mem_append_right _ (List.mem_append_right _ (List.mem_append_right _ (List.mem_append_right _ (List.mem_append_right _ (List.mem_append_right _ (List.mem_append_right _ (List.mem_append_left _ h)))))))))))))))))))))))))))))))))))))))))))))))))))))))))))
set_option maxRecDepth 100000 in
theorem bi_wsL_law0_r45 : ∀ w ∈ wsL_law0_r45, w ∈ wsL_law := fun _ h => (List.mem_append_left _ (List.mem_append_left _ (List.mem_append_left _ (List.mem_append_left _ (List.mem_append_left _ (List.mem_append_left _ (List.mem_append_left _ (List.mem_append_left _ (List.mem_append_left _ (List.mem_append_left _ (List.mem_append_left _ (List.mem_append_left _ (List.mem_append_left _ (List.mem_append_left _ (List.mem_append_left _ (List.mem_append_right _ (List.mem_append_right _ (List.mem_append_right _ (List.mem_append_right _ (List.mem_append_right _ (List.mem_append_right _ (List.mem_append_right _ (List.mem_append_right _ (List.mem_append_right _ (List.mem_append_right _ (List.mem_append_right _ (List.mem_append_right _ (List.mem_append_right _ (List.mem_append_right _ (List.mem_append_right _ (List.mem_append_right _ (List.mem_append_right _ (List.mem_append_right _ (List.mem_append_right _ (List.mem_append_right _ (List.mem_append_right _ (List.mem_append_right _ (List.mem_append_right _ (List.mem_append_right _ (List.mem_append_right _ (List.mem_append_right _ (List.mem_append_right _ (List.mem_append_right _ (List.mem_append_right _ (List.mem_append_right _ (List.mem_append_right _ (List.mem_append_right _ (List.mem_append_right _ (List.mem_append_right _ (List.mem_append_right _ (List.mem_append_right _ (List.mem_append_right _ (List.mem_append_right _ (List.mem_append_right _ (List.mem_append_right _ (List.mem_append_right _ (List.mem_append_right _ (List.mem_append_right _ (List.mem_append_right _ (List.mem_append_left _ h))))))))))))))))))))))))))))))))))))))))))))))))))))))))))))
set_option maxRecDepth 100000 in
theorem bi_wsL_law0_r46 : ∀ w ∈ wsL_law0_r46, w ∈ wsL_law := fun _ h => (List.mem_append_left _ (List.mem_append_left _ (List.mem_append_left _ (List.mem_append_left _ (List.mem_append_left _ (List.mem_append_left _ (List.mem_append_left _ (List.mem_append_left _ (List.mem_append_left _ (List.mem_append_left _ (List.mem_append_left _ (List.mem_append_left _ (List.mem_append_left _ (List.mem_append_left _ (List.mem_append_left _ (List.mem_append_right _ (List.mem_append_right _ (List.mem_append_right _ (List.mem_append_right _ (List.mem_append_right _ (List.mem_append_right _ (List.mem_append_right _ (List.mem_append_right _ (List.mem_append_right _ (List.mem_append_right _ (List.mem_append_right _ (List.mem_append_right _ (List.mem_append_right _ (List.mem_append_right _ (List.mem_append_right _ (List.mem_append_right _ (List.mem_append_right _ (List.mem_append_right _ (List.mem_append_right _ (List.mem_append_right _ (List.mem_append_right _ (List.mem_append_right _ (List.mem_append_right _ (List.mem_append_right _ (List.mem_append_right _ (List.mem_append_right _ (List.mem_append_right _ (List.mem_append_right _ (List.mem_append_right _ (List.mem_append_right _ (List.mem_append_right _ (List.mem_append_right _ (List.mem_append_right _ (List.mem_append_right _ (List.mem_append_right _ (List.mem_append_right _ (List.mem_append_right _ (List.mem_append_right _ (List.mem_append_right _ (List.mem_append_right _ (List.mem_append_right _ (List.mem_append_right _ (List.mem_append_right _ (List.mem_append_right _ (List.mem_append_right _ (List.mem_append_left _ h)))))))))))))))))))))))))))))))))))))))))))))))))))))))))))))
set_option maxRecDepth 100000 in
theorem bi_wsL_law0_r47 : ∀ w ∈ wsL_law0_r47, w ∈ wsL_law := fun _ h => (List.mem_append_left _ (List.mem_append_left _ (List.mem_append_left _ (List.mem_append_left _ (List.mem_append_left _ (List.mem_append_left _ (List.mem_append_left _ (List.mem_append_left _ (List.mem_append_left _ (List.mem_append_left _ (List.mem_append_left _ (List.mem_append_left _ (List.mem_append_left _ (List.mem_append_left _ (List.mem_append_left _ (List.mem_append_right _ (List.mem_append_right _ (List.mem_append_right _ (List.mem_append_right _ (List.mem_append_right _ (List.mem_append_right _ (List.mem_append_right _ (List.mem_append_right _ (List.mem_append_right _ (List.mem_append_right _ (List.mem_append_right _ (List.mem_append_right _ (List.mem_append_right _ (List.mem_append_right _ (List.mem_append_right _ (List.mem_append_right _ (List.mem_append_right _ (List.mem_append_right _ (List.mem_append_right _ (List.mem_append_right _ (List.mem_append_right _ (List.mem_append_right _ (List.mem_append_right _ (List.mem_append_right _ (List.mem_append_right _ (List.mem_append_right _ (List.mem_append_right _ (List.mem_append_right _ (List.mem_append_right _ (List.mem_append_right _ (List.mem_append_right _ (List.mem_append_right _ (List.mem_append_right _ (List.mem_append_right _ (List.mem_append_right _ (List.mem_append_right _ (List.mem_append_right _ (List.mem_append_right _ (List.mem_append_right _ (List.mem_append_right _ (List.mem_append_right _ (List.mem_append_right _ (List.mem_append_right _ (List.mem_append_right _ (List.mem_append_right _ (List.mem_append_right _ (List.mem_append_left _ h))))))))))))))))))))))))))))))))))))))))))))))))))))))))))))))
set_option maxRecDepth 100000 in
theorem bi_wsL_law0_r48 : ∀ w ∈ wsL_law0_r48, w ∈ wsL_law := fun _ h => (List.mem_append_left _ (List.mem_append_left _ (List.mem_append_left _ (List.mem_append_left _ (List.mem_append_left _ (List.mem_append_left _ (List.mem_append_left _ (List.mem_append_left _ (List.mem_append_left _ (List.mem_append_left _ (List.mem_append_left _ (List.mem_append_left _ (List.mem_append_left _ (List.mem_append_left _ (List.mem_append_left _ (List.mem_append_right _ (List.mem_append_right _ (List.mem_append_right _ (List.mem_append_right _ (List.mem_append_right _ (List.mem_append_right _ (List.mem_append_right _ (List.mem_append_right _ (List.mem_append_right _ (List.mem_append_right _ (List.mem_append_right _ (List.mem_append_right _ (List.mem_append_right _ (List.mem_append_right _ (List.mem_append_right _ (List.mem_append_right _ (List.mem_append_right _ (List.mem_append_right _ (List.mem_append_right _ (List.mem_append_right _ (List.mem_append_right _ (List.mem_append_right _ (List.mem_append_right _ (List.mem_append_right _ (List.mem_append_right _ (List.mem_append_right _ (List.mem_append_right _ (List.mem_append_right _ (List.mem_append_right _ (List.mem_append_right _ (List.mem_append_right _ (List.mem_append_right _ (List.mem_append_right _ (List.mem_append_right _ (List.mem_append_right _ (List.mem_append_right _ (List.mem_append_right _ (List.mem_append_right _ (List.mem_append_right _ (List.mem_append_right _ (List.mem_append_right _ (List.mem_append_right _ (List.mem_append_right _ (List.mem_append_right _ (List.mem_append_right _ (List.mem_append_right _ (List.mem_append_right _ (List.mem_append_left _ h)))))))))))))))))))))))))))))))))))))))))))))))))))))))))))))))
set_option maxRecDepth 100000 in
theorem bi_wsL_law0_r49 : ∀ w ∈ wsL_law0_r49, w ∈ wsL_law := fun _ h => (List.mem_append_left _ (List.mem_append_left _ (List.mem_append_left _ (List.mem_append_left _ (List.mem_append_left _ (List.mem_append_left _ (List.mem_append_left _ (List.mem_append_left _ (List.mem_append_left _ (List.mem_append_left _ (List.mem_append_left _ (List.mem_append_left _ (List.mem_append_left _ (List.mem_append_left _ (List.mem_append_left _ (List.mem_append_right _ (List.mem_append_right _ (List.mem_append_right _ (List.mem_append_right _ (List.mem_append_right _ (List.mem_append_right _ (List.mem_append_right _ (List.mem_append_right _ (List.mem_append_right _ (List.mem_append_right _ (List.mem_append_right _ (List.mem_append_right _ (List.mem_append_right _ (List.mem_append_right _ (List.mem_append_right _ (List.mem_append_right _ (List.mem_append_right _ (List.mem_append_right _ (List.mem_append_right _ (List.mem_append_right _ (List.mem_append_right _ (List.mem_append_right _ (List.mem_append_right _ (List.mem_append_right _ (List.mem_append_right _ (List.mem_append_right _ (List.mem_append_right _ (List.mem_append_right _ (List.mem_append_right _ (List.mem_append_right _ (List.mem_append_right _ (List.mem_append_right _ (List.mem_append_right _ (List.mem_append_right _ (List.mem_append_right _ (List.mem_append_right _ (List.mem_append_right _ (List.mem_append_right _ (List.mem_append_right _ (List.mem_append_right _ (List.mem_append_right _ (List.mem_append_right _ (List.mem_append_right _ (List.mem_append_right _ (List.mem_append_right _ (List.mem_append_right _ (List.mem_append_right _ (List.mem_append_right _ (List.mem_append_left _ h))))))))))))))))))))))))))))))))))))))))))))))))))))))))))))))))
set_option maxRecDepth 100000 in
theorem bi_wsL_law0_r50 : ∀ w ∈ wsL_law0_r50, w ∈ wsL_law := fun _ h => (List.mem_append_left _ (List.mem_append_left _ (List.mem_append_left _ (List.mem_append_left _ (List.mem_append_left _ (List.mem_append_left _ (List.mem_append_left _ (List.mem_append_left _ (List.mem_append_left _ (List.mem_append_left _ (List.mem_append_left _ (List.mem_append_left _ (List.mem_append_left _ (List.mem_append_left _ (List.mem_append_left _ (List.mem_append_right _ (List.mem_append_right _ (List.mem_append_right _ (List.mem_append_right _ (List.mem_append_right _ (List.mem_append_right _ (List.mem_append_right _ (List.mem_append_right _ (List.mem_append_right _ (List.mem_append_right _ (List.mem_append_right _ (List.mem_append_right _ (List.mem_append_right _ (List.mem_append_right _ (List.mem_append_right _ (List.mem_append_right _ (List.mem_append_right _ (List.mem_append_right _ (List.mem_append_right _ (List.mem_append_right _ (List.mem_append_right _ (List.mem_append_right _ (List.mem_append_right _ (List.mem_append_right _ (List.mem_append_right _ (List.mem_append_right _ (List.mem_append_right _ (List.mem_append_right _ (List.mem_append_right _ (List.mem_append_right _ (List.mem_append_right _ (List.mem_append_right _ (List.mem_append_right _ (List.mem_append_right _ (List.mem_append_right _ (List.mem_append_right _ (List.mem_append_right _ (List.mem_append_right _ (List.mem_append_right _ (List.mem_append_right _ (List.mem_append_right _ (List.mem_append_right _ (List.mem_append_right _ (List.mem_append_right _ (List.mem_append_right _ (List.mem_append_right _ (List.mem_append_right _ (List.mem_append_right _ (List.mem_append_right _ (List.mem_append_left _ h)))))))))))))))))))))))))))))))))))))))))))))))))))))))))))))))))
set_option maxRecDepth 100000 in
theorem bi_wsL_law0_r51 : ∀ w ∈ wsL_law0_r51, w ∈ wsL_law := fun _ h => (List.mem_append_left _ (List.mem_append_left _ (List.mem_append_left _ (List.mem_append_left _ (List.mem_append_left _ (List.mem_append_left _ (List.mem_append_left _ (List.mem_append_left _ (List.mem_append_left _ (List.mem_append_left _ (List.mem_append_left _ (List.mem_append_left _ (List.mem_append_left _ (List.mem_append_left _ (List.mem_append_left _ (List.mem_append_right _ (List.mem_append_right _ (List.mem_append_right _ (List.mem_append_right _ (List.mem_append_right _ (List.mem_append_right _ (List.mem_append_right _ (List.mem_append_right _ (List.mem_append_right _ (List.mem_append_right _ (List.mem_append_right _ (List.mem_append_right _ (List.mem_append_right _ (List.mem_append_right _ (List.mem_append_right _ (List.mem_append_right _ (List.mem_append_right _ (List.mem_append_right _ (List.mem_append_right _ (List.mem_append_right _ (List.mem_append_right _ (List.mem_append_right _ (List.mem_append_right _ (List.mem_append_right _ (List.mem_append_right _ (List.mem_append_right _ (List.mem_append_right _ (List.mem_append_right _ (List.mem_append_right _ (List.mem_append_right _ (List.mem_append_right _ (List.mem_append_right _ (List.mem_append_right _ (List.mem_append_right _ (List.mem_append_right _ (List.mem_append_right _ (List.mem_append_right _ (List.mem_append_right _ (List.mem_append_right _ (List.mem_append_right _ (List.mem_append_right _ (List.mem_append_right _ (List.mem_append_right _ (List.mem_append_right _ (List.mem_append_right _ (List.mem_append_right _ (List.mem_append_right _ (List.mem_append_right _ (List.mem_append_right _ (List.mem_append_right _ (List.mem_append_left _ h))))))))))))))))))))))))))))))))))))))))))))))))))))))))))))))))))
set_option maxRecDepth 100000 in
theorem bi_wsL_law0_r52 : ∀ w ∈ wsL_law0_r52, w ∈ wsL_law := fun _ h => (List.mem_append_left _ (List.mem_append_left _ (List.mem_append_left _ (List.mem_append_left _ (List.mem_append_left _ (List.mem_append_left _ (List.mem_append_left _ (List.mem_append_left _ (List.mem_append_left _ (List.mem_append_left _ (List.mem_append_left _ (List.mem_append_left _ (List.mem_append_left _ (List.mem_append_left _ (List.mem_append_left _ (List.mem_append_right _ (List.mem_append_right _ (List.mem_append_right _ (List.mem_append_right _ (List.mem_append_right _ (List.mem_append_right _ (List.mem_append_right _ (List.mem_append_right _ (List.mem_append_right _ (List.mem_append_right _ (List.mem_append_right _ (List.mem_append_right _ (List.mem_append_right _ (List.mem_append_right _ (List.mem_append_right _ (List.mem_append_right _ (List.mem_append_right _ (List.mem_append_right _ (List.mem_append_right _ (List.mem_append_right _ (List.mem_append_right _ (List.mem_append_right _ (List.mem_append_right _ (List.mem_append_right _ (List.mem_append_right _ (List.mem_append_right _ (List.mem_append_right _ (List.mem_append_right _ (List.mem_append_right _ (List.mem_append_right _ (List.mem_append_right _ (List.mem_append_right _ (List.mem_append_right _ (List.mem_append_right _ (List.mem_append_right _ (List.mem_append_right _ (List.mem_append_right _ (List.mem_append_right _ (List.mem_append_right _ (List.mem_append_right _ (List.mem_append_right _ (List.mem_append_right _ (List.mem_append_right _ (List.mem_append_right _ (List.mem_append_right _ (List.mem_append_right _ (List.mem_append_right _ (List.mem_append_right _ (List.mem_append_right _ (List.mem_append_right _ (List.mem_append_right _ (List.mem_append_left _ h)))))))))))))))))))))))))))))))))))))))))))))))))))))))))))))))))))
set_option maxRecDepth 100000 in
theorem bi_wsL_law0_r53 : ∀ w ∈ wsL_law0_r53, w ∈ wsL_law := fun _ h => (List.mem_append_left _ (List.mem_append_left _ (List.mem_append_left _ (List.mem_append_left _ (List.mem_append_left _ (List.mem_append_left _ (List.mem_append_left _ (List.mem_append_left _ (List.mem_append_left _ (List.mem_append_left _ (List.mem_append_left _ (List.mem_append_left _ (List.mem_append_left _ (List.mem_append_left _ (List.mem_append_left _ (List.mem_append_right _ (List.mem_append_right _ (List.mem_append_right _ (List.mem_append_right _ (List.mem_append_right _ (List.mem_append_right _ (List.mem_append_right _ (List.mem_append_right _ (List.mem_append_right _ (List.mem_append_right _ (List.mem_append_right _ (List.mem_append_right _ (List.mem_append_right _ (List.mem_append_right _ (List.mem_append_right _ (List.mem_append_right _ (List.mem_append_right _ (List.mem_append_right _ (List.mem_append_right _ (List.mem_append_right _ (List.mem_append_right _ (List.mem_append_right _ (List.mem_append_right _ (List.mem_append_right _ (List.mem_append_right _ (List.mem_append_right _ (List.mem_append_right _ (List.mem_append_right _ (List.mem_append_right _ (List.mem_append_right _ (List.mem_append_right _ (List.mem_append_right _ (List.mem_append_right _ (List.mem_append_right _ (List.mem_append_right _ (List.mem_append_right _ (List.mem_append_right _ (List.mem_append_right _ (List.mem_append_right _ (List.mem_append_right _ (List.mem_append_right _ (List.mem_append_right _ (List.mem_append_right _ (List.mem_append_right _ (List.mem_append_right _ (List.mem_append_right _ (List.mem_append_right _ (List.mem_append_right _ (List.mem_append_right _ (List.mem_append_right _ (List.mem_append_right _ (List.mem_append_right _ (List.mem_append_left _ h))))))))))))))))))))))))))))))))))))))))))))))))))))))))))))))))))))
set_option maxRecDepth 100000 in
theorem bi_wsL_law0_r54 : ∀ w ∈ wsL_law0_r54, w ∈ wsL_law := fun _ h => (List.mem_append_left _ (List.mem_append_left _ (List.mem_append_left _ (List.mem_append_left _ (List.mem_append_left _ (List.mem_append_left _ (List.mem_append_left _ (List.mem_append_left _ (List.mem_append_left _ (List.mem_append_left _ (List.mem_append_left _ (List.mem_append_left _ (List.mem_append_left _ (List.mem_append_left _ (List.mem_append_left _ (List.mem_append_right _ (List.mem_append_right _ (List.mem_append_right _ (List.mem_append_right _ (List.mem_append_right _ (List.mem_append_right _ (List.mem_append_right _ (List.mem_append_right _ (List.mem_append_right _ (List.mem_append_right _ (List.mem_append_right _ (List.mem_append_right _ (List.mem_append_right _ (List.mem_append_right _ (List.mem_append_right _ (List.mem_append_right _ (List.mem_append_right _ (List.mem_append_right _ (List.mem_append_right _ (List.mem_append_right _ (List.mem_append_right _ (List.mem_append_right _ (List.mem_append_right _ (List.mem_append_right _ (List.mem_append_right _ (List.mem_append_right _ (List.mem_append_right _ (List.mem_append_right _ (List.mem_append_right _ (List.mem_append_right _ (List.mem_append_right _ (List.mem_append_right _ (List.mem_append_right _ (List.mem_append_right _ (List.mem_append_right _ (List.mem_append_right _ (List.mem_append_right _ (List.mem_append_right _ (List.mem_append_right _ (List.mem_append_right _ (List.mem_append_right _ (List.mem_append_right _ (List.mem_append_right _ (List.mem_append_right _ (List.mem_append_right _ (List.mem_append_right _ (List.mem_append_right _ (List.mem_append_right _ (List.mem_append_right _ (List.mem_append_right _ (List.mem_append_right _ (List.mem_append_right _ (List.mem_append_right _ (List.mem_append_left _ h)))))))))))))))))))))))))))))))))))))))))))))))))))))))))))))))))))))
set_option maxRecDepth 100000 in
theorem bi_wsL_law0_r55 : ∀ w ∈ wsL_law0_r55, w ∈ wsL_law := fun _ h => (List.mem_append_left _ (List.mem_append_left _ (List.mem_append_left _ (List.mem_append_left _ (List.mem_append_left _ (List.mem_append_left _ (List.mem_append_left _ (List.mem_append_left _ (List.mem_append_left _ (List.mem_append_left _ (List.mem_append_left _ (List.mem_append_left _ (List.mem_append_left _ (List.mem_append_left _ (List.mem_append_left _ (List.mem_append_right _ (List.mem_append_right _ (List.mem_append_right _ (List.mem_append_right _ (List.mem_append_right _ (List.mem_append_right _ (List.mem_append_right _ (List.mem_append_right _ (List.mem_append_right _ (List.mem_append_right _ (List.mem_append_right _ (List.mem_append_right _ (List.mem_append_right _ (List.mem_append_right _ (List.mem_append_right _ (List.mem_append_right _ (List.mem_append_right _ (List.mem_append_right _ (List.mem_append_right _ (List.mem_append_right _ (List.mem_append_right _ (List.mem_append_right _ (List.mem_append_right _ (List.mem_append_right _ (List.mem_append_right _ (List.mem_append_right _ (List.mem_append_right _ (List.mem_append_right _ (List.mem_append_right _ (List.mem_append_right _ (List.mem_append_right _ (List.mem_append_right _ (List.mem_append_right _ (List.mem_append_right _ (List.mem_append_right _ (List.mem_append_right _ (List.mem_append_right _ (List.mem_append_right _ (List.mem_append_right _ (List.mem_append_right _ (List.mem_append_right _ (List.mem_append_right _ (List.mem_append_right _ (List.mem_append_right _ (List.mem_append_right _ (List.mem_append_right _ (List.mem_append_right _ (List.mem_append_right _ (List.mem_append_right _ (List.mem_append_right _ (List.mem_append_right _ (List.mem_append_right _ (List.mem_append_right _ (List.mem_append_right _ (List.mem_append_left _ h))))))))))))))))))))))))))))))))))))))))))))))))))))))))))))))))))))))
set_option maxRecDepth 100000 in
theorem bi_wsL_law0_r56 : ∀ w ∈ wsL_law0_r56, w ∈ wsL_law := fun _ h => (List.mem_append_left _ (List.mem_append_left _ (List.mem_append_left _ (List.mem_append_left _ (List.mem_append_left _ (List.mem_append_left _ (List.mem_append_left _ (List.mem_append_left _ (List.mem_append_left _ (List.mem_append_left _ (List.mem_append_left _ (List.mem_append_left _ (List.mem_append_left _ (List.mem_append_left _ (List.mem_append_left _ (List.mem_append_right _ (List.mem_append_right _ (List.mem_append_right _ (List.mem_append_right _ (List.mem_append_right _ (List.mem_append_right _ (List.mem_append_right _ (List.mem_append_right _ (List.mem_append_right _ (List.mem_append_right _ (List.mem_append_right _ (List.mem_append_right _ (List.mem_append_right _ (List.mem_append_right _ (List.mem_append_right _ (List.mem_append_right _ (List.mem_append_right _ (List.mem_append_right _ (List.mem_append_right _ (List.mem_append_right _ (List.mem_append_right _ (List.mem_append_right _ (List.mem_append_right _ (List.mem_append_right _ (List.mem_append_right _ (List.mem_append_right _ (List.mem_append_right _ (List.mem_append_right _ (List.mem_append_right _ (List.mem_append_right _ (List.mem_append_right _ (List.mem_append_right _ (List.mem_append_right _ (List.mem_append_right _ (List.mem_append_right _ (List.mem_append_right _ (List.mem_append_right _ (List.mem_append_right _ (List.mem_append_right _ (List.mem_append_right _ (List.mem_append_right _ (List.mem_append_right _ (List.mem_append_right _ (List.mem_append_right _ (List.mem_append_right _ (List.mem_append_right _ (List.mem_append_right _ (List.mem_append_right _ (List.mem_append_right _ (List.mem_append_right _ (List.mem_append_right _ (List.mem_append_right _ (List.mem_append_right _ (List.mem_append_right _ (List.mem_append_right _ (List.mem_append_left _ h)))))))))))))))))))))))))))))))))))))))))))))))))))))))))))))))))))))))
set_option maxRecDepth 100000 in
theorem bi_wsL_law0_r57 : ∀ w ∈ wsL_law0_r57, w ∈ wsL_law := fun _ h => (List.mem_append_left _ (List.mem_append_left _ (List.mem_append_left _ (List.mem_append_left _ (List.mem_append_left _ (List.mem_append_left _ (List.mem_append_left _ (List.mem_append_left _ (List.mem_append_left _ (List.mem_append_left _ (List.mem_append_left _ (List.mem_append_left _ (List.mem_append_left _ (List.mem_append_left _ (List.mem_append_left _ (List.mem_append_right _ (List.mem_append_right _ (List.mem_append_right _ (List.mem_append_right _ (List.mem_append_right _ (List.mem_append_right _ (List.mem_append_right _ (List.mem_append_right _ (List.mem_append_right _ (List.mem_append_right _ (List.mem_append_right _ (List.mem_append_right _ (List.mem_append_right _ (List.mem_append_right _ (List.mem_append_right _ (List.mem_append_right _ (List.mem_append_right _ (List.mem_append_right _ (List.mem_append_right _ (List.mem_append_right _ (List.mem_append_right _ (List.mem_append_right _ (List.mem_append_right _ (List.mem_append_right _ (List.mem_append_right _ (List.mem_append_right _ (List.mem_append_right _ (List.mem_append_right _ (List.mem_append_right _ (List.mem_append_right _ (List.mem_append_right _ (List.mem_append_right _ (List.mem_append_right _ (List.mem_append_right _ (List.mem_append_right _ (List.mem_append_right _ (List.mem_append_right _ (List.mem_append_right _ (List.mem_append_right _ (List.mem_append_right _ (List.mem_append_right _ (List.mem_append_right _ (List.mem_append_right _ (List.mem_append_right _ (List.mem_append_right _ (List.mem_append_right _ (List.mem_append_right _ (List.mem_append_right _ (List.mem_append_right _ (List.mem_append_right _ (List.mem_append_right _ (List.mem_append_right _ (List.mem_append_right _ (List.mem_append_right _ (List.mem_append_right _ (List.mem_append_right _ (List.mem_append_left _ h))))))))))))))))))))))))))))))))))))))))))))))))))))))))))))))))))))))))
set_option maxRecDepth 100000 in
theorem bi_wsL_law0_r58 : ∀ w ∈ wsL_law0_r58, w ∈ wsL_law := fun _ h => (List.mem_append_left _ (List.mem_append_left _ (List.mem_append_left _ (List.mem_append_left _ (List.mem_append_left _ (List.mem_append_left _ (List.mem_append_left _ (List.mem_append_left _ (List.mem_append_left _ (List.mem_append_left _ (List.mem_append_left _ (List.mem_append_left _ (List.mem_append_left _ (List.mem_append_left _ (List.mem_append_left _ (List.mem_append_right _ (List.mem_append_right _ (List.mem_append_right _ (List.mem_append_right _ (List.mem_append_right _ (List.mem_append_right _ (List.mem_append_right _ (List.mem_append_right _ (List.mem_append_right _ (List.mem_append_right _ (List.mem_append_right _ (List.mem_append_right _ (List.mem_append_right _ (List.mem_append_right _ (List.mem_append_right _ (List.mem_append_right _ (List.mem_append_right _ (List.mem_append_right _ (List.mem_append_right _ (List.mem_append_right _ (List.mem_append_right _ (List.mem_append_right _ (List.mem_append_right _ (List.mem_append_right _ (List.mem_append_right _ (List.mem_append_right _ (List.mem_append_right _ (List.mem_append_right _ (List.mem_append_right _ (List.mem_append_right _ (List.mem_append_right _ (List.mem_append_right _ (List.mem_append_right _ (List.mem_append_right _ (List.mem_append_right _ (List.mem_append_right _ (List.mem_append_right _ (List.mem_append_right _ (List.mem_append_right _ (List.mem_append_right _ (List.mem_append_right _ (List.mem_append_right _ (List.mem_append_right _ (List.mem_append_right _ (List.mem_append_right _ (List.mem_append_right _ (List.mem_append_right _ (List.mem_append_right _ (List.mem_append_right _ (List.mem_append_right _ (List.mem_append_right _ (List.mem_append_right _ (List.mem_append_right _ (List.mem_append_right _ (List.mem_append_right _ (List.mem_append_right _ (List.mem_append_right _ (List.mem_append_left _ h)))))))))))))))))))))))))))))))))))))))))))))))))))))))))))))))))))))))))
set_option maxRecDepth 100000 in
theorem bi_wsL_law0_r59 : ∀ w ∈ wsL_law0_r59, w ∈ wsL_law := fun _ h => (List.mem_append_left _ (List.mem_append_left _ (List.mem_append_left _ (List.mem_append_left _ (List.mem_append_left _ (List.mem_append_left _ (List.mem_append_left _ (List.mem_append_left _ (List.mem_append_left _ (List.mem_append_left _ (List.mem_append_left _ (List.mem_append_left _ (List.mem_append_left _ (List.mem_append_left _ (List.mem_append_left _ (List.mem_append_right _ (List.mem_append_right _ (List.mem_append_right _ (List.mem_append_right _ (List.mem_append_right _ (List.mem_append_right _ (List.mem_append_right _ (List.mem_append_right _ (List.mem_append_right _ (List.mem_append_right _ (List.mem_append_right _ (List.mem_append_right _ (List.mem_append_right _ (List.mem_append_right _ (List.mem_append_right _ (List.mem_append_right _ (List.mem_append_right _ (List.mem_append_right _ (List.mem_append_right _ (List.mem_append_right _ (List.mem_append_right _ (List.mem_append_right _ (List.mem_append_right _ (List.mem_append_right _ (List.mem_append_right _ (List.mem_append_right _ (List.mem_append_right _ (List.mem_append_right _ (List.mem_append_right _ (List.mem_append_right _ (List.mem_append_right _ (List.mem_append_right _ (List.mem_append_right _ (List.mem_append_right _ (List.mem_append_right _ (List.mem_append_right _ (List.mem_append_right _ (List.mem_append_right _ (List.mem_append_right _ (List.mem_append_right _ (List.mem_append_right _ (List.mem_append_right _ (List.mem_append_right _ (List.mem_append_right _ (List.mem_append_right _ (List.mem_append_right _ (List.mem_append_right _ (List.mem_append_right _ (List.mem_append_right _ (List.mem_append_right _ (List.mem_append_right _ (List.mem_append_right _ (List.mem_append_right _ (List.mem_append_right _ (List.mem_append_right _ (List.mem_append_right _ (List.mem_append_right _ (List.mem_append_right _ h)))))))))))))))))))))))))))))))))))))))))))))))))))))))))))))))))))))))))
set_option maxRecDepth 100000 in
theorem bi_wsX110 : ∀ w ∈ wsX110, w ∈ wsL_law := fun _ h => (List.mem_append_left _ (List.mem_append_left _ (List.mem_append_left _ (List.mem_append_left _ (List.mem_append_left _ (List.mem_append_left _ (List.mem_append_left _ (List.mem_append_left _ (List.mem_append_left _ (List.mem_append_left _ (List.mem_append_left _ (List.mem_append_left _ (List.mem_append_left _ (List.mem_append_left _ (List.mem_append_right _ h)))))))))))))))
set_option maxRecDepth 100000 in
theorem bi_wsX120 : ∀ w ∈ wsX120, w ∈ wsL_law := fun _ h => (List.mem_append_left _ (List.mem_append_left _ (List.mem_append_left _ (List.mem_append_left _ (List.mem_append_left _ (List.mem_append_left _ (List.mem_append_left _ (List.mem_append_left _ (List.mem_append_left _ (List.mem_append_left _ (List.mem_append_left _ (List.mem_append_left _ (List.mem_append_left _ (List.mem_append_right _ h))))))))))))))
set_option maxRecDepth 100000 in
theorem bi_wsX100 : ∀ w ∈ wsX100, w ∈ wsL_law := fun _ h => (List.mem_append_left _ (List.mem_append_left _ (List.mem_append_left _ (List.mem_append_left _ (List.mem_append_left _ (List.mem_append_left _ (List.mem_append_left _ (List.mem_append_left _ (List.mem_append_left _ (List.mem_append_left _ (List.mem_append_left _ (List.mem_append_left _ (List.mem_append_right _ h)))))))))))))
set_option maxRecDepth 100000 in
theorem bi_wsX60 : ∀ w ∈ wsX60, w ∈ wsL_law := fun _ h => (List.mem_append_left _ (List.mem_append_left _ (List.mem_append_left _ (List.mem_append_left _ (List.mem_append_left _ (List.mem_append_left _ (List.mem_append_left _ (List.mem_append_left _ (List.mem_append_left _ (List.mem_append_left _ (List.mem_append_left _ (List.mem_append_right _ h))))))))))))
set_option maxRecDepth 100000 in
theorem bi_wsX10 : ∀ w ∈ wsX10, w ∈ wsL_law := fun _ h => (List.mem_append_left _ (List.mem_append_left _ (List.mem_append_left _ (List.mem_append_left _ (List.mem_append_left _ (List.mem_append_left _ (List.mem_append_left _ (List.mem_append_left _ (List.mem_append_left _ (List.mem_append_left _ (List.mem_append_right _ h)))))))))))
set_option maxRecDepth 100000 in
theorem bi_wsX50 : ∀ w ∈ wsX50, w ∈ wsL_law := fun _ h => (List.mem_append_left _ (List.mem_append_left _ (List.mem_append_left _ (List.mem_append_left _ (List.mem_append_left _ (List.mem_append_left _ (List.mem_append_left _ (List.mem_append_left _ (List.mem_append_left _ (List.mem_append_right _ h))))))))))
set_option maxRecDepth 100000 in
theorem bi_wsX20 : ∀ w ∈ wsX20, w ∈ wsL_law := fun _ h => (List.mem_append_left _ (List.mem_append_left _ (List.mem_append_left _ (List.mem_append_left _ (List.mem_append_left _ (List.mem_append_left _ (List.mem_append_left _ (List.mem_append_left _ (List.mem_append_right _ h)))))))))
set_option maxRecDepth 100000 in
theorem bi_wsX90 : ∀ w ∈ wsX90, w ∈ wsL_law := fun _ h => (List.mem_append_left _ (List.mem_append_left _ (List.mem_append_left _ (List.mem_append_left _ (List.mem_append_left _ (List.mem_append_left _ (List.mem_append_left _ (List.mem_append_right _ h))))))))
set_option maxRecDepth 100000 in
theorem bi_wsX30 : ∀ w ∈ wsX30, w ∈ wsL_law := fun _ h => (List.mem_append_left _ (List.mem_append_left _ (List.mem_append_left _ (List.mem_append_left _ (List.mem_append_left _ (List.mem_append_left _ (List.mem_append_right _ h)))))))
set_option maxRecDepth 100000 in
theorem bi_wsX00 : ∀ w ∈ wsX00, w ∈ wsL_law := fun _ h => (List.mem_append_left _ (List.mem_append_left _ (List.mem_append_left _ (List.mem_append_left _ (List.mem_append_left _ (List.mem_append_right _ h))))))
set_option maxRecDepth 100000 in
theorem bi_wsX80 : ∀ w ∈ wsX80, w ∈ wsL_law := fun _ h => (List.mem_append_left _ (List.mem_append_left _ (List.mem_append_left _ (List.mem_append_left _ (List.mem_append_right _ h)))))
set_option maxRecDepth 100000 in
theorem bi_wsX40 : ∀ w ∈ wsX40, w ∈ wsL_law := fun _ h => (List.mem_append_left _ (List.mem_append_left _ (List.mem_append_left _ (List.mem_append_right _ h))))
set_option maxRecDepth 100000 in
theorem bi_wsX70 : ∀ w ∈ wsX70, w ∈ wsL_law := fun _ h => (List.mem_append_left _ (List.mem_append_left _ (List.mem_append_right _ h)))
set_option maxRecDepth 100000 in
theorem bi_x : ∀ w ∈ (vx_atX RX11 163 "java/util/NoSuchElementException" 13 prog_23_method_4_code ["java/lang/RuntimeException", "java/lang/Exception"]).filter goodWord, w ∈ wsL_law := fun _ h => List.mem_append_right _ h
set_option maxRecDepth 100000 in
theorem bw_wsL_law0_r1 : ∀ w ∈ wsL_law0_r1, goodWord w = true := fun w h => List.all_eq_true.mp (show (wsL_law0_r1).all goodWord = true from rfl) w h
set_option maxRecDepth 100000 in
theorem bw_wsL_law0_r2 : ∀ w ∈ wsL_law0_r2, goodWord w = true := fun w h => List.all_eq_true.mp (show (wsL_law0_r2).all goodWord = true from rfl) w h
set_option maxRecDepth 100000 in
theorem bw_wsL_law0_r3 : ∀ w ∈ wsL_law0_r3, goodWord w = true := fun w h => List.all_eq_true.mp (show (wsL_law0_r3).all goodWord = true from rfl) w h
set_option maxRecDepth 100000 in
theorem bw_wsL_law0_r4 : ∀ w ∈ wsL_law0_r4, goodWord w = true := fun w h => List.all_eq_true.mp (show (wsL_law0_r4).all goodWord = true from rfl) w h
set_option maxRecDepth 100000 in
theorem bw_wsL_law0_r5 : ∀ w ∈ wsL_law0_r5, goodWord w = true := fun w h => List.all_eq_true.mp (show (wsL_law0_r5).all goodWord = true from rfl) w h
set_option maxRecDepth 100000 in
theorem bw_wsL_law0_r6 : ∀ w ∈ wsL_law0_r6, goodWord w = true := fun w h => List.all_eq_true.mp (show (wsL_law0_r6).all goodWord = true from rfl) w h
set_option maxRecDepth 100000 in
theorem bw_wsL_law0_r7 : ∀ w ∈ wsL_law0_r7, goodWord w = true := fun w h => List.all_eq_true.mp (show (wsL_law0_r7).all goodWord = true from rfl) w h
set_option maxRecDepth 100000 in
theorem bw_wsL_law0_r8 : ∀ w ∈ wsL_law0_r8, goodWord w = true := fun w h => List.all_eq_true.mp (show (wsL_law0_r8).all goodWord = true from rfl) w h
set_option maxRecDepth 100000 in
theorem bw_wsL_law0_r9 : ∀ w ∈ wsL_law0_r9, goodWord w = true := fun w h => List.all_eq_true.mp (show (wsL_law0_r9).all goodWord = true from rfl) w h
set_option maxRecDepth 100000 in
theorem bw_wsL_law0_r10 : ∀ w ∈ wsL_law0_r10, goodWord w = true := fun w h => List.all_eq_true.mp (show (wsL_law0_r10).all goodWord = true from rfl) w h
set_option maxRecDepth 100000 in
theorem bw_wsL_law0_r11 : ∀ w ∈ wsL_law0_r11, goodWord w = true := fun w h => List.all_eq_true.mp (show (wsL_law0_r11).all goodWord = true from rfl) w h
set_option maxRecDepth 100000 in
theorem bw_wsL_law0_r12 : ∀ w ∈ wsL_law0_r12, goodWord w = true := fun w h => List.all_eq_true.mp (show (wsL_law0_r12).all goodWord = true from rfl) w h
set_option maxRecDepth 100000 in
theorem bw_wsL_law0_r13 : ∀ w ∈ wsL_law0_r13, goodWord w = true := fun w h => List.all_eq_true.mp (show (wsL_law0_r13).all goodWord = true from rfl) w h
set_option maxRecDepth 100000 in
theorem bw_wsL_law0_r14 : ∀ w ∈ wsL_law0_r14, goodWord w = true := fun w h => List.all_eq_true.mp (show (wsL_law0_r14).all goodWord = true from rfl) w h
set_option maxRecDepth 100000 in
theorem bw_wsL_law0_r15 : ∀ w ∈ wsL_law0_r15, goodWord w = true := fun w h => List.all_eq_true.mp (show (wsL_law0_r15).all goodWord = true from rfl) w h
set_option maxRecDepth 100000 in
theorem bw_wsL_law0_r16 : ∀ w ∈ wsL_law0_r16, goodWord w = true := fun w h => List.all_eq_true.mp (show (wsL_law0_r16).all goodWord = true from rfl) w h
set_option maxRecDepth 100000 in
theorem bw_wsL_law0_r17 : ∀ w ∈ wsL_law0_r17, goodWord w = true := fun w h => List.all_eq_true.mp (show (wsL_law0_r17).all goodWord = true from rfl) w h
set_option maxRecDepth 100000 in
theorem bw_wsL_law0_r18 : ∀ w ∈ wsL_law0_r18, goodWord w = true := fun w h => List.all_eq_true.mp (show (wsL_law0_r18).all goodWord = true from rfl) w h
set_option maxRecDepth 100000 in
theorem bw_wsL_law0_r19 : ∀ w ∈ wsL_law0_r19, goodWord w = true := fun w h => List.all_eq_true.mp (show (wsL_law0_r19).all goodWord = true from rfl) w h
set_option maxRecDepth 100000 in
theorem bw_wsL_law0_r20 : ∀ w ∈ wsL_law0_r20, goodWord w = true := fun w h => List.all_eq_true.mp (show (wsL_law0_r20).all goodWord = true from rfl) w h
set_option maxRecDepth 100000 in
theorem bw_wsL_law0_r21 : ∀ w ∈ wsL_law0_r21, goodWord w = true := fun w h => List.all_eq_true.mp (show (wsL_law0_r21).all goodWord = true from rfl) w h
set_option maxRecDepth 100000 in
theorem bw_wsL_law0_r22 : ∀ w ∈ wsL_law0_r22, goodWord w = true := fun w h => List.all_eq_true.mp (show (wsL_law0_r22).all goodWord = true from rfl) w h
set_option maxRecDepth 100000 in
theorem bw_wsL_law0_r23 : ∀ w ∈ wsL_law0_r23, goodWord w = true := fun w h => List.all_eq_true.mp (show (wsL_law0_r23).all goodWord = true from rfl) w h
set_option maxRecDepth 100000 in
theorem bw_wsL_law0_r24 : ∀ w ∈ wsL_law0_r24, goodWord w = true := fun w h => List.all_eq_true.mp (show (wsL_law0_r24).all goodWord = true from rfl) w h
set_option maxRecDepth 100000 in
theorem bw_wsL_law0_r25 : ∀ w ∈ wsL_law0_r25, goodWord w = true := fun w h => List.all_eq_true.mp (show (wsL_law0_r25).all goodWord = true from rfl) w h
set_option maxRecDepth 100000 in
theorem bw_wsL_law0_r26 : ∀ w ∈ wsL_law0_r26, goodWord w = true := fun w h => List.all_eq_true.mp (show (wsL_law0_r26).all goodWord = true from rfl) w h
set_option maxRecDepth 100000 in
theorem bw_wsL_law0_r27 : ∀ w ∈ wsL_law0_r27, goodWord w = true := fun w h => List.all_eq_true.mp (show (wsL_law0_r27).all goodWord = true from rfl) w h
set_option maxRecDepth 100000 in
theorem bw_wsL_law0_r28 : ∀ w ∈ wsL_law0_r28, goodWord w = true := fun w h => List.all_eq_true.mp (show (wsL_law0_r28).all goodWord = true from rfl) w h
set_option maxRecDepth 100000 in
theorem bw_wsL_law0_r29 : ∀ w ∈ wsL_law0_r29, goodWord w = true := fun w h => List.all_eq_true.mp (show (wsL_law0_r29).all goodWord = true from rfl) w h
set_option maxRecDepth 100000 in
theorem bw_wsL_law0_r30 : ∀ w ∈ wsL_law0_r30, goodWord w = true := fun w h => List.all_eq_true.mp (show (wsL_law0_r30).all goodWord = true from rfl) w h
set_option maxRecDepth 100000 in
theorem bw_wsL_law0_r31 : ∀ w ∈ wsL_law0_r31, goodWord w = true := fun w h => List.all_eq_true.mp (show (wsL_law0_r31).all goodWord = true from rfl) w h
set_option maxRecDepth 100000 in
theorem bw_wsL_law0_r32 : ∀ w ∈ wsL_law0_r32, goodWord w = true := fun w h => List.all_eq_true.mp (show (wsL_law0_r32).all goodWord = true from rfl) w h
set_option maxRecDepth 100000 in
theorem bw_wsL_law0_r33 : ∀ w ∈ wsL_law0_r33, goodWord w = true := fun w h => List.all_eq_true.mp (show (wsL_law0_r33).all goodWord = true from rfl) w h
set_option maxRecDepth 100000 in
theorem bw_wsL_law0_r34 : ∀ w ∈ wsL_law0_r34, goodWord w = true := fun w h => List.all_eq_true.mp (show (wsL_law0_r34).all goodWord = true from rfl) w h
set_option maxRecDepth 100000 in
theorem bw_wsL_law0_r35 : ∀ w ∈ wsL_law0_r35, goodWord w = true := fun w h => List.all_eq_true.mp (show (wsL_law0_r35).all goodWord = true from rfl) w h
set_option maxRecDepth 100000 in
theorem bw_wsL_law0_r36 : ∀ w ∈ wsL_law0_r36, goodWord w = true := fun w h => List.all_eq_true.mp (show (wsL_law0_r36).all goodWord = true from rfl) w h
set_option maxRecDepth 100000 in
theorem bw_wsL_law0_r37 : ∀ w ∈ wsL_law0_r37, goodWord w = true := fun w h => List.all_eq_true.mp (show (wsL_law0_r37).all goodWord = true from rfl) w h
set_option maxRecDepth 100000 in
theorem bw_wsL_law0_r38 : ∀ w ∈ wsL_law0_r38, goodWord w = true := fun w h => List.all_eq_true.mp (show (wsL_law0_r38).all goodWord = true from rfl) w h
set_option maxRecDepth 100000 in
theorem bw_wsL_law0_r39 : ∀ w ∈ wsL_law0_r39, goodWord w = true := fun w h => List.all_eq_true.mp (show (wsL_law0_r39).all goodWord = true from rfl) w h
set_option maxRecDepth 100000 in
theorem bw_wsL_law0_r40 : ∀ w ∈ wsL_law0_r40, goodWord w = true := fun w h => List.all_eq_true.mp (show (wsL_law0_r40).all goodWord = true from rfl) w h
set_option maxRecDepth 100000 in
theorem bw_wsL_law0_r41 : ∀ w ∈ wsL_law0_r41, goodWord w = true := fun w h => List.all_eq_true.mp (show (wsL_law0_r41).all goodWord = true from rfl) w h
set_option maxRecDepth 100000 in
theorem bw_wsL_law0_r42 : ∀ w ∈ wsL_law0_r42, goodWord w = true := fun w h => List.all_eq_true.mp (show (wsL_law0_r42).all goodWord = true from rfl) w h
set_option maxRecDepth 100000 in
theorem bw_wsL_law0_r43 : ∀ w ∈ wsL_law0_r43, goodWord w = true := fun w h => List.all_eq_true.mp (show (wsL_law0_r43).all goodWord = true from rfl) w h
set_option maxRecDepth 100000 in
theorem bw_wsL_law0_r44 : ∀ w ∈ wsL_law0_r44, goodWord w = true := fun w h => List.all_eq_true.mp (show (wsL_law0_r44).all goodWord = true from rfl) w h
set_option maxRecDepth 100000 in
theorem bw_wsL_law0_r45 : ∀ w ∈ wsL_law0_r45, goodWord w = true := fun w h => List.all_eq_true.mp (show (wsL_law0_r45).all goodWord = true from rfl) w h
set_option maxRecDepth 100000 in
theorem bw_wsL_law0_r46 : ∀ w ∈ wsL_law0_r46, goodWord w = true := fun w h => List.all_eq_true.mp (show (wsL_law0_r46).all goodWord = true from rfl) w h
set_option maxRecDepth 100000 in
theorem bw_wsL_law0_r47 : ∀ w ∈ wsL_law0_r47, goodWord w = true := fun w h => List.all_eq_true.mp (show (wsL_law0_r47).all goodWord = true from rfl) w h
set_option maxRecDepth 100000 in
theorem bw_wsL_law0_r48 : ∀ w ∈ wsL_law0_r48, goodWord w = true := fun w h => List.all_eq_true.mp (show (wsL_law0_r48).all goodWord = true from rfl) w h
set_option maxRecDepth 100000 in
theorem bw_wsL_law0_r49 : ∀ w ∈ wsL_law0_r49, goodWord w = true := fun w h => List.all_eq_true.mp (show (wsL_law0_r49).all goodWord = true from rfl) w h
set_option maxRecDepth 100000 in
theorem bw_wsL_law0_r50 : ∀ w ∈ wsL_law0_r50, goodWord w = true := fun w h => List.all_eq_true.mp (show (wsL_law0_r50).all goodWord = true from rfl) w h
set_option maxRecDepth 100000 in
theorem bw_wsL_law0_r51 : ∀ w ∈ wsL_law0_r51, goodWord w = true := fun w h => List.all_eq_true.mp (show (wsL_law0_r51).all goodWord = true from rfl) w h
set_option maxRecDepth 100000 in
theorem bw_wsL_law0_r52 : ∀ w ∈ wsL_law0_r52, goodWord w = true := fun w h => List.all_eq_true.mp (show (wsL_law0_r52).all goodWord = true from rfl) w h
set_option maxRecDepth 100000 in
theorem bw_wsL_law0_r53 : ∀ w ∈ wsL_law0_r53, goodWord w = true := fun w h => List.all_eq_true.mp (show (wsL_law0_r53).all goodWord = true from rfl) w h
set_option maxRecDepth 100000 in
theorem bw_wsL_law0_r54 : ∀ w ∈ wsL_law0_r54, goodWord w = true := fun w h => List.all_eq_true.mp (show (wsL_law0_r54).all goodWord = true from rfl) w h
set_option maxRecDepth 100000 in
theorem bw_wsL_law0_r55 : ∀ w ∈ wsL_law0_r55, goodWord w = true := fun w h => List.all_eq_true.mp (show (wsL_law0_r55).all goodWord = true from rfl) w h
set_option maxRecDepth 100000 in
theorem bw_wsL_law0_r56 : ∀ w ∈ wsL_law0_r56, goodWord w = true := fun w h => List.all_eq_true.mp (show (wsL_law0_r56).all goodWord = true from rfl) w h
set_option maxRecDepth 100000 in
theorem bw_wsL_law0_r57 : ∀ w ∈ wsL_law0_r57, goodWord w = true := fun w h => List.all_eq_true.mp (show (wsL_law0_r57).all goodWord = true from rfl) w h
set_option maxRecDepth 100000 in
theorem bw_wsL_law0_r58 : ∀ w ∈ wsL_law0_r58, goodWord w = true := fun w h => List.all_eq_true.mp (show (wsL_law0_r58).all goodWord = true from rfl) w h
set_option maxRecDepth 100000 in
theorem bw_wsL_law0_r59 : ∀ w ∈ wsL_law0_r59, goodWord w = true := fun w h => List.all_eq_true.mp (show (wsL_law0_r59).all goodWord = true from rfl) w h
set_option maxRecDepth 100000 in
theorem bw_wsX110 : ∀ w ∈ wsX110, goodWord w = true := fun w h => List.all_eq_true.mp (show (wsX110).all goodWord = true from rfl) w h
set_option maxRecDepth 100000 in
theorem bw_wsX120 : ∀ w ∈ wsX120, goodWord w = true := fun w h => List.all_eq_true.mp (show (wsX120).all goodWord = true from rfl) w h
set_option maxRecDepth 100000 in
theorem bw_wsX100 : ∀ w ∈ wsX100, goodWord w = true := fun w h => List.all_eq_true.mp (show (wsX100).all goodWord = true from rfl) w h
set_option maxRecDepth 100000 in
theorem bw_wsX60 : ∀ w ∈ wsX60, goodWord w = true := fun w h => List.all_eq_true.mp (show (wsX60).all goodWord = true from rfl) w h
set_option maxRecDepth 100000 in
theorem bw_wsX10 : ∀ w ∈ wsX10, goodWord w = true := fun w h => List.all_eq_true.mp (show (wsX10).all goodWord = true from rfl) w h
set_option maxRecDepth 100000 in
theorem bw_wsX50 : ∀ w ∈ wsX50, goodWord w = true := fun w h => List.all_eq_true.mp (show (wsX50).all goodWord = true from rfl) w h
set_option maxRecDepth 100000 in
theorem bw_wsX20 : ∀ w ∈ wsX20, goodWord w = true := fun w h => List.all_eq_true.mp (show (wsX20).all goodWord = true from rfl) w h
set_option maxRecDepth 100000 in
theorem bw_wsX90 : ∀ w ∈ wsX90, goodWord w = true := fun w h => List.all_eq_true.mp (show (wsX90).all goodWord = true from rfl) w h
set_option maxRecDepth 100000 in
theorem bw_wsX30 : ∀ w ∈ wsX30, goodWord w = true := fun w h => List.all_eq_true.mp (show (wsX30).all goodWord = true from rfl) w h
set_option maxRecDepth 100000 in
theorem bw_wsX00 : ∀ w ∈ wsX00, goodWord w = true := fun w h => List.all_eq_true.mp (show (wsX00).all goodWord = true from rfl) w h
set_option maxRecDepth 100000 in
theorem bw_wsX80 : ∀ w ∈ wsX80, goodWord w = true := fun w h => List.all_eq_true.mp (show (wsX80).all goodWord = true from rfl) w h
set_option maxRecDepth 100000 in
theorem bw_wsX40 : ∀ w ∈ wsX40, goodWord w = true := fun w h => List.all_eq_true.mp (show (wsX40).all goodWord = true from rfl) w h
set_option maxRecDepth 100000 in
theorem bw_wsX70 : ∀ w ∈ wsX70, goodWord w = true := fun w h => List.all_eq_true.mp (show (wsX70).all goodWord = true from rfl) w h
set_option maxRecDepth 100000 in
theorem bw_x : ∀ w ∈ (vx_atX RX11 163 "java/util/NoSuchElementException" 13 prog_23_method_4_code ["java/lang/RuntimeException", "java/lang/Exception"]).filter goodWord, goodWord w = true := fun w h => (List.mem_filter.mp h).2
set_option maxRecDepth 100000 in
theorem bw_law : ∀ w ∈ wsL_law, goodWord w = true := fun w h => (List.mem_append.mp h).elim ((fun w h => (List.mem_append.mp h).elim ((fun w h => (List.mem_append.mp h).elim ((fun w h => (List.mem_append.mp h).elim ((fun w h => (List.mem_append.mp h).elim ((fun w h => (List.mem_append.mp h).elim ((fun w h => (List.mem_append.mp h).elim ((fun w h => (List.mem_append.mp h).elim ((fun w h => (List.mem_append.mp h).elim ((fun w h => (List.mem_append.mp h).elim ((fun w h => (List.mem_append.mp h).elim ((fun w h => (List.mem_append.mp h).elim ((fun w h => (List.mem_append.mp h).elim ((fun w h => (List.mem_append.mp h).elim ((fun w h => (List.mem_append.mp h).elim ((fun w h => (List.mem_append.mp h).elim (bw_wsL_law0_r1 w) ((fun w h => (List.mem_append.mp h).elim (bw_wsL_law0_r2 w) ((fun w h => (List.mem_append.mp h).elim (bw_wsL_law0_r3 w) ((fun w h => (List.mem_append.mp h).elim (bw_wsL_law0_r4 w) ((fun w h => (List.mem_append.mp h).elim (bw_wsL_law0_r5 w) ((fun w h => (List.mem_append.mp h).elim (bw_wsL_law0_r6 w) ((fun w h => (List.mem_append.mp h).elim (bw_wsL_law0_r7 w) ((fun w h => (List.mem_append.mp h).elim (bw_wsL_law0_r8 w) ((fun w h => (List.mem_append.mp h).elim (bw_wsL_law0_r9 w) ((fun w h => (List.mem_append.mp h).elim (bw_wsL_law0_r10 w) ((fun w h => (List.mem_append.mp h).elim (bw_wsL_law0_r11 w) ((fun w h => (List.mem_append.mp h).elim (bw_wsL_law0_r12 w) ((fun w h => (List.mem_append.mp h).elim (bw_wsL_law0_r13 w) ((fun w h => (List.mem_append.mp h).elim (bw_wsL_law0_r14 w) ((fun w h => (List.mem_append.mp h).elim (bw_wsL_law0_r15 w) ((fun w h => (List.mem_append.mp h).elim (bw_wsL_law0_r16 w) ((fun w h => (List.mem_append.mp h).elim (bw_wsL_law0_r17 w) ((fun w h => (List.mem_append.mp h).elim (bw_wsL_law0_r18 w) ((fun w h => (List.mem_append.mp h).elim (bw_wsL_law0_r19 w) ((fun w h => (List.mem_append.mp h).elim (bw_wsL_law0_r20 w) ((fun w h => (List.mem_append.mp h).elim (bw_wsL_law0_r21 w) ((fun w h => (List.mem_append.mp h).elim (bw_wsL_law0_r22 w) ((fun w h => (List.mem_append.mp h).elim (bw_wsL_law0_r23 w) ((fun w h => (List.mem_append.mp h).elim (bw_wsL_law0_r24 w) ((fun w h => (List.mem_append.mp h).elim (bw_wsL_law0_r25 w) ((fun w h => (List.mem_append.mp h).elim (bw_wsL_law0_r26 w) ((fun w h => (List.mem_append.mp h).elim (bw_wsL_law0_r27 w) ((fun w h => (List.mem_append.mp h).elim (bw_wsL_law0_r28 w) ((fun w h => (List.mem_append.mp h).elim (bw_wsL_law0_r29 w) ((fun w h => (List.mem_append.mp h).elim (bw_wsL_law0_r30 w) ((fun w h => (List.mem_append.mp h).elim (bw_wsL_law0_r31 w) ((fun w h => (List.mem_append.mp h).elim (bw_wsL_law0_r32 w) ((fun w h => (List.mem_append.mp h).elim (bw_wsL_law0_r33 w) ((fun w h => (List.mem_append.mp h).elim (bw_wsL_law0_r34 w) ((fun w h => (List.mem_append.mp h).elim (bw_wsL_law0_r35 w) ((fun w h => (List.mem_append.mp h).elim (bw_wsL_law0_r36 w) ((fun w h => (List.mem_append.mp h).elim (bw_wsL_law0_r37 w) ((fun w h => (List.mem_append.mp h).elim (bw_wsL_law0_r38 w) ((fun w h => (List.mem_append.mp h).elim (bw_wsL_law0_r39 w) ((fun w h => (List.mem_append.mp h).elim (bw_wsL_law0_r40 w) ((fun w h => (List.mem_append.mp h).elim (bw_wsL_law0_r41 w) ((fun w h => (List.mem_append.mp h).elim (bw_wsL_law0_r42 w) ((fun w h => (List.mem_append.mp h).elim (bw_wsL_law0_r43 w) ((fun w h => (List.mem_append.mp h).elim (bw_wsL_law0_r44 w) ((fun w h => (List.mem_append.mp h).elim (bw_wsL_law0_r45 w) ((fun w h => (List.mem_append.mp h).elim (bw_wsL_law0_r46 w) ((fun w h => (List.mem_append.mp h).elim (bw_wsL_law0_r47 w) ((fun w h => (List.mem_append.mp h).elim (bw_wsL_law0_r48 w) ((fun w h => (List.mem_append.mp h).elim (bw_wsL_law0_r49 w) ((fun w h => (List.mem_append.mp h).elim (bw_wsL_law0_r50 w) ((fun w h => (List.mem_append.mp h).elim (bw_wsL_law0_r51 w) ((fun w h => (List.mem_append.mp h).elim (bw_wsL_law0_r52 w) ((fun w h => (List.mem_append.mp h).elim (bw_wsL_law0_r53 w) ((fun w h => (List.mem_append.mp h).elim (bw_wsL_law0_r54 w) ((fun w h => (List.mem_append.mp h).elim (bw_wsL_law0_r55 w) ((fun w h => (List.mem_append.mp h).elim (bw_wsL_law0_r56 w) ((fun w h => (List.mem_append.mp h).elim (bw_wsL_law0_r57 w) ((fun w h => (List.mem_append.mp h).elim (bw_wsL_law0_r58 w) (bw_wsL_law0_r59 w)) w)) w)) w)) w)) w)) w)) w)) w)) w)) w)) w)) w)) w)) w)) w)) w)) w)) w)) w)) w)) w)) w)) w)) w)) w)) w)) w)) w)) w)) w)) w)) w)) w)) w)) w)) w)) w)) w)) w)) w)) w)) w)) w)) w)) w)) w)) w)) w)) w)) w)) w)) w)) w)) w)) w)) w)) w)) w) (bw_wsX110 w)) w) (bw_wsX120 w)) w) (bw_wsX100 w)) w) (bw_wsX60 w)) w) (bw_wsX10 w)) w) (bw_wsX50 w)) w) (bw_wsX20 w)) w) (bw_wsX90 w)) w) (bw_wsX30 w)) w) (bw_wsX00 w)) w) (bw_wsX80 w)) w) (bw_wsX40 w)) w) (bw_wsX70 w)) w) ((fun _ h => absurd h List.not_mem_nil) w)) w) (bw_x w)
theorem bg_law {c : Cond} (h : c ∈ wsL_law) : GoodIn wsL_law (c :: wsL_law) := fun w hw => (List.mem_cons.mp hw).elim (fun e => by rw [e]; exact ⟨h, good_of_word (bw_law _ h)⟩) (fun h9 => ⟨h9, good_of_word (bw_law _ h9)⟩)
theorem bg_up {d : Cond} {ws : List Cond} (h : GoodIn wsL_law ws) : GoodIn (d :: wsL_law) ws := fun w hw => ⟨List.mem_cons_of_mem _ (h w hw).1, (h w hw).2⟩
theorem bg_cons {c : Cond} {ws : List Cond} (h : c ∈ wsL_law) (h2 : GoodIn wsL_law ws) : GoodIn wsL_law (c :: ws) := fun w hw => (List.mem_cons.mp hw).elim (fun e => by rw [e]; exact ⟨h, good_of_word (bw_law _ h)⟩) (fun h9 => h2 w h9)
theorem bg_nil : GoodIn wsL_law [] := fun w hw => absurd hw List.not_mem_nil
theorem mem_pl {big ws : List Cond} (ps : List Nat) (hp : ws = ps.filterMap (fun i => big[i]?)) : ∀ w ∈ ws, w ∈ big := by
  intro w hw
  rw [hp] at hw
  obtain ⟨i, -, hi⟩ := List.mem_filterMap.mp hw
  exact List.mem_of_getElem? hi
set_option maxRecDepth 100000 in
theorem lwm_wsL_law0_r1 : ∀ w ∈ wsL_law0_r1, w ∈ lw_tbl := mem_pl [124, 125, 104, 1208, 1209, 116, 1841, 1840, 126, 127, 128, 129, 130, 131, 132, 133, 105, 418, 153, 154, 106, 419, 240, 241] rfl
set_option maxRecDepth 100000 in
theorem lwm_wsL_law0_r2 : ∀ w ∈ wsL_law0_r2, w ∈ lw_tbl := mem_pl [108, 420, 258, 160, 107, 421, 260, 261, 109, 422, 291, 292, 110, 423, 424, 308, 309, 111, 425, 318, 319, 112, 426, 427] rfl
set_option maxRecDepth 100000 in
theorem lwm_wsL_law0_r3 : ∀ w ∈ wsL_law0_r3, w ∈ lw_tbl := mem_pl [428, 335, 336, 113, 429, 365, 366, 114, 430, 396, 397, 115, 431, 152, 432, 433, 434, 435, 135, 136, 137, 138, 155, 156] rfl
set_option maxRecDepth 100000 in
theorem lwm_wsL_law0_r4 : ∀ w ∈ wsL_law0_r4, w ∈ lw_tbl := mem_pl [157, 158, 159, 226, 229, 228, 162, 163, 164, 181, 186, 190, 194, 197, 201, 242, 243, 244, 245, 246, 250, 263, 264, 265] rfl
set_option maxRecDepth 100000 in
theorem lwm_wsL_law0_r5 : ∀ w ∈ wsL_law0_r5, w ∈ lw_tbl := mem_pl [272, 266, 274, 275, 268, 276, 277, 293, 294, 295, 296, 297, 299, 300, 311, 312, 313, 314, 321, 322, 323, 327, 337, 338] rfl
set_option maxRecDepth 100000 in
theorem lwm_wsL_law0_r6 : ∀ w ∈ wsL_law0_r6, w ∈ lw_tbl := mem_pl [339, 340, 343, 344, 345, 364, 346, 347, 348, 367, 368, 369, 370, 377, 378, 379, 399, 400, 401, 1210, 1211, 1212, 1213, 1215] rfl
set_option maxRecDepth 100000 in
theorem lwm_wsL_law0_r7 : ∀ w ∈ wsL_law0_r7, w ∈ lw_tbl := mem_pl [1220, 1221, 1222, 1223, 1224, 1225, 1226, 1229, 1230, 1231, 1232, 1233, 1236, 1237, 1238, 1241, 1242, 1243, 1244, 1245, 1251, 1252, 1253, 1254] rfl
set_option maxRecDepth 100000 in
theorem lwm_wsL_law0_r8 : ∀ w ∈ wsL_law0_r8, w ∈ lw_tbl := mem_pl [1255, 1256, 1258, 473, 474, 475, 476, 139, 477, 478, 479, 480, 481, 482, 483, 140, 1353, 1354, 1355, 1356, 1216, 1357, 1358, 1359] rfl
set_option maxRecDepth 100000 in
theorem lwm_wsL_law0_r9 : ∀ w ∈ wsL_law0_r9, w ∈ lw_tbl := mem_pl [484, 485, 486, 487, 1360, 1361, 1362, 1363, 488, 489, 490, 491, 144, 492, 493, 494, 495, 141, 230, 167, 171, 496, 175, 179] rfl
set_option maxRecDepth 100000 in
theorem lwm_wsL_law0_r10 : ∀ w ∈ wsL_law0_r10, w ∈ lw_tbl := mem_pl [498, 500, 0, 501, 502, 503, 504, 505, 143, 506, 507, 508, 509, 511, 1, 512, 513, 515, 2, 516, 517, 519, 518, 117] rfl
set_option maxRecDepth 100000 in
theorem lwm_wsL_law0_r11 : ∀ w ∈ wsL_law0_r11, w ∈ lw_tbl := mem_pl [520, 521, 522, 523, 525, 527, 3, 528, 538, 529, 530, 531, 532, 533, 534, 535, 536, 537, 540, 542, 4, 543, 184, 189] rfl
set_option maxRecDepth 100000 in
theorem lwm_wsL_law0_r12 : ∀ w ∈ wsL_law0_r12, w ∈ lw_tbl := mem_pl [193, 196, 199, 203, 544, 545, 546, 547, 165, 548, 549, 550, 551, 552, 553, 554, 555, 142, 248, 556, 558, 5, 559, 560] rfl
set_option maxRecDepth 100000 in
theorem lwm_wsL_law0_r13 : ∀ w ∈ wsL_law0_r13, w ∈ lw_tbl := mem_pl [561, 562, 564, 6, 565, 566, 568, 7, 597, 599, 13, 601, 603, 14, 604, 585, 587, 11, 588, 600, 569, 570, 572, 8] rfl
set_option maxRecDepth 100000 in
theorem lwm_wsL_law0_r14 : ∀ w ∈ wsL_law0_r14, w ∈ lw_tbl := mem_pl [573, 574, 576, 9, 581, 582, 583, 584, 589, 577, 578, 580, 10, 590, 592, 12, 593, 594, 595, 596, 1364, 1365, 1366, 1367] rfl
set_option maxRecDepth 100000 in
theorem lwm_wsL_law0_r15 : ∀ w ∈ wsL_law0_r15, w ∈ lw_tbl := mem_pl [1368, 1370, 35, 1371, 1217, 1218, 1234, 1235, 1372, 1373, 1374, 1375, 1377, 36, 1378, 1379, 1381, 37, 1382, 1383, 1385, 38, 1386, 1387] rfl
set_option maxRecDepth 100000 in
theorem lwm_wsL_law0_r16 : ∀ w ∈ wsL_law0_r16, w ∈ lw_tbl := mem_pl [1388, 1389, 1390, 1391, 1392, 1393, 1394, 1395, 1396, 1398, 39, 1399, 1400, 1401, 1402, 1403, 1405, 40, 1406, 1407, 1408, 1409, 1410, 1412] rfl
set_option maxRecDepth 100000 in
theorem lwm_wsL_law0_r17 : ∀ w ∈ wsL_law0_r17, w ∈ lw_tbl := mem_pl [41, 1413, 1414, 1416, 42, 1417, 1418, 1420, 43, 1421, 1228, 1219, 1422, 1424, 44, 1425, 1426, 1428, 45, 1429, 1430, 1432, 46, 1472] rfl
set_option maxRecDepth 100000 in
theorem lwm_wsL_law0_r18 : ∀ w ∈ wsL_law0_r18, w ∈ lw_tbl := mem_pl [1474, 55, 1476, 1478, 56, 1475, 1438, 1440, 48, 1441, 1479, 1433, 1434, 1436, 47, 1437, 1442, 1444, 49, 1445, 1446, 1448, 50, 1449] rfl
set_option maxRecDepth 100000 in
theorem lwm_wsL_law0_r19 : ∀ w ∈ wsL_law0_r19, w ∈ lw_tbl := mem_pl [1450, 1452, 51, 1457, 1458, 1460, 53, 1461, 1462, 1463, 1464, 1453, 1454, 1456, 52, 1465, 1467, 54, 1468, 1469, 1470, 1471, 1480, 1482] rfl
set_option maxRecDepth 100000 in
theorem lwm_wsL_law0_r20 : ∀ w ∈ wsL_law0_r20, w ∈ lw_tbl := mem_pl [57, 1483, 605, 606, 607, 608, 609, 611, 15, 612, 227, 342, 168, 613, 614, 615, 616, 170, 174, 178, 617, 618, 619, 620] rfl
set_option maxRecDepth 100000 in
theorem lwm_wsL_law0_r21 : ∀ w ∈ wsL_law0_r21, w ∈ lw_tbl := mem_pl [621, 187, 191, 176, 180, 622, 623, 624, 625, 324, 626, 627, 628, 629, 270, 630, 632, 16, 633, 247, 249, 271, 634, 635] rfl
set_option maxRecDepth 100000 in
theorem lwm_wsL_law0_r22 : ∀ w ∈ wsL_law0_r22, w ∈ lw_tbl := mem_pl [636, 637, 639, 638, 1484, 1485, 1486, 1487, 1227, 1488, 1490, 58, 1491, 1239, 1240, 1257, 1246, 1259, 1492, 1494, 59, 1495, 640, 641] rfl
set_option maxRecDepth 100000 in
theorem lwm_wsL_law0_r23 : ∀ w ∈ wsL_law0_r23, w ∈ lw_tbl := mem_pl [642, 643, 644, 646, 17, 647, 648, 649, 650, 651, 652, 653, 654, 655, 1496, 1497, 1498, 1499, 1133, 1134, 103, 1135, 1136, 1137] rfl
set_option maxRecDepth 100000 in
theorem lwm_wsL_law0_r24 : ∀ w ∈ wsL_law0_r24, w ∈ lw_tbl := mem_pl [1138, 1139, 1140, 1141, 121, 183, 195, 695, 677, 678, 679, 783, 735, 736, 737, 792, 739, 740, 741, 700, 701, 702, 703, 1207] rfl
set_option maxRecDepth 100000 in
theorem lwm_wsL_law0_r25 : ∀ w ∈ wsL_law0_r25, w ∈ lw_tbl := mem_pl [771, 772, 773, 1500, 1501, 1502, 1503, 1214, 1504, 1506, 60, 1507, 1508, 1510, 61, 1511, 656, 657, 658, 659, 198, 202, 660, 661] rfl
set_option maxRecDepth 100000 in
theorem lwm_wsL_law0_r26 : ∀ w ∈ wsL_law0_r26, w ∈ lw_tbl := mem_pl [662, 663, 664, 665, 666, 667, 1512, 1513, 1514, 1515, 1516, 1518, 62, 1519, 668, 669, 670, 671, 672, 673, 674, 675, 676, 680] rfl
set_option maxRecDepth 100000 in
theorem lwm_wsL_law0_r27 : ∀ w ∈ wsL_law0_r27, w ∈ lw_tbl := mem_pl [681, 682, 683, 684, 685, 686, 1520, 1521, 1522, 1523, 1524, 1526, 63, 1527, 1528, 1529, 1530, 1531, 710, 122, 711, 1532, 767, 768] rfl
set_option maxRecDepth 100000 in
theorem lwm_wsL_law0_r28 : ∀ w ∈ wsL_law0_r28, w ∈ lw_tbl := mem_pl [687, 688, 689, 690, 273, 1533, 1534, 1535, 1536, 691, 692, 693, 694, 696, 698, 18, 699, 704, 705, 706, 707, 298, 326, 708] rfl
set_option maxRecDepth 100000 in
theorem lwm_wsL_law0_r29 : ∀ w ∈ wsL_law0_r29, w ∈ lw_tbl := mem_pl [709, 712, 713, 714, 715, 716, 717, 718, 719, 720, 721, 722, 723, 724, 729, 769, 725, 726, 727, 728, 730, 732, 19, 733] rfl
set_option maxRecDepth 100000 in
theorem lwm_wsL_law0_r30 : ∀ w ∈ wsL_law0_r30, w ∈ lw_tbl := mem_pl [734, 738, 742, 743, 744, 745, 746, 747, 748, 749, 750, 765, 766, 751, 753, 20, 754, 755, 756, 757, 758, 759, 760, 761] rfl
set_option maxRecDepth 100000 in
theorem lwm_wsL_law0_r31 : ∀ w ∈ wsL_law0_r31, w ∈ lw_tbl := mem_pl [762, 763, 764, 770, 774, 776, 21, 777, 172, 204, 778, 1537, 1538, 1539, 1540, 1541, 1543, 64, 1544, 1545, 1547, 65, 1548, 1549] rfl
set_option maxRecDepth 100000 in
theorem lwm_wsL_law0_r32 : ∀ w ∈ wsL_law0_r32, w ∈ lw_tbl := mem_pl [1551, 66, 1552, 1553, 1555, 67, 1556, 1557, 1559, 68, 1560, 1561, 1563, 69, 1564, 1565, 1567, 70, 1568, 1569, 1571, 71, 1572, 1573] rfl
set_option maxRecDepth 100000 in
theorem lwm_wsL_law0_r33 : ∀ w ∈ wsL_law0_r33, w ∈ lw_tbl := mem_pl [1575, 72, 1576, 1577, 1578, 1579, 1580, 1581, 1582, 1583, 1584, 1585, 1586, 1587, 1588, 1589, 1590, 1591, 1592, 1593, 1594, 1596, 73, 1597] rfl
set_option maxRecDepth 100000 in
theorem lwm_wsL_law0_r34 : ∀ w ∈ wsL_law0_r34, w ∈ lw_tbl := mem_pl [1598, 1599, 1600, 779, 780, 781, 782, 784, 785, 786, 787, 1601, 1602, 1603, 1604, 788, 789, 790, 791, 793, 794, 795, 796, 1605] rfl
set_option maxRecDepth 100000 in
theorem lwm_wsL_law0_r35 : ∀ w ∈ wsL_law0_r35, w ∈ lw_tbl := mem_pl [1606, 1607, 1608, 797, 798, 799, 800, 801, 802, 803, 804, 1609, 1610, 1611, 1612, 805, 806, 807, 808, 809, 810, 811, 812, 813] rfl
set_option maxRecDepth 100000 in
theorem lwm_wsL_law0_r36 : ∀ w ∈ wsL_law0_r36, w ∈ lw_tbl := mem_pl [814, 815, 816, 1613, 1614, 1615, 1616, 817, 818, 819, 820, 1617, 1618, 1619, 1620, 821, 822, 823, 824, 825, 826, 828, 22, 829] rfl
set_option maxRecDepth 100000 in
theorem lwm_wsL_law0_r37 : ∀ w ∈ wsL_law0_r37, w ∈ lw_tbl := mem_pl [830, 831, 832, 833, 169, 834, 835, 836, 837, 838, 839, 840, 123, 841, 842, 843, 844, 845, 846, 847, 848, 849, 850, 851] rfl
set_option maxRecDepth 100000 in
theorem lwm_wsL_law0_r38 : ∀ w ∈ wsL_law0_r38, w ∈ lw_tbl := mem_pl [852, 853, 854, 855, 856, 857, 858, 859, 860, 1621, 1622, 1623, 1624, 1625, 1627, 74, 1628, 1629, 1631, 75, 1632, 1633, 1635, 76] rfl
set_option maxRecDepth 100000 in
theorem lwm_wsL_law0_r39 : ∀ w ∈ wsL_law0_r39, w ∈ lw_tbl := mem_pl [1636, 1637, 1639, 77, 1640, 1641, 1643, 78, 1644, 1645, 1647, 79, 1648, 861, 862, 863, 864, 1649, 1650, 1651, 1652, 865, 866, 867] rfl
set_option maxRecDepth 100000 in
theorem lwm_wsL_law0_r40 : ∀ w ∈ wsL_law0_r40, w ∈ lw_tbl := mem_pl [868, 869, 871, 23, 872, 873, 875, 24, 876, 877, 878, 1653, 1654, 1655, 1656, 1247, 1657, 1659, 80, 1660, 1661, 1663, 81, 1664] rfl
set_option maxRecDepth 100000 in
theorem lwm_wsL_law0_r41 : ∀ w ∈ wsL_law0_r41, w ∈ lw_tbl := mem_pl [1665, 1666, 879, 880, 881, 882, 1667, 1668, 1669, 1670, 883, 884, 885, 886, 325, 887, 888, 889, 890, 1671, 1672, 1673, 1674, 891] rfl
set_option maxRecDepth 100000 in
theorem lwm_wsL_law0_r42 : ∀ w ∈ wsL_law0_r42, w ∈ lw_tbl := mem_pl [892, 893, 894, 895, 896, 897, 898, 899, 900, 901, 902, 1675, 1676, 1677, 1678, 903, 904, 905, 906, 911, 907, 908, 909, 910] rfl
set_option maxRecDepth 100000 in
theorem lwm_wsL_law0_r43 : ∀ w ∈ wsL_law0_r43, w ∈ lw_tbl := mem_pl [1679, 1680, 1681, 1682, 1683, 912, 913, 914, 915, 916, 1684, 1685, 1686, 1687, 917, 918, 919, 920, 921, 923, 25, 924, 1688, 1689] rfl
set_option maxRecDepth 100000 in
theorem lwm_wsL_law0_r44 : ∀ w ∈ wsL_law0_r44, w ∈ lw_tbl := mem_pl [1690, 1691, 1692, 1694, 82, 1695, 925, 926, 927, 928, 374, 372, 376, 929, 930, 931, 932, 371, 166, 182, 380, 933, 934, 935] rfl
set_option maxRecDepth 100000 in
theorem lwm_wsL_law0_r45 : ∀ w ∈ wsL_law0_r45, w ∈ lw_tbl := mem_pl [936, 937, 939, 26, 940, 373, 375, 1696, 1697, 1698, 1699, 1249, 1248, 1700, 1702, 83, 1703, 1250, 1704, 1706, 84, 1707, 1708, 1710] rfl
set_option maxRecDepth 100000 in
theorem lwm_wsL_law0_r46 : ∀ w ∈ wsL_law0_r46, w ∈ lw_tbl := mem_pl [85, 1711, 941, 942, 943, 944, 945, 946, 947, 948, 949, 950, 951, 952, 953, 954, 955, 956, 957, 958, 1712, 1713, 1714, 1715] rfl
set_option maxRecDepth 100000 in
theorem lwm_wsL_law0_r47 : ∀ w ∈ wsL_law0_r47, w ∈ lw_tbl := mem_pl [1716, 1718, 86, 1719, 1720, 1722, 87, 1723, 959, 960, 961, 962, 963, 964, 965, 966, 967, 968, 969, 341, 970, 971, 972, 973] rfl
set_option maxRecDepth 100000 in
theorem lwm_wsL_law0_r48 : ∀ w ∈ wsL_law0_r48, w ∈ lw_tbl := mem_pl [1724, 1725, 1726, 1727, 974, 975, 976, 977, 978, 979, 980, 981, 982, 984, 27, 985, 188, 192, 177, 986, 987, 1728, 1729, 1730] rfl
set_option maxRecDepth 100000 in
theorem lwm_wsL_law0_r49 : ∀ w ∈ wsL_law0_r49, w ∈ lw_tbl := mem_pl [1731, 1732, 1734, 88, 1735, 1736, 1738, 89, 1739, 988, 989, 990, 991, 992, 993, 994, 995, 996, 997, 998, 999, 1000, 1001, 1002] rfl
set_option maxRecDepth 100000 in
theorem lwm_wsL_law0_r50 : ∀ w ∈ wsL_law0_r50, w ∈ lw_tbl := mem_pl [1003, 1740, 1741, 1742, 1743, 1745, 1744, 1004, 1005, 1006, 1007, 1008, 1009, 1010, 1011, 1012, 1013, 1014, 1015, 1016, 1017, 1746, 1747, 1748] rfl
set_option maxRecDepth 100000 in
theorem lwm_wsL_law0_r51 : ∀ w ∈ wsL_law0_r51, w ∈ lw_tbl := mem_pl [1749, 1750, 1752, 90, 1753, 1754, 1756, 91, 1757, 1018, 1019, 1020, 1021, 1027, 1022, 1024, 28, 1025, 1026, 1758, 1759, 1760, 1761, 1762] rfl
set_option maxRecDepth 100000 in
theorem lwm_wsL_law0_r52 : ∀ w ∈ wsL_law0_r52, w ∈ lw_tbl := mem_pl [1764, 92, 1765, 1766, 1768, 93, 1769, 1028, 1029, 1030, 1031, 1032, 1033, 1035, 29, 1036, 1770, 1771, 1772, 1773, 1774, 1776, 94, 1777] rfl
set_option maxRecDepth 100000 in
theorem lwm_wsL_law0_r53 : ∀ w ∈ wsL_law0_r53, w ∈ lw_tbl := mem_pl [1037, 1038, 1039, 1040, 1041, 1042, 1043, 1044, 402, 403, 404, 405, 406, 1045, 1046, 1047, 1049, 30, 1050, 1051, 1052, 1053, 1055, 31] rfl
set_option maxRecDepth 100000 in
theorem lwm_wsL_law0_r54 : ∀ w ∈ wsL_law0_r54, w ∈ lw_tbl := mem_pl [1056, 1778, 1779, 1780, 1781, 1782, 1783, 1785, 95, 1786, 1787, 1057, 1058, 1059, 1060, 1061, 1062, 1063, 1064, 185, 1788, 1789, 1790, 1791] rfl
set_option maxRecDepth 100000 in
theorem lwm_wsL_law0_r55 : ∀ w ∈ wsL_law0_r55, w ∈ lw_tbl := mem_pl [1065, 1066, 1067, 1068, 1069, 1070, 1071, 1072, 1073, 1074, 1075, 1076, 1077, 1079, 32, 1080, 1081, 1082, 1083, 1084, 1085, 1086, 1087, 1088] rfl
set_option maxRecDepth 100000 in
theorem lwm_wsL_law0_r56 : ∀ w ∈ wsL_law0_r56, w ∈ lw_tbl := mem_pl [1089, 1090, 1092, 33, 1093, 1094, 1095, 1096, 1097, 1098, 1099, 1100, 1101, 1102, 1103, 1104, 1105, 200, 1106, 1107, 1108, 1109, 1110, 1792] rfl
set_option maxRecDepth 100000 in
theorem lwm_wsL_law0_r57 : ∀ w ∈ wsL_law0_r57, w ∈ lw_tbl := mem_pl [1793, 1794, 1795, 1796, 1798, 96, 1799, 1800, 1802, 97, 1803, 1804, 1806, 98, 1807, 1808, 1810, 99, 1811, 1812, 1814, 100, 1815, 1816] rfl
set_option maxRecDepth 100000 in
theorem lwm_wsL_law0_r58 : ∀ w ∈ wsL_law0_r58, w ∈ lw_tbl := mem_pl [1818, 101, 1819, 1820, 1822, 102, 1823, 1111, 1112, 1113, 1114, 1115, 1824, 1825, 1826, 1827, 1116, 1117, 1118, 1119, 1120, 1121, 1122, 1123] rfl
set_option maxRecDepth 100000 in
theorem lwm_wsL_law0_r59 : ∀ w ∈ wsL_law0_r59, w ∈ lw_tbl := mem_pl [1124, 1828, 1829, 1830, 1831, 1125, 1126, 1127, 1128, 1832, 1833, 1834, 1835, 1129, 1130, 1131, 1132, 173, 1836, 1837, 1838, 1839] rfl
set_option maxRecDepth 100000 in
theorem lwm_wsX110 : ∀ w ∈ wsX110, w ∈ lw_tbl := mem_pl [436, 438, 440, 442, 444, 446, 448, 450, 452, 454, 456, 458, 460, 462, 464, 466, 468, 470] rfl
set_option maxRecDepth 100000 in
theorem lwm_wsX120 : ∀ w ∈ wsX120, w ∈ lw_tbl := mem_pl [1260, 1262, 1264, 1266, 1268, 1270, 1272, 1274, 1276, 1278, 1280, 1282, 1284, 1286, 1288, 1290, 1292, 1294, 1296, 1298, 1300, 1302, 1304, 1306, 1308, 1310, 1312, 1314, 1316, 1318, 1320, 1322, 1324, 1326, 1328, 1330, 1332, 1334, 1336, 1338, 1340, 1342, 1344, 1346, 1348, 1350] rfl
set_option maxRecDepth 100000 in
theorem lwm_wsX100 : ∀ w ∈ wsX100, w ∈ lw_tbl := mem_pl [145, 147, 149] rfl
set_option maxRecDepth 100000 in
theorem lwm_wsX60 : ∀ w ∈ wsX60, w ∈ lw_tbl := mem_pl [231, 233, 235, 237] rfl
set_option maxRecDepth 100000 in
theorem lwm_wsX10 : ∀ w ∈ wsX10, w ∈ lw_tbl := mem_pl [251, 253, 255] rfl
set_option maxRecDepth 100000 in
theorem lwm_wsX50 : ∀ w ∈ wsX50, w ∈ lw_tbl := mem_pl [205, 207, 209, 211, 213, 215, 217, 219, 221, 223] rfl
set_option maxRecDepth 100000 in
theorem lwm_wsX20 : ∀ w ∈ wsX20, w ∈ lw_tbl := mem_pl [278, 280, 282, 284, 286, 288] rfl
set_option maxRecDepth 100000 in
theorem lwm_wsX90 : ∀ w ∈ wsX90, w ∈ lw_tbl := mem_pl [301, 303, 305] rfl
set_option maxRecDepth 100000 in
theorem lwm_wsX30 : ∀ w ∈ wsX30, w ∈ lw_tbl := mem_pl [315] rfl
set_option maxRecDepth 100000 in
theorem lwm_wsX00 : ∀ w ∈ wsX00, w ∈ lw_tbl := mem_pl [328, 330, 332] rfl
set_option maxRecDepth 100000 in
theorem lwm_wsX80 : ∀ w ∈ wsX80, w ∈ lw_tbl := mem_pl [349, 351, 353, 355, 357, 359, 361] rfl
set_option maxRecDepth 100000 in
theorem lwm_wsX40 : ∀ w ∈ wsX40, w ∈ lw_tbl := mem_pl [381, 383, 385, 387, 389, 391, 393] rfl
set_option maxRecDepth 100000 in
theorem lwm_wsX70 : ∀ w ∈ wsX70, w ∈ lw_tbl := mem_pl [407, 409, 411, 413, 415] rfl
theorem wsL_law_in0 : ∀ w ∈ wsL_law0, w ∈ lw_tbl := (fun w h => (List.mem_append.mp h).elim ((fun w h => (List.mem_append.mp h).elim ((fun w h => (List.mem_append.mp h).elim ((fun w h => (List.mem_append.mp h).elim ((fun w h => (List.mem_append.mp h).elim ((fun w h => (List.mem_append.mp h).elim ((fun w h => (List.mem_append.mp h).elim ((fun w h => (List.mem_append.mp h).elim ((fun w h => (List.mem_append.mp h).elim ((fun w h => (List.mem_append.mp h).elim ((fun w h => (List.mem_append.mp h).elim ((fun w h => (List.mem_append.mp h).elim ((fun w h => (List.mem_append.mp h).elim ((fun w h => (List.mem_append.mp h).elim ((fun w h => (List.mem_append.mp h).elim (lwm_wsL_law0_r1 w) ((fun w h => (List.mem_append.mp h).elim (lwm_wsL_law0_r2 w) ((fun w h => (List.mem_append.mp h).elim (lwm_wsL_law0_r3 w) ((fun w h => (List.mem_append.mp h).elim (lwm_wsL_law0_r4 w) ((fun w h => (List.mem_append.mp h).elim (lwm_wsL_law0_r5 w) ((fun w h => (List.mem_append.mp h).elim (lwm_wsL_law0_r6 w) ((fun w h => (List.mem_append.mp h).elim (lwm_wsL_law0_r7 w) ((fun w h => (List.mem_append.mp h).elim (lwm_wsL_law0_r8 w) ((fun w h => (List.mem_append.mp h).elim (lwm_wsL_law0_r9 w) ((fun w h => (List.mem_append.mp h).elim (lwm_wsL_law0_r10 w) ((fun w h => (List.mem_append.mp h).elim (lwm_wsL_law0_r11 w) ((fun w h => (List.mem_append.mp h).elim (lwm_wsL_law0_r12 w) ((fun w h => (List.mem_append.mp h).elim (lwm_wsL_law0_r13 w) ((fun w h => (List.mem_append.mp h).elim (lwm_wsL_law0_r14 w) ((fun w h => (List.mem_append.mp h).elim (lwm_wsL_law0_r15 w) ((fun w h => (List.mem_append.mp h).elim (lwm_wsL_law0_r16 w) ((fun w h => (List.mem_append.mp h).elim (lwm_wsL_law0_r17 w) ((fun w h => (List.mem_append.mp h).elim (lwm_wsL_law0_r18 w) ((fun w h => (List.mem_append.mp h).elim (lwm_wsL_law0_r19 w) ((fun w h => (List.mem_append.mp h).elim (lwm_wsL_law0_r20 w) ((fun w h => (List.mem_append.mp h).elim (lwm_wsL_law0_r21 w) ((fun w h => (List.mem_append.mp h).elim (lwm_wsL_law0_r22 w) ((fun w h => (List.mem_append.mp h).elim (lwm_wsL_law0_r23 w) ((fun w h => (List.mem_append.mp h).elim (lwm_wsL_law0_r24 w) ((fun w h => (List.mem_append.mp h).elim (lwm_wsL_law0_r25 w) ((fun w h => (List.mem_append.mp h).elim (lwm_wsL_law0_r26 w) ((fun w h => (List.mem_append.mp h).elim (lwm_wsL_law0_r27 w) ((fun w h => (List.mem_append.mp h).elim (lwm_wsL_law0_r28 w) ((fun w h => (List.mem_append.mp h).elim (lwm_wsL_law0_r29 w) ((fun w h => (List.mem_append.mp h).elim (lwm_wsL_law0_r30 w) ((fun w h => (List.mem_append.mp h).elim (lwm_wsL_law0_r31 w) ((fun w h => (List.mem_append.mp h).elim (lwm_wsL_law0_r32 w) ((fun w h => (List.mem_append.mp h).elim (lwm_wsL_law0_r33 w) ((fun w h => (List.mem_append.mp h).elim (lwm_wsL_law0_r34 w) ((fun w h => (List.mem_append.mp h).elim (lwm_wsL_law0_r35 w) ((fun w h => (List.mem_append.mp h).elim (lwm_wsL_law0_r36 w) ((fun w h => (List.mem_append.mp h).elim (lwm_wsL_law0_r37 w) ((fun w h => (List.mem_append.mp h).elim (lwm_wsL_law0_r38 w) ((fun w h => (List.mem_append.mp h).elim (lwm_wsL_law0_r39 w) ((fun w h => (List.mem_append.mp h).elim (lwm_wsL_law0_r40 w) ((fun w h => (List.mem_append.mp h).elim (lwm_wsL_law0_r41 w) ((fun w h => (List.mem_append.mp h).elim (lwm_wsL_law0_r42 w) ((fun w h => (List.mem_append.mp h).elim (lwm_wsL_law0_r43 w) ((fun w h => (List.mem_append.mp h).elim (lwm_wsL_law0_r44 w) ((fun w h => (List.mem_append.mp h).elim (lwm_wsL_law0_r45 w) ((fun w h => (List.mem_append.mp h).elim (lwm_wsL_law0_r46 w) ((fun w h => (List.mem_append.mp h).elim (lwm_wsL_law0_r47 w) ((fun w h => (List.mem_append.mp h).elim (lwm_wsL_law0_r48 w) ((fun w h => (List.mem_append.mp h).elim (lwm_wsL_law0_r49 w) ((fun w h => (List.mem_append.mp h).elim (lwm_wsL_law0_r50 w) ((fun w h => (List.mem_append.mp h).elim (lwm_wsL_law0_r51 w) ((fun w h => (List.mem_append.mp h).elim (lwm_wsL_law0_r52 w) ((fun w h => (List.mem_append.mp h).elim (lwm_wsL_law0_r53 w) ((fun w h => (List.mem_append.mp h).elim (lwm_wsL_law0_r54 w) ((fun w h => (List.mem_append.mp h).elim (lwm_wsL_law0_r55 w) ((fun w h => (List.mem_append.mp h).elim (lwm_wsL_law0_r56 w) ((fun w h => (List.mem_append.mp h).elim (lwm_wsL_law0_r57 w) ((fun w h => (List.mem_append.mp h).elim (lwm_wsL_law0_r58 w) (lwm_wsL_law0_r59 w)) w)) w)) w)) w)) w)) w)) w)) w)) w)) w)) w)) w)) w)) w)) w)) w)) w)) w)) w)) w)) w)) w)) w)) w)) w)) w)) w)) w)) w)) w)) w)) w)) w)) w)) w)) w)) w)) w)) w)) w)) w)) w)) w)) w)) w)) w)) w)) w)) w)) w)) w)) w)) w)) w)) w)) w)) w)) w) (lwm_wsX110 w)) w) (lwm_wsX120 w)) w) (lwm_wsX100 w)) w) (lwm_wsX60 w)) w) (lwm_wsX10 w)) w) (lwm_wsX50 w)) w) (lwm_wsX20 w)) w) (lwm_wsX90 w)) w) (lwm_wsX30 w)) w) (lwm_wsX00 w)) w) (lwm_wsX80 w)) w) (lwm_wsX40 w)) w) (lwm_wsX70 w)) w) ((fun _ h => absurd h List.not_mem_nil) w))
theorem wsL_law_x0 : ∀ w ∈ (vx_atX RX11 163 "java/util/NoSuchElementException" 13 prog_23_method_4_code ["java/lang/RuntimeException", "java/lang/Exception"]).filter goodWord, w ∈ lw_tbl := by decide +kernel
theorem wsL_law_in : ∀ w ∈ wsL_law, w ∈ lw_tbl := fun w h => (List.mem_append.mp h).elim (fun h => wsL_law_in0 w h) (fun h => wsL_law_x0 w h)
theorem inlX0 : ∀ w ∈ wsX00, w ∈ wsL_law := fun _ h => List.mem_append_left _ (List.mem_append_left _ (List.mem_append_left _ (List.mem_append_left _ (List.mem_append_left _ (List.mem_append_right _ h)))))
theorem inX0 : ∀ w ∈ wsX00, w ∈ lw_tbl := fun w h => wsL_law_in w (inlX0 w h)
theorem inlX1 : ∀ w ∈ wsX10, w ∈ wsL_law := fun _ h => List.mem_append_left _ (List.mem_append_left _ (List.mem_append_left _ (List.mem_append_left _ (List.mem_append_left _ (List.mem_append_left _ (List.mem_append_left _ (List.mem_append_left _ (List.mem_append_left _ (List.mem_append_left _ (List.mem_append_right _ h))))))))))
theorem inX1 : ∀ w ∈ wsX10, w ∈ lw_tbl := fun w h => wsL_law_in w (inlX1 w h)
theorem inlX2 : ∀ w ∈ wsX20, w ∈ wsL_law := fun _ h => List.mem_append_left _ (List.mem_append_left _ (List.mem_append_left _ (List.mem_append_left _ (List.mem_append_left _ (List.mem_append_left _ (List.mem_append_left _ (List.mem_append_left _ (List.mem_append_right _ h))))))))
theorem inX2 : ∀ w ∈ wsX20, w ∈ lw_tbl := fun w h => wsL_law_in w (inlX2 w h)
theorem inlX3 : ∀ w ∈ wsX30, w ∈ wsL_law := fun _ h => List.mem_append_left _ (List.mem_append_left _ (List.mem_append_left _ (List.mem_append_left _ (List.mem_append_left _ (List.mem_append_left _ (List.mem_append_right _ h))))))
theorem inX3 : ∀ w ∈ wsX30, w ∈ lw_tbl := fun w h => wsL_law_in w (inlX3 w h)
theorem inlX4 : ∀ w ∈ wsX40, w ∈ wsL_law := fun _ h => List.mem_append_left _ (List.mem_append_left _ (List.mem_append_left _ (List.mem_append_right _ h)))
theorem inX4 : ∀ w ∈ wsX40, w ∈ lw_tbl := fun w h => wsL_law_in w (inlX4 w h)
theorem inlX5 : ∀ w ∈ wsX50, w ∈ wsL_law := fun _ h => List.mem_append_left _ (List.mem_append_left _ (List.mem_append_left _ (List.mem_append_left _ (List.mem_append_left _ (List.mem_append_left _ (List.mem_append_left _ (List.mem_append_left _ (List.mem_append_left _ (List.mem_append_right _ h)))))))))
theorem inX5 : ∀ w ∈ wsX50, w ∈ lw_tbl := fun w h => wsL_law_in w (inlX5 w h)
theorem inlX6 : ∀ w ∈ wsX60, w ∈ wsL_law := fun _ h => List.mem_append_left _ (List.mem_append_left _ (List.mem_append_left _ (List.mem_append_left _ (List.mem_append_left _ (List.mem_append_left _ (List.mem_append_left _ (List.mem_append_left _ (List.mem_append_left _ (List.mem_append_left _ (List.mem_append_left _ (List.mem_append_right _ h)))))))))))
theorem inX6 : ∀ w ∈ wsX60, w ∈ lw_tbl := fun w h => wsL_law_in w (inlX6 w h)
theorem inlX7 : ∀ w ∈ wsX70, w ∈ wsL_law := fun _ h => List.mem_append_left _ (List.mem_append_left _ (List.mem_append_right _ h))
theorem inX7 : ∀ w ∈ wsX70, w ∈ lw_tbl := fun w h => wsL_law_in w (inlX7 w h)
theorem inlX8 : ∀ w ∈ wsX80, w ∈ wsL_law := fun _ h => List.mem_append_left _ (List.mem_append_left _ (List.mem_append_left _ (List.mem_append_left _ (List.mem_append_right _ h))))
theorem inX8 : ∀ w ∈ wsX80, w ∈ lw_tbl := fun w h => wsL_law_in w (inlX8 w h)
theorem inlX9 : ∀ w ∈ wsX90, w ∈ wsL_law := fun _ h => List.mem_append_left _ (List.mem_append_left _ (List.mem_append_left _ (List.mem_append_left _ (List.mem_append_left _ (List.mem_append_left _ (List.mem_append_left _ (List.mem_append_right _ h)))))))
theorem inX9 : ∀ w ∈ wsX90, w ∈ lw_tbl := fun w h => wsL_law_in w (inlX9 w h)
theorem inlX10 : ∀ w ∈ wsX100, w ∈ wsL_law := fun _ h => List.mem_append_left _ (List.mem_append_left _ (List.mem_append_left _ (List.mem_append_left _ (List.mem_append_left _ (List.mem_append_left _ (List.mem_append_left _ (List.mem_append_left _ (List.mem_append_left _ (List.mem_append_left _ (List.mem_append_left _ (List.mem_append_left _ (List.mem_append_right _ h))))))))))))
theorem inX10 : ∀ w ∈ wsX100, w ∈ lw_tbl := fun w h => wsL_law_in w (inlX10 w h)
theorem inlX11 : ∀ w ∈ wsX110, w ∈ wsL_law := fun _ h => List.mem_append_left _ (List.mem_append_left _ (List.mem_append_left _ (List.mem_append_left _ (List.mem_append_left _ (List.mem_append_left _ (List.mem_append_left _ (List.mem_append_left _ (List.mem_append_left _ (List.mem_append_left _ (List.mem_append_left _ (List.mem_append_left _ (List.mem_append_left _ (List.mem_append_left _ (List.mem_append_right _ h))))))))))))))
theorem inX11 : ∀ w ∈ wsX110, w ∈ lw_tbl := fun w h => wsL_law_in w (inlX11 w h)
theorem inlX12 : ∀ w ∈ wsX120, w ∈ wsL_law := fun _ h => List.mem_append_left _ (List.mem_append_left _ (List.mem_append_left _ (List.mem_append_left _ (List.mem_append_left _ (List.mem_append_left _ (List.mem_append_left _ (List.mem_append_left _ (List.mem_append_left _ (List.mem_append_left _ (List.mem_append_left _ (List.mem_append_left _ (List.mem_append_left _ (List.mem_append_right _ h)))))))))))))
theorem inX12 : ∀ w ∈ wsX120, w ∈ lw_tbl := fun w h => wsL_law_in w (inlX12 w h)
theorem inJx145de : ∀ w ∈ wsJx145de0, w ∈ lw_tbl := by decide +kernel
theorem inJ6 : ∀ w ∈ wsJ60, w ∈ lw_tbl := by decide +kernel
theorem inJ9 : ∀ w ∈ wsJ90, w ∈ lw_tbl := by decide +kernel
theorem inJ0 : ∀ w ∈ wsJ00, w ∈ lw_tbl := by decide +kernel
theorem inJ10 : ∀ w ∈ wsJ100, w ∈ lw_tbl := by decide +kernel
theorem dX0_init_0 : decode cX0_init 0 = .ok (.aload_n 0, 1) := by decide +kernel
theorem dX0_init_1 : decode cX0_init 1 = .ok (.invokespecial 1, 3) := by decide +kernel
theorem dX0_init_4 : decode cX0_init 4 = .ok (.aload_n 0, 1) := by decide +kernel
theorem dX0_init_5 : decode cX0_init 5 = .ok (.sipush 2760, 3) := by decide +kernel
theorem dX0_init_8 : decode cX0_init 8 = .ok (.newarray .int, 2) := by decide +kernel
theorem dX0_init_10 : decode cX0_init 10 = .ok (.putfield 11, 3) := by decide +kernel
theorem dX0_init_13 : decode cX0_init 13 = .ok (.return_, 1) := by decide +kernel
theorem dX0_keep_0 : decode cX0_keep 0 = .ok (.aload_n 1, 1) := by decide +kernel
theorem dX0_keep_1 : decode cX0_keep 1 = .ok (.getfield 15, 3) := by decide +kernel
theorem dX0_keep_4 : decode cX0_keep 4 = .ok (.iconst 0, 1) := by decide +kernel
theorem dX0_keep_5 : decode cX0_keep 5 = .ok (.aload_n 0, 1) := by decide +kernel
theorem dX0_keep_6 : decode cX0_keep 6 = .ok (.getfield 11, 3) := by decide +kernel
theorem dX0_keep_9 : decode cX0_keep 9 = .ok (.aload_n 0, 1) := by decide +kernel
theorem dX0_keep_10 : decode cX0_keep 10 = .ok (.getfield 18, 3) := by decide +kernel
theorem dX0_keep_13 : decode cX0_keep 13 = .ok (.bipush 69, 2) := by decide +kernel
theorem dX0_keep_15 : decode cX0_keep 15 = .ok (.imul, 1) := by decide +kernel
theorem dX0_keep_16 : decode cX0_keep 16 = .ok (.bipush 69, 2) := by decide +kernel
theorem dX0_keep_18 : decode cX0_keep 18 = .ok (.invokestatic 22, 3) := by decide +kernel
theorem dX0_keep_21 : decode cX0_keep 21 = .ok (.aload_n 0, 1) := by decide +kernel
theorem dX0_keep_22 : decode cX0_keep 22 = .ok (.aload_n 0, 1) := by decide +kernel
theorem dX0_keep_23 : decode cX0_keep 23 = .ok (.getfield 18, 3) := by decide +kernel
theorem dX0_keep_26 : decode cX0_keep 26 = .ok (.iconst 1, 1) := by decide +kernel
theorem dX0_keep_27 : decode cX0_keep 27 = .ok (.iadd, 1) := by decide +kernel
theorem dX0_keep_28 : decode cX0_keep 28 = .ok (.bipush 40, 2) := by decide +kernel
theorem dX0_keep_30 : decode cX0_keep 30 = .ok (.irem, 1) := by decide +kernel
theorem dX0_keep_31 : decode cX0_keep 31 = .ok (.putfield 18, 3) := by decide +kernel
theorem dX0_keep_34 : decode cX0_keep 34 = .ok (.aload_n 0, 1) := by decide +kernel
theorem dX0_keep_35 : decode cX0_keep 35 = .ok (.bipush 40, 2) := by decide +kernel
theorem dX0_keep_37 : decode cX0_keep 37 = .ok (.aload_n 0, 1) := by decide +kernel
theorem dX0_keep_38 : decode cX0_keep 38 = .ok (.getfield 28, 3) := by decide +kernel
theorem dX0_keep_41 : decode cX0_keep 41 = .ok (.iconst 1, 1) := by decide +kernel
theorem dX0_keep_42 : decode cX0_keep 42 = .ok (.iadd, 1) := by decide +kernel
theorem dX0_keep_43 : decode cX0_keep 43 = .ok (.invokestatic 31, 3) := by decide +kernel
theorem dX0_keep_46 : decode cX0_keep 46 = .ok (.putfield 28, 3) := by decide +kernel
theorem dX0_keep_49 : decode cX0_keep 49 = .ok (.return_, 1) := by decide +kernel
theorem dX0_takeBack_0 : decode cX0_takeBack 0 = .ok (.aload_n 0, 1) := by decide +kernel
theorem dX0_takeBack_1 : decode cX0_takeBack 1 = .ok (.aload_n 0, 1) := by decide +kernel
theorem dX0_takeBack_2 : decode cX0_takeBack 2 = .ok (.getfield 18, 3) := by decide +kernel
theorem dX0_takeBack_5 : decode cX0_takeBack 5 = .ok (.bipush 40, 2) := by decide +kernel
theorem dX0_takeBack_7 : decode cX0_takeBack 7 = .ok (.iadd, 1) := by decide +kernel
theorem dX0_takeBack_8 : decode cX0_takeBack 8 = .ok (.iconst 1, 1) := by decide +kernel
theorem dX0_takeBack_9 : decode cX0_takeBack 9 = .ok (.isub, 1) := by decide +kernel
theorem dX0_takeBack_10 : decode cX0_takeBack 10 = .ok (.bipush 40, 2) := by decide +kernel
theorem dX0_takeBack_12 : decode cX0_takeBack 12 = .ok (.irem, 1) := by decide +kernel
theorem dX0_takeBack_13 : decode cX0_takeBack 13 = .ok (.putfield 18, 3) := by decide +kernel
theorem dX0_takeBack_16 : decode cX0_takeBack 16 = .ok (.aload_n 0, 1) := by decide +kernel
theorem dX0_takeBack_17 : decode cX0_takeBack 17 = .ok (.dup, 1) := by decide +kernel
theorem dX0_takeBack_18 : decode cX0_takeBack 18 = .ok (.getfield 28, 3) := by decide +kernel
theorem dX0_takeBack_21 : decode cX0_takeBack 21 = .ok (.iconst 1, 1) := by decide +kernel
theorem dX0_takeBack_22 : decode cX0_takeBack 22 = .ok (.isub, 1) := by decide +kernel
theorem dX0_takeBack_23 : decode cX0_takeBack 23 = .ok (.putfield 28, 3) := by decide +kernel
theorem dX0_takeBack_26 : decode cX0_takeBack 26 = .ok (.aload_n 0, 1) := by decide +kernel
theorem dX0_takeBack_27 : decode cX0_takeBack 27 = .ok (.getfield 11, 3) := by decide +kernel
theorem dX0_takeBack_30 : decode cX0_takeBack 30 = .ok (.aload_n 0, 1) := by decide +kernel
theorem dX0_takeBack_31 : decode cX0_takeBack 31 = .ok (.getfield 18, 3) := by decide +kernel
theorem dX0_takeBack_34 : decode cX0_takeBack 34 = .ok (.bipush 69, 2) := by decide +kernel
theorem dX0_takeBack_36 : decode cX0_takeBack 36 = .ok (.imul, 1) := by decide +kernel
theorem dX0_takeBack_37 : decode cX0_takeBack 37 = .ok (.aload_n 1, 1) := by decide +kernel
theorem dX0_takeBack_38 : decode cX0_takeBack 38 = .ok (.getfield 15, 3) := by decide +kernel
theorem dX0_takeBack_41 : decode cX0_takeBack 41 = .ok (.iconst 0, 1) := by decide +kernel
theorem dX0_takeBack_42 : decode cX0_takeBack 42 = .ok (.bipush 69, 2) := by decide +kernel
theorem dX0_takeBack_44 : decode cX0_takeBack 44 = .ok (.invokestatic 22, 3) := by decide +kernel
theorem dX0_takeBack_47 : decode cX0_takeBack 47 = .ok (.return_, 1) := by decide +kernel
theorem dX0_forget_0 : decode cX0_forget 0 = .ok (.aload_n 0, 1) := by decide +kernel
theorem dX0_forget_1 : decode cX0_forget 1 = .ok (.iconst 0, 1) := by decide +kernel
theorem dX0_forget_2 : decode cX0_forget 2 = .ok (.putfield 28, 3) := by decide +kernel
theorem dX0_forget_5 : decode cX0_forget 5 = .ok (.return_, 1) := by decide +kernel
theorem dX1_init_0 : decode cX1_init 0 = .ok (.aload_n 0, 1) := by decide +kernel
theorem dX1_init_1 : decode cX1_init 1 = .ok (.invokespecial 3, 3) := by decide +kernel
theorem dX1_init_4 : decode cX1_init 4 = .ok (.aload_n 0, 1) := by decide +kernel
theorem dX1_init_5 : decode cX1_init 5 = .ok (.sipush 241, 3) := by decide +kernel
theorem dX1_init_8 : decode cX1_init 8 = .ok (.newarray .int, 2) := by decide +kernel
theorem dX1_init_10 : decode cX1_init 10 = .ok (.putfield 11, 3) := by decide +kernel
theorem dX1_init_13 : decode cX1_init 13 = .ok (.aload_n 0, 1) := by decide +kernel
theorem dX1_init_14 : decode cX1_init 14 = .ok (.aload_n 1, 1) := by decide +kernel
theorem dX1_init_15 : decode cX1_init 15 = .ok (.putfield 17, 3) := by decide +kernel
theorem dX1_init_18 : decode cX1_init 18 = .ok (.return_, 1) := by decide +kernel
theorem ggX1_readsAll_X1_readsClause : GoodIn wsX1_readsAll wsX1_readsClause := (bg_up (bg_law (bi_wsL_law0_r12 _ (List.mem_of_getElem? (i := 22) rfl))))
theorem gX1_readsAll_X1_readsClause : GoodIn wsX1_readsAll (wsV RX1 30 RX1 yX1_readsClause wsX1_readsClause) := goodIn_app (bg_up (bg_cons (bi_wsL_law0_r12 _ (List.mem_of_getElem? (i := 19) rfl)) (bg_cons (bi_wsL_law0_r12 _ (List.mem_of_getElem? (i := 20) rfl)) (bg_cons (bi_wsL_law0_r12 _ (List.mem_of_getElem? (i := 21) rfl)) (bg_cons (bi_wsL_law0_r2 _ (List.mem_of_getElem? (i := 0) rfl)) bg_nil))))) (bg_up (bg_law (bi_wsL_law0_r12 _ (List.mem_of_getElem? (i := 22) rfl))))
theorem ggX1_readsAll_X10_sign : GoodIn wsX1_readsAll wsX10_sign := (bg_up (bg_law (bi_wsL_law0_r10 _ (List.mem_of_getElem? (i := 7) rfl))))
theorem gX1_readsAll_X10_sign : GoodIn wsX1_readsAll (wsV RX1 34 RX10 yX10_sign wsX10_sign) := goodIn_app (bg_up (bg_cons (bi_wsL_law0_r13 _ (List.mem_of_getElem? (i := 0) rfl)) (bg_cons (bi_wsL_law0_r10 _ (List.mem_of_getElem? (i := 5) rfl)) (bg_cons (bi_wsL_law0_r10 _ (List.mem_of_getElem? (i := 6) rfl)) (bg_cons (bi_wsL_law0_r1 _ (List.mem_of_getElem? (i := 16) rfl)) bg_nil))))) (bg_up (bg_law (bi_wsL_law0_r10 _ (List.mem_of_getElem? (i := 7) rfl))))
theorem ggX1_readsAll_X10_take : GoodIn wsX1_readsAll wsX10_take := (bg_up (bg_law (bi_wsL_law0_r12 _ (List.mem_of_getElem? (i := 12) rfl))))
theorem gX1_readsAll_X10_take : GoodIn wsX1_readsAll (wsV RX1 38 RX10 yX10_take wsX10_take) := goodIn_app (bg_up (bg_cons (bi_wsL_law0_r12 _ (List.mem_of_getElem? (i := 23) rfl)) (bg_cons (bi_wsL_law0_r12 _ (List.mem_of_getElem? (i := 10) rfl)) (bg_cons (bi_wsL_law0_r12 _ (List.mem_of_getElem? (i := 11) rfl)) (bg_cons (bi_wsL_law0_r1 _ (List.mem_of_getElem? (i := 16) rfl)) bg_nil))))) (bg_up (bg_law (bi_wsL_law0_r12 _ (List.mem_of_getElem? (i := 12) rfl))))
theorem dX1_readsAll_0 : decode cX1_readsAll 0 = .ok (.aload_n 0, 1) := by decide +kernel
theorem dX1_readsAll_1 : decode cX1_readsAll 1 = .ok (.getfield 17, 3) := by decide +kernel
theorem dX1_readsAll_4 : decode cX1_readsAll 4 = .ok (.iconst 0, 1) := by decide +kernel
theorem dX1_readsAll_5 : decode cX1_readsAll 5 = .ok (.putfield 21, 3) := by decide +kernel
theorem dX1_readsAll_8 : decode cX1_readsAll 8 = .ok (.aload_n 0, 1) := by decide +kernel
theorem dX1_readsAll_9 : decode cX1_readsAll 9 = .ok (.iconst 0, 1) := by decide +kernel
theorem dX1_readsAll_10 : decode cX1_readsAll 10 = .ok (.putfield 27, 3) := by decide +kernel
theorem dX1_readsAll_13 : decode cX1_readsAll 13 = .ok (.iconst 0, 1) := by decide +kernel
theorem dX1_readsAll_14 : decode cX1_readsAll 14 = .ok (.istore_n 1, 1) := by decide +kernel
theorem dX1_readsAll_15 : decode cX1_readsAll 15 = .ok (.iload_n 1, 1) := by decide +kernel
theorem dX1_readsAll_16 : decode cX1_readsAll 16 = .ok (.sipush 240, 3) := by decide +kernel
theorem dX1_readsAll_19 : decode cX1_readsAll 19 = .ok (.if_icmp .gt 45, 3) := by decide +kernel
theorem dX1_readsAll_22 : decode cX1_readsAll 22 = .ok (.aload_n 0, 1) := by decide +kernel
theorem dX1_readsAll_23 : decode cX1_readsAll 23 = .ok (.invokevirtual 30, 3) := by decide +kernel
theorem dX1_readsAll_26 : decode cX1_readsAll 26 = .ok (.ifCond .ne 5, 3) := by decide +kernel
theorem dX1_readsAll_29 : decode cX1_readsAll 29 = .ok (.iconst 0, 1) := by decide +kernel
theorem dX1_readsAll_30 : decode cX1_readsAll 30 = .ok (.ireturn, 1) := by decide +kernel
theorem dX1_readsAll_31 : decode cX1_readsAll 31 = .ok (.aload_n 0, 1) := by decide +kernel
theorem dX1_readsAll_32 : decode cX1_readsAll 32 = .ok (.getfield 17, 3) := by decide +kernel
theorem dX1_readsAll_35 : decode cX1_readsAll 35 = .ok (.invokevirtual 34, 3) := by decide +kernel
theorem dX1_readsAll_38 : decode cX1_readsAll 38 = .ok (.iconst (-1), 1) := by decide +kernel
theorem dX1_readsAll_39 : decode cX1_readsAll 39 = .ok (.if_icmp .ne 5, 3) := by decide +kernel
theorem dX1_readsAll_42 : decode cX1_readsAll 42 = .ok (.iconst 1, 1) := by decide +kernel
theorem dX1_readsAll_43 : decode cX1_readsAll 43 = .ok (.ireturn, 1) := by decide +kernel
theorem dX1_readsAll_44 : decode cX1_readsAll 44 = .ok (.aload_n 0, 1) := by decide +kernel
theorem dX1_readsAll_45 : decode cX1_readsAll 45 = .ok (.getfield 17, 3) := by decide +kernel
theorem dX1_readsAll_48 : decode cX1_readsAll 48 = .ok (.bipush 59, 2) := by decide +kernel
theorem dX1_readsAll_50 : decode cX1_readsAll 50 = .ok (.invokevirtual 38, 3) := by decide +kernel
theorem dX1_readsAll_53 : decode cX1_readsAll 53 = .ok (.ifCond .ne 5, 3) := by decide +kernel
theorem dX1_readsAll_56 : decode cX1_readsAll 56 = .ok (.iconst 0, 1) := by decide +kernel
theorem dX1_readsAll_57 : decode cX1_readsAll 57 = .ok (.ireturn, 1) := by decide +kernel
theorem dX1_readsAll_58 : decode cX1_readsAll 58 = .ok (.iinc 1 1, 3) := by decide +kernel
theorem dX1_readsAll_61 : decode cX1_readsAll 61 = .ok (.goto (-46), 3) := by decide +kernel
theorem dX1_readsAll_64 : decode cX1_readsAll 64 = .ok (.iconst 0, 1) := by decide +kernel
theorem dX1_readsAll_65 : decode cX1_readsAll 65 = .ok (.ireturn, 1) := by decide +kernel
theorem ggX1_readsClause_X10_take : GoodIn wsX1_readsClause wsX10_take := (bg_up (bg_law (bi_wsL_law0_r12 _ (List.mem_of_getElem? (i := 12) rfl))))
theorem gX1_readsClause_X10_take : GoodIn wsX1_readsClause (wsV RX1 38 RX10 yX10_take wsX10_take) := goodIn_app (bg_up (bg_cons (bi_wsL_law0_r12 _ (List.mem_of_getElem? (i := 23) rfl)) (bg_cons (bi_wsL_law0_r12 _ (List.mem_of_getElem? (i := 10) rfl)) (bg_cons (bi_wsL_law0_r12 _ (List.mem_of_getElem? (i := 11) rfl)) (bg_cons (bi_wsL_law0_r1 _ (List.mem_of_getElem? (i := 16) rfl)) bg_nil))))) (bg_up (bg_law (bi_wsL_law0_r12 _ (List.mem_of_getElem? (i := 12) rfl))))
theorem ggX1_readsClause_X10_sign : GoodIn wsX1_readsClause wsX10_sign := (bg_up (bg_law (bi_wsL_law0_r10 _ (List.mem_of_getElem? (i := 7) rfl))))
theorem gX1_readsClause_X10_sign : GoodIn wsX1_readsClause (wsV RX1 34 RX10 yX10_sign wsX10_sign) := goodIn_app (bg_up (bg_cons (bi_wsL_law0_r13 _ (List.mem_of_getElem? (i := 0) rfl)) (bg_cons (bi_wsL_law0_r10 _ (List.mem_of_getElem? (i := 5) rfl)) (bg_cons (bi_wsL_law0_r10 _ (List.mem_of_getElem? (i := 6) rfl)) (bg_cons (bi_wsL_law0_r1 _ (List.mem_of_getElem? (i := 16) rfl)) bg_nil))))) (bg_up (bg_law (bi_wsL_law0_r10 _ (List.mem_of_getElem? (i := 7) rfl))))
theorem ggX1_readsClause_X1_readsCondition : GoodIn wsX1_readsClause wsX1_readsCondition := (bg_up (bg_law (bi_wsL_law0_r13 _ (List.mem_of_getElem? (i := 4) rfl))))
theorem gX1_readsClause_X1_readsCondition : GoodIn wsX1_readsClause (wsV RX1 42 RX1 yX1_readsCondition wsX1_readsCondition) := goodIn_app (bg_up (bg_cons (bi_wsL_law0_r13 _ (List.mem_of_getElem? (i := 1) rfl)) (bg_cons (bi_wsL_law0_r13 _ (List.mem_of_getElem? (i := 2) rfl)) (bg_cons (bi_wsL_law0_r13 _ (List.mem_of_getElem? (i := 3) rfl)) (bg_cons (bi_wsL_law0_r2 _ (List.mem_of_getElem? (i := 0) rfl)) bg_nil))))) (bg_up (bg_law (bi_wsL_law0_r13 _ (List.mem_of_getElem? (i := 4) rfl))))
theorem ggX1_readsClause_X1_readsSum : GoodIn wsX1_readsClause wsX1_readsSum := (bg_up (bg_law (bi_wsL_law0_r14 _ (List.mem_of_getElem? (i := 0) rfl))))
theorem gX1_readsClause_X1_readsSum : GoodIn wsX1_readsClause (wsV RX1 45 RX1 yX1_readsSum wsX1_readsSum) := goodIn_app (bg_up (bg_cons (bi_wsL_law0_r13 _ (List.mem_of_getElem? (i := 21) rfl)) (bg_cons (bi_wsL_law0_r13 _ (List.mem_of_getElem? (i := 22) rfl)) (bg_cons (bi_wsL_law0_r13 _ (List.mem_of_getElem? (i := 23) rfl)) (bg_cons (bi_wsL_law0_r2 _ (List.mem_of_getElem? (i := 0) rfl)) bg_nil))))) (bg_up (bg_law (bi_wsL_law0_r14 _ (List.mem_of_getElem? (i := 0) rfl))))
theorem ggX1_readsClause_X1_comparison : GoodIn wsX1_readsClause wsX1_comparison := (bg_up (bg_law (bi_wsL_law0_r14 _ (List.mem_of_getElem? (i := 19) rfl))))
theorem gX1_readsClause_X1_comparison : GoodIn wsX1_readsClause (va_wsS RX1 48 yX1_comparison wsX1_comparison) := goodIn_app (bg_up (bg_cons (bi_wsL_law0_r14 _ (List.mem_of_getElem? (i := 17) rfl)) (bg_cons (bi_wsL_law0_r14 _ (List.mem_of_getElem? (i := 18) rfl)) (bg_cons (bi_wsL_law0_r2 _ (List.mem_of_getElem? (i := 0) rfl)) bg_nil)))) (bg_up (bg_law (bi_wsL_law0_r14 _ (List.mem_of_getElem? (i := 19) rfl))))
theorem ggX1_readsClause_X1_readsComparison : GoodIn wsX1_readsClause wsX1_readsComparison := (bg_up (bg_law (bi_wsL_law0_r14 _ (List.mem_of_getElem? (i := 16) rfl))))
theorem gX1_readsClause_X1_readsComparison : GoodIn wsX1_readsClause (wsV RX1 52 RX1 yX1_readsComparison wsX1_readsComparison) := goodIn_app (bg_up (bg_cons (bi_wsL_law0_r14 _ (List.mem_of_getElem? (i := 13) rfl)) (bg_cons (bi_wsL_law0_r14 _ (List.mem_of_getElem? (i := 14) rfl)) (bg_cons (bi_wsL_law0_r14 _ (List.mem_of_getElem? (i := 15) rfl)) (bg_cons (bi_wsL_law0_r2 _ (List.mem_of_getElem? (i := 0) rfl)) bg_nil))))) (bg_up (bg_law (bi_wsL_law0_r14 _ (List.mem_of_getElem? (i := 16) rfl))))
theorem ggX1_readsClause_X1_readsMoreUnits : GoodIn wsX1_readsClause wsX1_readsMoreUnits := (bg_up (bg_law (bi_wsL_law0_r13 _ (List.mem_of_getElem? (i := 19) rfl))))
theorem gX1_readsClause_X1_readsMoreUnits : GoodIn wsX1_readsClause (wsV RX1 55 RX1 yX1_readsMoreUnits wsX1_readsMoreUnits) := goodIn_app (bg_up (bg_cons (bi_wsL_law0_r13 _ (List.mem_of_getElem? (i := 8) rfl)) (bg_cons (bi_wsL_law0_r13 _ (List.mem_of_getElem? (i := 9) rfl)) (bg_cons (bi_wsL_law0_r13 _ (List.mem_of_getElem? (i := 10) rfl)) (bg_cons (bi_wsL_law0_r2 _ (List.mem_of_getElem? (i := 0) rfl)) bg_nil))))) (bg_up (bg_law (bi_wsL_law0_r13 _ (List.mem_of_getElem? (i := 19) rfl))))
theorem ggX1_readsClause_X1_readsMoreTruths : GoodIn wsX1_readsClause wsX1_readsMoreTruths := (bg_up (bg_law (bi_wsL_law0_r13 _ (List.mem_of_getElem? (i := 14) rfl))))
theorem gX1_readsClause_X1_readsMoreTruths : GoodIn wsX1_readsClause (wsV RX1 58 RX1 yX1_readsMoreTruths wsX1_readsMoreTruths) := goodIn_app (bg_up (bg_cons (bi_wsL_law0_r13 _ (List.mem_of_getElem? (i := 11) rfl)) (bg_cons (bi_wsL_law0_r13 _ (List.mem_of_getElem? (i := 12) rfl)) (bg_cons (bi_wsL_law0_r13 _ (List.mem_of_getElem? (i := 13) rfl)) (bg_cons (bi_wsL_law0_r2 _ (List.mem_of_getElem? (i := 0) rfl)) bg_nil))))) (bg_up (bg_law (bi_wsL_law0_r13 _ (List.mem_of_getElem? (i := 14) rfl))))
theorem ggX1_readsClause_X1_put : GoodIn wsX1_readsClause wsX1_put := (bg_up (bg_law (bi_wsL_law0_r13 _ (List.mem_of_getElem? (i := 18) rfl))))
theorem gX1_readsClause_X1_put : GoodIn wsX1_readsClause (wsV RX1 61 RX1 yX1_put wsX1_put) := goodIn_app (bg_up (bg_cons (bi_wsL_law0_r13 _ (List.mem_of_getElem? (i := 15) rfl)) (bg_cons (bi_wsL_law0_r13 _ (List.mem_of_getElem? (i := 16) rfl)) (bg_cons (bi_wsL_law0_r13 _ (List.mem_of_getElem? (i := 17) rfl)) (bg_cons (bi_wsL_law0_r2 _ (List.mem_of_getElem? (i := 0) rfl)) bg_nil))))) (bg_up (bg_law (bi_wsL_law0_r13 _ (List.mem_of_getElem? (i := 18) rfl))))
theorem dX1_readsClause_0 : decode cX1_readsClause 0 = .ok (.aload_n 0, 1) := by decide +kernel
theorem dX1_readsClause_1 : decode cX1_readsClause 1 = .ok (.getfield 17, 3) := by decide +kernel
theorem dX1_readsClause_4 : decode cX1_readsClause 4 = .ok (.bipush 121, 2) := by decide +kernel
theorem dX1_readsClause_6 : decode cX1_readsClause 6 = .ok (.invokevirtual 38, 3) := by decide +kernel
theorem dX1_readsClause_9 : decode cX1_readsClause 9 = .ok (.ifCond .eq 15, 3) := by decide +kernel
theorem dX1_readsClause_12 : decode cX1_readsClause 12 = .ok (.aload_n 0, 1) := by decide +kernel
theorem dX1_readsClause_13 : decode cX1_readsClause 13 = .ok (.getfield 17, 3) := by decide +kernel
theorem dX1_readsClause_16 : decode cX1_readsClause 16 = .ok (.bipush 58, 2) := by decide +kernel
theorem dX1_readsClause_18 : decode cX1_readsClause 18 = .ok (.invokevirtual 38, 3) := by decide +kernel
theorem dX1_readsClause_21 : decode cX1_readsClause 21 = .ok (.ifCond .ne 5, 3) := by decide +kernel
theorem dX1_readsClause_24 : decode cX1_readsClause 24 = .ok (.iconst 0, 1) := by decide +kernel
theorem dX1_readsClause_25 : decode cX1_readsClause 25 = .ok (.ireturn, 1) := by decide +kernel
theorem dX1_readsClause_26 : decode cX1_readsClause 26 = .ok (.aload_n 0, 1) := by decide +kernel
theorem dX1_readsClause_27 : decode cX1_readsClause 27 = .ok (.getfield 17, 3) := by decide +kernel
theorem dX1_readsClause_30 : decode cX1_readsClause 30 = .ok (.invokevirtual 34, 3) := by decide +kernel
theorem dX1_readsClause_33 : decode cX1_readsClause 33 = .ok (.istore_n 1, 1) := by decide +kernel
theorem dX1_readsClause_34 : decode cX1_readsClause 34 = .ok (.iload_n 1, 1) := by decide +kernel
theorem dX1_readsClause_35 : decode cX1_readsClause 35 = .ok (.bipush 33, 2) := by decide +kernel
theorem dX1_readsClause_37 : decode cX1_readsClause 37 = .ok (.if_icmp .eq 9, 3) := by decide +kernel
theorem dX1_readsClause_40 : decode cX1_readsClause 40 = .ok (.iload_n 1, 1) := by decide +kernel
theorem dX1_readsClause_41 : decode cX1_readsClause 41 = .ok (.bipush 40, 2) := by decide +kernel
theorem dX1_readsClause_43 : decode cX1_readsClause 43 = .ok (.if_icmp .ne 7, 3) := by decide +kernel
theorem dX1_readsClause_46 : decode cX1_readsClause 46 = .ok (.iconst 1, 1) := by decide +kernel
theorem dX1_readsClause_47 : decode cX1_readsClause 47 = .ok (.goto 4, 3) := by decide +kernel
theorem dX1_readsClause_50 : decode cX1_readsClause 50 = .ok (.iconst 0, 1) := by decide +kernel
theorem dX1_readsClause_51 : decode cX1_readsClause 51 = .ok (.istore_n 2, 1) := by decide +kernel
theorem dX1_readsClause_52 : decode cX1_readsClause 52 = .ok (.iload_n 2, 1) := by decide +kernel
theorem dX1_readsClause_53 : decode cX1_readsClause 53 = .ok (.ifCond .eq 13, 3) := by decide +kernel
theorem dX1_readsClause_56 : decode cX1_readsClause 56 = .ok (.aload_n 0, 1) := by decide +kernel
theorem dX1_readsClause_57 : decode cX1_readsClause 57 = .ok (.iconst 0, 1) := by decide +kernel
theorem dX1_readsClause_58 : decode cX1_readsClause 58 = .ok (.invokevirtual 42, 3) := by decide +kernel
theorem dX1_readsClause_61 : decode cX1_readsClause 61 = .ok (.ifCond .ne 65, 3) := by decide +kernel
theorem dX1_readsClause_64 : decode cX1_readsClause 64 = .ok (.iconst 0, 1) := by decide +kernel
theorem dX1_readsClause_65 : decode cX1_readsClause 65 = .ok (.ireturn, 1) := by decide +kernel
theorem dX1_readsClause_66 : decode cX1_readsClause 66 = .ok (.aload_n 0, 1) := by decide +kernel
theorem dX1_readsClause_67 : decode cX1_readsClause 67 = .ok (.iconst 0, 1) := by decide +kernel
theorem dX1_readsClause_68 : decode cX1_readsClause 68 = .ok (.invokevirtual 45, 3) := by decide +kernel
theorem dX1_readsClause_71 : decode cX1_readsClause 71 = .ok (.ifCond .ne 5, 3) := by decide +kernel
theorem dX1_readsClause_74 : decode cX1_readsClause 74 = .ok (.iconst 0, 1) := by decide +kernel
theorem dX1_readsClause_75 : decode cX1_readsClause 75 = .ok (.ireturn, 1) := by decide +kernel
theorem dX1_readsClause_76 : decode cX1_readsClause 76 = .ok (.aload_n 0, 1) := by decide +kernel
theorem dX1_readsClause_77 : decode cX1_readsClause 77 = .ok (.getfield 17, 3) := by decide +kernel
theorem dX1_readsClause_80 : decode cX1_readsClause 80 = .ok (.invokevirtual 34, 3) := by decide +kernel
theorem dX1_readsClause_83 : decode cX1_readsClause 83 = .ok (.invokestatic 48, 3) := by decide +kernel
theorem dX1_readsClause_86 : decode cX1_readsClause 86 = .ok (.iconst (-1), 1) := by decide +kernel
theorem dX1_readsClause_87 : decode cX1_readsClause 87 = .ok (.if_icmp .eq 7, 3) := by decide +kernel
theorem dX1_readsClause_90 : decode cX1_readsClause 90 = .ok (.iconst 1, 1) := by decide +kernel
theorem dX1_readsClause_91 : decode cX1_readsClause 91 = .ok (.goto 4, 3) := by decide +kernel
theorem dX1_readsClause_94 : decode cX1_readsClause 94 = .ok (.iconst 0, 1) := by decide +kernel
theorem dX1_readsClause_95 : decode cX1_readsClause 95 = .ok (.istore_n 2, 1) := by decide +kernel
theorem dX1_readsClause_96 : decode cX1_readsClause 96 = .ok (.iload_n 2, 1) := by decide +kernel
theorem dX1_readsClause_97 : decode cX1_readsClause 97 = .ok (.ifCond .eq 29, 3) := by decide +kernel
theorem dX1_readsClause_100 : decode cX1_readsClause 100 = .ok (.aload_n 0, 1) := by decide +kernel
theorem dX1_readsClause_101 : decode cX1_readsClause 101 = .ok (.iconst 0, 1) := by decide +kernel
theorem dX1_readsClause_102 : decode cX1_readsClause 102 = .ok (.invokevirtual 52, 3) := by decide +kernel
theorem dX1_readsClause_105 : decode cX1_readsClause 105 = .ok (.ifCond .eq 19, 3) := by decide +kernel
theorem dX1_readsClause_108 : decode cX1_readsClause 108 = .ok (.aload_n 0, 1) := by decide +kernel
theorem dX1_readsClause_109 : decode cX1_readsClause 109 = .ok (.iconst 0, 1) := by decide +kernel
theorem dX1_readsClause_110 : decode cX1_readsClause 110 = .ok (.invokevirtual 55, 3) := by decide +kernel
theorem dX1_readsClause_113 : decode cX1_readsClause 113 = .ok (.ifCond .eq 11, 3) := by decide +kernel
theorem dX1_readsClause_116 : decode cX1_readsClause 116 = .ok (.aload_n 0, 1) := by decide +kernel
theorem dX1_readsClause_117 : decode cX1_readsClause 117 = .ok (.iconst 0, 1) := by decide +kernel
theorem dX1_readsClause_118 : decode cX1_readsClause 118 = .ok (.invokevirtual 58, 3) := by decide +kernel
theorem dX1_readsClause_121 : decode cX1_readsClause 121 = .ok (.ifCond .ne 5, 3) := by decide +kernel
theorem dX1_readsClause_124 : decode cX1_readsClause 124 = .ok (.iconst 0, 1) := by decide +kernel
theorem dX1_readsClause_125 : decode cX1_readsClause 125 = .ok (.ireturn, 1) := by decide +kernel
theorem dX1_readsClause_126 : decode cX1_readsClause 126 = .ok (.iload_n 2, 1) := by decide +kernel
theorem dX1_readsClause_127 : decode cX1_readsClause 127 = .ok (.ifCond .eq 34, 3) := by decide +kernel
theorem dX1_readsClause_130 : decode cX1_readsClause 130 = .ok (.aload_n 0, 1) := by decide +kernel
theorem dX1_readsClause_131 : decode cX1_readsClause 131 = .ok (.getfield 17, 3) := by decide +kernel
theorem dX1_readsClause_134 : decode cX1_readsClause 134 = .ok (.bipush 63, 2) := by decide +kernel
theorem dX1_readsClause_136 : decode cX1_readsClause 136 = .ok (.invokevirtual 38, 3) := by decide +kernel
theorem dX1_readsClause_139 : decode cX1_readsClause 139 = .ok (.ifCond .eq 20, 3) := by decide +kernel
theorem dX1_readsClause_142 : decode cX1_readsClause 142 = .ok (.aload_n 0, 1) := by decide +kernel
theorem dX1_readsClause_143 : decode cX1_readsClause 143 = .ok (.bipush (-12), 2) := by decide +kernel
theorem dX1_readsClause_145 : decode cX1_readsClause 145 = .ok (.invokevirtual 61, 3) := by decide +kernel
theorem dX1_readsClause_148 : decode cX1_readsClause 148 = .ok (.ifCond .eq 11, 3) := by decide +kernel
theorem dX1_readsClause_151 : decode cX1_readsClause 151 = .ok (.aload_n 0, 1) := by decide +kernel
theorem dX1_readsClause_152 : decode cX1_readsClause 152 = .ok (.iconst 0, 1) := by decide +kernel
theorem dX1_readsClause_153 : decode cX1_readsClause 153 = .ok (.invokevirtual 45, 3) := by decide +kernel
theorem dX1_readsClause_156 : decode cX1_readsClause 156 = .ok (.ifCond .ne 5, 3) := by decide +kernel
theorem dX1_readsClause_159 : decode cX1_readsClause 159 = .ok (.iconst 0, 1) := by decide +kernel
theorem dX1_readsClause_160 : decode cX1_readsClause 160 = .ok (.ireturn, 1) := by decide +kernel
theorem dX1_readsClause_161 : decode cX1_readsClause 161 = .ok (.aload_n 0, 1) := by decide +kernel
theorem dX1_readsClause_162 : decode cX1_readsClause 162 = .ok (.bipush (-13), 2) := by decide +kernel
theorem dX1_readsClause_164 : decode cX1_readsClause 164 = .ok (.invokevirtual 61, 3) := by decide +kernel
theorem dX1_readsClause_167 : decode cX1_readsClause 167 = .ok (.ireturn, 1) := by decide +kernel
theorem ggX1_readsCondition_X1_readsUnit : GoodIn wsX1_readsCondition wsX1_readsUnit := (bg_up (bg_law (bi_wsL_law0_r13 _ (List.mem_of_getElem? (i := 20) rfl))))
theorem gX1_readsCondition_X1_readsUnit : GoodIn wsX1_readsCondition (wsV RX1 64 RX1 yX1_readsUnit wsX1_readsUnit) := goodIn_app (bg_up (bg_cons (bi_wsL_law0_r13 _ (List.mem_of_getElem? (i := 5) rfl)) (bg_cons (bi_wsL_law0_r13 _ (List.mem_of_getElem? (i := 6) rfl)) (bg_cons (bi_wsL_law0_r13 _ (List.mem_of_getElem? (i := 7) rfl)) (bg_cons (bi_wsL_law0_r2 _ (List.mem_of_getElem? (i := 0) rfl)) bg_nil))))) (bg_up (bg_law (bi_wsL_law0_r13 _ (List.mem_of_getElem? (i := 20) rfl))))
theorem ggX1_readsCondition_X1_readsMoreUnits : GoodIn wsX1_readsCondition wsX1_readsMoreUnits := (bg_up (bg_law (bi_wsL_law0_r13 _ (List.mem_of_getElem? (i := 19) rfl))))
theorem gX1_readsCondition_X1_readsMoreUnits : GoodIn wsX1_readsCondition (wsV RX1 55 RX1 yX1_readsMoreUnits wsX1_readsMoreUnits) := goodIn_app (bg_up (bg_cons (bi_wsL_law0_r13 _ (List.mem_of_getElem? (i := 8) rfl)) (bg_cons (bi_wsL_law0_r13 _ (List.mem_of_getElem? (i := 9) rfl)) (bg_cons (bi_wsL_law0_r13 _ (List.mem_of_getElem? (i := 10) rfl)) (bg_cons (bi_wsL_law0_r2 _ (List.mem_of_getElem? (i := 0) rfl)) bg_nil))))) (bg_up (bg_law (bi_wsL_law0_r13 _ (List.mem_of_getElem? (i := 19) rfl))))
theorem ggX1_readsCondition_X1_readsMoreTruths : GoodIn wsX1_readsCondition wsX1_readsMoreTruths := (bg_up (bg_law (bi_wsL_law0_r13 _ (List.mem_of_getElem? (i := 14) rfl))))
theorem gX1_readsCondition_X1_readsMoreTruths : GoodIn wsX1_readsCondition (wsV RX1 58 RX1 yX1_readsMoreTruths wsX1_readsMoreTruths) := goodIn_app (bg_up (bg_cons (bi_wsL_law0_r13 _ (List.mem_of_getElem? (i := 11) rfl)) (bg_cons (bi_wsL_law0_r13 _ (List.mem_of_getElem? (i := 12) rfl)) (bg_cons (bi_wsL_law0_r13 _ (List.mem_of_getElem? (i := 13) rfl)) (bg_cons (bi_wsL_law0_r2 _ (List.mem_of_getElem? (i := 0) rfl)) bg_nil))))) (bg_up (bg_law (bi_wsL_law0_r13 _ (List.mem_of_getElem? (i := 14) rfl))))
theorem dX1_readsCondition_0 : decode cX1_readsCondition 0 = .ok (.aload_n 0, 1) := by decide +kernel
theorem dX1_readsCondition_1 : decode cX1_readsCondition 1 = .ok (.iload_n 1, 1) := by decide +kernel
theorem dX1_readsCondition_2 : decode cX1_readsCondition 2 = .ok (.invokevirtual 64, 3) := by decide +kernel
theorem dX1_readsCondition_5 : decode cX1_readsCondition 5 = .ok (.ifCond .eq 23, 3) := by decide +kernel
theorem dX1_readsCondition_8 : decode cX1_readsCondition 8 = .ok (.aload_n 0, 1) := by decide +kernel
theorem dX1_readsCondition_9 : decode cX1_readsCondition 9 = .ok (.iload_n 1, 1) := by decide +kernel
theorem dX1_readsCondition_10 : decode cX1_readsCondition 10 = .ok (.invokevirtual 55, 3) := by decide +kernel
theorem dX1_readsCondition_13 : decode cX1_readsCondition 13 = .ok (.ifCond .eq 15, 3) := by decide +kernel
theorem dX1_readsCondition_16 : decode cX1_readsCondition 16 = .ok (.aload_n 0, 1) := by decide +kernel
theorem dX1_readsCondition_17 : decode cX1_readsCondition 17 = .ok (.iload_n 1, 1) := by decide +kernel
theorem dX1_readsCondition_18 : decode cX1_readsCondition 18 = .ok (.invokevirtual 58, 3) := by decide +kernel
theorem dX1_readsCondition_21 : decode cX1_readsCondition 21 = .ok (.ifCond .eq 7, 3) := by decide +kernel
theorem dX1_readsCondition_24 : decode cX1_readsCondition 24 = .ok (.iconst 1, 1) := by decide +kernel
theorem dX1_readsCondition_25 : decode cX1_readsCondition 25 = .ok (.goto 4, 3) := by decide +kernel
theorem dX1_readsCondition_28 : decode cX1_readsCondition 28 = .ok (.iconst 0, 1) := by decide +kernel
theorem dX1_readsCondition_29 : decode cX1_readsCondition 29 = .ok (.ireturn, 1) := by decide +kernel
theorem ggX1_readsMoreTruths_X10_take : GoodIn wsX1_readsMoreTruths wsX10_take := (bg_up (bg_law (bi_wsL_law0_r12 _ (List.mem_of_getElem? (i := 12) rfl))))
theorem gX1_readsMoreTruths_X10_take : GoodIn wsX1_readsMoreTruths (wsV RX1 38 RX10 yX10_take wsX10_take) := goodIn_app (bg_up (bg_cons (bi_wsL_law0_r12 _ (List.mem_of_getElem? (i := 23) rfl)) (bg_cons (bi_wsL_law0_r12 _ (List.mem_of_getElem? (i := 10) rfl)) (bg_cons (bi_wsL_law0_r12 _ (List.mem_of_getElem? (i := 11) rfl)) (bg_cons (bi_wsL_law0_r1 _ (List.mem_of_getElem? (i := 16) rfl)) bg_nil))))) (bg_up (bg_law (bi_wsL_law0_r12 _ (List.mem_of_getElem? (i := 12) rfl))))
theorem ggX1_readsMoreTruths_X1_readsUnit : GoodIn wsX1_readsMoreTruths wsX1_readsUnit := (bg_up (bg_law (bi_wsL_law0_r13 _ (List.mem_of_getElem? (i := 20) rfl))))
theorem gX1_readsMoreTruths_X1_readsUnit : GoodIn wsX1_readsMoreTruths (wsV RX1 64 RX1 yX1_readsUnit wsX1_readsUnit) := goodIn_app (bg_up (bg_cons (bi_wsL_law0_r13 _ (List.mem_of_getElem? (i := 5) rfl)) (bg_cons (bi_wsL_law0_r13 _ (List.mem_of_getElem? (i := 6) rfl)) (bg_cons (bi_wsL_law0_r13 _ (List.mem_of_getElem? (i := 7) rfl)) (bg_cons (bi_wsL_law0_r2 _ (List.mem_of_getElem? (i := 0) rfl)) bg_nil))))) (bg_up (bg_law (bi_wsL_law0_r13 _ (List.mem_of_getElem? (i := 20) rfl))))
theorem ggX1_readsMoreTruths_X1_readsMoreUnits : GoodIn wsX1_readsMoreTruths wsX1_readsMoreUnits := (bg_up (bg_law (bi_wsL_law0_r13 _ (List.mem_of_getElem? (i := 19) rfl))))
theorem gX1_readsMoreTruths_X1_readsMoreUnits : GoodIn wsX1_readsMoreTruths (wsV RX1 55 RX1 yX1_readsMoreUnits wsX1_readsMoreUnits) := goodIn_app (bg_up (bg_cons (bi_wsL_law0_r13 _ (List.mem_of_getElem? (i := 8) rfl)) (bg_cons (bi_wsL_law0_r13 _ (List.mem_of_getElem? (i := 9) rfl)) (bg_cons (bi_wsL_law0_r13 _ (List.mem_of_getElem? (i := 10) rfl)) (bg_cons (bi_wsL_law0_r2 _ (List.mem_of_getElem? (i := 0) rfl)) bg_nil))))) (bg_up (bg_law (bi_wsL_law0_r13 _ (List.mem_of_getElem? (i := 19) rfl))))
theorem ggX1_readsMoreTruths_X1_put : GoodIn wsX1_readsMoreTruths wsX1_put := (bg_up (bg_law (bi_wsL_law0_r13 _ (List.mem_of_getElem? (i := 18) rfl))))
theorem gX1_readsMoreTruths_X1_put : GoodIn wsX1_readsMoreTruths (wsV RX1 61 RX1 yX1_put wsX1_put) := goodIn_app (bg_up (bg_cons (bi_wsL_law0_r13 _ (List.mem_of_getElem? (i := 15) rfl)) (bg_cons (bi_wsL_law0_r13 _ (List.mem_of_getElem? (i := 16) rfl)) (bg_cons (bi_wsL_law0_r13 _ (List.mem_of_getElem? (i := 17) rfl)) (bg_cons (bi_wsL_law0_r2 _ (List.mem_of_getElem? (i := 0) rfl)) bg_nil))))) (bg_up (bg_law (bi_wsL_law0_r13 _ (List.mem_of_getElem? (i := 18) rfl))))
theorem dX1_readsMoreTruths_0 : decode cX1_readsMoreTruths 0 = .ok (.iconst 0, 1) := by decide +kernel
theorem dX1_readsMoreTruths_1 : decode cX1_readsMoreTruths 1 = .ok (.istore_n 2, 1) := by decide +kernel
theorem dX1_readsMoreTruths_2 : decode cX1_readsMoreTruths 2 = .ok (.iload_n 2, 1) := by decide +kernel
theorem dX1_readsMoreTruths_3 : decode cX1_readsMoreTruths 3 = .ok (.sipush 240, 3) := by decide +kernel
theorem dX1_readsMoreTruths_6 : decode cX1_readsMoreTruths 6 = .ok (.if_icmp .ge 48, 3) := by decide +kernel
theorem dX1_readsMoreTruths_9 : decode cX1_readsMoreTruths 9 = .ok (.aload_n 0, 1) := by decide +kernel
theorem dX1_readsMoreTruths_10 : decode cX1_readsMoreTruths 10 = .ok (.getfield 17, 3) := by decide +kernel
theorem dX1_readsMoreTruths_13 : decode cX1_readsMoreTruths 13 = .ok (.bipush 124, 2) := by decide +kernel
theorem dX1_readsMoreTruths_15 : decode cX1_readsMoreTruths 15 = .ok (.invokevirtual 38, 3) := by decide +kernel
theorem dX1_readsMoreTruths_18 : decode cX1_readsMoreTruths 18 = .ok (.ifCond .eq 36, 3) := by decide +kernel
theorem dX1_readsMoreTruths_21 : decode cX1_readsMoreTruths 21 = .ok (.aload_n 0, 1) := by decide +kernel
theorem dX1_readsMoreTruths_22 : decode cX1_readsMoreTruths 22 = .ok (.iload_n 1, 1) := by decide +kernel
theorem dX1_readsMoreTruths_23 : decode cX1_readsMoreTruths 23 = .ok (.invokevirtual 64, 3) := by decide +kernel
theorem dX1_readsMoreTruths_26 : decode cX1_readsMoreTruths 26 = .ok (.ifCond .eq 20, 3) := by decide +kernel
theorem dX1_readsMoreTruths_29 : decode cX1_readsMoreTruths 29 = .ok (.aload_n 0, 1) := by decide +kernel
theorem dX1_readsMoreTruths_30 : decode cX1_readsMoreTruths 30 = .ok (.iload_n 1, 1) := by decide +kernel
theorem dX1_readsMoreTruths_31 : decode cX1_readsMoreTruths 31 = .ok (.invokevirtual 55, 3) := by decide +kernel
theorem dX1_readsMoreTruths_34 : decode cX1_readsMoreTruths 34 = .ok (.ifCond .eq 12, 3) := by decide +kernel
theorem dX1_readsMoreTruths_37 : decode cX1_readsMoreTruths 37 = .ok (.aload_n 0, 1) := by decide +kernel
theorem dX1_readsMoreTruths_38 : decode cX1_readsMoreTruths 38 = .ok (.bipush (-10), 2) := by decide +kernel
theorem dX1_readsMoreTruths_40 : decode cX1_readsMoreTruths 40 = .ok (.invokevirtual 61, 3) := by decide +kernel
theorem dX1_readsMoreTruths_43 : decode cX1_readsMoreTruths 43 = .ok (.ifCond .ne 5, 3) := by decide +kernel
theorem dX1_readsMoreTruths_46 : decode cX1_readsMoreTruths 46 = .ok (.iconst 0, 1) := by decide +kernel
theorem dX1_readsMoreTruths_47 : decode cX1_readsMoreTruths 47 = .ok (.ireturn, 1) := by decide +kernel
theorem dX1_readsMoreTruths_48 : decode cX1_readsMoreTruths 48 = .ok (.iinc 2 1, 3) := by decide +kernel
theorem dX1_readsMoreTruths_51 : decode cX1_readsMoreTruths 51 = .ok (.goto (-49), 3) := by decide +kernel
theorem dX1_readsMoreTruths_54 : decode cX1_readsMoreTruths 54 = .ok (.iconst 1, 1) := by decide +kernel
theorem dX1_readsMoreTruths_55 : decode cX1_readsMoreTruths 55 = .ok (.ireturn, 1) := by decide +kernel
theorem ggX1_readsMoreUnits_X10_take : GoodIn wsX1_readsMoreUnits wsX10_take := (bg_up (bg_law (bi_wsL_law0_r12 _ (List.mem_of_getElem? (i := 12) rfl))))
theorem gX1_readsMoreUnits_X10_take : GoodIn wsX1_readsMoreUnits (wsV RX1 38 RX10 yX10_take wsX10_take) := goodIn_app (bg_up (bg_cons (bi_wsL_law0_r12 _ (List.mem_of_getElem? (i := 23) rfl)) (bg_cons (bi_wsL_law0_r12 _ (List.mem_of_getElem? (i := 10) rfl)) (bg_cons (bi_wsL_law0_r12 _ (List.mem_of_getElem? (i := 11) rfl)) (bg_cons (bi_wsL_law0_r1 _ (List.mem_of_getElem? (i := 16) rfl)) bg_nil))))) (bg_up (bg_law (bi_wsL_law0_r12 _ (List.mem_of_getElem? (i := 12) rfl))))
theorem ggX1_readsMoreUnits_X1_readsUnit : GoodIn wsX1_readsMoreUnits wsX1_readsUnit := (bg_up (bg_law (bi_wsL_law0_r13 _ (List.mem_of_getElem? (i := 20) rfl))))
theorem gX1_readsMoreUnits_X1_readsUnit : GoodIn wsX1_readsMoreUnits (wsV RX1 64 RX1 yX1_readsUnit wsX1_readsUnit) := goodIn_app (bg_up (bg_cons (bi_wsL_law0_r13 _ (List.mem_of_getElem? (i := 5) rfl)) (bg_cons (bi_wsL_law0_r13 _ (List.mem_of_getElem? (i := 6) rfl)) (bg_cons (bi_wsL_law0_r13 _ (List.mem_of_getElem? (i := 7) rfl)) (bg_cons (bi_wsL_law0_r2 _ (List.mem_of_getElem? (i := 0) rfl)) bg_nil))))) (bg_up (bg_law (bi_wsL_law0_r13 _ (List.mem_of_getElem? (i := 20) rfl))))
theorem ggX1_readsMoreUnits_X1_put : GoodIn wsX1_readsMoreUnits wsX1_put := (bg_up (bg_law (bi_wsL_law0_r13 _ (List.mem_of_getElem? (i := 18) rfl))))
theorem gX1_readsMoreUnits_X1_put : GoodIn wsX1_readsMoreUnits (wsV RX1 61 RX1 yX1_put wsX1_put) := goodIn_app (bg_up (bg_cons (bi_wsL_law0_r13 _ (List.mem_of_getElem? (i := 15) rfl)) (bg_cons (bi_wsL_law0_r13 _ (List.mem_of_getElem? (i := 16) rfl)) (bg_cons (bi_wsL_law0_r13 _ (List.mem_of_getElem? (i := 17) rfl)) (bg_cons (bi_wsL_law0_r2 _ (List.mem_of_getElem? (i := 0) rfl)) bg_nil))))) (bg_up (bg_law (bi_wsL_law0_r13 _ (List.mem_of_getElem? (i := 18) rfl))))
theorem dX1_readsMoreUnits_0 : decode cX1_readsMoreUnits 0 = .ok (.iconst 0, 1) := by decide +kernel
theorem dX1_readsMoreUnits_1 : decode cX1_readsMoreUnits 1 = .ok (.istore_n 2, 1) := by decide +kernel
theorem dX1_readsMoreUnits_2 : decode cX1_readsMoreUnits 2 = .ok (.iload_n 2, 1) := by decide +kernel
theorem dX1_readsMoreUnits_3 : decode cX1_readsMoreUnits 3 = .ok (.sipush 240, 3) := by decide +kernel
theorem dX1_readsMoreUnits_6 : decode cX1_readsMoreUnits 6 = .ok (.if_icmp .ge 40, 3) := by decide +kernel
theorem dX1_readsMoreUnits_9 : decode cX1_readsMoreUnits 9 = .ok (.aload_n 0, 1) := by decide +kernel
theorem dX1_readsMoreUnits_10 : decode cX1_readsMoreUnits 10 = .ok (.getfield 17, 3) := by decide +kernel
theorem dX1_readsMoreUnits_13 : decode cX1_readsMoreUnits 13 = .ok (.bipush 38, 2) := by decide +kernel
theorem dX1_readsMoreUnits_15 : decode cX1_readsMoreUnits 15 = .ok (.invokevirtual 38, 3) := by decide +kernel
theorem dX1_readsMoreUnits_18 : decode cX1_readsMoreUnits 18 = .ok (.ifCond .eq 28, 3) := by decide +kernel
theorem dX1_readsMoreUnits_21 : decode cX1_readsMoreUnits 21 = .ok (.aload_n 0, 1) := by decide +kernel
theorem dX1_readsMoreUnits_22 : decode cX1_readsMoreUnits 22 = .ok (.iload_n 1, 1) := by decide +kernel
theorem dX1_readsMoreUnits_23 : decode cX1_readsMoreUnits 23 = .ok (.invokevirtual 64, 3) := by decide +kernel
theorem dX1_readsMoreUnits_26 : decode cX1_readsMoreUnits 26 = .ok (.ifCond .eq 12, 3) := by decide +kernel
theorem dX1_readsMoreUnits_29 : decode cX1_readsMoreUnits 29 = .ok (.aload_n 0, 1) := by decide +kernel
theorem dX1_readsMoreUnits_30 : decode cX1_readsMoreUnits 30 = .ok (.bipush (-9), 2) := by decide +kernel
theorem dX1_readsMoreUnits_32 : decode cX1_readsMoreUnits 32 = .ok (.invokevirtual 61, 3) := by decide +kernel
theorem dX1_readsMoreUnits_35 : decode cX1_readsMoreUnits 35 = .ok (.ifCond .ne 5, 3) := by decide +kernel
theorem dX1_readsMoreUnits_38 : decode cX1_readsMoreUnits 38 = .ok (.iconst 0, 1) := by decide +kernel
theorem dX1_readsMoreUnits_39 : decode cX1_readsMoreUnits 39 = .ok (.ireturn, 1) := by decide +kernel
theorem dX1_readsMoreUnits_40 : decode cX1_readsMoreUnits 40 = .ok (.iinc 2 1, 3) := by decide +kernel
theorem dX1_readsMoreUnits_43 : decode cX1_readsMoreUnits 43 = .ok (.goto (-41), 3) := by decide +kernel
theorem dX1_readsMoreUnits_46 : decode cX1_readsMoreUnits 46 = .ok (.iconst 1, 1) := by decide +kernel
theorem dX1_readsMoreUnits_47 : decode cX1_readsMoreUnits 47 = .ok (.ireturn, 1) := by decide +kernel
theorem ggX1_readsUnit_X10_sign : GoodIn wsX1_readsUnit wsX10_sign := (bg_up (bg_law (bi_wsL_law0_r10 _ (List.mem_of_getElem? (i := 7) rfl))))
theorem gX1_readsUnit_X10_sign : GoodIn wsX1_readsUnit (wsV RX1 34 RX10 yX10_sign wsX10_sign) := goodIn_app (bg_up (bg_cons (bi_wsL_law0_r13 _ (List.mem_of_getElem? (i := 0) rfl)) (bg_cons (bi_wsL_law0_r10 _ (List.mem_of_getElem? (i := 5) rfl)) (bg_cons (bi_wsL_law0_r10 _ (List.mem_of_getElem? (i := 6) rfl)) (bg_cons (bi_wsL_law0_r1 _ (List.mem_of_getElem? (i := 16) rfl)) bg_nil))))) (bg_up (bg_law (bi_wsL_law0_r10 _ (List.mem_of_getElem? (i := 7) rfl))))
theorem ggX1_readsUnit_X1_readsSum : GoodIn wsX1_readsUnit wsX1_readsSum := (bg_up (bg_law (bi_wsL_law0_r14 _ (List.mem_of_getElem? (i := 0) rfl))))
theorem gX1_readsUnit_X1_readsSum : GoodIn wsX1_readsUnit (wsV RX1 45 RX1 yX1_readsSum wsX1_readsSum) := goodIn_app (bg_up (bg_cons (bi_wsL_law0_r13 _ (List.mem_of_getElem? (i := 21) rfl)) (bg_cons (bi_wsL_law0_r13 _ (List.mem_of_getElem? (i := 22) rfl)) (bg_cons (bi_wsL_law0_r13 _ (List.mem_of_getElem? (i := 23) rfl)) (bg_cons (bi_wsL_law0_r2 _ (List.mem_of_getElem? (i := 0) rfl)) bg_nil))))) (bg_up (bg_law (bi_wsL_law0_r14 _ (List.mem_of_getElem? (i := 0) rfl))))
theorem ggX1_readsUnit_X1_readsComparison : GoodIn wsX1_readsUnit wsX1_readsComparison := (bg_up (bg_law (bi_wsL_law0_r14 _ (List.mem_of_getElem? (i := 16) rfl))))
theorem gX1_readsUnit_X1_readsComparison : GoodIn wsX1_readsUnit (wsV RX1 52 RX1 yX1_readsComparison wsX1_readsComparison) := goodIn_app (bg_up (bg_cons (bi_wsL_law0_r14 _ (List.mem_of_getElem? (i := 13) rfl)) (bg_cons (bi_wsL_law0_r14 _ (List.mem_of_getElem? (i := 14) rfl)) (bg_cons (bi_wsL_law0_r14 _ (List.mem_of_getElem? (i := 15) rfl)) (bg_cons (bi_wsL_law0_r2 _ (List.mem_of_getElem? (i := 0) rfl)) bg_nil))))) (bg_up (bg_law (bi_wsL_law0_r14 _ (List.mem_of_getElem? (i := 16) rfl))))
theorem ggX1_readsUnit_X1_readsUnit : GoodIn wsX1_readsUnit wsX1_readsUnit := (bg_up (bg_law (bi_wsL_law0_r13 _ (List.mem_of_getElem? (i := 20) rfl))))
theorem gX1_readsUnit_X1_readsUnit : GoodIn wsX1_readsUnit (wsV RX1 64 RX1 yX1_readsUnit wsX1_readsUnit) := goodIn_app (bg_up (bg_cons (bi_wsL_law0_r13 _ (List.mem_of_getElem? (i := 5) rfl)) (bg_cons (bi_wsL_law0_r13 _ (List.mem_of_getElem? (i := 6) rfl)) (bg_cons (bi_wsL_law0_r13 _ (List.mem_of_getElem? (i := 7) rfl)) (bg_cons (bi_wsL_law0_r2 _ (List.mem_of_getElem? (i := 0) rfl)) bg_nil))))) (bg_up (bg_law (bi_wsL_law0_r13 _ (List.mem_of_getElem? (i := 20) rfl))))
theorem ggX1_readsUnit_X1_put : GoodIn wsX1_readsUnit wsX1_put := (bg_up (bg_law (bi_wsL_law0_r13 _ (List.mem_of_getElem? (i := 18) rfl))))
theorem gX1_readsUnit_X1_put : GoodIn wsX1_readsUnit (wsV RX1 61 RX1 yX1_put wsX1_put) := goodIn_app (bg_up (bg_cons (bi_wsL_law0_r13 _ (List.mem_of_getElem? (i := 15) rfl)) (bg_cons (bi_wsL_law0_r13 _ (List.mem_of_getElem? (i := 16) rfl)) (bg_cons (bi_wsL_law0_r13 _ (List.mem_of_getElem? (i := 17) rfl)) (bg_cons (bi_wsL_law0_r2 _ (List.mem_of_getElem? (i := 0) rfl)) bg_nil))))) (bg_up (bg_law (bi_wsL_law0_r13 _ (List.mem_of_getElem? (i := 18) rfl))))
theorem ggX1_readsUnit_X1_readsCondition : GoodIn wsX1_readsUnit wsX1_readsCondition := (bg_up (bg_law (bi_wsL_law0_r13 _ (List.mem_of_getElem? (i := 4) rfl))))
theorem gX1_readsUnit_X1_readsCondition : GoodIn wsX1_readsUnit (wsV RX1 42 RX1 yX1_readsCondition wsX1_readsCondition) := goodIn_app (bg_up (bg_cons (bi_wsL_law0_r13 _ (List.mem_of_getElem? (i := 1) rfl)) (bg_cons (bi_wsL_law0_r13 _ (List.mem_of_getElem? (i := 2) rfl)) (bg_cons (bi_wsL_law0_r13 _ (List.mem_of_getElem? (i := 3) rfl)) (bg_cons (bi_wsL_law0_r2 _ (List.mem_of_getElem? (i := 0) rfl)) bg_nil))))) (bg_up (bg_law (bi_wsL_law0_r13 _ (List.mem_of_getElem? (i := 4) rfl))))
theorem ggX1_readsUnit_X10_take : GoodIn wsX1_readsUnit wsX10_take := (bg_up (bg_law (bi_wsL_law0_r12 _ (List.mem_of_getElem? (i := 12) rfl))))
theorem gX1_readsUnit_X10_take : GoodIn wsX1_readsUnit (wsV RX1 38 RX10 yX10_take wsX10_take) := goodIn_app (bg_up (bg_cons (bi_wsL_law0_r12 _ (List.mem_of_getElem? (i := 23) rfl)) (bg_cons (bi_wsL_law0_r12 _ (List.mem_of_getElem? (i := 10) rfl)) (bg_cons (bi_wsL_law0_r12 _ (List.mem_of_getElem? (i := 11) rfl)) (bg_cons (bi_wsL_law0_r1 _ (List.mem_of_getElem? (i := 16) rfl)) bg_nil))))) (bg_up (bg_law (bi_wsL_law0_r12 _ (List.mem_of_getElem? (i := 12) rfl))))
theorem dX1_readsUnit_0 : decode cX1_readsUnit 0 = .ok (.aload_n 0, 1) := by decide +kernel
theorem dX1_readsUnit_1 : decode cX1_readsUnit 1 = .ok (.getfield 17, 3) := by decide +kernel
theorem dX1_readsUnit_4 : decode cX1_readsUnit 4 = .ok (.invokevirtual 34, 3) := by decide +kernel
theorem dX1_readsUnit_7 : decode cX1_readsUnit 7 = .ok (.istore_n 2, 1) := by decide +kernel
theorem dX1_readsUnit_8 : decode cX1_readsUnit 8 = .ok (.iload_n 2, 1) := by decide +kernel
theorem dX1_readsUnit_9 : decode cX1_readsUnit 9 = .ok (.bipush 33, 2) := by decide +kernel
theorem dX1_readsUnit_11 : decode cX1_readsUnit 11 = .ok (.if_icmp .eq 31, 3) := by decide +kernel
theorem dX1_readsUnit_14 : decode cX1_readsUnit 14 = .ok (.iload_n 2, 1) := by decide +kernel
theorem dX1_readsUnit_15 : decode cX1_readsUnit 15 = .ok (.bipush 40, 2) := by decide +kernel
theorem dX1_readsUnit_17 : decode cX1_readsUnit 17 = .ok (.if_icmp .eq 25, 3) := by decide +kernel
theorem dX1_readsUnit_20 : decode cX1_readsUnit 20 = .ok (.aload_n 0, 1) := by decide +kernel
theorem dX1_readsUnit_21 : decode cX1_readsUnit 21 = .ok (.iload_n 1, 1) := by decide +kernel
theorem dX1_readsUnit_22 : decode cX1_readsUnit 22 = .ok (.invokevirtual 45, 3) := by decide +kernel
theorem dX1_readsUnit_25 : decode cX1_readsUnit 25 = .ok (.ifCond .eq 15, 3) := by decide +kernel
theorem dX1_readsUnit_28 : decode cX1_readsUnit 28 = .ok (.aload_n 0, 1) := by decide +kernel
theorem dX1_readsUnit_29 : decode cX1_readsUnit 29 = .ok (.iload_n 1, 1) := by decide +kernel
theorem dX1_readsUnit_30 : decode cX1_readsUnit 30 = .ok (.invokevirtual 52, 3) := by decide +kernel
theorem dX1_readsUnit_33 : decode cX1_readsUnit 33 = .ok (.ifCond .eq 7, 3) := by decide +kernel
theorem dX1_readsUnit_36 : decode cX1_readsUnit 36 = .ok (.iconst 1, 1) := by decide +kernel
theorem dX1_readsUnit_37 : decode cX1_readsUnit 37 = .ok (.goto 4, 3) := by decide +kernel
theorem dX1_readsUnit_40 : decode cX1_readsUnit 40 = .ok (.iconst 0, 1) := by decide +kernel
theorem dX1_readsUnit_41 : decode cX1_readsUnit 41 = .ok (.ireturn, 1) := by decide +kernel
theorem dX1_readsUnit_42 : decode cX1_readsUnit 42 = .ok (.iload_n 1, 1) := by decide +kernel
theorem dX1_readsUnit_43 : decode cX1_readsUnit 43 = .ok (.bipush 6, 2) := by decide +kernel
theorem dX1_readsUnit_45 : decode cX1_readsUnit 45 = .ok (.if_icmp .lt 5, 3) := by decide +kernel
theorem dX1_readsUnit_48 : decode cX1_readsUnit 48 = .ok (.iconst 0, 1) := by decide +kernel
theorem dX1_readsUnit_49 : decode cX1_readsUnit 49 = .ok (.ireturn, 1) := by decide +kernel
theorem dX1_readsUnit_50 : decode cX1_readsUnit 50 = .ok (.aload_n 0, 1) := by decide +kernel
theorem dX1_readsUnit_51 : decode cX1_readsUnit 51 = .ok (.getfield 17, 3) := by decide +kernel
theorem dX1_readsUnit_54 : decode cX1_readsUnit 54 = .ok (.dup, 1) := by decide +kernel
theorem dX1_readsUnit_55 : decode cX1_readsUnit 55 = .ok (.getfield 21, 3) := by decide +kernel
theorem dX1_readsUnit_58 : decode cX1_readsUnit 58 = .ok (.iconst 1, 1) := by decide +kernel
theorem dX1_readsUnit_59 : decode cX1_readsUnit 59 = .ok (.iadd, 1) := by decide +kernel
theorem dX1_readsUnit_60 : decode cX1_readsUnit 60 = .ok (.putfield 21, 3) := by decide +kernel
theorem dX1_readsUnit_63 : decode cX1_readsUnit 63 = .ok (.iload_n 2, 1) := by decide +kernel
theorem dX1_readsUnit_64 : decode cX1_readsUnit 64 = .ok (.bipush 33, 2) := by decide +kernel
theorem dX1_readsUnit_66 : decode cX1_readsUnit 66 = .ok (.if_icmp .ne 28, 3) := by decide +kernel
theorem dX1_readsUnit_69 : decode cX1_readsUnit 69 = .ok (.aload_n 0, 1) := by decide +kernel
theorem dX1_readsUnit_70 : decode cX1_readsUnit 70 = .ok (.iload_n 1, 1) := by decide +kernel
theorem dX1_readsUnit_71 : decode cX1_readsUnit 71 = .ok (.iconst 1, 1) := by decide +kernel
theorem dX1_readsUnit_72 : decode cX1_readsUnit 72 = .ok (.iadd, 1) := by decide +kernel
theorem dX1_readsUnit_73 : decode cX1_readsUnit 73 = .ok (.invokevirtual 64, 3) := by decide +kernel
theorem dX1_readsUnit_76 : decode cX1_readsUnit 76 = .ok (.ifCond .eq 16, 3) := by decide +kernel
theorem dX1_readsUnit_79 : decode cX1_readsUnit 79 = .ok (.aload_n 0, 1) := by decide +kernel
theorem dX1_readsUnit_80 : decode cX1_readsUnit 80 = .ok (.bipush (-11), 2) := by decide +kernel
theorem dX1_readsUnit_82 : decode cX1_readsUnit 82 = .ok (.invokevirtual 61, 3) := by decide +kernel
theorem dX1_readsUnit_85 : decode cX1_readsUnit 85 = .ok (.ifCond .eq 7, 3) := by decide +kernel
theorem dX1_readsUnit_88 : decode cX1_readsUnit 88 = .ok (.iconst 1, 1) := by decide +kernel
theorem dX1_readsUnit_89 : decode cX1_readsUnit 89 = .ok (.goto 4, 3) := by decide +kernel
theorem dX1_readsUnit_92 : decode cX1_readsUnit 92 = .ok (.iconst 0, 1) := by decide +kernel
theorem dX1_readsUnit_93 : decode cX1_readsUnit 93 = .ok (.ireturn, 1) := by decide +kernel
theorem dX1_readsUnit_94 : decode cX1_readsUnit 94 = .ok (.aload_n 0, 1) := by decide +kernel
theorem dX1_readsUnit_95 : decode cX1_readsUnit 95 = .ok (.iload_n 1, 1) := by decide +kernel
theorem dX1_readsUnit_96 : decode cX1_readsUnit 96 = .ok (.iconst 1, 1) := by decide +kernel
theorem dX1_readsUnit_97 : decode cX1_readsUnit 97 = .ok (.iadd, 1) := by decide +kernel
theorem dX1_readsUnit_98 : decode cX1_readsUnit 98 = .ok (.invokevirtual 42, 3) := by decide +kernel
theorem dX1_readsUnit_101 : decode cX1_readsUnit 101 = .ok (.ifCond .eq 19, 3) := by decide +kernel
theorem dX1_readsUnit_104 : decode cX1_readsUnit 104 = .ok (.aload_n 0, 1) := by decide +kernel
theorem dX1_readsUnit_105 : decode cX1_readsUnit 105 = .ok (.getfield 17, 3) := by decide +kernel
theorem dX1_readsUnit_108 : decode cX1_readsUnit 108 = .ok (.bipush 41, 2) := by decide +kernel
theorem dX1_readsUnit_110 : decode cX1_readsUnit 110 = .ok (.invokevirtual 38, 3) := by decide +kernel
theorem dX1_readsUnit_113 : decode cX1_readsUnit 113 = .ok (.ifCond .eq 7, 3) := by decide +kernel
theorem dX1_readsUnit_116 : decode cX1_readsUnit 116 = .ok (.iconst 1, 1) := by decide +kernel
theorem dX1_readsUnit_117 : decode cX1_readsUnit 117 = .ok (.goto 4, 3) := by decide +kernel
theorem dX1_readsUnit_120 : decode cX1_readsUnit 120 = .ok (.iconst 0, 1) := by decide +kernel
theorem dX1_readsUnit_121 : decode cX1_readsUnit 121 = .ok (.ireturn, 1) := by decide +kernel
theorem dX1_comparison_0 : decode cX1_comparison 0 = .ok (.iload_n 0, 1) := by decide +kernel
theorem dX1_comparison_1 : decode cX1_comparison 1 = .ok (.bipush 61, 2) := by decide +kernel
theorem dX1_comparison_3 : decode cX1_comparison 3 = .ok (.if_icmp .ne 6, 3) := by decide +kernel
theorem dX1_comparison_6 : decode cX1_comparison 6 = .ok (.bipush (-6), 2) := by decide +kernel
theorem dX1_comparison_8 : decode cX1_comparison 8 = .ok (.ireturn, 1) := by decide +kernel
theorem dX1_comparison_9 : decode cX1_comparison 9 = .ok (.iload_n 0, 1) := by decide +kernel
theorem dX1_comparison_10 : decode cX1_comparison 10 = .ok (.bipush 60, 2) := by decide +kernel
theorem dX1_comparison_12 : decode cX1_comparison 12 = .ok (.if_icmp .ne 6, 3) := by decide +kernel
theorem dX1_comparison_15 : decode cX1_comparison 15 = .ok (.bipush (-7), 2) := by decide +kernel
theorem dX1_comparison_17 : decode cX1_comparison 17 = .ok (.ireturn, 1) := by decide +kernel
theorem dX1_comparison_18 : decode cX1_comparison 18 = .ok (.iload_n 0, 1) := by decide +kernel
theorem dX1_comparison_19 : decode cX1_comparison 19 = .ok (.bipush 62, 2) := by decide +kernel
theorem dX1_comparison_21 : decode cX1_comparison 21 = .ok (.if_icmp .ne 8, 3) := by decide +kernel
theorem dX1_comparison_24 : decode cX1_comparison 24 = .ok (.bipush (-8), 2) := by decide +kernel
theorem dX1_comparison_26 : decode cX1_comparison 26 = .ok (.goto 4, 3) := by decide +kernel
theorem dX1_comparison_29 : decode cX1_comparison 29 = .ok (.iconst (-1), 1) := by decide +kernel
theorem dX1_comparison_30 : decode cX1_comparison 30 = .ok (.ireturn, 1) := by decide +kernel
theorem ggX1_readsComparison_X10_sign : GoodIn wsX1_readsComparison wsX10_sign := (bg_up (bg_law (bi_wsL_law0_r10 _ (List.mem_of_getElem? (i := 7) rfl))))
theorem gX1_readsComparison_X10_sign : GoodIn wsX1_readsComparison (wsV RX1 34 RX10 yX10_sign wsX10_sign) := goodIn_app (bg_up (bg_cons (bi_wsL_law0_r13 _ (List.mem_of_getElem? (i := 0) rfl)) (bg_cons (bi_wsL_law0_r10 _ (List.mem_of_getElem? (i := 5) rfl)) (bg_cons (bi_wsL_law0_r10 _ (List.mem_of_getElem? (i := 6) rfl)) (bg_cons (bi_wsL_law0_r1 _ (List.mem_of_getElem? (i := 16) rfl)) bg_nil))))) (bg_up (bg_law (bi_wsL_law0_r10 _ (List.mem_of_getElem? (i := 7) rfl))))
theorem ggX1_readsComparison_X1_comparison : GoodIn wsX1_readsComparison wsX1_comparison := (bg_up (bg_law (bi_wsL_law0_r14 _ (List.mem_of_getElem? (i := 19) rfl))))
theorem gX1_readsComparison_X1_comparison : GoodIn wsX1_readsComparison (va_wsS RX1 48 yX1_comparison wsX1_comparison) := goodIn_app (bg_up (bg_cons (bi_wsL_law0_r14 _ (List.mem_of_getElem? (i := 17) rfl)) (bg_cons (bi_wsL_law0_r14 _ (List.mem_of_getElem? (i := 18) rfl)) (bg_cons (bi_wsL_law0_r2 _ (List.mem_of_getElem? (i := 0) rfl)) bg_nil)))) (bg_up (bg_law (bi_wsL_law0_r14 _ (List.mem_of_getElem? (i := 19) rfl))))
theorem ggX1_readsComparison_X1_readsSum : GoodIn wsX1_readsComparison wsX1_readsSum := (bg_up (bg_law (bi_wsL_law0_r14 _ (List.mem_of_getElem? (i := 0) rfl))))
theorem gX1_readsComparison_X1_readsSum : GoodIn wsX1_readsComparison (wsV RX1 45 RX1 yX1_readsSum wsX1_readsSum) := goodIn_app (bg_up (bg_cons (bi_wsL_law0_r13 _ (List.mem_of_getElem? (i := 21) rfl)) (bg_cons (bi_wsL_law0_r13 _ (List.mem_of_getElem? (i := 22) rfl)) (bg_cons (bi_wsL_law0_r13 _ (List.mem_of_getElem? (i := 23) rfl)) (bg_cons (bi_wsL_law0_r2 _ (List.mem_of_getElem? (i := 0) rfl)) bg_nil))))) (bg_up (bg_law (bi_wsL_law0_r14 _ (List.mem_of_getElem? (i := 0) rfl))))
theorem ggX1_readsComparison_X1_put : GoodIn wsX1_readsComparison wsX1_put := (bg_up (bg_law (bi_wsL_law0_r13 _ (List.mem_of_getElem? (i := 18) rfl))))
theorem gX1_readsComparison_X1_put : GoodIn wsX1_readsComparison (wsV RX1 61 RX1 yX1_put wsX1_put) := goodIn_app (bg_up (bg_cons (bi_wsL_law0_r13 _ (List.mem_of_getElem? (i := 15) rfl)) (bg_cons (bi_wsL_law0_r13 _ (List.mem_of_getElem? (i := 16) rfl)) (bg_cons (bi_wsL_law0_r13 _ (List.mem_of_getElem? (i := 17) rfl)) (bg_cons (bi_wsL_law0_r2 _ (List.mem_of_getElem? (i := 0) rfl)) bg_nil))))) (bg_up (bg_law (bi_wsL_law0_r13 _ (List.mem_of_getElem? (i := 18) rfl))))
theorem dX1_readsComparison_0 : decode cX1_readsComparison 0 = .ok (.aload_n 0, 1) := by decide +kernel
theorem dX1_readsComparison_1 : decode cX1_readsComparison 1 = .ok (.getfield 17, 3) := by decide +kernel
theorem dX1_readsComparison_4 : decode cX1_readsComparison 4 = .ok (.invokevirtual 34, 3) := by decide +kernel
theorem dX1_readsComparison_7 : decode cX1_readsComparison 7 = .ok (.invokestatic 48, 3) := by decide +kernel
theorem dX1_readsComparison_10 : decode cX1_readsComparison 10 = .ok (.istore_n 2, 1) := by decide +kernel
theorem dX1_readsComparison_11 : decode cX1_readsComparison 11 = .ok (.iload_n 2, 1) := by decide +kernel
theorem dX1_readsComparison_12 : decode cX1_readsComparison 12 = .ok (.iconst (-1), 1) := by decide +kernel
theorem dX1_readsComparison_13 : decode cX1_readsComparison 13 = .ok (.if_icmp .ne 5, 3) := by decide +kernel
theorem dX1_readsComparison_16 : decode cX1_readsComparison 16 = .ok (.iconst 0, 1) := by decide +kernel
theorem dX1_readsComparison_17 : decode cX1_readsComparison 17 = .ok (.ireturn, 1) := by decide +kernel
theorem dX1_readsComparison_18 : decode cX1_readsComparison 18 = .ok (.aload_n 0, 1) := by decide +kernel
theorem dX1_readsComparison_19 : decode cX1_readsComparison 19 = .ok (.getfield 17, 3) := by decide +kernel
theorem dX1_readsComparison_22 : decode cX1_readsComparison 22 = .ok (.dup, 1) := by decide +kernel
theorem dX1_readsComparison_23 : decode cX1_readsComparison 23 = .ok (.getfield 21, 3) := by decide +kernel
theorem dX1_readsComparison_26 : decode cX1_readsComparison 26 = .ok (.iconst 1, 1) := by decide +kernel
theorem dX1_readsComparison_27 : decode cX1_readsComparison 27 = .ok (.iadd, 1) := by decide +kernel
theorem dX1_readsComparison_28 : decode cX1_readsComparison 28 = .ok (.putfield 21, 3) := by decide +kernel
theorem dX1_readsComparison_31 : decode cX1_readsComparison 31 = .ok (.aload_n 0, 1) := by decide +kernel
theorem dX1_readsComparison_32 : decode cX1_readsComparison 32 = .ok (.iload_n 1, 1) := by decide +kernel
theorem dX1_readsComparison_33 : decode cX1_readsComparison 33 = .ok (.invokevirtual 45, 3) := by decide +kernel
theorem dX1_readsComparison_36 : decode cX1_readsComparison 36 = .ok (.ifCond .eq 15, 3) := by decide +kernel
theorem dX1_readsComparison_39 : decode cX1_readsComparison 39 = .ok (.aload_n 0, 1) := by decide +kernel
theorem dX1_readsComparison_40 : decode cX1_readsComparison 40 = .ok (.iload_n 2, 1) := by decide +kernel
theorem dX1_readsComparison_41 : decode cX1_readsComparison 41 = .ok (.invokevirtual 61, 3) := by decide +kernel
theorem dX1_readsComparison_44 : decode cX1_readsComparison 44 = .ok (.ifCond .eq 7, 3) := by decide +kernel
theorem dX1_readsComparison_47 : decode cX1_readsComparison 47 = .ok (.iconst 1, 1) := by decide +kernel
theorem dX1_readsComparison_48 : decode cX1_readsComparison 48 = .ok (.goto 4, 3) := by decide +kernel
theorem dX1_readsComparison_51 : decode cX1_readsComparison 51 = .ok (.iconst 0, 1) := by decide +kernel
theorem dX1_readsComparison_52 : decode cX1_readsComparison 52 = .ok (.ireturn, 1) := by decide +kernel
theorem ggX1_readsSum_X1_readsTerm : GoodIn wsX1_readsSum wsX1_readsTerm := (bg_up (bg_law (bi_wsL_law0_r14 _ (List.mem_of_getElem? (i := 9) rfl))))
theorem gX1_readsSum_X1_readsTerm : GoodIn wsX1_readsSum (wsV RX1 67 RX1 yX1_readsTerm wsX1_readsTerm) := goodIn_app (bg_up (bg_cons (bi_wsL_law0_r14 _ (List.mem_of_getElem? (i := 1) rfl)) (bg_cons (bi_wsL_law0_r14 _ (List.mem_of_getElem? (i := 2) rfl)) (bg_cons (bi_wsL_law0_r14 _ (List.mem_of_getElem? (i := 3) rfl)) (bg_cons (bi_wsL_law0_r2 _ (List.mem_of_getElem? (i := 0) rfl)) bg_nil))))) (bg_up (bg_law (bi_wsL_law0_r14 _ (List.mem_of_getElem? (i := 9) rfl))))
theorem ggX1_readsSum_X10_sign : GoodIn wsX1_readsSum wsX10_sign := (bg_up (bg_law (bi_wsL_law0_r10 _ (List.mem_of_getElem? (i := 7) rfl))))
theorem gX1_readsSum_X10_sign : GoodIn wsX1_readsSum (wsV RX1 34 RX10 yX10_sign wsX10_sign) := goodIn_app (bg_up (bg_cons (bi_wsL_law0_r13 _ (List.mem_of_getElem? (i := 0) rfl)) (bg_cons (bi_wsL_law0_r10 _ (List.mem_of_getElem? (i := 5) rfl)) (bg_cons (bi_wsL_law0_r10 _ (List.mem_of_getElem? (i := 6) rfl)) (bg_cons (bi_wsL_law0_r1 _ (List.mem_of_getElem? (i := 16) rfl)) bg_nil))))) (bg_up (bg_law (bi_wsL_law0_r10 _ (List.mem_of_getElem? (i := 7) rfl))))
theorem ggX1_readsSum_X1_put : GoodIn wsX1_readsSum wsX1_put := (bg_up (bg_law (bi_wsL_law0_r13 _ (List.mem_of_getElem? (i := 18) rfl))))
theorem gX1_readsSum_X1_put : GoodIn wsX1_readsSum (wsV RX1 61 RX1 yX1_put wsX1_put) := goodIn_app (bg_up (bg_cons (bi_wsL_law0_r13 _ (List.mem_of_getElem? (i := 15) rfl)) (bg_cons (bi_wsL_law0_r13 _ (List.mem_of_getElem? (i := 16) rfl)) (bg_cons (bi_wsL_law0_r13 _ (List.mem_of_getElem? (i := 17) rfl)) (bg_cons (bi_wsL_law0_r2 _ (List.mem_of_getElem? (i := 0) rfl)) bg_nil))))) (bg_up (bg_law (bi_wsL_law0_r13 _ (List.mem_of_getElem? (i := 18) rfl))))
theorem dX1_readsSum_0 : decode cX1_readsSum 0 = .ok (.aload_n 0, 1) := by decide +kernel
theorem dX1_readsSum_1 : decode cX1_readsSum 1 = .ok (.iload_n 1, 1) := by decide +kernel
theorem dX1_readsSum_2 : decode cX1_readsSum 2 = .ok (.invokevirtual 67, 3) := by decide +kernel
theorem dX1_readsSum_5 : decode cX1_readsSum 5 = .ok (.ifCond .ne 5, 3) := by decide +kernel
theorem dX1_readsSum_8 : decode cX1_readsSum 8 = .ok (.iconst 0, 1) := by decide +kernel
theorem dX1_readsSum_9 : decode cX1_readsSum 9 = .ok (.ireturn, 1) := by decide +kernel
theorem dX1_readsSum_10 : decode cX1_readsSum 10 = .ok (.iconst 0, 1) := by decide +kernel
theorem dX1_readsSum_11 : decode cX1_readsSum 11 = .ok (.istore_n 2, 1) := by decide +kernel
theorem dX1_readsSum_12 : decode cX1_readsSum 12 = .ok (.iload_n 2, 1) := by decide +kernel
theorem dX1_readsSum_13 : decode cX1_readsSum 13 = .ok (.sipush 240, 3) := by decide +kernel
theorem dX1_readsSum_16 : decode cX1_readsSum 16 = .ok (.if_icmp .ge 74, 3) := by decide +kernel
theorem dX1_readsSum_19 : decode cX1_readsSum 19 = .ok (.aload_n 0, 1) := by decide +kernel
theorem dX1_readsSum_20 : decode cX1_readsSum 20 = .ok (.getfield 17, 3) := by decide +kernel
theorem dX1_readsSum_23 : decode cX1_readsSum 23 = .ok (.invokevirtual 34, 3) := by decide +kernel
theorem dX1_readsSum_26 : decode cX1_readsSum 26 = .ok (.istore_n 3, 1) := by decide +kernel
theorem dX1_readsSum_27 : decode cX1_readsSum 27 = .ok (.iload_n 3, 1) := by decide +kernel
theorem dX1_readsSum_28 : decode cX1_readsSum 28 = .ok (.bipush 43, 2) := by decide +kernel
theorem dX1_readsSum_30 : decode cX1_readsSum 30 = .ok (.if_icmp .eq 11, 3) := by decide +kernel
theorem dX1_readsSum_33 : decode cX1_readsSum 33 = .ok (.iload_n 3, 1) := by decide +kernel
theorem dX1_readsSum_34 : decode cX1_readsSum 34 = .ok (.bipush 45, 2) := by decide +kernel
theorem dX1_readsSum_36 : decode cX1_readsSum 36 = .ok (.if_icmp .eq 5, 3) := by decide +kernel
theorem dX1_readsSum_39 : decode cX1_readsSum 39 = .ok (.iconst 1, 1) := by decide +kernel
theorem dX1_readsSum_40 : decode cX1_readsSum 40 = .ok (.ireturn, 1) := by decide +kernel
theorem dX1_readsSum_41 : decode cX1_readsSum 41 = .ok (.aload_n 0, 1) := by decide +kernel
theorem dX1_readsSum_42 : decode cX1_readsSum 42 = .ok (.getfield 17, 3) := by decide +kernel
theorem dX1_readsSum_45 : decode cX1_readsSum 45 = .ok (.dup, 1) := by decide +kernel
theorem dX1_readsSum_46 : decode cX1_readsSum 46 = .ok (.getfield 21, 3) := by decide +kernel
theorem dX1_readsSum_49 : decode cX1_readsSum 49 = .ok (.iconst 1, 1) := by decide +kernel
theorem dX1_readsSum_50 : decode cX1_readsSum 50 = .ok (.iadd, 1) := by decide +kernel
theorem dX1_readsSum_51 : decode cX1_readsSum 51 = .ok (.putfield 21, 3) := by decide +kernel
theorem dX1_readsSum_54 : decode cX1_readsSum 54 = .ok (.aload_n 0, 1) := by decide +kernel
theorem dX1_readsSum_55 : decode cX1_readsSum 55 = .ok (.iload_n 1, 1) := by decide +kernel
theorem dX1_readsSum_56 : decode cX1_readsSum 56 = .ok (.invokevirtual 67, 3) := by decide +kernel
theorem dX1_readsSum_59 : decode cX1_readsSum 59 = .ok (.ifCond .eq 23, 3) := by decide +kernel
theorem dX1_readsSum_62 : decode cX1_readsSum 62 = .ok (.aload_n 0, 1) := by decide +kernel
theorem dX1_readsSum_63 : decode cX1_readsSum 63 = .ok (.iload_n 3, 1) := by decide +kernel
theorem dX1_readsSum_64 : decode cX1_readsSum 64 = .ok (.bipush 43, 2) := by decide +kernel
theorem dX1_readsSum_66 : decode cX1_readsSum 66 = .ok (.if_icmp .ne 8, 3) := by decide +kernel
theorem dX1_readsSum_69 : decode cX1_readsSum 69 = .ok (.bipush (-2), 2) := by decide +kernel
theorem dX1_readsSum_71 : decode cX1_readsSum 71 = .ok (.goto 5, 3) := by decide +kernel
theorem dX1_readsSum_74 : decode cX1_readsSum 74 = .ok (.bipush (-3), 2) := by decide +kernel
theorem dX1_readsSum_76 : decode cX1_readsSum 76 = .ok (.invokevirtual 61, 3) := by decide +kernel
theorem dX1_readsSum_79 : decode cX1_readsSum 79 = .ok (.ifCond .ne 5, 3) := by decide +kernel
theorem dX1_readsSum_82 : decode cX1_readsSum 82 = .ok (.iconst 0, 1) := by decide +kernel
theorem dX1_readsSum_83 : decode cX1_readsSum 83 = .ok (.ireturn, 1) := by decide +kernel
theorem dX1_readsSum_84 : decode cX1_readsSum 84 = .ok (.iinc 2 1, 3) := by decide +kernel
theorem dX1_readsSum_87 : decode cX1_readsSum 87 = .ok (.goto (-75), 3) := by decide +kernel
theorem dX1_readsSum_90 : decode cX1_readsSum 90 = .ok (.iconst 0, 1) := by decide +kernel
theorem dX1_readsSum_91 : decode cX1_readsSum 91 = .ok (.ireturn, 1) := by decide +kernel
theorem ggX1_readsTerm_X1_readsAtom : GoodIn wsX1_readsTerm wsX1_readsAtom := (bg_up (bg_law (bi_wsL_law0_r14 _ (List.mem_of_getElem? (i := 4) rfl))))
theorem gX1_readsTerm_X1_readsAtom : GoodIn wsX1_readsTerm (wsV RX1 70 RX1 yX1_readsAtom wsX1_readsAtom) := goodIn_app (bg_up (bg_cons (bi_wsL_law0_r14 _ (List.mem_of_getElem? (i := 10) rfl)) (bg_cons (bi_wsL_law0_r14 _ (List.mem_of_getElem? (i := 11) rfl)) (bg_cons (bi_wsL_law0_r14 _ (List.mem_of_getElem? (i := 12) rfl)) (bg_cons (bi_wsL_law0_r2 _ (List.mem_of_getElem? (i := 0) rfl)) bg_nil))))) (bg_up (bg_law (bi_wsL_law0_r14 _ (List.mem_of_getElem? (i := 4) rfl))))
theorem ggX1_readsTerm_X10_sign : GoodIn wsX1_readsTerm wsX10_sign := (bg_up (bg_law (bi_wsL_law0_r10 _ (List.mem_of_getElem? (i := 7) rfl))))
theorem gX1_readsTerm_X10_sign : GoodIn wsX1_readsTerm (wsV RX1 34 RX10 yX10_sign wsX10_sign) := goodIn_app (bg_up (bg_cons (bi_wsL_law0_r13 _ (List.mem_of_getElem? (i := 0) rfl)) (bg_cons (bi_wsL_law0_r10 _ (List.mem_of_getElem? (i := 5) rfl)) (bg_cons (bi_wsL_law0_r10 _ (List.mem_of_getElem? (i := 6) rfl)) (bg_cons (bi_wsL_law0_r1 _ (List.mem_of_getElem? (i := 16) rfl)) bg_nil))))) (bg_up (bg_law (bi_wsL_law0_r10 _ (List.mem_of_getElem? (i := 7) rfl))))
theorem ggX1_readsTerm_X1_put : GoodIn wsX1_readsTerm wsX1_put := (bg_up (bg_law (bi_wsL_law0_r13 _ (List.mem_of_getElem? (i := 18) rfl))))
theorem gX1_readsTerm_X1_put : GoodIn wsX1_readsTerm (wsV RX1 61 RX1 yX1_put wsX1_put) := goodIn_app (bg_up (bg_cons (bi_wsL_law0_r13 _ (List.mem_of_getElem? (i := 15) rfl)) (bg_cons (bi_wsL_law0_r13 _ (List.mem_of_getElem? (i := 16) rfl)) (bg_cons (bi_wsL_law0_r13 _ (List.mem_of_getElem? (i := 17) rfl)) (bg_cons (bi_wsL_law0_r2 _ (List.mem_of_getElem? (i := 0) rfl)) bg_nil))))) (bg_up (bg_law (bi_wsL_law0_r13 _ (List.mem_of_getElem? (i := 18) rfl))))
theorem dX1_readsTerm_0 : decode cX1_readsTerm 0 = .ok (.aload_n 0, 1) := by decide +kernel
theorem dX1_readsTerm_1 : decode cX1_readsTerm 1 = .ok (.iload_n 1, 1) := by decide +kernel
theorem dX1_readsTerm_2 : decode cX1_readsTerm 2 = .ok (.invokevirtual 70, 3) := by decide +kernel
theorem dX1_readsTerm_5 : decode cX1_readsTerm 5 = .ok (.ifCond .ne 5, 3) := by decide +kernel
theorem dX1_readsTerm_8 : decode cX1_readsTerm 8 = .ok (.iconst 0, 1) := by decide +kernel
theorem dX1_readsTerm_9 : decode cX1_readsTerm 9 = .ok (.ireturn, 1) := by decide +kernel
theorem dX1_readsTerm_10 : decode cX1_readsTerm 10 = .ok (.iconst 0, 1) := by decide +kernel
theorem dX1_readsTerm_11 : decode cX1_readsTerm 11 = .ok (.istore_n 2, 1) := by decide +kernel
theorem dX1_readsTerm_12 : decode cX1_readsTerm 12 = .ok (.iload_n 2, 1) := by decide +kernel
theorem dX1_readsTerm_13 : decode cX1_readsTerm 13 = .ok (.sipush 240, 3) := by decide +kernel
theorem dX1_readsTerm_16 : decode cX1_readsTerm 16 = .ok (.if_icmp .ge 74, 3) := by decide +kernel
theorem dX1_readsTerm_19 : decode cX1_readsTerm 19 = .ok (.aload_n 0, 1) := by decide +kernel
theorem dX1_readsTerm_20 : decode cX1_readsTerm 20 = .ok (.getfield 17, 3) := by decide +kernel
theorem dX1_readsTerm_23 : decode cX1_readsTerm 23 = .ok (.invokevirtual 34, 3) := by decide +kernel
theorem dX1_readsTerm_26 : decode cX1_readsTerm 26 = .ok (.istore_n 3, 1) := by decide +kernel
theorem dX1_readsTerm_27 : decode cX1_readsTerm 27 = .ok (.iload_n 3, 1) := by decide +kernel
theorem dX1_readsTerm_28 : decode cX1_readsTerm 28 = .ok (.bipush 42, 2) := by decide +kernel
theorem dX1_readsTerm_30 : decode cX1_readsTerm 30 = .ok (.if_icmp .eq 11, 3) := by decide +kernel
theorem dX1_readsTerm_33 : decode cX1_readsTerm 33 = .ok (.iload_n 3, 1) := by decide +kernel
theorem dX1_readsTerm_34 : decode cX1_readsTerm 34 = .ok (.bipush 47, 2) := by decide +kernel
theorem dX1_readsTerm_36 : decode cX1_readsTerm 36 = .ok (.if_icmp .eq 5, 3) := by decide +kernel
theorem dX1_readsTerm_39 : decode cX1_readsTerm 39 = .ok (.iconst 1, 1) := by decide +kernel
theorem dX1_readsTerm_40 : decode cX1_readsTerm 40 = .ok (.ireturn, 1) := by decide +kernel
theorem dX1_readsTerm_41 : decode cX1_readsTerm 41 = .ok (.aload_n 0, 1) := by decide +kernel
theorem dX1_readsTerm_42 : decode cX1_readsTerm 42 = .ok (.getfield 17, 3) := by decide +kernel
theorem dX1_readsTerm_45 : decode cX1_readsTerm 45 = .ok (.dup, 1) := by decide +kernel
theorem dX1_readsTerm_46 : decode cX1_readsTerm 46 = .ok (.getfield 21, 3) := by decide +kernel
theorem dX1_readsTerm_49 : decode cX1_readsTerm 49 = .ok (.iconst 1, 1) := by decide +kernel
theorem dX1_readsTerm_50 : decode cX1_readsTerm 50 = .ok (.iadd, 1) := by decide +kernel
theorem dX1_readsTerm_51 : decode cX1_readsTerm 51 = .ok (.putfield 21, 3) := by decide +kernel
theorem dX1_readsTerm_54 : decode cX1_readsTerm 54 = .ok (.aload_n 0, 1) := by decide +kernel
theorem dX1_readsTerm_55 : decode cX1_readsTerm 55 = .ok (.iload_n 1, 1) := by decide +kernel
theorem dX1_readsTerm_56 : decode cX1_readsTerm 56 = .ok (.invokevirtual 70, 3) := by decide +kernel
theorem dX1_readsTerm_59 : decode cX1_readsTerm 59 = .ok (.ifCond .eq 23, 3) := by decide +kernel
theorem dX1_readsTerm_62 : decode cX1_readsTerm 62 = .ok (.aload_n 0, 1) := by decide +kernel
theorem dX1_readsTerm_63 : decode cX1_readsTerm 63 = .ok (.iload_n 3, 1) := by decide +kernel
theorem dX1_readsTerm_64 : decode cX1_readsTerm 64 = .ok (.bipush 42, 2) := by decide +kernel
theorem dX1_readsTerm_66 : decode cX1_readsTerm 66 = .ok (.if_icmp .ne 8, 3) := by decide +kernel
theorem dX1_readsTerm_69 : decode cX1_readsTerm 69 = .ok (.bipush (-4), 2) := by decide +kernel
theorem dX1_readsTerm_71 : decode cX1_readsTerm 71 = .ok (.goto 5, 3) := by decide +kernel
theorem dX1_readsTerm_74 : decode cX1_readsTerm 74 = .ok (.bipush (-5), 2) := by decide +kernel
theorem dX1_readsTerm_76 : decode cX1_readsTerm 76 = .ok (.invokevirtual 61, 3) := by decide +kernel
theorem dX1_readsTerm_79 : decode cX1_readsTerm 79 = .ok (.ifCond .ne 5, 3) := by decide +kernel
theorem dX1_readsTerm_82 : decode cX1_readsTerm 82 = .ok (.iconst 0, 1) := by decide +kernel
theorem dX1_readsTerm_83 : decode cX1_readsTerm 83 = .ok (.ireturn, 1) := by decide +kernel
theorem dX1_readsTerm_84 : decode cX1_readsTerm 84 = .ok (.iinc 2 1, 3) := by decide +kernel
theorem dX1_readsTerm_87 : decode cX1_readsTerm 87 = .ok (.goto (-75), 3) := by decide +kernel
theorem dX1_readsTerm_90 : decode cX1_readsTerm 90 = .ok (.iconst 0, 1) := by decide +kernel
theorem dX1_readsTerm_91 : decode cX1_readsTerm 91 = .ok (.ireturn, 1) := by decide +kernel
theorem ggX1_readsAtom_X10_sign : GoodIn wsX1_readsAtom wsX10_sign := (bg_up (bg_law (bi_wsL_law0_r10 _ (List.mem_of_getElem? (i := 7) rfl))))
theorem gX1_readsAtom_X10_sign : GoodIn wsX1_readsAtom (wsV RX1 34 RX10 yX10_sign wsX10_sign) := goodIn_app (bg_up (bg_cons (bi_wsL_law0_r13 _ (List.mem_of_getElem? (i := 0) rfl)) (bg_cons (bi_wsL_law0_r10 _ (List.mem_of_getElem? (i := 5) rfl)) (bg_cons (bi_wsL_law0_r10 _ (List.mem_of_getElem? (i := 6) rfl)) (bg_cons (bi_wsL_law0_r1 _ (List.mem_of_getElem? (i := 16) rfl)) bg_nil))))) (bg_up (bg_law (bi_wsL_law0_r10 _ (List.mem_of_getElem? (i := 7) rfl))))
theorem ggX1_readsAtom_X1_readsSum : GoodIn wsX1_readsAtom wsX1_readsSum := (bg_up (bg_law (bi_wsL_law0_r14 _ (List.mem_of_getElem? (i := 0) rfl))))
theorem gX1_readsAtom_X1_readsSum : GoodIn wsX1_readsAtom (wsV RX1 45 RX1 yX1_readsSum wsX1_readsSum) := goodIn_app (bg_up (bg_cons (bi_wsL_law0_r13 _ (List.mem_of_getElem? (i := 21) rfl)) (bg_cons (bi_wsL_law0_r13 _ (List.mem_of_getElem? (i := 22) rfl)) (bg_cons (bi_wsL_law0_r13 _ (List.mem_of_getElem? (i := 23) rfl)) (bg_cons (bi_wsL_law0_r2 _ (List.mem_of_getElem? (i := 0) rfl)) bg_nil))))) (bg_up (bg_law (bi_wsL_law0_r14 _ (List.mem_of_getElem? (i := 0) rfl))))
theorem ggX1_readsAtom_X10_take : GoodIn wsX1_readsAtom wsX10_take := (bg_up (bg_law (bi_wsL_law0_r12 _ (List.mem_of_getElem? (i := 12) rfl))))
theorem gX1_readsAtom_X10_take : GoodIn wsX1_readsAtom (wsV RX1 38 RX10 yX10_take wsX10_take) := goodIn_app (bg_up (bg_cons (bi_wsL_law0_r12 _ (List.mem_of_getElem? (i := 23) rfl)) (bg_cons (bi_wsL_law0_r12 _ (List.mem_of_getElem? (i := 10) rfl)) (bg_cons (bi_wsL_law0_r12 _ (List.mem_of_getElem? (i := 11) rfl)) (bg_cons (bi_wsL_law0_r1 _ (List.mem_of_getElem? (i := 16) rfl)) bg_nil))))) (bg_up (bg_law (bi_wsL_law0_r12 _ (List.mem_of_getElem? (i := 12) rfl))))
theorem ggX1_readsAtom_X2_letter : GoodIn wsX1_readsAtom wsX2_letter := (bg_up (bg_law (bi_wsL_law0_r14 _ (List.mem_of_getElem? (i := 7) rfl))))
theorem gX1_readsAtom_X2_letter : GoodIn wsX1_readsAtom (va_wsS RX1 73 yX2_letter wsX2_letter) := goodIn_app (bg_up (bg_cons (bi_wsL_law0_r14 _ (List.mem_of_getElem? (i := 5) rfl)) (bg_cons (bi_wsL_law0_r14 _ (List.mem_of_getElem? (i := 6) rfl)) (bg_cons (bi_wsL_law0_r2 _ (List.mem_of_getElem? (i := 8) rfl)) bg_nil)))) (bg_up (bg_law (bi_wsL_law0_r14 _ (List.mem_of_getElem? (i := 7) rfl))))
theorem ggX1_readsAtom_X1_put : GoodIn wsX1_readsAtom wsX1_put := (bg_up (bg_law (bi_wsL_law0_r13 _ (List.mem_of_getElem? (i := 18) rfl))))
theorem gX1_readsAtom_X1_put : GoodIn wsX1_readsAtom (wsV RX1 61 RX1 yX1_put wsX1_put) := goodIn_app (bg_up (bg_cons (bi_wsL_law0_r13 _ (List.mem_of_getElem? (i := 15) rfl)) (bg_cons (bi_wsL_law0_r13 _ (List.mem_of_getElem? (i := 16) rfl)) (bg_cons (bi_wsL_law0_r13 _ (List.mem_of_getElem? (i := 17) rfl)) (bg_cons (bi_wsL_law0_r2 _ (List.mem_of_getElem? (i := 0) rfl)) bg_nil))))) (bg_up (bg_law (bi_wsL_law0_r13 _ (List.mem_of_getElem? (i := 18) rfl))))
theorem ggX1_readsAtom_X10_number : GoodIn wsX1_readsAtom wsX10_number := (bg_up (bg_law (bi_wsL_law0_r11 _ (List.mem_of_getElem? (i := 12) rfl))))
theorem gX1_readsAtom_X10_number : GoodIn wsX1_readsAtom (wsV RX1 76 RX10 yX10_number wsX10_number) := goodIn_app (bg_up (bg_cons (bi_wsL_law0_r14 _ (List.mem_of_getElem? (i := 8) rfl)) (bg_cons (bi_wsL_law0_r11 _ (List.mem_of_getElem? (i := 10) rfl)) (bg_cons (bi_wsL_law0_r11 _ (List.mem_of_getElem? (i := 11) rfl)) (bg_cons (bi_wsL_law0_r1 _ (List.mem_of_getElem? (i := 16) rfl)) bg_nil))))) (bg_up (bg_law (bi_wsL_law0_r11 _ (List.mem_of_getElem? (i := 12) rfl))))
theorem dX1_readsAtom_0 : decode cX1_readsAtom 0 = .ok (.aload_n 0, 1) := by decide +kernel
theorem dX1_readsAtom_1 : decode cX1_readsAtom 1 = .ok (.getfield 17, 3) := by decide +kernel
theorem dX1_readsAtom_4 : decode cX1_readsAtom 4 = .ok (.invokevirtual 34, 3) := by decide +kernel
theorem dX1_readsAtom_7 : decode cX1_readsAtom 7 = .ok (.istore_n 2, 1) := by decide +kernel
theorem dX1_readsAtom_8 : decode cX1_readsAtom 8 = .ok (.iload_n 2, 1) := by decide +kernel
theorem dX1_readsAtom_9 : decode cX1_readsAtom 9 = .ok (.bipush 91, 2) := by decide +kernel
theorem dX1_readsAtom_11 : decode cX1_readsAtom 11 = .ok (.if_icmp .ne 52, 3) := by decide +kernel
theorem dX1_readsAtom_14 : decode cX1_readsAtom 14 = .ok (.iload_n 1, 1) := by decide +kernel
theorem dX1_readsAtom_15 : decode cX1_readsAtom 15 = .ok (.bipush 6, 2) := by decide +kernel
theorem dX1_readsAtom_17 : decode cX1_readsAtom 17 = .ok (.if_icmp .lt 5, 3) := by decide +kernel
theorem dX1_readsAtom_20 : decode cX1_readsAtom 20 = .ok (.iconst 0, 1) := by decide +kernel
theorem dX1_readsAtom_21 : decode cX1_readsAtom 21 = .ok (.ireturn, 1) := by decide +kernel
theorem dX1_readsAtom_22 : decode cX1_readsAtom 22 = .ok (.aload_n 0, 1) := by decide +kernel
theorem dX1_readsAtom_23 : decode cX1_readsAtom 23 = .ok (.getfield 17, 3) := by decide +kernel
theorem dX1_readsAtom_26 : decode cX1_readsAtom 26 = .ok (.dup, 1) := by decide +kernel
theorem dX1_readsAtom_27 : decode cX1_readsAtom 27 = .ok (.getfield 21, 3) := by decide +kernel
theorem dX1_readsAtom_30 : decode cX1_readsAtom 30 = .ok (.iconst 1, 1) := by decide +kernel
theorem dX1_readsAtom_31 : decode cX1_readsAtom 31 = .ok (.iadd, 1) := by decide +kernel
theorem dX1_readsAtom_32 : decode cX1_readsAtom 32 = .ok (.putfield 21, 3) := by decide +kernel
theorem dX1_readsAtom_35 : decode cX1_readsAtom 35 = .ok (.aload_n 0, 1) := by decide +kernel
theorem dX1_readsAtom_36 : decode cX1_readsAtom 36 = .ok (.iload_n 1, 1) := by decide +kernel
theorem dX1_readsAtom_37 : decode cX1_readsAtom 37 = .ok (.iconst 1, 1) := by decide +kernel
theorem dX1_readsAtom_38 : decode cX1_readsAtom 38 = .ok (.iadd, 1) := by decide +kernel
theorem dX1_readsAtom_39 : decode cX1_readsAtom 39 = .ok (.invokevirtual 45, 3) := by decide +kernel
theorem dX1_readsAtom_42 : decode cX1_readsAtom 42 = .ok (.ifCond .eq 19, 3) := by decide +kernel
theorem dX1_readsAtom_45 : decode cX1_readsAtom 45 = .ok (.aload_n 0, 1) := by decide +kernel
theorem dX1_readsAtom_46 : decode cX1_readsAtom 46 = .ok (.getfield 17, 3) := by decide +kernel
theorem dX1_readsAtom_49 : decode cX1_readsAtom 49 = .ok (.bipush 93, 2) := by decide +kernel
theorem dX1_readsAtom_51 : decode cX1_readsAtom 51 = .ok (.invokevirtual 38, 3) := by decide +kernel
theorem dX1_readsAtom_54 : decode cX1_readsAtom 54 = .ok (.ifCond .eq 7, 3) := by decide +kernel
theorem dX1_readsAtom_57 : decode cX1_readsAtom 57 = .ok (.iconst 1, 1) := by decide +kernel
theorem dX1_readsAtom_58 : decode cX1_readsAtom 58 = .ok (.goto 4, 3) := by decide +kernel
theorem dX1_readsAtom_61 : decode cX1_readsAtom 61 = .ok (.iconst 0, 1) := by decide +kernel
theorem dX1_readsAtom_62 : decode cX1_readsAtom 62 = .ok (.ireturn, 1) := by decide +kernel
theorem dX1_readsAtom_63 : decode cX1_readsAtom 63 = .ok (.iload_n 2, 1) := by decide +kernel
theorem dX1_readsAtom_64 : decode cX1_readsAtom 64 = .ok (.invokestatic 73, 3) := by decide +kernel
theorem dX1_readsAtom_67 : decode cX1_readsAtom 67 = .ok (.istore_n 3, 1) := by decide +kernel
theorem dX1_readsAtom_68 : decode cX1_readsAtom 68 = .ok (.iload_n 3, 1) := by decide +kernel
theorem dX1_readsAtom_69 : decode cX1_readsAtom 69 = .ok (.iconst (-1), 1) := by decide +kernel
theorem dX1_readsAtom_70 : decode cX1_readsAtom 70 = .ok (.if_icmp .eq 25, 3) := by decide +kernel
theorem dX1_readsAtom_73 : decode cX1_readsAtom 73 = .ok (.aload_n 0, 1) := by decide +kernel
theorem dX1_readsAtom_74 : decode cX1_readsAtom 74 = .ok (.getfield 17, 3) := by decide +kernel
theorem dX1_readsAtom_77 : decode cX1_readsAtom 77 = .ok (.dup, 1) := by decide +kernel
theorem dX1_readsAtom_78 : decode cX1_readsAtom 78 = .ok (.getfield 21, 3) := by decide +kernel
theorem dX1_readsAtom_81 : decode cX1_readsAtom 81 = .ok (.iconst 1, 1) := by decide +kernel
theorem dX1_readsAtom_82 : decode cX1_readsAtom 82 = .ok (.iadd, 1) := by decide +kernel
theorem dX1_readsAtom_83 : decode cX1_readsAtom 83 = .ok (.putfield 21, 3) := by decide +kernel
theorem dX1_readsAtom_86 : decode cX1_readsAtom 86 = .ok (.aload_n 0, 1) := by decide +kernel
theorem dX1_readsAtom_87 : decode cX1_readsAtom 87 = .ok (.bipush (-14), 2) := by decide +kernel
theorem dX1_readsAtom_89 : decode cX1_readsAtom 89 = .ok (.iload_n 3, 1) := by decide +kernel
theorem dX1_readsAtom_90 : decode cX1_readsAtom 90 = .ok (.isub, 1) := by decide +kernel
theorem dX1_readsAtom_91 : decode cX1_readsAtom 91 = .ok (.invokevirtual 61, 3) := by decide +kernel
theorem dX1_readsAtom_94 : decode cX1_readsAtom 94 = .ok (.ireturn, 1) := by decide +kernel
theorem dX1_readsAtom_95 : decode cX1_readsAtom 95 = .ok (.aload_n 0, 1) := by decide +kernel
theorem dX1_readsAtom_96 : decode cX1_readsAtom 96 = .ok (.getfield 17, 3) := by decide +kernel
theorem dX1_readsAtom_99 : decode cX1_readsAtom 99 = .ok (.iconst 4, 1) := by decide +kernel
theorem dX1_readsAtom_100 : decode cX1_readsAtom 100 = .ok (.invokevirtual 76, 3) := by decide +kernel
theorem dX1_readsAtom_103 : decode cX1_readsAtom 103 = .ok (.istore 4, 2) := by decide +kernel
theorem dX1_readsAtom_105 : decode cX1_readsAtom 105 = .ok (.iload 4, 2) := by decide +kernel
theorem dX1_readsAtom_107 : decode cX1_readsAtom 107 = .ok (.iconst (-1), 1) := by decide +kernel
theorem dX1_readsAtom_108 : decode cX1_readsAtom 108 = .ok (.if_icmp .eq 16, 3) := by decide +kernel
theorem dX1_readsAtom_111 : decode cX1_readsAtom 111 = .ok (.aload_n 0, 1) := by decide +kernel
theorem dX1_readsAtom_112 : decode cX1_readsAtom 112 = .ok (.iload 4, 2) := by decide +kernel
theorem dX1_readsAtom_114 : decode cX1_readsAtom 114 = .ok (.invokevirtual 61, 3) := by decide +kernel
theorem dX1_readsAtom_117 : decode cX1_readsAtom 117 = .ok (.ifCond .eq 7, 3) := by decide +kernel
theorem dX1_readsAtom_120 : decode cX1_readsAtom 120 = .ok (.iconst 1, 1) := by decide +kernel
theorem dX1_readsAtom_121 : decode cX1_readsAtom 121 = .ok (.goto 4, 3) := by decide +kernel
theorem dX1_readsAtom_124 : decode cX1_readsAtom 124 = .ok (.iconst 0, 1) := by decide +kernel
theorem dX1_readsAtom_125 : decode cX1_readsAtom 125 = .ok (.ireturn, 1) := by decide +kernel
theorem dX1_put_0 : decode cX1_put 0 = .ok (.aload_n 0, 1) := by decide +kernel
theorem dX1_put_1 : decode cX1_put 1 = .ok (.getfield 27, 3) := by decide +kernel
theorem dX1_put_4 : decode cX1_put 4 = .ok (.sipush 241, 3) := by decide +kernel
theorem dX1_put_7 : decode cX1_put 7 = .ok (.if_icmp .lt 5, 3) := by decide +kernel
theorem dX1_put_10 : decode cX1_put 10 = .ok (.iconst 0, 1) := by decide +kernel
theorem dX1_put_11 : decode cX1_put 11 = .ok (.ireturn, 1) := by decide +kernel
theorem dX1_put_12 : decode cX1_put 12 = .ok (.aload_n 0, 1) := by decide +kernel
theorem dX1_put_13 : decode cX1_put 13 = .ok (.getfield 11, 3) := by decide +kernel
theorem dX1_put_16 : decode cX1_put 16 = .ok (.aload_n 0, 1) := by decide +kernel
theorem dX1_put_17 : decode cX1_put 17 = .ok (.getfield 27, 3) := by decide +kernel
theorem dX1_put_20 : decode cX1_put 20 = .ok (.iload_n 1, 1) := by decide +kernel
theorem dX1_put_21 : decode cX1_put 21 = .ok (.iastore, 1) := by decide +kernel
theorem dX1_put_22 : decode cX1_put 22 = .ok (.aload_n 0, 1) := by decide +kernel
theorem dX1_put_23 : decode cX1_put 23 = .ok (.dup, 1) := by decide +kernel
theorem dX1_put_24 : decode cX1_put 24 = .ok (.getfield 27, 3) := by decide +kernel
theorem dX1_put_27 : decode cX1_put 27 = .ok (.iconst 1, 1) := by decide +kernel
theorem dX1_put_28 : decode cX1_put 28 = .ok (.iadd, 1) := by decide +kernel
theorem dX1_put_29 : decode cX1_put 29 = .ok (.putfield 27, 3) := by decide +kernel
theorem dX1_put_32 : decode cX1_put 32 = .ok (.iconst 1, 1) := by decide +kernel
theorem dX1_put_33 : decode cX1_put 33 = .ok (.ireturn, 1) := by decide +kernel
theorem dX2_init_0 : decode cX2_init 0 = .ok (.aload_n 0, 1) := by decide +kernel
theorem dX2_init_1 : decode cX2_init 1 = .ok (.invokespecial 3, 3) := by decide +kernel
theorem dX2_init_4 : decode cX2_init 4 = .ok (.aload_n 0, 1) := by decide +kernel
theorem dX2_init_5 : decode cX2_init 5 = .ok (.iconst (-1), 1) := by decide +kernel
theorem dX2_init_6 : decode cX2_init 6 = .ok (.putfield 9, 3) := by decide +kernel
theorem dX2_init_9 : decode cX2_init 9 = .ok (.aload_n 0, 1) := by decide +kernel
theorem dX2_init_10 : decode cX2_init 10 = .ok (.iconst 4, 1) := by decide +kernel
theorem dX2_init_11 : decode cX2_init 11 = .ok (.sipush 241, 3) := by decide +kernel
theorem dX2_init_14 : decode cX2_init 14 = .ok (.multianewarray 15 2, 4) := by decide +kernel
theorem dX2_init_18 : decode cX2_init 18 = .ok (.putfield 17, 3) := by decide +kernel
theorem dX2_init_21 : decode cX2_init 21 = .ok (.aload_n 0, 1) := by decide +kernel
theorem dX2_init_22 : decode cX2_init 22 = .ok (.iconst 4, 1) := by decide +kernel
theorem dX2_init_23 : decode cX2_init 23 = .ok (.newarray .int, 2) := by decide +kernel
theorem dX2_init_25 : decode cX2_init 25 = .ok (.putfield 20, 3) := by decide +kernel
theorem dX2_init_28 : decode cX2_init 28 = .ok (.aload_n 0, 1) := by decide +kernel
theorem dX2_init_29 : decode cX2_init 29 = .ok (.getstatic 24, 3) := by decide +kernel
theorem dX2_init_32 : decode cX2_init 32 = .ok (.arraylength, 1) := by decide +kernel
theorem dX2_init_33 : decode cX2_init 33 = .ok (.newarray .int, 2) := by decide +kernel
theorem dX2_init_35 : decode cX2_init 35 = .ok (.putfield 28, 3) := by decide +kernel
theorem dX2_init_38 : decode cX2_init 38 = .ok (.aload_n 0, 1) := by decide +kernel
theorem dX2_init_39 : decode cX2_init 39 = .ok (.sipush 241, 3) := by decide +kernel
theorem dX2_init_42 : decode cX2_init 42 = .ok (.newarray .int, 2) := by decide +kernel
theorem dX2_init_44 : decode cX2_init 44 = .ok (.putfield 31, 3) := by decide +kernel
theorem dX2_init_47 : decode cX2_init 47 = .ok (.return_, 1) := by decide +kernel
theorem dX2_letter_0 : decode cX2_letter 0 = .ok (.iconst 0, 1) := by decide +kernel
theorem dX2_letter_1 : decode cX2_letter 1 = .ok (.istore_n 1, 1) := by decide +kernel
theorem dX2_letter_2 : decode cX2_letter 2 = .ok (.iload_n 1, 1) := by decide +kernel
theorem dX2_letter_3 : decode cX2_letter 3 = .ok (.getstatic 24, 3) := by decide +kernel
theorem dX2_letter_6 : decode cX2_letter 6 = .ok (.arraylength, 1) := by decide +kernel
theorem dX2_letter_7 : decode cX2_letter 7 = .ok (.if_icmp .ge 20, 3) := by decide +kernel
theorem dX2_letter_10 : decode cX2_letter 10 = .ok (.getstatic 24, 3) := by decide +kernel
theorem dX2_letter_13 : decode cX2_letter 13 = .ok (.iload_n 1, 1) := by decide +kernel
theorem dX2_letter_14 : decode cX2_letter 14 = .ok (.caload, 1) := by decide +kernel
theorem dX2_letter_15 : decode cX2_letter 15 = .ok (.iload_n 0, 1) := by decide +kernel
theorem dX2_letter_16 : decode cX2_letter 16 = .ok (.if_icmp .ne 5, 3) := by decide +kernel
theorem dX2_letter_19 : decode cX2_letter 19 = .ok (.iload_n 1, 1) := by decide +kernel
theorem dX2_letter_20 : decode cX2_letter 20 = .ok (.ireturn, 1) := by decide +kernel
theorem dX2_letter_21 : decode cX2_letter 21 = .ok (.iinc 1 1, 3) := by decide +kernel
theorem dX2_letter_24 : decode cX2_letter 24 = .ok (.goto (-22), 3) := by decide +kernel
theorem dX2_letter_27 : decode cX2_letter 27 = .ok (.iconst (-1), 1) := by decide +kernel
theorem dX2_letter_28 : decode cX2_letter 28 = .ok (.ireturn, 1) := by decide +kernel
theorem dX2_isFull_0 : decode cX2_isFull 0 = .ok (.aload_n 0, 1) := by decide +kernel
theorem dX2_isFull_1 : decode cX2_isFull 1 = .ok (.getfield 34, 3) := by decide +kernel
theorem dX2_isFull_4 : decode cX2_isFull 4 = .ok (.iconst 4, 1) := by decide +kernel
theorem dX2_isFull_5 : decode cX2_isFull 5 = .ok (.if_icmp .lt 7, 3) := by decide +kernel
theorem dX2_isFull_8 : decode cX2_isFull 8 = .ok (.iconst 1, 1) := by decide +kernel
theorem dX2_isFull_9 : decode cX2_isFull 9 = .ok (.goto 4, 3) := by decide +kernel
theorem dX2_isFull_12 : decode cX2_isFull 12 = .ok (.iconst 0, 1) := by decide +kernel
theorem dX2_isFull_13 : decode cX2_isFull 13 = .ok (.ireturn, 1) := by decide +kernel
theorem ggX2_add_X2_isFull : GoodIn wsX2_add wsX2_isFull := (bg_up (bg_law (bi_wsL_law0_r21 _ (List.mem_of_getElem? (i := 13) rfl))))
theorem gX2_add_X2_isFull : GoodIn wsX2_add (wsV RX2 37 RX2 yX2_isFull wsX2_isFull) := goodIn_app (bg_up (bg_cons (bi_wsL_law0_r22 _ (List.mem_of_getElem? (i := 3) rfl)) (bg_cons (bi_wsL_law0_r21 _ (List.mem_of_getElem? (i := 11) rfl)) (bg_cons (bi_wsL_law0_r21 _ (List.mem_of_getElem? (i := 12) rfl)) (bg_cons (bi_wsL_law0_r2 _ (List.mem_of_getElem? (i := 8) rfl)) bg_nil))))) (bg_up (bg_law (bi_wsL_law0_r21 _ (List.mem_of_getElem? (i := 13) rfl))))
theorem dX2_add_0 : decode cX2_add 0 = .ok (.aload_n 0, 1) := by decide +kernel
theorem dX2_add_1 : decode cX2_add 1 = .ok (.invokevirtual 37, 3) := by decide +kernel
theorem dX2_add_4 : decode cX2_add 4 = .ok (.ifCond .ne 10, 3) := by decide +kernel
theorem dX2_add_7 : decode cX2_add 7 = .ok (.iload_n 2, 1) := by decide +kernel
theorem dX2_add_8 : decode cX2_add 8 = .ok (.sipush 241, 3) := by decide +kernel
theorem dX2_add_11 : decode cX2_add 11 = .ok (.if_icmp .le 4, 3) := by decide +kernel
theorem dX2_add_14 : decode cX2_add 14 = .ok (.return_, 1) := by decide +kernel
theorem dX2_add_15 : decode cX2_add 15 = .ok (.aload_n 1, 1) := by decide +kernel
theorem dX2_add_16 : decode cX2_add 16 = .ok (.iconst 0, 1) := by decide +kernel
theorem dX2_add_17 : decode cX2_add 17 = .ok (.aload_n 0, 1) := by decide +kernel
theorem dX2_add_18 : decode cX2_add 18 = .ok (.getfield 17, 3) := by decide +kernel
theorem dX2_add_21 : decode cX2_add 21 = .ok (.aload_n 0, 1) := by decide +kernel
theorem dX2_add_22 : decode cX2_add 22 = .ok (.getfield 34, 3) := by decide +kernel
theorem dX2_add_25 : decode cX2_add 25 = .ok (.aaload, 1) := by decide +kernel
theorem dX2_add_26 : decode cX2_add 26 = .ok (.iconst 0, 1) := by decide +kernel
theorem dX2_add_27 : decode cX2_add 27 = .ok (.iload_n 2, 1) := by decide +kernel
theorem dX2_add_28 : decode cX2_add 28 = .ok (.invokestatic 41, 3) := by decide +kernel
theorem dX2_add_31 : decode cX2_add 31 = .ok (.aload_n 0, 1) := by decide +kernel
theorem dX2_add_32 : decode cX2_add 32 = .ok (.getfield 20, 3) := by decide +kernel
theorem dX2_add_35 : decode cX2_add 35 = .ok (.aload_n 0, 1) := by decide +kernel
theorem dX2_add_36 : decode cX2_add 36 = .ok (.getfield 34, 3) := by decide +kernel
theorem dX2_add_39 : decode cX2_add 39 = .ok (.iload_n 2, 1) := by decide +kernel
theorem dX2_add_40 : decode cX2_add 40 = .ok (.iastore, 1) := by decide +kernel
theorem dX2_add_41 : decode cX2_add 41 = .ok (.aload_n 0, 1) := by decide +kernel
theorem dX2_add_42 : decode cX2_add 42 = .ok (.dup, 1) := by decide +kernel
theorem dX2_add_43 : decode cX2_add 43 = .ok (.getfield 34, 3) := by decide +kernel
theorem dX2_add_46 : decode cX2_add 46 = .ok (.iconst 1, 1) := by decide +kernel
theorem dX2_add_47 : decode cX2_add 47 = .ok (.iadd, 1) := by decide +kernel
theorem dX2_add_48 : decode cX2_add 48 = .ok (.putfield 34, 3) := by decide +kernel
theorem dX2_add_51 : decode cX2_add 51 = .ok (.return_, 1) := by decide +kernel
theorem ggX2_riseBy_X2_worth : GoodIn wsX2_riseBy wsX2_worth := (bg_up (bg_law (bi_wsL_law0_r30 _ (List.mem_of_getElem? (i := 16) rfl))))
theorem gX2_riseBy_X2_worth : GoodIn wsX2_riseBy (wsV RX2 47 RX2 yX2_worth wsX2_worth) := goodIn_app (bg_up (bg_cons (bi_wsL_law0_r30 _ (List.mem_of_getElem? (i := 13) rfl)) (bg_cons (bi_wsL_law0_r30 _ (List.mem_of_getElem? (i := 14) rfl)) (bg_cons (bi_wsL_law0_r30 _ (List.mem_of_getElem? (i := 15) rfl)) (bg_cons (bi_wsL_law0_r2 _ (List.mem_of_getElem? (i := 8) rfl)) bg_nil))))) (bg_up (bg_law (bi_wsL_law0_r30 _ (List.mem_of_getElem? (i := 16) rfl))))
theorem dX2_riseBy_0 : decode cX2_riseBy 0 = .ok (.aload_n 0, 1) := by decide +kernel
theorem dX2_riseBy_1 : decode cX2_riseBy 1 = .ok (.getfield 9, 3) := by decide +kernel
theorem dX2_riseBy_4 : decode cX2_riseBy 4 = .ok (.iconst (-1), 1) := by decide +kernel
theorem dX2_riseBy_5 : decode cX2_riseBy 5 = .ok (.if_icmp .ne 25, 3) := by decide +kernel
theorem dX2_riseBy_8 : decode cX2_riseBy 8 = .ok (.iload_n 1, 1) := by decide +kernel
theorem dX2_riseBy_9 : decode cX2_riseBy 9 = .ok (.iconst 2, 1) := by decide +kernel
theorem dX2_riseBy_10 : decode cX2_riseBy 10 = .ok (.idiv, 1) := by decide +kernel
theorem dX2_riseBy_11 : decode cX2_riseBy 11 = .ok (.iconst 2, 1) := by decide +kernel
theorem dX2_riseBy_12 : decode cX2_riseBy 12 = .ok (.iload 4, 2) := by decide +kernel
theorem dX2_riseBy_14 : decode cX2_riseBy 14 = .ok (.imul, 1) := by decide +kernel
theorem dX2_riseBy_15 : decode cX2_riseBy 15 = .ok (.iadd, 1) := by decide +kernel
theorem dX2_riseBy_16 : decode cX2_riseBy 16 = .ok (.iload 5, 2) := by decide +kernel
theorem dX2_riseBy_18 : decode cX2_riseBy 18 = .ok (.iconst 3, 1) := by decide +kernel
theorem dX2_riseBy_19 : decode cX2_riseBy 19 = .ok (.idiv, 1) := by decide +kernel
theorem dX2_riseBy_20 : decode cX2_riseBy 20 = .ok (.isub, 1) := by decide +kernel
theorem dX2_riseBy_21 : decode cX2_riseBy 21 = .ok (.iload_n 2, 1) := by decide +kernel
theorem dX2_riseBy_22 : decode cX2_riseBy 22 = .ok (.iconst 4, 1) := by decide +kernel
theorem dX2_riseBy_23 : decode cX2_riseBy 23 = .ok (.idiv, 1) := by decide +kernel
theorem dX2_riseBy_24 : decode cX2_riseBy 24 = .ok (.isub, 1) := by decide +kernel
theorem dX2_riseBy_25 : decode cX2_riseBy 25 = .ok (.istore 7, 2) := by decide +kernel
theorem dX2_riseBy_27 : decode cX2_riseBy 27 = .ok (.goto 72, 3) := by decide +kernel
theorem dX2_riseBy_30 : decode cX2_riseBy 30 = .ok (.aload_n 0, 1) := by decide +kernel
theorem dX2_riseBy_31 : decode cX2_riseBy 31 = .ok (.getfield 28, 3) := by decide +kernel
theorem dX2_riseBy_34 : decode cX2_riseBy 34 = .ok (.iconst 0, 1) := by decide +kernel
theorem dX2_riseBy_35 : decode cX2_riseBy 35 = .ok (.iload_n 1, 1) := by decide +kernel
theorem dX2_riseBy_36 : decode cX2_riseBy 36 = .ok (.iastore, 1) := by decide +kernel
theorem dX2_riseBy_37 : decode cX2_riseBy 37 = .ok (.aload_n 0, 1) := by decide +kernel
theorem dX2_riseBy_38 : decode cX2_riseBy 38 = .ok (.getfield 28, 3) := by decide +kernel
theorem dX2_riseBy_41 : decode cX2_riseBy 41 = .ok (.iconst 1, 1) := by decide +kernel
theorem dX2_riseBy_42 : decode cX2_riseBy 42 = .ok (.iload_n 2, 1) := by decide +kernel
theorem dX2_riseBy_43 : decode cX2_riseBy 43 = .ok (.iastore, 1) := by decide +kernel
theorem dX2_riseBy_44 : decode cX2_riseBy 44 = .ok (.aload_n 0, 1) := by decide +kernel
theorem dX2_riseBy_45 : decode cX2_riseBy 45 = .ok (.getfield 28, 3) := by decide +kernel
theorem dX2_riseBy_48 : decode cX2_riseBy 48 = .ok (.iconst 2, 1) := by decide +kernel
theorem dX2_riseBy_49 : decode cX2_riseBy 49 = .ok (.iload_n 3, 1) := by decide +kernel
theorem dX2_riseBy_50 : decode cX2_riseBy 50 = .ok (.iastore, 1) := by decide +kernel
theorem dX2_riseBy_51 : decode cX2_riseBy 51 = .ok (.aload_n 0, 1) := by decide +kernel
theorem dX2_riseBy_52 : decode cX2_riseBy 52 = .ok (.getfield 28, 3) := by decide +kernel
theorem dX2_riseBy_55 : decode cX2_riseBy 55 = .ok (.iconst 3, 1) := by decide +kernel
theorem dX2_riseBy_56 : decode cX2_riseBy 56 = .ok (.iload 4, 2) := by decide +kernel
theorem dX2_riseBy_58 : decode cX2_riseBy 58 = .ok (.iastore, 1) := by decide +kernel
theorem dX2_riseBy_59 : decode cX2_riseBy 59 = .ok (.aload_n 0, 1) := by decide +kernel
theorem dX2_riseBy_60 : decode cX2_riseBy 60 = .ok (.getfield 28, 3) := by decide +kernel
theorem dX2_riseBy_63 : decode cX2_riseBy 63 = .ok (.iconst 4, 1) := by decide +kernel
theorem dX2_riseBy_64 : decode cX2_riseBy 64 = .ok (.iload 5, 2) := by decide +kernel
theorem dX2_riseBy_66 : decode cX2_riseBy 66 = .ok (.iastore, 1) := by decide +kernel
theorem dX2_riseBy_67 : decode cX2_riseBy 67 = .ok (.aload_n 0, 1) := by decide +kernel
theorem dX2_riseBy_68 : decode cX2_riseBy 68 = .ok (.getfield 28, 3) := by decide +kernel
theorem dX2_riseBy_71 : decode cX2_riseBy 71 = .ok (.iconst 5, 1) := by decide +kernel
theorem dX2_riseBy_72 : decode cX2_riseBy 72 = .ok (.iload 6, 2) := by decide +kernel
theorem dX2_riseBy_74 : decode cX2_riseBy 74 = .ok (.iastore, 1) := by decide +kernel
theorem dX2_riseBy_75 : decode cX2_riseBy 75 = .ok (.aload_n 0, 1) := by decide +kernel
theorem dX2_riseBy_76 : decode cX2_riseBy 76 = .ok (.aload_n 0, 1) := by decide +kernel
theorem dX2_riseBy_77 : decode cX2_riseBy 77 = .ok (.getfield 17, 3) := by decide +kernel
theorem dX2_riseBy_80 : decode cX2_riseBy 80 = .ok (.aload_n 0, 1) := by decide +kernel
theorem dX2_riseBy_81 : decode cX2_riseBy 81 = .ok (.getfield 9, 3) := by decide +kernel
theorem dX2_riseBy_84 : decode cX2_riseBy 84 = .ok (.aaload, 1) := by decide +kernel
theorem dX2_riseBy_85 : decode cX2_riseBy 85 = .ok (.aload_n 0, 1) := by decide +kernel
theorem dX2_riseBy_86 : decode cX2_riseBy 86 = .ok (.getfield 20, 3) := by decide +kernel
theorem dX2_riseBy_89 : decode cX2_riseBy 89 = .ok (.aload_n 0, 1) := by decide +kernel
theorem dX2_riseBy_90 : decode cX2_riseBy 90 = .ok (.getfield 9, 3) := by decide +kernel
theorem dX2_riseBy_93 : decode cX2_riseBy 93 = .ok (.iaload, 1) := by decide +kernel
theorem dX2_riseBy_94 : decode cX2_riseBy 94 = .ok (.invokevirtual 47, 3) := by decide +kernel
theorem dX2_riseBy_97 : decode cX2_riseBy 97 = .ok (.istore 7, 2) := by decide +kernel
theorem dX2_riseBy_99 : decode cX2_riseBy 99 = .ok (.bipush (-9), 2) := by decide +kernel
theorem dX2_riseBy_101 : decode cX2_riseBy 101 = .ok (.bipush 9, 2) := by decide +kernel
theorem dX2_riseBy_103 : decode cX2_riseBy 103 = .ok (.iload 7, 2) := by decide +kernel
theorem dX2_riseBy_105 : decode cX2_riseBy 105 = .ok (.invokestatic 51, 3) := by decide +kernel
theorem dX2_riseBy_108 : decode cX2_riseBy 108 = .ok (.invokestatic 57, 3) := by decide +kernel
theorem dX2_riseBy_111 : decode cX2_riseBy 111 = .ok (.ireturn, 1) := by decide +kernel
theorem ggX2_worth_X2_endOfClause : GoodIn wsX2_worth wsX2_endOfClause := (bg_up (bg_law (bi_wsL_law0_r30 _ (List.mem_of_getElem? (i := 19) rfl))))
theorem gX2_worth_X2_endOfClause : GoodIn wsX2_worth (va_wsS RX2 60 yX2_endOfClause wsX2_endOfClause) := goodIn_app (bg_up (bg_cons (bi_wsL_law0_r30 _ (List.mem_of_getElem? (i := 17) rfl)) (bg_cons (bi_wsL_law0_r30 _ (List.mem_of_getElem? (i := 18) rfl)) (bg_cons (bi_wsL_law0_r2 _ (List.mem_of_getElem? (i := 8) rfl)) bg_nil)))) (bg_up (bg_law (bi_wsL_law0_r30 _ (List.mem_of_getElem? (i := 19) rfl))))
theorem ggX2_worth_X2_combine : GoodIn wsX2_worth wsX2_combine := (bg_up (bg_law (bi_wsL_law0_r30 _ (List.mem_of_getElem? (i := 22) rfl))))
theorem gX2_worth_X2_combine : GoodIn wsX2_worth (va_wsS RX2 64 yX2_combine wsX2_combine) := goodIn_app (bg_up (bg_cons (bi_wsL_law0_r30 _ (List.mem_of_getElem? (i := 20) rfl)) (bg_cons (bi_wsL_law0_r30 _ (List.mem_of_getElem? (i := 21) rfl)) (bg_cons (bi_wsL_law0_r2 _ (List.mem_of_getElem? (i := 8) rfl)) bg_nil)))) (bg_up (bg_law (bi_wsL_law0_r30 _ (List.mem_of_getElem? (i := 22) rfl))))
theorem dX2_worth_0 : decode cX2_worth 0 = .ok (.iconst (-1), 1) := by decide +kernel
theorem dX2_worth_1 : decode cX2_worth 1 = .ok (.istore_n 3, 1) := by decide +kernel
theorem dX2_worth_2 : decode cX2_worth 2 = .ok (.iconst 0, 1) := by decide +kernel
theorem dX2_worth_3 : decode cX2_worth 3 = .ok (.istore 4, 2) := by decide +kernel
theorem dX2_worth_5 : decode cX2_worth 5 = .ok (.iload 4, 2) := by decide +kernel
theorem dX2_worth_7 : decode cX2_worth 7 = .ok (.iload_n 2, 1) := by decide +kernel
theorem dX2_worth_8 : decode cX2_worth 8 = .ok (.if_icmp .ge 171, 3) := by decide +kernel
theorem dX2_worth_11 : decode cX2_worth 11 = .ok (.aload_n 1, 1) := by decide +kernel
theorem dX2_worth_12 : decode cX2_worth 12 = .ok (.iload 4, 2) := by decide +kernel
theorem dX2_worth_14 : decode cX2_worth 14 = .ok (.iaload, 1) := by decide +kernel
theorem dX2_worth_15 : decode cX2_worth 15 = .ok (.istore 5, 2) := by decide +kernel
theorem dX2_worth_17 : decode cX2_worth 17 = .ok (.iload 5, 2) := by decide +kernel
theorem dX2_worth_19 : decode cX2_worth 19 = .ok (.bipush (-13), 2) := by decide +kernel
theorem dX2_worth_21 : decode cX2_worth 21 = .ok (.if_icmp .ne 10, 3) := by decide +kernel
theorem dX2_worth_24 : decode cX2_worth 24 = .ok (.aload_n 0, 1) := by decide +kernel
theorem dX2_worth_25 : decode cX2_worth 25 = .ok (.getfield 31, 3) := by decide +kernel
theorem dX2_worth_28 : decode cX2_worth 28 = .ok (.iconst 0, 1) := by decide +kernel
theorem dX2_worth_29 : decode cX2_worth 29 = .ok (.iaload, 1) := by decide +kernel
theorem dX2_worth_30 : decode cX2_worth 30 = .ok (.ireturn, 1) := by decide +kernel
theorem dX2_worth_31 : decode cX2_worth 31 = .ok (.iload 5, 2) := by decide +kernel
theorem dX2_worth_33 : decode cX2_worth 33 = .ok (.bipush (-12), 2) := by decide +kernel
theorem dX2_worth_35 : decode cX2_worth 35 = .ok (.if_icmp .ne 31, 3) := by decide +kernel
theorem dX2_worth_38 : decode cX2_worth 38 = .ok (.iconst (-1), 1) := by decide +kernel
theorem dX2_worth_39 : decode cX2_worth 39 = .ok (.istore_n 3, 1) := by decide +kernel
theorem dX2_worth_40 : decode cX2_worth 40 = .ok (.aload_n 0, 1) := by decide +kernel
theorem dX2_worth_41 : decode cX2_worth 41 = .ok (.getfield 31, 3) := by decide +kernel
theorem dX2_worth_44 : decode cX2_worth 44 = .ok (.iconst 0, 1) := by decide +kernel
theorem dX2_worth_45 : decode cX2_worth 45 = .ok (.iaload, 1) := by decide +kernel
theorem dX2_worth_46 : decode cX2_worth 46 = .ok (.ifCond .ne 13, 3) := by decide +kernel
theorem dX2_worth_49 : decode cX2_worth 49 = .ok (.aload_n 1, 1) := by decide +kernel
theorem dX2_worth_50 : decode cX2_worth 50 = .ok (.iload_n 2, 1) := by decide +kernel
theorem dX2_worth_51 : decode cX2_worth 51 = .ok (.iload 4, 2) := by decide +kernel
theorem dX2_worth_53 : decode cX2_worth 53 = .ok (.invokestatic 60, 3) := by decide +kernel
theorem dX2_worth_56 : decode cX2_worth 56 = .ok (.goto 5, 3) := by decide +kernel
theorem dX2_worth_59 : decode cX2_worth 59 = .ok (.iload 4, 2) := by decide +kernel
theorem dX2_worth_61 : decode cX2_worth 61 = .ok (.istore 4, 2) := by decide +kernel
theorem dX2_worth_63 : decode cX2_worth 63 = .ok (.goto 110, 3) := by decide +kernel
theorem dX2_worth_66 : decode cX2_worth 66 = .ok (.iload 5, 2) := by decide +kernel
theorem dX2_worth_68 : decode cX2_worth 68 = .ok (.ifCond .ge 10, 3) := by decide +kernel
theorem dX2_worth_71 : decode cX2_worth 71 = .ok (.iload 5, 2) := by decide +kernel
theorem dX2_worth_73 : decode cX2_worth 73 = .ok (.bipush (-14), 2) := by decide +kernel
theorem dX2_worth_75 : decode cX2_worth 75 = .ok (.if_icmp .gt 35, 3) := by decide +kernel
theorem dX2_worth_78 : decode cX2_worth 78 = .ok (.iinc 3 1, 3) := by decide +kernel
theorem dX2_worth_81 : decode cX2_worth 81 = .ok (.aload_n 0, 1) := by decide +kernel
theorem dX2_worth_82 : decode cX2_worth 82 = .ok (.getfield 31, 3) := by decide +kernel
theorem dX2_worth_85 : decode cX2_worth 85 = .ok (.iload_n 3, 1) := by decide +kernel
theorem dX2_worth_86 : decode cX2_worth 86 = .ok (.iload 5, 2) := by decide +kernel
theorem dX2_worth_88 : decode cX2_worth 88 = .ok (.ifCond .lt 8, 3) := by decide +kernel
theorem dX2_worth_91 : decode cX2_worth 91 = .ok (.iload 5, 2) := by decide +kernel
theorem dX2_worth_93 : decode cX2_worth 93 = .ok (.goto 13, 3) := by decide +kernel
theorem dX2_worth_96 : decode cX2_worth 96 = .ok (.aload_n 0, 1) := by decide +kernel
theorem dX2_worth_97 : decode cX2_worth 97 = .ok (.getfield 28, 3) := by decide +kernel
theorem dX2_worth_100 : decode cX2_worth 100 = .ok (.bipush (-14), 2) := by decide +kernel
theorem dX2_worth_102 : decode cX2_worth 102 = .ok (.iload 5, 2) := by decide +kernel
theorem dX2_worth_104 : decode cX2_worth 104 = .ok (.isub, 1) := by decide +kernel
theorem dX2_worth_105 : decode cX2_worth 105 = .ok (.iaload, 1) := by decide +kernel
theorem dX2_worth_106 : decode cX2_worth 106 = .ok (.iastore, 1) := by decide +kernel
theorem dX2_worth_107 : decode cX2_worth 107 = .ok (.goto 66, 3) := by decide +kernel
theorem dX2_worth_110 : decode cX2_worth 110 = .ok (.iload 5, 2) := by decide +kernel
theorem dX2_worth_112 : decode cX2_worth 112 = .ok (.bipush (-11), 2) := by decide +kernel
theorem dX2_worth_114 : decode cX2_worth 114 = .ok (.if_icmp .ne 24, 3) := by decide +kernel
theorem dX2_worth_117 : decode cX2_worth 117 = .ok (.iload_n 3, 1) := by decide +kernel
theorem dX2_worth_118 : decode cX2_worth 118 = .ok (.ifCond .lt 20, 3) := by decide +kernel
theorem dX2_worth_121 : decode cX2_worth 121 = .ok (.aload_n 0, 1) := by decide +kernel
theorem dX2_worth_122 : decode cX2_worth 122 = .ok (.getfield 31, 3) := by decide +kernel
theorem dX2_worth_125 : decode cX2_worth 125 = .ok (.iload_n 3, 1) := by decide +kernel
theorem dX2_worth_126 : decode cX2_worth 126 = .ok (.iconst 1, 1) := by decide +kernel
theorem dX2_worth_127 : decode cX2_worth 127 = .ok (.aload_n 0, 1) := by decide +kernel
theorem dX2_worth_128 : decode cX2_worth 128 = .ok (.getfield 31, 3) := by decide +kernel
theorem dX2_worth_131 : decode cX2_worth 131 = .ok (.iload_n 3, 1) := by decide +kernel
theorem dX2_worth_132 : decode cX2_worth 132 = .ok (.iaload, 1) := by decide +kernel
theorem dX2_worth_133 : decode cX2_worth 133 = .ok (.isub, 1) := by decide +kernel
theorem dX2_worth_134 : decode cX2_worth 134 = .ok (.iastore, 1) := by decide +kernel
theorem dX2_worth_135 : decode cX2_worth 135 = .ok (.goto 38, 3) := by decide +kernel
theorem dX2_worth_138 : decode cX2_worth 138 = .ok (.iload_n 3, 1) := by decide +kernel
theorem dX2_worth_139 : decode cX2_worth 139 = .ok (.iconst 1, 1) := by decide +kernel
theorem dX2_worth_140 : decode cX2_worth 140 = .ok (.if_icmp .lt 33, 3) := by decide +kernel
theorem dX2_worth_143 : decode cX2_worth 143 = .ok (.iinc 3 (-1), 3) := by decide +kernel
theorem dX2_worth_146 : decode cX2_worth 146 = .ok (.aload_n 0, 1) := by decide +kernel
theorem dX2_worth_147 : decode cX2_worth 147 = .ok (.getfield 31, 3) := by decide +kernel
theorem dX2_worth_150 : decode cX2_worth 150 = .ok (.iload_n 3, 1) := by decide +kernel
theorem dX2_worth_151 : decode cX2_worth 151 = .ok (.iload 5, 2) := by decide +kernel
theorem dX2_worth_153 : decode cX2_worth 153 = .ok (.aload_n 0, 1) := by decide +kernel
theorem dX2_worth_154 : decode cX2_worth 154 = .ok (.getfield 31, 3) := by decide +kernel
theorem dX2_worth_157 : decode cX2_worth 157 = .ok (.iload_n 3, 1) := by decide +kernel
theorem dX2_worth_158 : decode cX2_worth 158 = .ok (.iaload, 1) := by decide +kernel
theorem dX2_worth_159 : decode cX2_worth 159 = .ok (.i2l, 1) := by decide +kernel
theorem dX2_worth_160 : decode cX2_worth 160 = .ok (.aload_n 0, 1) := by decide +kernel
theorem dX2_worth_161 : decode cX2_worth 161 = .ok (.getfield 31, 3) := by decide +kernel
theorem dX2_worth_164 : decode cX2_worth 164 = .ok (.iload_n 3, 1) := by decide +kernel
theorem dX2_worth_165 : decode cX2_worth 165 = .ok (.iconst 1, 1) := by decide +kernel
theorem dX2_worth_166 : decode cX2_worth 166 = .ok (.iadd, 1) := by decide +kernel
theorem dX2_worth_167 : decode cX2_worth 167 = .ok (.iaload, 1) := by decide +kernel
theorem dX2_worth_168 : decode cX2_worth 168 = .ok (.i2l, 1) := by decide +kernel
theorem dX2_worth_169 : decode cX2_worth 169 = .ok (.invokestatic 64, 3) := by decide +kernel
theorem dX2_worth_172 : decode cX2_worth 172 = .ok (.iastore, 1) := by decide +kernel
theorem dX2_worth_173 : decode cX2_worth 173 = .ok (.iinc 4 1, 3) := by decide +kernel
theorem dX2_worth_176 : decode cX2_worth 176 = .ok (.goto (-171), 3) := by decide +kernel
theorem dX2_worth_179 : decode cX2_worth 179 = .ok (.iconst 0, 1) := by decide +kernel
theorem dX2_worth_180 : decode cX2_worth 180 = .ok (.ireturn, 1) := by decide +kernel
theorem dX2_endOfClause_0 : decode cX2_endOfClause 0 = .ok (.iload_n 2, 1) := by decide +kernel
theorem dX2_endOfClause_1 : decode cX2_endOfClause 1 = .ok (.istore_n 3, 1) := by decide +kernel
theorem dX2_endOfClause_2 : decode cX2_endOfClause 2 = .ok (.iload_n 3, 1) := by decide +kernel
theorem dX2_endOfClause_3 : decode cX2_endOfClause 3 = .ok (.iload_n 1, 1) := by decide +kernel
theorem dX2_endOfClause_4 : decode cX2_endOfClause 4 = .ok (.if_icmp .ge 19, 3) := by decide +kernel
theorem dX2_endOfClause_7 : decode cX2_endOfClause 7 = .ok (.aload_n 0, 1) := by decide +kernel
theorem dX2_endOfClause_8 : decode cX2_endOfClause 8 = .ok (.iload_n 3, 1) := by decide +kernel
theorem dX2_endOfClause_9 : decode cX2_endOfClause 9 = .ok (.iaload, 1) := by decide +kernel
theorem dX2_endOfClause_10 : decode cX2_endOfClause 10 = .ok (.bipush (-13), 2) := by decide +kernel
theorem dX2_endOfClause_12 : decode cX2_endOfClause 12 = .ok (.if_icmp .ne 5, 3) := by decide +kernel
theorem dX2_endOfClause_15 : decode cX2_endOfClause 15 = .ok (.iload_n 3, 1) := by decide +kernel
theorem dX2_endOfClause_16 : decode cX2_endOfClause 16 = .ok (.ireturn, 1) := by decide +kernel
theorem dX2_endOfClause_17 : decode cX2_endOfClause 17 = .ok (.iinc 3 1, 3) := by decide +kernel
theorem dX2_endOfClause_20 : decode cX2_endOfClause 20 = .ok (.goto (-18), 3) := by decide +kernel
theorem dX2_endOfClause_23 : decode cX2_endOfClause 23 = .ok (.iload_n 1, 1) := by decide +kernel
theorem dX2_endOfClause_24 : decode cX2_endOfClause 24 = .ok (.ireturn, 1) := by decide +kernel
theorem dX2_combine_0 : decode cX2_combine 0 = .ok (.iload_n 0, 1) := by decide +kernel
theorem dX2_combine_1 : decode cX2_combine 1 = .ok (.tableswitch 143 (-9) (-2) #[125, 113, 101, 89, 71, 63, 55, 47], 47) := by decide +kernel
theorem dX2_combine_48 : decode cX2_combine 48 = .ok (.lload_n 1, 1) := by decide +kernel
theorem dX2_combine_49 : decode cX2_combine 49 = .ok (.lload_n 3, 1) := by decide +kernel
theorem dX2_combine_50 : decode cX2_combine 50 = .ok (.ladd, 1) := by decide +kernel
theorem dX2_combine_51 : decode cX2_combine 51 = .ok (.lstore 5, 2) := by decide +kernel
theorem dX2_combine_53 : decode cX2_combine 53 = .ok (.goto 109, 3) := by decide +kernel
theorem dX2_combine_56 : decode cX2_combine 56 = .ok (.lload_n 1, 1) := by decide +kernel
theorem dX2_combine_57 : decode cX2_combine 57 = .ok (.lload_n 3, 1) := by decide +kernel
theorem dX2_combine_58 : decode cX2_combine 58 = .ok (.lsub, 1) := by decide +kernel
theorem dX2_combine_59 : decode cX2_combine 59 = .ok (.lstore 5, 2) := by decide +kernel
theorem dX2_combine_61 : decode cX2_combine 61 = .ok (.goto 101, 3) := by decide +kernel
theorem dX2_combine_64 : decode cX2_combine 64 = .ok (.lload_n 1, 1) := by decide +kernel
theorem dX2_combine_65 : decode cX2_combine 65 = .ok (.lload_n 3, 1) := by decide +kernel
theorem dX2_combine_66 : decode cX2_combine 66 = .ok (.lmul, 1) := by decide +kernel
theorem dX2_combine_67 : decode cX2_combine 67 = .ok (.lstore 5, 2) := by decide +kernel
theorem dX2_combine_69 : decode cX2_combine 69 = .ok (.goto 93, 3) := by decide +kernel
theorem dX2_combine_72 : decode cX2_combine 72 = .ok (.lload_n 3, 1) := by decide +kernel
theorem dX2_combine_73 : decode cX2_combine 73 = .ok (.lconst 0, 1) := by decide +kernel
theorem dX2_combine_74 : decode cX2_combine 74 = .ok (.lcmp, 1) := by decide +kernel
theorem dX2_combine_75 : decode cX2_combine 75 = .ok (.ifCond .ne 7, 3) := by decide +kernel
theorem dX2_combine_78 : decode cX2_combine 78 = .ok (.lconst 0, 1) := by decide +kernel
theorem dX2_combine_79 : decode cX2_combine 79 = .ok (.goto 6, 3) := by decide +kernel
theorem dX2_combine_82 : decode cX2_combine 82 = .ok (.lload_n 1, 1) := by decide +kernel
theorem dX2_combine_83 : decode cX2_combine 83 = .ok (.lload_n 3, 1) := by decide +kernel
theorem dX2_combine_84 : decode cX2_combine 84 = .ok (.ldiv, 1) := by decide +kernel
theorem dX2_combine_85 : decode cX2_combine 85 = .ok (.lstore 5, 2) := by decide +kernel
theorem dX2_combine_87 : decode cX2_combine 87 = .ok (.goto 75, 3) := by decide +kernel
theorem dX2_combine_90 : decode cX2_combine 90 = .ok (.lload_n 1, 1) := by decide +kernel
theorem dX2_combine_91 : decode cX2_combine 91 = .ok (.lload_n 3, 1) := by decide +kernel
theorem dX2_combine_92 : decode cX2_combine 92 = .ok (.lcmp, 1) := by decide +kernel
theorem dX2_combine_93 : decode cX2_combine 93 = .ok (.ifCond .ne 7, 3) := by decide +kernel
theorem dX2_combine_96 : decode cX2_combine 96 = .ok (.iconst 1, 1) := by decide +kernel
theorem dX2_combine_97 : decode cX2_combine 97 = .ok (.goto 4, 3) := by decide +kernel
theorem dX2_combine_100 : decode cX2_combine 100 = .ok (.iconst 0, 1) := by decide +kernel
theorem dX2_combine_101 : decode cX2_combine 101 = .ok (.ireturn, 1) := by decide +kernel
theorem dX2_combine_102 : decode cX2_combine 102 = .ok (.lload_n 1, 1) := by decide +kernel
theorem dX2_combine_103 : decode cX2_combine 103 = .ok (.lload_n 3, 1) := by decide +kernel
theorem dX2_combine_104 : decode cX2_combine 104 = .ok (.lcmp, 1) := by decide +kernel
theorem dX2_combine_105 : decode cX2_combine 105 = .ok (.ifCond .ge 7, 3) := by decide +kernel
theorem dX2_combine_108 : decode cX2_combine 108 = .ok (.iconst 1, 1) := by decide +kernel
theorem dX2_combine_109 : decode cX2_combine 109 = .ok (.goto 4, 3) := by decide +kernel
theorem dX2_combine_112 : decode cX2_combine 112 = .ok (.iconst 0, 1) := by decide +kernel
theorem dX2_combine_113 : decode cX2_combine 113 = .ok (.ireturn, 1) := by decide +kernel
theorem dX2_combine_114 : decode cX2_combine 114 = .ok (.lload_n 1, 1) := by decide +kernel
theorem dX2_combine_115 : decode cX2_combine 115 = .ok (.lload_n 3, 1) := by decide +kernel
theorem dX2_combine_116 : decode cX2_combine 116 = .ok (.lcmp, 1) := by decide +kernel
theorem dX2_combine_117 : decode cX2_combine 117 = .ok (.ifCond .le 7, 3) := by decide +kernel
theorem dX2_combine_120 : decode cX2_combine 120 = .ok (.iconst 1, 1) := by decide +kernel
theorem dX2_combine_121 : decode cX2_combine 121 = .ok (.goto 4, 3) := by decide +kernel
theorem dX2_combine_124 : decode cX2_combine 124 = .ok (.iconst 0, 1) := by decide +kernel
theorem dX2_combine_125 : decode cX2_combine 125 = .ok (.ireturn, 1) := by decide +kernel
theorem dX2_combine_126 : decode cX2_combine 126 = .ok (.lload_n 1, 1) := by decide +kernel
theorem dX2_combine_127 : decode cX2_combine 127 = .ok (.lconst 0, 1) := by decide +kernel
theorem dX2_combine_128 : decode cX2_combine 128 = .ok (.lcmp, 1) := by decide +kernel
theorem dX2_combine_129 : decode cX2_combine 129 = .ok (.ifCond .eq 13, 3) := by decide +kernel
theorem dX2_combine_132 : decode cX2_combine 132 = .ok (.lload_n 3, 1) := by decide +kernel
theorem dX2_combine_133 : decode cX2_combine 133 = .ok (.lconst 0, 1) := by decide +kernel
theorem dX2_combine_134 : decode cX2_combine 134 = .ok (.lcmp, 1) := by decide +kernel
theorem dX2_combine_135 : decode cX2_combine 135 = .ok (.ifCond .eq 7, 3) := by decide +kernel
theorem dX2_combine_138 : decode cX2_combine 138 = .ok (.iconst 1, 1) := by decide +kernel
theorem dX2_combine_139 : decode cX2_combine 139 = .ok (.goto 4, 3) := by decide +kernel
theorem dX2_combine_142 : decode cX2_combine 142 = .ok (.iconst 0, 1) := by decide +kernel
theorem dX2_combine_143 : decode cX2_combine 143 = .ok (.ireturn, 1) := by decide +kernel
theorem dX2_combine_144 : decode cX2_combine 144 = .ok (.lload_n 1, 1) := by decide +kernel
theorem dX2_combine_145 : decode cX2_combine 145 = .ok (.lconst 0, 1) := by decide +kernel
theorem dX2_combine_146 : decode cX2_combine 146 = .ok (.lcmp, 1) := by decide +kernel
theorem dX2_combine_147 : decode cX2_combine 147 = .ok (.ifCond .ne 9, 3) := by decide +kernel
theorem dX2_combine_150 : decode cX2_combine 150 = .ok (.lload_n 3, 1) := by decide +kernel
theorem dX2_combine_151 : decode cX2_combine 151 = .ok (.lconst 0, 1) := by decide +kernel
theorem dX2_combine_152 : decode cX2_combine 152 = .ok (.lcmp, 1) := by decide +kernel
theorem dX2_combine_153 : decode cX2_combine 153 = .ok (.ifCond .eq 7, 3) := by decide +kernel
theorem dX2_combine_156 : decode cX2_combine 156 = .ok (.iconst 1, 1) := by decide +kernel
theorem dX2_combine_157 : decode cX2_combine 157 = .ok (.goto 4, 3) := by decide +kernel
theorem dX2_combine_160 : decode cX2_combine 160 = .ok (.iconst 0, 1) := by decide +kernel
theorem dX2_combine_161 : decode cX2_combine 161 = .ok (.ireturn, 1) := by decide +kernel
theorem dX2_combine_162 : decode cX2_combine 162 = .ok (.lload 5, 2) := by decide +kernel
theorem dX2_combine_164 : decode cX2_combine 164 = .ok (.ldc2_w 68, 3) := by decide +kernel
theorem dX2_combine_167 : decode cX2_combine 167 = .ok (.lcmp, 1) := by decide +kernel
theorem dX2_combine_168 : decode cX2_combine 168 = .ok (.ifCond .le 6, 3) := by decide +kernel
theorem dX2_combine_171 : decode cX2_combine 171 = .ok (.ldc 70, 2) := by decide +kernel
theorem dX2_combine_173 : decode cX2_combine 173 = .ok (.ireturn, 1) := by decide +kernel
theorem dX2_combine_174 : decode cX2_combine 174 = .ok (.lload 5, 2) := by decide +kernel
theorem dX2_combine_176 : decode cX2_combine 176 = .ok (.ldc2_w 71, 3) := by decide +kernel
theorem dX2_combine_179 : decode cX2_combine 179 = .ok (.lcmp, 1) := by decide +kernel
theorem dX2_combine_180 : decode cX2_combine 180 = .ok (.ifCond .ge 8, 3) := by decide +kernel
theorem dX2_combine_183 : decode cX2_combine 183 = .ok (.ldc 73, 2) := by decide +kernel
theorem dX2_combine_185 : decode cX2_combine 185 = .ok (.goto 6, 3) := by decide +kernel
theorem dX2_combine_188 : decode cX2_combine 188 = .ok (.lload 5, 2) := by decide +kernel
theorem dX2_combine_190 : decode cX2_combine 190 = .ok (.l2i, 1) := by decide +kernel
theorem dX2_combine_191 : decode cX2_combine 191 = .ok (.ireturn, 1) := by decide +kernel
theorem dX3_init_0 : decode cX3_init 0 = .ok (.aload_n 0, 1) := by decide +kernel
theorem dX3_init_1 : decode cX3_init 1 = .ok (.invokespecial 1, 3) := by decide +kernel
theorem dX3_init_4 : decode cX3_init 4 = .ok (.aload_n 0, 1) := by decide +kernel
theorem dX3_init_5 : decode cX3_init 5 = .ok (.sipush 384, 3) := by decide +kernel
theorem dX3_init_8 : decode cX3_init 8 = .ok (.newarray .int, 2) := by decide +kernel
theorem dX3_init_10 : decode cX3_init 10 = .ok (.putfield 9, 3) := by decide +kernel
theorem dX3_init_13 : decode cX3_init 13 = .ok (.return_, 1) := by decide +kernel
theorem dX3_lengthOn_0 : decode cX3_lengthOn 0 = .ok (.bipush 60, 2) := by decide +kernel
theorem dX3_lengthOn_2 : decode cX3_lengthOn 2 = .ok (.iload_n 0, 1) := by decide +kernel
theorem dX3_lengthOn_3 : decode cX3_lengthOn 3 = .ok (.invokestatic 13, 3) := by decide +kernel
theorem dX3_lengthOn_6 : decode cX3_lengthOn 6 = .ok (.ireturn, 1) := by decide +kernel
theorem dX3_write_0 : decode cX3_write 0 = .ok (.iload_n 1, 1) := by decide +kernel
theorem dX3_write_1 : decode cX3_write 1 = .ok (.bipush 127, 2) := by decide +kernel
theorem dX3_write_3 : decode cX3_write 3 = .ok (.iand, 1) := by decide +kernel
theorem dX3_write_4 : decode cX3_write 4 = .ok (.iconst 3, 1) := by decide +kernel
theorem dX3_write_5 : decode cX3_write 5 = .ok (.imul, 1) := by decide +kernel
theorem dX3_write_6 : decode cX3_write 6 = .ok (.istore 5, 2) := by decide +kernel
theorem dX3_write_8 : decode cX3_write 8 = .ok (.aload_n 0, 1) := by decide +kernel
theorem dX3_write_9 : decode cX3_write 9 = .ok (.getfield 9, 3) := by decide +kernel
theorem dX3_write_12 : decode cX3_write 12 = .ok (.iload 5, 2) := by decide +kernel
theorem dX3_write_14 : decode cX3_write 14 = .ok (.iload_n 2, 1) := by decide +kernel
theorem dX3_write_15 : decode cX3_write 15 = .ok (.iastore, 1) := by decide +kernel
theorem dX3_write_16 : decode cX3_write 16 = .ok (.aload_n 0, 1) := by decide +kernel
theorem dX3_write_17 : decode cX3_write 17 = .ok (.getfield 9, 3) := by decide +kernel
theorem dX3_write_20 : decode cX3_write 20 = .ok (.iload 5, 2) := by decide +kernel
theorem dX3_write_22 : decode cX3_write 22 = .ok (.iconst 1, 1) := by decide +kernel
theorem dX3_write_23 : decode cX3_write 23 = .ok (.iadd, 1) := by decide +kernel
theorem dX3_write_24 : decode cX3_write 24 = .ok (.iload_n 3, 1) := by decide +kernel
theorem dX3_write_25 : decode cX3_write 25 = .ok (.iastore, 1) := by decide +kernel
theorem dX3_write_26 : decode cX3_write 26 = .ok (.aload_n 0, 1) := by decide +kernel
theorem dX3_write_27 : decode cX3_write 27 = .ok (.getfield 9, 3) := by decide +kernel
theorem dX3_write_30 : decode cX3_write 30 = .ok (.iload 5, 2) := by decide +kernel
theorem dX3_write_32 : decode cX3_write 32 = .ok (.iconst 2, 1) := by decide +kernel
theorem dX3_write_33 : decode cX3_write 33 = .ok (.iadd, 1) := by decide +kernel
theorem dX3_write_34 : decode cX3_write 34 = .ok (.iload 4, 2) := by decide +kernel
theorem dX3_write_36 : decode cX3_write 36 = .ok (.iastore, 1) := by decide +kernel
theorem dX3_write_37 : decode cX3_write 37 = .ok (.return_, 1) := by decide +kernel
theorem dX3_read_0 : decode cX3_read 0 = .ok (.aload_n 0, 1) := by decide +kernel
theorem dX3_read_1 : decode cX3_read 1 = .ok (.getfield 9, 3) := by decide +kernel
theorem dX3_read_4 : decode cX3_read 4 = .ok (.iload_n 1, 1) := by decide +kernel
theorem dX3_read_5 : decode cX3_read 5 = .ok (.bipush 127, 2) := by decide +kernel
theorem dX3_read_7 : decode cX3_read 7 = .ok (.iand, 1) := by decide +kernel
theorem dX3_read_8 : decode cX3_read 8 = .ok (.iconst 3, 1) := by decide +kernel
theorem dX3_read_9 : decode cX3_read 9 = .ok (.imul, 1) := by decide +kernel
theorem dX3_read_10 : decode cX3_read 10 = .ok (.iload_n 2, 1) := by decide +kernel
theorem dX3_read_11 : decode cX3_read 11 = .ok (.iadd, 1) := by decide +kernel
theorem dX3_read_12 : decode cX3_read 12 = .ok (.iaload, 1) := by decide +kernel
theorem dX3_read_13 : decode cX3_read 13 = .ok (.ireturn, 1) := by decide +kernel
theorem dX3_copyFrom_0 : decode cX3_copyFrom 0 = .ok (.aload_n 1, 1) := by decide +kernel
theorem dX3_copyFrom_1 : decode cX3_copyFrom 1 = .ok (.getfield 9, 3) := by decide +kernel
theorem dX3_copyFrom_4 : decode cX3_copyFrom 4 = .ok (.iconst 0, 1) := by decide +kernel
theorem dX3_copyFrom_5 : decode cX3_copyFrom 5 = .ok (.aload_n 0, 1) := by decide +kernel
theorem dX3_copyFrom_6 : decode cX3_copyFrom 6 = .ok (.getfield 9, 3) := by decide +kernel
theorem dX3_copyFrom_9 : decode cX3_copyFrom 9 = .ok (.iconst 0, 1) := by decide +kernel
theorem dX3_copyFrom_10 : decode cX3_copyFrom 10 = .ok (.sipush 384, 3) := by decide +kernel
theorem dX3_copyFrom_13 : decode cX3_copyFrom 13 = .ok (.invokestatic 19, 3) := by decide +kernel
theorem dX3_copyFrom_16 : decode cX3_copyFrom 16 = .ok (.return_, 1) := by decide +kernel
theorem dX4_init_0 : decode cX4_init 0 = .ok (.aload_n 0, 1) := by decide +kernel
theorem dX4_init_1 : decode cX4_init 1 = .ok (.invokespecial 3, 3) := by decide +kernel
theorem dX4_init_4 : decode cX4_init 4 = .ok (.aload_n 0, 1) := by decide +kernel
theorem dX4_init_5 : decode cX4_init 5 = .ok (.bipush 6, 2) := by decide +kernel
theorem dX4_init_7 : decode cX4_init 7 = .ok (.newarray .int, 2) := by decide +kernel
theorem dX4_init_9 : decode cX4_init 9 = .ok (.putfield 9, 3) := by decide +kernel
theorem dX4_init_12 : decode cX4_init 12 = .ok (.aload_n 0, 1) := by decide +kernel
theorem dX4_init_13 : decode cX4_init 13 = .ok (.bipush 36, 2) := by decide +kernel
theorem dX4_init_15 : decode cX4_init 15 = .ok (.newarray .int, 2) := by decide +kernel
theorem dX4_init_17 : decode cX4_init 17 = .ok (.putfield 15, 3) := by decide +kernel
theorem dX4_init_20 : decode cX4_init 20 = .ok (.aload_n 0, 1) := by decide +kernel
theorem dX4_init_21 : decode cX4_init 21 = .ok (.aload_n 1, 1) := by decide +kernel
theorem dX4_init_22 : decode cX4_init 22 = .ok (.putfield 18, 3) := by decide +kernel
theorem dX4_init_25 : decode cX4_init 25 = .ok (.return_, 1) := by decide +kernel
theorem ggX4_solve_X9_hasMet : GoodIn wsX4_solve wsX9_hasMet := (bg_up (bg_law (bi_wsL_law0_r24 _ (List.mem_of_getElem? (i := 22) rfl))))
theorem gX4_solve_X9_hasMet : GoodIn wsX4_solve (wsV RX4 34 RX9 yX9_hasMet wsX9_hasMet) := goodIn_app (bg_up (bg_cons (bi_wsL_law0_r44 _ (List.mem_of_getElem? (i := 21) rfl)) (bg_cons (bi_wsL_law0_r24 _ (List.mem_of_getElem? (i := 20) rfl)) (bg_cons (bi_wsL_law0_r24 _ (List.mem_of_getElem? (i := 21) rfl)) (bg_cons (bi_wsL_law0_r2 _ (List.mem_of_getElem? (i := 12) rfl)) bg_nil))))) (bg_up (bg_law (bi_wsL_law0_r24 _ (List.mem_of_getElem? (i := 22) rfl))))
theorem ggX4_solve_X5_unlike : GoodIn wsX4_solve wsX5_unlike := (bg_up (bg_law (bi_wsL_law0_r26 _ (List.mem_of_getElem? (i := 21) rfl))))
theorem gX4_solve_X5_unlike : GoodIn wsX4_solve (wsV RX4 40 RX5 yX5_unlike wsX5_unlike) := goodIn_app (bg_up (bg_cons (bi_wsL_law0_r44 _ (List.mem_of_getElem? (i := 22) rfl)) (bg_cons (bi_wsL_law0_r26 _ (List.mem_of_getElem? (i := 19) rfl)) (bg_cons (bi_wsL_law0_r26 _ (List.mem_of_getElem? (i := 20) rfl)) (bg_cons (bi_wsL_law0_r2 _ (List.mem_of_getElem? (i := 4) rfl)) bg_nil))))) (bg_up (bg_law (bi_wsL_law0_r26 _ (List.mem_of_getElem? (i := 21) rfl))))
theorem ggX4_solve_X9_riseOf : GoodIn wsX4_solve wsX9_riseOf := (bg_up (bg_law (bi_wsL_law0_r42 _ (List.mem_of_getElem? (i := 23) rfl))))
theorem gX4_solve_X9_riseOf : GoodIn wsX4_solve (wsV RX4 44 RX9 yX9_riseOf wsX9_riseOf) := goodIn_app (bg_up (bg_cons (bi_wsL_law0_r44 _ (List.mem_of_getElem? (i := 23) rfl)) (bg_cons (bi_wsL_law0_r42 _ (List.mem_of_getElem? (i := 21) rfl)) (bg_cons (bi_wsL_law0_r42 _ (List.mem_of_getElem? (i := 22) rfl)) (bg_cons (bi_wsL_law0_r2 _ (List.mem_of_getElem? (i := 12) rfl)) bg_nil))))) (bg_up (bg_law (bi_wsL_law0_r42 _ (List.mem_of_getElem? (i := 23) rfl))))
theorem ggX4_solve_X9_metBits : GoodIn wsX4_solve wsX9_metBits := (bg_up (bg_law (bi_wsL_law0_r37 _ (List.mem_of_getElem? (i := 8) rfl))))
theorem gX4_solve_X9_metBits : GoodIn wsX4_solve (wsV RX4 52 RX9 yX9_metBits wsX9_metBits) := goodIn_app (bg_up (bg_cons (bi_wsL_law0_r45 _ (List.mem_of_getElem? (i := 0) rfl)) (bg_cons (bi_wsL_law0_r37 _ (List.mem_of_getElem? (i := 6) rfl)) (bg_cons (bi_wsL_law0_r37 _ (List.mem_of_getElem? (i := 7) rfl)) (bg_cons (bi_wsL_law0_r2 _ (List.mem_of_getElem? (i := 12) rfl)) bg_nil))))) (bg_up (bg_law (bi_wsL_law0_r37 _ (List.mem_of_getElem? (i := 8) rfl))))
theorem ggX4_solve_X4_search : GoodIn wsX4_solve wsX4_search := (bg_up (bg_law (bi_wsL_law0_r45 _ (List.mem_of_getElem? (i := 4) rfl))))
theorem gX4_solve_X4_search : GoodIn wsX4_solve (wsV RX4 56 RX4 yX4_search wsX4_search) := goodIn_app (bg_up (bg_cons (bi_wsL_law0_r45 _ (List.mem_of_getElem? (i := 1) rfl)) (bg_cons (bi_wsL_law0_r45 _ (List.mem_of_getElem? (i := 2) rfl)) (bg_cons (bi_wsL_law0_r45 _ (List.mem_of_getElem? (i := 3) rfl)) (bg_cons (bi_wsL_law0_r3 _ (List.mem_of_getElem? (i := 7) rfl)) bg_nil))))) (bg_up (bg_law (bi_wsL_law0_r45 _ (List.mem_of_getElem? (i := 4) rfl))))
theorem dX4_solve_0 : decode cX4_solve 0 = .ok (.aload_n 0, 1) := by decide +kernel
theorem dX4_solve_1 : decode cX4_solve 1 = .ok (.iconst 0, 1) := by decide +kernel
theorem dX4_solve_2 : decode cX4_solve 2 = .ok (.putfield 22, 3) := by decide +kernel
theorem dX4_solve_5 : decode cX4_solve 5 = .ok (.iconst 0, 1) := by decide +kernel
theorem dX4_solve_6 : decode cX4_solve 6 = .ok (.istore_n 2, 1) := by decide +kernel
theorem dX4_solve_7 : decode cX4_solve 7 = .ok (.iload_n 2, 1) := by decide +kernel
theorem dX4_solve_8 : decode cX4_solve 8 = .ok (.aload_n 0, 1) := by decide +kernel
theorem dX4_solve_9 : decode cX4_solve 9 = .ok (.getfield 18, 3) := by decide +kernel
theorem dX4_solve_12 : decode cX4_solve 12 = .ok (.getfield 26, 3) := by decide +kernel
theorem dX4_solve_15 : decode cX4_solve 15 = .ok (.if_icmp .ge 101, 3) := by decide +kernel
theorem dX4_solve_18 : decode cX4_solve 18 = .ok (.aload_n 0, 1) := by decide +kernel
theorem dX4_solve_19 : decode cX4_solve 19 = .ok (.getfield 18, 3) := by decide +kernel
theorem dX4_solve_22 : decode cX4_solve 22 = .ok (.getfield 31, 3) := by decide +kernel
theorem dX4_solve_25 : decode cX4_solve 25 = .ok (.iload_n 2, 1) := by decide +kernel
theorem dX4_solve_26 : decode cX4_solve 26 = .ok (.iaload, 1) := by decide +kernel
theorem dX4_solve_27 : decode cX4_solve 27 = .ok (.ifCond .ne 83, 3) := by decide +kernel
theorem dX4_solve_30 : decode cX4_solve 30 = .ok (.aload_n 1, 1) := by decide +kernel
theorem dX4_solve_31 : decode cX4_solve 31 = .ok (.iload_n 2, 1) := by decide +kernel
theorem dX4_solve_32 : decode cX4_solve 32 = .ok (.invokevirtual 34, 3) := by decide +kernel
theorem dX4_solve_35 : decode cX4_solve 35 = .ok (.ifCond .ne 75, 3) := by decide +kernel
theorem dX4_solve_38 : decode cX4_solve 38 = .ok (.aload_n 0, 1) := by decide +kernel
theorem dX4_solve_39 : decode cX4_solve 39 = .ok (.getfield 9, 3) := by decide +kernel
theorem dX4_solve_42 : decode cX4_solve 42 = .ok (.aload_n 0, 1) := by decide +kernel
theorem dX4_solve_43 : decode cX4_solve 43 = .ok (.getfield 22, 3) := by decide +kernel
theorem dX4_solve_46 : decode cX4_solve 46 = .ok (.iload_n 2, 1) := by decide +kernel
theorem dX4_solve_47 : decode cX4_solve 47 = .ok (.iastore, 1) := by decide +kernel
theorem dX4_solve_48 : decode cX4_solve 48 = .ok (.aload_n 0, 1) := by decide +kernel
theorem dX4_solve_49 : decode cX4_solve 49 = .ok (.dup, 1) := by decide +kernel
theorem dX4_solve_50 : decode cX4_solve 50 = .ok (.getfield 22, 3) := by decide +kernel
theorem dX4_solve_53 : decode cX4_solve 53 = .ok (.iconst 1, 1) := by decide +kernel
theorem dX4_solve_54 : decode cX4_solve 54 = .ok (.iadd, 1) := by decide +kernel
theorem dX4_solve_55 : decode cX4_solve 55 = .ok (.putfield 22, 3) := by decide +kernel
theorem dX4_solve_58 : decode cX4_solve 58 = .ok (.iconst 0, 1) := by decide +kernel
theorem dX4_solve_59 : decode cX4_solve 59 = .ok (.istore_n 3, 1) := by decide +kernel
theorem dX4_solve_60 : decode cX4_solve 60 = .ok (.iload_n 3, 1) := by decide +kernel
theorem dX4_solve_61 : decode cX4_solve 61 = .ok (.aload_n 0, 1) := by decide +kernel
theorem dX4_solve_62 : decode cX4_solve 62 = .ok (.getfield 18, 3) := by decide +kernel
theorem dX4_solve_65 : decode cX4_solve 65 = .ok (.getfield 26, 3) := by decide +kernel
theorem dX4_solve_68 : decode cX4_solve 68 = .ok (.if_icmp .ge 42, 3) := by decide +kernel
theorem dX4_solve_71 : decode cX4_solve 71 = .ok (.aload_n 0, 1) := by decide +kernel
theorem dX4_solve_72 : decode cX4_solve 72 = .ok (.getfield 15, 3) := by decide +kernel
theorem dX4_solve_75 : decode cX4_solve 75 = .ok (.iload_n 2, 1) := by decide +kernel
theorem dX4_solve_76 : decode cX4_solve 76 = .ok (.bipush 6, 2) := by decide +kernel
theorem dX4_solve_78 : decode cX4_solve 78 = .ok (.imul, 1) := by decide +kernel
theorem dX4_solve_79 : decode cX4_solve 79 = .ok (.iload_n 3, 1) := by decide +kernel
theorem dX4_solve_80 : decode cX4_solve 80 = .ok (.iadd, 1) := by decide +kernel
theorem dX4_solve_81 : decode cX4_solve 81 = .ok (.aload_n 0, 1) := by decide +kernel
theorem dX4_solve_82 : decode cX4_solve 82 = .ok (.getfield 18, 3) := by decide +kernel
theorem dX4_solve_85 : decode cX4_solve 85 = .ok (.iload_n 2, 1) := by decide +kernel
theorem dX4_solve_86 : decode cX4_solve 86 = .ok (.iload_n 3, 1) := by decide +kernel
theorem dX4_solve_87 : decode cX4_solve 87 = .ok (.invokevirtual 40, 3) := by decide +kernel
theorem dX4_solve_90 : decode cX4_solve 90 = .ok (.ifCond .eq 12, 3) := by decide +kernel
theorem dX4_solve_93 : decode cX4_solve 93 = .ok (.aload_n 1, 1) := by decide +kernel
theorem dX4_solve_94 : decode cX4_solve 94 = .ok (.iload_n 2, 1) := by decide +kernel
theorem dX4_solve_95 : decode cX4_solve 95 = .ok (.iload_n 3, 1) := by decide +kernel
theorem dX4_solve_96 : decode cX4_solve 96 = .ok (.invokevirtual 44, 3) := by decide +kernel
theorem dX4_solve_99 : decode cX4_solve 99 = .ok (.goto 4, 3) := by decide +kernel
theorem dX4_solve_102 : decode cX4_solve 102 = .ok (.iconst 0, 1) := by decide +kernel
theorem dX4_solve_103 : decode cX4_solve 103 = .ok (.iastore, 1) := by decide +kernel
theorem dX4_solve_104 : decode cX4_solve 104 = .ok (.iinc 3 1, 3) := by decide +kernel
theorem dX4_solve_107 : decode cX4_solve 107 = .ok (.goto (-47), 3) := by decide +kernel
theorem dX4_solve_110 : decode cX4_solve 110 = .ok (.iinc 2 1, 3) := by decide +kernel
theorem dX4_solve_113 : decode cX4_solve 113 = .ok (.goto (-106), 3) := by decide +kernel
theorem dX4_solve_116 : decode cX4_solve 116 = .ok (.aload_n 0, 1) := by decide +kernel
theorem dX4_solve_117 : decode cX4_solve 117 = .ok (.iconst 0, 1) := by decide +kernel
theorem dX4_solve_118 : decode cX4_solve 118 = .ok (.putfield 48, 3) := by decide +kernel
theorem dX4_solve_121 : decode cX4_solve 121 = .ok (.aload_n 0, 1) := by decide +kernel
theorem dX4_solve_122 : decode cX4_solve 122 = .ok (.iconst 0, 1) := by decide +kernel
theorem dX4_solve_123 : decode cX4_solve 123 = .ok (.aload_n 1, 1) := by decide +kernel
theorem dX4_solve_124 : decode cX4_solve 124 = .ok (.invokevirtual 52, 3) := by decide +kernel
theorem dX4_solve_127 : decode cX4_solve 127 = .ok (.iconst 0, 1) := by decide +kernel
theorem dX4_solve_128 : decode cX4_solve 128 = .ok (.iconst 0, 1) := by decide +kernel
theorem dX4_solve_129 : decode cX4_solve 129 = .ok (.invokevirtual 56, 3) := by decide +kernel
theorem dX4_solve_132 : decode cX4_solve 132 = .ok (.return_, 1) := by decide +kernel
theorem ggX4_search_X4_search : GoodIn wsX4_search wsX4_search := (bg_up (bg_law (bi_wsL_law0_r45 _ (List.mem_of_getElem? (i := 4) rfl))))
theorem gX4_search_X4_search : GoodIn wsX4_search (wsV RX4 56 RX4 yX4_search wsX4_search) := goodIn_app (bg_up (bg_cons (bi_wsL_law0_r45 _ (List.mem_of_getElem? (i := 1) rfl)) (bg_cons (bi_wsL_law0_r45 _ (List.mem_of_getElem? (i := 2) rfl)) (bg_cons (bi_wsL_law0_r45 _ (List.mem_of_getElem? (i := 3) rfl)) (bg_cons (bi_wsL_law0_r3 _ (List.mem_of_getElem? (i := 7) rfl)) bg_nil))))) (bg_up (bg_law (bi_wsL_law0_r45 _ (List.mem_of_getElem? (i := 4) rfl))))
theorem dX4_search_0 : decode cX4_search 0 = .ok (.iload_n 1, 1) := by decide +kernel
theorem dX4_search_1 : decode cX4_search 1 = .ok (.aload_n 0, 1) := by decide +kernel
theorem dX4_search_2 : decode cX4_search 2 = .ok (.getfield 22, 3) := by decide +kernel
theorem dX4_search_5 : decode cX4_search 5 = .ok (.if_icmp .ge 9, 3) := by decide +kernel
theorem dX4_search_8 : decode cX4_search 8 = .ok (.iload_n 1, 1) := by decide +kernel
theorem dX4_search_9 : decode cX4_search 9 = .ok (.bipush 6, 2) := by decide +kernel
theorem dX4_search_11 : decode cX4_search 11 = .ok (.if_icmp .lt 36, 3) := by decide +kernel
theorem dX4_search_14 : decode cX4_search 14 = .ok (.aload_n 0, 1) := by decide +kernel
theorem dX4_search_15 : decode cX4_search 15 = .ok (.getfield 48, 3) := by decide +kernel
theorem dX4_search_18 : decode cX4_search 18 = .ok (.ifCond .eq 12, 3) := by decide +kernel
theorem dX4_search_21 : decode cX4_search 21 = .ok (.iload 4, 2) := by decide +kernel
theorem dX4_search_23 : decode cX4_search 23 = .ok (.aload_n 0, 1) := by decide +kernel
theorem dX4_search_24 : decode cX4_search 24 = .ok (.getfield 60, 3) := by decide +kernel
theorem dX4_search_27 : decode cX4_search 27 = .ok (.if_icmp .le 19, 3) := by decide +kernel
theorem dX4_search_30 : decode cX4_search 30 = .ok (.aload_n 0, 1) := by decide +kernel
theorem dX4_search_31 : decode cX4_search 31 = .ok (.iconst 1, 1) := by decide +kernel
theorem dX4_search_32 : decode cX4_search 32 = .ok (.putfield 48, 3) := by decide +kernel
theorem dX4_search_35 : decode cX4_search 35 = .ok (.aload_n 0, 1) := by decide +kernel
theorem dX4_search_36 : decode cX4_search 36 = .ok (.iload 4, 2) := by decide +kernel
theorem dX4_search_38 : decode cX4_search 38 = .ok (.putfield 60, 3) := by decide +kernel
theorem dX4_search_41 : decode cX4_search 41 = .ok (.aload_n 0, 1) := by decide +kernel
theorem dX4_search_42 : decode cX4_search 42 = .ok (.iload_n 3, 1) := by decide +kernel
theorem dX4_search_43 : decode cX4_search 43 = .ok (.putfield 63, 3) := by decide +kernel
theorem dX4_search_46 : decode cX4_search 46 = .ok (.return_, 1) := by decide +kernel
theorem dX4_search_47 : decode cX4_search 47 = .ok (.iconst 0, 1) := by decide +kernel
theorem dX4_search_48 : decode cX4_search 48 = .ok (.istore 5, 2) := by decide +kernel
theorem dX4_search_50 : decode cX4_search 50 = .ok (.iload 5, 2) := by decide +kernel
theorem dX4_search_52 : decode cX4_search 52 = .ok (.aload_n 0, 1) := by decide +kernel
theorem dX4_search_53 : decode cX4_search 53 = .ok (.getfield 18, 3) := by decide +kernel
theorem dX4_search_56 : decode cX4_search 56 = .ok (.getfield 26, 3) := by decide +kernel
theorem dX4_search_59 : decode cX4_search 59 = .ok (.if_icmp .ge 72, 3) := by decide +kernel
theorem dX4_search_62 : decode cX4_search 62 = .ok (.aload_n 0, 1) := by decide +kernel
theorem dX4_search_63 : decode cX4_search 63 = .ok (.getfield 18, 3) := by decide +kernel
theorem dX4_search_66 : decode cX4_search 66 = .ok (.getfield 31, 3) := by decide +kernel
theorem dX4_search_69 : decode cX4_search 69 = .ok (.iload 5, 2) := by decide +kernel
theorem dX4_search_71 : decode cX4_search 71 = .ok (.iaload, 1) := by decide +kernel
theorem dX4_search_72 : decode cX4_search 72 = .ok (.iconst 1, 1) := by decide +kernel
theorem dX4_search_73 : decode cX4_search 73 = .ok (.if_icmp .ne 52, 3) := by decide +kernel
theorem dX4_search_76 : decode cX4_search 76 = .ok (.iload_n 2, 1) := by decide +kernel
theorem dX4_search_77 : decode cX4_search 77 = .ok (.iload 5, 2) := by decide +kernel
theorem dX4_search_79 : decode cX4_search 79 = .ok (.ishr, 1) := by decide +kernel
theorem dX4_search_80 : decode cX4_search 80 = .ok (.iconst 1, 1) := by decide +kernel
theorem dX4_search_81 : decode cX4_search 81 = .ok (.iand, 1) := by decide +kernel
theorem dX4_search_82 : decode cX4_search 82 = .ok (.ifCond .ne 43, 3) := by decide +kernel
theorem dX4_search_85 : decode cX4_search 85 = .ok (.aload_n 0, 1) := by decide +kernel
theorem dX4_search_86 : decode cX4_search 86 = .ok (.iload_n 1, 1) := by decide +kernel
theorem dX4_search_87 : decode cX4_search 87 = .ok (.iconst 1, 1) := by decide +kernel
theorem dX4_search_88 : decode cX4_search 88 = .ok (.iadd, 1) := by decide +kernel
theorem dX4_search_89 : decode cX4_search 89 = .ok (.iload_n 2, 1) := by decide +kernel
theorem dX4_search_90 : decode cX4_search 90 = .ok (.iconst 1, 1) := by decide +kernel
theorem dX4_search_91 : decode cX4_search 91 = .ok (.iload 5, 2) := by decide +kernel
theorem dX4_search_93 : decode cX4_search 93 = .ok (.ishl, 1) := by decide +kernel
theorem dX4_search_94 : decode cX4_search 94 = .ok (.ior, 1) := by decide +kernel
theorem dX4_search_95 : decode cX4_search 95 = .ok (.iload_n 3, 1) := by decide +kernel
theorem dX4_search_96 : decode cX4_search 96 = .ok (.bipush 10, 2) := by decide +kernel
theorem dX4_search_98 : decode cX4_search 98 = .ok (.imul, 1) := by decide +kernel
theorem dX4_search_99 : decode cX4_search 99 = .ok (.iload 5, 2) := by decide +kernel
theorem dX4_search_101 : decode cX4_search 101 = .ok (.iadd, 1) := by decide +kernel
theorem dX4_search_102 : decode cX4_search 102 = .ok (.iload 4, 2) := by decide +kernel
theorem dX4_search_104 : decode cX4_search 104 = .ok (.aload_n 0, 1) := by decide +kernel
theorem dX4_search_105 : decode cX4_search 105 = .ok (.getfield 15, 3) := by decide +kernel
theorem dX4_search_108 : decode cX4_search 108 = .ok (.aload_n 0, 1) := by decide +kernel
theorem dX4_search_109 : decode cX4_search 109 = .ok (.getfield 9, 3) := by decide +kernel
theorem dX4_search_112 : decode cX4_search 112 = .ok (.iload_n 1, 1) := by decide +kernel
