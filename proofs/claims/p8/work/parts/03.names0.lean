def RX0 : String := "GloveHouses$Acts"
def TX0 : u_T := fun k => match k with
  | 0 => ("GloveHouses$Acts", "size", "I", false)
  | 1 => ("GloveHouses$Acts", "next", "I", false)
  | _ => ("GloveHouses$Acts", "rows", "[I", true)
def tyX0 : Nat → FieldType := fun k => match k with
  | 0 => .int
  | 1 => .int
  | _ => .array .int
abbrev wsX00 : List Cond := u_ws RX0 TX0 3
theorem nmX0 : ∀ a, a < 3 → ∀ b, b < 3 → a ≠ b → (TX0 a).2.1 ≠ (TX0 b).2.1 := by decide +kernel
theorem tyX0_ok : ∀ k, k < 3 → parseFieldDescriptor (TX0 k).2.2.1 = some (tyX0 k) := by decide +kernel
abbrev cX0_init : ByteArray := prog_2_method_1_code
def yX0_init : MethodName := ⟨RX0, "<init>", "()V"⟩
abbrev cX0_keep : ByteArray := prog_2_method_2_code
def yX0_keep : MethodName := ⟨RX0, "keep", "(LGloveHouses$State;)V"⟩
abbrev cX0_takeBack : ByteArray := prog_2_method_3_code
def yX0_takeBack : MethodName := ⟨RX0, "takeBack", "(LGloveHouses$State;)V"⟩
abbrev cX0_forget : ByteArray := prog_2_method_4_code
def yX0_forget : MethodName := ⟨RX0, "forget", "()V"⟩
def RX1 : String := "GloveHouses$LawReader"
def TX1 : u_T := fun k => match k with
  | 0 => ("GloveHouses$LawReader", "code", "[I", true)
  | 1 => ("GloveHouses$LawReader", "size", "I", false)
  | _ => ("GloveHouses$LawReader", "tape", "LGloveHouses$Tape;", true)
def tyX1 : Nat → FieldType := fun k => match k with
  | 0 => .array .int
  | 1 => .int
  | _ => .object "GloveHouses$Tape"
abbrev wsX10 : List Cond := u_ws RX1 TX1 3
theorem nmX1 : ∀ a, a < 3 → ∀ b, b < 3 → a ≠ b → (TX1 a).2.1 ≠ (TX1 b).2.1 := by decide +kernel
theorem tyX1_ok : ∀ k, k < 3 → parseFieldDescriptor (TX1 k).2.2.1 = some (tyX1 k) := by decide +kernel
abbrev cX1_init : ByteArray := prog_3_method_1_code
def yX1_init : MethodName := ⟨RX1, "<init>", "(LGloveHouses$Tape;)V"⟩
abbrev cX1_readsAll : ByteArray := prog_3_method_2_code
def yX1_readsAll : MethodName := ⟨RX1, "readsAll", "()Z"⟩
abbrev cX1_readsClause : ByteArray := prog_3_method_3_code
def yX1_readsClause : MethodName := ⟨RX1, "readsClause", "()Z"⟩
abbrev cX1_readsCondition : ByteArray := prog_3_method_4_code
def yX1_readsCondition : MethodName := ⟨RX1, "readsCondition", "(I)Z"⟩
abbrev cX1_readsMoreTruths : ByteArray := prog_3_method_5_code
def yX1_readsMoreTruths : MethodName := ⟨RX1, "readsMoreTruths", "(I)Z"⟩
abbrev cX1_readsMoreUnits : ByteArray := prog_3_method_6_code
def yX1_readsMoreUnits : MethodName := ⟨RX1, "readsMoreUnits", "(I)Z"⟩
abbrev cX1_readsUnit : ByteArray := prog_3_method_7_code
def yX1_readsUnit : MethodName := ⟨RX1, "readsUnit", "(I)Z"⟩
abbrev cX1_comparison : ByteArray := prog_3_method_8_code
def yX1_comparison : MethodName := ⟨RX1, "comparison", "(I)I"⟩
abbrev cX1_readsComparison : ByteArray := prog_3_method_9_code
def yX1_readsComparison : MethodName := ⟨RX1, "readsComparison", "(I)Z"⟩
abbrev cX1_readsSum : ByteArray := prog_3_method_10_code
def yX1_readsSum : MethodName := ⟨RX1, "readsSum", "(I)Z"⟩
abbrev cX1_readsTerm : ByteArray := prog_3_method_11_code
def yX1_readsTerm : MethodName := ⟨RX1, "readsTerm", "(I)Z"⟩
abbrev cX1_readsAtom : ByteArray := prog_3_method_12_code
def yX1_readsAtom : MethodName := ⟨RX1, "readsAtom", "(I)Z"⟩
abbrev cX1_put : ByteArray := prog_3_method_13_code
def yX1_put : MethodName := ⟨RX1, "put", "(I)Z"⟩
def RX2 : String := "GloveHouses$Laws"
def TX2 : u_T := fun k => match k with
  | 0 => ("GloveHouses$Laws", "size", "I", false)
  | 1 => ("GloveHouses$Laws", "holds", "I", false)
  | 2 => ("GloveHouses$Laws", "codes", "[[I", true)
  | 3 => ("GloveHouses$Laws", "lengths", "[I", true)
  | 4 => ("GloveHouses$Laws", "letters", "[I", true)
  | _ => ("GloveHouses$Laws", "stack", "[I", true)
def tyX2 : Nat → FieldType := fun k => match k with
  | 0 => .int
  | 1 => .int
  | 2 => .array (.array .int)
  | 3 => .array .int
  | 4 => .array .int
  | _ => .array .int
abbrev wsX20 : List Cond := u_ws RX2 TX2 6
theorem nmX2 : ∀ a, a < 6 → ∀ b, b < 6 → a ≠ b → (TX2 a).2.1 ≠ (TX2 b).2.1 := by decide +kernel
theorem tyX2_ok : ∀ k, k < 6 → parseFieldDescriptor (TX2 k).2.2.1 = some (tyX2 k) := by decide +kernel
abbrev cX2_init : ByteArray := prog_4_method_1_code
def yX2_init : MethodName := ⟨RX2, "<init>", "()V"⟩
abbrev cX2_letter : ByteArray := prog_4_method_2_code
def yX2_letter : MethodName := ⟨RX2, "letter", "(I)I"⟩
abbrev cX2_isFull : ByteArray := prog_4_method_3_code
def yX2_isFull : MethodName := ⟨RX2, "isFull", "()Z"⟩
abbrev cX2_add : ByteArray := prog_4_method_4_code
def yX2_add : MethodName := ⟨RX2, "add", "([II)V"⟩
abbrev cX2_riseBy : ByteArray := prog_4_method_5_code
def yX2_riseBy : MethodName := ⟨RX2, "riseBy", "(IIIIII)I"⟩
abbrev cX2_worth : ByteArray := prog_4_method_6_code
def yX2_worth : MethodName := ⟨RX2, "worth", "([II)I"⟩
abbrev cX2_endOfClause : ByteArray := prog_4_method_7_code
def yX2_endOfClause : MethodName := ⟨RX2, "endOfClause", "([III)I"⟩
abbrev cX2_combine : ByteArray := prog_4_method_8_code
def yX2_combine : MethodName := ⟨RX2, "combine", "(IJJ)I"⟩
def RX3 : String := "GloveHouses$LogBook"
def TX3 : u_T := fun k => match k with
  | _ => ("GloveHouses$LogBook", "rows", "[I", true)
def tyX3 : Nat → FieldType := fun k => match k with
  | _ => .array .int
abbrev wsX30 : List Cond := u_ws RX3 TX3 1
theorem nmX3 : ∀ a, a < 1 → ∀ b, b < 1 → a ≠ b → (TX3 a).2.1 ≠ (TX3 b).2.1 := by decide +kernel
theorem tyX3_ok : ∀ k, k < 1 → parseFieldDescriptor (TX3 k).2.2.1 = some (tyX3 k) := by decide +kernel
abbrev cX3_init : ByteArray := prog_5_method_1_code
def yX3_init : MethodName := ⟨RX3, "<init>", "()V"⟩
abbrev cX3_lengthOn : ByteArray := prog_5_method_2_code
def yX3_lengthOn : MethodName := ⟨RX3, "lengthOn", "(I)I"⟩
abbrev cX3_write : ByteArray := prog_5_method_3_code
def yX3_write : MethodName := ⟨RX3, "write", "(IIII)V"⟩
abbrev cX3_read : ByteArray := prog_5_method_4_code
def yX3_read : MethodName := ⟨RX3, "read", "(II)I"⟩
abbrev cX3_copyFrom : ByteArray := prog_5_method_5_code
def yX3_copyFrom : MethodName := ⟨RX3, "copyFrom", "(LGloveHouses$LogBook;)V"⟩
def RX4 : String := "GloveHouses$Match"
def TX4 : u_T := fun k => match k with
  | 0 => ("GloveHouses$Match", "size", "I", false)
  | 1 => ("GloveHouses$Match", "bestSum", "I", false)
  | 2 => ("GloveHouses$Match", "bestRow", "I", false)
  | 3 => ("GloveHouses$Match", "unmet", "[I", true)
  | 4 => ("GloveHouses$Match", "rise", "[I", true)
  | 5 => ("GloveHouses$Match", "told", "LGloveHouses$Peace;", true)
  | _ => ("GloveHouses$Match", "found", "Z", false)
def tyX4 : Nat → FieldType := fun k => match k with
  | 0 => .int
  | 1 => .int
  | 2 => .int
  | 3 => .array .int
  | 4 => .array .int
  | 5 => .object "GloveHouses$Peace"
  | _ => .boolean
abbrev wsX40 : List Cond := u_ws RX4 TX4 7
theorem nmX4 : ∀ a, a < 7 → ∀ b, b < 7 → a ≠ b → (TX4 a).2.1 ≠ (TX4 b).2.1 := by decide +kernel
theorem tyX4_ok : ∀ k, k < 7 → parseFieldDescriptor (TX4 k).2.2.1 = some (tyX4 k) := by decide +kernel
abbrev cX4_init : ByteArray := prog_6_method_1_code
def yX4_init : MethodName := ⟨RX4, "<init>", "(LGloveHouses$Peace;)V"⟩
abbrev cX4_solve : ByteArray := prog_6_method_2_code
def yX4_solve : MethodName := ⟨RX4, "solve", "(LGloveHouses$State;)V"⟩
abbrev cX4_search : ByteArray := prog_6_method_3_code
def yX4_search : MethodName := ⟨RX4, "search", "(IIII)V"⟩
abbrev cX4_perform : ByteArray := prog_6_method_4_code
def yX4_perform : MethodName := ⟨RX4, "perform", "(LGloveHouses$State;)V"⟩
def RX5 : String := "GloveHouses$Peace"
def TX5 : u_T := fun k => match k with
  | 0 => ("GloveHouses$Peace", "gloves", "I", false)
  | 1 => ("GloveHouses$Peace", "matters", "I", false)
  | 2 => ("GloveHouses$Peace", "pride", "I", false)
  | 3 => ("GloveHouses$Peace", "coins", "I", false)
  | 4 => ("GloveHouses$Peace", "house", "[I", true)
  | 5 => ("GloveHouses$Peace", "free", "[I", true)
  | 6 => ("GloveHouses$Peace", "stuffed", "[I", true)
  | 7 => ("GloveHouses$Peace", "after", "[I", true)
  | 8 => ("GloveHouses$Peace", "weight", "[I", true)
  | _ => ("GloveHouses$Peace", "need", "[I", true)
def tyX5 : Nat → FieldType := fun k => match k with
  | 0 => .int
  | 1 => .int
  | 2 => .int
  | 3 => .int
  | 4 => .array .int
  | 5 => .array .int
  | 6 => .array .int
  | 7 => .array .int
  | 8 => .array .int
  | _ => .array .int
abbrev wsX50 : List Cond := u_ws RX5 TX5 10
theorem nmX5 : ∀ a, a < 10 → ∀ b, b < 10 → a ≠ b → (TX5 a).2.1 ≠ (TX5 b).2.1 := by decide +kernel
theorem tyX5_ok : ∀ k, k < 10 → parseFieldDescriptor (TX5 k).2.2.1 = some (tyX5 k) := by decide +kernel
abbrev cX5_init : ByteArray := prog_7_method_1_code
def yX5_init : MethodName := ⟨RX5, "<init>", "()V"⟩
abbrev cX5_copyFrom : ByteArray := prog_7_method_2_code
def yX5_copyFrom : MethodName := ⟨RX5, "copyFrom", "(LGloveHouses$Peace;)V"⟩
abbrev cX5_hasGlove : ByteArray := prog_7_method_3_code
def yX5_hasGlove : MethodName := ⟨RX5, "hasGlove", "(I)Z"⟩
abbrev cX5_hasMatter : ByteArray := prog_7_method_4_code
def yX5_hasMatter : MethodName := ⟨RX5, "hasMatter", "(I)Z"⟩
abbrev cX5_unlike : ByteArray := prog_7_method_5_code
def yX5_unlike : MethodName := ⟨RX5, "unlike", "(II)Z"⟩
abbrev cX5_sameAim : ByteArray := prog_7_method_6_code
def yX5_sameAim : MethodName := ⟨RX5, "sameAim", "(II)I"⟩
abbrev cX5_sizeOf : ByteArray := prog_7_method_7_code
def yX5_sizeOf : MethodName := ⟨RX5, "sizeOf", "(I)I"⟩
abbrev cX5_nth : ByteArray := prog_7_method_8_code
def yX5_nth : MethodName := ⟨RX5, "nth", "(II)I"⟩
abbrev cX5_heaviest : ByteArray := prog_7_method_9_code
def yX5_heaviest : MethodName := ⟨RX5, "heaviest", "()I"⟩
def RX6 : String := "GloveHouses$PeaceReader"
def TX6 : u_T := fun k => match k with
  | 0 => ("GloveHouses$PeaceReader", "read", "LGloveHouses$Peace;", true)
  | 1 => ("GloveHouses$PeaceReader", "tape", "LGloveHouses$Tape;", true)
  | 2 => ("GloveHouses$PeaceReader", "values", "[I", true)
  | _ => ("GloveHouses$PeaceReader", "ruled", "Z", false)
def tyX6 : Nat → FieldType := fun k => match k with
  | 0 => .object "GloveHouses$Peace"
  | 1 => .object "GloveHouses$Tape"
  | 2 => .array .int
  | _ => .boolean
abbrev wsX60 : List Cond := u_ws RX6 TX6 4
theorem nmX6 : ∀ a, a < 4 → ∀ b, b < 4 → a ≠ b → (TX6 a).2.1 ≠ (TX6 b).2.1 := by decide +kernel
theorem tyX6_ok : ∀ k, k < 4 → parseFieldDescriptor (TX6 k).2.2.1 = some (tyX6 k) := by decide +kernel
abbrev cX6_init : ByteArray := prog_8_method_1_code
def yX6_init : MethodName := ⟨RX6, "<init>", "(LGloveHouses$Tape;)V"⟩
abbrev cX6_readsAll : ByteArray := prog_8_method_2_code
def yX6_readsAll : MethodName := ⟨RX6, "readsAll", "()Z"⟩
abbrev cX6_readsClause : ByteArray := prog_8_method_3_code
def yX6_readsClause : MethodName := ⟨RX6, "readsClause", "()Z"⟩
abbrev cX6_kindOf : ByteArray := prog_8_method_4_code
def yX6_kindOf : MethodName := ⟨RX6, "kindOf", "(I)I"⟩
abbrev cX6_isTooMany : ByteArray := prog_8_method_5_code
def yX6_isTooMany : MethodName := ⟨RX6, "isTooMany", "(I)Z"⟩
abbrev cX6_readsItems : ByteArray := prog_8_method_6_code
def yX6_readsItems : MethodName := ⟨RX6, "readsItems", "(I)Z"⟩
abbrev cX6_itemOf : ByteArray := prog_8_method_7_code
def yX6_itemOf : MethodName := ⟨RX6, "itemOf", "(II)I"⟩
abbrev cX6_readsValue : ByteArray := prog_8_method_8_code
def yX6_readsValue : MethodName := ⟨RX6, "readsValue", "(II)Z"⟩
abbrev cX6_keep : ByteArray := prog_8_method_9_code
def yX6_keep : MethodName := ⟨RX6, "keep", "(I)V"⟩
def RX7 : String := "GloveHouses$Quarrels"
def TX7 : u_T := fun k => match k with
  | 0 => ("GloveHouses$Quarrels", "state", "LGloveHouses$State;", false)
  | 1 => ("GloveHouses$Quarrels", "pair", "I", false)
  | 2 => ("GloveHouses$Quarrels", "need", "I", false)
  | 3 => ("GloveHouses$Quarrels", "meetings", "I", false)
  | _ => ("GloveHouses$Quarrels", "chance", "I", false)
def tyX7 : Nat → FieldType := fun k => match k with
  | 0 => .object "GloveHouses$State"
  | 1 => .int
  | 2 => .int
  | 3 => .int
  | _ => .int
abbrev wsX70 : List Cond := u_ws RX7 TX7 5
theorem nmX7 : ∀ a, a < 5 → ∀ b, b < 5 → a ≠ b → (TX7 a).2.1 ≠ (TX7 b).2.1 := by decide +kernel
theorem tyX7_ok : ∀ k, k < 5 → parseFieldDescriptor (TX7 k).2.2.1 = some (tyX7 k) := by decide +kernel
abbrev cX7_init : ByteArray := prog_9_method_1_code
def yX7_init : MethodName := ⟨RX7, "<init>", "()V"⟩
abbrev cX7_partsWarm : ByteArray := prog_9_method_2_code
def yX7_partsWarm : MethodName := ⟨RX7, "partsWarm", "(LGloveHouses$State;IIII)I"⟩
abbrev cX7_split : ByteArray := prog_9_method_3_code
def yX7_split : MethodName := ⟨RX7, "split", "(III)I"⟩
abbrev cX7_behind : ByteArray := prog_9_method_4_code
def yX7_behind : MethodName := ⟨RX7, "behind", "(III)I"⟩
def RX8 : String := "GloveHouses$Sightings"
def TX8 : u_T := fun k => match k with
  | 0 => ("GloveHouses$Sightings", "size", "I", false)
  | 1 => ("GloveHouses$Sightings", "ones", "[I", true)
  | 2 => ("GloveHouses$Sightings", "others", "[I", true)
  | 3 => ("GloveHouses$Sightings", "bounds", "[I", true)
  | 4 => ("GloveHouses$Sightings", "reached", "[Z", true)
  | 5 => ("GloveHouses$Sightings", "told", "LGloveHouses$Peace;", true)
  | _ => ("GloveHouses$Sightings", "laws", "LGloveHouses$Laws;", true)
def tyX8 : Nat → FieldType := fun k => match k with
  | 0 => .int
  | 1 => .array .int
  | 2 => .array .int
  | 3 => .array .int
  | 4 => .array .boolean
  | 5 => .object "GloveHouses$Peace"
  | _ => .object "GloveHouses$Laws"
abbrev wsX80 : List Cond := u_ws RX8 TX8 7
theorem nmX8 : ∀ a, a < 7 → ∀ b, b < 7 → a ≠ b → (TX8 a).2.1 ≠ (TX8 b).2.1 := by decide +kernel
theorem tyX8_ok : ∀ k, k < 7 → parseFieldDescriptor (TX8 k).2.2.1 = some (tyX8 k) := by decide +kernel
abbrev cX8_init : ByteArray := prog_10_method_1_code
def yX8_init : MethodName := ⟨RX8, "<init>", "(LGloveHouses$Peace;LGloveHouses$Laws;)V"⟩
abbrev cX8_isFull : ByteArray := prog_10_method_2_code
def yX8_isFull : MethodName := ⟨RX8, "isFull", "()Z"⟩
abbrev cX8_add : ByteArray := prog_10_method_3_code
def yX8_add : MethodName := ⟨RX8, "add", "(IIIZ)V"⟩
abbrev cX8_reaches : ByteArray := prog_10_method_4_code
def yX8_reaches : MethodName := ⟨RX8, "reaches", "(IIII)Z"⟩
abbrev cX8_allow : ByteArray := prog_10_method_5_code
def yX8_allow : MethodName := ⟨RX8, "allow", "(II)Z"⟩
abbrev cX8_fitting : ByteArray := prog_10_method_6_code
def yX8_fitting : MethodName := ⟨RX8, "fitting", "(I)I"⟩
abbrev cX8_gap : ByteArray := prog_10_method_7_code
def yX8_gap : MethodName := ⟨RX8, "gap", "(IIII)I"⟩
def RX9 : String := "GloveHouses$State"
def TX9 : u_T := fun k => match k with
  | 0 => ("GloveHouses$State", "cells", "[I", true)
  | 1 => ("GloveHouses$State", "told", "LGloveHouses$Peace;", true)
  | _ => ("GloveHouses$State", "laws", "LGloveHouses$Laws;", true)
def tyX9 : Nat → FieldType := fun k => match k with
  | 0 => .array .int
  | 1 => .object "GloveHouses$Peace"
  | _ => .object "GloveHouses$Laws"
abbrev wsX90 : List Cond := u_ws RX9 TX9 3
theorem nmX9 : ∀ a, a < 3 → ∀ b, b < 3 → a ≠ b → (TX9 a).2.1 ≠ (TX9 b).2.1 := by decide +kernel
theorem tyX9_ok : ∀ k, k < 3 → parseFieldDescriptor (TX9 k).2.2.1 = some (tyX9 k) := by decide +kernel
abbrev cX9_init : ByteArray := prog_11_method_1_code
def yX9_init : MethodName := ⟨RX9, "<init>", "(LGloveHouses$Peace;LGloveHouses$Laws;)V"⟩
abbrev cX9_copyFrom : ByteArray := prog_11_method_2_code
def yX9_copyFrom : MethodName := ⟨RX9, "copyFrom", "(LGloveHouses$State;)V"⟩
abbrev cX9_begin : ByteArray := prog_11_method_3_code
def yX9_begin : MethodName := ⟨RX9, "begin", "()V"⟩
abbrev cX9_free : ByteArray := prog_11_method_4_code
def yX9_free : MethodName := ⟨RX9, "free", "(I)I"⟩
abbrev cX9_setFree : ByteArray := prog_11_method_5_code
def yX9_setFree : MethodName := ⟨RX9, "setFree", "(II)V"⟩
abbrev cX9_stuffed : ByteArray := prog_11_method_6_code
def yX9_stuffed : MethodName := ⟨RX9, "stuffed", "(I)I"⟩
abbrev cX9_setStuffed : ByteArray := prog_11_method_7_code
def yX9_setStuffed : MethodName := ⟨RX9, "setStuffed", "(II)V"⟩
abbrev cX9_knows : ByteArray := prog_11_method_8_code
def yX9_knows : MethodName := ⟨RX9, "knows", "(I)I"⟩
abbrev cX9_hasMet : ByteArray := prog_11_method_9_code
def yX9_hasMet : MethodName := ⟨RX9, "hasMet", "(I)Z"⟩
abbrev cX9_signers : ByteArray := prog_11_method_10_code
def yX9_signers : MethodName := ⟨RX9, "signers", "(I)I"⟩
abbrev cX9_tearUp : ByteArray := prog_11_method_11_code
def yX9_tearUp : MethodName := ⟨RX9, "tearUp", "(I)V"⟩
abbrev cX9_signedToday : ByteArray := prog_11_method_12_code
def yX9_signedToday : MethodName := ⟨RX9, "signedToday", "()I"⟩
abbrev cX9_pride : ByteArray := prog_11_method_13_code
def yX9_pride : MethodName := ⟨RX9, "pride", "()I"⟩
abbrev cX9_setPride : ByteArray := prog_11_method_14_code
def yX9_setPride : MethodName := ⟨RX9, "setPride", "(I)V"⟩
abbrev cX9_growProud : ByteArray := prog_11_method_15_code
def yX9_growProud : MethodName := ⟨RX9, "growProud", "()V"⟩
abbrev cX9_coins : ByteArray := prog_11_method_16_code
def yX9_coins : MethodName := ⟨RX9, "coins", "()I"⟩
abbrev cX9_pay : ByteArray := prog_11_method_17_code
def yX9_pay : MethodName := ⟨RX9, "pay", "(I)V"⟩
abbrev cX9_day : ByteArray := prog_11_method_18_code
def yX9_day : MethodName := ⟨RX9, "day", "()I"⟩
abbrev cX9_placeOf : ByteArray := prog_11_method_19_code
def yX9_placeOf : MethodName := ⟨RX9, "placeOf", "(II)I"⟩
abbrev cX9_warmthOf : ByteArray := prog_11_method_20_code
def yX9_warmthOf : MethodName := ⟨RX9, "warmthOf", "(II)I"⟩
abbrev cX9_riseOf : ByteArray := prog_11_method_21_code
def yX9_riseOf : MethodName := ⟨RX9, "riseOf", "(II)I"⟩
abbrev cX9_riseAt : ByteArray := prog_11_method_22_code
def yX9_riseAt : MethodName := ⟨RX9, "riseAt", "(IIII)I"⟩
abbrev cX9_warmer : ByteArray := prog_11_method_23_code
def yX9_warmer : MethodName := ⟨RX9, "warmer", "(IIII)I"⟩
abbrev cX9_meet : ByteArray := prog_11_method_24_code
def yX9_meet : MethodName := ⟨RX9, "meet", "(II)V"⟩
abbrev cX9_signLowest : ByteArray := prog_11_method_25_code
def yX9_signLowest : MethodName := ⟨RX9, "signLowest", "(II)V"⟩
abbrev cX9_cool : ByteArray := prog_11_method_26_code
def yX9_cool : MethodName := ⟨RX9, "cool", "()V"⟩
abbrev cX9_dawn : ByteArray := prog_11_method_27_code
def yX9_dawn : MethodName := ⟨RX9, "dawn", "()V"⟩
abbrev cX9_allKnown : ByteArray := prog_11_method_28_code
def yX9_allKnown : MethodName := ⟨RX9, "allKnown", "()Z"⟩
abbrev cX9_gains : ByteArray := prog_11_method_29_code
def yX9_gains : MethodName := ⟨RX9, "gains", "(II)I"⟩
abbrev cX9_freeOf : ByteArray := prog_11_method_30_code
def yX9_freeOf : MethodName := ⟨RX9, "freeOf", "(I)I"⟩
abbrev cX9_warmthOfAll : ByteArray := prog_11_method_31_code
def yX9_warmthOfAll : MethodName := ⟨RX9, "warmthOfAll", "()I"⟩
abbrev cX9_metBits : ByteArray := prog_11_method_32_code
def yX9_metBits : MethodName := ⟨RX9, "metBits", "()I"⟩
abbrev cX9_signedBits : ByteArray := prog_11_method_33_code
def yX9_signedBits : MethodName := ⟨RX9, "signedBits", "()I"⟩
abbrev cX9_warmestPair : ByteArray := prog_11_method_34_code
def yX9_warmestPair : MethodName := ⟨RX9, "warmestPair", "()I"⟩
abbrev cX9_coldestPair : ByteArray := prog_11_method_35_code
def yX9_coldestPair : MethodName := ⟨RX9, "coldestPair", "()I"⟩
abbrev cX9_pairMost : ByteArray := prog_11_method_36_code
def yX9_pairMost : MethodName := ⟨RX9, "pairMost", "(I)I"⟩
abbrev cX9_freest : ByteArray := prog_11_method_37_code
def yX9_freest : MethodName := ⟨RX9, "freest", "()I"⟩
abbrev cX9_stiffest : ByteArray := prog_11_method_38_code
def yX9_stiffest : MethodName := ⟨RX9, "stiffest", "()I"⟩
abbrev cX9_gloveMost : ByteArray := prog_11_method_39_code
def yX9_gloveMost : MethodName := ⟨RX9, "gloveMost", "(I)I"⟩
abbrev cX9_bound : ByteArray := prog_11_method_40_code
def yX9_bound : MethodName := ⟨RX9, "bound", "()I"⟩
abbrev cX9_dueBits : ByteArray := prog_11_method_41_code
def yX9_dueBits : MethodName := ⟨RX9, "dueBits", "()I"⟩
def RX10 : String := "GloveHouses$Tape"
def TX10 : u_T := fun k => match k with
  | 0 => ("GloveHouses$Tape", "bytes", "[I", true)
  | 1 => ("GloveHouses$Tape", "length", "I", false)
  | _ => ("GloveHouses$Tape", "at", "I", false)
def tyX10 : Nat → FieldType := fun k => match k with
  | 0 => .array .int
  | 1 => .int
  | _ => .int
abbrev wsX100 : List Cond := u_ws RX10 TX10 3
theorem nmX10 : ∀ a, a < 3 → ∀ b, b < 3 → a ≠ b → (TX10 a).2.1 ≠ (TX10 b).2.1 := by decide +kernel
theorem tyX10_ok : ∀ k, k < 3 → parseFieldDescriptor (TX10 k).2.2.1 = some (tyX10 k) := by decide +kernel
abbrev cX10_init : ByteArray := prog_12_method_1_code
def yX10_init : MethodName := ⟨RX10, "<init>", "()V"⟩
abbrev cX10_bytesOf : ByteArray := prog_12_method_2_code
def yX10_bytesOf : MethodName := ⟨RX10, "bytesOf", "(I)I"⟩
abbrev cX10_put : ByteArray := prog_12_method_3_code
def yX10_put : MethodName := ⟨RX10, "put", "(I)V"⟩
abbrev cX10_sign : ByteArray := prog_12_method_4_code
def yX10_sign : MethodName := ⟨RX10, "sign", "()I"⟩
abbrev cX10_take : ByteArray := prog_12_method_5_code
def yX10_take : MethodName := ⟨RX10, "take", "(I)Z"⟩
abbrev cX10_isAtDigit : ByteArray := prog_12_method_6_code
def yX10_isAtDigit : MethodName := ⟨RX10, "isAtDigit", "()Z"⟩
abbrev cX10_number : ByteArray := prog_12_method_7_code
def yX10_number : MethodName := ⟨RX10, "number", "(I)I"⟩
def RX11 : String := "GloveHouses"
def TX11 : u_T := fun k => match k with
  | 0 => ("GloveHouses", "tape", "LGloveHouses$Tape;", true)
  | 1 => ("GloveHouses", "peaceReader", "LGloveHouses$PeaceReader;", true)
  | 2 => ("GloveHouses", "lawReader", "LGloveHouses$LawReader;", true)
  | 3 => ("GloveHouses", "told", "LGloveHouses$Peace;", true)
  | 4 => ("GloveHouses", "laws", "LGloveHouses$Laws;", true)
  | 5 => ("GloveHouses", "now", "LGloveHouses$State;", true)
  | 6 => ("GloveHouses", "apart", "LGloveHouses$State;", true)
  | 7 => ("GloveHouses", "book", "LGloveHouses$LogBook;", true)
  | 8 => ("GloveHouses", "acts", "LGloveHouses$Acts;", true)
  | 9 => ("GloveHouses", "imageState", "LGloveHouses$State;", true)
  | 10 => ("GloveHouses", "imageBook", "LGloveHouses$LogBook;", true)
  | 11 => ("GloveHouses", "sightings", "LGloveHouses$Sightings;", true)
  | 12 => ("GloveHouses", "match", "LGloveHouses$Match;", true)
  | 13 => ("GloveHouses", "quarrels", "LGloveHouses$Quarrels;", true)
  | 14 => ("GloveHouses", "refused", "[I", true)
  | 15 => ("GloveHouses", "imaged", "Z", false)
  | 16 => ("GloveHouses", "spiteNow", "I", false)
  | _ => ("GloveHouses", "drawn", "J", false)
def tyX11 : Nat → FieldType := fun k => match k with
  | 0 => .object "GloveHouses$Tape"
  | 1 => .object "GloveHouses$PeaceReader"
  | 2 => .object "GloveHouses$LawReader"
  | 3 => .object "GloveHouses$Peace"
  | 4 => .object "GloveHouses$Laws"
  | 5 => .object "GloveHouses$State"
  | 6 => .object "GloveHouses$State"
  | 7 => .object "GloveHouses$LogBook"
  | 8 => .object "GloveHouses$Acts"
  | 9 => .object "GloveHouses$State"
  | 10 => .object "GloveHouses$LogBook"
  | 11 => .object "GloveHouses$Sightings"
  | 12 => .object "GloveHouses$Match"
  | 13 => .object "GloveHouses$Quarrels"
  | 14 => .array .int
  | 15 => .boolean
  | 16 => .int
  | _ => .long
abbrev wsX110 : List Cond := u_ws RX11 TX11 18
theorem nmX11 : ∀ a, a < 18 → ∀ b, b < 18 → a ≠ b → (TX11 a).2.1 ≠ (TX11 b).2.1 := by decide +kernel
theorem tyX11_ok : ∀ k, k < 18 → parseFieldDescriptor (TX11 k).2.2.1 = some (tyX11 k) := by decide +kernel
abbrev cX11_init : ByteArray := prog_1_method_1_code
def yX11_init : MethodName := ⟨RX11, "<init>", "()V"⟩
abbrev cX11_feed : ByteArray := prog_1_method_2_code
def yX11_feed : MethodName := ⟨RX11, "feed", "(IIIII)I"⟩
abbrev cX11_end : ByteArray := prog_1_method_3_code
def yX11_end : MethodName := ⟨RX11, "end", "(I)Z"⟩
abbrev cX11_fault : ByteArray := prog_1_method_4_code
def yX11_fault : MethodName := ⟨RX11, "fault", "(I)I"⟩
abbrev cX11_text : ByteArray := prog_1_method_5_code
def yX11_text : MethodName := ⟨RX11, "text", "(I)I"⟩
abbrev cX11_rule : ByteArray := prog_1_method_6_code
def yX11_rule : MethodName := ⟨RX11, "rule", "(I)I"⟩
abbrev cX11_glove : ByteArray := prog_1_method_7_code
def yX11_glove : MethodName := ⟨RX11, "glove", "(II)I"⟩
abbrev cX11_matter : ByteArray := prog_1_method_8_code
def yX11_matter : MethodName := ⟨RX11, "matter", "(II)I"⟩
abbrev cX11_warmth : ByteArray := prog_1_method_9_code
def yX11_warmth : MethodName := ⟨RX11, "warmth", "(II)I"⟩
abbrev cX11_law : ByteArray := prog_1_method_10_code
def yX11_law : MethodName := ⟨RX11, "law", "(I)Z"⟩
abbrev cX11_meets : ByteArray := prog_1_method_11_code
def yX11_meets : MethodName := ⟨RX11, "meets", "(II)I"⟩
abbrev cX11_loosen : ByteArray := prog_1_method_12_code
def yX11_loosen : MethodName := ⟨RX11, "loosen", "(I)I"⟩
abbrev cX11_stuff : ByteArray := prog_1_method_13_code
def yX11_stuff : MethodName := ⟨RX11, "stuff", "(II)I"⟩
abbrev cX11_swallow : ByteArray := prog_1_method_14_code
def yX11_swallow : MethodName := ⟨RX11, "swallow", "()I"⟩
abbrev cX11_tear : ByteArray := prog_1_method_15_code
def yX11_tear : MethodName := ⟨RX11, "tear", "(I)I"⟩
abbrev cX11_give : ByteArray := prog_1_method_16_code
def yX11_give : MethodName := ⟨RX11, "give", "(I)I"⟩
abbrev cX11_days : ByteArray := prog_1_method_17_code
def yX11_days : MethodName := ⟨RX11, "days", "(I)I"⟩
abbrev cX11_spite : ByteArray := prog_1_method_18_code
def yX11_spite : MethodName := ⟨RX11, "spite", "(I)Z"⟩
abbrev cX11_years : ByteArray := prog_1_method_19_code
def yX11_years : MethodName := ⟨RX11, "years", "(IJ)I"⟩
abbrev cX11_status : ByteArray := prog_1_method_20_code
def yX11_status : MethodName := ⟨RX11, "status", "(I)I"⟩
abbrev cX11_undo : ByteArray := prog_1_method_21_code
def yX11_undo : MethodName := ⟨RX11, "undo", "()I"⟩
abbrev cX11_log : ByteArray := prog_1_method_22_code
def yX11_log : MethodName := ⟨RX11, "log", "(II)I"⟩
abbrev cX11_rises : ByteArray := prog_1_method_23_code
def yX11_rises : MethodName := ⟨RX11, "rises", "(II)I"⟩
abbrev cX11_later : ByteArray := prog_1_method_24_code
def yX11_later : MethodName := ⟨RX11, "later", "(III)I"⟩
abbrev cX11_soonest : ByteArray := prog_1_method_25_code
def yX11_soonest : MethodName := ⟨RX11, "soonest", "(II)I"⟩
abbrev cX11_pairs : ByteArray := prog_1_method_26_code
def yX11_pairs : MethodName := ⟨RX11, "pairs", "(I)I"⟩
abbrev cX11_allKnow : ByteArray := prog_1_method_27_code
def yX11_allKnow : MethodName := ⟨RX11, "allKnow", "()I"⟩
abbrev cX11_seen : ByteArray := prog_1_method_28_code
def yX11_seen : MethodName := ⟨RX11, "seen", "(IIIZ)I"⟩
abbrev cX11_fits : ByteArray := prog_1_method_29_code
def yX11_fits : MethodName := ⟨RX11, "fits", "(II)I"⟩
abbrev cX11_ask : ByteArray := prog_1_method_30_code
def yX11_ask : MethodName := ⟨RX11, "ask", "(II)I"⟩
abbrev cX11_game : ByteArray := prog_1_method_31_code
def yX11_game : MethodName := ⟨RX11, "game", "(III)I"⟩
abbrev cX11_sure : ByteArray := prog_1_method_32_code
def yX11_sure : MethodName := ⟨RX11, "sure", "(I)I"⟩
abbrev cX11_rests : ByteArray := prog_1_method_33_code
def yX11_rests : MethodName := ⟨RX11, "rests", "(I)I"⟩
abbrev cX11_odds : ByteArray := prog_1_method_34_code
def yX11_odds : MethodName := ⟨RX11, "odds", "(IIIII)I"⟩
abbrev cX11_shares : ByteArray := prog_1_method_35_code
def yX11_shares : MethodName := ⟨RX11, "shares", "(II)I"⟩
abbrev cX11_most : ByteArray := prog_1_method_36_code
def yX11_most : MethodName := ⟨RX11, "most", "(I)I"⟩
abbrev cX11_allies : ByteArray := prog_1_method_37_code
def yX11_allies : MethodName := ⟨RX11, "allies", "(I)I"⟩
abbrev cX11_image : ByteArray := prog_1_method_38_code
def yX11_image : MethodName := ⟨RX11, "image", "()I"⟩
abbrev cX11_back : ByteArray := prog_1_method_39_code
def yX11_back : MethodName := ⟨RX11, "back", "()I"⟩
abbrev cX11_count : ByteArray := prog_1_method_40_code
def yX11_count : MethodName := ⟨RX11, "count", "(I)I"⟩
abbrev cX11_noPeace : ByteArray := prog_1_method_41_code
def yX11_noPeace : MethodName := ⟨RX11, "noPeace", "()Z"⟩
abbrev cX11_isNoRise : ByteArray := prog_1_method_42_code
def yX11_isNoRise : MethodName := ⟨RX11, "isNoRise", "(I)Z"⟩
abbrev cX11_refuse : ByteArray := prog_1_method_43_code
def yX11_refuse : MethodName := ⟨RX11, "refuse", "(I)I"⟩
abbrev cX11_takePeace : ByteArray := prog_1_method_44_code
def yX11_takePeace : MethodName := ⟨RX11, "takePeace", "()I"⟩
abbrev cX11_takeLaw : ByteArray := prog_1_method_45_code
def yX11_takeLaw : MethodName := ⟨RX11, "takeLaw", "()I"⟩
abbrev cX11_passDay : ByteArray := prog_1_method_46_code
def yX11_passDay : MethodName := ⟨RX11, "passDay", "()V"⟩
abbrev cX11_draw : ByteArray := prog_1_method_47_code
def yX11_draw : MethodName := ⟨RX11, "draw", "(I)I"⟩
abbrev cX11_drawMeeting : ByteArray := prog_1_method_48_code
def yX11_drawMeeting : MethodName := ⟨RX11, "drawMeeting", "()V"⟩
abbrev cX11_daysUntil : ByteArray := prog_1_method_49_code
def yX11_daysUntil : MethodName := ⟨RX11, "daysUntil", "(III)I"⟩
abbrev cX11_leastGain : ByteArray := prog_1_method_50_code
def yX11_leastGain : MethodName := ⟨RX11, "leastGain", "(I)I"⟩
abbrev cX11_isRest : ByteArray := prog_1_method_51_code
def yX11_isRest : MethodName := ⟨RX11, "isRest", "(II)Z"⟩
def RX12 : String := "GloveHousesModel"
def TX12 : u_T := fun k => match k with
  | 0 => ("GloveHousesModel", "thrown", "I", false)
  | 1 => ("GloveHousesModel", "tape", "[I", true)
  | 2 => ("GloveHousesModel", "size", "I", false)
  | 3 => ("GloveHousesModel", "at", "I", false)
  | 4 => ("GloveHousesModel", "wrong", "I", false)
  | 5 => ("GloveHousesModel", "deep", "I", false)
  | 6 => ("GloveHousesModel", "code", "[I", true)
  | 7 => ("GloveHousesModel", "value", "[I", true)
  | 8 => ("GloveHousesModel", "codes", "[I", true)
  | 9 => ("GloveHousesModel", "clauses", "[I", true)
  | 10 => ("GloveHousesModel", "testFrom", "[I", true)
  | 11 => ("GloveHousesModel", "sumFrom", "[I", true)
  | 12 => ("GloveHousesModel", "sumTo", "[I", true)
  | 13 => ("GloveHousesModel", "laws", "I", false)
  | 14 => ("GloveHousesModel", "text", "I", false)
  | 15 => ("GloveHousesModel", "letters", "[I", true)
  | 16 => ("GloveHousesModel", "stack", "[I", true)
  | 17 => ("GloveHousesModel", "readRule", "[I", true)
  | 18 => ("GloveHousesModel", "readGlove", "[I", true)
  | 19 => ("GloveHousesModel", "readMatter", "[I", true)
  | 20 => ("GloveHousesModel", "readGloves", "I", false)
  | 21 => ("GloveHousesModel", "readMatters", "I", false)
  | 22 => ("GloveHousesModel", "rule", "[I", true)
  | 23 => ("GloveHousesModel", "glove", "[I", true)
  | 24 => ("GloveHousesModel", "matter", "[I", true)
  | 25 => ("GloveHousesModel", "gloves", "I", false)
  | 26 => ("GloveHousesModel", "matters", "I", false)
  | 27 => ("GloveHousesModel", "now", "[I", true)
  | 28 => ("GloveHousesModel", "refused", "[I", true)
  | 29 => ("GloveHousesModel", "holding", "I", false)
  | 30 => ("GloveHousesModel", "spiteful", "I", false)
  | 31 => ("GloveHousesModel", "kept", "[I", true)
  | 32 => ("GloveHousesModel", "acts", "I", false)
  | 33 => ("GloveHousesModel", "draws", "J", false)
  | 34 => ("GloveHousesModel", "bestRow", "I", false)
  | 35 => ("GloveHousesModel", "bestRise", "I", false)
  | 36 => ("GloveHousesModel", "isFound", "Z", false)
  | 37 => ("GloveHousesModel", "with", "[I", true)
  | 38 => ("GloveHousesModel", "aside", "[I", true)
  | 39 => ("GloveHousesModel", "noteOne", "[I", true)
  | 40 => ("GloveHousesModel", "noteOther", "[I", true)
  | 41 => ("GloveHousesModel", "noteRise", "[I", true)
  | 42 => ("GloveHousesModel", "noteIs", "[Z", true)
  | 43 => ("GloveHousesModel", "noted", "I", false)
  | 44 => ("GloveHousesModel", "image", "[I", true)
  | _ => ("GloveHousesModel", "hasImage", "Z", false)
def tyX12 : Nat → FieldType := fun k => match k with
  | 0 => .int
  | 1 => .array .int
  | 2 => .int
  | 3 => .int
  | 4 => .int
  | 5 => .int
  | 6 => .array .int
  | 7 => .array .int
  | 8 => .array .int
  | 9 => .array .int
  | 10 => .array .int
  | 11 => .array .int
  | 12 => .array .int
  | 13 => .int
  | 14 => .int
  | 15 => .array .int
  | 16 => .array .int
  | 17 => .array .int
  | 18 => .array .int
  | 19 => .array .int
  | 20 => .int
  | 21 => .int
  | 22 => .array .int
  | 23 => .array .int
  | 24 => .array .int
  | 25 => .int
  | 26 => .int
  | 27 => .array .int
  | 28 => .array .int
  | 29 => .int
  | 30 => .int
  | 31 => .array .int
  | 32 => .int
  | 33 => .long
  | 34 => .int
  | 35 => .int
  | 36 => .boolean
  | 37 => .array .int
  | 38 => .array .int
  | 39 => .array .int
  | 40 => .array .int
  | 41 => .array .int
  | 42 => .array .boolean
  | 43 => .int
  | 44 => .array .int
  | _ => .boolean
abbrev wsX120 : List Cond := u_ws RX12 TX12 46
theorem nmX12 : ∀ a, a < 46 → ∀ b, b < 46 → a ≠ b → (TX12 a).2.1 ≠ (TX12 b).2.1 := by decide +kernel
theorem tyX12_ok : ∀ k, k < 46 → parseFieldDescriptor (TX12 k).2.2.1 = some (tyX12 k) := by decide +kernel
abbrev cX12_in : ByteArray := prog_14_method_1_code
def yX12_in : MethodName := ⟨RX12, "in", "(III)Z"⟩
abbrev cX12_has : ByteArray := prog_14_method_2_code
def yX12_has : MethodName := ⟨RX12, "has", "(II)Z"⟩
abbrev cX12_init : ByteArray := prog_14_method_3_code
def yX12_init : MethodName := ⟨RX12, "<init>", "()V"⟩
abbrev cX12_byteOf : ByteArray := prog_14_method_5_code
def yX12_byteOf : MethodName := ⟨RX12, "byteOf", "(IIIIII)I"⟩
abbrev cX12_feed : ByteArray := prog_14_method_6_code
def yX12_feed : MethodName := ⟨RX12, "feed", "(IIIII)I"⟩
abbrev cX12_end : ByteArray := prog_14_method_7_code
def yX12_end : MethodName := ⟨RX12, "end", "(I)Z"⟩
abbrev cX12_here : ByteArray := prog_14_method_8_code
def yX12_here : MethodName := ⟨RX12, "here", "()I"⟩
abbrev cX12_look : ByteArray := prog_14_method_9_code
def yX12_look : MethodName := ⟨RX12, "look", "()I"⟩
abbrev cX12_bad : ByteArray := prog_14_method_10_code
def yX12_bad : MethodName := ⟨RX12, "bad", "()V"⟩
abbrev cX12_isDigit : ByteArray := prog_14_method_11_code
def yX12_isDigit : MethodName := ⟨RX12, "isDigit", "(I)Z"⟩
abbrev cX12_put : ByteArray := prog_14_method_12_code
def yX12_put : MethodName := ⟨RX12, "put", "(II)V"⟩
abbrev cX12_letterOf : ByteArray := prog_14_method_13_code
def yX12_letterOf : MethodName := ⟨RX12, "letterOf", "(I)I"⟩
abbrev cX12_opens : ByteArray := prog_14_method_14_code
def yX12_opens : MethodName := ⟨RX12, "opens", "()V"⟩
abbrev cX12_closes : ByteArray := prog_14_method_15_code
def yX12_closes : MethodName := ⟨RX12, "closes", "(I)V"⟩
abbrev cX12_plainNumber : ByteArray := prog_14_method_16_code
def yX12_plainNumber : MethodName := ⟨RX12, "plainNumber", "()I"⟩
abbrev cX12_atom : ByteArray := prog_14_method_17_code
def yX12_atom : MethodName := ⟨RX12, "atom", "()V"⟩
abbrev cX12_term : ByteArray := prog_14_method_18_code
def yX12_term : MethodName := ⟨RX12, "term", "()V"⟩
abbrev cX12_sum : ByteArray := prog_14_method_19_code
def yX12_sum : MethodName := ⟨RX12, "sum", "()V"⟩
abbrev cX12_isSign : ByteArray := prog_14_method_20_code
def yX12_isSign : MethodName := ⟨RX12, "isSign", "(I)Z"⟩
abbrev cX12_compare : ByteArray := prog_14_method_21_code
def yX12_compare : MethodName := ⟨RX12, "compare", "()V"⟩
abbrev cX12_unit : ByteArray := prog_14_method_22_code
def yX12_unit : MethodName := ⟨RX12, "unit", "()V"⟩
abbrev cX12_goOnAnd : ByteArray := prog_14_method_23_code
def yX12_goOnAnd : MethodName := ⟨RX12, "goOnAnd", "()V"⟩
abbrev cX12_goOnOr : ByteArray := prog_14_method_24_code
def yX12_goOnOr : MethodName := ⟨RX12, "goOnOr", "()V"⟩
abbrev cX12_condition : ByteArray := prog_14_method_25_code
def yX12_condition : MethodName := ⟨RX12, "condition", "()V"⟩
abbrev cX12_clause : ByteArray := prog_14_method_26_code
def yX12_clause : MethodName := ⟨RX12, "clause", "()V"⟩
abbrev cX12_open : ByteArray := prog_14_method_27_code
def yX12_open : MethodName := ⟨RX12, "open", "(I)V"⟩
abbrev cX12_atEnd : ByteArray := prog_14_method_28_code
def yX12_atEnd : MethodName := ⟨RX12, "atEnd", "()I"⟩
abbrev cX12_readLaw : ByteArray := prog_14_method_29_code
def yX12_readLaw : MethodName := ⟨RX12, "readLaw", "(I)I"⟩
abbrev cX12_bounded : ByteArray := prog_14_method_30_code
def yX12_bounded : MethodName := ⟨RX12, "bounded", "(J)I"⟩
abbrev cX12_worked : ByteArray := prog_14_method_31_code
def yX12_worked : MethodName := ⟨RX12, "worked", "(IJJ)I"⟩
abbrev cX12_workOut : ByteArray := prog_14_method_32_code
def yX12_workOut : MethodName := ⟨RX12, "workOut", "(III)I"⟩
abbrev cX12_worthOf : ByteArray := prog_14_method_33_code
def yX12_worthOf : MethodName := ⟨RX12, "worthOf", "(I)I"⟩
abbrev cX12_number : ByteArray := prog_14_method_34_code
def yX12_number : MethodName := ⟨RX12, "number", "(II)I"⟩
abbrev cX12_itemOf : ByteArray := prog_14_method_35_code
def yX12_itemOf : MethodName := ⟨RX12, "itemOf", "(II)I"⟩
abbrev cX12_highest : ByteArray := prog_14_method_36_code
def yX12_highest : MethodName := ⟨RX12, "highest", "(II)I"⟩
abbrev cX12_usual : ByteArray := prog_14_method_37_code
def yX12_usual : MethodName := ⟨RX12, "usual", "(II)I"⟩
abbrev cX12_items : ByteArray := prog_14_method_38_code
def yX12_items : MethodName := ⟨RX12, "items", "(I[III)V"⟩
abbrev cX12_isWhole : ByteArray := prog_14_method_39_code
def yX12_isWhole : MethodName := ⟨RX12, "isWhole", "()Z"⟩
abbrev cX12_readPeace : ByteArray := prog_14_method_40_code
def yX12_readPeace : MethodName := ⟨RX12, "readPeace", "()I"⟩
abbrev cX12_fault : ByteArray := prog_14_method_41_code
def yX12_fault : MethodName := ⟨RX12, "fault", "(I)I"⟩
abbrev cX12_takePeace : ByteArray := prog_14_method_42_code
def yX12_takePeace : MethodName := ⟨RX12, "takePeace", "()I"⟩
abbrev cX12_text : ByteArray := prog_14_method_43_code
def yX12_text : MethodName := ⟨RX12, "text", "(I)I"⟩
abbrev cX12_of : ByteArray := prog_14_method_44_code
def yX12_of : MethodName := ⟨RX12, "of", "(II)I"⟩
abbrev cX12_isGlove : ByteArray := prog_14_method_45_code
def yX12_isGlove : MethodName := ⟨RX12, "isGlove", "(I)Z"⟩
abbrev cX12_isMatter : ByteArray := prog_14_method_46_code
def yX12_isMatter : MethodName := ⟨RX12, "isMatter", "(I)Z"⟩
abbrev cX12_areTwo : ByteArray := prog_14_method_47_code
def yX12_areTwo : MethodName := ⟨RX12, "areTwo", "(II)Z"⟩
abbrev cX12_pairAt : ByteArray := prog_14_method_48_code
def yX12_pairAt : MethodName := ⟨RX12, "pairAt", "(II)I"⟩
abbrev cX12_codeOf : ByteArray := prog_14_method_49_code
def yX12_codeOf : MethodName := ⟨RX12, "codeOf", "(II)I"⟩
abbrev cX12_held : ByteArray := prog_14_method_50_code
def yX12_held : MethodName := ⟨RX12, "held", "(I)I"⟩
abbrev cX12_riseBy : ByteArray := prog_14_method_51_code
def yX12_riseBy : MethodName := ⟨RX12, "riseBy", "(IIIZII)I"⟩
abbrev cX12_areAllies : ByteArray := prog_14_method_52_code
def yX12_areAllies : MethodName := ⟨RX12, "areAllies", "(II)Z"⟩
abbrev cX12_riseFrom : ByteArray := prog_14_method_53_code
def yX12_riseFrom : MethodName := ⟨RX12, "riseFrom", "(IIII)I"⟩
abbrev cX12_riseOf : ByteArray := prog_14_method_54_code
def yX12_riseOf : MethodName := ⟨RX12, "riseOf", "(II)I"⟩
abbrev cX12_isFree : ByteArray := prog_14_method_55_code
def yX12_isFree : MethodName := ⟨RX12, "isFree", "(I)Z"⟩
abbrev cX12_signNow : ByteArray := prog_14_method_56_code
def yX12_signNow : MethodName := ⟨RX12, "signNow", "(II)V"⟩
abbrev cX12_meetNow : ByteArray := prog_14_method_57_code
def yX12_meetNow : MethodName := ⟨RX12, "meetNow", "(II)V"⟩
abbrev cX12_metMany : ByteArray := prog_14_method_58_code
def yX12_metMany : MethodName := ⟨RX12, "metMany", "()I"⟩
abbrev cX12_warmthOfAll : ByteArray := prog_14_method_59_code
def yX12_warmthOfAll : MethodName := ⟨RX12, "warmthOfAll", "()I"⟩
abbrev cX12_cool : ByteArray := prog_14_method_60_code
def yX12_cool : MethodName := ⟨RX12, "cool", "()V"⟩
abbrev cX12_live : ByteArray := prog_14_method_61_code
def yX12_live : MethodName := ⟨RX12, "live", "()V"⟩
abbrev cX12_passDay : ByteArray := prog_14_method_62_code
def yX12_passDay : MethodName := ⟨RX12, "passDay", "()V"⟩
abbrev cX12_rule : ByteArray := prog_14_method_63_code
def yX12_rule : MethodName := ⟨RX12, "rule", "(I)I"⟩
abbrev cX12_glove : ByteArray := prog_14_method_64_code
def yX12_glove : MethodName := ⟨RX12, "glove", "(II)I"⟩
abbrev cX12_matter : ByteArray := prog_14_method_65_code
def yX12_matter : MethodName := ⟨RX12, "matter", "(II)I"⟩
abbrev cX12_warmth : ByteArray := prog_14_method_66_code
def yX12_warmth : MethodName := ⟨RX12, "warmth", "(II)I"⟩
abbrev cX12_law : ByteArray := prog_14_method_67_code
def yX12_law : MethodName := ⟨RX12, "law", "(I)Z"⟩
abbrev cX12_keep : ByteArray := prog_14_method_68_code
def yX12_keep : MethodName := ⟨RX12, "keep", "()V"⟩
abbrev cX12_isRefused : ByteArray := prog_14_method_69_code
def yX12_isRefused : MethodName := ⟨RX12, "isRefused", "(I)Z"⟩
abbrev cX12_meets : ByteArray := prog_14_method_70_code
def yX12_meets : MethodName := ⟨RX12, "meets", "(II)I"⟩
abbrev cX12_loosen : ByteArray := prog_14_method_71_code
def yX12_loosen : MethodName := ⟨RX12, "loosen", "(I)I"⟩
abbrev cX12_stuff : ByteArray := prog_14_method_72_code
def yX12_stuff : MethodName := ⟨RX12, "stuff", "(II)I"⟩
abbrev cX12_swallow : ByteArray := prog_14_method_73_code
def yX12_swallow : MethodName := ⟨RX12, "swallow", "()I"⟩
abbrev cX12_tear : ByteArray := prog_14_method_74_code
def yX12_tear : MethodName := ⟨RX12, "tear", "(I)I"⟩
abbrev cX12_give : ByteArray := prog_14_method_75_code
def yX12_give : MethodName := ⟨RX12, "give", "(I)I"⟩
abbrev cX12_areDays : ByteArray := prog_14_method_76_code
def yX12_areDays : MethodName := ⟨RX12, "areDays", "(I)Z"⟩
abbrev cX12_days : ByteArray := prog_14_method_77_code
def yX12_days : MethodName := ⟨RX12, "days", "(I)I"⟩
abbrev cX12_spite : ByteArray := prog_14_method_78_code
def yX12_spite : MethodName := ⟨RX12, "spite", "(I)Z"⟩
abbrev cX12_draw : ByteArray := prog_14_method_79_code
def yX12_draw : MethodName := ⟨RX12, "draw", "(I)I"⟩
abbrev cX12_drawDay : ByteArray := prog_14_method_80_code
def yX12_drawDay : MethodName := ⟨RX12, "drawDay", "()V"⟩
abbrev cX12_years : ByteArray := prog_14_method_81_code
def yX12_years : MethodName := ⟨RX12, "years", "(IJ)I"⟩
abbrev cX12_status : ByteArray := prog_14_method_82_code
def yX12_status : MethodName := ⟨RX12, "status", "(I)I"⟩
abbrev cX12_undo : ByteArray := prog_14_method_83_code
def yX12_undo : MethodName := ⟨RX12, "undo", "()I"⟩
abbrev cX12_log : ByteArray := prog_14_method_84_code
def yX12_log : MethodName := ⟨RX12, "log", "(II)I"⟩
abbrev cX12_rises : ByteArray := prog_14_method_85_code
def yX12_rises : MethodName := ⟨RX12, "rises", "(II)I"⟩
abbrev cX12_later : ByteArray := prog_14_method_86_code
def yX12_later : MethodName := ⟨RX12, "later", "(III)I"⟩
abbrev cX12_daysTo : ByteArray := prog_14_method_87_code
def yX12_daysTo : MethodName := ⟨RX12, "daysTo", "(III)I"⟩
abbrev cX12_soonest : ByteArray := prog_14_method_88_code
def yX12_soonest : MethodName := ⟨RX12, "soonest", "(II)I"⟩
abbrev cX12_tryPairs : ByteArray := prog_14_method_89_code
def yX12_tryPairs : MethodName := ⟨RX12, "tryPairs", "(IIII)V"⟩
abbrev cX12_freeOfFirst : ByteArray := prog_14_method_90_code
def yX12_freeOfFirst : MethodName := ⟨RX12, "freeOfFirst", "()I"⟩
abbrev cX12_layPairs : ByteArray := prog_14_method_91_code
def yX12_layPairs : MethodName := ⟨RX12, "layPairs", "()V"⟩
abbrev cX12_pairs : ByteArray := prog_14_method_92_code
def yX12_pairs : MethodName := ⟨RX12, "pairs", "(I)I"⟩
abbrev cX12_doAllKnow : ByteArray := prog_14_method_93_code
def yX12_doAllKnow : MethodName := ⟨RX12, "doAllKnow", "()Z"⟩
abbrev cX12_meetPairs : ByteArray := prog_14_method_94_code
def yX12_meetPairs : MethodName := ⟨RX12, "meetPairs", "()V"⟩
abbrev cX12_allKnow : ByteArray := prog_14_method_95_code
def yX12_allKnow : MethodName := ⟨RX12, "allKnow", "()I"⟩
abbrev cX12_seen : ByteArray := prog_14_method_96_code
def yX12_seen : MethodName := ⟨RX12, "seen", "(IIIZ)I"⟩
abbrev cX12_toldRise : ByteArray := prog_14_method_97_code
def yX12_toldRise : MethodName := ⟨RX12, "toldRise", "(III)I"⟩
abbrev cX12_isFreedom : ByteArray := prog_14_method_98_code
def yX12_isFreedom : MethodName := ⟨RX12, "isFreedom", "(II)Z"⟩
abbrev cX12_fits : ByteArray := prog_14_method_99_code
def yX12_fits : MethodName := ⟨RX12, "fits", "(II)I"⟩
abbrev cX12_ask : ByteArray := prog_14_method_100_code
def yX12_ask : MethodName := ⟨RX12, "ask", "(II)I"⟩
abbrev cX12_gloveOf : ByteArray := prog_14_method_101_code
def yX12_gloveOf : MethodName := ⟨RX12, "gloveOf", "(II)I"⟩
abbrev cX12_gameOf : ByteArray := prog_14_method_102_code
def yX12_gameOf : MethodName := ⟨RX12, "gameOf", "(III)I"⟩
abbrev cX12_game : ByteArray := prog_14_method_103_code
def yX12_game : MethodName := ⟨RX12, "game", "(III)I"⟩
abbrev cX12_manyOf : ByteArray := prog_14_method_104_code
def yX12_manyOf : MethodName := ⟨RX12, "manyOf", "(I)I"⟩
abbrev cX12_leastOf : ByteArray := prog_14_method_105_code
def yX12_leastOf : MethodName := ⟨RX12, "leastOf", "(II)I"⟩
abbrev cX12_sure : ByteArray := prog_14_method_106_code
def yX12_sure : MethodName := ⟨RX12, "sure", "(I)I"⟩
abbrev cX12_isRest : ByteArray := prog_14_method_107_code
def yX12_isRest : MethodName := ⟨RX12, "isRest", "(II)Z"⟩
abbrev cX12_rests : ByteArray := prog_14_method_108_code
def yX12_rests : MethodName := ⟨RX12, "rests", "(I)I"⟩
abbrev cX12_oddsFrom : ByteArray := prog_14_method_109_code
def yX12_oddsFrom : MethodName := ⟨RX12, "oddsFrom", "(IIIIIIII)I"⟩
abbrev cX12_odds : ByteArray := prog_14_method_110_code
def yX12_odds : MethodName := ⟨RX12, "odds", "(IIIII)I"⟩
abbrev cX12_shares : ByteArray := prog_14_method_111_code
def yX12_shares : MethodName := ⟨RX12, "shares", "(II)I"⟩
abbrev cX12_metSet : ByteArray := prog_14_method_112_code
def yX12_metSet : MethodName := ⟨RX12, "metSet", "()I"⟩
abbrev cX12_signedSet : ByteArray := prog_14_method_113_code
def yX12_signedSet : MethodName := ⟨RX12, "signedSet", "()I"⟩
abbrev cX12_topPair : ByteArray := prog_14_method_114_code
def yX12_topPair : MethodName := ⟨RX12, "topPair", "(I)I"⟩
abbrev cX12_topGlove : ByteArray := prog_14_method_115_code
def yX12_topGlove : MethodName := ⟨RX12, "topGlove", "(I)I"⟩
abbrev cX12_heaviest : ByteArray := prog_14_method_116_code
def yX12_heaviest : MethodName := ⟨RX12, "heaviest", "()I"⟩
abbrev cX12_bound : ByteArray := prog_14_method_117_code
def yX12_bound : MethodName := ⟨RX12, "bound", "()I"⟩
abbrev cX12_due : ByteArray := prog_14_method_118_code
def yX12_due : MethodName := ⟨RX12, "due", "()I"⟩
abbrev cX12_most : ByteArray := prog_14_method_119_code
def yX12_most : MethodName := ⟨RX12, "most", "(I)I"⟩
abbrev cX12_allies : ByteArray := prog_14_method_120_code
def yX12_allies : MethodName := ⟨RX12, "allies", "(I)I"⟩
abbrev cX12_image : ByteArray := prog_14_method_121_code
def yX12_image : MethodName := ⟨RX12, "image", "()I"⟩
abbrev cX12_back : ByteArray := prog_14_method_122_code
def yX12_back : MethodName := ⟨RX12, "back", "()I"⟩
abbrev cX12_count : ByteArray := prog_14_method_123_code
def yX12_count : MethodName := ⟨RX12, "count", "(I)I"⟩
def RJx145de : String := "java/io/Serializable"
def TJx145de : u_T := fun k => match k with
  | _ => ("", "", "", false)
def tyJx145de : Nat → FieldType := fun k => match k with
  | _ => .int
abbrev wsJx145de0 : List Cond := u_ws RJx145de TJx145de 0
theorem nmJx145de : ∀ a, a < 0 → ∀ b, b < 0 → a ≠ b → (TJx145de a).2.1 ≠ (TJx145de b).2.1 := by decide +kernel
theorem tyJx145de_ok : ∀ k, k < 0 → parseFieldDescriptor (TJx145de k).2.2.1 = some (tyJx145de k) := by decide +kernel
def RJ6 : String := "java/lang/Integer"
def TJ6 : u_T := fun k => match k with
  | _ => ("", "", "", false)
def tyJ6 : Nat → FieldType := fun k => match k with
  | _ => .int
abbrev wsJ60 : List Cond := u_ws RJ6 TJ6 0
theorem nmJ6 : ∀ a, a < 0 → ∀ b, b < 0 → a ≠ b → (TJ6 a).2.1 ≠ (TJ6 b).2.1 := by decide +kernel
theorem tyJ6_ok : ∀ k, k < 0 → parseFieldDescriptor (TJ6 k).2.2.1 = some (tyJ6 k) := by decide +kernel
abbrev cJ6_bitCount_0f7a4 : ByteArray := prog_17_method_49_code
def yJ6_bitCount_0f7a4 : MethodName := ⟨RJ6, "bitCount", "(I)I"⟩
def RJ9 : String := "java/lang/Math"
def TJ9 : u_T := fun k => match k with
  | _ => ("", "", "", false)
def tyJ9 : Nat → FieldType := fun k => match k with
  | _ => .int
abbrev wsJ90 : List Cond := u_ws RJ9 TJ9 0
theorem nmJ9 : ∀ a, a < 0 → ∀ b, b < 0 → a ≠ b → (TJ9 a).2.1 ≠ (TJ9 b).2.1 := by decide +kernel
theorem tyJ9_ok : ∀ k, k < 0 → parseFieldDescriptor (TJ9 k).2.2.1 = some (tyJ9 k) := by decide +kernel
abbrev cJ9_abs_0f7a4 : ByteArray := prog_18_method_59_code
def yJ9_abs_0f7a4 : MethodName := ⟨RJ9, "abs", "(I)I"⟩
abbrev cJ9_max_7cf53 : ByteArray := prog_18_method_65_code
def yJ9_max_7cf53 : MethodName := ⟨RJ9, "max", "(II)I"⟩
abbrev cJ9_max_f86c9 : ByteArray := prog_18_method_66_code
def yJ9_max_f86c9 : MethodName := ⟨RJ9, "max", "(JJ)J"⟩
abbrev cJ9_min_7cf53 : ByteArray := prog_18_method_69_code
def yJ9_min_7cf53 : MethodName := ⟨RJ9, "min", "(II)I"⟩
abbrev cJ9_min_f86c9 : ByteArray := prog_18_method_70_code
def yJ9_min_f86c9 : MethodName := ⟨RJ9, "min", "(JJ)J"⟩
def RJ0 : String := "java/lang/String"
def TJ0 : u_T := fun k => match k with
  | _ => ("", "", "", false)
def tyJ0 : Nat → FieldType := fun k => match k with
  | _ => .int
abbrev wsJ00 : List Cond := u_ws RJ0 TJ0 0
theorem nmJ0 : ∀ a, a < 0 → ∀ b, b < 0 → a ≠ b → (TJ0 a).2.1 ≠ (TJ0 b).2.1 := by decide +kernel
theorem tyJ0_ok : ∀ k, k < 0 → parseFieldDescriptor (TJ0 k).2.2.1 = some (tyJ0 k) := by decide +kernel
def RJ10 : String := "java/lang/System"
def TJ10 : u_T := fun k => match k with
  | _ => ("", "", "", false)
def tyJ10 : Nat → FieldType := fun k => match k with
  | _ => .int
abbrev wsJ100 : List Cond := u_ws RJ10 TJ10 0
theorem nmJ10 : ∀ a, a < 0 → ∀ b, b < 0 → a ≠ b → (TJ10 a).2.1 ≠ (TJ10 b).2.1 := by decide +kernel
theorem tyJ10_ok : ∀ k, k < 0 → parseFieldDescriptor (TJ10 k).2.2.1 = some (tyJ10 k) := by decide +kernel
def RL : String := "GloveHousesLaw"
abbrev cL_glove : ByteArray := method_3_code
def yL_glove : MethodName := ⟨RL, "glove", "(LGloveHouses;II[J)I"⟩
abbrev cL_law : ByteArray := code
def yL_law : MethodName := ⟨RL, "law", "([I)Z"⟩
def wsL_law0_r1 : List Cond := [Cond.classLink RL 8 RX11, Cond.instantiable RX11 18, Cond.initialized RX11, Cond.classLink RL 16 RX12, Cond.instantiable RX12 46, Cond.initialized RX12, Cond.arrayClass .long, Cond.constantLong RL 93 (4294967295), Cond.methodLink RL 15 yX11_init, Cond.instanceMethod yX11_init, Cond.code yX11_init cX11_init 1 none, Cond.methodLink RX11 1 objectInit, Cond.instanceMethod objectInit, Cond.code objectInit ⟨#[0xb1]⟩ 1 none, Cond.classLink RX11 7 RX10, Cond.instantiable RX10 3, Cond.initialized RX10, Cond.fieldLink RX11 10 "GloveHouses" "tape" "LGloveHouses$Tape;", Cond.classLink RX11 16 RX6, Cond.instantiable RX6 4, Cond.initialized RX6, Cond.fieldLink RX11 21 "GloveHouses" "peaceReader" "LGloveHouses$PeaceReader;", Cond.classLink RX11 25 RX1, Cond.instantiable RX1 3]
def wsL_law0_r2 : List Cond := [Cond.initialized RX1, Cond.fieldLink RX11 28 "GloveHouses" "lawReader" "LGloveHouses$LawReader;", Cond.classLink RX11 32 RX5, Cond.instantiable RX5 10, Cond.initialized RX5, Cond.fieldLink RX11 35 "GloveHouses" "told" "LGloveHouses$Peace;", Cond.classLink RX11 39 RX2, Cond.instantiable RX2 6, Cond.initialized RX2, Cond.fieldLink RX11 42 "GloveHouses" "laws" "LGloveHouses$Laws;", Cond.classLink RX11 46 RX9, Cond.instantiable RX9 3, Cond.initialized RX9, Cond.fieldLink RX11 51 "GloveHouses" "now" "LGloveHouses$State;", Cond.fieldLink RX11 55 "GloveHouses" "apart" "LGloveHouses$State;", Cond.classLink RX11 58 RX3, Cond.instantiable RX3 1, Cond.initialized RX3, Cond.fieldLink RX11 61 "GloveHouses" "book" "LGloveHouses$LogBook;", Cond.classLink RX11 65 RX0, Cond.instantiable RX0 3, Cond.initialized RX0, Cond.fieldLink RX11 68 "GloveHouses" "acts" "LGloveHouses$Acts;", Cond.fieldLink RX11 72 "GloveHouses" "imageState" "LGloveHouses$State;"]
def wsL_law0_r3 : List Cond := [Cond.fieldLink RX11 75 "GloveHouses" "imageBook" "LGloveHouses$LogBook;", Cond.classLink RX11 78 RX8, Cond.instantiable RX8 7, Cond.initialized RX8, Cond.fieldLink RX11 81 "GloveHouses" "sightings" "LGloveHouses$Sightings;", Cond.classLink RX11 85 RX4, Cond.instantiable RX4 7, Cond.initialized RX4, Cond.fieldLink RX11 90 "GloveHouses" "match" "LGloveHouses$Match;", Cond.classLink RX11 94 RX7, Cond.instantiable RX7 5, Cond.initialized RX7, Cond.fieldLink RX11 97 "GloveHouses" "quarrels" "LGloveHouses$Quarrels;", Cond.arrayClass .int, Cond.fieldLink RX11 101 "GloveHouses" "refused" "[I", Cond.fieldLink RX11 105 "GloveHouses" "imaged" "Z", Cond.fieldLink RX11 109 "GloveHouses" "spiteNow" "I", Cond.fieldLink RX11 113 "GloveHouses" "drawn" "J", Cond.instanceMethod yX10_init, Cond.code yX10_init cX10_init 1 none, Cond.methodLink RX10 3 objectInit, Cond.fieldLink RX10 9 "GloveHouses$Tape" "bytes" "[I", Cond.methodLink RX11 18 yX6_init, Cond.instanceMethod yX6_init]
def wsL_law0_r4 : List Cond := [Cond.code yX6_init cX6_init 2 none, Cond.methodLink RX6 3 objectInit, Cond.classLink RX6 9 RX5, Cond.fieldLink RX6 12 "GloveHouses$PeaceReader" "read" "LGloveHouses$Peace;", Cond.fieldLink RX6 18 "GloveHouses$PeaceReader" "values" "[I", Cond.fieldLink RX6 22 "GloveHouses$PeaceReader" "tape" "LGloveHouses$Tape;", Cond.instanceMethod yX5_init, Cond.code yX5_init cX5_init 1 none, Cond.methodLink RX5 3 objectInit, Cond.fieldLink RX5 9 "GloveHouses$Peace" "house" "[I", Cond.fieldLink RX5 15 "GloveHouses$Peace" "free" "[I", Cond.fieldLink RX5 18 "GloveHouses$Peace" "stuffed" "[I", Cond.fieldLink RX5 21 "GloveHouses$Peace" "after" "[I", Cond.fieldLink RX5 24 "GloveHouses$Peace" "weight" "[I", Cond.fieldLink RX5 27 "GloveHouses$Peace" "need" "[I", Cond.methodLink RX11 27 yX1_init, Cond.instanceMethod yX1_init, Cond.code yX1_init cX1_init 2 none, Cond.methodLink RX1 3 objectInit, Cond.fieldLink RX1 11 "GloveHouses$LawReader" "code" "[I", Cond.fieldLink RX1 17 "GloveHouses$LawReader" "tape" "LGloveHouses$Tape;", Cond.instanceMethod yX2_init, Cond.code yX2_init cX2_init 1 none, Cond.methodLink RX2 3 objectInit]
def wsL_law0_r5 : List Cond := [Cond.fieldLink RX2 9 "GloveHouses$Laws" "holds" "I", Cond.classLink RX2 15 "[[I", Cond.fieldLink RX2 17 "GloveHouses$Laws" "codes" "[[I", Cond.fieldLink RX2 20 "GloveHouses$Laws" "lengths" "[I", Cond.fieldLink RX2 24 "GloveHouses$Laws" "LETTERS" "[C", Cond.fieldLink RX2 28 "GloveHouses$Laws" "letters" "[I", Cond.fieldLink RX2 31 "GloveHouses$Laws" "stack" "[I", Cond.methodLink RX11 48 yX9_init, Cond.instanceMethod yX9_init, Cond.code yX9_init cX9_init 3 none, Cond.methodLink RX9 3 objectInit, Cond.fieldLink RX9 11 "GloveHouses$State" "cells" "[I", Cond.fieldLink RX9 15 "GloveHouses$State" "told" "LGloveHouses$Peace;", Cond.fieldLink RX9 19 "GloveHouses$State" "laws" "LGloveHouses$Laws;", Cond.instanceMethod yX3_init, Cond.code yX3_init cX3_init 1 none, Cond.methodLink RX3 1 objectInit, Cond.fieldLink RX3 9 "GloveHouses$LogBook" "rows" "[I", Cond.instanceMethod yX0_init, Cond.code yX0_init cX0_init 1 none, Cond.methodLink RX0 1 objectInit, Cond.fieldLink RX0 11 "GloveHouses$Acts" "rows" "[I", Cond.methodLink RX11 80 yX8_init, Cond.instanceMethod yX8_init]
def wsL_law0_r6 : List Cond := [Cond.code yX8_init cX8_init 3 none, Cond.methodLink RX8 3 objectInit, Cond.fieldLink RX8 11 "GloveHouses$Sightings" "ones" "[I", Cond.fieldLink RX8 15 "GloveHouses$Sightings" "others" "[I", Cond.fieldLink RX8 18 "GloveHouses$Sightings" "bounds" "[I", Cond.arrayClass .boolean, Cond.fieldLink RX8 21 "GloveHouses$Sightings" "reached" "[Z", Cond.fieldLink RX8 25 "GloveHouses$Sightings" "told" "LGloveHouses$Peace;", Cond.fieldLink RX8 29 "GloveHouses$Sightings" "laws" "LGloveHouses$Laws;", Cond.methodLink RX11 87 yX4_init, Cond.instanceMethod yX4_init, Cond.code yX4_init cX4_init 2 none, Cond.methodLink RX4 3 objectInit, Cond.fieldLink RX4 9 "GloveHouses$Match" "unmet" "[I", Cond.fieldLink RX4 15 "GloveHouses$Match" "rise" "[I", Cond.fieldLink RX4 18 "GloveHouses$Match" "told" "LGloveHouses$Peace;", Cond.instanceMethod yX7_init, Cond.code yX7_init cX7_init 1 none, Cond.methodLink RX7 3 objectInit, Cond.methodLink RL 18 yX12_init, Cond.instanceMethod yX12_init, Cond.code yX12_init cX12_init 1 none, Cond.methodLink RX12 3 objectInit, Cond.fieldLink RX12 9 "GloveHousesModel" "tape" "[I"]
def wsL_law0_r7 : List Cond := [Cond.fieldLink RX12 13 "GloveHousesModel" "code" "[I", Cond.fieldLink RX12 16 "GloveHousesModel" "value" "[I", Cond.fieldLink RX12 19 "GloveHousesModel" "codes" "[I", Cond.fieldLink RX12 22 "GloveHousesModel" "clauses" "[I", Cond.fieldLink RX12 25 "GloveHousesModel" "testFrom" "[I", Cond.fieldLink RX12 28 "GloveHousesModel" "sumFrom" "[I", Cond.fieldLink RX12 31 "GloveHousesModel" "sumTo" "[I", Cond.fieldLink RX12 34 "GloveHousesModel" "letters" "[I", Cond.fieldLink RX12 37 "GloveHousesModel" "stack" "[I", Cond.fieldLink RX12 40 "GloveHousesModel" "readRule" "[I", Cond.fieldLink RX12 43 "GloveHousesModel" "readGlove" "[I", Cond.fieldLink RX12 46 "GloveHousesModel" "readMatter" "[I", Cond.fieldLink RX12 49 "GloveHousesModel" "rule" "[I", Cond.fieldLink RX12 52 "GloveHousesModel" "glove" "[I", Cond.fieldLink RX12 55 "GloveHousesModel" "matter" "[I", Cond.fieldLink RX12 58 "GloveHousesModel" "now" "[I", Cond.fieldLink RX12 61 "GloveHousesModel" "refused" "[I", Cond.fieldLink RX12 64 "GloveHousesModel" "holding" "I", Cond.fieldLink RX12 68 "GloveHousesModel" "spiteful" "I", Cond.fieldLink RX12 71 "GloveHousesModel" "kept" "[I", Cond.fieldLink RX12 74 "GloveHousesModel" "with" "[I", Cond.fieldLink RX12 77 "GloveHousesModel" "aside" "[I", Cond.fieldLink RX12 80 "GloveHousesModel" "noteOne" "[I", Cond.fieldLink RX12 83 "GloveHousesModel" "noteOther" "[I"]
def wsL_law0_r8 : List Cond := [Cond.fieldLink RX12 86 "GloveHousesModel" "noteRise" "[I", Cond.fieldLink RX12 89 "GloveHousesModel" "noteIs" "[Z", Cond.fieldLink RX12 93 "GloveHousesModel" "image" "[I", Cond.methodLink RL 19 yX11_feed, Cond.instanceMethod yX11_feed, Cond.selects RX11 yX11_feed yX11_feed, Cond.code yX11_feed cX11_feed 7 (some .int), Cond.fieldLink RX11 121 "GloveHouses$Tape" "length" "I", Cond.methodLink RX11 117 yX10_bytesOf, Cond.static yX10_bytesOf, Cond.code yX10_bytesOf cX10_bytesOf 3 (some .int), Cond.methodLink RX11 124 yX10_put, Cond.instanceMethod yX10_put, Cond.selects RX10 yX10_put yX10_put, Cond.code yX10_put cX10_put 4 none, Cond.fieldLink RX10 15 "GloveHouses$Tape" "length" "I", Cond.methodLink RL 23 yX12_feed, Cond.instanceMethod yX12_feed, Cond.selects RX12 yX12_feed yX12_feed, Cond.code yX12_feed cX12_feed 9 (some .int), Cond.fieldLink RX12 103 "GloveHousesModel" "size" "I", Cond.methodLink RX12 99 yX12_byteOf, Cond.static yX12_byteOf, Cond.code yX12_byteOf cX12_byteOf 7 (some .int)]
def wsL_law0_r9 : List Cond := [Cond.methodLink RL 24 yX11_end, Cond.instanceMethod yX11_end, Cond.selects RX11 yX11_end yX11_end, Cond.code yX11_end cX11_end 2 (some .boolean), Cond.methodLink RL 28 yX12_end, Cond.instanceMethod yX12_end, Cond.selects RX12 yX12_end yX12_end, Cond.code yX12_end cX12_end 2 (some .boolean), Cond.methodLink RL 29 yX11_fault, Cond.instanceMethod yX11_fault, Cond.selects RX11 yX11_fault yX11_fault, Cond.code yX11_fault cX11_fault 3 (some .int), Cond.fieldLink RX11 133 "GloveHouses$Tape" "at" "I", Cond.methodLink RX11 128 yX6_readsAll, Cond.instanceMethod yX6_readsAll, Cond.selects RX6 yX6_readsAll yX6_readsAll, Cond.code yX6_readsAll cX6_readsAll 2 (some .boolean), Cond.fieldLink RX6 26 "GloveHouses$Tape" "at" "I", Cond.fieldLink RX6 32 "GloveHouses$PeaceReader" "ruled" "Z", Cond.fieldLink RX6 36 "GloveHouses$Peace" "gloves" "I", Cond.fieldLink RX6 39 "GloveHouses$Peace" "matters" "I", Cond.fieldLink RX6 42 "GloveHouses$PeaceReader" "USUAL" "[I", Cond.fieldLink RX6 45 "GloveHouses$Peace" "pride" "I", Cond.fieldLink RX6 48 "GloveHouses$Peace" "coins" "I"]
def wsL_law0_r10 : List Cond := [Cond.methodLink RX6 51 yX6_readsClause, Cond.instanceMethod yX6_readsClause, Cond.selects RX6 yX6_readsClause yX6_readsClause, Cond.code yX6_readsClause cX6_readsClause 2 (some .boolean), Cond.methodLink RX6 55 yX10_sign, Cond.instanceMethod yX10_sign, Cond.selects RX10 yX10_sign yX10_sign, Cond.code yX10_sign cX10_sign 1 (some .int), Cond.fieldLink RX10 19 "GloveHouses$Tape" "at" "I", Cond.methodLink RX6 67 yX6_kindOf, Cond.static yX6_kindOf, Cond.code yX6_kindOf cX6_kindOf 1 (some .int), Cond.methodLink RX6 70 yX6_isTooMany, Cond.instanceMethod yX6_isTooMany, Cond.selects RX6 yX6_isTooMany yX6_isTooMany, Cond.code yX6_isTooMany cX6_isTooMany 2 (some .boolean), Cond.methodLink RX6 73 yX6_readsItems, Cond.instanceMethod yX6_readsItems, Cond.selects RX6 yX6_readsItems yX6_readsItems, Cond.code yX6_readsItems cX6_readsItems 6 (some .boolean), Cond.methodLink RX6 80 arraycopyName, Cond.native arraycopyName, Cond.static arraycopyName, Cond.initialized "java/lang/System"]
def wsL_law0_r11 : List Cond := [Cond.methodLink RX6 86 yX6_itemOf, Cond.static yX6_itemOf, Cond.code yX6_itemOf cX6_itemOf 3 (some .int), Cond.fieldLink RX6 94 "GloveHouses$PeaceReader" "LETTERS" "[C", Cond.methodLink RX6 90 yX6_readsValue, Cond.instanceMethod yX6_readsValue, Cond.selects RX6 yX6_readsValue yX6_readsValue, Cond.code yX6_readsValue cX6_readsValue 4 (some .boolean), Cond.fieldLink RX6 101 "GloveHouses$PeaceReader" "MOST" "[I", Cond.methodLink RX6 98 yX10_number, Cond.instanceMethod yX10_number, Cond.selects RX10 yX10_number yX10_number, Cond.code yX10_number cX10_number 4 (some .int), Cond.methodLink RX10 22 yX10_sign, Cond.methodLink RX10 26 yX10_isAtDigit, Cond.instanceMethod yX10_isAtDigit, Cond.selects RX10 yX10_isAtDigit yX10_isAtDigit, Cond.code yX10_isAtDigit cX10_isAtDigit 1 (some .boolean), Cond.methodLink RX6 76 yX6_keep, Cond.instanceMethod yX6_keep, Cond.selects RX6 yX6_keep yX6_keep, Cond.code yX6_keep cX6_keep 2 none, Cond.fieldLink RX6 104 "GloveHouses$Peace" "house" "[I", Cond.fieldLink RX6 107 "GloveHouses$Peace" "free" "[I"]
def wsL_law0_r12 : List Cond := [Cond.fieldLink RX6 110 "GloveHouses$Peace" "stuffed" "[I", Cond.fieldLink RX6 113 "GloveHouses$Peace" "after" "[I", Cond.fieldLink RX6 116 "GloveHouses$Peace" "weight" "[I", Cond.fieldLink RX6 119 "GloveHouses$Peace" "need" "[I", Cond.methodLink RX6 59 yX5_sizeOf, Cond.instanceMethod yX5_sizeOf, Cond.selects RX5 yX5_sizeOf yX5_sizeOf, Cond.code yX5_sizeOf cX5_sizeOf 4 (some .int), Cond.fieldLink RX5 30 "GloveHouses$Peace" "gloves" "I", Cond.methodLink RX6 63 yX10_take, Cond.instanceMethod yX10_take, Cond.selects RX10 yX10_take yX10_take, Cond.code yX10_take cX10_take 2 (some .boolean), Cond.methodLink RX11 132 yX1_readsAll, Cond.instanceMethod yX1_readsAll, Cond.selects RX1 yX1_readsAll yX1_readsAll, Cond.code yX1_readsAll cX1_readsAll 2 (some .boolean), Cond.fieldLink RX1 21 "GloveHouses$Tape" "at" "I", Cond.fieldLink RX1 27 "GloveHouses$LawReader" "size" "I", Cond.methodLink RX1 30 yX1_readsClause, Cond.instanceMethod yX1_readsClause, Cond.selects RX1 yX1_readsClause yX1_readsClause, Cond.code yX1_readsClause cX1_readsClause 3 (some .boolean), Cond.methodLink RX1 38 yX10_take]
def wsL_law0_r13 : List Cond := [Cond.methodLink RX1 34 yX10_sign, Cond.methodLink RX1 42 yX1_readsCondition, Cond.instanceMethod yX1_readsCondition, Cond.selects RX1 yX1_readsCondition yX1_readsCondition, Cond.code yX1_readsCondition cX1_readsCondition 2 (some .boolean), Cond.methodLink RX1 64 yX1_readsUnit, Cond.instanceMethod yX1_readsUnit, Cond.selects RX1 yX1_readsUnit yX1_readsUnit, Cond.methodLink RX1 55 yX1_readsMoreUnits, Cond.instanceMethod yX1_readsMoreUnits, Cond.selects RX1 yX1_readsMoreUnits yX1_readsMoreUnits, Cond.methodLink RX1 58 yX1_readsMoreTruths, Cond.instanceMethod yX1_readsMoreTruths, Cond.selects RX1 yX1_readsMoreTruths yX1_readsMoreTruths, Cond.code yX1_readsMoreTruths cX1_readsMoreTruths 3 (some .boolean), Cond.methodLink RX1 61 yX1_put, Cond.instanceMethod yX1_put, Cond.selects RX1 yX1_put yX1_put, Cond.code yX1_put cX1_put 2 (some .boolean), Cond.code yX1_readsMoreUnits cX1_readsMoreUnits 3 (some .boolean), Cond.code yX1_readsUnit cX1_readsUnit 3 (some .boolean), Cond.methodLink RX1 45 yX1_readsSum, Cond.instanceMethod yX1_readsSum, Cond.selects RX1 yX1_readsSum yX1_readsSum]
def wsL_law0_r14 : List Cond := [Cond.code yX1_readsSum cX1_readsSum 4 (some .boolean), Cond.methodLink RX1 67 yX1_readsTerm, Cond.instanceMethod yX1_readsTerm, Cond.selects RX1 yX1_readsTerm yX1_readsTerm, Cond.code yX1_readsAtom cX1_readsAtom 5 (some .boolean), Cond.methodLink RX1 73 yX2_letter, Cond.static yX2_letter, Cond.code yX2_letter cX2_letter 2 (some .int), Cond.methodLink RX1 76 yX10_number, Cond.code yX1_readsTerm cX1_readsTerm 4 (some .boolean), Cond.methodLink RX1 70 yX1_readsAtom, Cond.instanceMethod yX1_readsAtom, Cond.selects RX1 yX1_readsAtom yX1_readsAtom, Cond.methodLink RX1 52 yX1_readsComparison, Cond.instanceMethod yX1_readsComparison, Cond.selects RX1 yX1_readsComparison yX1_readsComparison, Cond.code yX1_readsComparison cX1_readsComparison 3 (some .boolean), Cond.methodLink RX1 48 yX1_comparison, Cond.static yX1_comparison, Cond.code yX1_comparison cX1_comparison 1 (some .int), Cond.methodLink RL 33 yX12_fault, Cond.instanceMethod yX12_fault, Cond.selects RX12 yX12_fault yX12_fault, Cond.code yX12_fault cX12_fault 2 (some .int)]
def wsL_law0_r15 : List Cond := [Cond.methodLink RX12 246 yX12_readPeace, Cond.instanceMethod yX12_readPeace, Cond.selects RX12 yX12_readPeace yX12_readPeace, Cond.code yX12_readPeace cX12_readPeace 4 (some .int), Cond.fieldLink RX12 106 "GloveHousesModel" "at" "I", Cond.fieldLink RX12 113 "GloveHousesModel" "wrong" "I", Cond.fieldLink RX12 232 "GloveHousesModel" "readGloves" "I", Cond.fieldLink RX12 235 "GloveHousesModel" "readMatters" "I", Cond.methodLink RX12 215 yX12_usual, Cond.static yX12_usual, Cond.code yX12_usual cX12_usual 2 (some .int), Cond.methodLink RX12 125 yX12_look, Cond.instanceMethod yX12_look, Cond.selects RX12 yX12_look yX12_look, Cond.code yX12_look cX12_look 1 (some .int), Cond.methodLink RX12 109 yX12_here, Cond.instanceMethod yX12_here, Cond.selects RX12 yX12_here yX12_here, Cond.code yX12_here cX12_here 1 (some .int), Cond.methodLink RX12 238 yX12_items, Cond.instanceMethod yX12_items, Cond.selects RX12 yX12_items yX12_items, Cond.code yX12_items cX12_items 7 none, Cond.methodLink RX12 219 yX12_itemOf]
def wsL_law0_r16 : List Cond := [Cond.static yX12_itemOf, Cond.code yX12_itemOf cX12_itemOf 2 (some .int), Cond.methodLink RX12 222 yX12_has, Cond.static yX12_has, Cond.code yX12_has cX12_has 2 (some .boolean), Cond.methodLink RX12 226 yX12_highest, Cond.static yX12_highest, Cond.code yX12_highest cX12_highest 2 (some .int), Cond.methodLink RX12 229 yX12_number, Cond.instanceMethod yX12_number, Cond.selects RX12 yX12_number yX12_number, Cond.code yX12_number cX12_number 4 (some .int), Cond.methodLink RX12 128 yX12_isDigit, Cond.static yX12_isDigit, Cond.code yX12_isDigit cX12_isDigit 1 (some .boolean), Cond.methodLink RX12 122 yX12_bad, Cond.instanceMethod yX12_bad, Cond.selects RX12 yX12_bad yX12_bad, Cond.code yX12_bad cX12_bad 1 none, Cond.methodLink RX12 211 yX12_in, Cond.static yX12_in, Cond.code yX12_in cX12_in 3 (some .boolean), Cond.methodLink RX12 242 yX12_isWhole, Cond.instanceMethod yX12_isWhole]
def wsL_law0_r17 : List Cond := [Cond.selects RX12 yX12_isWhole yX12_isWhole, Cond.code yX12_isWhole cX12_isWhole 3 (some .boolean), Cond.methodLink RX12 249 yX12_readLaw, Cond.instanceMethod yX12_readLaw, Cond.selects RX12 yX12_readLaw yX12_readLaw, Cond.code yX12_readLaw cX12_readLaw 2 (some .int), Cond.methodLink RX12 177 yX12_open, Cond.instanceMethod yX12_open, Cond.selects RX12 yX12_open yX12_open, Cond.code yX12_open cX12_open 2 none, Cond.fieldLink RX12 116 "GloveHousesModel" "text" "I", Cond.fieldLink RX12 119 "GloveHousesModel" "deep" "I", Cond.methodLink RX12 180 yX12_clause, Cond.instanceMethod yX12_clause, Cond.selects RX12 yX12_clause yX12_clause, Cond.code yX12_clause cX12_clause 3 none, Cond.methodLink RX12 165 yX12_condition, Cond.instanceMethod yX12_condition, Cond.selects RX12 yX12_condition yX12_condition, Cond.code yX12_condition cX12_condition 1 none, Cond.methodLink RX12 162 yX12_unit, Cond.instanceMethod yX12_unit, Cond.selects RX12 yX12_unit yX12_unit, Cond.methodLink RX12 171 yX12_goOnAnd]
def wsL_law0_r18 : List Cond := [Cond.instanceMethod yX12_goOnAnd, Cond.selects RX12 yX12_goOnAnd yX12_goOnAnd, Cond.methodLink RX12 174 yX12_goOnOr, Cond.instanceMethod yX12_goOnOr, Cond.selects RX12 yX12_goOnOr yX12_goOnOr, Cond.code yX12_goOnAnd cX12_goOnAnd 1 none, Cond.methodLink RX12 135 yX12_put, Cond.instanceMethod yX12_put, Cond.selects RX12 yX12_put yX12_put, Cond.code yX12_put cX12_put 3 none, Cond.code yX12_goOnOr cX12_goOnOr 1 none, Cond.code yX12_unit cX12_unit 2 none, Cond.methodLink RX12 143 yX12_opens, Cond.instanceMethod yX12_opens, Cond.selects RX12 yX12_opens yX12_opens, Cond.code yX12_opens cX12_opens 1 none, Cond.methodLink RX12 149 yX12_closes, Cond.instanceMethod yX12_closes, Cond.selects RX12 yX12_closes yX12_closes, Cond.code yX12_closes cX12_closes 2 none, Cond.methodLink RX12 146 yX12_sum, Cond.instanceMethod yX12_sum, Cond.selects RX12 yX12_sum yX12_sum, Cond.code yX12_sum cX12_sum 2 none]
def wsL_law0_r19 : List Cond := [Cond.methodLink RX12 156 yX12_term, Cond.instanceMethod yX12_term, Cond.selects RX12 yX12_term yX12_term, Cond.code yX12_atom cX12_atom 2 none, Cond.methodLink RX12 132 yX12_plainNumber, Cond.instanceMethod yX12_plainNumber, Cond.selects RX12 yX12_plainNumber yX12_plainNumber, Cond.code yX12_plainNumber cX12_plainNumber 3 (some .int), Cond.methodLink RX12 139 yX12_letterOf, Cond.static yX12_letterOf, Cond.code yX12_letterOf cX12_letterOf 1 (some .int), Cond.code yX12_term cX12_term 2 none, Cond.methodLink RX12 153 yX12_atom, Cond.instanceMethod yX12_atom, Cond.selects RX12 yX12_atom yX12_atom, Cond.methodLink RX12 168 yX12_compare, Cond.instanceMethod yX12_compare, Cond.selects RX12 yX12_compare yX12_compare, Cond.code yX12_compare cX12_compare 2 none, Cond.methodLink RX12 159 yX12_isSign, Cond.static yX12_isSign, Cond.code yX12_isSign cX12_isSign 1 (some .boolean), Cond.methodLink RX12 183 yX12_atEnd, Cond.instanceMethod yX12_atEnd]
def wsL_law0_r20 : List Cond := [Cond.selects RX12 yX12_atEnd yX12_atEnd, Cond.code yX12_atEnd cX12_atEnd 1 (some .int), Cond.methodLink RL 34 yX11_text, Cond.instanceMethod yX11_text, Cond.selects RX11 yX11_text yX11_text, Cond.code yX11_text cX11_text 2 (some .int), Cond.methodLink RX11 136 yX11_takePeace, Cond.instanceMethod yX11_takePeace, Cond.selects RX11 yX11_takePeace yX11_takePeace, Cond.code yX11_takePeace cX11_takePeace 1 (some .int), Cond.fieldLink RX11 393 "GloveHouses$PeaceReader" "read" "LGloveHouses$Peace;", Cond.fieldLink RX11 309 "GloveHouses$Sightings" "size" "I", Cond.fieldLink RX11 269 "GloveHouses$Peace" "gloves" "I", Cond.methodLink RX11 395 yX5_copyFrom, Cond.instanceMethod yX5_copyFrom, Cond.selects RX5 yX5_copyFrom yX5_copyFrom, Cond.code yX5_copyFrom cX5_copyFrom 2 none, Cond.fieldLink RX5 34 "GloveHouses$Peace" "matters" "I", Cond.fieldLink RX5 37 "GloveHouses$Peace" "pride" "I", Cond.fieldLink RX5 40 "GloveHouses$Peace" "coins" "I", Cond.methodLink RX5 43 arraycopyName, Cond.methodLink RX11 397 yX9_begin, Cond.instanceMethod yX9_begin, Cond.selects RX9 yX9_begin yX9_begin]
def wsL_law0_r21 : List Cond := [Cond.code yX9_begin cX9_begin 2 none, Cond.fieldLink RX9 29 "GloveHouses$Peace" "free" "[I", Cond.fieldLink RX9 34 "GloveHouses$Peace" "stuffed" "[I", Cond.fieldLink RX9 37 "GloveHouses$Peace" "pride" "I", Cond.fieldLink RX9 41 "GloveHouses$Peace" "coins" "I", Cond.methodLink RX11 379 yX0_forget, Cond.instanceMethod yX0_forget, Cond.selects RX0 yX0_forget yX0_forget, Cond.code yX0_forget cX0_forget 1 none, Cond.fieldLink RX0 28 "GloveHouses$Acts" "size" "I", Cond.methodLink RX11 140 yX2_isFull, Cond.instanceMethod yX2_isFull, Cond.selects RX2 yX2_isFull yX2_isFull, Cond.code yX2_isFull cX2_isFull 1 (some .boolean), Cond.fieldLink RX2 34 "GloveHouses$Laws" "size" "I", Cond.methodLink RX11 143 yX11_takeLaw, Cond.instanceMethod yX11_takeLaw, Cond.selects RX11 yX11_takeLaw yX11_takeLaw, Cond.code yX11_takeLaw cX11_takeLaw 1 (some .int), Cond.fieldLink RX11 400 "GloveHouses$LawReader" "code" "[I", Cond.fieldLink RX11 403 "GloveHouses$LawReader" "size" "I", Cond.fieldLink RX11 204 "GloveHouses$Laws" "size" "I", Cond.methodLink RX11 404 yX2_add, Cond.instanceMethod yX2_add]
def wsL_law0_r22 : List Cond := [Cond.selects RX2 yX2_add yX2_add, Cond.code yX2_add cX2_add 3 none, Cond.methodLink RX2 41 arraycopyName, Cond.methodLink RX2 37 yX2_isFull, Cond.methodLink RL 37 yX12_text, Cond.instanceMethod yX12_text, Cond.selects RX12 yX12_text yX12_text, Cond.code yX12_text cX12_text 2 (some .int), Cond.fieldLink RX12 274 "GloveHousesModel" "laws" "I", Cond.methodLink RX12 271 yX12_takePeace, Cond.instanceMethod yX12_takePeace, Cond.selects RX12 yX12_takePeace yX12_takePeace, Cond.code yX12_takePeace cX12_takePeace 2 (some .int), Cond.fieldLink RX12 252 "GloveHousesModel" "gloves" "I", Cond.fieldLink RX12 255 "GloveHousesModel" "matters" "I", Cond.fieldLink RX12 261 "GloveHousesModel" "noted" "I", Cond.fieldLink RX12 264 "GloveHousesModel" "acts" "I", Cond.fieldLink RX12 267 "GloveHousesModel" "hasImage" "Z", Cond.methodLink RX12 258 yX12_of, Cond.instanceMethod yX12_of, Cond.selects RX12 yX12_of yX12_of, Cond.code yX12_of cX12_of 3 (some .int), Cond.methodLink RL 38 yX11_rule, Cond.instanceMethod yX11_rule]
def wsL_law0_r23 : List Cond := [Cond.selects RX11 yX11_rule yX11_rule, Cond.code yX11_rule cX11_rule 2 (some .int), Cond.methodLink RX11 146 yX11_noPeace, Cond.instanceMethod yX11_noPeace, Cond.selects RX11 yX11_noPeace yX11_noPeace, Cond.code yX11_noPeace cX11_noPeace 1 (some .boolean), Cond.methodLink RX11 149 yX9_pride, Cond.instanceMethod yX9_pride, Cond.selects RX9 yX9_pride yX9_pride, Cond.code yX9_pride cX9_pride 1 (some .int), Cond.methodLink RX11 152 yX9_coins, Cond.instanceMethod yX9_coins, Cond.selects RX9 yX9_coins yX9_coins, Cond.code yX9_coins cX9_coins 1 (some .int), Cond.methodLink RL 41 yX12_rule, Cond.instanceMethod yX12_rule, Cond.selects RX12 yX12_rule yX12_rule, Cond.code yX12_rule cX12_rule 2 (some .int), Cond.methodLink RL 42 yL_glove, Cond.static yL_glove, Cond.initialized RL, Cond.codeWith yL_glove cL_glove 5 (some .int) [(0, 10, 13, 13)], Cond.classLink RL 13 "java/util/NoSuchElementException", Cond.methodLink RL 7 yX11_glove]
def wsL_law0_r24 : List Cond := [Cond.instanceMethod yX11_glove, Cond.selects RX11 yX11_glove yX11_glove, Cond.code yX11_glove cX11_glove 3 (some .int), Cond.classLink RX11 159 "java/util/NoSuchElementException", Cond.initialized "java/util/NoSuchElementException", Cond.fieldLink RX11 166 "GloveHouses$Peace" "house" "[I", Cond.fieldLink RX11 175 "GloveHouses$Peace" "after" "[I", Cond.methodLink RX11 155 yX5_hasGlove, Cond.instanceMethod yX5_hasGlove, Cond.selects RX5 yX5_hasGlove yX5_hasGlove, Cond.code yX5_hasGlove cX5_hasGlove 2 (some .boolean), Cond.methodLink RX11 169 yX9_free, Cond.instanceMethod yX9_free, Cond.selects RX9 yX9_free yX9_free, Cond.code yX9_free cX9_free 2 (some .int), Cond.methodLink RX11 172 yX9_stuffed, Cond.instanceMethod yX9_stuffed, Cond.selects RX9 yX9_stuffed yX9_stuffed, Cond.code yX9_stuffed cX9_stuffed 2 (some .int), Cond.methodLink RX11 178 yX9_hasMet, Cond.instanceMethod yX9_hasMet, Cond.selects RX9 yX9_hasMet yX9_hasMet, Cond.code yX9_hasMet cX9_hasMet 2 (some .boolean), Cond.methodLink RX11 181 yX9_knows]
def wsL_law0_r25 : List Cond := [Cond.instanceMethod yX9_knows, Cond.selects RX9 yX9_knows yX9_knows, Cond.code yX9_knows cX9_knows 2 (some .int), Cond.methodLink RL 47 yX12_glove, Cond.instanceMethod yX12_glove, Cond.selects RX12 yX12_glove yX12_glove, Cond.code yX12_glove cX12_glove 3 (some .int), Cond.fieldLink RX12 96 "GloveHousesModel" "thrown" "I", Cond.methodLink RX12 277 yX12_isGlove, Cond.instanceMethod yX12_isGlove, Cond.selects RX12 yX12_isGlove yX12_isGlove, Cond.code yX12_isGlove cX12_isGlove 2 (some .boolean), Cond.methodLink RX12 313 yX12_isFree, Cond.instanceMethod yX12_isFree, Cond.selects RX12 yX12_isFree yX12_isFree, Cond.code yX12_isFree cX12_isFree 2 (some .boolean), Cond.methodLink RL 48 yX11_matter, Cond.instanceMethod yX11_matter, Cond.selects RX11 yX11_matter yX11_matter, Cond.code yX11_matter cX11_matter 3 (some .int), Cond.fieldLink RX11 190 "GloveHouses$Peace" "weight" "[I", Cond.fieldLink RX11 193 "GloveHouses$Peace" "need" "[I", Cond.methodLink RX11 184 yX5_hasMatter, Cond.instanceMethod yX5_hasMatter]
def wsL_law0_r26 : List Cond := [Cond.selects RX5 yX5_hasMatter yX5_hasMatter, Cond.code yX5_hasMatter cX5_hasMatter 2 (some .boolean), Cond.methodLink RX11 187 yX9_signers, Cond.instanceMethod yX9_signers, Cond.selects RX9 yX9_signers yX9_signers, Cond.code yX9_signers cX9_signers 2 (some .int), Cond.methodLink RL 51 yX12_matter, Cond.instanceMethod yX12_matter, Cond.selects RX12 yX12_matter yX12_matter, Cond.code yX12_matter cX12_matter 3 (some .int), Cond.methodLink RX12 331 yX12_isMatter, Cond.instanceMethod yX12_isMatter, Cond.selects RX12 yX12_isMatter yX12_isMatter, Cond.code yX12_isMatter cX12_isMatter 2 (some .boolean), Cond.methodLink RL 52 yX11_warmth, Cond.instanceMethod yX11_warmth, Cond.selects RX11 yX11_warmth yX11_warmth, Cond.code yX11_warmth cX11_warmth 3 (some .int), Cond.methodLink RX11 196 yX5_unlike, Cond.instanceMethod yX5_unlike, Cond.selects RX5 yX5_unlike yX5_unlike, Cond.code yX5_unlike cX5_unlike 3 (some .boolean), Cond.methodLink RX5 49 yX5_hasGlove, Cond.methodLink RX11 200 yX9_warmthOf]
def wsL_law0_r27 : List Cond := [Cond.instanceMethod yX9_warmthOf, Cond.selects RX9 yX9_warmthOf yX9_warmthOf, Cond.code yX9_warmthOf cX9_warmthOf 3 (some .int), Cond.methodLink RX9 50 yX9_placeOf, Cond.static yX9_placeOf, Cond.code yX9_placeOf cX9_placeOf 2 (some .int), Cond.methodLink RL 55 yX12_warmth, Cond.instanceMethod yX12_warmth, Cond.selects RX12 yX12_warmth yX12_warmth, Cond.code yX12_warmth cX12_warmth 3 (some .int), Cond.methodLink RX12 316 yX12_areTwo, Cond.instanceMethod yX12_areTwo, Cond.selects RX12 yX12_areTwo yX12_areTwo, Cond.code yX12_areTwo cX12_areTwo 3 (some .boolean), Cond.methodLink RX12 294 yX12_pairAt, Cond.static yX12_pairAt, Cond.code yX12_pairAt cX12_pairAt 2 (some .int), Cond.methodLink RX12 280 Lib.Math.min.name, Cond.static Lib.Math.min.name, Cond.initialized "java/lang/Math", Cond.code Lib.Math.min.name Lib.Math.min.code 2 (some .int), Cond.methodLink RX12 282 Lib.Math.max.name, Cond.static Lib.Math.max.name, Cond.code Lib.Math.max.name Lib.Math.max.code 2 (some .int)]
def wsL_law0_r28 : List Cond := [Cond.methodLink RL 56 yX11_law, Cond.instanceMethod yX11_law, Cond.selects RX11 yX11_law yX11_law, Cond.code yX11_law cX11_law 2 (some .boolean), Cond.fieldLink RX11 207 "GloveHouses$Laws" "holds" "I", Cond.methodLink RL 59 yX12_law, Cond.instanceMethod yX12_law, Cond.selects RX12 yX12_law yX12_law, Cond.code yX12_law cX12_law 2 (some .boolean), Cond.methodLink RL 60 yX11_meets, Cond.instanceMethod yX11_meets, Cond.selects RX11 yX11_meets yX11_meets, Cond.code yX11_meets cX11_meets 3 (some .int), Cond.methodLink RX11 210 yX11_refuse, Cond.instanceMethod yX11_refuse, Cond.selects RX11 yX11_refuse yX11_refuse, Cond.code yX11_refuse cX11_refuse 2 (some .int), Cond.methodLink RX11 213 yX0_keep, Cond.instanceMethod yX0_keep, Cond.selects RX0 yX0_keep yX0_keep, Cond.code yX0_keep cX0_keep 2 none, Cond.fieldLink RX0 15 "GloveHouses$State" "cells" "[I", Cond.fieldLink RX0 18 "GloveHouses$Acts" "next" "I", Cond.methodLink RX0 22 arraycopyName]
def wsL_law0_r29 : List Cond := [Cond.methodLink RX0 31 Lib.Math.min.name, Cond.methodLink RX11 217 yX9_pay, Cond.instanceMethod yX9_pay, Cond.selects RX9 yX9_pay yX9_pay, Cond.code yX9_pay cX9_pay 2 none, Cond.methodLink RX11 220 yX9_meet, Cond.instanceMethod yX9_meet, Cond.selects RX9 yX9_meet yX9_meet, Cond.code yX9_meet cX9_meet 4 none, Cond.methodLink RX9 53 yX9_warmthOf, Cond.methodLink RX9 83 yX9_warmer, Cond.instanceMethod yX9_warmer, Cond.selects RX9 yX9_warmer yX9_warmer, Cond.code yX9_warmer cX9_warmer 6 (some .int), Cond.methodLink RX9 44 Lib.Math.min.name, Cond.methodLink RX9 80 Lib.Math.max.name, Cond.methodLink RX9 56 yX9_day, Cond.instanceMethod yX9_day, Cond.selects RX9 yX9_day yX9_day, Cond.code yX9_day cX9_day 1 (some .int), Cond.methodLink RX9 60 yX9_riseAt, Cond.instanceMethod yX9_riseAt, Cond.selects RX9 yX9_riseAt yX9_riseAt, Cond.code yX9_riseAt cX9_riseAt 5 (some .int)]
def wsL_law0_r30 : List Cond := [Cond.methodLink RX9 64 yX9_free, Cond.methodLink RX9 67 yX9_stuffed, Cond.methodLink RX9 69 yX5_sameAim, Cond.instanceMethod yX5_sameAim, Cond.selects RX5 yX5_sameAim yX5_sameAim, Cond.code yX5_sameAim cX5_sameAim 3 (some .int), Cond.methodLink RX9 72 yX9_pride, Cond.methodLink RX9 74 yX2_riseBy, Cond.instanceMethod yX2_riseBy, Cond.selects RX2 yX2_riseBy yX2_riseBy, Cond.code yX2_riseBy cX2_riseBy 8 (some .int), Cond.methodLink RX2 51 Lib.Math.min.name, Cond.methodLink RX2 57 Lib.Math.max.name, Cond.methodLink RX2 47 yX2_worth, Cond.instanceMethod yX2_worth, Cond.selects RX2 yX2_worth yX2_worth, Cond.code yX2_worth cX2_worth 6 (some .int), Cond.methodLink RX2 60 yX2_endOfClause, Cond.static yX2_endOfClause, Cond.code yX2_endOfClause cX2_endOfClause 4 (some .int), Cond.methodLink RX2 64 yX2_combine, Cond.static yX2_combine, Cond.code yX2_combine cX2_combine 7 (some .int), Cond.constantLong RX2 68 (1000000)]
def wsL_law0_r31 : List Cond := [Cond.constant RX2 70 (1000000), Cond.constantLong RX2 71 (-1000000), Cond.constant RX2 73 (-1000000), Cond.methodLink RX9 86 yX9_knows, Cond.methodLink RX9 89 yX9_signLowest, Cond.instanceMethod yX9_signLowest, Cond.selects RX9 yX9_signLowest yX9_signLowest, Cond.code yX9_signLowest cX9_signLowest 4 none, Cond.fieldLink RX9 93 "GloveHouses$Peace" "matters" "I", Cond.fieldLink RX9 99 "GloveHouses$Peace" "need" "[I", Cond.methodLink RX9 96 yX9_signers, Cond.methodLink RL 63 yX12_meets, Cond.instanceMethod yX12_meets, Cond.selects RX12 yX12_meets yX12_meets, Cond.code yX12_meets cX12_meets 3 (some .int), Cond.methodLink RX12 334 yX12_isRefused, Cond.instanceMethod yX12_isRefused, Cond.selects RX12 yX12_isRefused yX12_isRefused, Cond.code yX12_isRefused cX12_isRefused 2 (some .boolean), Cond.methodLink RX12 337 yX12_keep, Cond.instanceMethod yX12_keep, Cond.selects RX12 yX12_keep yX12_keep, Cond.code yX12_keep cX12_keep 2 none, Cond.methodLink RX12 340 yX12_meetNow]
def wsL_law0_r32 : List Cond := [Cond.instanceMethod yX12_meetNow, Cond.selects RX12 yX12_meetNow yX12_meetNow, Cond.code yX12_meetNow cX12_meetNow 5 none, Cond.methodLink RX12 304 yX12_riseOf, Cond.instanceMethod yX12_riseOf, Cond.selects RX12 yX12_riseOf yX12_riseOf, Cond.code yX12_riseOf cX12_riseOf 3 (some .int), Cond.methodLink RX12 297 yX12_riseFrom, Cond.instanceMethod yX12_riseFrom, Cond.selects RX12 yX12_riseFrom yX12_riseFrom, Cond.code yX12_riseFrom cX12_riseFrom 5 (some .int), Cond.methodLink RX12 287 yX12_areAllies, Cond.instanceMethod yX12_areAllies, Cond.selects RX12 yX12_areAllies yX12_areAllies, Cond.code yX12_areAllies cX12_areAllies 3 (some .boolean), Cond.methodLink RX12 290 yX12_riseBy, Cond.instanceMethod yX12_riseBy, Cond.selects RX12 yX12_riseBy yX12_riseBy, Cond.code yX12_riseBy cX12_riseBy 8 (some .int), Cond.methodLink RX12 284 yX12_worthOf, Cond.instanceMethod yX12_worthOf, Cond.selects RX12 yX12_worthOf yX12_worthOf, Cond.code yX12_worthOf cX12_worthOf 3 (some .int), Cond.methodLink RX12 207 yX12_workOut]
def wsL_law0_r33 : List Cond := [Cond.instanceMethod yX12_workOut, Cond.selects RX12 yX12_workOut yX12_workOut, Cond.code yX12_workOut cX12_workOut 6 (some .int), Cond.methodLink RX12 203 yX12_worked, Cond.static yX12_worked, Cond.code yX12_worked cX12_worked 5 (some .int), Cond.methodLink RX12 199 yX12_bounded, Cond.static yX12_bounded, Cond.code yX12_bounded cX12_bounded 2 (some .int), Cond.constantLong RX12 186 (-1000000), Cond.constantLong RX12 188 (1000000), Cond.methodLink RX12 190 Lib.MathLoose.min_long.x, Cond.static Lib.MathLoose.min_long.x, Cond.code Lib.MathLoose.min_long.x Lib.MathLoose.min_long.code 4 (some .long), Cond.methodLink RX12 196 Lib.MathLoose.max_long.x, Cond.static Lib.MathLoose.max_long.x, Cond.code Lib.MathLoose.max_long.x Lib.MathLoose.max_long.code 4 (some .long), Cond.methodLink RX12 307 yX12_held, Cond.static yX12_held, Cond.code yX12_held cX12_held 1 (some .int), Cond.methodLink RX12 310 yX12_signNow, Cond.instanceMethod yX12_signNow, Cond.selects RX12 yX12_signNow yX12_signNow, Cond.code yX12_signNow cX12_signNow 4 none]
def wsL_law0_r34 : List Cond := [Cond.methodLink RX12 301 yX12_codeOf, Cond.static yX12_codeOf, Cond.code yX12_codeOf cX12_codeOf 2 (some .int), Cond.methodLink RL 64 yX11_loosen, Cond.instanceMethod yX11_loosen, Cond.selects RX11 yX11_loosen yX11_loosen, Cond.code yX11_loosen cX11_loosen 2 (some .int), Cond.methodLink RX11 224 yX9_setFree, Cond.instanceMethod yX9_setFree, Cond.selects RX9 yX9_setFree yX9_setFree, Cond.code yX9_setFree cX9_setFree 3 none, Cond.methodLink RL 67 yX12_loosen, Cond.instanceMethod yX12_loosen, Cond.selects RX12 yX12_loosen yX12_loosen, Cond.code yX12_loosen cX12_loosen 2 (some .int), Cond.methodLink RL 68 yX11_stuff, Cond.instanceMethod yX11_stuff, Cond.selects RX11 yX11_stuff yX11_stuff, Cond.code yX11_stuff cX11_stuff 4 (some .int), Cond.methodLink RX11 227 yX9_setStuffed, Cond.instanceMethod yX9_setStuffed, Cond.selects RX9 yX9_setStuffed yX9_setStuffed, Cond.code yX9_setStuffed cX9_setStuffed 3 none, Cond.methodLink RL 71 yX12_stuff]
def wsL_law0_r35 : List Cond := [Cond.instanceMethod yX12_stuff, Cond.selects RX12 yX12_stuff yX12_stuff, Cond.code yX12_stuff cX12_stuff 4 (some .int), Cond.methodLink RL 72 yX11_swallow, Cond.instanceMethod yX11_swallow, Cond.selects RX11 yX11_swallow yX11_swallow, Cond.code yX11_swallow cX11_swallow 1 (some .int), Cond.methodLink RX11 230 yX9_setPride, Cond.instanceMethod yX9_setPride, Cond.selects RX9 yX9_setPride yX9_setPride, Cond.code yX9_setPride cX9_setPride 2 none, Cond.methodLink RL 76 yX12_swallow, Cond.instanceMethod yX12_swallow, Cond.selects RX12 yX12_swallow yX12_swallow, Cond.code yX12_swallow cX12_swallow 1 (some .int), Cond.methodLink RL 77 yX11_tear, Cond.instanceMethod yX11_tear, Cond.selects RX11 yX11_tear yX11_tear, Cond.code yX11_tear cX11_tear 2 (some .int), Cond.methodLink RX11 233 yX9_tearUp, Cond.instanceMethod yX9_tearUp, Cond.selects RX9 yX9_tearUp yX9_tearUp, Cond.code yX9_tearUp cX9_tearUp 2 none, Cond.methodLink RX11 236 yX9_growProud]
def wsL_law0_r36 : List Cond := [Cond.instanceMethod yX9_growProud, Cond.selects RX9 yX9_growProud yX9_growProud, Cond.code yX9_growProud cX9_growProud 1 none, Cond.methodLink RL 80 yX12_tear, Cond.instanceMethod yX12_tear, Cond.selects RX12 yX12_tear yX12_tear, Cond.code yX12_tear cX12_tear 2 (some .int), Cond.methodLink RL 81 yX11_give, Cond.instanceMethod yX11_give, Cond.selects RX11 yX11_give yX11_give, Cond.code yX11_give cX11_give 2 (some .int), Cond.methodLink RL 84 yX12_give, Cond.instanceMethod yX12_give, Cond.selects RX12 yX12_give yX12_give, Cond.code yX12_give cX12_give 2 (some .int), Cond.methodLink RL 85 yX11_days, Cond.instanceMethod yX11_days, Cond.selects RX11 yX11_days yX11_days, Cond.code yX11_days cX11_days 3 (some .int), Cond.methodLink RX11 239 yX9_day, Cond.methodLink RX11 242 yX11_passDay, Cond.instanceMethod yX11_passDay, Cond.selects RX11 yX11_passDay yX11_passDay, Cond.code yX11_passDay cX11_passDay 1 none]
def wsL_law0_r37 : List Cond := [Cond.methodLink RX11 295 yX9_cool, Cond.instanceMethod yX9_cool, Cond.selects RX9 yX9_cool yX9_cool, Cond.code yX9_cool cX9_cool 4 none, Cond.fieldLink RX9 102 "GloveHouses$Peace" "gloves" "I", Cond.methodLink RX11 346 yX9_metBits, Cond.instanceMethod yX9_metBits, Cond.selects RX9 yX9_metBits yX9_metBits, Cond.code yX9_metBits cX9_metBits 3 (some .int), Cond.methodLink RX9 115 yX9_hasMet, Cond.methodLink RX11 388 yJ6_bitCount_0f7a4, Cond.static yJ6_bitCount_0f7a4, Cond.initialized RJ6, Cond.code yJ6_bitCount_0f7a4 cJ6_bitCount_0f7a4 1 (some .int), Cond.constant RJ6 265 (1431655765), Cond.constant RJ6 266 (858993459), Cond.constant RJ6 267 (252645135), Cond.methodLink RX11 407 yX9_signedToday, Cond.instanceMethod yX9_signedToday, Cond.selects RX9 yX9_signedToday yX9_signedToday, Cond.code yX9_signedToday cX9_signedToday 1 (some .int), Cond.methodLink RX11 385 yX9_warmthOfAll, Cond.instanceMethod yX9_warmthOfAll, Cond.selects RX9 yX9_warmthOfAll yX9_warmthOfAll]
def wsL_law0_r38 : List Cond := [Cond.code yX9_warmthOfAll cX9_warmthOfAll 3 (some .int), Cond.methodLink RX11 410 yX3_write, Cond.instanceMethod yX3_write, Cond.selects RX3 yX3_write yX3_write, Cond.code yX3_write cX3_write 6 none, Cond.methodLink RX11 298 yX9_dawn, Cond.instanceMethod yX9_dawn, Cond.selects RX9 yX9_dawn yX9_dawn, Cond.code yX9_dawn cX9_dawn 2 none, Cond.methodLink RL 88 yX12_days, Cond.instanceMethod yX12_days, Cond.selects RX12 yX12_days yX12_days, Cond.code yX12_days cX12_days 3 (some .int), Cond.methodLink RX12 343 yX12_areDays, Cond.instanceMethod yX12_areDays, Cond.selects RX12 yX12_areDays yX12_areDays, Cond.code yX12_areDays cX12_areDays 2 (some .boolean), Cond.methodLink RX12 346 yX12_passDay, Cond.instanceMethod yX12_passDay, Cond.selects RX12 yX12_passDay yX12_passDay, Cond.code yX12_passDay cX12_passDay 4 none, Cond.methodLink RX12 322 yX12_metMany, Cond.instanceMethod yX12_metMany, Cond.selects RX12 yX12_metMany yX12_metMany]
def wsL_law0_r39 : List Cond := [Cond.code yX12_metMany cX12_metMany 3 (some .int), Cond.methodLink RX12 325 yX12_live, Cond.instanceMethod yX12_live, Cond.selects RX12 yX12_live yX12_live, Cond.code yX12_live cX12_live 2 none, Cond.methodLink RX12 319 yX12_cool, Cond.instanceMethod yX12_cool, Cond.selects RX12 yX12_cool yX12_cool, Cond.code yX12_cool cX12_cool 3 none, Cond.methodLink RX12 328 yX12_warmthOfAll, Cond.instanceMethod yX12_warmthOfAll, Cond.selects RX12 yX12_warmthOfAll yX12_warmthOfAll, Cond.code yX12_warmthOfAll cX12_warmthOfAll 3 (some .int), Cond.methodLink RL 89 yX11_spite, Cond.instanceMethod yX11_spite, Cond.selects RX11 yX11_spite yX11_spite, Cond.code yX11_spite cX11_spite 2 (some .boolean), Cond.methodLink RL 92 yX12_spite, Cond.instanceMethod yX12_spite, Cond.selects RX12 yX12_spite yX12_spite, Cond.code yX12_spite cX12_spite 2 (some .boolean), Cond.methodLink RL 95 yX11_years, Cond.instanceMethod yX11_years, Cond.selects RX11 yX11_years yX11_years]
def wsL_law0_r40 : List Cond := [Cond.code yX11_years cX11_years 5 (some .int), Cond.methodLink RX11 245 yX11_drawMeeting, Cond.instanceMethod yX11_drawMeeting, Cond.selects RX11 yX11_drawMeeting yX11_drawMeeting, Cond.code yX11_drawMeeting cX11_drawMeeting 3 none, Cond.methodLink RX11 248 yX11_draw, Cond.instanceMethod yX11_draw, Cond.selects RX11 yX11_draw yX11_draw, Cond.code yX11_draw cX11_draw 2 (some .int), Cond.constantLong RX11 414 (6364136223846793005), Cond.constantLong RX11 416 (1442695040888963407), Cond.methodLink RL 99 yX12_years, Cond.instanceMethod yX12_years, Cond.selects RX12 yX12_years yX12_years, Cond.code yX12_years cX12_years 5 (some .int), Cond.fieldLink RX12 349 "GloveHousesModel" "draws" "J", Cond.methodLink RX12 360 yX12_drawDay, Cond.instanceMethod yX12_drawDay, Cond.selects RX12 yX12_drawDay yX12_drawDay, Cond.code yX12_drawDay cX12_drawDay 4 none, Cond.methodLink RX12 357 yX12_draw, Cond.instanceMethod yX12_draw, Cond.selects RX12 yX12_draw yX12_draw, Cond.code yX12_draw cX12_draw 2 (some .int)]
def wsL_law0_r41 : List Cond := [Cond.constantLong RX12 353 (6364136223846793005), Cond.constantLong RX12 355 (1442695040888963407), Cond.methodLink RL 100 yX11_status, Cond.instanceMethod yX11_status, Cond.selects RX11 yX11_status yX11_status, Cond.code yX11_status cX11_status 2 (some .int), Cond.methodLink RL 103 yX12_status, Cond.instanceMethod yX12_status, Cond.selects RX12 yX12_status yX12_status, Cond.code yX12_status cX12_status 2 (some .int), Cond.methodLink RL 104 yX11_undo, Cond.instanceMethod yX11_undo, Cond.selects RX11 yX11_undo yX11_undo, Cond.code yX11_undo cX11_undo 1 (some .int), Cond.fieldLink RX11 251 "GloveHouses$Acts" "size" "I", Cond.methodLink RX11 252 yX0_takeBack, Cond.instanceMethod yX0_takeBack, Cond.selects RX0 yX0_takeBack yX0_takeBack, Cond.code yX0_takeBack cX0_takeBack 2 none, Cond.methodLink RL 107 yX12_undo, Cond.instanceMethod yX12_undo, Cond.selects RX12 yX12_undo yX12_undo, Cond.code yX12_undo cX12_undo 2 (some .int), Cond.methodLink RL 108 yX11_log]
def wsL_law0_r42 : List Cond := [Cond.instanceMethod yX11_log, Cond.selects RX11 yX11_log yX11_log, Cond.code yX11_log cX11_log 3 (some .int), Cond.methodLink RX11 255 yX3_lengthOn, Cond.static yX3_lengthOn, Cond.code yX3_lengthOn cX3_lengthOn 1 (some .int), Cond.methodLink RX3 13 Lib.Math.min.name, Cond.methodLink RX11 258 yX3_read, Cond.instanceMethod yX3_read, Cond.selects RX3 yX3_read yX3_read, Cond.code yX3_read cX3_read 3 (some .int), Cond.methodLink RL 111 yX12_log, Cond.instanceMethod yX12_log, Cond.selects RX12 yX12_log yX12_log, Cond.code yX12_log cX12_log 3 (some .int), Cond.methodLink RL 112 yX11_rises, Cond.instanceMethod yX11_rises, Cond.selects RX11 yX11_rises yX11_rises, Cond.code yX11_rises cX11_rises 3 (some .int), Cond.constant RX11 264 (-1000000), Cond.methodLink RX11 261 yX9_riseOf, Cond.instanceMethod yX9_riseOf, Cond.selects RX9 yX9_riseOf yX9_riseOf, Cond.code yX9_riseOf cX9_riseOf 3 (some .int)]
def wsL_law0_r43 : List Cond := [Cond.methodLink RL 115 yX12_rises, Cond.instanceMethod yX12_rises, Cond.selects RX12 yX12_rises yX12_rises, Cond.code yX12_rises cX12_rises 3 (some .int), Cond.constant RX12 363 (-1000000), Cond.methodLink RL 116 yX11_later, Cond.instanceMethod yX11_later, Cond.selects RX11 yX11_later yX11_later, Cond.code yX11_later cX11_later 6 (some .int), Cond.methodLink RX11 265 yX9_warmer, Cond.methodLink RL 120 yX12_later, Cond.instanceMethod yX12_later, Cond.selects RX12 yX12_later yX12_later, Cond.code yX12_later cX12_later 6 (some .int), Cond.methodLink RL 121 yX11_soonest, Cond.instanceMethod yX11_soonest, Cond.selects RX11 yX11_soonest yX11_soonest, Cond.code yX11_soonest cX11_soonest 8 (some .int), Cond.methodLink RX11 272 yX11_daysUntil, Cond.instanceMethod yX11_daysUntil, Cond.selects RX11 yX11_daysUntil yX11_daysUntil, Cond.code yX11_daysUntil cX11_daysUntil 6 (some .int), Cond.methodLink RL 124 yX12_soonest, Cond.instanceMethod yX12_soonest]
def wsL_law0_r44 : List Cond := [Cond.selects RX12 yX12_soonest yX12_soonest, Cond.code yX12_soonest cX12_soonest 8 (some .int), Cond.methodLink RX12 364 yX12_daysTo, Cond.instanceMethod yX12_daysTo, Cond.selects RX12 yX12_daysTo yX12_daysTo, Cond.code yX12_daysTo cX12_daysTo 6 (some .int), Cond.methodLink RL 125 yX11_pairs, Cond.instanceMethod yX11_pairs, Cond.selects RX11 yX11_pairs yX11_pairs, Cond.code yX11_pairs cX11_pairs 2 (some .int), Cond.fieldLink RX11 279 "GloveHouses$Match" "bestSum" "I", Cond.fieldLink RX11 282 "GloveHouses$Match" "size" "I", Cond.fieldLink RX11 283 "GloveHouses$Match" "bestRow" "I", Cond.methodLink RX11 276 yX4_solve, Cond.instanceMethod yX4_solve, Cond.selects RX4 yX4_solve yX4_solve, Cond.code yX4_solve cX4_solve 4 none, Cond.fieldLink RX4 22 "GloveHouses$Match" "size" "I", Cond.fieldLink RX4 26 "GloveHouses$Peace" "gloves" "I", Cond.fieldLink RX4 31 "GloveHouses$Peace" "house" "[I", Cond.fieldLink RX4 48 "GloveHouses$Match" "found" "Z", Cond.methodLink RX4 34 yX9_hasMet, Cond.methodLink RX4 40 yX5_unlike, Cond.methodLink RX4 44 yX9_riseOf]
def wsL_law0_r45 : List Cond := [Cond.methodLink RX4 52 yX9_metBits, Cond.methodLink RX4 56 yX4_search, Cond.instanceMethod yX4_search, Cond.selects RX4 yX4_search yX4_search, Cond.code yX4_search cX4_search 6 none, Cond.fieldLink RX4 60 "GloveHouses$Match" "bestSum" "I", Cond.fieldLink RX4 63 "GloveHouses$Match" "bestRow" "I", Cond.methodLink RL 128 yX12_pairs, Cond.instanceMethod yX12_pairs, Cond.selects RX12 yX12_pairs yX12_pairs, Cond.code yX12_pairs cX12_pairs 2 (some .int), Cond.fieldLink RX12 370 "GloveHousesModel" "bestRise" "I", Cond.fieldLink RX12 373 "GloveHousesModel" "bestRow" "I", Cond.methodLink RX12 380 yX12_layPairs, Cond.instanceMethod yX12_layPairs, Cond.selects RX12 yX12_layPairs yX12_layPairs, Cond.code yX12_layPairs cX12_layPairs 1 none, Cond.fieldLink RX12 367 "GloveHousesModel" "isFound" "Z", Cond.methodLink RX12 376 yX12_tryPairs, Cond.instanceMethod yX12_tryPairs, Cond.selects RX12 yX12_tryPairs yX12_tryPairs, Cond.code yX12_tryPairs cX12_tryPairs 6 none, Cond.methodLink RX12 383 yX12_freeOfFirst, Cond.instanceMethod yX12_freeOfFirst]
def wsL_law0_r46 : List Cond := [Cond.selects RX12 yX12_freeOfFirst yX12_freeOfFirst, Cond.code yX12_freeOfFirst cX12_freeOfFirst 3 (some .int), Cond.methodLink RL 129 yX11_allKnow, Cond.instanceMethod yX11_allKnow, Cond.selects RX11 yX11_allKnow yX11_allKnow, Cond.code yX11_allKnow cX11_allKnow 2 (some .int), Cond.methodLink RX11 286 yX9_copyFrom, Cond.instanceMethod yX9_copyFrom, Cond.selects RX9 yX9_copyFrom yX9_copyFrom, Cond.code yX9_copyFrom cX9_copyFrom 2 none, Cond.methodLink RX9 23 arraycopyName, Cond.methodLink RX11 289 yX9_allKnown, Cond.instanceMethod yX9_allKnown, Cond.selects RX9 yX9_allKnown yX9_allKnown, Cond.code yX9_allKnown cX9_allKnown 2 (some .boolean), Cond.methodLink RX11 292 yX4_perform, Cond.instanceMethod yX4_perform, Cond.selects RX4 yX4_perform yX4_perform, Cond.code yX4_perform cX4_perform 4 none, Cond.methodLink RX4 66 yX9_meet, Cond.methodLink RL 132 yX12_allKnow, Cond.instanceMethod yX12_allKnow, Cond.selects RX12 yX12_allKnow yX12_allKnow, Cond.code yX12_allKnow cX12_allKnow 4 (some .int)]
def wsL_law0_r47 : List Cond := [Cond.methodLink RX12 386 yX12_doAllKnow, Cond.instanceMethod yX12_doAllKnow, Cond.selects RX12 yX12_doAllKnow yX12_doAllKnow, Cond.code yX12_doAllKnow cX12_doAllKnow 3 (some .boolean), Cond.methodLink RX12 389 yX12_meetPairs, Cond.instanceMethod yX12_meetPairs, Cond.selects RX12 yX12_meetPairs yX12_meetPairs, Cond.code yX12_meetPairs cX12_meetPairs 4 none, Cond.methodLink RL 133 yX11_seen, Cond.instanceMethod yX11_seen, Cond.selects RX11 yX11_seen yX11_seen, Cond.code yX11_seen cX11_seen 5 (some .int), Cond.methodLink RX11 301 yX11_isNoRise, Cond.static yX11_isNoRise, Cond.code yX11_isNoRise cX11_isNoRise 1 (some .boolean), Cond.methodLink RX11 304 yX8_isFull, Cond.instanceMethod yX8_isFull, Cond.selects RX8 yX8_isFull yX8_isFull, Cond.code yX8_isFull cX8_isFull 1 (some .boolean), Cond.fieldLink RX8 33 "GloveHouses$Sightings" "size" "I", Cond.methodLink RX11 305 yX8_add, Cond.instanceMethod yX8_add, Cond.selects RX8 yX8_add yX8_add, Cond.code yX8_add cX8_add 5 none]
def wsL_law0_r48 : List Cond := [Cond.methodLink RL 137 yX12_seen, Cond.instanceMethod yX12_seen, Cond.selects RX12 yX12_seen yX12_seen, Cond.code yX12_seen cX12_seen 5 (some .int), Cond.methodLink RL 138 yX11_fits, Cond.instanceMethod yX11_fits, Cond.selects RX11 yX11_fits yX11_fits, Cond.code yX11_fits cX11_fits 5 (some .int), Cond.methodLink RX11 310 yX8_allow, Cond.instanceMethod yX8_allow, Cond.selects RX8 yX8_allow yX8_allow, Cond.code yX8_allow cX8_allow 5 (some .boolean), Cond.methodLink RX8 58 yX8_reaches, Cond.instanceMethod yX8_reaches, Cond.selects RX8 yX8_reaches yX8_reaches, Cond.code yX8_reaches cX8_reaches 5 (some .boolean), Cond.fieldLink RX8 37 "GloveHouses$Peace" "free" "[I", Cond.fieldLink RX8 42 "GloveHouses$Peace" "stuffed" "[I", Cond.fieldLink RX8 49 "GloveHouses$Peace" "pride" "I", Cond.methodLink RX8 45 yX5_sameAim, Cond.methodLink RX8 52 yX2_riseBy, Cond.methodLink RL 141 yX12_fits, Cond.instanceMethod yX12_fits, Cond.selects RX12 yX12_fits yX12_fits]
def wsL_law0_r49 : List Cond := [Cond.code yX12_fits cX12_fits 5 (some .int), Cond.methodLink RX12 395 yX12_isFreedom, Cond.instanceMethod yX12_isFreedom, Cond.selects RX12 yX12_isFreedom yX12_isFreedom, Cond.code yX12_isFreedom cX12_isFreedom 5 (some .boolean), Cond.methodLink RX12 392 yX12_toldRise, Cond.instanceMethod yX12_toldRise, Cond.selects RX12 yX12_toldRise yX12_toldRise, Cond.code yX12_toldRise cX12_toldRise 4 (some .int), Cond.methodLink RL 142 yX11_ask, Cond.instanceMethod yX11_ask, Cond.selects RX11 yX11_ask yX11_ask, Cond.code yX11_ask cX11_ask 8 (some .int), Cond.methodLink RX11 313 yX8_fitting, Cond.instanceMethod yX8_fitting, Cond.selects RX8 yX8_fitting yX8_fitting, Cond.code yX8_fitting cX8_fitting 4 (some .int), Cond.methodLink RX8 62 yX8_allow, Cond.methodLink RX11 316 yX8_gap, Cond.instanceMethod yX8_gap, Cond.selects RX8 yX8_gap yX8_gap, Cond.code yX8_gap cX8_gap 7 (some .int), Cond.methodLink RX8 66 Lib.Math.abs.name, Cond.static Lib.Math.abs.name]
def wsL_law0_r50 : List Cond := [Cond.code Lib.Math.abs.name Lib.Math.abs.code 1 (some .int), Cond.methodLink RL 145 yX12_ask, Cond.instanceMethod yX12_ask, Cond.selects RX12 yX12_ask yX12_ask, Cond.code yX12_ask cX12_ask 8 (some .int), Cond.methodLink RX12 401 Lib.Math.abs.name, Cond.methodLink RX12 398 yX12_fits, Cond.methodLink RL 146 yX11_game, Cond.instanceMethod yX11_game, Cond.selects RX11 yX11_game yX11_game, Cond.code yX11_game cX11_game 6 (some .int), Cond.methodLink RX11 319 yX5_nth, Cond.instanceMethod yX5_nth, Cond.selects RX5 yX5_nth yX5_nth, Cond.code yX5_nth cX5_nth 5 (some .int), Cond.methodLink RX11 322 yX9_gains, Cond.instanceMethod yX9_gains, Cond.selects RX9 yX9_gains yX9_gains, Cond.code yX9_gains cX9_gains 3 (some .int), Cond.methodLink RX9 105 yX5_hasGlove, Cond.methodLink RX9 109 yX9_riseOf, Cond.methodLink RL 149 yX12_game, Cond.instanceMethod yX12_game, Cond.selects RX12 yX12_game yX12_game]
def wsL_law0_r51 : List Cond := [Cond.code yX12_game cX12_game 4 (some .int), Cond.methodLink RX12 407 yX12_gameOf, Cond.instanceMethod yX12_gameOf, Cond.selects RX12 yX12_gameOf yX12_gameOf, Cond.code yX12_gameOf cX12_gameOf 7 (some .int), Cond.methodLink RX12 404 yX12_gloveOf, Cond.instanceMethod yX12_gloveOf, Cond.selects RX12 yX12_gloveOf yX12_gloveOf, Cond.code yX12_gloveOf cX12_gloveOf 5 (some .int), Cond.methodLink RL 150 yX11_sure, Cond.instanceMethod yX11_sure, Cond.selects RX11 yX11_sure yX11_sure, Cond.code yX11_sure cX11_sure 4 (some .int), Cond.methodLink RX11 328 Lib.Math.max.name, Cond.methodLink RX11 325 yX11_leastGain, Cond.instanceMethod yX11_leastGain, Cond.selects RX11 yX11_leastGain yX11_leastGain, Cond.code yX11_leastGain cX11_leastGain 4 (some .int), Cond.methodLink RX11 418 Lib.Math.min.name, Cond.methodLink RL 153 yX12_sure, Cond.instanceMethod yX12_sure, Cond.selects RX12 yX12_sure yX12_sure, Cond.code yX12_sure cX12_sure 4 (some .int), Cond.methodLink RX12 410 yX12_manyOf]
def wsL_law0_r52 : List Cond := [Cond.instanceMethod yX12_manyOf, Cond.selects RX12 yX12_manyOf yX12_manyOf, Cond.code yX12_manyOf cX12_manyOf 4 (some .int), Cond.methodLink RX12 413 yX12_leastOf, Cond.instanceMethod yX12_leastOf, Cond.selects RX12 yX12_leastOf yX12_leastOf, Cond.code yX12_leastOf cX12_leastOf 5 (some .int), Cond.methodLink RL 154 yX11_rests, Cond.instanceMethod yX11_rests, Cond.selects RX11 yX11_rests yX11_rests, Cond.code yX11_rests cX11_rests 5 (some .int), Cond.methodLink RX11 333 yX5_sizeOf, Cond.methodLink RX11 336 yX11_isRest, Cond.instanceMethod yX11_isRest, Cond.selects RX11 yX11_isRest yX11_isRest, Cond.code yX11_isRest cX11_isRest 7 (some .boolean), Cond.methodLink RL 157 yX12_rests, Cond.instanceMethod yX12_rests, Cond.selects RX12 yX12_rests yX12_rests, Cond.code yX12_rests cX12_rests 5 (some .int), Cond.methodLink RX12 416 yX12_isRest, Cond.instanceMethod yX12_isRest, Cond.selects RX12 yX12_isRest yX12_isRest, Cond.code yX12_isRest cX12_isRest 5 (some .boolean)]
def wsL_law0_r53 : List Cond := [Cond.methodLink RL 158 yX11_odds, Cond.instanceMethod yX11_odds, Cond.selects RX11 yX11_odds yX11_odds, Cond.code yX11_odds cX11_odds 6 (some .int), Cond.methodLink RX11 339 yX7_partsWarm, Cond.instanceMethod yX7_partsWarm, Cond.selects RX7 yX7_partsWarm yX7_partsWarm, Cond.code yX7_partsWarm cX7_partsWarm 6 (some .int), Cond.fieldLink RX7 9 "GloveHouses$Quarrels" "state" "LGloveHouses$State;", Cond.fieldLink RX7 15 "GloveHouses$Quarrels" "pair" "I", Cond.fieldLink RX7 19 "GloveHouses$Quarrels" "need" "I", Cond.fieldLink RX7 22 "GloveHouses$Quarrels" "meetings" "I", Cond.fieldLink RX7 25 "GloveHouses$Quarrels" "chance" "I", Cond.constant RX7 28 (1000000000), Cond.methodLink RX7 29 yX9_warmthOf, Cond.methodLink RX7 35 yX7_split, Cond.instanceMethod yX7_split, Cond.selects RX7 yX7_split yX7_split, Cond.code yX7_split cX7_split 6 (some .int), Cond.constantLong RX7 39 (100), Cond.methodLink RX7 41 yX9_warmer, Cond.methodLink RX7 45 yX7_behind, Cond.instanceMethod yX7_behind, Cond.selects RX7 yX7_behind yX7_behind]
def wsL_law0_r54 : List Cond := [Cond.code yX7_behind cX7_behind 4 (some .int), Cond.methodLink RL 161 yX12_odds, Cond.instanceMethod yX12_odds, Cond.selects RX12 yX12_odds yX12_odds, Cond.code yX12_odds cX12_odds 6 (some .int), Cond.constant RX12 425 (1000000000), Cond.methodLink RX12 421 yX12_oddsFrom, Cond.instanceMethod yX12_oddsFrom, Cond.selects RX12 yX12_oddsFrom yX12_oddsFrom, Cond.code yX12_oddsFrom cX12_oddsFrom 14 (some .int), Cond.constantLong RX12 419 (100), Cond.methodLink RL 162 yX11_shares, Cond.instanceMethod yX11_shares, Cond.selects RX11 yX11_shares yX11_shares, Cond.code yX11_shares cX11_shares 4 (some .int), Cond.methodLink RX11 343 yX9_freeOf, Cond.instanceMethod yX9_freeOf, Cond.selects RX9 yX9_freeOf yX9_freeOf, Cond.code yX9_freeOf cX9_freeOf 4 (some .int), Cond.fieldLink RX9 112 "GloveHouses$Peace" "house" "[I", Cond.methodLink RL 165 yX12_shares, Cond.instanceMethod yX12_shares, Cond.selects RX12 yX12_shares yX12_shares, Cond.code yX12_shares cX12_shares 6 (some .int)]
def wsL_law0_r55 : List Cond := [Cond.methodLink RL 166 yX11_most, Cond.instanceMethod yX11_most, Cond.selects RX11 yX11_most yX11_most, Cond.code yX11_most cX11_most 2 (some .int), Cond.methodLink RX11 349 yX9_signedBits, Cond.instanceMethod yX9_signedBits, Cond.selects RX9 yX9_signedBits yX9_signedBits, Cond.code yX9_signedBits cX9_signedBits 3 (some .int), Cond.methodLink RX11 352 yX9_warmestPair, Cond.instanceMethod yX9_warmestPair, Cond.selects RX9 yX9_warmestPair yX9_warmestPair, Cond.code yX9_warmestPair cX9_warmestPair 1 (some .int), Cond.methodLink RX9 118 yX9_pairMost, Cond.instanceMethod yX9_pairMost, Cond.selects RX9 yX9_pairMost yX9_pairMost, Cond.code yX9_pairMost cX9_pairMost 5 (some .int), Cond.methodLink RX9 121 yX5_unlike, Cond.methodLink RX11 355 yX9_coldestPair, Cond.instanceMethod yX9_coldestPair, Cond.selects RX9 yX9_coldestPair yX9_coldestPair, Cond.code yX9_coldestPair cX9_coldestPair 1 (some .int), Cond.methodLink RX11 358 yX9_freest, Cond.instanceMethod yX9_freest, Cond.selects RX9 yX9_freest yX9_freest]
def wsL_law0_r56 : List Cond := [Cond.code yX9_freest cX9_freest 1 (some .int), Cond.methodLink RX9 125 yX9_gloveMost, Cond.instanceMethod yX9_gloveMost, Cond.selects RX9 yX9_gloveMost yX9_gloveMost, Cond.code yX9_gloveMost cX9_gloveMost 4 (some .int), Cond.methodLink RX11 361 yX9_stiffest, Cond.instanceMethod yX9_stiffest, Cond.selects RX9 yX9_stiffest yX9_stiffest, Cond.code yX9_stiffest cX9_stiffest 1 (some .int), Cond.methodLink RX11 364 yX5_heaviest, Cond.instanceMethod yX5_heaviest, Cond.selects RX5 yX5_heaviest yX5_heaviest, Cond.code yX5_heaviest cX5_heaviest 4 (some .int), Cond.methodLink RX11 367 yX9_bound, Cond.instanceMethod yX9_bound, Cond.selects RX9 yX9_bound yX9_bound, Cond.code yX9_bound cX9_bound 3 (some .int), Cond.fieldLink RX9 128 "GloveHouses$Peace" "weight" "[I", Cond.methodLink RX11 370 yX9_dueBits, Cond.instanceMethod yX9_dueBits, Cond.selects RX9 yX9_dueBits yX9_dueBits, Cond.code yX9_dueBits cX9_dueBits 5 (some .int), Cond.methodLink RX9 131 yX9_warmestPair, Cond.methodLink RL 169 yX12_most]
def wsL_law0_r57 : List Cond := [Cond.instanceMethod yX12_most, Cond.selects RX12 yX12_most yX12_most, Cond.code yX12_most cX12_most 2 (some .int), Cond.methodLink RX12 426 yX12_metSet, Cond.instanceMethod yX12_metSet, Cond.selects RX12 yX12_metSet yX12_metSet, Cond.code yX12_metSet cX12_metSet 3 (some .int), Cond.methodLink RX12 429 yX12_signedSet, Cond.instanceMethod yX12_signedSet, Cond.selects RX12 yX12_signedSet yX12_signedSet, Cond.code yX12_signedSet cX12_signedSet 3 (some .int), Cond.methodLink RX12 432 yX12_topPair, Cond.instanceMethod yX12_topPair, Cond.selects RX12 yX12_topPair yX12_topPair, Cond.code yX12_topPair cX12_topPair 6 (some .int), Cond.methodLink RX12 435 yX12_topGlove, Cond.instanceMethod yX12_topGlove, Cond.selects RX12 yX12_topGlove yX12_topGlove, Cond.code yX12_topGlove cX12_topGlove 4 (some .int), Cond.methodLink RX12 438 yX12_heaviest, Cond.instanceMethod yX12_heaviest, Cond.selects RX12 yX12_heaviest yX12_heaviest, Cond.code yX12_heaviest cX12_heaviest 3 (some .int), Cond.methodLink RX12 441 yX12_bound]
def wsL_law0_r58 : List Cond := [Cond.instanceMethod yX12_bound, Cond.selects RX12 yX12_bound yX12_bound, Cond.code yX12_bound cX12_bound 3 (some .int), Cond.methodLink RX12 444 yX12_due, Cond.instanceMethod yX12_due, Cond.selects RX12 yX12_due yX12_due, Cond.code yX12_due cX12_due 4 (some .int), Cond.methodLink RL 170 yX11_allies, Cond.instanceMethod yX11_allies, Cond.selects RX11 yX11_allies yX11_allies, Cond.code yX11_allies cX11_allies 4 (some .int), Cond.methodLink RX11 373 yX5_sameAim, Cond.methodLink RL 173 yX12_allies, Cond.instanceMethod yX12_allies, Cond.selects RX12 yX12_allies yX12_allies, Cond.code yX12_allies cX12_allies 4 (some .int), Cond.methodLink RL 174 yX11_image, Cond.instanceMethod yX11_image, Cond.selects RX11 yX11_image yX11_image, Cond.code yX11_image cX11_image 1 (some .int), Cond.methodLink RX11 376 yX3_copyFrom, Cond.instanceMethod yX3_copyFrom, Cond.selects RX3 yX3_copyFrom yX3_copyFrom, Cond.code yX3_copyFrom cX3_copyFrom 2 none]
def wsL_law0_r59 : List Cond := [Cond.methodLink RX3 19 arraycopyName, Cond.methodLink RL 177 yX12_image, Cond.instanceMethod yX12_image, Cond.selects RX12 yX12_image yX12_image, Cond.code yX12_image cX12_image 2 (some .int), Cond.methodLink RL 178 yX11_back, Cond.instanceMethod yX11_back, Cond.selects RX11 yX11_back yX11_back, Cond.code yX11_back cX11_back 1 (some .int), Cond.methodLink RL 181 yX12_back, Cond.instanceMethod yX12_back, Cond.selects RX12 yX12_back yX12_back, Cond.code yX12_back cX12_back 2 (some .int), Cond.methodLink RL 182 yX11_count, Cond.instanceMethod yX11_count, Cond.selects RX11 yX11_count yX11_count, Cond.code yX11_count cX11_count 2 (some .int), Cond.fieldLink RX11 382 "GloveHouses$Peace" "matters" "I", Cond.methodLink RL 185 yX12_count, Cond.instanceMethod yX12_count, Cond.selects RX12 yX12_count yX12_count, Cond.code yX12_count cX12_count 2 (some .int)]
def wsL_law0 : List Cond := (wsL_law0_r1 ++ (wsL_law0_r2 ++ (wsL_law0_r3 ++ (wsL_law0_r4 ++ (wsL_law0_r5 ++ (wsL_law0_r6 ++ (wsL_law0_r7 ++ (wsL_law0_r8 ++ (wsL_law0_r9 ++ (wsL_law0_r10 ++ (wsL_law0_r11 ++ (wsL_law0_r12 ++ (wsL_law0_r13 ++ (wsL_law0_r14 ++ (wsL_law0_r15 ++ (wsL_law0_r16 ++ (wsL_law0_r17 ++ (wsL_law0_r18 ++ (wsL_law0_r19 ++ (wsL_law0_r20 ++ (wsL_law0_r21 ++ (wsL_law0_r22 ++ (wsL_law0_r23 ++ (wsL_law0_r24 ++ (wsL_law0_r25 ++ (wsL_law0_r26 ++ (wsL_law0_r27 ++ (wsL_law0_r28 ++ (wsL_law0_r29 ++ (wsL_law0_r30 ++ (wsL_law0_r31 ++ (wsL_law0_r32 ++ (wsL_law0_r33 ++ (wsL_law0_r34 ++ (wsL_law0_r35 ++ (wsL_law0_r36 ++ (wsL_law0_r37 ++ (wsL_law0_r38 ++ (wsL_law0_r39 ++ (wsL_law0_r40 ++ (wsL_law0_r41 ++ (wsL_law0_r42 ++ (wsL_law0_r43 ++ (wsL_law0_r44 ++ (wsL_law0_r45 ++ (wsL_law0_r46 ++ (wsL_law0_r47 ++ (wsL_law0_r48 ++ (wsL_law0_r49 ++ (wsL_law0_r50 ++ (wsL_law0_r51 ++ (wsL_law0_r52 ++ (wsL_law0_r53 ++ (wsL_law0_r54 ++ (wsL_law0_r55 ++ (wsL_law0_r56 ++ (wsL_law0_r57 ++ (wsL_law0_r58 ++ wsL_law0_r59)))))))))))))))))))))))))))))))))))))))))))))))))))))))))) ++ wsX110 ++ wsX120 ++ wsX100 ++ wsX60 ++ wsX10 ++ wsX50 ++ wsX20 ++ wsX90 ++ wsX30 ++ wsX00 ++ wsX80 ++ wsX40 ++ wsX70 ++ ([] : List Cond)
def wsL_law : List Cond := wsL_law0 ++ (vx_atX RX11 163 "java/util/NoSuchElementException" 13 prog_23_method_4_code ["java/lang/RuntimeException", "java/lang/Exception"]).filter goodWord
def wsX0_init : List Cond := .code yX0_init cX0_init 1 none :: wsL_law
def wsX0_keep : List Cond := .code yX0_keep cX0_keep 2 none :: wsL_law
def wsX0_takeBack : List Cond := .code yX0_takeBack cX0_takeBack 2 none :: wsL_law
def wsX0_forget : List Cond := .code yX0_forget cX0_forget 1 none :: wsL_law
def wsX1_init : List Cond := .code yX1_init cX1_init 2 none :: wsL_law
def wsX10_sign : List Cond := .code yX10_sign cX10_sign 1 (some .int) :: wsL_law
def wsX10_take : List Cond := .code yX10_take cX10_take 2 (some .boolean) :: wsL_law
def wsX1_put : List Cond := .code yX1_put cX1_put 2 (some .boolean) :: wsL_law
def wsX2_letter : List Cond := .code yX2_letter cX2_letter 2 (some .int) :: wsL_law
def wsX10_isAtDigit : List Cond := .code yX10_isAtDigit cX10_isAtDigit 1 (some .boolean) :: wsL_law
def wsX10_number : List Cond := .code yX10_number cX10_number 4 (some .int) :: wsL_law
def wsX1_readsAtom : List Cond := .code yX1_readsAtom cX1_readsAtom 5 (some .boolean) :: wsL_law
def wsX1_readsSum : List Cond := .code yX1_readsSum cX1_readsSum 4 (some .boolean) :: wsL_law
def wsX1_readsTerm : List Cond := .code yX1_readsTerm cX1_readsTerm 4 (some .boolean) :: wsL_law
def wsX1_comparison : List Cond := .code yX1_comparison cX1_comparison 1 (some .int) :: wsL_law
def wsX1_readsComparison : List Cond := .code yX1_readsComparison cX1_readsComparison 3 (some .boolean) :: wsL_law
def wsX1_readsCondition : List Cond := .code yX1_readsCondition cX1_readsCondition 2 (some .boolean) :: wsL_law
def wsX1_readsMoreTruths : List Cond := .code yX1_readsMoreTruths cX1_readsMoreTruths 3 (some .boolean) :: wsL_law
def wsX1_readsMoreUnits : List Cond := .code yX1_readsMoreUnits cX1_readsMoreUnits 3 (some .boolean) :: wsL_law
def wsX1_readsUnit : List Cond := .code yX1_readsUnit cX1_readsUnit 3 (some .boolean) :: wsL_law
def wsX1_readsClause : List Cond := .code yX1_readsClause cX1_readsClause 3 (some .boolean) :: wsL_law
def wsX1_readsAll : List Cond := .code yX1_readsAll cX1_readsAll 2 (some .boolean) :: wsL_law
def wsX2_init : List Cond := .code yX2_init cX2_init 1 none :: wsL_law
def wsX2_isFull : List Cond := .code yX2_isFull cX2_isFull 1 (some .boolean) :: wsL_law
def wsX2_add : List Cond := .code yX2_add cX2_add 3 none :: wsL_law
def wsX2_endOfClause : List Cond := .code yX2_endOfClause cX2_endOfClause 4 (some .int) :: wsL_law
def wsX2_combine : List Cond := .code yX2_combine cX2_combine 7 (some .int) :: wsL_law
def wsX2_worth : List Cond := .code yX2_worth cX2_worth 6 (some .int) :: wsL_law
def wsX2_riseBy : List Cond := .code yX2_riseBy cX2_riseBy 8 (some .int) :: wsL_law
def wsX3_init : List Cond := .code yX3_init cX3_init 1 none :: wsL_law
def wsX3_lengthOn : List Cond := .code yX3_lengthOn cX3_lengthOn 1 (some .int) :: wsL_law
def wsX3_write : List Cond := .code yX3_write cX3_write 6 none :: wsL_law
def wsX3_read : List Cond := .code yX3_read cX3_read 3 (some .int) :: wsL_law
def wsX3_copyFrom : List Cond := .code yX3_copyFrom cX3_copyFrom 2 none :: wsL_law
def wsX4_init : List Cond := .code yX4_init cX4_init 2 none :: wsL_law
def wsX9_hasMet : List Cond := .code yX9_hasMet cX9_hasMet 2 (some .boolean) :: wsL_law
def wsX5_hasGlove : List Cond := .code yX5_hasGlove cX5_hasGlove 2 (some .boolean) :: wsL_law
def wsX5_unlike : List Cond := .code yX5_unlike cX5_unlike 3 (some .boolean) :: wsL_law
def wsX9_placeOf : List Cond := .code yX9_placeOf cX9_placeOf 2 (some .int) :: wsL_law
def wsX9_warmthOf : List Cond := .code yX9_warmthOf cX9_warmthOf 3 (some .int) :: wsL_law
def wsX9_day : List Cond := .code yX9_day cX9_day 1 (some .int) :: wsL_law
def wsX9_free : List Cond := .code yX9_free cX9_free 2 (some .int) :: wsL_law
def wsX9_stuffed : List Cond := .code yX9_stuffed cX9_stuffed 2 (some .int) :: wsL_law
def wsX5_sameAim : List Cond := .code yX5_sameAim cX5_sameAim 3 (some .int) :: wsL_law
def wsX9_pride : List Cond := .code yX9_pride cX9_pride 1 (some .int) :: wsL_law
def wsX9_riseAt : List Cond := .code yX9_riseAt cX9_riseAt 5 (some .int) :: wsL_law
def wsX9_riseOf : List Cond := .code yX9_riseOf cX9_riseOf 3 (some .int) :: wsL_law
def wsX9_metBits : List Cond := .code yX9_metBits cX9_metBits 3 (some .int) :: wsL_law
def wsX4_search : List Cond := .code yX4_search cX4_search 6 none :: wsL_law
def wsX4_solve : List Cond := .code yX4_solve cX4_solve 4 none :: wsL_law
def wsX9_warmer : List Cond := .code yX9_warmer cX9_warmer 6 (some .int) :: wsL_law
def wsX9_knows : List Cond := .code yX9_knows cX9_knows 2 (some .int) :: wsL_law
def wsX9_signers : List Cond := .code yX9_signers cX9_signers 2 (some .int) :: wsL_law
def wsX9_signLowest : List Cond := .code yX9_signLowest cX9_signLowest 4 none :: wsL_law
def wsX9_meet : List Cond := .code yX9_meet cX9_meet 4 none :: wsL_law
def wsX4_perform : List Cond := .code yX4_perform cX4_perform 4 none :: wsL_law
def wsX5_init : List Cond := .code yX5_init cX5_init 1 none :: wsL_law
def wsX5_copyFrom : List Cond := .code yX5_copyFrom cX5_copyFrom 2 none :: wsL_law
def wsX5_hasMatter : List Cond := .code yX5_hasMatter cX5_hasMatter 2 (some .boolean) :: wsL_law
def wsX5_sizeOf : List Cond := .code yX5_sizeOf cX5_sizeOf 4 (some .int) :: wsL_law
def wsX5_nth : List Cond := .code yX5_nth cX5_nth 5 (some .int) :: wsL_law
def wsX5_heaviest : List Cond := .code yX5_heaviest cX5_heaviest 4 (some .int) :: wsL_law
def wsX6_init : List Cond := .code yX6_init cX6_init 2 none :: wsL_law
def wsX6_kindOf : List Cond := .code yX6_kindOf cX6_kindOf 1 (some .int) :: wsL_law
def wsX6_isTooMany : List Cond := .code yX6_isTooMany cX6_isTooMany 2 (some .boolean) :: wsL_law
def wsX6_itemOf : List Cond := .code yX6_itemOf cX6_itemOf 3 (some .int) :: wsL_law
def wsX6_readsValue : List Cond := .code yX6_readsValue cX6_readsValue 4 (some .boolean) :: wsL_law
def wsX6_readsItems : List Cond := .code yX6_readsItems cX6_readsItems 6 (some .boolean) :: wsL_law
def wsX6_keep : List Cond := .code yX6_keep cX6_keep 2 none :: wsL_law
def wsX6_readsClause : List Cond := .code yX6_readsClause cX6_readsClause 2 (some .boolean) :: wsL_law
def wsX6_readsAll : List Cond := .code yX6_readsAll cX6_readsAll 2 (some .boolean) :: wsL_law
def wsX7_init : List Cond := .code yX7_init cX7_init 1 none :: wsL_law
def wsX7_behind : List Cond := .code yX7_behind cX7_behind 4 (some .int) :: wsL_law
def wsX7_split : List Cond := .code yX7_split cX7_split 6 (some .int) :: wsL_law
def wsX7_partsWarm : List Cond := .code yX7_partsWarm cX7_partsWarm 6 (some .int) :: wsL_law
def wsX8_init : List Cond := .code yX8_init cX8_init 3 none :: wsL_law
def wsX8_isFull : List Cond := .code yX8_isFull cX8_isFull 1 (some .boolean) :: wsL_law
def wsX8_add : List Cond := .code yX8_add cX8_add 5 none :: wsL_law
def wsX8_reaches : List Cond := .code yX8_reaches cX8_reaches 5 (some .boolean) :: wsL_law
def wsX8_allow : List Cond := .code yX8_allow cX8_allow 5 (some .boolean) :: wsL_law
def wsX8_fitting : List Cond := .code yX8_fitting cX8_fitting 4 (some .int) :: wsL_law
def wsX8_gap : List Cond := .code yX8_gap cX8_gap 7 (some .int) :: wsL_law
def wsX9_init : List Cond := .code yX9_init cX9_init 3 none :: wsL_law
def wsX9_copyFrom : List Cond := .code yX9_copyFrom cX9_copyFrom 2 none :: wsL_law
def wsX9_begin : List Cond := .code yX9_begin cX9_begin 2 none :: wsL_law
def wsX9_setFree : List Cond := .code yX9_setFree cX9_setFree 3 none :: wsL_law
def wsX9_setStuffed : List Cond := .code yX9_setStuffed cX9_setStuffed 3 none :: wsL_law
def wsX9_tearUp : List Cond := .code yX9_tearUp cX9_tearUp 2 none :: wsL_law
def wsX9_signedToday : List Cond := .code yX9_signedToday cX9_signedToday 1 (some .int) :: wsL_law
def wsX9_setPride : List Cond := .code yX9_setPride cX9_setPride 2 none :: wsL_law
def wsX9_growProud : List Cond := .code yX9_growProud cX9_growProud 1 none :: wsL_law
def wsX9_coins : List Cond := .code yX9_coins cX9_coins 1 (some .int) :: wsL_law
def wsX9_pay : List Cond := .code yX9_pay cX9_pay 2 none :: wsL_law
def wsX9_cool : List Cond := .code yX9_cool cX9_cool 4 none :: wsL_law
def wsX9_dawn : List Cond := .code yX9_dawn cX9_dawn 2 none :: wsL_law
def wsX9_allKnown : List Cond := .code yX9_allKnown cX9_allKnown 2 (some .boolean) :: wsL_law
def wsX9_gains : List Cond := .code yX9_gains cX9_gains 3 (some .int) :: wsL_law
def wsX9_freeOf : List Cond := .code yX9_freeOf cX9_freeOf 4 (some .int) :: wsL_law
def wsX9_warmthOfAll : List Cond := .code yX9_warmthOfAll cX9_warmthOfAll 3 (some .int) :: wsL_law
def wsX9_signedBits : List Cond := .code yX9_signedBits cX9_signedBits 3 (some .int) :: wsL_law
def wsX9_pairMost : List Cond := .code yX9_pairMost cX9_pairMost 5 (some .int) :: wsL_law
def wsX9_warmestPair : List Cond := .code yX9_warmestPair cX9_warmestPair 1 (some .int) :: wsL_law
def wsX9_coldestPair : List Cond := .code yX9_coldestPair cX9_coldestPair 1 (some .int) :: wsL_law
def wsX9_gloveMost : List Cond := .code yX9_gloveMost cX9_gloveMost 4 (some .int) :: wsL_law
def wsX9_freest : List Cond := .code yX9_freest cX9_freest 1 (some .int) :: wsL_law
def wsX9_stiffest : List Cond := .code yX9_stiffest cX9_stiffest 1 (some .int) :: wsL_law
def wsX9_bound : List Cond := .code yX9_bound cX9_bound 3 (some .int) :: wsL_law
def wsX9_dueBits : List Cond := .code yX9_dueBits cX9_dueBits 5 (some .int) :: wsL_law
def wsX10_init : List Cond := .code yX10_init cX10_init 1 none :: wsL_law
def wsX10_bytesOf : List Cond := .code yX10_bytesOf cX10_bytesOf 3 (some .int) :: wsL_law
def wsX10_put : List Cond := .code yX10_put cX10_put 4 none :: wsL_law
def wsX11_init : List Cond := .code yX11_init cX11_init 1 none :: wsL_law
def wsX11_feed : List Cond := .code yX11_feed cX11_feed 7 (some .int) :: wsL_law
def wsX11_end : List Cond := .code yX11_end cX11_end 2 (some .boolean) :: wsL_law
def wsX11_fault : List Cond := .code yX11_fault cX11_fault 3 (some .int) :: wsL_law
def wsX11_takePeace : List Cond := .code yX11_takePeace cX11_takePeace 1 (some .int) :: wsL_law
def wsX11_takeLaw : List Cond := .code yX11_takeLaw cX11_takeLaw 1 (some .int) :: wsL_law
def wsX11_text : List Cond := .code yX11_text cX11_text 2 (some .int) :: wsL_law
def wsX11_noPeace : List Cond := .code yX11_noPeace cX11_noPeace 1 (some .boolean) :: wsL_law
def wsX11_rule : List Cond := .code yX11_rule cX11_rule 2 (some .int) :: wsL_law
def wsX11_glove : List Cond := .code yX11_glove cX11_glove 3 (some .int) :: wsL_law
def wsX11_matter : List Cond := .code yX11_matter cX11_matter 3 (some .int) :: wsL_law
def wsX11_warmth : List Cond := .code yX11_warmth cX11_warmth 3 (some .int) :: wsL_law
def wsX11_law : List Cond := .code yX11_law cX11_law 2 (some .boolean) :: wsL_law
def wsX11_refuse : List Cond := .code yX11_refuse cX11_refuse 2 (some .int) :: wsL_law
def wsX11_meets : List Cond := .code yX11_meets cX11_meets 3 (some .int) :: wsL_law
def wsX11_loosen : List Cond := .code yX11_loosen cX11_loosen 2 (some .int) :: wsL_law
def wsX11_stuff : List Cond := .code yX11_stuff cX11_stuff 4 (some .int) :: wsL_law
def wsX11_swallow : List Cond := .code yX11_swallow cX11_swallow 1 (some .int) :: wsL_law
def wsX11_tear : List Cond := .code yX11_tear cX11_tear 2 (some .int) :: wsL_law
def wsX11_give : List Cond := .code yX11_give cX11_give 2 (some .int) :: wsL_law
def wsJ6_bitCount_0f7a4 : List Cond := .code yJ6_bitCount_0f7a4 cJ6_bitCount_0f7a4 1 (some .int) :: wsL_law
def wsX11_passDay : List Cond := .code yX11_passDay cX11_passDay 1 none :: wsL_law
def wsX11_days : List Cond := .code yX11_days cX11_days 3 (some .int) :: wsL_law
def wsX11_spite : List Cond := .code yX11_spite cX11_spite 2 (some .boolean) :: wsL_law
def wsX11_draw : List Cond := .code yX11_draw cX11_draw 2 (some .int) :: wsL_law
def wsX11_drawMeeting : List Cond := .code yX11_drawMeeting cX11_drawMeeting 3 none :: wsL_law
def wsX11_years : List Cond := .code yX11_years cX11_years 5 (some .int) :: wsL_law
def wsX11_status : List Cond := .code yX11_status cX11_status 2 (some .int) :: wsL_law
def wsX11_undo : List Cond := .code yX11_undo cX11_undo 1 (some .int) :: wsL_law
def wsX11_log : List Cond := .code yX11_log cX11_log 3 (some .int) :: wsL_law
def wsX11_rises : List Cond := .code yX11_rises cX11_rises 3 (some .int) :: wsL_law
def wsX11_later : List Cond := .code yX11_later cX11_later 6 (some .int) :: wsL_law
def wsX11_daysUntil : List Cond := .code yX11_daysUntil cX11_daysUntil 6 (some .int) :: wsL_law
def wsX11_soonest : List Cond := .code yX11_soonest cX11_soonest 8 (some .int) :: wsL_law
def wsX11_pairs : List Cond := .code yX11_pairs cX11_pairs 2 (some .int) :: wsL_law
def wsX11_allKnow : List Cond := .code yX11_allKnow cX11_allKnow 2 (some .int) :: wsL_law
def wsX11_isNoRise : List Cond := .code yX11_isNoRise cX11_isNoRise 1 (some .boolean) :: wsL_law
def wsX11_seen : List Cond := .code yX11_seen cX11_seen 5 (some .int) :: wsL_law
def wsX11_fits : List Cond := .code yX11_fits cX11_fits 5 (some .int) :: wsL_law
def wsX11_ask : List Cond := .code yX11_ask cX11_ask 8 (some .int) :: wsL_law
def wsX11_game : List Cond := .code yX11_game cX11_game 6 (some .int) :: wsL_law
def wsX11_leastGain : List Cond := .code yX11_leastGain cX11_leastGain 4 (some .int) :: wsL_law
def wsX11_sure : List Cond := .code yX11_sure cX11_sure 4 (some .int) :: wsL_law
def wsX11_isRest : List Cond := .code yX11_isRest cX11_isRest 7 (some .boolean) :: wsL_law
def wsX11_rests : List Cond := .code yX11_rests cX11_rests 5 (some .int) :: wsL_law
def wsX11_odds : List Cond := .code yX11_odds cX11_odds 6 (some .int) :: wsL_law
def wsX11_shares : List Cond := .code yX11_shares cX11_shares 4 (some .int) :: wsL_law
def wsX11_most : List Cond := .code yX11_most cX11_most 2 (some .int) :: wsL_law
def wsX11_allies : List Cond := .code yX11_allies cX11_allies 4 (some .int) :: wsL_law
def wsX11_image : List Cond := .code yX11_image cX11_image 1 (some .int) :: wsL_law
def wsX11_back : List Cond := .code yX11_back cX11_back 1 (some .int) :: wsL_law
def wsX11_count : List Cond := .code yX11_count cX11_count 2 (some .int) :: wsL_law
def wsX12_in : List Cond := .code yX12_in cX12_in 3 (some .boolean) :: wsL_law
def wsX12_has : List Cond := .code yX12_has cX12_has 2 (some .boolean) :: wsL_law
def wsX12_init : List Cond := .code yX12_init cX12_init 1 none :: wsL_law
def wsX12_byteOf : List Cond := .code yX12_byteOf cX12_byteOf 7 (some .int) :: wsL_law
def wsX12_feed : List Cond := .code yX12_feed cX12_feed 9 (some .int) :: wsL_law
def wsX12_end : List Cond := .code yX12_end cX12_end 2 (some .boolean) :: wsL_law
def wsX12_here : List Cond := .code yX12_here cX12_here 1 (some .int) :: wsL_law
def wsX12_look : List Cond := .code yX12_look cX12_look 1 (some .int) :: wsL_law
def wsX12_bad : List Cond := .code yX12_bad cX12_bad 1 none :: wsL_law
def wsX12_isDigit : List Cond := .code yX12_isDigit cX12_isDigit 1 (some .boolean) :: wsL_law
def wsX12_put : List Cond := .code yX12_put cX12_put 3 none :: wsL_law
def wsX12_letterOf : List Cond := .code yX12_letterOf cX12_letterOf 1 (some .int) :: wsL_law
def wsX12_opens : List Cond := .code yX12_opens cX12_opens 1 none :: wsL_law
def wsX12_closes : List Cond := .code yX12_closes cX12_closes 2 none :: wsL_law
def wsX12_plainNumber : List Cond := .code yX12_plainNumber cX12_plainNumber 3 (some .int) :: wsL_law
def wsX12_atom : List Cond := .code yX12_atom cX12_atom 2 none :: wsL_law
def wsX12_sum : List Cond := .code yX12_sum cX12_sum 2 none :: wsL_law
def wsX12_term : List Cond := .code yX12_term cX12_term 2 none :: wsL_law
def wsX12_isSign : List Cond := .code yX12_isSign cX12_isSign 1 (some .boolean) :: wsL_law
def wsX12_compare : List Cond := .code yX12_compare cX12_compare 2 none :: wsL_law
def wsX12_condition : List Cond := .code yX12_condition cX12_condition 1 none :: wsL_law
def wsX12_goOnAnd : List Cond := .code yX12_goOnAnd cX12_goOnAnd 1 none :: wsL_law
def wsX12_goOnOr : List Cond := .code yX12_goOnOr cX12_goOnOr 1 none :: wsL_law
def wsX12_unit : List Cond := .code yX12_unit cX12_unit 2 none :: wsL_law
def wsX12_clause : List Cond := .code yX12_clause cX12_clause 3 none :: wsL_law
def wsX12_open : List Cond := .code yX12_open cX12_open 2 none :: wsL_law
def wsX12_atEnd : List Cond := .code yX12_atEnd cX12_atEnd 1 (some .int) :: wsL_law
def wsX12_readLaw : List Cond := .code yX12_readLaw cX12_readLaw 2 (some .int) :: wsL_law
def wsX12_bounded : List Cond := .code yX12_bounded cX12_bounded 2 (some .int) :: wsL_law
def wsX12_worked : List Cond := .code yX12_worked cX12_worked 5 (some .int) :: wsL_law
def wsX12_workOut : List Cond := .code yX12_workOut cX12_workOut 6 (some .int) :: wsL_law
def wsX12_worthOf : List Cond := .code yX12_worthOf cX12_worthOf 3 (some .int) :: wsL_law
def wsX12_number : List Cond := .code yX12_number cX12_number 4 (some .int) :: wsL_law
def wsX12_itemOf : List Cond := .code yX12_itemOf cX12_itemOf 2 (some .int) :: wsL_law
def wsX12_highest : List Cond := .code yX12_highest cX12_highest 2 (some .int) :: wsL_law
def wsX12_usual : List Cond := .code yX12_usual cX12_usual 2 (some .int) :: wsL_law
def wsX12_items : List Cond := .code yX12_items cX12_items 7 none :: wsL_law
def wsX12_isWhole : List Cond := .code yX12_isWhole cX12_isWhole 3 (some .boolean) :: wsL_law
def wsX12_readPeace : List Cond := .code yX12_readPeace cX12_readPeace 4 (some .int) :: wsL_law
def wsX12_fault : List Cond := .code yX12_fault cX12_fault 2 (some .int) :: wsL_law
def wsX12_of : List Cond := .code yX12_of cX12_of 3 (some .int) :: wsL_law
def wsX12_takePeace : List Cond := .code yX12_takePeace cX12_takePeace 2 (some .int) :: wsL_law
def wsX12_text : List Cond := .code yX12_text cX12_text 2 (some .int) :: wsL_law
def wsX12_isGlove : List Cond := .code yX12_isGlove cX12_isGlove 2 (some .boolean) :: wsL_law
def wsX12_isMatter : List Cond := .code yX12_isMatter cX12_isMatter 2 (some .boolean) :: wsL_law
def wsX12_areTwo : List Cond := .code yX12_areTwo cX12_areTwo 3 (some .boolean) :: wsL_law
def wsX12_pairAt : List Cond := .code yX12_pairAt cX12_pairAt 2 (some .int) :: wsL_law
def wsX12_codeOf : List Cond := .code yX12_codeOf cX12_codeOf 2 (some .int) :: wsL_law
def wsX12_held : List Cond := .code yX12_held cX12_held 1 (some .int) :: wsL_law
def wsX12_riseBy : List Cond := .code yX12_riseBy cX12_riseBy 8 (some .int) :: wsL_law
def wsX12_areAllies : List Cond := .code yX12_areAllies cX12_areAllies 3 (some .boolean) :: wsL_law
def wsX12_riseFrom : List Cond := .code yX12_riseFrom cX12_riseFrom 5 (some .int) :: wsL_law
def wsX12_riseOf : List Cond := .code yX12_riseOf cX12_riseOf 3 (some .int) :: wsL_law
def wsX12_isFree : List Cond := .code yX12_isFree cX12_isFree 2 (some .boolean) :: wsL_law
def wsX12_signNow : List Cond := .code yX12_signNow cX12_signNow 4 none :: wsL_law
def wsX12_meetNow : List Cond := .code yX12_meetNow cX12_meetNow 5 none :: wsL_law
def wsX12_metMany : List Cond := .code yX12_metMany cX12_metMany 3 (some .int) :: wsL_law
def wsX12_warmthOfAll : List Cond := .code yX12_warmthOfAll cX12_warmthOfAll 3 (some .int) :: wsL_law
def wsX12_cool : List Cond := .code yX12_cool cX12_cool 3 none :: wsL_law
def wsX12_live : List Cond := .code yX12_live cX12_live 2 none :: wsL_law
def wsX12_passDay : List Cond := .code yX12_passDay cX12_passDay 4 none :: wsL_law
def wsX12_rule : List Cond := .code yX12_rule cX12_rule 2 (some .int) :: wsL_law
def wsX12_glove : List Cond := .code yX12_glove cX12_glove 3 (some .int) :: wsL_law
def wsX12_matter : List Cond := .code yX12_matter cX12_matter 3 (some .int) :: wsL_law
def wsX12_warmth : List Cond := .code yX12_warmth cX12_warmth 3 (some .int) :: wsL_law
def wsX12_law : List Cond := .code yX12_law cX12_law 2 (some .boolean) :: wsL_law
def wsX12_keep : List Cond := .code yX12_keep cX12_keep 2 none :: wsL_law
def wsX12_isRefused : List Cond := .code yX12_isRefused cX12_isRefused 2 (some .boolean) :: wsL_law
def wsX12_meets : List Cond := .code yX12_meets cX12_meets 3 (some .int) :: wsL_law
def wsX12_loosen : List Cond := .code yX12_loosen cX12_loosen 2 (some .int) :: wsL_law
def wsX12_stuff : List Cond := .code yX12_stuff cX12_stuff 4 (some .int) :: wsL_law
def wsX12_swallow : List Cond := .code yX12_swallow cX12_swallow 1 (some .int) :: wsL_law
def wsX12_tear : List Cond := .code yX12_tear cX12_tear 2 (some .int) :: wsL_law
def wsX12_give : List Cond := .code yX12_give cX12_give 2 (some .int) :: wsL_law
def wsX12_areDays : List Cond := .code yX12_areDays cX12_areDays 2 (some .boolean) :: wsL_law
def wsX12_days : List Cond := .code yX12_days cX12_days 3 (some .int) :: wsL_law
def wsX12_spite : List Cond := .code yX12_spite cX12_spite 2 (some .boolean) :: wsL_law
def wsX12_draw : List Cond := .code yX12_draw cX12_draw 2 (some .int) :: wsL_law
def wsX12_drawDay : List Cond := .code yX12_drawDay cX12_drawDay 4 none :: wsL_law
def wsX12_years : List Cond := .code yX12_years cX12_years 5 (some .int) :: wsL_law
def wsX12_status : List Cond := .code yX12_status cX12_status 2 (some .int) :: wsL_law
def wsX12_undo : List Cond := .code yX12_undo cX12_undo 2 (some .int) :: wsL_law
def wsX12_log : List Cond := .code yX12_log cX12_log 3 (some .int) :: wsL_law
def wsX12_rises : List Cond := .code yX12_rises cX12_rises 3 (some .int) :: wsL_law
def wsX12_later : List Cond := .code yX12_later cX12_later 6 (some .int) :: wsL_law
def wsX12_daysTo : List Cond := .code yX12_daysTo cX12_daysTo 6 (some .int) :: wsL_law
def wsX12_soonest : List Cond := .code yX12_soonest cX12_soonest 8 (some .int) :: wsL_law
def wsX12_tryPairs : List Cond := .code yX12_tryPairs cX12_tryPairs 6 none :: wsL_law
def wsX12_freeOfFirst : List Cond := .code yX12_freeOfFirst cX12_freeOfFirst 3 (some .int) :: wsL_law
def wsX12_layPairs : List Cond := .code yX12_layPairs cX12_layPairs 1 none :: wsL_law
def wsX12_pairs : List Cond := .code yX12_pairs cX12_pairs 2 (some .int) :: wsL_law
def wsX12_doAllKnow : List Cond := .code yX12_doAllKnow cX12_doAllKnow 3 (some .boolean) :: wsL_law
def wsX12_meetPairs : List Cond := .code yX12_meetPairs cX12_meetPairs 4 none :: wsL_law
def wsX12_allKnow : List Cond := .code yX12_allKnow cX12_allKnow 4 (some .int) :: wsL_law
def wsX12_seen : List Cond := .code yX12_seen cX12_seen 5 (some .int) :: wsL_law
def wsX12_toldRise : List Cond := .code yX12_toldRise cX12_toldRise 4 (some .int) :: wsL_law
def wsX12_isFreedom : List Cond := .code yX12_isFreedom cX12_isFreedom 5 (some .boolean) :: wsL_law
def wsX12_fits : List Cond := .code yX12_fits cX12_fits 5 (some .int) :: wsL_law
def wsX12_ask : List Cond := .code yX12_ask cX12_ask 8 (some .int) :: wsL_law
def wsX12_gloveOf : List Cond := .code yX12_gloveOf cX12_gloveOf 5 (some .int) :: wsL_law
def wsX12_gameOf : List Cond := .code yX12_gameOf cX12_gameOf 7 (some .int) :: wsL_law
def wsX12_game : List Cond := .code yX12_game cX12_game 4 (some .int) :: wsL_law
def wsX12_manyOf : List Cond := .code yX12_manyOf cX12_manyOf 4 (some .int) :: wsL_law
def wsX12_leastOf : List Cond := .code yX12_leastOf cX12_leastOf 5 (some .int) :: wsL_law
def wsX12_sure : List Cond := .code yX12_sure cX12_sure 4 (some .int) :: wsL_law
def wsX12_isRest : List Cond := .code yX12_isRest cX12_isRest 5 (some .boolean) :: wsL_law
def wsX12_rests : List Cond := .code yX12_rests cX12_rests 5 (some .int) :: wsL_law
def wsX12_oddsFrom : List Cond := .code yX12_oddsFrom cX12_oddsFrom 14 (some .int) :: wsL_law
def wsX12_odds : List Cond := .code yX12_odds cX12_odds 6 (some .int) :: wsL_law
def wsX12_shares : List Cond := .code yX12_shares cX12_shares 6 (some .int) :: wsL_law
def wsX12_metSet : List Cond := .code yX12_metSet cX12_metSet 3 (some .int) :: wsL_law
def wsX12_signedSet : List Cond := .code yX12_signedSet cX12_signedSet 3 (some .int) :: wsL_law
def wsX12_topPair : List Cond := .code yX12_topPair cX12_topPair 6 (some .int) :: wsL_law
def wsX12_topGlove : List Cond := .code yX12_topGlove cX12_topGlove 4 (some .int) :: wsL_law
def wsX12_heaviest : List Cond := .code yX12_heaviest cX12_heaviest 3 (some .int) :: wsL_law
def wsX12_bound : List Cond := .code yX12_bound cX12_bound 3 (some .int) :: wsL_law
def wsX12_due : List Cond := .code yX12_due cX12_due 4 (some .int) :: wsL_law
def wsX12_most : List Cond := .code yX12_most cX12_most 2 (some .int) :: wsL_law
def wsX12_allies : List Cond := .code yX12_allies cX12_allies 4 (some .int) :: wsL_law
def wsX12_image : List Cond := .code yX12_image cX12_image 2 (some .int) :: wsL_law
def wsX12_back : List Cond := .code yX12_back cX12_back 2 (some .int) :: wsL_law
def wsX12_count : List Cond := .code yX12_count cX12_count 2 (some .int) :: wsL_law
def wsJ9_abs_0f7a4 : List Cond := .code yJ9_abs_0f7a4 cJ9_abs_0f7a4 1 (some .int) :: wsL_law
def wsJ9_max_7cf53 : List Cond := .code yJ9_max_7cf53 cJ9_max_7cf53 2 (some .int) :: wsL_law
def wsJ9_max_f86c9 : List Cond := .code yJ9_max_f86c9 cJ9_max_f86c9 4 (some .long) :: wsL_law
def wsJ9_min_7cf53 : List Cond := .code yJ9_min_7cf53 cJ9_min_7cf53 2 (some .int) :: wsL_law
def wsJ9_min_f86c9 : List Cond := .code yJ9_min_f86c9 cJ9_min_f86c9 4 (some .long) :: wsL_law
def wsL_glove : List Cond := .codeWith yL_glove cL_glove 5 (some .int) [(0, 10, 13, 13)] :: wsL_law
set_option maxRecDepth 100000 in
theorem bi_wsL_law0_r1 : ∀ w ∈ wsL_law0_r1, w ∈ wsL_law := fun _ h => (List.mem_append_left _ (List.mem_append_left _ (List.mem_append_left _ (List.mem_append_left _ (List.mem_append_left _ (List.mem_append_left _ (List.mem_append_left _ (List.mem_append_left _ (List.mem_append_left _ (List.mem_append_left _ (List.mem_append_left _ (List.mem_append_left _ (List.mem_append_left _ (List.mem_append_left _ (List.mem_append_left _ (List.mem_append_left _ h))))))))))))))))
set_option maxRecDepth 100000 in
theorem bi_wsL_law0_r2 : ∀ w ∈ wsL_law0_r2, w ∈ wsL_law := fun _ h => (List.mem_append_left _ (List.mem_append_left _ (List.mem_append_left _ (List.mem_append_left _ (List.mem_append_left _ (List.mem_append_left _ (List.mem_append_left _ (List.mem_append_left _ (List.mem_append_left _ (List.mem_append_left _ (List.mem_append_left _ (List.mem_append_left _ (List.mem_append_left _ (List.mem_append_left _ (List.mem_append_left _ (List.mem_append_right _ (List.mem_append_left _ h)))))))))))))))))
set_option maxRecDepth 100000 in
theorem bi_wsL_law0_r3 : ∀ w ∈ wsL_law0_r3, w ∈ wsL_law := fun _ h => (List.mem_append_left _ (List.mem_append_left _ (List.mem_append_left _ (List.mem_append_left _ (List.mem_append_left _ (List.mem_append_left _ (List.mem_append_left _ (List.mem_append_left _ (List.mem_append_left _ (List.mem_append_left _ (List.mem_append_left _ (List.mem_append_left _ (List.mem_append_left _ (List.mem_append_left _ (List.mem_append_left _ (List.mem_append_right _ (List.mem_append_right _ (List.mem_append_left _ h))))))))))))))))))
set_option maxRecDepth 100000 in
theorem bi_wsL_law0_r4 : ∀ w ∈ wsL_law0_r4, w ∈ wsL_law := fun _ h => (List.mem_append_left _ (List.mem_append_left _ (List.mem_append_left _ (List.mem_append_left _ (List.mem_append_left _ (List.mem_append_left _ (List.mem_append_left _ (List.mem_append_left _ (List.mem_append_left _ (List.mem_append_left _ (List.mem_append_left _ (List.mem_append_left _ (List.mem_append_left _ (List.mem_append_left _ (List.mem_append_left _ (List.mem_append_right _ (List.mem_append_right _ (List.mem_append_right _ (List.mem_append_left _ h)))))))))))))))))))
set_option maxRecDepth 100000 in
theorem bi_wsL_law0_r5 : ∀ w ∈ wsL_law0_r5, w ∈ wsL_law := fun _ h => (List.mem_append_left _ (List.mem_append_left _ (List.mem_append_left _ (List.mem_append_left _ (List.mem_append_left _ (List.mem_append_left _ (List.mem_append_left _ (List.mem_append_left _ (List.mem_append_left _ (List.mem_append_left _ (List.mem_append_left _ (List.mem_append_left _ (List.mem_append_left _ (List.mem_append_left _ (List.mem_append_left _ (List.mem_append_right _ (List.mem_append_right _ (List.mem_append_right _ (List.mem_append_right _ (List.mem_append_left _ h))))))))))))))))))))
set_option maxRecDepth 100000 in
theorem bi_wsL_law0_r6 : ∀ w ∈ wsL_law0_r6, w ∈ wsL_law := fun _ h => (List.mem_append_left _ (List.mem_append_left _ (List.mem_append_left _ (List.mem_append_left _ (List.mem_append_left _ (List.mem_append_left _ (List.mem_append_left _ (List.mem_append_left _ (List.mem_append_left _ (List.mem_append_left _ (List.mem_append_left _ (List.mem_append_left _ (List.mem_append_left _ (List.mem_append_left _ (List.mem_append_left _ (List.mem_append_right _ (List.mem_append_right _ (List.mem_append_right _ (List.mem_append_right _ (List.mem_append_right _ (List.mem_append_left _ h)))))))))))))))))))))
set_option maxRecDepth 100000 in
theorem bi_wsL_law0_r7 : ∀ w ∈ wsL_law0_r7, w ∈ wsL_law := fun _ h => (List.mem_append_left _ (List.mem_append_left _ (List.mem_append_left _ (List.mem_append_left _ (List.mem_append_left _ (List.mem_append_left _ (List.mem_append_left _ (List.mem_append_left _ (List.mem_append_left _ (List.mem_append_left _ (List.mem_append_left _ (List.mem_append_left _ (List.mem_append_left _ (List.mem_append_left _ (List.mem_append_left _ (List.mem_append_right _ (List.mem_append_right _ (List.mem_append_right _ (List.mem_append_right _ (List.mem_append_right _ (List.mem_append_right _ (List.mem_append_left _ h))))))))))))))))))))))
set_option maxRecDepth 100000 in
theorem bi_wsL_law0_r8 : ∀ w ∈ wsL_law0_r8, w ∈ wsL_law := fun _ h => (List.mem_append_left _ (List.mem_append_left _ (List.mem_append_left _ (List.mem_append_left _ (List.mem_append_left _ (List.mem_append_left _ (List.mem_append_left _ (List.mem_append_left _ (List.mem_append_left _ (List.mem_append_left _ (List.mem_append_left _ (List.mem_append_left _ (List.mem_append_left _ (List.mem_append_left _ (List.mem_append_left _ (List.mem_append_right _ (List.mem_append_right _ (List.mem_append_right _ (List.mem_append_right _ (List.mem_append_right _ (List.mem_append_right _ (List.mem_append_right _ (List.mem_append_left _ h)))))))))))))))))))))))
set_option maxRecDepth 100000 in
theorem bi_wsL_law0_r9 : ∀ w ∈ wsL_law0_r9, w ∈ wsL_law := fun _ h => (List.mem_append_left _ (List.mem_append_left _ (List.mem_append_left _ (List.mem_append_left _ (List.mem_append_left _ (List.mem_append_left _ (List.mem_append_left _ (List.mem_append_left _ (List.mem_append_left _ (List.mem_append_left _ (List.mem_append_left _ (List.mem_append_left _ (List.mem_append_left _ (List.mem_append_left _ (List.mem_append_left _ (List.mem_append_right _ (List.mem_append_right _ (List.mem_append_right _ (List.mem_append_right _ (List.mem_append_right _ (List.mem_append_right _ (List.mem_append_right _ (List.mem_append_right _ (List.mem_append_left _ h))))))))))))))))))))))))
set_option maxRecDepth 100000 in
theorem bi_wsL_law0_r10 : ∀ w ∈ wsL_law0_r10, w ∈ wsL_law := fun _ h => (List.mem_append_left _ (List.mem_append_left _ (List.mem_append_left _ (List.mem_append_left _ (List.mem_append_left _ (List.mem_append_left _ (List.mem_append_left _ (List.mem_append_left _ (List.mem_append_left _ (List.mem_append_left _ (List.mem_append_left _ (List.mem_append_left _ (List.mem_append_left _ (List.mem_append_left _ (List.mem_append_left _ (List.mem_append_right _ (List.mem_append_right _ (List.mem_append_right _ (List.mem_append_right _ (List.mem_append_right _ (List.mem_append_right _ (List.mem_append_right _ (List.mem_append_right _ (List.mem_append_right _ (List.mem_append_left _ h)))))))))))))))))))))))))
set_option maxRecDepth 100000 in
theorem bi_wsL_law0_r11 : ∀ w ∈ wsL_law0_r11, w ∈ wsL_law := fun _ h => (List.mem_append_left _ (List.mem_append_left _ (List.mem_append_left _ (List.mem_append_left _ (List.mem_append_left _ (List.mem_append_left _ (List.mem_append_left _ (List.mem_append_left _ (List.mem_append_left _ (List.mem_append_left _ (List.mem_append_left _ (List.mem_append_left _ (List.mem_append_left _ (List.mem_append_left _ (List.mem_append_left _ (List.mem_append_right _ (List.mem_append_right _ (List.mem_append_right _ (List.mem_append_right _ (List.mem_append_right _ (List.mem_append_right _ (List.mem_append_right _ (List.mem_append_right _ (List.mem_append_right _ (List.mem_append_right _ (List.mem_append_left _ h))))))))))))))))))))))))))
set_option maxRecDepth 100000 in
theorem bi_wsL_law0_r12 : ∀ w ∈ wsL_law0_r12, w ∈ wsL_law := fun _ h => (List.mem_append_left _ (List.mem_append_left _ (List.mem_append_left _ (List.mem_append_left _ (List.mem_append_left _ (List.mem_append_left _ (List.mem_append_left _ (List.mem_append_left _ (List.mem_append_left _ (List.mem_append_left _ (List.mem_append_left _ (List.mem_append_left _ (List.mem_append_left _ (List.mem_append_left _ (List.mem_append_left _ (List.mem_append_right _ (List.mem_append_right _ (List.mem_append_right _ (List.mem_append_right _ (List.mem_append_right _ (List.mem_append_right _ (List.mem_append_right _ (List.mem_append_right _ (List.mem_append_right _ (List.mem_append_right _ (List.mem_append_right _ (List.mem_append_left _ h)))))))))))))))))))))))))))
set_option maxRecDepth 100000 in
theorem bi_wsL_law0_r13 : ∀ w ∈ wsL_law0_r13, w ∈ wsL_law := fun _ h => (List.mem_append_left _ (List.mem_append_left _ (List.mem_append_left _ (List.mem_append_left _ (List.mem_append_left _ (List.mem_append_left _ (List.mem_append_left _ (List.mem_append_left _ (List.mem_append_left _ (List.mem_append_left _ (List.mem_append_left _ (List.mem_append_left _ (List.mem_append_left _ (List.mem_append_left _ (List.mem_append_left _ (List.mem_append_right _ (List.mem_append_right _ (List.mem_append_right _ (List.mem_append_right _ (List.mem_append_right _ (List.mem_append_right _ (List.mem_append_right _ (List.mem_append_right _ (List.mem_append_right _ (List.mem_append_right _ (List.mem_append_right _ (List.mem_append_right _ (List.mem_append_left _ h))))))))))))))))))))))))))))
set_option maxRecDepth 100000 in
theorem bi_wsL_law0_r14 : ∀ w ∈ wsL_law0_r14, w ∈ wsL_law := fun _ h => (List.mem_append_left _ (List.mem_append_left _ (List.mem_append_left _ (List.mem_append_left _ (List.mem_append_left _ (List.mem_append_left _ (List.mem_append_left _ (List.mem_append_left _ (List.mem_append_left _ (List.mem_append_left _ (List.mem_append_left _ (List.mem_append_left _ (List.mem_append_left _ (List.mem_append_left _ (List.mem_append_left _ (List.mem_append_right _ (List.mem_append_right _ (List.mem_append_right _ (List.mem_append_right _ (List.mem_append_right _ (List.mem_append_right _ (List.mem_append_right _ (List.mem_append_right _ (List.mem_append_right _ (List.mem_append_right _ (List.mem_append_right _ (List.mem_append_right _ (List.mem_append_right _ (List.mem_append_left _ h)))))))))))))))))))))))))))))
set_option maxRecDepth 100000 in
theorem bi_wsL_law0_r15 : ∀ w ∈ wsL_law0_r15, w ∈ wsL_law := fun _ h => (List.mem_append_left _ (List.mem_append_left _ (List.mem_append_left _ (List.mem_append_left _ (List.mem_append_left _ (List.mem_append_left _ (List.mem_append_left _ (List.mem_append_left _ (List.mem_append_left _ (List.mem_append_left _ (List.mem_append_left _ (List.mem_append_left _ (List.mem_append_left _ (List.mem_append_left _ (List.mem_append_left _ (List.mem_append_right _ (List.mem_append_right _ (List.mem_append_right _ (List.mem_append_right _ (List.mem_append_right _ (List.mem_append_right _ (List.mem_append_right _ (List.mem_append_right _ (List.mem_append_right _ (List.mem_append_right _ (List.mem_append_right _ (List.mem_append_right _ (List.mem_append_right _ (List.mem_append_right _ (List.mem_append_left _ h))))))))))))))))))))))))))))))
set_option maxRecDepth 100000 in
theorem bi_wsL_law0_r16 : ∀ w ∈ wsL_law0_r16, w ∈ wsL_law := fun _ h => (List.mem_append_left _ (List.mem_append_left _ (List.mem_append_left _ (List.mem_append_left _ (List.mem_append_left _ (List.mem_append_left _ (List.mem_append_left _ (List.mem_append_left _ (List.mem_append_left _ (List.mem_append_left _ (List.mem_append_left _ (List.mem_append_left _ (List.mem_append_left _ (List.mem_append_left _ (List.mem_append_left _ (List.mem_append_right _ (List.mem_append_right _ (List.mem_append_right _ (List.mem_append_right _ (List.mem_append_right _ (List.mem_append_right _ (List.mem_append_right _ (List.mem_append_right _ (List.mem_append_right _ (List.mem_append_right _ (List.mem_append_right _ (List.mem_append_right _ (List.mem_append_right _ (List.mem_append_right _ (List.mem_append_right _ (List.mem_append_left _ h)))))))))))))))))))))))))))))))
set_option maxRecDepth 100000 in
theorem bi_wsL_law0_r17 : ∀ w ∈ wsL_law0_r17, w ∈ wsL_law := fun _ h => (List.mem_append_left _ (List.mem_append_left _ (List.mem_append_left _ (List.mem_append_left _ (List.mem_append_left _ (List.mem_append_left _ (List.mem_append_left _ (List.mem_append_left _ (List.mem_append_left _ (List.mem_append_left _ (List.mem_append_left _ (List.mem_append_left _ (List.mem_append_left _ (List.mem_append_left _ (List.mem_append_left _ (List.mem_append_right _ (List.mem_append_right _ (List.mem_append_right _ (List.mem_append_right _ (List.mem_append_right _ (List.mem_append_right _ (List.mem_append_right _ (List.mem_append_right _ (List.mem_append_right _ (List.mem_append_right _ (List.mem_append_right _ (List.mem_append_right _ (List.mem_append_right _ (List.mem_append_right _ (List.mem_append_right _ (List.mem_append_right _ (List.mem_append_left _ h))))))))))))))))))))))))))))))))
set_option maxRecDepth 100000 in
theorem bi_wsL_law0_r18 : ∀ w ∈ wsL_law0_r18, w ∈ wsL_law := fun _ h => (List.mem_append_left _ (List.mem_append_left _ (List.mem_append_left _ (List.mem_append_left _ (List.mem_append_left _ (List.mem_append_left _ (List.mem_append_left _ (List.mem_append_left _ (List.mem_append_left _ (List.mem_append_left _ (List.mem_append_left _ (List.mem_append_left _ (List.mem_append_left _ (List.mem_append_left _ (List.mem_append_left _ (List.mem_append_right _ (List.mem_append_right _ (List.mem_append_right _ (List.mem_append_right _ (List.mem_append_right _ (List.mem_append_right _ (List.mem_append_right _ (List.mem_append_right _ (List.mem_append_right _ (List.mem_append_right _ (List.mem_append_right _ (List.mem_append_right _ (List.mem_append_right _ (List.mem_append_right _ (List.mem_append_right _ (List.mem_append_right _ (List.mem_append_right _ (List.mem_append_left _ h)))))))))))))))))))))))))))))))))
set_option maxRecDepth 100000 in
theorem bi_wsL_law0_r19 : ∀ w ∈ wsL_law0_r19, w ∈ wsL_law := fun _ h => (List.mem_append_left _ (List.mem_append_left _ (List.mem_append_left _ (List.mem_append_left _ (List.mem_append_left _ (List.mem_append_left _ (List.mem_append_left _ (List.mem_append_left _ (List.mem_append_left _ (List.mem_append_left _ (List.mem_append_left _ (List.mem_append_left _ (List.mem_append_left _ (List.mem_append_left _ (List.mem_append_left _ (List.mem_append_right _ (List.mem_append_right _ (List.mem_append_right _ (List.mem_append_right _ (List.mem_append_right _ (List.mem_append_right _ (List.mem_append_right _ (List.mem_append_right _ (List.mem_append_right _ (List.mem_append_right _ (List.mem_append_right _ (List.mem_append_right _ (List.mem_append_right _ (List.mem_append_right _ (List.mem_append_right _ (List.mem_append_right _ (List.mem_append_right _ (List.mem_append_right _ (List.mem_append_left _ h))))))))))))))))))))))))))))))))))
set_option maxRecDepth 100000 in
theorem bi_wsL_law0_r20 : ∀ w ∈ wsL_law0_r20, w ∈ wsL_law := fun _ h => (List.mem_append_left _ (List.mem_append_left _ (List.mem_append_left _ (List.mem_append_left _ (List.mem_append_left _ (List.mem_append_left _ (List.mem_append_left _ (List.mem_append_left _ (List.mem_append_left _ (List.mem_append_left _ (List.mem_append_left _ (List.mem_append_left _ (List.mem_append_left _ (List.mem_append_left _ (List.mem_append_left _ (List.mem_append_right _ (List.mem_append_right _ (List.mem_append_right _ (List.mem_append_right _ (List.mem_append_right _ (List.mem_append_right _ (List.mem_append_right _ (List.mem_append_right _ (List.mem_append_right _ (List.mem_append_right _ (List.mem_append_right _ (List.mem_append_right _ (List.mem_append_right _ (List.mem_append_right _ (List.mem_append_right _ (List.mem_append_right _ (List.mem_append_right _ (List.mem_append_right _ (List.mem_append_right _ (List.mem_append_left _ h)))))))))))))))))))))))))))))))))))
set_option maxRecDepth 100000 in
theorem bi_wsL_law0_r21 : ∀ w ∈ wsL_law0_r21, w ∈ wsL_law := fun _ h => (List.mem_append_left _ (List.mem_append_left _ (List.mem_append_left _ (List.mem_append_left _ (List.mem_append_left _ (List.mem_append_left _ (List.mem_append_left _ (List.mem_append_left _ (List.mem_append_left _ (List.mem_append_left _ (List.mem_append_left _ (List.mem_append_left _ (List.mem_append_left _ (List.mem_append_left _ (List.mem_append_left _ (List.mem_append_right _ (List.mem_append_right _ (List.mem_append_right _ (List.mem_append_right _ (List.mem_append_right _ (List.mem_append_right _ (List.mem_append_right _ (List.mem_append_right _ (List.mem_append_right _ (List.mem_append_right _ (List.mem_append_right _ (List.mem_append_right _ (List.mem_append_right _ (List.mem_append_right _ (List.mem_append_right _ (List.mem_append_right _ (List.mem_append_right _ (List.mem_append_right _ (List.mem_append_right _ (List.mem_append_right _ (List.mem_append_left _ h))))))))))))))))))))))))))))))))))))
set_option maxRecDepth 100000 in
theorem bi_wsL_law0_r22 : ∀ w ∈ wsL_law0_r22, w ∈ wsL_law := fun _ h => (List.mem_append_left _ (List.mem_append_left _ (List.mem_append_left _ (List.mem_append_left _ (List.mem_append_left _ (List.mem_append_left _ (List.mem_append_left _ (List.mem_append_left _ (List.mem_append_left _ (List.mem_append_left _ (List.mem_append_left _ (List.mem_append_left _ (List.mem_append_left _ (List.mem_append_left _ (List.mem_append_left _ (List.mem_append_right _ (List.mem_append_right _ (List.mem_append_right _ (List.mem_append_right _ (List.mem_append_right _ (List.mem_append_right _ (List.mem_append_right _ (List.mem_append_right _ (List.mem_append_right _ (List.mem_append_right _ (List.mem_append_right _ (List.mem_append_right _ (List.mem_append_right _ (List.mem_append_right _ (List.mem_append_right _ (List.mem_append_right _ (List.mem_append_right _ (List.mem_append_right _ (List.mem_append_right _ (List.mem_append_right _ (List.mem_append_right _ (List.mem_append_left _ h)))))))))))))))))))))))))))))))))))))
set_option maxRecDepth 100000 in
theorem bi_wsL_law0_r23 : ∀ w ∈ wsL_law0_r23, w ∈ wsL_law := fun _ h => (List.mem_append_left _ (List.mem_append_left _ (List.mem_append_left _ (List.mem_append_left _ (List.mem_append_left _ (List.mem_append_left _ (List.mem_append_left _ (List.mem_append_left _ (List.mem_append_left _ (List.mem_append_left _ (List.mem_append_left _ (List.mem_append_left _ (List.mem_append_left _ (List.mem_append_left _ (List.mem_append_left _ (List.mem_append_right _ (List.mem_append_right _ (List.mem_append_right _ (List.mem_append_right _ (List.mem_append_right _ (List.mem_append_right _ (List.mem_append_right _ (List.mem_append_right _ (List.mem_append_right _ (List.mem_append_right _ (List.mem_append_right _ (List.mem_append_right _ (List.mem_append_right _ (List.mem_append_right _ (List.mem_append_right _ (List.mem_append_right _ (List.mem_append_right _ (List.mem_append_right _ (List.mem_append_right _ (List.mem_append_right _ (List.mem_append_right _ (List.mem_append_right _ (List.mem_append_left _ h))))))))))))))))))))))))))))))))))))))
set_option maxRecDepth 100000 in
theorem bi_wsL_law0_r24 : ∀ w ∈ wsL_law0_r24, w ∈ wsL_law := fun _ h => (List.mem_append_left _ (List.mem_append_left _ (List.mem_append_left _ (List.mem_append_left _ (List.mem_append_left _ (List.mem_append_left _ (List.mem_append_left _ (List.mem_append_left _ (List.mem_append_left _ (List.mem_append_left _ (List.mem_append_left _ (List.mem_append_left _ (List.mem_append_left _ (List.mem_append_left _ (List.mem_append_left _ (List.mem_append_right _ (List.mem_append_right _ (List.mem_append_right _ (List.mem_append_right _ (List.mem_append_right _ (List.mem_append_right _ (List.mem_append_right _ (List.mem_append_right _ (List.mem_append_right _ (List.mem_append_right _ (List.mem_append_right _ (List.mem_append_right _ (List.mem_append_right _ (List.mem_append_right _ (List.mem_append_right _ (List.mem_append_right _ (List.mem_append_right _ (List.mem_append_right _ (List.mem_append_right _ (List.mem_append_right _ (List.mem_append_right _ (List.mem_append_right _ (List.mem_append_right _ (List.mem_append_left _ h)))))))))))))))))))))))))))))))))))))))
set_option maxRecDepth 100000 in
theorem bi_wsL_law0_r25 : ∀ w ∈ wsL_law0_r25, w ∈ wsL_law := fun _ h => (List.mem_append_left _ (List.mem_append_left _ (List.mem_append_left _ (List.mem_append_left _ (List.mem_append_left _ (List.mem_append_left _ (List.mem_append_left _ (List.mem_append_left _ (List.mem_append_left _ (List.mem_append_left _ (List.mem_append_left _ (List.mem_append_left _ (List.mem_append_left _ (List.mem_append_left _ (List.mem_append_left _ (List.mem_append_right _ (List.mem_append_right _ (List.mem_append_right _ (List.mem_append_right _ (List.mem_append_right _ (List.mem_append_right _ (List.mem_append_right _ (List.mem_append_right _ (List.mem_append_right _ (List.mem_append_right _ (List.mem_append_right _ (List.mem_append_right _ (List.mem_append_right _ (List.mem_append_right _ (List.mem_append_right _ (List.mem_append_right _ (List.mem_append_right _ (List.mem_append_right _ (List.mem_append_right _ (List.mem_append_right _ (List.mem_append_right _ (List.mem_append_right _ (List.mem_append_right _ (List.mem_append_right _ (List.mem_append_left _ h))))))))))))))))))))))))))))))))))))))))
set_option maxRecDepth 100000 in
theorem bi_wsL_law0_r26 : ∀ w ∈ wsL_law0_r26, w ∈ wsL_law := fun _ h => (List.mem_append_left _ (List.mem_append_left _ (List.mem_append_left _ (List.mem_append_left _ (List.mem_append_left _ (List.mem_append_left _ (List.mem_append_left _ (List.mem_append_left _ (List.mem_append_left _ (List.mem_append_left _ (List.mem_append_left _ (List.mem_append_left _ (List.mem_append_left _ (List.mem_append_left _ (List.mem_append_left _ (List.mem_append_right _ (List.mem_append_right _ (List.mem_append_right _ (List.mem_append_right _ (List.mem_append_right _ (List.mem_append_right _ (List.mem_append_right _ (List.mem_append_right _ (List.mem_append_right _ (List.mem_append_right _ (List.mem_append_right _ (List.mem_append_right _ (List.mem_append_right _ (List.mem_append_right _ (List.mem_append_right _ (List.mem_append_right _ (List.mem_append_right _ (List.mem_append_right _ (List.mem_append_right _ (List.mem_append_right _ (List.mem_append_right _ (List.mem_append_right _ (List.mem_append_right _ (List.mem_append_right _ (List.mem_append_right _ (List.mem_append_left _ h)))))))))))))))))))))))))))))))))))))))))
set_option maxRecDepth 100000 in
theorem bi_wsL_law0_r27 : ∀ w ∈ wsL_law0_r27, w ∈ wsL_law := fun _ h => (List.mem_append_left _ (List.mem_append_left _ (List.mem_append_left _ (List.mem_append_left _ (List.mem_append_left _ (List.mem_append_left _ (List.mem_append_left _ (List.mem_append_left _ (List.mem_append_left _ (List.mem_append_left _ (List.mem_append_left _ (List.mem_append_left _ (List.mem_append_left _ (List.mem_append_left _ (List.mem_append_left _ (List.mem_append_right _ (List.mem_append_right _ (List.mem_append_right _ (List.mem_append_right _ (List.mem_append_right _ (List.mem_append_right _ (List.mem_append_right _ (List.mem_append_right _ (List.mem_append_right _ (List.mem_append_right _ (List.mem_append_right _ (List.mem_append_right _ (List.mem_append_right _ (List.mem_append_right _ (List.mem_append_right _ (List.mem_append_right _ (List.mem_append_right _ (List.mem_append_right _ (List.mem_append_right _ (List.mem_append_right _ (List.mem_append_right _ (List.mem_append_right _ (List.mem_append_right _ (List.mem_append_right _ (List.mem_append_right _ (List.mem_append_right _ (List.mem_append_left _ h))))))))))))))))))))))))))))))))))))))))))
set_option maxRecDepth 100000 in
theorem bi_wsL_law0_r28 : ∀ w ∈ wsL_law0_r28, w ∈ wsL_law := fun _ h => (List.mem_append_left _ (List.mem_append_left _ (List.mem_append_left _ (List.mem_append_left _ (List.mem_append_left _ (List.mem_append_left _ (List.mem_append_left _ (List.mem_append_left _ (List.mem_append_left _ (List.mem_append_left _ (List.mem_append_left _ (List.mem_append_left _ (List.mem_append_left _ (List.mem_append_left _ (List.mem_append_left _ (List.mem_append_right _ (List.mem_append_right _ (List.mem_append_right _ (List.mem_append_right _ (List.mem_append_right _ (List.mem_append_right _ (List.mem_append_right _ (List.mem_append_right _ (List.mem_append_right _ (List.mem_append_right _ (List.mem_append_right _ (List.mem_append_right _ (List.mem_append_right _ (List.mem_append_right _ (List.mem_append_right _ (List.mem_append_right _ (List.mem_append_right _ (List.mem_append_right _ (List.mem_append_right _ (List.mem_append_right _ (List.mem_append_right _ (List.mem_append_right _ (List.mem_append_right _ (List.mem_append_right _ (List.mem_append_right _ (List.mem_append_right _ (List.mem_append_right _ (List.mem_append_left _ h)))))))))))))))))))))))))))))))))))))))))))
set_option maxRecDepth 100000 in
theorem bi_wsL_law0_r29 : ∀ w ∈ wsL_law0_r29, w ∈ wsL_law := fun _ h => (List.mem_append_left _ (List.mem_append_left _ (List.mem_append_left _ (List.mem_append_left _ (List.mem_append_left _ (List.mem_append_left _ (List.mem_append_left _ (List.mem_append_left _ (List.mem_append_left _ (List.mem_append_left _ (List.mem_append_left _ (List.mem_append_left _ (List.mem_append_left _ (List.mem_append_left _ (List.mem_append_left _ (List.mem_append_right _ (List.mem_append_right _ (List.mem_append_right _ (List.mem_append_right _ (List.mem_append_right _ (List.mem_append_right _ (List.mem_append_right _ (List.mem_append_right _ (List.mem_append_right _ (List.mem_append_right _ (List.mem_append_right _ (List.mem_append_right _ (List.mem_append_right _ (List.mem_append_right _ (List.mem_append_right _ (List.mem_append_right _ (List.mem_append_right _ (List.mem_append_right _ (List.mem_append_right _ (List.mem_append_right _ (List.mem_append_right _ (List.mem_append_right _ (List.mem_append_right _ (List.mem_append_right _ (List.mem_append_right _ (List.mem_append_right _ (List.mem_append_right _ (List.mem_append_right _ (List.mem_append_left _ h))))))))))))))))))))))))))))))))))))))))))))
set_option maxRecDepth 100000 in
theorem bi_wsL_law0_r30 : ∀ w ∈ wsL_law0_r30, w ∈ wsL_law := fun _ h => (List.mem_append_left _ (List.mem_append_left _ (List.mem_append_left _ (List.mem_append_left _ (List.mem_append_left _ (List.mem_append_left _ (List.mem_append_left _ (List.mem_append_left _ (List.mem_append_left _ (List.mem_append_left _ (List.mem_append_left _ (List.mem_append_left _ (List.mem_append_left _ (List.mem_append_left _ (List.mem_append_left _ (List.mem_append_right _ (List.mem_append_right _ (List.mem_append_right _ (List.mem_append_right _ (List.mem_append_right _ (List.mem_append_right _ (List.mem_append_right _ (List.mem_append_right _ (List.mem_append_right _ (List.mem_append_right _ (List.mem_append_right _ (List.mem_append_right _ (List.mem_append_right _ (List.mem_append_right _ (List.mem_append_right _ (List.mem_append_right _ (List.mem_append_right _ (List.mem_append_right _ (List.mem_append_right _ (List.mem_append_right _ (List.mem_append_right _ (List.mem_append_right _ (List.mem_append_right _ (List.mem_append_right _ (List.mem_append_right _ (List.mem_append_right _ (List.mem_append_right _ (List.mem_append_right _ (List.mem_append_right _ (List.mem_append_left _ h)))))))))))))))))))))))))))))))))))))))))))))
set_option maxRecDepth 100000 in
theorem bi_wsL_law0_r31 : ∀ w ∈ wsL_law0_r31, w ∈ wsL_law := fun _ h => (List.mem_append_left _ (List.mem_append_left _ (List.mem_append_left _ (List.mem_append_left _ (List.mem_append_left _ (List.mem_append_left _ (List.mem_append_left _ (List.mem_append_left _ (List.mem_append_left _ (List.mem_append_left _ (List.mem_append_left _ (List.mem_append_left _ (List.mem_append_left _ (List.mem_append_left _ (List.mem_append_left _ (List.mem_append_right _ (List.mem_append_right _ (List.mem_append_right _ (List.mem_append_right _ (List.mem_append_right _ (List.mem_append_right _ (List.mem_append_right _ (List.mem_append_right _ (List.mem_append_right _ (List.mem_append_right _ (List.mem_append_right _ (List.mem_append_right _ (List.mem_append_right _ (List.mem_append_right _ (List.mem_append_right _ (List.mem_append_right _ (List.mem_append_right _ (List.mem_append_right _ (List.mem_append_right _ (List.mem_append_right _ (List.mem_append_right _ (List.mem_append_right _ (List.mem_append_right _ (List.mem_append_right _ (List.mem_append_right _ (List.mem_append_right _ (List.mem_append_right _ (List.mem_append_right _ (List.mem_append_right _ (List.mem_append_right _ (List.mem_append_left _ h))))))))))))))))))))))))))))))))))))))))))))))
set_option maxRecDepth 100000 in
theorem bi_wsL_law0_r32 : ∀ w ∈ wsL_law0_r32, w ∈ wsL_law := fun _ h => (List.mem_append_left _ (List.mem_append_left _ (List.mem_append_left _ (List.mem_append_left _ (List.mem_append_left _ (List.mem_append_left _ (List.mem_append_left _ (List.mem_append_left _ (List.mem_append_left _ (List.mem_append_left _ (List.mem_append_left _ (List.mem_append_left _ (List.mem_append_left _ (List.mem_append_left _ (List.mem_append_left _ (List.mem_append_right _ (List.mem_append_right _ (List.mem_append_right _ (List.mem_append_right _ (List.mem_append_right _ (List.mem_append_right _ (List.mem_append_right _ (List.mem_append_right _ (List.mem_append_right _ (List.mem_append_right _ (List.mem_append_right _ (List.mem_append_right _ (List.mem_append_right _ (List.mem_append_right _ (List.mem_append_right _ (List.mem_append_right _ (List.mem_append_right _ (List.mem_append_right _ (List.mem_append_right _ (List.mem_append_right _ (List.mem_append_right _ (List.mem_append_right _ (List.mem_append_right _ (List.mem_append_right _ (List.mem_append_right _ (List.mem_append_right _ (List.mem_append_right _ (List.mem_append_right _ (List.mem_append_right _ (List.mem_append_right _ (List.mem_append_right _ (List.mem_append_left _ h)))))))))))))))))))))))))))))))))))))))))))))))
set_option maxRecDepth 100000 in
theorem bi_wsL_law0_r33 : ∀ w ∈ wsL_law0_r33, w ∈ wsL_law := fun _ h => (List.mem_append_left _ (List.mem_append_left _ (List.mem_append_left _ (List.mem_append_left _ (List.mem_append_left _ (List.mem_append_left _ (List.mem_append_left _ (List.mem_append_left _ (List.mem_append_left _ (List.mem_append_left _ (List.mem_append_left _ (List.mem_append_left _ (List.mem_append_left _ (List.mem_append_left _ (List.mem_append_left _ (List.mem_append_right _ (List.mem_append_right _ (List.mem_append_right _ (List.mem_append_right _ (List.mem_append_right _ (List.mem_append_right _ (List.mem_append_right _ (List.mem_append_right _ (List.mem_append_right _ (List.mem_append_right _ (List.mem_append_right _ (List.mem_append_right _ (List.mem_append_right _ (List.mem_append_right _ (List.mem_append_right _ (List.mem_append_right _ (List.mem_append_right _ (List.mem_append_right _ (List.mem_append_right _ (List.mem_append_right _ (List.mem_append_right _ (List.mem_append_right _ (List.mem_append_right _ (List.mem_append_right _ (List.mem_append_right _ (List.mem_append_right _ (List.mem_append_right _ (List.mem_append_right _ (List.mem_append_right _ (List.mem_append_right _ (List.mem_append_right _ (List.mem_append_right _ (List.mem_append_left _ h))))))))))))))))))))))))))))))))))))))))))))))))
set_option maxRecDepth 100000 in
theorem bi_wsL_law0_r34 : ∀ w ∈ wsL_law0_r34, w ∈ wsL_law := fun _ h => (List.mem_append_left _ (List.mem_append_left _ (List.mem_append_left _ (List.mem_append_left _ (List.mem_append_left _ (List.mem_append_left _ (List.mem_append_left _ (List.mem_append_left _ (List.mem_append_left _ (List.mem_append_left _ (List.mem_append_left _ (List.mem_append_left _ (List.mem_append_left _ (List.mem_append_left _ (List.mem_append_left _ (List.mem_append_right _ (List.mem_append_right _ (List.mem_append_right _ (List.mem_append_right _ (List.mem_append_right _ (List.mem_append_right _ (List.mem_append_right _ (List.mem_append_right _ (List.mem_append_right _ (List.mem_append_right _ (List.mem_append_right _ (List.mem_append_right _ (List.mem_append_right _ (List.mem_append_right _ (List.mem_append_right _ (List.mem_append_right _ (List.mem_append_right _ (List.mem_append_right _ (List.mem_append_right _ (List.mem_append_right _ (List.mem_append_right _ (List.mem_append_right _ (List.mem_append_right _ (List.mem_append_right _ (List.mem_append_right _ (List.mem_append_right _ (List.mem_append_right _ (List.mem_append_right _ (List.mem_append_right _ (List.mem_append_right _ (List.mem_append_right _ (List.mem_append_right _ (List.mem_append_right _ (List.mem_append_left _ h)))))))))))))))))))))))))))))))))))))))))))))))))
set_option maxRecDepth 100000 in
theorem bi_wsL_law0_r35 : ∀ w ∈ wsL_law0_r35, w ∈ wsL_law := fun _ h => (List.mem_append_left _ (List.mem_append_left _ (List.mem_append_left _ (List.mem_append_left _ (List.mem_append_left _ (List.mem_append_left _ (List.mem_append_left _ (List.mem_append_left _ (List.mem_append_left _ (List.mem_append_left _ (List.mem_append_left _ (List.mem_append_left _ (List.mem_append_left _ (List.mem_append_left _ (List.mem_append_left _ (List.mem_append_right _ (List.mem_append_right _ (List.mem_append_right _ (List.mem_append_right _ (List.mem_append_right _ (List.mem_append_right _ (List.mem_append_right _ (List.mem_append_right _ (List.mem_append_right _ (List.mem_append_right _ (List.mem_append_right _ (List.mem_append_right _ (List.mem_append_right _ (List.mem_append_right _ (List.mem_append_right _ (List.mem_append_right _ (List.mem_append_right _ (List.mem_append_right _ (List.mem_append_right _ (List.mem_append_right _ (List.mem_append_right _ (List.mem_append_right _ (List.mem_append_right _ (List.mem_append_right _ (List.mem_append_right _ (List.mem_append_right _ (List.mem_append_right _ (List.mem_append_right _ (List.mem_append_right _ (List.mem_append_right _ (List.mem_append_right _ (List.mem_append_right _ (List.mem_append_right _ (List.mem_append_right _ (List.mem_append_left _ h))))))))))))))))))))))))))))))))))))))))))))))))))
set_option maxRecDepth 100000 in
theorem bi_wsL_law0_r36 : ∀ w ∈ wsL_law0_r36, w ∈ wsL_law := fun _ h => (List.mem_append_left _ (List.mem_append_left _ (List.mem_append_left _ (List.mem_append_left _ (List.mem_append_left _ (List.mem_append_left _ (List.mem_append_left _ (List.mem_append_left _ (List.mem_append_left _ (List.mem_append_left _ (List.mem_append_left _ (List.mem_append_left _ (List.mem_append_left _ (List.mem_append_left _ (List.mem_append_left _ (List.mem_append_right _ (List.mem_append_right _ (List.mem_append_right _ (List.mem_append_right _ (List.mem_append_right _ (List.mem_append_right _ (List.mem_append_right _ (List.mem_append_right _ (List.mem_append_right _ (List.mem_append_right _ (List.mem_append_right _ (List.mem_append_right _ (List.mem_append_right _ (List.mem_append_right _ (List.mem_append_right _ (List.mem_append_right _ (List.mem_append_right _ (List.mem_append_right _ (List.mem_append_right _ (List.mem_append_right _ (List.mem_append_right _ (List.mem_append_right _ (List.mem_append_right _ (List.mem_append_right _ (List.mem_append_right _ (List.mem_append_right _ (List.mem_append_right _ (List.mem_append_right _ (List.mem_append_right _ (List.mem_append_right _ (List.mem_append_right _ (List.mem_append_right _ (List.mem_append_right _ (List.mem_append_right _ (List.mem_append_right _ (List.mem_append_left _ h)))))))))))))))))))))))))))))))))))))))))))))))))))
set_option maxRecDepth 100000 in
theorem bi_wsL_law0_r37 : ∀ w ∈ wsL_law0_r37, w ∈ wsL_law := fun _ h => (List.mem_append_left _ (List.mem_append_left _ (List.mem_append_left _ (List.mem_append_left _ (List.mem_append_left _ (List.mem_append_left _ (List.mem_append_left _ (List.mem_append_left _ (List.mem_append_left _ (List.mem_append_left _ (List.mem_append_left _ (List.mem_append_left _ (List.mem_append_left _ (List.mem_append_left _ (List.mem_append_left _ (List.mem_append_right _ (List.mem_append_right _ (List.mem_append_right _ (List.mem_append_right _ (List.mem_append_right _ (List.mem_append_right _ (List.mem_append_right _ (List.mem_append_right _ (List.mem_append_right _ (List.mem_append_right _ (List.mem_append_right _ (List.mem_append_right _ (List.mem_append_right _ (List.mem_append_right _ (List.mem_append_right _ (List.mem_append_right _ (List.mem_append_right _ (List.mem_append_right _ (List.mem_append_right _ (List.mem_append_right _ (List.mem_append_right _ (List.mem_append_right _ (List.mem_append_right _ (List.mem_append_right _ (List.mem_append_right _ (List.mem_append_right _ (List.mem_append_right _ (List.mem_append_right _ (List.mem_append_right _ (List.mem_append_right _ (List.mem_append_right _ (List.mem_append_right _ (List.mem_append_right _ (List.mem_append_right _ (List.mem_append_right _ (List.mem_append_right _ (List.mem_append_left _ h))))))))))))))))))))))))))))))))))))))))))))))))))))
set_option maxRecDepth 100000 in
theorem bi_wsL_law0_r38 : ∀ w ∈ wsL_law0_r38, w ∈ wsL_law := fun _ h => (List.mem_append_left _ (List.mem_append_left _ (List.mem_append_left _ (List.mem_append_left _ (List.mem_append_left _ (List.mem_append_left _ (List.mem_append_left _ (List.mem_append_left _ (List.mem_append_left _ (List.mem_append_left _ (List.mem_append_left _ (List.mem_append_left _ (List.mem_append_left _ (List.mem_append_left _ (List.mem_append_left _ (List.mem_append_right _ (List.mem_append_right _ (List.mem_append_right _ (List.mem_append_right _ (List.mem_append_right _ (List.mem_append_right _ (List.mem_append_right _ (List.mem_append_right _ (List.mem_append_right _ (List.mem_append_right _ (List.mem_append_right _ (List.mem_append_right _ (List.mem_append_right _ (List.mem_append_right _ (List.mem_append_right _ (List.mem_append_right _ (List.mem_append_right _ (List.mem_append_right _ (List.mem_append_right _ (List.mem_append_right _ (List.mem_append_right _ (List.mem_append_right _ (List.mem_append_right _ (List.mem_append_right _ (List.mem_append_right _ (List.mem_append_right _ (List.mem_append_right _ (List.mem_append_right _ (List.mem_append_right _ (List.mem_append_right _ (List.mem_append_right _ (List.mem_append_right _ (List.mem_append_right _ (List.mem_append_right _ (List.mem_append_right _ (List.mem_append_right _ (List.mem_append_right _ (List.mem_append_left _ h)))))))))))))))))))))))))))))))))))))))))))))))))))))
set_option maxRecDepth 100000 in
theorem bi_wsL_law0_r39 : ∀ w ∈ wsL_law0_r39, w ∈ wsL_law := fun _ h => (List.mem_append_left _ (List.mem_append_left _ (List.mem_append_left _ (List.mem_append_left _ (List.mem_append_left _ (List.mem_append_left _ (List.mem_append_left _ (List.mem_append_left _ (List.mem_append_left _ (List.mem_append_left _ (List.mem_append_left _ (List.mem_append_left _ (List.mem_append_left _ (List.mem_append_left _ (List.mem_append_left _ (List.mem_append_right _ (List.mem_append_right _ (List.mem_append_right _ (List.mem_append_right _ (List.mem_append_right _ (List.mem_append_right _ (List.mem_append_right _ (List.mem_append_right _ (List.mem_append_right _ (List.mem_append_right _ (List.mem_append_right _ (List.mem_append_right _ (List.mem_append_right _ (List.mem_append_right _ (List.mem_append_right _ (List.mem_append_right _ (List.mem_append_right _ (List.mem_append_right _ (List.mem_append_right _ (List.mem_append_right _ (List.mem_append_right _ (List.mem_append_right _ (List.mem_append_right _ (List.mem_append_right _ (List.mem_append_right _ (List.mem_append_right _ (List.mem_append_right _ (List.mem_append_right _ (List.mem_append_right _ (List.mem_append_right _ (List.mem_append_right _ (List.mem_append_right _ (List.mem_append_right _ (List.mem_append_right _ (List.mem_append_right _ (List.mem_append_right _ (List.mem_append_right _ (List.mem_append_right _ (List.mem_append_left _ h))))))))))))))))))))))))))))))))))))))))))))))))))))))
set_option maxRecDepth 100000 in
theorem bi_wsL_law0_r40 : ∀ w ∈ wsL_law0_r40, w ∈ wsL_law := fun _ h => (List.mem_append_left _ (List.mem_append_left _ (List.mem_append_left _ (List.mem_append_left _ (List.mem_append_left _ (List.mem_append_left _ (List.mem_append_left _ (List.mem_append_left _ (List.mem_append_left _ (List.mem_append_left _ (List.mem_append_left _ (List.mem_append_left _ (List.mem_append_left _ (List.mem_append_left _ (List.mem_append_left _ (List.mem_append_right _ (List.mem_append_right _ (List.mem_append_right _ (List.mem_append_right _ (List.mem_append_right _ (List.mem_append_right _ (List.mem_append_right _ (List.mem_append_right _ (List.mem_append_right _ (List.mem_append_right _ (List.mem_append_right _ (List.mem_append_right _ (List.mem_append_right _ (List.mem_append_right _ (List.mem_append_right _ (List.mem_append_right _ (List.mem_append_right _ (List.mem_append_right _ (List.mem_append_right _ (List.mem_append_right _ (List.mem_append_right _ (List.mem_append_right _ (List.mem_append_right _ (List.mem_append_right _ (List.mem_append_right _ (List.mem_append_right _ (List.mem_append_right _ (List.mem_append_right _ (List.mem_append_right _ (List.mem_append_right _ (List.mem_append_right _ (List.mem_append_right _ (List.mem_append_right _ (List.mem_append_right _ (List.mem_append_right _ (List.mem_append_right _ (List.mem_append_right _ (List.mem_append_right _ (List.mem_append_right _ (List.mem_append_left _ h)))))))))))))))))))))))))))))))))))))))))))))))))))))))
set_option maxRecDepth 100000 in
theorem bi_wsL_law0_r41 : ∀ w ∈ wsL_law0_r41, w ∈ wsL_law := fun _ h => (List.mem_append_left _ (List.mem_append_left _ (List.mem_append_left _ (List.mem_append_left _ (List.mem_append_left _ (List.mem_append_left _ (List.mem_append_left _ (List.mem_append_left _ (List.mem_append_left _ (List.mem_append_left _ (List.mem_append_left _ (List.mem_append_left _ (List.mem_append_left _ (List.mem_append_left _ (List.mem_append_left _ (List.mem_append_right _ (List.mem_append_right _ (List.mem_append_right _ (List.mem_append_right _ (List.mem_append_right _ (List.mem_append_right _ (List.mem_append_right _ (List.mem_append_right _ (List.mem_append_right _ (List.mem_append_right _ (List.mem_append_right _ (List.mem_append_right _ (List.mem_append_right _ (List.mem_append_right _ (List.mem_append_right _ (List.mem_append_right _ (List.mem_append_right _ (List.mem_append_right _ (List.mem_append_right _ (List.mem_append_right _ (List.mem_append_right _ (List.mem_append_right _ (List.mem_append_right _ (List.mem_append_right _ (List.mem_append_right _ (List.mem_append_right _ (List.mem_append_right _ (List.mem_append_right _ (List.mem_append_right _ (List.mem_append_right _ (List.mem_append_right _ (List.mem_append_right _ (List.mem_append_right _ (List.mem_append_right _ (List.mem_append_right _ (List.mem_append_right _ (List.mem_append_right _ (List.mem_append_right _ (List.mem_append_right _ (List.mem_append_right _ (List.mem_append_left _ h))))))))))))))))))))))))))))))))))))))))))))))))))))))))
set_option maxRecDepth 100000 in
theorem bi_wsL_law0_r42 : ∀ w ∈ wsL_law0_r42, w ∈ wsL_law := fun _ h => (List.mem_append_left _ (List.mem_append_left _ (List.mem_append_left _ (List.mem_append_left _ (List.mem_append_left _ (List.mem_append_left _ (List.mem_append_left _ (List.mem_append_left _ (List.mem_append_left _ (List.mem_append_left _ (List.mem_append_left _ (List.mem_append_left _ (List.mem_append_left _ (List.mem_append_left _ (List.mem_append_left _ (List.mem_append_right _ (List.mem_append_right _ (List.mem_append_right _ (List.mem_append_right _ (List.mem_append_right _ (List.mem_append_right _ (List.mem_append_right _ (List.mem_append_right _ (List.mem_append_right _ (List.mem_append_right _ (List.mem_append_right _ (List.mem_append_right _ (List.mem_append_right _ (List.mem_append_right _ (List.mem_append_right _ (List.mem_append_right _ (List.mem_append_right _ (List.mem_append_right _ (List.mem_append_right _ (List.mem_append_right _ (List.mem_append_right _ (List.mem_append_right _ (List.mem_append_right _ (List.mem_append_right _ (List.mem_append_right _ (List.mem_append_right _ (List.mem_append_right _ (List.mem_append_right _ (List.mem_append_right _ (List.mem_append_right _ (List.mem_append_right _ (List.mem_append_right _ (List.mem_append_right _ (List.mem_append_right _ (List.mem_append_right _ (List.mem_append_right _ (List.mem_append_right _ (List.mem_append_right _ (List.mem_append_right _ (List.mem_append_right _ (List.mem_append_right _ (List.mem_append_left _ h)))))))))))))))))))))))))))))))))))))))))))))))))))))))))
set_option maxRecDepth 100000 in
theorem bi_wsL_law0_r43 : ∀ w ∈ wsL_law0_r43, w ∈ wsL_law := fun _ h => (List.mem_append_left _ (List.mem_append_left _ (List.mem_append_left _ (List.mem_append_left _ (List.mem_append_left _ (List.mem_append_left _ (List.mem_append_left _ (List.mem_append_left _ (List.mem_append_left _ (List.mem_append_left _ (List.mem_append_left _ (List.mem_append_left _ (List.mem_append_left _ (List.mem_append_left _ (List.mem_append_left _ (List.mem_append_right _ (List.mem_append_right _ (List.mem_append_right _ (List.mem_append_right _ (List.mem_append_right _ (List.mem_append_right _ (List.mem_append_right _ (List.mem_append_right _ (List.mem_append_right _ (List.mem_append_right _ (List.mem_append_right _ (List.mem_append_right _ (List.mem_append_right _ (List.mem_append_right _ (List.mem_append_right _ (List.mem_append_right _ (List.mem_append_right _ (List.mem_append_right _ (List.mem_append_right _ (List.mem_append_right _ (List.mem_append_right _ (List.mem_append_right _ (List.mem_append_right _ (List.mem_append_right _ (List.mem_append_right _ (List.mem_append_right _ (List.mem_append_right _ (List.mem_append_right _ (List.mem_append_right _ (List.mem_append_right _ (List.mem_append_right _ (List.mem_append_right _ (List.mem_append_right _ (List.mem_append_right _ (List.mem_append_right _ (List.mem_append_right _ (List.mem_append_right _ (List.mem_append_right _ (List.mem_append_right _ (List.mem_append_right _ (List.mem_append_right _ (List.mem_append_right _ (List.mem_append_left _ h))))))))))))))))))))))))))))))))))))))))))))))))))))))))))
set_option maxRecDepth 100000 in
theorem bi_wsL_law0_r44 : ∀ w ∈ wsL_law0_r44, w ∈ wsL_law := fun _ h => (List.mem_append_left _ (List.mem_append_left _ (List.mem_append_left _ (List.mem_append_left _ (List.mem_append_left _ (List.mem_append_left _ (List.mem_append_left _ (List.mem_append_left _ (List.mem_append_left _ (List.mem_append_left _ (List.mem_append_left _ (List.mem_append_left _ (List.mem_append_left _ (List.mem_append_left _ (List.mem_append_left _ (List.mem_append_right _ (List.mem_append_right _ (List.mem_append_right _ (List.mem_append_right _ (List.mem_append_right _ (List.mem_append_right _ (List.mem_append_right _ (List.mem_append_right _ (List.mem_append_right _ (List.mem_append_right _ (List.mem_append_right _ (List.mem_append_right _ (List.mem_append_right _ (List.mem_append_right _ (List.mem_append_right _ (List.mem_append_right _ (List.mem_append_right _ (List.mem_append_right _ (List.mem_append_right _ (List.mem_append_right _ (List.mem_append_right _ (List.mem_append_right _ (List.mem_append_right _ (List.mem_append_right _ (List.mem_append_right _ (List.mem_append_right _ (List.mem_append_right _ (List.mem_append_right _ (List.mem_append_right _ (List.mem_append_right _ (List.mem_append_right _ (List.mem_append_right _ (List.mem_append_right _ (List.mem_append_right _ (List.mem_append_right _ (List.mem_append_right _ (List.mem_append_right _ (List.mem_append_right _ (List.mem_append_right _ (List.mem_append_right _ (List.mem_append_right _ (List.mem_append_right _ (List.mem_append_right _ (List.mem_append_left _ h)))))))))))))))))))))))))))))))))))))))))))))))))))))))))))
set_option maxRecDepth 100000 in
theorem bi_wsL_law0_r45 : ∀ w ∈ wsL_law0_r45, w ∈ wsL_law := fun _ h => (List.mem_append_left _ (List.mem_append_left _ (List.mem_append_left _ (List.mem_append_left _ (List.mem_append_left _ (List.mem_append_left _ (List.mem_append_left _ (List.mem_append_left _ (List.mem_append_left _ (List.mem_append_left _ (List.mem_append_left _ (List.mem_append_left _ (List.mem_append_left _ (List.mem_append_left _ (List.mem_append_left _ (List.mem_append_right _ (List.mem_append_right _ (List.mem_append_right _ (List.mem_append_right _ (List.mem_append_right _ (List.mem_append_right _ (List.mem_append_right _ (List.mem_append_right _ (List.mem_append_right _ (List.mem_append_right _ (List.mem_append_right _ (List.mem_append_right _ (List.mem_append_right _ (List.mem_append_right _ (List.mem_append_right _ (List.mem_append_right _ (List.mem_append_right _ (List.mem_append_right _ (List.mem_append_right _ (List.mem_append_right _ (List.mem_append_right _ (List.mem_append_right _ (List.mem_append_right _ (List.mem_append_right _ (List.mem_append_right _ (List.mem_append_right _ (List.mem_append_right _ (List.mem_append_right _ (List.mem_append_right _ (List.mem_append_right _ (List.mem_append_right _ (List.mem_append_right _ (List.mem_append_right _ (List.mem_append_right _ (List.mem_append_right _ (List.mem_append_right _ (List.mem_append_right _ (List.mem_append_right _ (List.mem_append_right _ (List.mem_append_right _ (List.mem_append_right _ (List.mem_append_right _ (List.mem_append_right _ (List.mem_append_right _ (List.mem_append_left _ h))))))))))))))))))))))))))))))))))))))))))))))))))))))))))))
set_option maxRecDepth 100000 in
theorem bi_wsL_law0_r46 : ∀ w ∈ wsL_law0_r46, w ∈ wsL_law := fun _ h => (List.mem_append_left _ (List.mem_append_left _ (List.mem_append_left _ (List.mem_append_left _ (List.mem_append_left _ (List.mem_append_left _ (List.mem_append_left _ (List.mem_append_left _ (List.mem_append_left _ (List.mem_append_left _ (List.mem_append_left _ (List.mem_append_left _ (List.mem_append_left _ (List.mem_append_left _ (List.mem_append_left _ (List.mem_append_right _ (List.mem_append_right _ (List.mem_append_right _ (List.mem_append_right _ (List.mem_append_right _ (List.mem_append_right _ (List.mem_append_right _ (List.mem_append_right _ (List.mem_append_right _ (List.mem_append_right _ (List.mem_append_right _ (List.mem_append_right _ (List.mem_append_right _ (List.mem_append_right _ (List.mem_append_right _ (List.mem_append_right _ (List.mem_append_right _ (List.mem_append_right _ (List.mem_append_right _ (List.mem_append_right _ (List.mem_append_right _ (List.mem_append_right _ (List.mem_append_right _ (List.mem_append_right _ (List.mem_append_right _ (List.mem_append_right _ (List.mem_append_right _ (List.mem_append_right _ (List.mem_append_right _ (List.mem_append_right _ (List.mem_append_right _ (List.mem_append_right _ (List.mem_append_right _ (List.mem_append_right _ (List.mem_append_right _ (List.mem_append_right _ (List.mem_append_right _ (List.mem_append_right _ (List.mem_append_right _ (List.mem_append_right _ (List.mem_append_right _ (List.mem_append_right _ (List.mem_append_right _ (List.mem_append_right _ (List.mem_append_right _ (List.mem_append_left _ h)))))))))))))))))))))))))))))))))))))))))))))))))))))))))))))
set_option maxRecDepth 100000 in
theorem bi_wsL_law0_r47 : ∀ w ∈ wsL_law0_r47, w ∈ wsL_law := fun _ h => (List.mem_append_left _ (List.mem_append_left _ (List.mem_append_left _ (List.mem_append_left _ (List.mem_append_left _ (List.mem_append_left _ (List.mem_append_left _ (List.mem_append_left _ (List.mem_append_left _ (List.mem_append_left _ (List.mem_append_left _ (List.mem_append_left _ (List.mem_append_left _ (List.mem_append_left _ (List.mem_append_left _ (List.mem_append_right _ (List.mem_append_right _ (List.mem_append_right _ (List.mem_append_right _ (List.mem_append_right _ (List.mem_append_right _ (List.mem_append_right _ (List.mem_append_right _ (List.mem_append_right _ (List.mem_append_right _ (List.mem_append_right _ (List.mem_append_right _ (List.mem_append_right _ (List.mem_append_right _ (List.mem_append_right _ (List.mem_append_right _ (List.mem_append_right _ (List.mem_append_right _ (List.mem_append_right _ (List.mem_append_right _ (List.mem_append_right _ (List.mem_append_right _ (List.mem_append_right _ (List.mem_append_right _ (List.mem_append_right _ (List.mem_append_right _ (List.mem_append_right _ (List.mem_append_right _ (List.mem_append_right _ (List.mem_append_right _ (List.mem_append_right _ (List.mem_append_right _ (List.mem_append_right _ (List.mem_append_right _ (List.mem_append_right _ (List.mem_append_right _ (List.mem_append_right _ (List.mem_append_right _ (List.mem_append_right _ (List.mem_append_right _ (List.mem_append_right _ (List.mem_append_right _ (List.mem_append_right _ (List.mem_append_right _ (List.mem_append_right _ (List.mem_append_right _ (List.mem_append_left _ h))))))))))))))))))))))))))))))))))))))))))))))))))))))))))))))
set_option maxRecDepth 100000 in
theorem bi_wsL_law0_r48 : ∀ w ∈ wsL_law0_r48, w ∈ wsL_law := fun _ h => (List.mem_append_left _ (List.mem_append_left _ (List.mem_append_left _ (List.mem_append_left _ (List.mem_append_left _ (List.mem_append_left _ (List.mem_append_left _ (List.mem_append_left _ (List.mem_append_left _ (List.mem_append_left _ (List.mem_append_left _ (List.mem_append_left _ (List.mem_append_left _ (List.mem_append_left _ (List.mem_append_left _ (List.mem_append_right _ (List.mem_append_right _ (List.mem_append_right _ (List.mem_append_right _ (List.mem_append_right _ (List.mem_append_right _ (List.mem_append_right _ (List.mem_append_right _ (List.mem_append_right _ (List.mem_append_right _ (List.mem_append_right _ (List.mem_append_right _ (List.mem_append_right _ (List.mem_append_right _ (List.mem_append_right _ (List.mem_append_right _ (List.mem_append_right _ (List.mem_append_right _ (List.mem_append_right _ (List.mem_append_right _ (List.mem_append_right _ (List.mem_append_right _ (List.mem_append_right _ (List.mem_append_right _ (List.mem_append_right _ (List.mem_append_right _ (List.mem_append_right _ (List.mem_append_right _ (List.mem_append_right _ (List.mem_append_right _ (List.mem_append_right _ (List.mem_append_right _ (List.mem_append_right _ (List.mem_append_right _ (List.mem_append_right _ (List.mem_append_right _ (List.mem_append_right _ (List.mem_append_right _ (List.mem_append_right _ (List.mem_append_right _ (List.mem_append_right _ (List.mem_append_right _ (List.mem_append_right _ (List.mem_append_right _ (List.mem_append_right _ (List.mem_append_right _ (List.mem_append_right _ (List.mem_append_left _ h)))))))))))))))))))))))))))))))))))))))))))))))))))))))))))))))
set_option maxRecDepth 100000 in
theorem bi_wsL_law0_r49 : ∀ w ∈ wsL_law0_r49, w ∈ wsL_law := fun _ h => (List.mem_append_left _ (List.mem_append_left _ (List.mem_append_left _ (List.mem_append_left _ (List.mem_append_left _ (List.mem_append_left _ (List.mem_append_left _ (List.mem_append_left _ (List.mem_append_left _ (List.mem_append_left _ (List.mem_append_left _ (List.mem_append_left _ (List.mem_append_left _ (List.mem_append_left _ (List.mem_append_left _ (List.mem_append_right _ (List.mem_append_right _ (List.mem_append_right _ (List.mem_append_right _ (List.mem_append_right _ (List.mem_append_right _ (List.mem_append_right _ (List.mem_append_right _ (List.mem_append_right _ (List.mem_append_right _ (List.mem_append_right _ (List.mem_append_right _ (List.mem_append_right _ (List.mem_append_right _ (List.mem_append_right _ (List.mem_append_right _ (List.mem_append_right _ (List.mem_append_right _ (List.mem_append_right _ (List.mem_append_right _ (List.mem_append_right _ (List.mem_append_right _ (List.mem_append_right _ (List.mem_append_right _ (List.mem_append_right _ (List.mem_append_right _ (List.mem_append_right _ (List.mem_append_right _ (List.mem_append_right _ (List.mem_append_right _ (List.mem_append_right _ (List.mem_append_right _ (List.mem_append_right _ (List.mem_append_right _ (List.mem_append_right _ (List.mem_append_right _ (List.mem_append_right _ (List.mem_append_right _ (List.mem_append_right _ (List.mem_append_right _ (List.mem_append_right _ (List.mem_append_right _ (List.mem_append_right _ (List.mem_append_right _ (List.mem_append_right _ (List.mem_append_right _ (List.mem_append_right _ (List.mem_append_right _ (List.mem_append_left _ h))))))))))))))))))))))))))))))))))))))))))))))))))))))))))))))))
set_option maxRecDepth 100000 in
theorem bi_wsL_law0_r50 : ∀ w ∈ wsL_law0_r50, w ∈ wsL_law := fun _ h => (List.mem_append_left _ (List.mem_append_left _ (List.mem_append_left _ (List.mem_append_left _ (List.mem_append_left _ (List.mem_append_left _ (List.mem_append_left _ (List.mem_append_left _ (List.mem_append_left _ (List.mem_append_left _ (List.mem_append_left _ (List.mem_append_left _ (List.mem_append_left _ (List.mem_append_left _ (List.mem_append_left _ (List.mem_append_right _ (List.mem_append_right _ (List.mem_append_right _ (List.mem_append_right _ (List.mem_append_right _ (List.mem_append_right _ (List.mem_append_right _ (List.mem_append_right _ (List.mem_append_right _ (List.mem_append_right _ (List.mem_append_right _ (List.mem_append_right _ (List.mem_append_right _ (List.mem_append_right _ (List.mem_append_right _ (List.mem_append_right _ (List.mem_append_right _ (List.mem_append_right _ (List.mem_append_right _ (List.mem_append_right _ (List.mem_append_right _ (List.mem_append_right _ (List.mem_append_right _ (List.mem_append_right _ (List.mem_append_right _ (List.mem_append_right _ (List.mem_append_right _ (List.mem_append_right _ (List.mem_append_right _ (List.mem_append_right _ (List.mem_append_right _ (List.mem_append_right _ (List.mem_append_right _ (List.mem_append_right _ (List.mem_append_right _ (List.mem_append_right _ (List.mem_append_right _ (List.mem_append_right _ (List.mem_append_right _ (List.mem_append_right _ (List.mem_append_right _ (List.mem_append_right _ (List.mem_append_right _ (List.mem_append_right _ (List.mem_append_right _ (List.mem_append_right _ (List.mem_append_right _ (List.mem_append_right _ (List.mem_append_right _ (List.mem_append_left _ h)))))))))))))))))))))))))))))))))))))))))))))))))))))))))))))))))
set_option maxRecDepth 100000 in
theorem bi_wsL_law0_r51 : ∀ w ∈ wsL_law0_r51, w ∈ wsL_law := fun _ h => (List.mem_append_left _ (List.mem_append_left _ (List.mem_append_left _ (List.mem_append_left _ (List.mem_append_left _ (List.mem_append_left _ (List.mem_append_left _ (List.mem_append_left _ (List.mem_append_left _ (List.mem_append_left _ (List.mem_append_left _ (List.mem_append_left _ (List.mem_append_left _ (List.mem_append_left _ (List.mem_append_left _ (List.mem_append_right _ (List.mem_append_right _ (List.mem_append_right _ (List.mem_append_right _ (List.mem_append_right _ (List.mem_append_right _ (List.mem_append_right _ (List.mem_append_right _ (List.mem_append_right _ (List.mem_append_right _ (List.mem_append_right _ (List.mem_append_right _ (List.mem_append_right _ (List.mem_append_right _ (List.mem_append_right _ (List.mem_append_right _ (List.mem_append_right _ (List.mem_append_right _ (List.mem_append_right _ (List.mem_append_right _ (List.mem_append_right _ (List.mem_append_right _ (List.mem_append_right _ (List.mem_append_right _ (List.mem_append_right _ (List.mem_append_right _ (List.mem_append_right _ (List.mem_append_right _ (List.mem_append_right _ (List.mem_append_right _ (List.mem_append_right _ (List.mem_append_right _ (List.mem_append_right _ (List.mem_append_right _ (List.mem_append_right _ (List.mem_append_right _ (List.mem_append_right _ (List.mem_append_right _ (List.mem_append_right _ (List.mem_append_right _ (List.mem_append_right _ (List.mem_append_right _ (List.mem_append_right _ (List.mem_append_right _ (List.mem_append_right _ (List.mem_append_right _ (List.mem_append_right _ (List.mem_append_right _ (List.mem_append_right _ (List.mem_append_right _ (List.mem_append_left _ h))))))))))))))))))))))))))))))))))))))))))))))))))))))))))))))))))
set_option maxRecDepth 100000 in
theorem bi_wsL_law0_r52 : ∀ w ∈ wsL_law0_r52, w ∈ wsL_law := fun _ h => (List.mem_append_left _ (List.mem_append_left _ (List.mem_append_left _ (List.mem_append_left _ (List.mem_append_left _ (List.mem_append_left _ (List.mem_append_left _ (List.mem_append_left _ (List.mem_append_left _ (List.mem_append_left _ (List.mem_append_left _ (List.mem_append_left _ (List.mem_append_left _ (List.mem_append_left _ (List.mem_append_left _ (List.mem_append_right _ (List.mem_append_right _ (List.mem_append_right _ (List.mem_append_right _ (List.mem_append_right _ (List.mem_append_right _ (List.mem_append_right _ (List.mem_append_right _ (List.mem_append_right _ (List.mem_append_right _ (List.mem_append_right _ (List.mem_append_right _ (List.mem_append_right _ (List.mem_append_right _ (List.mem_append_right _ (List.mem_append_right _ (List.mem_append_right _ (List.mem_append_right _ (List.mem_append_right _ (List.mem_append_right _ (List.mem_append_right _ (List.mem_append_right _ (List.mem_append_right _ (List.mem_append_right _ (List.mem_append_right _ (List.mem_append_right _ (List.mem_append_right _ (List.mem_append_right _ (List.mem_append_right _ (List.mem_append_right _ (List.mem_append_right _ (List.mem_append_right _ (List.mem_append_right _ (List.mem_append_right _ (List.mem_append_right _ (List.mem_append_right _ (List.mem_append_right _ (List.mem_append_right _ (List.mem_append_right _ (List.mem_append_right _ (List.mem_append_right _ (List.mem_append_right _ (List.mem_append_right _ (List.mem_append_right _ (List.mem_append_right _ (List.mem_append_right _ (List.mem_append_right _ (List.mem_append_right _ (List.mem_append_right _ (List.mem_append_right _ (List.mem_append_right _ (List.mem_append_left _ h)))))))))))))))))))))))))))))))))))))))))))))))))))))))))))))))))))
set_option maxRecDepth 100000 in
theorem bi_wsL_law0_r53 : ∀ w ∈ wsL_law0_r53, w ∈ wsL_law := fun _ h => (List.mem_append_left _ (List.mem_append_left _ (List.mem_append_left _ (List.mem_append_left _ (List.mem_append_left _ (List.mem_append_left _ (List.mem_append_left _ (List.mem_append_left _ (List.mem_append_left _ (List.mem_append_left _ (List.mem_append_left _ (List.mem_append_left _ (List.mem_append_left _ (List.mem_append_left _ (List.mem_append_left _ (List.mem_append_right _ (List.mem_append_right _ (List.mem_append_right _ (List.mem_append_right _ (List.mem_append_right _ (List.mem_append_right _ (List.mem_append_right _ (List.mem_append_right _ (List.mem_append_right _ (List.mem_append_right _ (List.mem_append_right _ (List.mem_append_right _ (List.mem_append_right _ (List.mem_append_right _ (List.mem_append_right _ (List.mem_append_right _ (List.mem_append_right _ (List.mem_append_right _ (List.mem_append_right _ (List.mem_append_right _ (List.mem_append_right _ (List.mem_append_right _ (List.mem_append_right _ (List.mem_append_right _ (List.mem_append_right _ (List.mem_append_right _ (List.mem_append_right _ (List.mem_append_right _ (List.mem_append_right _ (List.mem_append_right _ (List.mem_append_right _ (List.mem_append_right _ (List.mem_append_right _ (List.mem_append_right _ (List.mem_append_right _ (List.mem_append_right _ (List.mem_append_right _ (List.mem_append_right _ (List.mem_append_right _ (List.mem_append_right _ (List.mem_append_right _ (List.mem_append_right _ (List.mem_append_right _ (List.mem_append_right _ (List.mem_append_right _ (List.mem_append_right _ (List.mem_append_right _ (List.mem_append_right _ (List.mem_append_right _ (List.mem_append_right _ (List.mem_append_right _ (List.mem_append_right _ (List.mem_append_left _ h))))))))))))))))))))))))))))))))))))))))))))))))))))))))))))))))))))
set_option maxRecDepth 100000 in
theorem bi_wsL_law0_r54 : ∀ w ∈ wsL_law0_r54, w ∈ wsL_law := fun _ h => (List.mem_append_left _ (List.mem_append_left _ (List.mem_append_left _ (List.mem_append_left _ (List.mem_append_left _ (List.mem_append_left _ (List.mem_append_left _ (List.mem_append_left _ (List.mem_append_left _ (List.mem_append_left _ (List.mem_append_left _ (List.mem_append_left _ (List.mem_append_left _ (List.mem_append_left _ (List.mem_append_left _ (List.mem_append_right _ (List.mem_append_right _ (List.mem_append_right _ (List.mem_append_right _ (List.mem_append_right _ (List.mem_append_right _ (List.mem_append_right _ (List.mem_append_right _ (List.mem_append_right _ (List.mem_append_right _ (List.mem_append_right _ (List.mem_append_right _ (List.mem_append_right _ (List.mem_append_right _ (List.mem_append_right _ (List.mem_append_right _ (List.mem_append_right _ (List.mem_append_right _ (List.mem_append_right _ (List.mem_append_right _ (List.mem_append_right _ (List.mem_append_right _ (List.mem_append_right _ (List.mem_append_right _ (List.mem_append_right _ (List.mem_append_right _ (List.mem_append_right _ (List.mem_append_right _ (List.mem_append_right _ (List.mem_append_right _ (List.mem_append_right _ (List.mem_append_right _ (List.mem_append_right _ (List.mem_append_right _ (List.mem_append_right _ (List.mem_append_right _ (List.mem_append_right _ (List.mem_append_right _ (List.mem_append_right _ (List.mem_append_right _ (List.mem_append_right _ (List.mem_append_right _ (List.mem_append_right _ (List.mem_append_right _ (List.mem_append_right _ (List.mem_append_right _ (List.mem_append_right _ (List.mem_append_right _ (List.mem_append_right _ (List.mem_append_right _ (List.mem_append_right _ (List.mem_append_right _ (List.mem_append_right _ (List.mem_append_left _ h)))))))))))))))))))))))))))))))))))))))))))))))))))))))))))))))))))))
set_option maxRecDepth 100000 in
theorem bi_wsL_law0_r55 : ∀ w ∈ wsL_law0_r55, w ∈ wsL_law := fun _ h => (List.mem_append_left _ (List.mem_append_left _ (List.mem_append_left _ (List.mem_append_left _ (List.mem_append_left _ (List.mem_append_left _ (List.mem_append_left _ (List.mem_append_left _ (List.mem_append_left _ (List.mem_append_left _ (List.mem_append_left _ (List.mem_append_left _ (List.mem_append_left _ (List.mem_append_left _ (List.mem_append_left _ (List.mem_append_right _ (List.mem_append_right _ (List.mem_append_right _ (List.mem_append_right _ (List.mem_append_right _ (List.mem_append_right _ (List.mem_append_right _ (List.mem_append_right _ (List.mem_append_right _ (List.mem_append_right _ (List.mem_append_right _ (List.mem_append_right _ (List.mem_append_right _ (List.mem_append_right _ (List.mem_append_right _ (List.mem_append_right _ (List.mem_append_right _ (List.mem_append_right _ (List.mem_append_right _ (List.mem_append_right _ (List.mem_append_right _ (List.mem_append_right _ (List.mem_append_right _ (List.mem_append_right _ (List.mem_append_right _ (List.mem_append_right _ (List.mem_append_right _ (List.mem_append_right _ (List.mem_append_right _ (List.mem_append_right _ (List.mem_append_right _ (List.mem_append_right _ (List.mem_append_right _ (List.mem_append_right _ (List.mem_append_right _ (List.mem_append_right _ (List.mem_append_right _ (List.mem_append_right _ (List.mem_append_right _ (List.mem_append_right _ (List.mem_append_right _ (List.mem_append_right _ (List.mem_append_right _ (List.mem_append_right _ (List.mem_append_right _ (List.mem_append_right _ (List.mem_append_right _ (List.mem_append_right _ (List.mem_append_right _ (List.mem_append_right _ (List.mem_append_right _ (List.mem_append_right _ (List.mem_append_right _ (List.mem_append_right _ (List.mem_append_left _ h))))))))))))))))))))))))))))))))))))))))))))))))))))))))))))))))))))))
set_option maxRecDepth 100000 in
theorem bi_wsL_law0_r56 : ∀ w ∈ wsL_law0_r56, w ∈ wsL_law := fun _ h => (List.mem_append_left _ (List.mem_append_left _ (List.mem_append_left _ (List.mem_append_left _ (List.mem_append_left _ (List.mem_append_left _ (List.mem_append_left _ (List.mem_append_left _ (List.mem_append_left _ (List.mem_append_left _ (List.mem_append_left _ (List.mem_append_left _ (List.mem_append_left _ (List.mem_append_left _ (List.mem_append_left _ (List.mem_append_right _ (List.mem_append_right _ (List.mem_append_right _ (List.mem_append_right _ (List.mem_append_right _ (List.mem_append_right _ (List.mem_append_right _ (List.mem_append_right _ (List.mem_append_right _ (List.mem_append_right _ (List.mem_append_right _ (List.mem_append_right _ (List.mem_append_right _ (List.mem_append_right _ (List.mem_append_right _ (List.mem_append_right _ (List.mem_append_right _ (List.mem_append_right _ (List.mem_append_right _ (List.mem_append_right _ (List.mem_append_right _ (List.mem_append_right _ (List.mem_append_right _ (List.mem_append_right _ (List.mem_append_right _ (List.mem_append_right _ (List.mem_append_right _ (List.mem_append_right _ (List.mem_append_right _ (List.mem_append_right _ (List.mem_append_right _ (List.mem_append_right _ (List.mem_append_right _ (List.mem_append_right _ (List.mem_append_right _ (List.mem_append_right _ (List.mem_append_right _ (List.mem_append_right _ (List.mem_append_right _ (List.mem_append_right _ (List.mem_append_right _ (List.mem_append_right _ (List.mem_append_right _ (List.mem_append_right _ (List.mem_append_right _ (List.mem_append_right _ (List.mem_append_right _ (List.mem_append_right _ (List.mem_append_right _ (List.mem_append_right _ (List.mem_append_right _ (List.mem_append_right _ (List.mem_append_right _ (List.mem_append_right _ (List.mem_append_right _ (List.mem_append_left _ h)))))))))))))))))))))))))))))))))))))))))))))))))))))))))))))))))))))))
set_option maxRecDepth 100000 in
theorem bi_wsL_law0_r57 : ∀ w ∈ wsL_law0_r57, w ∈ wsL_law := fun _ h => (List.mem_append_left _ (List.mem_append_left _ (List.mem_append_left _ (List.mem_append_left _ (List.mem_append_left _ (List.mem_append_left _ (List.mem_append_left _ (List.mem_append_left _ (List.mem_append_left _ (List.mem_append_left _ (List.mem_append_left _ (List.mem_append_left _ (List.mem_append_left _ (List.mem_append_left _ (List.mem_append_left _ (List.mem_append_right _ (List.mem_append_right _ (List.mem_append_right _ (List.mem_append_right _ (List.mem_append_right _ (List.mem_append_right _ (List.mem_append_right _ (List.mem_append_right _ (List.mem_append_right _ (List.mem_append_right _ (List.mem_append_right _ (List.mem_append_right _ (List.mem_append_right _ (List.mem_append_right _ (List.mem_append_right _ (List.mem_append_right _ (List.mem_append_right _ (List.mem_append_right _ (List.mem_append_right _ (List.mem_append_right _ (List.mem_append_right _ (List.mem_append_right _ (List.mem_append_right _ (List.mem_append_right _ (List.mem_append_right _ (List.mem_append_right _ (List.mem_append_right _ (List.mem_append_right _ (List.mem_append_right _ (List.mem_append_right _ (List.mem_append_right _ (List.mem_append_right _ (List.mem_append_right _ (List.mem_append_right _ (List.mem_append_right _ (List.mem_append_right _ (List.mem_append_right _ (List.mem_append_right _ (List.mem_append_right _ (List.mem_append_right _ (List.mem_append_right _ (List.mem_append_right _ (List.mem_append_right _ (List.mem_append_right _ (List.mem_append_right _ (List.mem_append_right _ (List.mem_append_right _ (List.mem_append_right _ (List.mem_append_right _ (List.mem_append_right _ (List.mem_append_right _ (List.mem_append_right _ (List.mem_append_right _ (List.mem_append_right _ (List.mem_append_right _ (List.mem_append_right _ (List.mem_append_left _ h))))))))))))))))))))))))))))))))))))))))))))))))))))))))))))))))))))))))
set_option maxRecDepth 100000 in
theorem bi_wsL_law0_r58 : ∀ w ∈ wsL_law0_r58, w ∈ wsL_law := fun _ h => (List.mem_append_left _ (List.mem_append_left _ (List.mem_append_left _ (List.mem_append_left _ (List.mem_append_left _ (List.mem_append_left _ (List.mem_append_left _ (List.mem_append_left _ (List.mem_append_left _ (List.mem_append_left _ (List.mem_append_left _ (List.mem_append_left _ (List.mem_append_left _ (List.mem_append_left _ (List.mem_append_left _ (List.mem_append_right _ (List.mem_append_right _ (List.mem_append_right _ (List.mem_append_right _ (List.mem_append_right _ (List.mem_append_right _ (List.mem_append_right _ (List.mem_append_right _ (List.mem_append_right _ (List.mem_append_right _ (List.mem_append_right _ (List.mem_append_right _ (List.mem_append_right _ (List.mem_append_right _ (List.mem_append_right _ (List.mem_append_right _ (List.mem_append_right _ (List.mem_append_right _ (List.mem_append_right _ (List.mem_append_right _ (List.mem_append_right _ (List.mem_append_right _ (List.mem_append_right _ (List.mem_append_right _ (List.mem_append_right _ (List.mem_append_right _ (List.mem_append_right _ (List.mem_append_right _ (List.mem_append_right _ (List.mem_append_right _ (List.mem_append_right _ (List.mem_append_right _ (List.mem_append_right _ (List.mem_append_right _ (List.mem_append_right _ (List.mem_append_right _ (List.mem_append_right _ (List.mem_append_right _ (List.mem_append_right _ (List.mem_append_right _ (List.mem_append_right _ (List.mem_append_right _ (List.mem_append_right _ (List.mem_append_right _ (List.mem_append_right _ (List.mem_append_right _ (List.mem_append_right _ (List.mem_append_right _ (List.mem_append_right _ (List.mem_append_right _ (List.mem_append_right _ (List.mem_append_right _ (List.mem_append_right _ (List.mem_append_right _ (List.mem_append_right _ (List.mem_append_right _ (List.mem_append_right _ (List.mem_append_left _ h)))))))))))))))))))))))))))))))))))))))))))))))))))))))))))))))))))))))))
set_option maxRecDepth 100000 in
theorem bi_wsL_law0_r59 : ∀ w ∈ wsL_law0_r59, w ∈ wsL_law := fun _ h => (List.mem_append_left _ (List.mem_append_left _ (List.mem_append_left _ (List.mem_append_left _ (List.mem_append_left _ (List.mem_append_left _ (List.mem_append_left _ (List.mem_append_left _ (List.mem_append_left _ (List.mem_append_left _ (List.mem_append_left _ (List.mem_append_left _ (List.mem_append_left _ (List.mem_append_left _ (List.mem_append_left _ (List.mem_append_right _ (List.mem_append_right _ (List.mem_append_right _ (List.mem_append_right _ (List.mem_append_right _ (List.mem_append_right _ (List.mem_append_right _ (List.mem_append_right _ (List.mem_append_right _ (List.mem_append_right _ (List.mem_append_right _ (List.mem_append_right _ (List.mem_append_right _ (List.mem_append_right _ (List.mem_append_right _ (List.mem_append_right _ (List.mem_append_right _ (List.mem_append_right _ (List.mem_append_right _ (List.mem_append_right _ (List.mem_append_right _ (List.mem_append_right _ (List.mem_append_right _ (List.mem_append_right _ (List.mem_append_right _ (List.mem_append_right _ (List.mem_append_right _ (List.mem_append_right _ (List.mem_append_right _ (List.mem_append_right _ (List.mem_append_right _ (List.mem_append_right _ (List.mem_append_right _ (List.mem_append_right _ (List.mem_append_right _ (List.mem_append_right _ (List.mem_append_right _ (List.mem_append_right _ (List.mem_append_right _ (List.mem_append_right _ (List.mem_append_right _ (List.mem_append_right _ (List.mem_append_right _ (List.mem_append_right _ (List.mem_append_right _ (List.mem_append_right _ (List.mem_append_right _ (List.mem_append_right _ (List.mem_append_right _ (List.mem_append_right _ (List.mem_append_right _ (List.mem_append_right _ (List.mem_append_right _ (List.mem_append_right _ (List.mem_append_right _ (List.mem_append_right _ (List.mem_append_right _ (List.mem_append_right _ h)))))))))))))))))))))))))))))))))))))))))))))))))))))))))))))))))))))))))
set_option maxRecDepth 100000 in
theorem bi_wsX110 : ∀ w ∈ wsX110, w ∈ wsL_law := fun _ h => (List.mem_append_left _ (List.mem_append_left _ (List.mem_append_left _ (List.mem_append_left _ (List.mem_append_left _ (List.mem_append_left _ (List.mem_append_left _ (List.mem_append_left _ (List.mem_append_left _ (List.mem_append_left _ (List.mem_append_left _ (List.mem_append_left _ (List.mem_append_left _ (List.mem_append_left _ (List.mem_append_right _ h)))))))))))))))
set_option maxRecDepth 100000 in
theorem bi_wsX120 : ∀ w ∈ wsX120, w ∈ wsL_law := fun _ h => (List.mem_append_left _ (List.mem_append_left _ (List.mem_append_left _ (List.mem_append_left _ (List.mem_append_left _ (List.mem_append_left _ (List.mem_append_left _ (List.mem_append_left _ (List.mem_append_left _ (List.mem_append_left _ (List.mem_append_left _ (List.mem_append_left _ (List.mem_append_left _ (List.mem_append_right _ h))))))))))))))
set_option maxRecDepth 100000 in
theorem bi_wsX100 : ∀ w ∈ wsX100, w ∈ wsL_law := fun _ h => (List.mem_append_left _ (List.mem_append_left _ (List.mem_append_left _ (List.mem_append_left _ (List.mem_append_left _ (List.mem_append_left _ (List.mem_append_left _ (List.mem_append_left _ (List.mem_append_left _ (List.mem_append_left _ (List.mem_append_left _ (List.mem_append_left _ (List.mem_append_right _ h)))))))))))))
set_option maxRecDepth 100000 in
theorem bi_wsX60 : ∀ w ∈ wsX60, w ∈ wsL_law := fun _ h => (List.mem_append_left _ (List.mem_append_left _ (List.mem_append_left _ (List.mem_append_left _ (List.mem_append_left _ (List.mem_append_left _ (List.mem_append_left _ (List.mem_append_left _ (List.mem_append_left _ (List.mem_append_left _ (List.mem_append_left _ (List.mem_append_right _ h))))))))))))
set_option maxRecDepth 100000 in
theorem bi_wsX10 : ∀ w ∈ wsX10, w ∈ wsL_law := fun _ h => (List.mem_append_left _ (List.mem_append_left _ (List.mem_append_left _ (List.mem_append_left _ (List.mem_append_left _ (List.mem_append_left _ (List.mem_append_left _ (List.mem_append_left _ (List.mem_append_left _ (List.mem_append_left _ (List.mem_append_right _ h)))))))))))
set_option maxRecDepth 100000 in
theorem bi_wsX50 : ∀ w ∈ wsX50, w ∈ wsL_law := fun _ h => (List.mem_append_left _ (List.mem_append_left _ (List.mem_append_left _ (List.mem_append_left _ (List.mem_append_left _ (List.mem_append_left _ (List.mem_append_left _ (List.mem_append_left _ (List.mem_append_left _ (List.mem_append_right _ h))))))))))
set_option maxRecDepth 100000 in
theorem bi_wsX20 : ∀ w ∈ wsX20, w ∈ wsL_law := fun _ h => (List.mem_append_left _ (List.mem_append_left _ (List.mem_append_left _ (List.mem_append_left _ (List.mem_append_left _ (List.mem_append_left _ (List.mem_append_left _ (List.mem_append_left _ (List.mem_append_right _ h)))))))))
set_option maxRecDepth 100000 in
theorem bi_wsX90 : ∀ w ∈ wsX90, w ∈ wsL_law := fun _ h => (List.mem_append_left _ (List.mem_append_left _ (List.mem_append_left _ (List.mem_append_left _ (List.mem_append_left _ (List.mem_append_left _ (List.mem_append_left _ (List.mem_append_right _ h))))))))
set_option maxRecDepth 100000 in
theorem bi_wsX30 : ∀ w ∈ wsX30, w ∈ wsL_law := fun _ h => (List.mem_append_left _ (List.mem_append_left _ (List.mem_append_left _ (List.mem_append_left _ (List.mem_append_left _ (List.mem_append_left _ (List.mem_append_right _ h)))))))
set_option maxRecDepth 100000 in
theorem bi_wsX00 : ∀ w ∈ wsX00, w ∈ wsL_law := fun _ h => (List.mem_append_left _ (List.mem_append_left _ (List.mem_append_left _ (List.mem_append_left _ (List.mem_append_left _ (List.mem_append_right _ h))))))
set_option maxRecDepth 100000 in
theorem bi_wsX80 : ∀ w ∈ wsX80, w ∈ wsL_law := fun _ h => (List.mem_append_left _ (List.mem_append_left _ (List.mem_append_left _ (List.mem_append_left _ (List.mem_append_right _ h)))))
set_option maxRecDepth 100000 in
theorem bi_wsX40 : ∀ w ∈ wsX40, w ∈ wsL_law := fun _ h => (List.mem_append_left _ (List.mem_append_left _ (List.mem_append_left _ (List.mem_append_right _ h))))
set_option maxRecDepth 100000 in
theorem bi_wsX70 : ∀ w ∈ wsX70, w ∈ wsL_law := fun _ h => (List.mem_append_left _ (List.mem_append_left _ (List.mem_append_right _ h)))
set_option maxRecDepth 100000 in
theorem bi_x : ∀ w ∈ (vx_atX RX11 163 "java/util/NoSuchElementException" 13 prog_23_method_4_code ["java/lang/RuntimeException", "java/lang/Exception"]).filter goodWord, w ∈ wsL_law := fun _ h => List.mem_append_right _ h
set_option maxRecDepth 100000 in
theorem bw_wsL_law0_r1 : ∀ w ∈ wsL_law0_r1, goodWord w = true := fun w h => List.all_eq_true.mp (show (wsL_law0_r1).all goodWord = true from rfl) w h
set_option maxRecDepth 100000 in
theorem bw_wsL_law0_r2 : ∀ w ∈ wsL_law0_r2, goodWord w = true := fun w h => List.all_eq_true.mp (show (wsL_law0_r2).all goodWord = true from rfl) w h
set_option maxRecDepth 100000 in
theorem bw_wsL_law0_r3 : ∀ w ∈ wsL_law0_r3, goodWord w = true := fun w h => List.all_eq_true.mp (show (wsL_law0_r3).all goodWord = true from rfl) w h
set_option maxRecDepth 100000 in
theorem bw_wsL_law0_r4 : ∀ w ∈ wsL_law0_r4, goodWord w = true := fun w h => List.all_eq_true.mp (show (wsL_law0_r4).all goodWord = true from rfl) w h
set_option maxRecDepth 100000 in
theorem bw_wsL_law0_r5 : ∀ w ∈ wsL_law0_r5, goodWord w = true := fun w h => List.all_eq_true.mp (show (wsL_law0_r5).all goodWord = true from rfl) w h
set_option maxRecDepth 100000 in
theorem bw_wsL_law0_r6 : ∀ w ∈ wsL_law0_r6, goodWord w = true := fun w h => List.all_eq_true.mp (show (wsL_law0_r6).all goodWord = true from rfl) w h
set_option maxRecDepth 100000 in
theorem bw_wsL_law0_r7 : ∀ w ∈ wsL_law0_r7, goodWord w = true := fun w h => List.all_eq_true.mp (show (wsL_law0_r7).all goodWord = true from rfl) w h
set_option maxRecDepth 100000 in
theorem bw_wsL_law0_r8 : ∀ w ∈ wsL_law0_r8, goodWord w = true := fun w h => List.all_eq_true.mp (show (wsL_law0_r8).all goodWord = true from rfl) w h
set_option maxRecDepth 100000 in
theorem bw_wsL_law0_r9 : ∀ w ∈ wsL_law0_r9, goodWord w = true := fun w h => List.all_eq_true.mp (show (wsL_law0_r9).all goodWord = true from rfl) w h
set_option maxRecDepth 100000 in
theorem bw_wsL_law0_r10 : ∀ w ∈ wsL_law0_r10, goodWord w = true := fun w h => List.all_eq_true.mp (show (wsL_law0_r10).all goodWord = true from rfl) w h
set_option maxRecDepth 100000 in
theorem bw_wsL_law0_r11 : ∀ w ∈ wsL_law0_r11, goodWord w = true := fun w h => List.all_eq_true.mp (show (wsL_law0_r11).all goodWord = true from rfl) w h
set_option maxRecDepth 100000 in
theorem bw_wsL_law0_r12 : ∀ w ∈ wsL_law0_r12, goodWord w = true := fun w h => List.all_eq_true.mp (show (wsL_law0_r12).all goodWord = true from rfl) w h
set_option maxRecDepth 100000 in
theorem bw_wsL_law0_r13 : ∀ w ∈ wsL_law0_r13, goodWord w = true := fun w h => List.all_eq_true.mp (show (wsL_law0_r13).all goodWord = true from rfl) w h
set_option maxRecDepth 100000 in
theorem bw_wsL_law0_r14 : ∀ w ∈ wsL_law0_r14, goodWord w = true := fun w h => List.all_eq_true.mp (show (wsL_law0_r14).all goodWord = true from rfl) w h
set_option maxRecDepth 100000 in
theorem bw_wsL_law0_r15 : ∀ w ∈ wsL_law0_r15, goodWord w = true := fun w h => List.all_eq_true.mp (show (wsL_law0_r15).all goodWord = true from rfl) w h
set_option maxRecDepth 100000 in
theorem bw_wsL_law0_r16 : ∀ w ∈ wsL_law0_r16, goodWord w = true := fun w h => List.all_eq_true.mp (show (wsL_law0_r16).all goodWord = true from rfl) w h
set_option maxRecDepth 100000 in
theorem bw_wsL_law0_r17 : ∀ w ∈ wsL_law0_r17, goodWord w = true := fun w h => List.all_eq_true.mp (show (wsL_law0_r17).all goodWord = true from rfl) w h
set_option maxRecDepth 100000 in
theorem bw_wsL_law0_r18 : ∀ w ∈ wsL_law0_r18, goodWord w = true := fun w h => List.all_eq_true.mp (show (wsL_law0_r18).all goodWord = true from rfl) w h
set_option maxRecDepth 100000 in
theorem bw_wsL_law0_r19 : ∀ w ∈ wsL_law0_r19, goodWord w = true := fun w h => List.all_eq_true.mp (show (wsL_law0_r19).all goodWord = true from rfl) w h
set_option maxRecDepth 100000 in
theorem bw_wsL_law0_r20 : ∀ w ∈ wsL_law0_r20, goodWord w = true := fun w h => List.all_eq_true.mp (show (wsL_law0_r20).all goodWord = true from rfl) w h
set_option maxRecDepth 100000 in
theorem bw_wsL_law0_r21 : ∀ w ∈ wsL_law0_r21, goodWord w = true := fun w h => List.all_eq_true.mp (show (wsL_law0_r21).all goodWord = true from rfl) w h
set_option maxRecDepth 100000 in
theorem bw_wsL_law0_r22 : ∀ w ∈ wsL_law0_r22, goodWord w = true := fun w h => List.all_eq_true.mp (show (wsL_law0_r22).all goodWord = true from rfl) w h
set_option maxRecDepth 100000 in
theorem bw_wsL_law0_r23 : ∀ w ∈ wsL_law0_r23, goodWord w = true := fun w h => List.all_eq_true.mp (show (wsL_law0_r23).all goodWord = true from rfl) w h
set_option maxRecDepth 100000 in
theorem bw_wsL_law0_r24 : ∀ w ∈ wsL_law0_r24, goodWord w = true := fun w h => List.all_eq_true.mp (show (wsL_law0_r24).all goodWord = true from rfl) w h
set_option maxRecDepth 100000 in
theorem bw_wsL_law0_r25 : ∀ w ∈ wsL_law0_r25, goodWord w = true := fun w h => List.all_eq_true.mp (show (wsL_law0_r25).all goodWord = true from rfl) w h
set_option maxRecDepth 100000 in
theorem bw_wsL_law0_r26 : ∀ w ∈ wsL_law0_r26, goodWord w = true := fun w h => List.all_eq_true.mp (show (wsL_law0_r26).all goodWord = true from rfl) w h
set_option maxRecDepth 100000 in
theorem bw_wsL_law0_r27 : ∀ w ∈ wsL_law0_r27, goodWord w = true := fun w h => List.all_eq_true.mp (show (wsL_law0_r27).all goodWord = true from rfl) w h
set_option maxRecDepth 100000 in
theorem bw_wsL_law0_r28 : ∀ w ∈ wsL_law0_r28, goodWord w = true := fun w h => List.all_eq_true.mp (show (wsL_law0_r28).all goodWord = true from rfl) w h
set_option maxRecDepth 100000 in
theorem bw_wsL_law0_r29 : ∀ w ∈ wsL_law0_r29, goodWord w = true := fun w h => List.all_eq_true.mp (show (wsL_law0_r29).all goodWord = true from rfl) w h
set_option maxRecDepth 100000 in
theorem bw_wsL_law0_r30 : ∀ w ∈ wsL_law0_r30, goodWord w = true := fun w h => List.all_eq_true.mp (show (wsL_law0_r30).all goodWord = true from rfl) w h
set_option maxRecDepth 100000 in
theorem bw_wsL_law0_r31 : ∀ w ∈ wsL_law0_r31, goodWord w = true := fun w h => List.all_eq_true.mp (show (wsL_law0_r31).all goodWord = true from rfl) w h
set_option maxRecDepth 100000 in
theorem bw_wsL_law0_r32 : ∀ w ∈ wsL_law0_r32, goodWord w = true := fun w h => List.all_eq_true.mp (show (wsL_law0_r32).all goodWord = true from rfl) w h
set_option maxRecDepth 100000 in
theorem bw_wsL_law0_r33 : ∀ w ∈ wsL_law0_r33, goodWord w = true := fun w h => List.all_eq_true.mp (show (wsL_law0_r33).all goodWord = true from rfl) w h
set_option maxRecDepth 100000 in
theorem bw_wsL_law0_r34 : ∀ w ∈ wsL_law0_r34, goodWord w = true := fun w h => List.all_eq_true.mp (show (wsL_law0_r34).all goodWord = true from rfl) w h
set_option maxRecDepth 100000 in
theorem bw_wsL_law0_r35 : ∀ w ∈ wsL_law0_r35, goodWord w = true := fun w h => List.all_eq_true.mp (show (wsL_law0_r35).all goodWord = true from rfl) w h
set_option maxRecDepth 100000 in
theorem bw_wsL_law0_r36 : ∀ w ∈ wsL_law0_r36, goodWord w = true := fun w h => List.all_eq_true.mp (show (wsL_law0_r36).all goodWord = true from rfl) w h
set_option maxRecDepth 100000 in
theorem bw_wsL_law0_r37 : ∀ w ∈ wsL_law0_r37, goodWord w = true := fun w h => List.all_eq_true.mp (show (wsL_law0_r37).all goodWord = true from rfl) w h
set_option maxRecDepth 100000 in
theorem bw_wsL_law0_r38 : ∀ w ∈ wsL_law0_r38, goodWord w = true := fun w h => List.all_eq_true.mp (show (wsL_law0_r38).all goodWord = true from rfl) w h
set_option maxRecDepth 100000 in
theorem bw_wsL_law0_r39 : ∀ w ∈ wsL_law0_r39, goodWord w = true := fun w h => List.all_eq_true.mp (show (wsL_law0_r39).all goodWord = true from rfl) w h
set_option maxRecDepth 100000 in
theorem bw_wsL_law0_r40 : ∀ w ∈ wsL_law0_r40, goodWord w = true := fun w h => List.all_eq_true.mp (show (wsL_law0_r40).all goodWord = true from rfl) w h
set_option maxRecDepth 100000 in
theorem bw_wsL_law0_r41 : ∀ w ∈ wsL_law0_r41, goodWord w = true := fun w h => List.all_eq_true.mp (show (wsL_law0_r41).all goodWord = true from rfl) w h
set_option maxRecDepth 100000 in
theorem bw_wsL_law0_r42 : ∀ w ∈ wsL_law0_r42, goodWord w = true := fun w h => List.all_eq_true.mp (show (wsL_law0_r42).all goodWord = true from rfl) w h
set_option maxRecDepth 100000 in
theorem bw_wsL_law0_r43 : ∀ w ∈ wsL_law0_r43, goodWord w = true := fun w h => List.all_eq_true.mp (show (wsL_law0_r43).all goodWord = true from rfl) w h
set_option maxRecDepth 100000 in
theorem bw_wsL_law0_r44 : ∀ w ∈ wsL_law0_r44, goodWord w = true := fun w h => List.all_eq_true.mp (show (wsL_law0_r44).all goodWord = true from rfl) w h
set_option maxRecDepth 100000 in
theorem bw_wsL_law0_r45 : ∀ w ∈ wsL_law0_r45, goodWord w = true := fun w h => List.all_eq_true.mp (show (wsL_law0_r45).all goodWord = true from rfl) w h
set_option maxRecDepth 100000 in
theorem bw_wsL_law0_r46 : ∀ w ∈ wsL_law0_r46, goodWord w = true := fun w h => List.all_eq_true.mp (show (wsL_law0_r46).all goodWord = true from rfl) w h
set_option maxRecDepth 100000 in
theorem bw_wsL_law0_r47 : ∀ w ∈ wsL_law0_r47, goodWord w = true := fun w h => List.all_eq_true.mp (show (wsL_law0_r47).all goodWord = true from rfl) w h
set_option maxRecDepth 100000 in
theorem bw_wsL_law0_r48 : ∀ w ∈ wsL_law0_r48, goodWord w = true := fun w h => List.all_eq_true.mp (show (wsL_law0_r48).all goodWord = true from rfl) w h
set_option maxRecDepth 100000 in
theorem bw_wsL_law0_r49 : ∀ w ∈ wsL_law0_r49, goodWord w = true := fun w h => List.all_eq_true.mp (show (wsL_law0_r49).all goodWord = true from rfl) w h
set_option maxRecDepth 100000 in
theorem bw_wsL_law0_r50 : ∀ w ∈ wsL_law0_r50, goodWord w = true := fun w h => List.all_eq_true.mp (show (wsL_law0_r50).all goodWord = true from rfl) w h
set_option maxRecDepth 100000 in
theorem bw_wsL_law0_r51 : ∀ w ∈ wsL_law0_r51, goodWord w = true := fun w h => List.all_eq_true.mp (show (wsL_law0_r51).all goodWord = true from rfl) w h
set_option maxRecDepth 100000 in
theorem bw_wsL_law0_r52 : ∀ w ∈ wsL_law0_r52, goodWord w = true := fun w h => List.all_eq_true.mp (show (wsL_law0_r52).all goodWord = true from rfl) w h
set_option maxRecDepth 100000 in
theorem bw_wsL_law0_r53 : ∀ w ∈ wsL_law0_r53, goodWord w = true := fun w h => List.all_eq_true.mp (show (wsL_law0_r53).all goodWord = true from rfl) w h
set_option maxRecDepth 100000 in
theorem bw_wsL_law0_r54 : ∀ w ∈ wsL_law0_r54, goodWord w = true := fun w h => List.all_eq_true.mp (show (wsL_law0_r54).all goodWord = true from rfl) w h
set_option maxRecDepth 100000 in
theorem bw_wsL_law0_r55 : ∀ w ∈ wsL_law0_r55, goodWord w = true := fun w h => List.all_eq_true.mp (show (wsL_law0_r55).all goodWord = true from rfl) w h
set_option maxRecDepth 100000 in
theorem bw_wsL_law0_r56 : ∀ w ∈ wsL_law0_r56, goodWord w = true := fun w h => List.all_eq_true.mp (show (wsL_law0_r56).all goodWord = true from rfl) w h
set_option maxRecDepth 100000 in
theorem bw_wsL_law0_r57 : ∀ w ∈ wsL_law0_r57, goodWord w = true := fun w h => List.all_eq_true.mp (show (wsL_law0_r57).all goodWord = true from rfl) w h
set_option maxRecDepth 100000 in
theorem bw_wsL_law0_r58 : ∀ w ∈ wsL_law0_r58, goodWord w = true := fun w h => List.all_eq_true.mp (show (wsL_law0_r58).all goodWord = true from rfl) w h
set_option maxRecDepth 100000 in
theorem bw_wsL_law0_r59 : ∀ w ∈ wsL_law0_r59, goodWord w = true := fun w h => List.all_eq_true.mp (show (wsL_law0_r59).all goodWord = true from rfl) w h
set_option maxRecDepth 100000 in
theorem bw_wsX110 : ∀ w ∈ wsX110, goodWord w = true := fun w h => List.all_eq_true.mp (show (wsX110).all goodWord = true from rfl) w h
set_option maxRecDepth 100000 in
theorem bw_wsX120 : ∀ w ∈ wsX120, goodWord w = true := fun w h => List.all_eq_true.mp (show (wsX120).all goodWord = true from rfl) w h
set_option maxRecDepth 100000 in
theorem bw_wsX100 : ∀ w ∈ wsX100, goodWord w = true := fun w h => List.all_eq_true.mp (show (wsX100).all goodWord = true from rfl) w h
set_option maxRecDepth 100000 in
theorem bw_wsX60 : ∀ w ∈ wsX60, goodWord w = true := fun w h => List.all_eq_true.mp (show (wsX60).all goodWord = true from rfl) w h
set_option maxRecDepth 100000 in
theorem bw_wsX10 : ∀ w ∈ wsX10, goodWord w = true := fun w h => List.all_eq_true.mp (show (wsX10).all goodWord = true from rfl) w h
set_option maxRecDepth 100000 in
theorem bw_wsX50 : ∀ w ∈ wsX50, goodWord w = true := fun w h => List.all_eq_true.mp (show (wsX50).all goodWord = true from rfl) w h
set_option maxRecDepth 100000 in
theorem bw_wsX20 : ∀ w ∈ wsX20, goodWord w = true := fun w h => List.all_eq_true.mp (show (wsX20).all goodWord = true from rfl) w h
set_option maxRecDepth 100000 in
theorem bw_wsX90 : ∀ w ∈ wsX90, goodWord w = true := fun w h => List.all_eq_true.mp (show (wsX90).all goodWord = true from rfl) w h
set_option maxRecDepth 100000 in
theorem bw_wsX30 : ∀ w ∈ wsX30, goodWord w = true := fun w h => List.all_eq_true.mp (show (wsX30).all goodWord = true from rfl) w h
set_option maxRecDepth 100000 in
theorem bw_wsX00 : ∀ w ∈ wsX00, goodWord w = true := fun w h => List.all_eq_true.mp (show (wsX00).all goodWord = true from rfl) w h
set_option maxRecDepth 100000 in
theorem bw_wsX80 : ∀ w ∈ wsX80, goodWord w = true := fun w h => List.all_eq_true.mp (show (wsX80).all goodWord = true from rfl) w h
set_option maxRecDepth 100000 in
theorem bw_wsX40 : ∀ w ∈ wsX40, goodWord w = true := fun w h => List.all_eq_true.mp (show (wsX40).all goodWord = true from rfl) w h
set_option maxRecDepth 100000 in
theorem bw_wsX70 : ∀ w ∈ wsX70, goodWord w = true := fun w h => List.all_eq_true.mp (show (wsX70).all goodWord = true from rfl) w h
set_option maxRecDepth 100000 in
theorem bw_x : ∀ w ∈ (vx_atX RX11 163 "java/util/NoSuchElementException" 13 prog_23_method_4_code ["java/lang/RuntimeException", "java/lang/Exception"]).filter goodWord, goodWord w = true := fun w h => (List.mem_filter.mp h).2
set_option maxRecDepth 100000 in
theorem bw_law : ∀ w ∈ wsL_law, goodWord w = true := fun w h => (List.mem_append.mp h).elim ((fun w h => (List.mem_append.mp h).elim ((fun w h => (List.mem_append.mp h).elim ((fun w h => (List.mem_append.mp h).elim ((fun w h => (List.mem_append.mp h).elim ((fun w h => (List.mem_append.mp h).elim ((fun w h => (List.mem_append.mp h).elim ((fun w h => (List.mem_append.mp h).elim ((fun w h => (List.mem_append.mp h).elim ((fun w h => (List.mem_append.mp h).elim ((fun w h => (List.mem_append.mp h).elim ((fun w h => (List.mem_append.mp h).elim ((fun w h => (List.mem_append.mp h).elim ((fun w h => (List.mem_append.mp h).elim ((fun w h => (List.mem_append.mp h).elim ((fun w h => (List.mem_append.mp h).elim (bw_wsL_law0_r1 w) ((fun w h => (List.mem_append.mp h).elim (bw_wsL_law0_r2 w) ((fun w h => (List.mem_append.mp h).elim (bw_wsL_law0_r3 w) ((fun w h => (List.mem_append.mp h).elim (bw_wsL_law0_r4 w) ((fun w h => (List.mem_append.mp h).elim (bw_wsL_law0_r5 w) ((fun w h => (List.mem_append.mp h).elim (bw_wsL_law0_r6 w) ((fun w h => (List.mem_append.mp h).elim (bw_wsL_law0_r7 w) ((fun w h => (List.mem_append.mp h).elim (bw_wsL_law0_r8 w) ((fun w h => (List.mem_append.mp h).elim (bw_wsL_law0_r9 w) ((fun w h => (List.mem_append.mp h).elim (bw_wsL_law0_r10 w) ((fun w h => (List.mem_append.mp h).elim (bw_wsL_law0_r11 w) ((fun w h => (List.mem_append.mp h).elim (bw_wsL_law0_r12 w) ((fun w h => (List.mem_append.mp h).elim (bw_wsL_law0_r13 w) ((fun w h => (List.mem_append.mp h).elim (bw_wsL_law0_r14 w) ((fun w h => (List.mem_append.mp h).elim (bw_wsL_law0_r15 w) ((fun w h => (List.mem_append.mp h).elim (bw_wsL_law0_r16 w) ((fun w h => (List.mem_append.mp h).elim (bw_wsL_law0_r17 w) ((fun w h => (List.mem_append.mp h).elim (bw_wsL_law0_r18 w) ((fun w h => (List.mem_append.mp h).elim (bw_wsL_law0_r19 w) ((fun w h => (List.mem_append.mp h).elim (bw_wsL_law0_r20 w) ((fun w h => (List.mem_append.mp h).elim (bw_wsL_law0_r21 w) ((fun w h => (List.mem_append.mp h).elim (bw_wsL_law0_r22 w) ((fun w h => (List.mem_append.mp h).elim (bw_wsL_law0_r23 w) ((fun w h => (List.mem_append.mp h).elim (bw_wsL_law0_r24 w) ((fun w h => (List.mem_append.mp h).elim (bw_wsL_law0_r25 w) ((fun w h => (List.mem_append.mp h).elim (bw_wsL_law0_r26 w) ((fun w h => (List.mem_append.mp h).elim (bw_wsL_law0_r27 w) ((fun w h => (List.mem_append.mp h).elim (bw_wsL_law0_r28 w) ((fun w h => (List.mem_append.mp h).elim (bw_wsL_law0_r29 w) ((fun w h => (List.mem_append.mp h).elim (bw_wsL_law0_r30 w) ((fun w h => (List.mem_append.mp h).elim (bw_wsL_law0_r31 w) ((fun w h => (List.mem_append.mp h).elim (bw_wsL_law0_r32 w) ((fun w h => (List.mem_append.mp h).elim (bw_wsL_law0_r33 w) ((fun w h => (List.mem_append.mp h).elim (bw_wsL_law0_r34 w) ((fun w h => (List.mem_append.mp h).elim (bw_wsL_law0_r35 w) ((fun w h => (List.mem_append.mp h).elim (bw_wsL_law0_r36 w) ((fun w h => (List.mem_append.mp h).elim (bw_wsL_law0_r37 w) ((fun w h => (List.mem_append.mp h).elim (bw_wsL_law0_r38 w) ((fun w h => (List.mem_append.mp h).elim (bw_wsL_law0_r39 w) ((fun w h => (List.mem_append.mp h).elim (bw_wsL_law0_r40 w) ((fun w h => (List.mem_append.mp h).elim (bw_wsL_law0_r41 w) ((fun w h => (List.mem_append.mp h).elim (bw_wsL_law0_r42 w) ((fun w h => (List.mem_append.mp h).elim (bw_wsL_law0_r43 w) ((fun w h => (List.mem_append.mp h).elim (bw_wsL_law0_r44 w) ((fun w h => (List.mem_append.mp h).elim (bw_wsL_law0_r45 w) ((fun w h => (List.mem_append.mp h).elim (bw_wsL_law0_r46 w) ((fun w h => (List.mem_append.mp h).elim (bw_wsL_law0_r47 w) ((fun w h => (List.mem_append.mp h).elim (bw_wsL_law0_r48 w) ((fun w h => (List.mem_append.mp h).elim (bw_wsL_law0_r49 w) ((fun w h => (List.mem_append.mp h).elim (bw_wsL_law0_r50 w) ((fun w h => (List.mem_append.mp h).elim (bw_wsL_law0_r51 w) ((fun w h => (List.mem_append.mp h).elim (bw_wsL_law0_r52 w) ((fun w h => (List.mem_append.mp h).elim (bw_wsL_law0_r53 w) ((fun w h => (List.mem_append.mp h).elim (bw_wsL_law0_r54 w) ((fun w h => (List.mem_append.mp h).elim (bw_wsL_law0_r55 w) ((fun w h => (List.mem_append.mp h).elim (bw_wsL_law0_r56 w) ((fun w h => (List.mem_append.mp h).elim (bw_wsL_law0_r57 w) ((fun w h => (List.mem_append.mp h).elim (bw_wsL_law0_r58 w) (bw_wsL_law0_r59 w)) w)) w)) w)) w)) w)) w)) w)) w)) w)) w)) w)) w)) w)) w)) w)) w)) w)) w)) w)) w)) w)) w)) w)) w)) w)) w)) w)) w)) w)) w)) w)) w)) w)) w)) w)) w)) w)) w)) w)) w)) w)) w)) w)) w)) w)) w)) w)) w)) w)) w)) w)) w)) w)) w)) w)) w)) w)) w) (bw_wsX110 w)) w) (bw_wsX120 w)) w) (bw_wsX100 w)) w) (bw_wsX60 w)) w) (bw_wsX10 w)) w) (bw_wsX50 w)) w) (bw_wsX20 w)) w) (bw_wsX90 w)) w) (bw_wsX30 w)) w) (bw_wsX00 w)) w) (bw_wsX80 w)) w) (bw_wsX40 w)) w) (bw_wsX70 w)) w) ((fun _ h => absurd h List.not_mem_nil) w)) w) (bw_x w)
theorem bg_law {c : Cond} (h : c ∈ wsL_law) : GoodIn wsL_law (c :: wsL_law) := fun w hw => (List.mem_cons.mp hw).elim (fun e => by rw [e]; exact ⟨h, good_of_word (bw_law _ h)⟩) (fun h9 => ⟨h9, good_of_word (bw_law _ h9)⟩)
theorem bg_up {d : Cond} {ws : List Cond} (h : GoodIn wsL_law ws) : GoodIn (d :: wsL_law) ws := fun w hw => ⟨List.mem_cons_of_mem _ (h w hw).1, (h w hw).2⟩
theorem bg_cons {c : Cond} {ws : List Cond} (h : c ∈ wsL_law) (h2 : GoodIn wsL_law ws) : GoodIn wsL_law (c :: ws) := fun w hw => (List.mem_cons.mp hw).elim (fun e => by rw [e]; exact ⟨h, good_of_word (bw_law _ h)⟩) (fun h9 => h2 w h9)
theorem bg_nil : GoodIn wsL_law [] := fun w hw => absurd hw List.not_mem_nil
theorem tb_0 : ∀ w ∈ k2_sels lw_privs, w ∈ lw_tbl := fun _ h => List.mem_append_left _ h
theorem tb_1 : ∀ w ∈ tables_1_1, w ∈ lw_tbl := fun _ h => List.mem_append_right _ (List.mem_append_left _ h)
theorem tb_2 : ∀ w ∈ tables_1_2, w ∈ lw_tbl := fun _ h => List.mem_append_right _ (List.mem_append_right _ (List.mem_append_left _ h))
theorem tb_3 : ∀ w ∈ tables_1_3, w ∈ lw_tbl := fun _ h => List.mem_append_right _ (List.mem_append_right _ (List.mem_append_right _ (List.mem_append_left _ h)))
theorem tb_4 : ∀ w ∈ tables_1_4, w ∈ lw_tbl := fun _ h => List.mem_append_right _ (List.mem_append_right _ (List.mem_append_right _ (List.mem_append_right _ (List.mem_append_left _ h))))
theorem tb_5 : ∀ w ∈ tables_1_5, w ∈ lw_tbl := fun _ h => List.mem_append_right _ (List.mem_append_right _ (List.mem_append_right _ (List.mem_append_right _ (List.mem_append_right _ (List.mem_append_left _ h)))))
theorem tb_6 : ∀ w ∈ tables_1_6, w ∈ lw_tbl := fun _ h => List.mem_append_right _ (List.mem_append_right _ (List.mem_append_right _ (List.mem_append_right _ (List.mem_append_right _ (List.mem_append_right _ (List.mem_append_left _ h))))))
theorem tb_7 : ∀ w ∈ tables_1_7, w ∈ lw_tbl := fun _ h => List.mem_append_right _ (List.mem_append_right _ (List.mem_append_right _ (List.mem_append_right _ (List.mem_append_right _ (List.mem_append_right _ (List.mem_append_right _ (List.mem_append_left _ h)))))))
theorem tb_8 : ∀ w ∈ tables_1_8, w ∈ lw_tbl := fun _ h => List.mem_append_right _ (List.mem_append_right _ (List.mem_append_right _ (List.mem_append_right _ (List.mem_append_right _ (List.mem_append_right _ (List.mem_append_right _ (List.mem_append_right _ h)))))))
theorem mem_pl {big ws : List Cond} (ps : List Nat) (hp : ws = ps.filterMap (fun i => big[i]?)) : ∀ w ∈ ws, w ∈ big := by
  intro w hw
  rw [hp] at hw
  obtain ⟨i, -, hi⟩ := List.mem_filterMap.mp hw
  exact List.mem_of_getElem? hi
set_option maxRecDepth 100000 in
theorem lwm_wsL_law0_r1 : ∀ w ∈ wsL_law0_r1, w ∈ lw_tbl := (List.forall_mem_cons.mpr ⟨(tb_1 _ (List.mem_of_getElem? (i := 21) rfl)), (List.forall_mem_cons.mpr ⟨(tb_1 _ (List.mem_of_getElem? (i := 22) rfl)), (List.forall_mem_cons.mpr ⟨(tb_1 _ (List.mem_of_getElem? (i := 1) rfl)), (List.forall_mem_cons.mpr ⟨(tb_5 _ (List.mem_of_getElem? (i := 145) rfl)), (List.forall_mem_cons.mpr ⟨(tb_5 _ (List.mem_of_getElem? (i := 146) rfl)), (List.forall_mem_cons.mpr ⟨(tb_1 _ (List.mem_of_getElem? (i := 13) rfl)), (List.forall_mem_cons.mpr ⟨(tb_8 _ (List.mem_of_getElem? (i := 58) rfl)), (List.forall_mem_cons.mpr ⟨(tb_8 _ (List.mem_of_getElem? (i := 57) rfl)), (List.forall_mem_cons.mpr ⟨(tb_1 _ (List.mem_of_getElem? (i := 23) rfl)), (List.forall_mem_cons.mpr ⟨(tb_1 _ (List.mem_of_getElem? (i := 24) rfl)), (List.forall_mem_cons.mpr ⟨(tb_1 _ (List.mem_of_getElem? (i := 25) rfl)), (List.forall_mem_cons.mpr ⟨(tb_1 _ (List.mem_of_getElem? (i := 26) rfl)), (List.forall_mem_cons.mpr ⟨(tb_1 _ (List.mem_of_getElem? (i := 27) rfl)), (List.forall_mem_cons.mpr ⟨(tb_1 _ (List.mem_of_getElem? (i := 28) rfl)), (List.forall_mem_cons.mpr ⟨(tb_1 _ (List.mem_of_getElem? (i := 29) rfl)), (List.forall_mem_cons.mpr ⟨(tb_1 _ (List.mem_of_getElem? (i := 30) rfl)), (List.forall_mem_cons.mpr ⟨(tb_1 _ (List.mem_of_getElem? (i := 2) rfl)), (List.forall_mem_cons.mpr ⟨(tb_2 _ (List.mem_of_getElem? (i := 75) rfl)), (List.forall_mem_cons.mpr ⟨(tb_1 _ (List.mem_of_getElem? (i := 50) rfl)), (List.forall_mem_cons.mpr ⟨(tb_1 _ (List.mem_of_getElem? (i := 51) rfl)), (List.forall_mem_cons.mpr ⟨(tb_1 _ (List.mem_of_getElem? (i := 3) rfl)), (List.forall_mem_cons.mpr ⟨(tb_2 _ (List.mem_of_getElem? (i := 76) rfl)), (List.forall_mem_cons.mpr ⟨(tb_1 _ (List.mem_of_getElem? (i := 137) rfl)), (List.forall_mem_cons.mpr ⟨(tb_1 _ (List.mem_of_getElem? (i := 138) rfl)), (fun _ h => absurd h List.not_mem_nil)⟩)⟩)⟩)⟩)⟩)⟩)⟩)⟩)⟩)⟩)⟩)⟩)⟩)⟩)⟩)⟩)⟩)⟩)⟩)⟩)⟩)⟩)⟩)⟩)
set_option maxRecDepth 100000 in
theorem lwm_wsL_law0_r2 : ∀ w ∈ wsL_law0_r2, w ∈ lw_tbl := (List.forall_mem_cons.mpr ⟨(tb_1 _ (List.mem_of_getElem? (i := 5) rfl)), (List.forall_mem_cons.mpr ⟨(tb_2 _ (List.mem_of_getElem? (i := 77) rfl)), (List.forall_mem_cons.mpr ⟨(tb_1 _ (List.mem_of_getElem? (i := 155) rfl)), (List.forall_mem_cons.mpr ⟨(tb_1 _ (List.mem_of_getElem? (i := 57) rfl)), (List.forall_mem_cons.mpr ⟨(tb_1 _ (List.mem_of_getElem? (i := 4) rfl)), (List.forall_mem_cons.mpr ⟨(tb_2 _ (List.mem_of_getElem? (i := 78) rfl)), (List.forall_mem_cons.mpr ⟨(tb_1 _ (List.mem_of_getElem? (i := 157) rfl)), (List.forall_mem_cons.mpr ⟨(tb_1 _ (List.mem_of_getElem? (i := 158) rfl)), (List.forall_mem_cons.mpr ⟨(tb_1 _ (List.mem_of_getElem? (i := 6) rfl)), (List.forall_mem_cons.mpr ⟨(tb_2 _ (List.mem_of_getElem? (i := 79) rfl)), (List.forall_mem_cons.mpr ⟨(tb_1 _ (List.mem_of_getElem? (i := 188) rfl)), (List.forall_mem_cons.mpr ⟨(tb_1 _ (List.mem_of_getElem? (i := 189) rfl)), (List.forall_mem_cons.mpr ⟨(tb_1 _ (List.mem_of_getElem? (i := 7) rfl)), (List.forall_mem_cons.mpr ⟨(tb_2 _ (List.mem_of_getElem? (i := 80) rfl)), (List.forall_mem_cons.mpr ⟨(tb_2 _ (List.mem_of_getElem? (i := 81) rfl)), (List.forall_mem_cons.mpr ⟨(tb_1 _ (List.mem_of_getElem? (i := 205) rfl)), (List.forall_mem_cons.mpr ⟨(tb_1 _ (List.mem_of_getElem? (i := 206) rfl)), (List.forall_mem_cons.mpr ⟨(tb_1 _ (List.mem_of_getElem? (i := 8) rfl)), (List.forall_mem_cons.mpr ⟨(tb_2 _ (List.mem_of_getElem? (i := 82) rfl)), (List.forall_mem_cons.mpr ⟨(tb_1 _ (List.mem_of_getElem? (i := 215) rfl)), (List.forall_mem_cons.mpr ⟨(tb_1 _ (List.mem_of_getElem? (i := 216) rfl)), (List.forall_mem_cons.mpr ⟨(tb_1 _ (List.mem_of_getElem? (i := 9) rfl)), (List.forall_mem_cons.mpr ⟨(tb_2 _ (List.mem_of_getElem? (i := 83) rfl)), (List.forall_mem_cons.mpr ⟨(tb_2 _ (List.mem_of_getElem? (i := 84) rfl)), (fun _ h => absurd h List.not_mem_nil)⟩)⟩)⟩)⟩)⟩)⟩)⟩)⟩)⟩)⟩)⟩)⟩)⟩)⟩)⟩)⟩)⟩)⟩)⟩)⟩)⟩)⟩)⟩)⟩)
set_option maxRecDepth 100000 in
theorem lwm_wsL_law0_r3 : ∀ w ∈ wsL_law0_r3, w ∈ lw_tbl := (List.forall_mem_cons.mpr ⟨(tb_2 _ (List.mem_of_getElem? (i := 85) rfl)), (List.forall_mem_cons.mpr ⟨(tb_1 _ (List.mem_of_getElem? (i := 232) rfl)), (List.forall_mem_cons.mpr ⟨(tb_1 _ (List.mem_of_getElem? (i := 233) rfl)), (List.forall_mem_cons.mpr ⟨(tb_1 _ (List.mem_of_getElem? (i := 10) rfl)), (List.forall_mem_cons.mpr ⟨(tb_2 _ (List.mem_of_getElem? (i := 86) rfl)), (List.forall_mem_cons.mpr ⟨(tb_2 _ (List.mem_of_getElem? (i := 22) rfl)), (List.forall_mem_cons.mpr ⟨(tb_2 _ (List.mem_of_getElem? (i := 23) rfl)), (List.forall_mem_cons.mpr ⟨(tb_1 _ (List.mem_of_getElem? (i := 11) rfl)), (List.forall_mem_cons.mpr ⟨(tb_2 _ (List.mem_of_getElem? (i := 87) rfl)), (List.forall_mem_cons.mpr ⟨(tb_2 _ (List.mem_of_getElem? (i := 53) rfl)), (List.forall_mem_cons.mpr ⟨(tb_2 _ (List.mem_of_getElem? (i := 54) rfl)), (List.forall_mem_cons.mpr ⟨(tb_1 _ (List.mem_of_getElem? (i := 12) rfl)), (List.forall_mem_cons.mpr ⟨(tb_2 _ (List.mem_of_getElem? (i := 88) rfl)), (List.forall_mem_cons.mpr ⟨(tb_1 _ (List.mem_of_getElem? (i := 49) rfl)), (List.forall_mem_cons.mpr ⟨(tb_2 _ (List.mem_of_getElem? (i := 89) rfl)), (List.forall_mem_cons.mpr ⟨(tb_2 _ (List.mem_of_getElem? (i := 90) rfl)), (List.forall_mem_cons.mpr ⟨(tb_2 _ (List.mem_of_getElem? (i := 91) rfl)), (List.forall_mem_cons.mpr ⟨(tb_2 _ (List.mem_of_getElem? (i := 92) rfl)), (List.forall_mem_cons.mpr ⟨(tb_1 _ (List.mem_of_getElem? (i := 32) rfl)), (List.forall_mem_cons.mpr ⟨(tb_1 _ (List.mem_of_getElem? (i := 33) rfl)), (List.forall_mem_cons.mpr ⟨(tb_1 _ (List.mem_of_getElem? (i := 34) rfl)), (List.forall_mem_cons.mpr ⟨(tb_1 _ (List.mem_of_getElem? (i := 35) rfl)), (List.forall_mem_cons.mpr ⟨(tb_1 _ (List.mem_of_getElem? (i := 52) rfl)), (List.forall_mem_cons.mpr ⟨(tb_1 _ (List.mem_of_getElem? (i := 53) rfl)), (fun _ h => absurd h List.not_mem_nil)⟩)⟩)⟩)⟩)⟩)⟩)⟩)⟩)⟩)⟩)⟩)⟩)⟩)⟩)⟩)⟩)⟩)⟩)⟩)⟩)⟩)⟩)⟩)⟩)
set_option maxRecDepth 100000 in
theorem lwm_wsL_law0_r4 : ∀ w ∈ wsL_law0_r4, w ∈ lw_tbl := (List.forall_mem_cons.mpr ⟨(tb_1 _ (List.mem_of_getElem? (i := 54) rfl)), (List.forall_mem_cons.mpr ⟨(tb_1 _ (List.mem_of_getElem? (i := 55) rfl)), (List.forall_mem_cons.mpr ⟨(tb_1 _ (List.mem_of_getElem? (i := 56) rfl)), (List.forall_mem_cons.mpr ⟨(tb_1 _ (List.mem_of_getElem? (i := 123) rfl)), (List.forall_mem_cons.mpr ⟨(tb_1 _ (List.mem_of_getElem? (i := 126) rfl)), (List.forall_mem_cons.mpr ⟨(tb_1 _ (List.mem_of_getElem? (i := 125) rfl)), (List.forall_mem_cons.mpr ⟨(tb_1 _ (List.mem_of_getElem? (i := 59) rfl)), (List.forall_mem_cons.mpr ⟨(tb_1 _ (List.mem_of_getElem? (i := 60) rfl)), (List.forall_mem_cons.mpr ⟨(tb_1 _ (List.mem_of_getElem? (i := 61) rfl)), (List.forall_mem_cons.mpr ⟨(tb_1 _ (List.mem_of_getElem? (i := 78) rfl)), (List.forall_mem_cons.mpr ⟨(tb_1 _ (List.mem_of_getElem? (i := 83) rfl)), (List.forall_mem_cons.mpr ⟨(tb_1 _ (List.mem_of_getElem? (i := 87) rfl)), (List.forall_mem_cons.mpr ⟨(tb_1 _ (List.mem_of_getElem? (i := 91) rfl)), (List.forall_mem_cons.mpr ⟨(tb_1 _ (List.mem_of_getElem? (i := 94) rfl)), (List.forall_mem_cons.mpr ⟨(tb_1 _ (List.mem_of_getElem? (i := 98) rfl)), (List.forall_mem_cons.mpr ⟨(tb_1 _ (List.mem_of_getElem? (i := 139) rfl)), (List.forall_mem_cons.mpr ⟨(tb_1 _ (List.mem_of_getElem? (i := 140) rfl)), (List.forall_mem_cons.mpr ⟨(tb_1 _ (List.mem_of_getElem? (i := 141) rfl)), (List.forall_mem_cons.mpr ⟨(tb_1 _ (List.mem_of_getElem? (i := 142) rfl)), (List.forall_mem_cons.mpr ⟨(tb_1 _ (List.mem_of_getElem? (i := 143) rfl)), (List.forall_mem_cons.mpr ⟨(tb_1 _ (List.mem_of_getElem? (i := 147) rfl)), (List.forall_mem_cons.mpr ⟨(tb_1 _ (List.mem_of_getElem? (i := 160) rfl)), (List.forall_mem_cons.mpr ⟨(tb_1 _ (List.mem_of_getElem? (i := 161) rfl)), (List.forall_mem_cons.mpr ⟨(tb_1 _ (List.mem_of_getElem? (i := 162) rfl)), (fun _ h => absurd h List.not_mem_nil)⟩)⟩)⟩)⟩)⟩)⟩)⟩)⟩)⟩)⟩)⟩)⟩)⟩)⟩)⟩)⟩)⟩)⟩)⟩)⟩)⟩)⟩)⟩)⟩)
set_option maxRecDepth 100000 in
theorem lwm_wsL_law0_r5 : ∀ w ∈ wsL_law0_r5, w ∈ lw_tbl := (List.forall_mem_cons.mpr ⟨(tb_1 _ (List.mem_of_getElem? (i := 169) rfl)), (List.forall_mem_cons.mpr ⟨(tb_1 _ (List.mem_of_getElem? (i := 163) rfl)), (List.forall_mem_cons.mpr ⟨(tb_1 _ (List.mem_of_getElem? (i := 171) rfl)), (List.forall_mem_cons.mpr ⟨(tb_1 _ (List.mem_of_getElem? (i := 172) rfl)), (List.forall_mem_cons.mpr ⟨(tb_1 _ (List.mem_of_getElem? (i := 165) rfl)), (List.forall_mem_cons.mpr ⟨(tb_1 _ (List.mem_of_getElem? (i := 173) rfl)), (List.forall_mem_cons.mpr ⟨(tb_1 _ (List.mem_of_getElem? (i := 174) rfl)), (List.forall_mem_cons.mpr ⟨(tb_1 _ (List.mem_of_getElem? (i := 190) rfl)), (List.forall_mem_cons.mpr ⟨(tb_1 _ (List.mem_of_getElem? (i := 191) rfl)), (List.forall_mem_cons.mpr ⟨(tb_1 _ (List.mem_of_getElem? (i := 192) rfl)), (List.forall_mem_cons.mpr ⟨(tb_1 _ (List.mem_of_getElem? (i := 193) rfl)), (List.forall_mem_cons.mpr ⟨(tb_1 _ (List.mem_of_getElem? (i := 194) rfl)), (List.forall_mem_cons.mpr ⟨(tb_1 _ (List.mem_of_getElem? (i := 196) rfl)), (List.forall_mem_cons.mpr ⟨(tb_1 _ (List.mem_of_getElem? (i := 197) rfl)), (List.forall_mem_cons.mpr ⟨(tb_1 _ (List.mem_of_getElem? (i := 208) rfl)), (List.forall_mem_cons.mpr ⟨(tb_1 _ (List.mem_of_getElem? (i := 209) rfl)), (List.forall_mem_cons.mpr ⟨(tb_1 _ (List.mem_of_getElem? (i := 210) rfl)), (List.forall_mem_cons.mpr ⟨(tb_1 _ (List.mem_of_getElem? (i := 211) rfl)), (List.forall_mem_cons.mpr ⟨(tb_1 _ (List.mem_of_getElem? (i := 218) rfl)), (List.forall_mem_cons.mpr ⟨(tb_1 _ (List.mem_of_getElem? (i := 219) rfl)), (List.forall_mem_cons.mpr ⟨(tb_1 _ (List.mem_of_getElem? (i := 220) rfl)), (List.forall_mem_cons.mpr ⟨(tb_1 _ (List.mem_of_getElem? (i := 224) rfl)), (List.forall_mem_cons.mpr ⟨(tb_1 _ (List.mem_of_getElem? (i := 234) rfl)), (List.forall_mem_cons.mpr ⟨(tb_1 _ (List.mem_of_getElem? (i := 235) rfl)), (fun _ h => absurd h List.not_mem_nil)⟩)⟩)⟩)⟩)⟩)⟩)⟩)⟩)⟩)⟩)⟩)⟩)⟩)⟩)⟩)⟩)⟩)⟩)⟩)⟩)⟩)⟩)⟩)⟩)
set_option maxRecDepth 100000 in
theorem lwm_wsL_law0_r6 : ∀ w ∈ wsL_law0_r6, w ∈ lw_tbl := (List.forall_mem_cons.mpr ⟨(tb_1 _ (List.mem_of_getElem? (i := 236) rfl)), (List.forall_mem_cons.mpr ⟨(tb_1 _ (List.mem_of_getElem? (i := 237) rfl)), (List.forall_mem_cons.mpr ⟨(tb_2 _ (List.mem_of_getElem? (i := 0) rfl)), (List.forall_mem_cons.mpr ⟨(tb_2 _ (List.mem_of_getElem? (i := 1) rfl)), (List.forall_mem_cons.mpr ⟨(tb_2 _ (List.mem_of_getElem? (i := 2) rfl)), (List.forall_mem_cons.mpr ⟨(tb_2 _ (List.mem_of_getElem? (i := 21) rfl)), (List.forall_mem_cons.mpr ⟨(tb_2 _ (List.mem_of_getElem? (i := 3) rfl)), (List.forall_mem_cons.mpr ⟨(tb_2 _ (List.mem_of_getElem? (i := 4) rfl)), (List.forall_mem_cons.mpr ⟨(tb_2 _ (List.mem_of_getElem? (i := 5) rfl)), (List.forall_mem_cons.mpr ⟨(tb_2 _ (List.mem_of_getElem? (i := 24) rfl)), (List.forall_mem_cons.mpr ⟨(tb_2 _ (List.mem_of_getElem? (i := 25) rfl)), (List.forall_mem_cons.mpr ⟨(tb_2 _ (List.mem_of_getElem? (i := 26) rfl)), (List.forall_mem_cons.mpr ⟨(tb_2 _ (List.mem_of_getElem? (i := 27) rfl)), (List.forall_mem_cons.mpr ⟨(tb_2 _ (List.mem_of_getElem? (i := 34) rfl)), (List.forall_mem_cons.mpr ⟨(tb_2 _ (List.mem_of_getElem? (i := 35) rfl)), (List.forall_mem_cons.mpr ⟨(tb_2 _ (List.mem_of_getElem? (i := 36) rfl)), (List.forall_mem_cons.mpr ⟨(tb_2 _ (List.mem_of_getElem? (i := 56) rfl)), (List.forall_mem_cons.mpr ⟨(tb_2 _ (List.mem_of_getElem? (i := 57) rfl)), (List.forall_mem_cons.mpr ⟨(tb_2 _ (List.mem_of_getElem? (i := 58) rfl)), (List.forall_mem_cons.mpr ⟨(tb_5 _ (List.mem_of_getElem? (i := 147) rfl)), (List.forall_mem_cons.mpr ⟨(tb_5 _ (List.mem_of_getElem? (i := 148) rfl)), (List.forall_mem_cons.mpr ⟨(tb_5 _ (List.mem_of_getElem? (i := 149) rfl)), (List.forall_mem_cons.mpr ⟨(tb_5 _ (List.mem_of_getElem? (i := 150) rfl)), (List.forall_mem_cons.mpr ⟨(tb_5 _ (List.mem_of_getElem? (i := 152) rfl)), (fun _ h => absurd h List.not_mem_nil)⟩)⟩)⟩)⟩)⟩)⟩)⟩)⟩)⟩)⟩)⟩)⟩)⟩)⟩)⟩)⟩)⟩)⟩)⟩)⟩)⟩)⟩)⟩)⟩)
set_option maxRecDepth 100000 in
theorem lwm_wsL_law0_r7 : ∀ w ∈ wsL_law0_r7, w ∈ lw_tbl := (List.forall_mem_cons.mpr ⟨(tb_5 _ (List.mem_of_getElem? (i := 157) rfl)), (List.forall_mem_cons.mpr ⟨(tb_5 _ (List.mem_of_getElem? (i := 158) rfl)), (List.forall_mem_cons.mpr ⟨(tb_5 _ (List.mem_of_getElem? (i := 159) rfl)), (List.forall_mem_cons.mpr ⟨(tb_5 _ (List.mem_of_getElem? (i := 160) rfl)), (List.forall_mem_cons.mpr ⟨(tb_5 _ (List.mem_of_getElem? (i := 161) rfl)), (List.forall_mem_cons.mpr ⟨(tb_5 _ (List.mem_of_getElem? (i := 162) rfl)), (List.forall_mem_cons.mpr ⟨(tb_5 _ (List.mem_of_getElem? (i := 163) rfl)), (List.forall_mem_cons.mpr ⟨(tb_5 _ (List.mem_of_getElem? (i := 166) rfl)), (List.forall_mem_cons.mpr ⟨(tb_5 _ (List.mem_of_getElem? (i := 167) rfl)), (List.forall_mem_cons.mpr ⟨(tb_5 _ (List.mem_of_getElem? (i := 168) rfl)), (List.forall_mem_cons.mpr ⟨(tb_5 _ (List.mem_of_getElem? (i := 169) rfl)), (List.forall_mem_cons.mpr ⟨(tb_5 _ (List.mem_of_getElem? (i := 170) rfl)), (List.forall_mem_cons.mpr ⟨(tb_5 _ (List.mem_of_getElem? (i := 173) rfl)), (List.forall_mem_cons.mpr ⟨(tb_5 _ (List.mem_of_getElem? (i := 174) rfl)), (List.forall_mem_cons.mpr ⟨(tb_5 _ (List.mem_of_getElem? (i := 175) rfl)), (List.forall_mem_cons.mpr ⟨(tb_5 _ (List.mem_of_getElem? (i := 178) rfl)), (List.forall_mem_cons.mpr ⟨(tb_5 _ (List.mem_of_getElem? (i := 179) rfl)), (List.forall_mem_cons.mpr ⟨(tb_5 _ (List.mem_of_getElem? (i := 180) rfl)), (List.forall_mem_cons.mpr ⟨(tb_5 _ (List.mem_of_getElem? (i := 181) rfl)), (List.forall_mem_cons.mpr ⟨(tb_5 _ (List.mem_of_getElem? (i := 182) rfl)), (List.forall_mem_cons.mpr ⟨(tb_5 _ (List.mem_of_getElem? (i := 188) rfl)), (List.forall_mem_cons.mpr ⟨(tb_5 _ (List.mem_of_getElem? (i := 189) rfl)), (List.forall_mem_cons.mpr ⟨(tb_5 _ (List.mem_of_getElem? (i := 190) rfl)), (List.forall_mem_cons.mpr ⟨(tb_5 _ (List.mem_of_getElem? (i := 191) rfl)), (fun _ h => absurd h List.not_mem_nil)⟩)⟩)⟩)⟩)⟩)⟩)⟩)⟩)⟩)⟩)⟩)⟩)⟩)⟩)⟩)⟩)⟩)⟩)⟩)⟩)⟩)⟩)⟩)⟩)
set_option maxRecDepth 100000 in
theorem lwm_wsL_law0_r8 : ∀ w ∈ wsL_law0_r8, w ∈ lw_tbl := (List.forall_mem_cons.mpr ⟨(tb_5 _ (List.mem_of_getElem? (i := 192) rfl)), (List.forall_mem_cons.mpr ⟨(tb_5 _ (List.mem_of_getElem? (i := 193) rfl)), (List.forall_mem_cons.mpr ⟨(tb_5 _ (List.mem_of_getElem? (i := 195) rfl)), (List.forall_mem_cons.mpr ⟨(tb_2 _ (List.mem_of_getElem? (i := 130) rfl)), (List.forall_mem_cons.mpr ⟨(tb_2 _ (List.mem_of_getElem? (i := 131) rfl)), (List.forall_mem_cons.mpr ⟨(tb_2 _ (List.mem_of_getElem? (i := 132) rfl)), (List.forall_mem_cons.mpr ⟨(tb_2 _ (List.mem_of_getElem? (i := 133) rfl)), (List.forall_mem_cons.mpr ⟨(tb_1 _ (List.mem_of_getElem? (i := 36) rfl)), (List.forall_mem_cons.mpr ⟨(tb_2 _ (List.mem_of_getElem? (i := 134) rfl)), (List.forall_mem_cons.mpr ⟨(tb_2 _ (List.mem_of_getElem? (i := 135) rfl)), (List.forall_mem_cons.mpr ⟨(tb_2 _ (List.mem_of_getElem? (i := 136) rfl)), (List.forall_mem_cons.mpr ⟨(tb_2 _ (List.mem_of_getElem? (i := 137) rfl)), (List.forall_mem_cons.mpr ⟨(tb_2 _ (List.mem_of_getElem? (i := 138) rfl)), (List.forall_mem_cons.mpr ⟨(tb_2 _ (List.mem_of_getElem? (i := 139) rfl)), (List.forall_mem_cons.mpr ⟨(tb_2 _ (List.mem_of_getElem? (i := 140) rfl)), (List.forall_mem_cons.mpr ⟨(tb_1 _ (List.mem_of_getElem? (i := 37) rfl)), (List.forall_mem_cons.mpr ⟨(tb_6 _ (List.mem_of_getElem? (i := 50) rfl)), (List.forall_mem_cons.mpr ⟨(tb_6 _ (List.mem_of_getElem? (i := 51) rfl)), (List.forall_mem_cons.mpr ⟨(tb_6 _ (List.mem_of_getElem? (i := 52) rfl)), (List.forall_mem_cons.mpr ⟨(tb_6 _ (List.mem_of_getElem? (i := 53) rfl)), (List.forall_mem_cons.mpr ⟨(tb_5 _ (List.mem_of_getElem? (i := 153) rfl)), (List.forall_mem_cons.mpr ⟨(tb_6 _ (List.mem_of_getElem? (i := 54) rfl)), (List.forall_mem_cons.mpr ⟨(tb_6 _ (List.mem_of_getElem? (i := 55) rfl)), (List.forall_mem_cons.mpr ⟨(tb_6 _ (List.mem_of_getElem? (i := 56) rfl)), (fun _ h => absurd h List.not_mem_nil)⟩)⟩)⟩)⟩)⟩)⟩)⟩)⟩)⟩)⟩)⟩)⟩)⟩)⟩)⟩)⟩)⟩)⟩)⟩)⟩)⟩)⟩)⟩)⟩)
set_option maxRecDepth 100000 in
theorem lwm_wsL_law0_r9 : ∀ w ∈ wsL_law0_r9, w ∈ lw_tbl := (List.forall_mem_cons.mpr ⟨(tb_2 _ (List.mem_of_getElem? (i := 141) rfl)), (List.forall_mem_cons.mpr ⟨(tb_2 _ (List.mem_of_getElem? (i := 142) rfl)), (List.forall_mem_cons.mpr ⟨(tb_2 _ (List.mem_of_getElem? (i := 143) rfl)), (List.forall_mem_cons.mpr ⟨(tb_2 _ (List.mem_of_getElem? (i := 144) rfl)), (List.forall_mem_cons.mpr ⟨(tb_6 _ (List.mem_of_getElem? (i := 57) rfl)), (List.forall_mem_cons.mpr ⟨(tb_6 _ (List.mem_of_getElem? (i := 58) rfl)), (List.forall_mem_cons.mpr ⟨(tb_6 _ (List.mem_of_getElem? (i := 59) rfl)), (List.forall_mem_cons.mpr ⟨(tb_6 _ (List.mem_of_getElem? (i := 60) rfl)), (List.forall_mem_cons.mpr ⟨(tb_2 _ (List.mem_of_getElem? (i := 145) rfl)), (List.forall_mem_cons.mpr ⟨(tb_2 _ (List.mem_of_getElem? (i := 146) rfl)), (List.forall_mem_cons.mpr ⟨(tb_2 _ (List.mem_of_getElem? (i := 147) rfl)), (List.forall_mem_cons.mpr ⟨(tb_2 _ (List.mem_of_getElem? (i := 148) rfl)), (List.forall_mem_cons.mpr ⟨(tb_1 _ (List.mem_of_getElem? (i := 41) rfl)), (List.forall_mem_cons.mpr ⟨(tb_2 _ (List.mem_of_getElem? (i := 149) rfl)), (List.forall_mem_cons.mpr ⟨(tb_2 _ (List.mem_of_getElem? (i := 150) rfl)), (List.forall_mem_cons.mpr ⟨(tb_2 _ (List.mem_of_getElem? (i := 151) rfl)), (List.forall_mem_cons.mpr ⟨(tb_2 _ (List.mem_of_getElem? (i := 152) rfl)), (List.forall_mem_cons.mpr ⟨(tb_1 _ (List.mem_of_getElem? (i := 38) rfl)), (List.forall_mem_cons.mpr ⟨(tb_1 _ (List.mem_of_getElem? (i := 127) rfl)), (List.forall_mem_cons.mpr ⟨(tb_1 _ (List.mem_of_getElem? (i := 64) rfl)), (List.forall_mem_cons.mpr ⟨(tb_1 _ (List.mem_of_getElem? (i := 68) rfl)), (List.forall_mem_cons.mpr ⟨(tb_2 _ (List.mem_of_getElem? (i := 153) rfl)), (List.forall_mem_cons.mpr ⟨(tb_1 _ (List.mem_of_getElem? (i := 72) rfl)), (List.forall_mem_cons.mpr ⟨(tb_1 _ (List.mem_of_getElem? (i := 76) rfl)), (fun _ h => absurd h List.not_mem_nil)⟩)⟩)⟩)⟩)⟩)⟩)⟩)⟩)⟩)⟩)⟩)⟩)⟩)⟩)⟩)⟩)⟩)⟩)⟩)⟩)⟩)⟩)⟩)⟩)
set_option maxRecDepth 100000 in
theorem lwm_wsL_law0_r10 : ∀ w ∈ wsL_law0_r10, w ∈ lw_tbl := (List.forall_mem_cons.mpr ⟨(tb_2 _ (List.mem_of_getElem? (i := 155) rfl)), (List.forall_mem_cons.mpr ⟨(tb_2 _ (List.mem_of_getElem? (i := 157) rfl)), (List.forall_mem_cons.mpr ⟨(tb_0 _ (List.mem_of_getElem? (i := 0) rfl)), (List.forall_mem_cons.mpr ⟨(tb_2 _ (List.mem_of_getElem? (i := 158) rfl)), (List.forall_mem_cons.mpr ⟨(tb_2 _ (List.mem_of_getElem? (i := 159) rfl)), (List.forall_mem_cons.mpr ⟨(tb_2 _ (List.mem_of_getElem? (i := 160) rfl)), (List.forall_mem_cons.mpr ⟨(tb_2 _ (List.mem_of_getElem? (i := 161) rfl)), (List.forall_mem_cons.mpr ⟨(tb_2 _ (List.mem_of_getElem? (i := 162) rfl)), (List.forall_mem_cons.mpr ⟨(tb_1 _ (List.mem_of_getElem? (i := 40) rfl)), (List.forall_mem_cons.mpr ⟨(tb_2 _ (List.mem_of_getElem? (i := 163) rfl)), (List.forall_mem_cons.mpr ⟨(tb_2 _ (List.mem_of_getElem? (i := 164) rfl)), (List.forall_mem_cons.mpr ⟨(tb_2 _ (List.mem_of_getElem? (i := 165) rfl)), (List.forall_mem_cons.mpr ⟨(tb_2 _ (List.mem_of_getElem? (i := 166) rfl)), (List.forall_mem_cons.mpr ⟨(tb_2 _ (List.mem_of_getElem? (i := 168) rfl)), (List.forall_mem_cons.mpr ⟨(tb_0 _ (List.mem_of_getElem? (i := 1) rfl)), (List.forall_mem_cons.mpr ⟨(tb_2 _ (List.mem_of_getElem? (i := 169) rfl)), (List.forall_mem_cons.mpr ⟨(tb_2 _ (List.mem_of_getElem? (i := 170) rfl)), (List.forall_mem_cons.mpr ⟨(tb_2 _ (List.mem_of_getElem? (i := 172) rfl)), (List.forall_mem_cons.mpr ⟨(tb_0 _ (List.mem_of_getElem? (i := 2) rfl)), (List.forall_mem_cons.mpr ⟨(tb_2 _ (List.mem_of_getElem? (i := 173) rfl)), (List.forall_mem_cons.mpr ⟨(tb_2 _ (List.mem_of_getElem? (i := 174) rfl)), (List.forall_mem_cons.mpr ⟨(tb_2 _ (List.mem_of_getElem? (i := 176) rfl)), (List.forall_mem_cons.mpr ⟨(tb_2 _ (List.mem_of_getElem? (i := 175) rfl)), (List.forall_mem_cons.mpr ⟨(tb_1 _ (List.mem_of_getElem? (i := 14) rfl)), (fun _ h => absurd h List.not_mem_nil)⟩)⟩)⟩)⟩)⟩)⟩)⟩)⟩)⟩)⟩)⟩)⟩)⟩)⟩)⟩)⟩)⟩)⟩)⟩)⟩)⟩)⟩)⟩)⟩)
set_option maxRecDepth 100000 in
theorem lwm_wsL_law0_r11 : ∀ w ∈ wsL_law0_r11, w ∈ lw_tbl := (List.forall_mem_cons.mpr ⟨(tb_2 _ (List.mem_of_getElem? (i := 177) rfl)), (List.forall_mem_cons.mpr ⟨(tb_2 _ (List.mem_of_getElem? (i := 178) rfl)), (List.forall_mem_cons.mpr ⟨(tb_2 _ (List.mem_of_getElem? (i := 179) rfl)), (List.forall_mem_cons.mpr ⟨(tb_2 _ (List.mem_of_getElem? (i := 180) rfl)), (List.forall_mem_cons.mpr ⟨(tb_2 _ (List.mem_of_getElem? (i := 182) rfl)), (List.forall_mem_cons.mpr ⟨(tb_2 _ (List.mem_of_getElem? (i := 184) rfl)), (List.forall_mem_cons.mpr ⟨(tb_0 _ (List.mem_of_getElem? (i := 3) rfl)), (List.forall_mem_cons.mpr ⟨(tb_2 _ (List.mem_of_getElem? (i := 185) rfl)), (List.forall_mem_cons.mpr ⟨(tb_2 _ (List.mem_of_getElem? (i := 195) rfl)), (List.forall_mem_cons.mpr ⟨(tb_2 _ (List.mem_of_getElem? (i := 186) rfl)), (List.forall_mem_cons.mpr ⟨(tb_2 _ (List.mem_of_getElem? (i := 187) rfl)), (List.forall_mem_cons.mpr ⟨(tb_2 _ (List.mem_of_getElem? (i := 188) rfl)), (List.forall_mem_cons.mpr ⟨(tb_2 _ (List.mem_of_getElem? (i := 189) rfl)), (List.forall_mem_cons.mpr ⟨(tb_2 _ (List.mem_of_getElem? (i := 190) rfl)), (List.forall_mem_cons.mpr ⟨(tb_2 _ (List.mem_of_getElem? (i := 191) rfl)), (List.forall_mem_cons.mpr ⟨(tb_2 _ (List.mem_of_getElem? (i := 192) rfl)), (List.forall_mem_cons.mpr ⟨(tb_2 _ (List.mem_of_getElem? (i := 193) rfl)), (List.forall_mem_cons.mpr ⟨(tb_2 _ (List.mem_of_getElem? (i := 194) rfl)), (List.forall_mem_cons.mpr ⟨(tb_2 _ (List.mem_of_getElem? (i := 197) rfl)), (List.forall_mem_cons.mpr ⟨(tb_2 _ (List.mem_of_getElem? (i := 199) rfl)), (List.forall_mem_cons.mpr ⟨(tb_0 _ (List.mem_of_getElem? (i := 4) rfl)), (List.forall_mem_cons.mpr ⟨(tb_2 _ (List.mem_of_getElem? (i := 200) rfl)), (List.forall_mem_cons.mpr ⟨(tb_1 _ (List.mem_of_getElem? (i := 81) rfl)), (List.forall_mem_cons.mpr ⟨(tb_1 _ (List.mem_of_getElem? (i := 86) rfl)), (fun _ h => absurd h List.not_mem_nil)⟩)⟩)⟩)⟩)⟩)⟩)⟩)⟩)⟩)⟩)⟩)⟩)⟩)⟩)⟩)⟩)⟩)⟩)⟩)⟩)⟩)⟩)⟩)⟩)
set_option maxRecDepth 100000 in
theorem lwm_wsL_law0_r12 : ∀ w ∈ wsL_law0_r12, w ∈ lw_tbl := (List.forall_mem_cons.mpr ⟨(tb_1 _ (List.mem_of_getElem? (i := 90) rfl)), (List.forall_mem_cons.mpr ⟨(tb_1 _ (List.mem_of_getElem? (i := 93) rfl)), (List.forall_mem_cons.mpr ⟨(tb_1 _ (List.mem_of_getElem? (i := 96) rfl)), (List.forall_mem_cons.mpr ⟨(tb_1 _ (List.mem_of_getElem? (i := 100) rfl)), (List.forall_mem_cons.mpr ⟨(tb_2 _ (List.mem_of_getElem? (i := 201) rfl)), (List.forall_mem_cons.mpr ⟨(tb_2 _ (List.mem_of_getElem? (i := 202) rfl)), (List.forall_mem_cons.mpr ⟨(tb_2 _ (List.mem_of_getElem? (i := 203) rfl)), (List.forall_mem_cons.mpr ⟨(tb_2 _ (List.mem_of_getElem? (i := 204) rfl)), (List.forall_mem_cons.mpr ⟨(tb_1 _ (List.mem_of_getElem? (i := 62) rfl)), (List.forall_mem_cons.mpr ⟨(tb_2 _ (List.mem_of_getElem? (i := 205) rfl)), (List.forall_mem_cons.mpr ⟨(tb_2 _ (List.mem_of_getElem? (i := 206) rfl)), (List.forall_mem_cons.mpr ⟨(tb_2 _ (List.mem_of_getElem? (i := 207) rfl)), (List.forall_mem_cons.mpr ⟨(tb_2 _ (List.mem_of_getElem? (i := 208) rfl)), (List.forall_mem_cons.mpr ⟨(tb_2 _ (List.mem_of_getElem? (i := 209) rfl)), (List.forall_mem_cons.mpr ⟨(tb_2 _ (List.mem_of_getElem? (i := 210) rfl)), (List.forall_mem_cons.mpr ⟨(tb_2 _ (List.mem_of_getElem? (i := 211) rfl)), (List.forall_mem_cons.mpr ⟨(tb_2 _ (List.mem_of_getElem? (i := 212) rfl)), (List.forall_mem_cons.mpr ⟨(tb_1 _ (List.mem_of_getElem? (i := 39) rfl)), (List.forall_mem_cons.mpr ⟨(tb_1 _ (List.mem_of_getElem? (i := 145) rfl)), (List.forall_mem_cons.mpr ⟨(tb_2 _ (List.mem_of_getElem? (i := 213) rfl)), (List.forall_mem_cons.mpr ⟨(tb_2 _ (List.mem_of_getElem? (i := 215) rfl)), (List.forall_mem_cons.mpr ⟨(tb_0 _ (List.mem_of_getElem? (i := 5) rfl)), (List.forall_mem_cons.mpr ⟨(tb_2 _ (List.mem_of_getElem? (i := 216) rfl)), (List.forall_mem_cons.mpr ⟨(tb_2 _ (List.mem_of_getElem? (i := 217) rfl)), (fun _ h => absurd h List.not_mem_nil)⟩)⟩)⟩)⟩)⟩)⟩)⟩)⟩)⟩)⟩)⟩)⟩)⟩)⟩)⟩)⟩)⟩)⟩)⟩)⟩)⟩)⟩)⟩)⟩)
set_option maxRecDepth 100000 in
theorem lwm_wsL_law0_r13 : ∀ w ∈ wsL_law0_r13, w ∈ lw_tbl := (List.forall_mem_cons.mpr ⟨(tb_2 _ (List.mem_of_getElem? (i := 218) rfl)), (List.forall_mem_cons.mpr ⟨(tb_2 _ (List.mem_of_getElem? (i := 219) rfl)), (List.forall_mem_cons.mpr ⟨(tb_2 _ (List.mem_of_getElem? (i := 221) rfl)), (List.forall_mem_cons.mpr ⟨(tb_0 _ (List.mem_of_getElem? (i := 6) rfl)), (List.forall_mem_cons.mpr ⟨(tb_2 _ (List.mem_of_getElem? (i := 222) rfl)), (List.forall_mem_cons.mpr ⟨(tb_2 _ (List.mem_of_getElem? (i := 223) rfl)), (List.forall_mem_cons.mpr ⟨(tb_2 _ (List.mem_of_getElem? (i := 225) rfl)), (List.forall_mem_cons.mpr ⟨(tb_0 _ (List.mem_of_getElem? (i := 7) rfl)), (List.forall_mem_cons.mpr ⟨(tb_3 _ (List.mem_of_getElem? (i := 14) rfl)), (List.forall_mem_cons.mpr ⟨(tb_3 _ (List.mem_of_getElem? (i := 16) rfl)), (List.forall_mem_cons.mpr ⟨(tb_0 _ (List.mem_of_getElem? (i := 13) rfl)), (List.forall_mem_cons.mpr ⟨(tb_3 _ (List.mem_of_getElem? (i := 18) rfl)), (List.forall_mem_cons.mpr ⟨(tb_3 _ (List.mem_of_getElem? (i := 20) rfl)), (List.forall_mem_cons.mpr ⟨(tb_0 _ (List.mem_of_getElem? (i := 14) rfl)), (List.forall_mem_cons.mpr ⟨(tb_3 _ (List.mem_of_getElem? (i := 21) rfl)), (List.forall_mem_cons.mpr ⟨(tb_3 _ (List.mem_of_getElem? (i := 2) rfl)), (List.forall_mem_cons.mpr ⟨(tb_3 _ (List.mem_of_getElem? (i := 4) rfl)), (List.forall_mem_cons.mpr ⟨(tb_0 _ (List.mem_of_getElem? (i := 11) rfl)), (List.forall_mem_cons.mpr ⟨(tb_3 _ (List.mem_of_getElem? (i := 5) rfl)), (List.forall_mem_cons.mpr ⟨(tb_3 _ (List.mem_of_getElem? (i := 17) rfl)), (List.forall_mem_cons.mpr ⟨(tb_2 _ (List.mem_of_getElem? (i := 226) rfl)), (List.forall_mem_cons.mpr ⟨(tb_2 _ (List.mem_of_getElem? (i := 227) rfl)), (List.forall_mem_cons.mpr ⟨(tb_2 _ (List.mem_of_getElem? (i := 229) rfl)), (List.forall_mem_cons.mpr ⟨(tb_0 _ (List.mem_of_getElem? (i := 8) rfl)), (fun _ h => absurd h List.not_mem_nil)⟩)⟩)⟩)⟩)⟩)⟩)⟩)⟩)⟩)⟩)⟩)⟩)⟩)⟩)⟩)⟩)⟩)⟩)⟩)⟩)⟩)⟩)⟩)⟩)
set_option maxRecDepth 100000 in
theorem lwm_wsL_law0_r14 : ∀ w ∈ wsL_law0_r14, w ∈ lw_tbl := (List.forall_mem_cons.mpr ⟨(tb_2 _ (List.mem_of_getElem? (i := 230) rfl)), (List.forall_mem_cons.mpr ⟨(tb_2 _ (List.mem_of_getElem? (i := 231) rfl)), (List.forall_mem_cons.mpr ⟨(tb_2 _ (List.mem_of_getElem? (i := 233) rfl)), (List.forall_mem_cons.mpr ⟨(tb_0 _ (List.mem_of_getElem? (i := 9) rfl)), (List.forall_mem_cons.mpr ⟨(tb_2 _ (List.mem_of_getElem? (i := 238) rfl)), (List.forall_mem_cons.mpr ⟨(tb_2 _ (List.mem_of_getElem? (i := 239) rfl)), (List.forall_mem_cons.mpr ⟨(tb_3 _ (List.mem_of_getElem? (i := 0) rfl)), (List.forall_mem_cons.mpr ⟨(tb_3 _ (List.mem_of_getElem? (i := 1) rfl)), (List.forall_mem_cons.mpr ⟨(tb_3 _ (List.mem_of_getElem? (i := 6) rfl)), (List.forall_mem_cons.mpr ⟨(tb_2 _ (List.mem_of_getElem? (i := 234) rfl)), (List.forall_mem_cons.mpr ⟨(tb_2 _ (List.mem_of_getElem? (i := 235) rfl)), (List.forall_mem_cons.mpr ⟨(tb_2 _ (List.mem_of_getElem? (i := 237) rfl)), (List.forall_mem_cons.mpr ⟨(tb_0 _ (List.mem_of_getElem? (i := 10) rfl)), (List.forall_mem_cons.mpr ⟨(tb_3 _ (List.mem_of_getElem? (i := 7) rfl)), (List.forall_mem_cons.mpr ⟨(tb_3 _ (List.mem_of_getElem? (i := 9) rfl)), (List.forall_mem_cons.mpr ⟨(tb_0 _ (List.mem_of_getElem? (i := 12) rfl)), (List.forall_mem_cons.mpr ⟨(tb_3 _ (List.mem_of_getElem? (i := 10) rfl)), (List.forall_mem_cons.mpr ⟨(tb_3 _ (List.mem_of_getElem? (i := 11) rfl)), (List.forall_mem_cons.mpr ⟨(tb_3 _ (List.mem_of_getElem? (i := 12) rfl)), (List.forall_mem_cons.mpr ⟨(tb_3 _ (List.mem_of_getElem? (i := 13) rfl)), (List.forall_mem_cons.mpr ⟨(tb_6 _ (List.mem_of_getElem? (i := 61) rfl)), (List.forall_mem_cons.mpr ⟨(tb_6 _ (List.mem_of_getElem? (i := 62) rfl)), (List.forall_mem_cons.mpr ⟨(tb_6 _ (List.mem_of_getElem? (i := 63) rfl)), (List.forall_mem_cons.mpr ⟨(tb_6 _ (List.mem_of_getElem? (i := 64) rfl)), (fun _ h => absurd h List.not_mem_nil)⟩)⟩)⟩)⟩)⟩)⟩)⟩)⟩)⟩)⟩)⟩)⟩)⟩)⟩)⟩)⟩)⟩)⟩)⟩)⟩)⟩)⟩)⟩)⟩)
set_option maxRecDepth 100000 in
theorem lwm_wsL_law0_r15 : ∀ w ∈ wsL_law0_r15, w ∈ lw_tbl := (List.forall_mem_cons.mpr ⟨(tb_6 _ (List.mem_of_getElem? (i := 65) rfl)), (List.forall_mem_cons.mpr ⟨(tb_6 _ (List.mem_of_getElem? (i := 67) rfl)), (List.forall_mem_cons.mpr ⟨(tb_0 _ (List.mem_of_getElem? (i := 35) rfl)), (List.forall_mem_cons.mpr ⟨(tb_6 _ (List.mem_of_getElem? (i := 68) rfl)), (List.forall_mem_cons.mpr ⟨(tb_5 _ (List.mem_of_getElem? (i := 154) rfl)), (List.forall_mem_cons.mpr ⟨(tb_5 _ (List.mem_of_getElem? (i := 155) rfl)), (List.forall_mem_cons.mpr ⟨(tb_5 _ (List.mem_of_getElem? (i := 171) rfl)), (List.forall_mem_cons.mpr ⟨(tb_5 _ (List.mem_of_getElem? (i := 172) rfl)), (List.forall_mem_cons.mpr ⟨(tb_6 _ (List.mem_of_getElem? (i := 69) rfl)), (List.forall_mem_cons.mpr ⟨(tb_6 _ (List.mem_of_getElem? (i := 70) rfl)), (List.forall_mem_cons.mpr ⟨(tb_6 _ (List.mem_of_getElem? (i := 71) rfl)), (List.forall_mem_cons.mpr ⟨(tb_6 _ (List.mem_of_getElem? (i := 72) rfl)), (List.forall_mem_cons.mpr ⟨(tb_6 _ (List.mem_of_getElem? (i := 74) rfl)), (List.forall_mem_cons.mpr ⟨(tb_0 _ (List.mem_of_getElem? (i := 36) rfl)), (List.forall_mem_cons.mpr ⟨(tb_6 _ (List.mem_of_getElem? (i := 75) rfl)), (List.forall_mem_cons.mpr ⟨(tb_6 _ (List.mem_of_getElem? (i := 76) rfl)), (List.forall_mem_cons.mpr ⟨(tb_6 _ (List.mem_of_getElem? (i := 78) rfl)), (List.forall_mem_cons.mpr ⟨(tb_0 _ (List.mem_of_getElem? (i := 37) rfl)), (List.forall_mem_cons.mpr ⟨(tb_6 _ (List.mem_of_getElem? (i := 79) rfl)), (List.forall_mem_cons.mpr ⟨(tb_6 _ (List.mem_of_getElem? (i := 80) rfl)), (List.forall_mem_cons.mpr ⟨(tb_6 _ (List.mem_of_getElem? (i := 82) rfl)), (List.forall_mem_cons.mpr ⟨(tb_0 _ (List.mem_of_getElem? (i := 38) rfl)), (List.forall_mem_cons.mpr ⟨(tb_6 _ (List.mem_of_getElem? (i := 83) rfl)), (List.forall_mem_cons.mpr ⟨(tb_6 _ (List.mem_of_getElem? (i := 84) rfl)), (fun _ h => absurd h List.not_mem_nil)⟩)⟩)⟩)⟩)⟩)⟩)⟩)⟩)⟩)⟩)⟩)⟩)⟩)⟩)⟩)⟩)⟩)⟩)⟩)⟩)⟩)⟩)⟩)⟩)
set_option maxRecDepth 100000 in
theorem lwm_wsL_law0_r16 : ∀ w ∈ wsL_law0_r16, w ∈ lw_tbl := (List.forall_mem_cons.mpr ⟨(tb_6 _ (List.mem_of_getElem? (i := 85) rfl)), (List.forall_mem_cons.mpr ⟨(tb_6 _ (List.mem_of_getElem? (i := 86) rfl)), (List.forall_mem_cons.mpr ⟨(tb_6 _ (List.mem_of_getElem? (i := 87) rfl)), (List.forall_mem_cons.mpr ⟨(tb_6 _ (List.mem_of_getElem? (i := 88) rfl)), (List.forall_mem_cons.mpr ⟨(tb_6 _ (List.mem_of_getElem? (i := 89) rfl)), (List.forall_mem_cons.mpr ⟨(tb_6 _ (List.mem_of_getElem? (i := 90) rfl)), (List.forall_mem_cons.mpr ⟨(tb_6 _ (List.mem_of_getElem? (i := 91) rfl)), (List.forall_mem_cons.mpr ⟨(tb_6 _ (List.mem_of_getElem? (i := 92) rfl)), (List.forall_mem_cons.mpr ⟨(tb_6 _ (List.mem_of_getElem? (i := 93) rfl)), (List.forall_mem_cons.mpr ⟨(tb_6 _ (List.mem_of_getElem? (i := 95) rfl)), (List.forall_mem_cons.mpr ⟨(tb_0 _ (List.mem_of_getElem? (i := 39) rfl)), (List.forall_mem_cons.mpr ⟨(tb_6 _ (List.mem_of_getElem? (i := 96) rfl)), (List.forall_mem_cons.mpr ⟨(tb_6 _ (List.mem_of_getElem? (i := 97) rfl)), (List.forall_mem_cons.mpr ⟨(tb_6 _ (List.mem_of_getElem? (i := 98) rfl)), (List.forall_mem_cons.mpr ⟨(tb_6 _ (List.mem_of_getElem? (i := 99) rfl)), (List.forall_mem_cons.mpr ⟨(tb_6 _ (List.mem_of_getElem? (i := 100) rfl)), (List.forall_mem_cons.mpr ⟨(tb_6 _ (List.mem_of_getElem? (i := 102) rfl)), (List.forall_mem_cons.mpr ⟨(tb_0 _ (List.mem_of_getElem? (i := 40) rfl)), (List.forall_mem_cons.mpr ⟨(tb_6 _ (List.mem_of_getElem? (i := 103) rfl)), (List.forall_mem_cons.mpr ⟨(tb_6 _ (List.mem_of_getElem? (i := 104) rfl)), (List.forall_mem_cons.mpr ⟨(tb_6 _ (List.mem_of_getElem? (i := 105) rfl)), (List.forall_mem_cons.mpr ⟨(tb_6 _ (List.mem_of_getElem? (i := 106) rfl)), (List.forall_mem_cons.mpr ⟨(tb_6 _ (List.mem_of_getElem? (i := 107) rfl)), (List.forall_mem_cons.mpr ⟨(tb_6 _ (List.mem_of_getElem? (i := 109) rfl)), (fun _ h => absurd h List.not_mem_nil)⟩)⟩)⟩)⟩)⟩)⟩)⟩)⟩)⟩)⟩)⟩)⟩)⟩)⟩)⟩)⟩)⟩)⟩)⟩)⟩)⟩)⟩)⟩)⟩)
set_option maxRecDepth 100000 in
theorem lwm_wsL_law0_r17 : ∀ w ∈ wsL_law0_r17, w ∈ lw_tbl := (List.forall_mem_cons.mpr ⟨(tb_0 _ (List.mem_of_getElem? (i := 41) rfl)), (List.forall_mem_cons.mpr ⟨(tb_6 _ (List.mem_of_getElem? (i := 110) rfl)), (List.forall_mem_cons.mpr ⟨(tb_6 _ (List.mem_of_getElem? (i := 111) rfl)), (List.forall_mem_cons.mpr ⟨(tb_6 _ (List.mem_of_getElem? (i := 113) rfl)), (List.forall_mem_cons.mpr ⟨(tb_0 _ (List.mem_of_getElem? (i := 42) rfl)), (List.forall_mem_cons.mpr ⟨(tb_6 _ (List.mem_of_getElem? (i := 114) rfl)), (List.forall_mem_cons.mpr ⟨(tb_6 _ (List.mem_of_getElem? (i := 115) rfl)), (List.forall_mem_cons.mpr ⟨(tb_6 _ (List.mem_of_getElem? (i := 117) rfl)), (List.forall_mem_cons.mpr ⟨(tb_0 _ (List.mem_of_getElem? (i := 43) rfl)), (List.forall_mem_cons.mpr ⟨(tb_6 _ (List.mem_of_getElem? (i := 118) rfl)), (List.forall_mem_cons.mpr ⟨(tb_5 _ (List.mem_of_getElem? (i := 165) rfl)), (List.forall_mem_cons.mpr ⟨(tb_5 _ (List.mem_of_getElem? (i := 156) rfl)), (List.forall_mem_cons.mpr ⟨(tb_6 _ (List.mem_of_getElem? (i := 119) rfl)), (List.forall_mem_cons.mpr ⟨(tb_6 _ (List.mem_of_getElem? (i := 121) rfl)), (List.forall_mem_cons.mpr ⟨(tb_0 _ (List.mem_of_getElem? (i := 44) rfl)), (List.forall_mem_cons.mpr ⟨(tb_6 _ (List.mem_of_getElem? (i := 122) rfl)), (List.forall_mem_cons.mpr ⟨(tb_6 _ (List.mem_of_getElem? (i := 123) rfl)), (List.forall_mem_cons.mpr ⟨(tb_6 _ (List.mem_of_getElem? (i := 125) rfl)), (List.forall_mem_cons.mpr ⟨(tb_0 _ (List.mem_of_getElem? (i := 45) rfl)), (List.forall_mem_cons.mpr ⟨(tb_6 _ (List.mem_of_getElem? (i := 126) rfl)), (List.forall_mem_cons.mpr ⟨(tb_6 _ (List.mem_of_getElem? (i := 127) rfl)), (List.forall_mem_cons.mpr ⟨(tb_6 _ (List.mem_of_getElem? (i := 129) rfl)), (List.forall_mem_cons.mpr ⟨(tb_0 _ (List.mem_of_getElem? (i := 46) rfl)), (List.forall_mem_cons.mpr ⟨(tb_6 _ (List.mem_of_getElem? (i := 169) rfl)), (fun _ h => absurd h List.not_mem_nil)⟩)⟩)⟩)⟩)⟩)⟩)⟩)⟩)⟩)⟩)⟩)⟩)⟩)⟩)⟩)⟩)⟩)⟩)⟩)⟩)⟩)⟩)⟩)⟩)
set_option maxRecDepth 100000 in
theorem lwm_wsL_law0_r18 : ∀ w ∈ wsL_law0_r18, w ∈ lw_tbl := (List.forall_mem_cons.mpr ⟨(tb_6 _ (List.mem_of_getElem? (i := 171) rfl)), (List.forall_mem_cons.mpr ⟨(tb_0 _ (List.mem_of_getElem? (i := 55) rfl)), (List.forall_mem_cons.mpr ⟨(tb_6 _ (List.mem_of_getElem? (i := 173) rfl)), (List.forall_mem_cons.mpr ⟨(tb_6 _ (List.mem_of_getElem? (i := 175) rfl)), (List.forall_mem_cons.mpr ⟨(tb_0 _ (List.mem_of_getElem? (i := 56) rfl)), (List.forall_mem_cons.mpr ⟨(tb_6 _ (List.mem_of_getElem? (i := 172) rfl)), (List.forall_mem_cons.mpr ⟨(tb_6 _ (List.mem_of_getElem? (i := 135) rfl)), (List.forall_mem_cons.mpr ⟨(tb_6 _ (List.mem_of_getElem? (i := 137) rfl)), (List.forall_mem_cons.mpr ⟨(tb_0 _ (List.mem_of_getElem? (i := 48) rfl)), (List.forall_mem_cons.mpr ⟨(tb_6 _ (List.mem_of_getElem? (i := 138) rfl)), (List.forall_mem_cons.mpr ⟨(tb_6 _ (List.mem_of_getElem? (i := 176) rfl)), (List.forall_mem_cons.mpr ⟨(tb_6 _ (List.mem_of_getElem? (i := 130) rfl)), (List.forall_mem_cons.mpr ⟨(tb_6 _ (List.mem_of_getElem? (i := 131) rfl)), (List.forall_mem_cons.mpr ⟨(tb_6 _ (List.mem_of_getElem? (i := 133) rfl)), (List.forall_mem_cons.mpr ⟨(tb_0 _ (List.mem_of_getElem? (i := 47) rfl)), (List.forall_mem_cons.mpr ⟨(tb_6 _ (List.mem_of_getElem? (i := 134) rfl)), (List.forall_mem_cons.mpr ⟨(tb_6 _ (List.mem_of_getElem? (i := 139) rfl)), (List.forall_mem_cons.mpr ⟨(tb_6 _ (List.mem_of_getElem? (i := 141) rfl)), (List.forall_mem_cons.mpr ⟨(tb_0 _ (List.mem_of_getElem? (i := 49) rfl)), (List.forall_mem_cons.mpr ⟨(tb_6 _ (List.mem_of_getElem? (i := 142) rfl)), (List.forall_mem_cons.mpr ⟨(tb_6 _ (List.mem_of_getElem? (i := 143) rfl)), (List.forall_mem_cons.mpr ⟨(tb_6 _ (List.mem_of_getElem? (i := 145) rfl)), (List.forall_mem_cons.mpr ⟨(tb_0 _ (List.mem_of_getElem? (i := 50) rfl)), (List.forall_mem_cons.mpr ⟨(tb_6 _ (List.mem_of_getElem? (i := 146) rfl)), (fun _ h => absurd h List.not_mem_nil)⟩)⟩)⟩)⟩)⟩)⟩)⟩)⟩)⟩)⟩)⟩)⟩)⟩)⟩)⟩)⟩)⟩)⟩)⟩)⟩)⟩)⟩)⟩)⟩)
set_option maxRecDepth 100000 in
theorem lwm_wsL_law0_r19 : ∀ w ∈ wsL_law0_r19, w ∈ lw_tbl := (List.forall_mem_cons.mpr ⟨(tb_6 _ (List.mem_of_getElem? (i := 147) rfl)), (List.forall_mem_cons.mpr ⟨(tb_6 _ (List.mem_of_getElem? (i := 149) rfl)), (List.forall_mem_cons.mpr ⟨(tb_0 _ (List.mem_of_getElem? (i := 51) rfl)), (List.forall_mem_cons.mpr ⟨(tb_6 _ (List.mem_of_getElem? (i := 154) rfl)), (List.forall_mem_cons.mpr ⟨(tb_6 _ (List.mem_of_getElem? (i := 155) rfl)), (List.forall_mem_cons.mpr ⟨(tb_6 _ (List.mem_of_getElem? (i := 157) rfl)), (List.forall_mem_cons.mpr ⟨(tb_0 _ (List.mem_of_getElem? (i := 53) rfl)), (List.forall_mem_cons.mpr ⟨(tb_6 _ (List.mem_of_getElem? (i := 158) rfl)), (List.forall_mem_cons.mpr ⟨(tb_6 _ (List.mem_of_getElem? (i := 159) rfl)), (List.forall_mem_cons.mpr ⟨(tb_6 _ (List.mem_of_getElem? (i := 160) rfl)), (List.forall_mem_cons.mpr ⟨(tb_6 _ (List.mem_of_getElem? (i := 161) rfl)), (List.forall_mem_cons.mpr ⟨(tb_6 _ (List.mem_of_getElem? (i := 150) rfl)), (List.forall_mem_cons.mpr ⟨(tb_6 _ (List.mem_of_getElem? (i := 151) rfl)), (List.forall_mem_cons.mpr ⟨(tb_6 _ (List.mem_of_getElem? (i := 153) rfl)), (List.forall_mem_cons.mpr ⟨(tb_0 _ (List.mem_of_getElem? (i := 52) rfl)), (List.forall_mem_cons.mpr ⟨(tb_6 _ (List.mem_of_getElem? (i := 162) rfl)), (List.forall_mem_cons.mpr ⟨(tb_6 _ (List.mem_of_getElem? (i := 164) rfl)), (List.forall_mem_cons.mpr ⟨(tb_0 _ (List.mem_of_getElem? (i := 54) rfl)), (List.forall_mem_cons.mpr ⟨(tb_6 _ (List.mem_of_getElem? (i := 165) rfl)), (List.forall_mem_cons.mpr ⟨(tb_6 _ (List.mem_of_getElem? (i := 166) rfl)), (List.forall_mem_cons.mpr ⟨(tb_6 _ (List.mem_of_getElem? (i := 167) rfl)), (List.forall_mem_cons.mpr ⟨(tb_6 _ (List.mem_of_getElem? (i := 168) rfl)), (List.forall_mem_cons.mpr ⟨(tb_6 _ (List.mem_of_getElem? (i := 177) rfl)), (List.forall_mem_cons.mpr ⟨(tb_6 _ (List.mem_of_getElem? (i := 179) rfl)), (fun _ h => absurd h List.not_mem_nil)⟩)⟩)⟩)⟩)⟩)⟩)⟩)⟩)⟩)⟩)⟩)⟩)⟩)⟩)⟩)⟩)⟩)⟩)⟩)⟩)⟩)⟩)⟩)⟩)
set_option maxRecDepth 100000 in
theorem lwm_wsL_law0_r20 : ∀ w ∈ wsL_law0_r20, w ∈ lw_tbl := (List.forall_mem_cons.mpr ⟨(tb_0 _ (List.mem_of_getElem? (i := 57) rfl)), (List.forall_mem_cons.mpr ⟨(tb_6 _ (List.mem_of_getElem? (i := 180) rfl)), (List.forall_mem_cons.mpr ⟨(tb_3 _ (List.mem_of_getElem? (i := 22) rfl)), (List.forall_mem_cons.mpr ⟨(tb_3 _ (List.mem_of_getElem? (i := 23) rfl)), (List.forall_mem_cons.mpr ⟨(tb_3 _ (List.mem_of_getElem? (i := 24) rfl)), (List.forall_mem_cons.mpr ⟨(tb_3 _ (List.mem_of_getElem? (i := 25) rfl)), (List.forall_mem_cons.mpr ⟨(tb_3 _ (List.mem_of_getElem? (i := 26) rfl)), (List.forall_mem_cons.mpr ⟨(tb_3 _ (List.mem_of_getElem? (i := 28) rfl)), (List.forall_mem_cons.mpr ⟨(tb_0 _ (List.mem_of_getElem? (i := 15) rfl)), (List.forall_mem_cons.mpr ⟨(tb_3 _ (List.mem_of_getElem? (i := 29) rfl)), (List.forall_mem_cons.mpr ⟨(tb_1 _ (List.mem_of_getElem? (i := 124) rfl)), (List.forall_mem_cons.mpr ⟨(tb_1 _ (List.mem_of_getElem? (i := 239) rfl)), (List.forall_mem_cons.mpr ⟨(tb_1 _ (List.mem_of_getElem? (i := 65) rfl)), (List.forall_mem_cons.mpr ⟨(tb_3 _ (List.mem_of_getElem? (i := 30) rfl)), (List.forall_mem_cons.mpr ⟨(tb_3 _ (List.mem_of_getElem? (i := 31) rfl)), (List.forall_mem_cons.mpr ⟨(tb_3 _ (List.mem_of_getElem? (i := 32) rfl)), (List.forall_mem_cons.mpr ⟨(tb_3 _ (List.mem_of_getElem? (i := 33) rfl)), (List.forall_mem_cons.mpr ⟨(tb_1 _ (List.mem_of_getElem? (i := 67) rfl)), (List.forall_mem_cons.mpr ⟨(tb_1 _ (List.mem_of_getElem? (i := 71) rfl)), (List.forall_mem_cons.mpr ⟨(tb_1 _ (List.mem_of_getElem? (i := 75) rfl)), (List.forall_mem_cons.mpr ⟨(tb_3 _ (List.mem_of_getElem? (i := 34) rfl)), (List.forall_mem_cons.mpr ⟨(tb_3 _ (List.mem_of_getElem? (i := 35) rfl)), (List.forall_mem_cons.mpr ⟨(tb_3 _ (List.mem_of_getElem? (i := 36) rfl)), (List.forall_mem_cons.mpr ⟨(tb_3 _ (List.mem_of_getElem? (i := 37) rfl)), (fun _ h => absurd h List.not_mem_nil)⟩)⟩)⟩)⟩)⟩)⟩)⟩)⟩)⟩)⟩)⟩)⟩)⟩)⟩)⟩)⟩)⟩)⟩)⟩)⟩)⟩)⟩)⟩)⟩)
set_option maxRecDepth 100000 in
theorem lwm_wsL_law0_r21 : ∀ w ∈ wsL_law0_r21, w ∈ lw_tbl := (List.forall_mem_cons.mpr ⟨(tb_3 _ (List.mem_of_getElem? (i := 38) rfl)), (List.forall_mem_cons.mpr ⟨(tb_1 _ (List.mem_of_getElem? (i := 84) rfl)), (List.forall_mem_cons.mpr ⟨(tb_1 _ (List.mem_of_getElem? (i := 88) rfl)), (List.forall_mem_cons.mpr ⟨(tb_1 _ (List.mem_of_getElem? (i := 73) rfl)), (List.forall_mem_cons.mpr ⟨(tb_1 _ (List.mem_of_getElem? (i := 77) rfl)), (List.forall_mem_cons.mpr ⟨(tb_3 _ (List.mem_of_getElem? (i := 39) rfl)), (List.forall_mem_cons.mpr ⟨(tb_3 _ (List.mem_of_getElem? (i := 40) rfl)), (List.forall_mem_cons.mpr ⟨(tb_3 _ (List.mem_of_getElem? (i := 41) rfl)), (List.forall_mem_cons.mpr ⟨(tb_3 _ (List.mem_of_getElem? (i := 42) rfl)), (List.forall_mem_cons.mpr ⟨(tb_1 _ (List.mem_of_getElem? (i := 221) rfl)), (List.forall_mem_cons.mpr ⟨(tb_3 _ (List.mem_of_getElem? (i := 43) rfl)), (List.forall_mem_cons.mpr ⟨(tb_3 _ (List.mem_of_getElem? (i := 44) rfl)), (List.forall_mem_cons.mpr ⟨(tb_3 _ (List.mem_of_getElem? (i := 45) rfl)), (List.forall_mem_cons.mpr ⟨(tb_3 _ (List.mem_of_getElem? (i := 46) rfl)), (List.forall_mem_cons.mpr ⟨(tb_1 _ (List.mem_of_getElem? (i := 167) rfl)), (List.forall_mem_cons.mpr ⟨(tb_3 _ (List.mem_of_getElem? (i := 47) rfl)), (List.forall_mem_cons.mpr ⟨(tb_3 _ (List.mem_of_getElem? (i := 49) rfl)), (List.forall_mem_cons.mpr ⟨(tb_0 _ (List.mem_of_getElem? (i := 16) rfl)), (List.forall_mem_cons.mpr ⟨(tb_3 _ (List.mem_of_getElem? (i := 50) rfl)), (List.forall_mem_cons.mpr ⟨(tb_1 _ (List.mem_of_getElem? (i := 144) rfl)), (List.forall_mem_cons.mpr ⟨(tb_1 _ (List.mem_of_getElem? (i := 146) rfl)), (List.forall_mem_cons.mpr ⟨(tb_1 _ (List.mem_of_getElem? (i := 168) rfl)), (List.forall_mem_cons.mpr ⟨(tb_3 _ (List.mem_of_getElem? (i := 51) rfl)), (List.forall_mem_cons.mpr ⟨(tb_3 _ (List.mem_of_getElem? (i := 52) rfl)), (fun _ h => absurd h List.not_mem_nil)⟩)⟩)⟩)⟩)⟩)⟩)⟩)⟩)⟩)⟩)⟩)⟩)⟩)⟩)⟩)⟩)⟩)⟩)⟩)⟩)⟩)⟩)⟩)⟩)
set_option maxRecDepth 100000 in
theorem lwm_wsL_law0_r22 : ∀ w ∈ wsL_law0_r22, w ∈ lw_tbl := (List.forall_mem_cons.mpr ⟨(tb_3 _ (List.mem_of_getElem? (i := 53) rfl)), (List.forall_mem_cons.mpr ⟨(tb_3 _ (List.mem_of_getElem? (i := 54) rfl)), (List.forall_mem_cons.mpr ⟨(tb_3 _ (List.mem_of_getElem? (i := 56) rfl)), (List.forall_mem_cons.mpr ⟨(tb_3 _ (List.mem_of_getElem? (i := 55) rfl)), (List.forall_mem_cons.mpr ⟨(tb_6 _ (List.mem_of_getElem? (i := 181) rfl)), (List.forall_mem_cons.mpr ⟨(tb_6 _ (List.mem_of_getElem? (i := 182) rfl)), (List.forall_mem_cons.mpr ⟨(tb_6 _ (List.mem_of_getElem? (i := 183) rfl)), (List.forall_mem_cons.mpr ⟨(tb_6 _ (List.mem_of_getElem? (i := 184) rfl)), (List.forall_mem_cons.mpr ⟨(tb_5 _ (List.mem_of_getElem? (i := 164) rfl)), (List.forall_mem_cons.mpr ⟨(tb_6 _ (List.mem_of_getElem? (i := 185) rfl)), (List.forall_mem_cons.mpr ⟨(tb_6 _ (List.mem_of_getElem? (i := 187) rfl)), (List.forall_mem_cons.mpr ⟨(tb_0 _ (List.mem_of_getElem? (i := 58) rfl)), (List.forall_mem_cons.mpr ⟨(tb_6 _ (List.mem_of_getElem? (i := 188) rfl)), (List.forall_mem_cons.mpr ⟨(tb_5 _ (List.mem_of_getElem? (i := 176) rfl)), (List.forall_mem_cons.mpr ⟨(tb_5 _ (List.mem_of_getElem? (i := 177) rfl)), (List.forall_mem_cons.mpr ⟨(tb_5 _ (List.mem_of_getElem? (i := 194) rfl)), (List.forall_mem_cons.mpr ⟨(tb_5 _ (List.mem_of_getElem? (i := 183) rfl)), (List.forall_mem_cons.mpr ⟨(tb_5 _ (List.mem_of_getElem? (i := 196) rfl)), (List.forall_mem_cons.mpr ⟨(tb_6 _ (List.mem_of_getElem? (i := 189) rfl)), (List.forall_mem_cons.mpr ⟨(tb_6 _ (List.mem_of_getElem? (i := 191) rfl)), (List.forall_mem_cons.mpr ⟨(tb_0 _ (List.mem_of_getElem? (i := 59) rfl)), (List.forall_mem_cons.mpr ⟨(tb_6 _ (List.mem_of_getElem? (i := 192) rfl)), (List.forall_mem_cons.mpr ⟨(tb_3 _ (List.mem_of_getElem? (i := 57) rfl)), (List.forall_mem_cons.mpr ⟨(tb_3 _ (List.mem_of_getElem? (i := 58) rfl)), (fun _ h => absurd h List.not_mem_nil)⟩)⟩)⟩)⟩)⟩)⟩)⟩)⟩)⟩)⟩)⟩)⟩)⟩)⟩)⟩)⟩)⟩)⟩)⟩)⟩)⟩)⟩)⟩)⟩)
set_option maxRecDepth 100000 in
theorem lwm_wsL_law0_r23 : ∀ w ∈ wsL_law0_r23, w ∈ lw_tbl := (List.forall_mem_cons.mpr ⟨(tb_3 _ (List.mem_of_getElem? (i := 59) rfl)), (List.forall_mem_cons.mpr ⟨(tb_3 _ (List.mem_of_getElem? (i := 60) rfl)), (List.forall_mem_cons.mpr ⟨(tb_3 _ (List.mem_of_getElem? (i := 61) rfl)), (List.forall_mem_cons.mpr ⟨(tb_3 _ (List.mem_of_getElem? (i := 63) rfl)), (List.forall_mem_cons.mpr ⟨(tb_0 _ (List.mem_of_getElem? (i := 17) rfl)), (List.forall_mem_cons.mpr ⟨(tb_3 _ (List.mem_of_getElem? (i := 64) rfl)), (List.forall_mem_cons.mpr ⟨(tb_3 _ (List.mem_of_getElem? (i := 65) rfl)), (List.forall_mem_cons.mpr ⟨(tb_3 _ (List.mem_of_getElem? (i := 66) rfl)), (List.forall_mem_cons.mpr ⟨(tb_3 _ (List.mem_of_getElem? (i := 67) rfl)), (List.forall_mem_cons.mpr ⟨(tb_3 _ (List.mem_of_getElem? (i := 68) rfl)), (List.forall_mem_cons.mpr ⟨(tb_3 _ (List.mem_of_getElem? (i := 69) rfl)), (List.forall_mem_cons.mpr ⟨(tb_3 _ (List.mem_of_getElem? (i := 70) rfl)), (List.forall_mem_cons.mpr ⟨(tb_3 _ (List.mem_of_getElem? (i := 71) rfl)), (List.forall_mem_cons.mpr ⟨(tb_3 _ (List.mem_of_getElem? (i := 72) rfl)), (List.forall_mem_cons.mpr ⟨(tb_6 _ (List.mem_of_getElem? (i := 193) rfl)), (List.forall_mem_cons.mpr ⟨(tb_6 _ (List.mem_of_getElem? (i := 194) rfl)), (List.forall_mem_cons.mpr ⟨(tb_6 _ (List.mem_of_getElem? (i := 195) rfl)), (List.forall_mem_cons.mpr ⟨(tb_6 _ (List.mem_of_getElem? (i := 196) rfl)), (List.forall_mem_cons.mpr ⟨(tb_5 _ (List.mem_of_getElem? (i := 70) rfl)), (List.forall_mem_cons.mpr ⟨(tb_5 _ (List.mem_of_getElem? (i := 71) rfl)), (List.forall_mem_cons.mpr ⟨(tb_1 _ (List.mem_of_getElem? (i := 0) rfl)), (List.forall_mem_cons.mpr ⟨(tb_5 _ (List.mem_of_getElem? (i := 72) rfl)), (List.forall_mem_cons.mpr ⟨(tb_5 _ (List.mem_of_getElem? (i := 73) rfl)), (List.forall_mem_cons.mpr ⟨(tb_5 _ (List.mem_of_getElem? (i := 74) rfl)), (fun _ h => absurd h List.not_mem_nil)⟩)⟩)⟩)⟩)⟩)⟩)⟩)⟩)⟩)⟩)⟩)⟩)⟩)⟩)⟩)⟩)⟩)⟩)⟩)⟩)⟩)⟩)⟩)⟩)
set_option maxRecDepth 100000 in
theorem lwm_wsL_law0_r24 : ∀ w ∈ wsL_law0_r24, w ∈ lw_tbl := (List.forall_mem_cons.mpr ⟨(tb_5 _ (List.mem_of_getElem? (i := 75) rfl)), (List.forall_mem_cons.mpr ⟨(tb_5 _ (List.mem_of_getElem? (i := 76) rfl)), (List.forall_mem_cons.mpr ⟨(tb_5 _ (List.mem_of_getElem? (i := 77) rfl)), (List.forall_mem_cons.mpr ⟨(tb_5 _ (List.mem_of_getElem? (i := 78) rfl)), (List.forall_mem_cons.mpr ⟨(tb_1 _ (List.mem_of_getElem? (i := 18) rfl)), (List.forall_mem_cons.mpr ⟨(tb_1 _ (List.mem_of_getElem? (i := 80) rfl)), (List.forall_mem_cons.mpr ⟨(tb_1 _ (List.mem_of_getElem? (i := 92) rfl)), (List.forall_mem_cons.mpr ⟨(tb_3 _ (List.mem_of_getElem? (i := 112) rfl)), (List.forall_mem_cons.mpr ⟨(tb_3 _ (List.mem_of_getElem? (i := 94) rfl)), (List.forall_mem_cons.mpr ⟨(tb_3 _ (List.mem_of_getElem? (i := 95) rfl)), (List.forall_mem_cons.mpr ⟨(tb_3 _ (List.mem_of_getElem? (i := 96) rfl)), (List.forall_mem_cons.mpr ⟨(tb_3 _ (List.mem_of_getElem? (i := 200) rfl)), (List.forall_mem_cons.mpr ⟨(tb_3 _ (List.mem_of_getElem? (i := 152) rfl)), (List.forall_mem_cons.mpr ⟨(tb_3 _ (List.mem_of_getElem? (i := 153) rfl)), (List.forall_mem_cons.mpr ⟨(tb_3 _ (List.mem_of_getElem? (i := 154) rfl)), (List.forall_mem_cons.mpr ⟨(tb_3 _ (List.mem_of_getElem? (i := 209) rfl)), (List.forall_mem_cons.mpr ⟨(tb_3 _ (List.mem_of_getElem? (i := 156) rfl)), (List.forall_mem_cons.mpr ⟨(tb_3 _ (List.mem_of_getElem? (i := 157) rfl)), (List.forall_mem_cons.mpr ⟨(tb_3 _ (List.mem_of_getElem? (i := 158) rfl)), (List.forall_mem_cons.mpr ⟨(tb_3 _ (List.mem_of_getElem? (i := 117) rfl)), (List.forall_mem_cons.mpr ⟨(tb_3 _ (List.mem_of_getElem? (i := 118) rfl)), (List.forall_mem_cons.mpr ⟨(tb_3 _ (List.mem_of_getElem? (i := 119) rfl)), (List.forall_mem_cons.mpr ⟨(tb_3 _ (List.mem_of_getElem? (i := 120) rfl)), (List.forall_mem_cons.mpr ⟨(tb_5 _ (List.mem_of_getElem? (i := 144) rfl)), (fun _ h => absurd h List.not_mem_nil)⟩)⟩)⟩)⟩)⟩)⟩)⟩)⟩)⟩)⟩)⟩)⟩)⟩)⟩)⟩)⟩)⟩)⟩)⟩)⟩)⟩)⟩)⟩)⟩)
set_option maxRecDepth 100000 in
theorem lwm_wsL_law0_r25 : ∀ w ∈ wsL_law0_r25, w ∈ lw_tbl := (List.forall_mem_cons.mpr ⟨(tb_3 _ (List.mem_of_getElem? (i := 188) rfl)), (List.forall_mem_cons.mpr ⟨(tb_3 _ (List.mem_of_getElem? (i := 189) rfl)), (List.forall_mem_cons.mpr ⟨(tb_3 _ (List.mem_of_getElem? (i := 190) rfl)), (List.forall_mem_cons.mpr ⟨(tb_6 _ (List.mem_of_getElem? (i := 197) rfl)), (List.forall_mem_cons.mpr ⟨(tb_6 _ (List.mem_of_getElem? (i := 198) rfl)), (List.forall_mem_cons.mpr ⟨(tb_6 _ (List.mem_of_getElem? (i := 199) rfl)), (List.forall_mem_cons.mpr ⟨(tb_6 _ (List.mem_of_getElem? (i := 200) rfl)), (List.forall_mem_cons.mpr ⟨(tb_5 _ (List.mem_of_getElem? (i := 151) rfl)), (List.forall_mem_cons.mpr ⟨(tb_6 _ (List.mem_of_getElem? (i := 201) rfl)), (List.forall_mem_cons.mpr ⟨(tb_6 _ (List.mem_of_getElem? (i := 203) rfl)), (List.forall_mem_cons.mpr ⟨(tb_0 _ (List.mem_of_getElem? (i := 60) rfl)), (List.forall_mem_cons.mpr ⟨(tb_6 _ (List.mem_of_getElem? (i := 204) rfl)), (List.forall_mem_cons.mpr ⟨(tb_6 _ (List.mem_of_getElem? (i := 205) rfl)), (List.forall_mem_cons.mpr ⟨(tb_6 _ (List.mem_of_getElem? (i := 207) rfl)), (List.forall_mem_cons.mpr ⟨(tb_0 _ (List.mem_of_getElem? (i := 61) rfl)), (List.forall_mem_cons.mpr ⟨(tb_6 _ (List.mem_of_getElem? (i := 208) rfl)), (List.forall_mem_cons.mpr ⟨(tb_3 _ (List.mem_of_getElem? (i := 73) rfl)), (List.forall_mem_cons.mpr ⟨(tb_3 _ (List.mem_of_getElem? (i := 74) rfl)), (List.forall_mem_cons.mpr ⟨(tb_3 _ (List.mem_of_getElem? (i := 75) rfl)), (List.forall_mem_cons.mpr ⟨(tb_3 _ (List.mem_of_getElem? (i := 76) rfl)), (List.forall_mem_cons.mpr ⟨(tb_1 _ (List.mem_of_getElem? (i := 95) rfl)), (List.forall_mem_cons.mpr ⟨(tb_1 _ (List.mem_of_getElem? (i := 99) rfl)), (List.forall_mem_cons.mpr ⟨(tb_3 _ (List.mem_of_getElem? (i := 77) rfl)), (List.forall_mem_cons.mpr ⟨(tb_3 _ (List.mem_of_getElem? (i := 78) rfl)), (fun _ h => absurd h List.not_mem_nil)⟩)⟩)⟩)⟩)⟩)⟩)⟩)⟩)⟩)⟩)⟩)⟩)⟩)⟩)⟩)⟩)⟩)⟩)⟩)⟩)⟩)⟩)⟩)⟩)
set_option maxRecDepth 100000 in
theorem lwm_wsL_law0_r26 : ∀ w ∈ wsL_law0_r26, w ∈ lw_tbl := (List.forall_mem_cons.mpr ⟨(tb_3 _ (List.mem_of_getElem? (i := 79) rfl)), (List.forall_mem_cons.mpr ⟨(tb_3 _ (List.mem_of_getElem? (i := 80) rfl)), (List.forall_mem_cons.mpr ⟨(tb_3 _ (List.mem_of_getElem? (i := 81) rfl)), (List.forall_mem_cons.mpr ⟨(tb_3 _ (List.mem_of_getElem? (i := 82) rfl)), (List.forall_mem_cons.mpr ⟨(tb_3 _ (List.mem_of_getElem? (i := 83) rfl)), (List.forall_mem_cons.mpr ⟨(tb_3 _ (List.mem_of_getElem? (i := 84) rfl)), (List.forall_mem_cons.mpr ⟨(tb_6 _ (List.mem_of_getElem? (i := 209) rfl)), (List.forall_mem_cons.mpr ⟨(tb_6 _ (List.mem_of_getElem? (i := 210) rfl)), (List.forall_mem_cons.mpr ⟨(tb_6 _ (List.mem_of_getElem? (i := 211) rfl)), (List.forall_mem_cons.mpr ⟨(tb_6 _ (List.mem_of_getElem? (i := 212) rfl)), (List.forall_mem_cons.mpr ⟨(tb_6 _ (List.mem_of_getElem? (i := 213) rfl)), (List.forall_mem_cons.mpr ⟨(tb_6 _ (List.mem_of_getElem? (i := 215) rfl)), (List.forall_mem_cons.mpr ⟨(tb_0 _ (List.mem_of_getElem? (i := 62) rfl)), (List.forall_mem_cons.mpr ⟨(tb_6 _ (List.mem_of_getElem? (i := 216) rfl)), (List.forall_mem_cons.mpr ⟨(tb_3 _ (List.mem_of_getElem? (i := 85) rfl)), (List.forall_mem_cons.mpr ⟨(tb_3 _ (List.mem_of_getElem? (i := 86) rfl)), (List.forall_mem_cons.mpr ⟨(tb_3 _ (List.mem_of_getElem? (i := 87) rfl)), (List.forall_mem_cons.mpr ⟨(tb_3 _ (List.mem_of_getElem? (i := 88) rfl)), (List.forall_mem_cons.mpr ⟨(tb_3 _ (List.mem_of_getElem? (i := 89) rfl)), (List.forall_mem_cons.mpr ⟨(tb_3 _ (List.mem_of_getElem? (i := 90) rfl)), (List.forall_mem_cons.mpr ⟨(tb_3 _ (List.mem_of_getElem? (i := 91) rfl)), (List.forall_mem_cons.mpr ⟨(tb_3 _ (List.mem_of_getElem? (i := 92) rfl)), (List.forall_mem_cons.mpr ⟨(tb_3 _ (List.mem_of_getElem? (i := 93) rfl)), (List.forall_mem_cons.mpr ⟨(tb_3 _ (List.mem_of_getElem? (i := 97) rfl)), (fun _ h => absurd h List.not_mem_nil)⟩)⟩)⟩)⟩)⟩)⟩)⟩)⟩)⟩)⟩)⟩)⟩)⟩)⟩)⟩)⟩)⟩)⟩)⟩)⟩)⟩)⟩)⟩)⟩)
set_option maxRecDepth 100000 in
theorem lwm_wsL_law0_r27 : ∀ w ∈ wsL_law0_r27, w ∈ lw_tbl := (List.forall_mem_cons.mpr ⟨(tb_3 _ (List.mem_of_getElem? (i := 98) rfl)), (List.forall_mem_cons.mpr ⟨(tb_3 _ (List.mem_of_getElem? (i := 99) rfl)), (List.forall_mem_cons.mpr ⟨(tb_3 _ (List.mem_of_getElem? (i := 100) rfl)), (List.forall_mem_cons.mpr ⟨(tb_3 _ (List.mem_of_getElem? (i := 101) rfl)), (List.forall_mem_cons.mpr ⟨(tb_3 _ (List.mem_of_getElem? (i := 102) rfl)), (List.forall_mem_cons.mpr ⟨(tb_3 _ (List.mem_of_getElem? (i := 103) rfl)), (List.forall_mem_cons.mpr ⟨(tb_6 _ (List.mem_of_getElem? (i := 217) rfl)), (List.forall_mem_cons.mpr ⟨(tb_6 _ (List.mem_of_getElem? (i := 218) rfl)), (List.forall_mem_cons.mpr ⟨(tb_6 _ (List.mem_of_getElem? (i := 219) rfl)), (List.forall_mem_cons.mpr ⟨(tb_6 _ (List.mem_of_getElem? (i := 220) rfl)), (List.forall_mem_cons.mpr ⟨(tb_6 _ (List.mem_of_getElem? (i := 221) rfl)), (List.forall_mem_cons.mpr ⟨(tb_6 _ (List.mem_of_getElem? (i := 223) rfl)), (List.forall_mem_cons.mpr ⟨(tb_0 _ (List.mem_of_getElem? (i := 63) rfl)), (List.forall_mem_cons.mpr ⟨(tb_6 _ (List.mem_of_getElem? (i := 224) rfl)), (List.forall_mem_cons.mpr ⟨(tb_6 _ (List.mem_of_getElem? (i := 225) rfl)), (List.forall_mem_cons.mpr ⟨(tb_6 _ (List.mem_of_getElem? (i := 226) rfl)), (List.forall_mem_cons.mpr ⟨(tb_6 _ (List.mem_of_getElem? (i := 227) rfl)), (List.forall_mem_cons.mpr ⟨(tb_6 _ (List.mem_of_getElem? (i := 228) rfl)), (List.forall_mem_cons.mpr ⟨(tb_3 _ (List.mem_of_getElem? (i := 127) rfl)), (List.forall_mem_cons.mpr ⟨(tb_1 _ (List.mem_of_getElem? (i := 19) rfl)), (List.forall_mem_cons.mpr ⟨(tb_3 _ (List.mem_of_getElem? (i := 128) rfl)), (List.forall_mem_cons.mpr ⟨(tb_6 _ (List.mem_of_getElem? (i := 229) rfl)), (List.forall_mem_cons.mpr ⟨(tb_3 _ (List.mem_of_getElem? (i := 184) rfl)), (List.forall_mem_cons.mpr ⟨(tb_3 _ (List.mem_of_getElem? (i := 185) rfl)), (fun _ h => absurd h List.not_mem_nil)⟩)⟩)⟩)⟩)⟩)⟩)⟩)⟩)⟩)⟩)⟩)⟩)⟩)⟩)⟩)⟩)⟩)⟩)⟩)⟩)⟩)⟩)⟩)⟩)
set_option maxRecDepth 100000 in
theorem lwm_wsL_law0_r28 : ∀ w ∈ wsL_law0_r28, w ∈ lw_tbl := (List.forall_mem_cons.mpr ⟨(tb_3 _ (List.mem_of_getElem? (i := 104) rfl)), (List.forall_mem_cons.mpr ⟨(tb_3 _ (List.mem_of_getElem? (i := 105) rfl)), (List.forall_mem_cons.mpr ⟨(tb_3 _ (List.mem_of_getElem? (i := 106) rfl)), (List.forall_mem_cons.mpr ⟨(tb_3 _ (List.mem_of_getElem? (i := 107) rfl)), (List.forall_mem_cons.mpr ⟨(tb_1 _ (List.mem_of_getElem? (i := 170) rfl)), (List.forall_mem_cons.mpr ⟨(tb_6 _ (List.mem_of_getElem? (i := 230) rfl)), (List.forall_mem_cons.mpr ⟨(tb_6 _ (List.mem_of_getElem? (i := 231) rfl)), (List.forall_mem_cons.mpr ⟨(tb_6 _ (List.mem_of_getElem? (i := 232) rfl)), (List.forall_mem_cons.mpr ⟨(tb_6 _ (List.mem_of_getElem? (i := 233) rfl)), (List.forall_mem_cons.mpr ⟨(tb_3 _ (List.mem_of_getElem? (i := 108) rfl)), (List.forall_mem_cons.mpr ⟨(tb_3 _ (List.mem_of_getElem? (i := 109) rfl)), (List.forall_mem_cons.mpr ⟨(tb_3 _ (List.mem_of_getElem? (i := 110) rfl)), (List.forall_mem_cons.mpr ⟨(tb_3 _ (List.mem_of_getElem? (i := 111) rfl)), (List.forall_mem_cons.mpr ⟨(tb_3 _ (List.mem_of_getElem? (i := 113) rfl)), (List.forall_mem_cons.mpr ⟨(tb_3 _ (List.mem_of_getElem? (i := 115) rfl)), (List.forall_mem_cons.mpr ⟨(tb_0 _ (List.mem_of_getElem? (i := 18) rfl)), (List.forall_mem_cons.mpr ⟨(tb_3 _ (List.mem_of_getElem? (i := 116) rfl)), (List.forall_mem_cons.mpr ⟨(tb_3 _ (List.mem_of_getElem? (i := 121) rfl)), (List.forall_mem_cons.mpr ⟨(tb_3 _ (List.mem_of_getElem? (i := 122) rfl)), (List.forall_mem_cons.mpr ⟨(tb_3 _ (List.mem_of_getElem? (i := 123) rfl)), (List.forall_mem_cons.mpr ⟨(tb_3 _ (List.mem_of_getElem? (i := 124) rfl)), (List.forall_mem_cons.mpr ⟨(tb_1 _ (List.mem_of_getElem? (i := 195) rfl)), (List.forall_mem_cons.mpr ⟨(tb_1 _ (List.mem_of_getElem? (i := 223) rfl)), (List.forall_mem_cons.mpr ⟨(tb_3 _ (List.mem_of_getElem? (i := 125) rfl)), (fun _ h => absurd h List.not_mem_nil)⟩)⟩)⟩)⟩)⟩)⟩)⟩)⟩)⟩)⟩)⟩)⟩)⟩)⟩)⟩)⟩)⟩)⟩)⟩)⟩)⟩)⟩)⟩)⟩)
set_option maxRecDepth 100000 in
theorem lwm_wsL_law0_r29 : ∀ w ∈ wsL_law0_r29, w ∈ lw_tbl := (List.forall_mem_cons.mpr ⟨(tb_3 _ (List.mem_of_getElem? (i := 126) rfl)), (List.forall_mem_cons.mpr ⟨(tb_3 _ (List.mem_of_getElem? (i := 129) rfl)), (List.forall_mem_cons.mpr ⟨(tb_3 _ (List.mem_of_getElem? (i := 130) rfl)), (List.forall_mem_cons.mpr ⟨(tb_3 _ (List.mem_of_getElem? (i := 131) rfl)), (List.forall_mem_cons.mpr ⟨(tb_3 _ (List.mem_of_getElem? (i := 132) rfl)), (List.forall_mem_cons.mpr ⟨(tb_3 _ (List.mem_of_getElem? (i := 133) rfl)), (List.forall_mem_cons.mpr ⟨(tb_3 _ (List.mem_of_getElem? (i := 134) rfl)), (List.forall_mem_cons.mpr ⟨(tb_3 _ (List.mem_of_getElem? (i := 135) rfl)), (List.forall_mem_cons.mpr ⟨(tb_3 _ (List.mem_of_getElem? (i := 136) rfl)), (List.forall_mem_cons.mpr ⟨(tb_3 _ (List.mem_of_getElem? (i := 137) rfl)), (List.forall_mem_cons.mpr ⟨(tb_3 _ (List.mem_of_getElem? (i := 138) rfl)), (List.forall_mem_cons.mpr ⟨(tb_3 _ (List.mem_of_getElem? (i := 139) rfl)), (List.forall_mem_cons.mpr ⟨(tb_3 _ (List.mem_of_getElem? (i := 140) rfl)), (List.forall_mem_cons.mpr ⟨(tb_3 _ (List.mem_of_getElem? (i := 141) rfl)), (List.forall_mem_cons.mpr ⟨(tb_3 _ (List.mem_of_getElem? (i := 146) rfl)), (List.forall_mem_cons.mpr ⟨(tb_3 _ (List.mem_of_getElem? (i := 186) rfl)), (List.forall_mem_cons.mpr ⟨(tb_3 _ (List.mem_of_getElem? (i := 142) rfl)), (List.forall_mem_cons.mpr ⟨(tb_3 _ (List.mem_of_getElem? (i := 143) rfl)), (List.forall_mem_cons.mpr ⟨(tb_3 _ (List.mem_of_getElem? (i := 144) rfl)), (List.forall_mem_cons.mpr ⟨(tb_3 _ (List.mem_of_getElem? (i := 145) rfl)), (List.forall_mem_cons.mpr ⟨(tb_3 _ (List.mem_of_getElem? (i := 147) rfl)), (List.forall_mem_cons.mpr ⟨(tb_3 _ (List.mem_of_getElem? (i := 149) rfl)), (List.forall_mem_cons.mpr ⟨(tb_0 _ (List.mem_of_getElem? (i := 19) rfl)), (List.forall_mem_cons.mpr ⟨(tb_3 _ (List.mem_of_getElem? (i := 150) rfl)), (fun _ h => absurd h List.not_mem_nil)⟩)⟩)⟩)⟩)⟩)⟩)⟩)⟩)⟩)⟩)⟩)⟩)⟩)⟩)⟩)⟩)⟩)⟩)⟩)⟩)⟩)⟩)⟩)⟩)
set_option maxRecDepth 100000 in
theorem lwm_wsL_law0_r30 : ∀ w ∈ wsL_law0_r30, w ∈ lw_tbl := (List.forall_mem_cons.mpr ⟨(tb_3 _ (List.mem_of_getElem? (i := 151) rfl)), (List.forall_mem_cons.mpr ⟨(tb_3 _ (List.mem_of_getElem? (i := 155) rfl)), (List.forall_mem_cons.mpr ⟨(tb_3 _ (List.mem_of_getElem? (i := 159) rfl)), (List.forall_mem_cons.mpr ⟨(tb_3 _ (List.mem_of_getElem? (i := 160) rfl)), (List.forall_mem_cons.mpr ⟨(tb_3 _ (List.mem_of_getElem? (i := 161) rfl)), (List.forall_mem_cons.mpr ⟨(tb_3 _ (List.mem_of_getElem? (i := 162) rfl)), (List.forall_mem_cons.mpr ⟨(tb_3 _ (List.mem_of_getElem? (i := 163) rfl)), (List.forall_mem_cons.mpr ⟨(tb_3 _ (List.mem_of_getElem? (i := 164) rfl)), (List.forall_mem_cons.mpr ⟨(tb_3 _ (List.mem_of_getElem? (i := 165) rfl)), (List.forall_mem_cons.mpr ⟨(tb_3 _ (List.mem_of_getElem? (i := 166) rfl)), (List.forall_mem_cons.mpr ⟨(tb_3 _ (List.mem_of_getElem? (i := 167) rfl)), (List.forall_mem_cons.mpr ⟨(tb_3 _ (List.mem_of_getElem? (i := 182) rfl)), (List.forall_mem_cons.mpr ⟨(tb_3 _ (List.mem_of_getElem? (i := 183) rfl)), (List.forall_mem_cons.mpr ⟨(tb_3 _ (List.mem_of_getElem? (i := 168) rfl)), (List.forall_mem_cons.mpr ⟨(tb_3 _ (List.mem_of_getElem? (i := 170) rfl)), (List.forall_mem_cons.mpr ⟨(tb_0 _ (List.mem_of_getElem? (i := 20) rfl)), (List.forall_mem_cons.mpr ⟨(tb_3 _ (List.mem_of_getElem? (i := 171) rfl)), (List.forall_mem_cons.mpr ⟨(tb_3 _ (List.mem_of_getElem? (i := 172) rfl)), (List.forall_mem_cons.mpr ⟨(tb_3 _ (List.mem_of_getElem? (i := 173) rfl)), (List.forall_mem_cons.mpr ⟨(tb_3 _ (List.mem_of_getElem? (i := 174) rfl)), (List.forall_mem_cons.mpr ⟨(tb_3 _ (List.mem_of_getElem? (i := 175) rfl)), (List.forall_mem_cons.mpr ⟨(tb_3 _ (List.mem_of_getElem? (i := 176) rfl)), (List.forall_mem_cons.mpr ⟨(tb_3 _ (List.mem_of_getElem? (i := 177) rfl)), (List.forall_mem_cons.mpr ⟨(tb_3 _ (List.mem_of_getElem? (i := 178) rfl)), (fun _ h => absurd h List.not_mem_nil)⟩)⟩)⟩)⟩)⟩)⟩)⟩)⟩)⟩)⟩)⟩)⟩)⟩)⟩)⟩)⟩)⟩)⟩)⟩)⟩)⟩)⟩)⟩)⟩)
set_option maxRecDepth 100000 in
theorem lwm_wsL_law0_r31 : ∀ w ∈ wsL_law0_r31, w ∈ lw_tbl := (List.forall_mem_cons.mpr ⟨(tb_3 _ (List.mem_of_getElem? (i := 179) rfl)), (List.forall_mem_cons.mpr ⟨(tb_3 _ (List.mem_of_getElem? (i := 180) rfl)), (List.forall_mem_cons.mpr ⟨(tb_3 _ (List.mem_of_getElem? (i := 181) rfl)), (List.forall_mem_cons.mpr ⟨(tb_3 _ (List.mem_of_getElem? (i := 187) rfl)), (List.forall_mem_cons.mpr ⟨(tb_3 _ (List.mem_of_getElem? (i := 191) rfl)), (List.forall_mem_cons.mpr ⟨(tb_3 _ (List.mem_of_getElem? (i := 193) rfl)), (List.forall_mem_cons.mpr ⟨(tb_0 _ (List.mem_of_getElem? (i := 21) rfl)), (List.forall_mem_cons.mpr ⟨(tb_3 _ (List.mem_of_getElem? (i := 194) rfl)), (List.forall_mem_cons.mpr ⟨(tb_1 _ (List.mem_of_getElem? (i := 69) rfl)), (List.forall_mem_cons.mpr ⟨(tb_1 _ (List.mem_of_getElem? (i := 101) rfl)), (List.forall_mem_cons.mpr ⟨(tb_3 _ (List.mem_of_getElem? (i := 195) rfl)), (List.forall_mem_cons.mpr ⟨(tb_6 _ (List.mem_of_getElem? (i := 234) rfl)), (List.forall_mem_cons.mpr ⟨(tb_6 _ (List.mem_of_getElem? (i := 235) rfl)), (List.forall_mem_cons.mpr ⟨(tb_6 _ (List.mem_of_getElem? (i := 236) rfl)), (List.forall_mem_cons.mpr ⟨(tb_6 _ (List.mem_of_getElem? (i := 237) rfl)), (List.forall_mem_cons.mpr ⟨(tb_6 _ (List.mem_of_getElem? (i := 238) rfl)), (List.forall_mem_cons.mpr ⟨(tb_7 _ (List.mem_of_getElem? (i := 0) rfl)), (List.forall_mem_cons.mpr ⟨(tb_0 _ (List.mem_of_getElem? (i := 64) rfl)), (List.forall_mem_cons.mpr ⟨(tb_7 _ (List.mem_of_getElem? (i := 1) rfl)), (List.forall_mem_cons.mpr ⟨(tb_7 _ (List.mem_of_getElem? (i := 2) rfl)), (List.forall_mem_cons.mpr ⟨(tb_7 _ (List.mem_of_getElem? (i := 4) rfl)), (List.forall_mem_cons.mpr ⟨(tb_0 _ (List.mem_of_getElem? (i := 65) rfl)), (List.forall_mem_cons.mpr ⟨(tb_7 _ (List.mem_of_getElem? (i := 5) rfl)), (List.forall_mem_cons.mpr ⟨(tb_7 _ (List.mem_of_getElem? (i := 6) rfl)), (fun _ h => absurd h List.not_mem_nil)⟩)⟩)⟩)⟩)⟩)⟩)⟩)⟩)⟩)⟩)⟩)⟩)⟩)⟩)⟩)⟩)⟩)⟩)⟩)⟩)⟩)⟩)⟩)⟩)
set_option maxRecDepth 100000 in
theorem lwm_wsL_law0_r32 : ∀ w ∈ wsL_law0_r32, w ∈ lw_tbl := (List.forall_mem_cons.mpr ⟨(tb_7 _ (List.mem_of_getElem? (i := 8) rfl)), (List.forall_mem_cons.mpr ⟨(tb_0 _ (List.mem_of_getElem? (i := 66) rfl)), (List.forall_mem_cons.mpr ⟨(tb_7 _ (List.mem_of_getElem? (i := 9) rfl)), (List.forall_mem_cons.mpr ⟨(tb_7 _ (List.mem_of_getElem? (i := 10) rfl)), (List.forall_mem_cons.mpr ⟨(tb_7 _ (List.mem_of_getElem? (i := 12) rfl)), (List.forall_mem_cons.mpr ⟨(tb_0 _ (List.mem_of_getElem? (i := 67) rfl)), (List.forall_mem_cons.mpr ⟨(tb_7 _ (List.mem_of_getElem? (i := 13) rfl)), (List.forall_mem_cons.mpr ⟨(tb_7 _ (List.mem_of_getElem? (i := 14) rfl)), (List.forall_mem_cons.mpr ⟨(tb_7 _ (List.mem_of_getElem? (i := 16) rfl)), (List.forall_mem_cons.mpr ⟨(tb_0 _ (List.mem_of_getElem? (i := 68) rfl)), (List.forall_mem_cons.mpr ⟨(tb_7 _ (List.mem_of_getElem? (i := 17) rfl)), (List.forall_mem_cons.mpr ⟨(tb_7 _ (List.mem_of_getElem? (i := 18) rfl)), (List.forall_mem_cons.mpr ⟨(tb_7 _ (List.mem_of_getElem? (i := 20) rfl)), (List.forall_mem_cons.mpr ⟨(tb_0 _ (List.mem_of_getElem? (i := 69) rfl)), (List.forall_mem_cons.mpr ⟨(tb_7 _ (List.mem_of_getElem? (i := 21) rfl)), (List.forall_mem_cons.mpr ⟨(tb_7 _ (List.mem_of_getElem? (i := 22) rfl)), (List.forall_mem_cons.mpr ⟨(tb_7 _ (List.mem_of_getElem? (i := 24) rfl)), (List.forall_mem_cons.mpr ⟨(tb_0 _ (List.mem_of_getElem? (i := 70) rfl)), (List.forall_mem_cons.mpr ⟨(tb_7 _ (List.mem_of_getElem? (i := 25) rfl)), (List.forall_mem_cons.mpr ⟨(tb_7 _ (List.mem_of_getElem? (i := 26) rfl)), (List.forall_mem_cons.mpr ⟨(tb_7 _ (List.mem_of_getElem? (i := 28) rfl)), (List.forall_mem_cons.mpr ⟨(tb_0 _ (List.mem_of_getElem? (i := 71) rfl)), (List.forall_mem_cons.mpr ⟨(tb_7 _ (List.mem_of_getElem? (i := 29) rfl)), (List.forall_mem_cons.mpr ⟨(tb_7 _ (List.mem_of_getElem? (i := 30) rfl)), (fun _ h => absurd h List.not_mem_nil)⟩)⟩)⟩)⟩)⟩)⟩)⟩)⟩)⟩)⟩)⟩)⟩)⟩)⟩)⟩)⟩)⟩)⟩)⟩)⟩)⟩)⟩)⟩)⟩)
set_option maxRecDepth 100000 in
theorem lwm_wsL_law0_r33 : ∀ w ∈ wsL_law0_r33, w ∈ lw_tbl := (List.forall_mem_cons.mpr ⟨(tb_7 _ (List.mem_of_getElem? (i := 32) rfl)), (List.forall_mem_cons.mpr ⟨(tb_0 _ (List.mem_of_getElem? (i := 72) rfl)), (List.forall_mem_cons.mpr ⟨(tb_7 _ (List.mem_of_getElem? (i := 33) rfl)), (List.forall_mem_cons.mpr ⟨(tb_7 _ (List.mem_of_getElem? (i := 34) rfl)), (List.forall_mem_cons.mpr ⟨(tb_7 _ (List.mem_of_getElem? (i := 35) rfl)), (List.forall_mem_cons.mpr ⟨(tb_7 _ (List.mem_of_getElem? (i := 36) rfl)), (List.forall_mem_cons.mpr ⟨(tb_7 _ (List.mem_of_getElem? (i := 37) rfl)), (List.forall_mem_cons.mpr ⟨(tb_7 _ (List.mem_of_getElem? (i := 38) rfl)), (List.forall_mem_cons.mpr ⟨(tb_7 _ (List.mem_of_getElem? (i := 39) rfl)), (List.forall_mem_cons.mpr ⟨(tb_7 _ (List.mem_of_getElem? (i := 40) rfl)), (List.forall_mem_cons.mpr ⟨(tb_7 _ (List.mem_of_getElem? (i := 41) rfl)), (List.forall_mem_cons.mpr ⟨(tb_7 _ (List.mem_of_getElem? (i := 42) rfl)), (List.forall_mem_cons.mpr ⟨(tb_7 _ (List.mem_of_getElem? (i := 43) rfl)), (List.forall_mem_cons.mpr ⟨(tb_7 _ (List.mem_of_getElem? (i := 44) rfl)), (List.forall_mem_cons.mpr ⟨(tb_7 _ (List.mem_of_getElem? (i := 45) rfl)), (List.forall_mem_cons.mpr ⟨(tb_7 _ (List.mem_of_getElem? (i := 46) rfl)), (List.forall_mem_cons.mpr ⟨(tb_7 _ (List.mem_of_getElem? (i := 47) rfl)), (List.forall_mem_cons.mpr ⟨(tb_7 _ (List.mem_of_getElem? (i := 48) rfl)), (List.forall_mem_cons.mpr ⟨(tb_7 _ (List.mem_of_getElem? (i := 49) rfl)), (List.forall_mem_cons.mpr ⟨(tb_7 _ (List.mem_of_getElem? (i := 50) rfl)), (List.forall_mem_cons.mpr ⟨(tb_7 _ (List.mem_of_getElem? (i := 51) rfl)), (List.forall_mem_cons.mpr ⟨(tb_7 _ (List.mem_of_getElem? (i := 53) rfl)), (List.forall_mem_cons.mpr ⟨(tb_0 _ (List.mem_of_getElem? (i := 73) rfl)), (List.forall_mem_cons.mpr ⟨(tb_7 _ (List.mem_of_getElem? (i := 54) rfl)), (fun _ h => absurd h List.not_mem_nil)⟩)⟩)⟩)⟩)⟩)⟩)⟩)⟩)⟩)⟩)⟩)⟩)⟩)⟩)⟩)⟩)⟩)⟩)⟩)⟩)⟩)⟩)⟩)⟩)
set_option maxRecDepth 100000 in
theorem lwm_wsL_law0_r34 : ∀ w ∈ wsL_law0_r34, w ∈ lw_tbl := (List.forall_mem_cons.mpr ⟨(tb_7 _ (List.mem_of_getElem? (i := 55) rfl)), (List.forall_mem_cons.mpr ⟨(tb_7 _ (List.mem_of_getElem? (i := 56) rfl)), (List.forall_mem_cons.mpr ⟨(tb_7 _ (List.mem_of_getElem? (i := 57) rfl)), (List.forall_mem_cons.mpr ⟨(tb_3 _ (List.mem_of_getElem? (i := 196) rfl)), (List.forall_mem_cons.mpr ⟨(tb_3 _ (List.mem_of_getElem? (i := 197) rfl)), (List.forall_mem_cons.mpr ⟨(tb_3 _ (List.mem_of_getElem? (i := 198) rfl)), (List.forall_mem_cons.mpr ⟨(tb_3 _ (List.mem_of_getElem? (i := 199) rfl)), (List.forall_mem_cons.mpr ⟨(tb_3 _ (List.mem_of_getElem? (i := 201) rfl)), (List.forall_mem_cons.mpr ⟨(tb_3 _ (List.mem_of_getElem? (i := 202) rfl)), (List.forall_mem_cons.mpr ⟨(tb_3 _ (List.mem_of_getElem? (i := 203) rfl)), (List.forall_mem_cons.mpr ⟨(tb_3 _ (List.mem_of_getElem? (i := 204) rfl)), (List.forall_mem_cons.mpr ⟨(tb_7 _ (List.mem_of_getElem? (i := 58) rfl)), (List.forall_mem_cons.mpr ⟨(tb_7 _ (List.mem_of_getElem? (i := 59) rfl)), (List.forall_mem_cons.mpr ⟨(tb_7 _ (List.mem_of_getElem? (i := 60) rfl)), (List.forall_mem_cons.mpr ⟨(tb_7 _ (List.mem_of_getElem? (i := 61) rfl)), (List.forall_mem_cons.mpr ⟨(tb_3 _ (List.mem_of_getElem? (i := 205) rfl)), (List.forall_mem_cons.mpr ⟨(tb_3 _ (List.mem_of_getElem? (i := 206) rfl)), (List.forall_mem_cons.mpr ⟨(tb_3 _ (List.mem_of_getElem? (i := 207) rfl)), (List.forall_mem_cons.mpr ⟨(tb_3 _ (List.mem_of_getElem? (i := 208) rfl)), (List.forall_mem_cons.mpr ⟨(tb_3 _ (List.mem_of_getElem? (i := 210) rfl)), (List.forall_mem_cons.mpr ⟨(tb_3 _ (List.mem_of_getElem? (i := 211) rfl)), (List.forall_mem_cons.mpr ⟨(tb_3 _ (List.mem_of_getElem? (i := 212) rfl)), (List.forall_mem_cons.mpr ⟨(tb_3 _ (List.mem_of_getElem? (i := 213) rfl)), (List.forall_mem_cons.mpr ⟨(tb_7 _ (List.mem_of_getElem? (i := 62) rfl)), (fun _ h => absurd h List.not_mem_nil)⟩)⟩)⟩)⟩)⟩)⟩)⟩)⟩)⟩)⟩)⟩)⟩)⟩)⟩)⟩)⟩)⟩)⟩)⟩)⟩)⟩)⟩)⟩)⟩)
set_option maxRecDepth 100000 in
theorem lwm_wsL_law0_r35 : ∀ w ∈ wsL_law0_r35, w ∈ lw_tbl := (List.forall_mem_cons.mpr ⟨(tb_7 _ (List.mem_of_getElem? (i := 63) rfl)), (List.forall_mem_cons.mpr ⟨(tb_7 _ (List.mem_of_getElem? (i := 64) rfl)), (List.forall_mem_cons.mpr ⟨(tb_7 _ (List.mem_of_getElem? (i := 65) rfl)), (List.forall_mem_cons.mpr ⟨(tb_3 _ (List.mem_of_getElem? (i := 214) rfl)), (List.forall_mem_cons.mpr ⟨(tb_3 _ (List.mem_of_getElem? (i := 215) rfl)), (List.forall_mem_cons.mpr ⟨(tb_3 _ (List.mem_of_getElem? (i := 216) rfl)), (List.forall_mem_cons.mpr ⟨(tb_3 _ (List.mem_of_getElem? (i := 217) rfl)), (List.forall_mem_cons.mpr ⟨(tb_3 _ (List.mem_of_getElem? (i := 218) rfl)), (List.forall_mem_cons.mpr ⟨(tb_3 _ (List.mem_of_getElem? (i := 219) rfl)), (List.forall_mem_cons.mpr ⟨(tb_3 _ (List.mem_of_getElem? (i := 220) rfl)), (List.forall_mem_cons.mpr ⟨(tb_3 _ (List.mem_of_getElem? (i := 221) rfl)), (List.forall_mem_cons.mpr ⟨(tb_7 _ (List.mem_of_getElem? (i := 66) rfl)), (List.forall_mem_cons.mpr ⟨(tb_7 _ (List.mem_of_getElem? (i := 67) rfl)), (List.forall_mem_cons.mpr ⟨(tb_7 _ (List.mem_of_getElem? (i := 68) rfl)), (List.forall_mem_cons.mpr ⟨(tb_7 _ (List.mem_of_getElem? (i := 69) rfl)), (List.forall_mem_cons.mpr ⟨(tb_3 _ (List.mem_of_getElem? (i := 222) rfl)), (List.forall_mem_cons.mpr ⟨(tb_3 _ (List.mem_of_getElem? (i := 223) rfl)), (List.forall_mem_cons.mpr ⟨(tb_3 _ (List.mem_of_getElem? (i := 224) rfl)), (List.forall_mem_cons.mpr ⟨(tb_3 _ (List.mem_of_getElem? (i := 225) rfl)), (List.forall_mem_cons.mpr ⟨(tb_3 _ (List.mem_of_getElem? (i := 226) rfl)), (List.forall_mem_cons.mpr ⟨(tb_3 _ (List.mem_of_getElem? (i := 227) rfl)), (List.forall_mem_cons.mpr ⟨(tb_3 _ (List.mem_of_getElem? (i := 228) rfl)), (List.forall_mem_cons.mpr ⟨(tb_3 _ (List.mem_of_getElem? (i := 229) rfl)), (List.forall_mem_cons.mpr ⟨(tb_3 _ (List.mem_of_getElem? (i := 230) rfl)), (fun _ h => absurd h List.not_mem_nil)⟩)⟩)⟩)⟩)⟩)⟩)⟩)⟩)⟩)⟩)⟩)⟩)⟩)⟩)⟩)⟩)⟩)⟩)⟩)⟩)⟩)⟩)⟩)⟩)
set_option maxRecDepth 100000 in
theorem lwm_wsL_law0_r36 : ∀ w ∈ wsL_law0_r36, w ∈ lw_tbl := (List.forall_mem_cons.mpr ⟨(tb_3 _ (List.mem_of_getElem? (i := 231) rfl)), (List.forall_mem_cons.mpr ⟨(tb_3 _ (List.mem_of_getElem? (i := 232) rfl)), (List.forall_mem_cons.mpr ⟨(tb_3 _ (List.mem_of_getElem? (i := 233) rfl)), (List.forall_mem_cons.mpr ⟨(tb_7 _ (List.mem_of_getElem? (i := 70) rfl)), (List.forall_mem_cons.mpr ⟨(tb_7 _ (List.mem_of_getElem? (i := 71) rfl)), (List.forall_mem_cons.mpr ⟨(tb_7 _ (List.mem_of_getElem? (i := 72) rfl)), (List.forall_mem_cons.mpr ⟨(tb_7 _ (List.mem_of_getElem? (i := 73) rfl)), (List.forall_mem_cons.mpr ⟨(tb_3 _ (List.mem_of_getElem? (i := 234) rfl)), (List.forall_mem_cons.mpr ⟨(tb_3 _ (List.mem_of_getElem? (i := 235) rfl)), (List.forall_mem_cons.mpr ⟨(tb_3 _ (List.mem_of_getElem? (i := 236) rfl)), (List.forall_mem_cons.mpr ⟨(tb_3 _ (List.mem_of_getElem? (i := 237) rfl)), (List.forall_mem_cons.mpr ⟨(tb_7 _ (List.mem_of_getElem? (i := 74) rfl)), (List.forall_mem_cons.mpr ⟨(tb_7 _ (List.mem_of_getElem? (i := 75) rfl)), (List.forall_mem_cons.mpr ⟨(tb_7 _ (List.mem_of_getElem? (i := 76) rfl)), (List.forall_mem_cons.mpr ⟨(tb_7 _ (List.mem_of_getElem? (i := 77) rfl)), (List.forall_mem_cons.mpr ⟨(tb_3 _ (List.mem_of_getElem? (i := 238) rfl)), (List.forall_mem_cons.mpr ⟨(tb_3 _ (List.mem_of_getElem? (i := 239) rfl)), (List.forall_mem_cons.mpr ⟨(tb_4 _ (List.mem_of_getElem? (i := 0) rfl)), (List.forall_mem_cons.mpr ⟨(tb_4 _ (List.mem_of_getElem? (i := 1) rfl)), (List.forall_mem_cons.mpr ⟨(tb_4 _ (List.mem_of_getElem? (i := 2) rfl)), (List.forall_mem_cons.mpr ⟨(tb_4 _ (List.mem_of_getElem? (i := 3) rfl)), (List.forall_mem_cons.mpr ⟨(tb_4 _ (List.mem_of_getElem? (i := 5) rfl)), (List.forall_mem_cons.mpr ⟨(tb_0 _ (List.mem_of_getElem? (i := 22) rfl)), (List.forall_mem_cons.mpr ⟨(tb_4 _ (List.mem_of_getElem? (i := 6) rfl)), (fun _ h => absurd h List.not_mem_nil)⟩)⟩)⟩)⟩)⟩)⟩)⟩)⟩)⟩)⟩)⟩)⟩)⟩)⟩)⟩)⟩)⟩)⟩)⟩)⟩)⟩)⟩)⟩)⟩)
set_option maxRecDepth 100000 in
theorem lwm_wsL_law0_r37 : ∀ w ∈ wsL_law0_r37, w ∈ lw_tbl := (List.forall_mem_cons.mpr ⟨(tb_4 _ (List.mem_of_getElem? (i := 7) rfl)), (List.forall_mem_cons.mpr ⟨(tb_4 _ (List.mem_of_getElem? (i := 8) rfl)), (List.forall_mem_cons.mpr ⟨(tb_4 _ (List.mem_of_getElem? (i := 9) rfl)), (List.forall_mem_cons.mpr ⟨(tb_4 _ (List.mem_of_getElem? (i := 10) rfl)), (List.forall_mem_cons.mpr ⟨(tb_1 _ (List.mem_of_getElem? (i := 66) rfl)), (List.forall_mem_cons.mpr ⟨(tb_4 _ (List.mem_of_getElem? (i := 11) rfl)), (List.forall_mem_cons.mpr ⟨(tb_4 _ (List.mem_of_getElem? (i := 12) rfl)), (List.forall_mem_cons.mpr ⟨(tb_4 _ (List.mem_of_getElem? (i := 13) rfl)), (List.forall_mem_cons.mpr ⟨(tb_4 _ (List.mem_of_getElem? (i := 14) rfl)), (List.forall_mem_cons.mpr ⟨(tb_4 _ (List.mem_of_getElem? (i := 15) rfl)), (List.forall_mem_cons.mpr ⟨(tb_4 _ (List.mem_of_getElem? (i := 16) rfl)), (List.forall_mem_cons.mpr ⟨(tb_4 _ (List.mem_of_getElem? (i := 17) rfl)), (List.forall_mem_cons.mpr ⟨(tb_1 _ (List.mem_of_getElem? (i := 20) rfl)), (List.forall_mem_cons.mpr ⟨(tb_4 _ (List.mem_of_getElem? (i := 18) rfl)), (List.forall_mem_cons.mpr ⟨(tb_4 _ (List.mem_of_getElem? (i := 19) rfl)), (List.forall_mem_cons.mpr ⟨(tb_4 _ (List.mem_of_getElem? (i := 20) rfl)), (List.forall_mem_cons.mpr ⟨(tb_4 _ (List.mem_of_getElem? (i := 21) rfl)), (List.forall_mem_cons.mpr ⟨(tb_4 _ (List.mem_of_getElem? (i := 22) rfl)), (List.forall_mem_cons.mpr ⟨(tb_4 _ (List.mem_of_getElem? (i := 23) rfl)), (List.forall_mem_cons.mpr ⟨(tb_4 _ (List.mem_of_getElem? (i := 24) rfl)), (List.forall_mem_cons.mpr ⟨(tb_4 _ (List.mem_of_getElem? (i := 25) rfl)), (List.forall_mem_cons.mpr ⟨(tb_4 _ (List.mem_of_getElem? (i := 26) rfl)), (List.forall_mem_cons.mpr ⟨(tb_4 _ (List.mem_of_getElem? (i := 27) rfl)), (List.forall_mem_cons.mpr ⟨(tb_4 _ (List.mem_of_getElem? (i := 28) rfl)), (fun _ h => absurd h List.not_mem_nil)⟩)⟩)⟩)⟩)⟩)⟩)⟩)⟩)⟩)⟩)⟩)⟩)⟩)⟩)⟩)⟩)⟩)⟩)⟩)⟩)⟩)⟩)⟩)⟩)
set_option maxRecDepth 100000 in
theorem lwm_wsL_law0_r38 : ∀ w ∈ wsL_law0_r38, w ∈ lw_tbl := (List.forall_mem_cons.mpr ⟨(tb_4 _ (List.mem_of_getElem? (i := 29) rfl)), (List.forall_mem_cons.mpr ⟨(tb_4 _ (List.mem_of_getElem? (i := 30) rfl)), (List.forall_mem_cons.mpr ⟨(tb_4 _ (List.mem_of_getElem? (i := 31) rfl)), (List.forall_mem_cons.mpr ⟨(tb_4 _ (List.mem_of_getElem? (i := 32) rfl)), (List.forall_mem_cons.mpr ⟨(tb_4 _ (List.mem_of_getElem? (i := 33) rfl)), (List.forall_mem_cons.mpr ⟨(tb_4 _ (List.mem_of_getElem? (i := 34) rfl)), (List.forall_mem_cons.mpr ⟨(tb_4 _ (List.mem_of_getElem? (i := 35) rfl)), (List.forall_mem_cons.mpr ⟨(tb_4 _ (List.mem_of_getElem? (i := 36) rfl)), (List.forall_mem_cons.mpr ⟨(tb_4 _ (List.mem_of_getElem? (i := 37) rfl)), (List.forall_mem_cons.mpr ⟨(tb_7 _ (List.mem_of_getElem? (i := 78) rfl)), (List.forall_mem_cons.mpr ⟨(tb_7 _ (List.mem_of_getElem? (i := 79) rfl)), (List.forall_mem_cons.mpr ⟨(tb_7 _ (List.mem_of_getElem? (i := 80) rfl)), (List.forall_mem_cons.mpr ⟨(tb_7 _ (List.mem_of_getElem? (i := 81) rfl)), (List.forall_mem_cons.mpr ⟨(tb_7 _ (List.mem_of_getElem? (i := 82) rfl)), (List.forall_mem_cons.mpr ⟨(tb_7 _ (List.mem_of_getElem? (i := 84) rfl)), (List.forall_mem_cons.mpr ⟨(tb_0 _ (List.mem_of_getElem? (i := 74) rfl)), (List.forall_mem_cons.mpr ⟨(tb_7 _ (List.mem_of_getElem? (i := 85) rfl)), (List.forall_mem_cons.mpr ⟨(tb_7 _ (List.mem_of_getElem? (i := 86) rfl)), (List.forall_mem_cons.mpr ⟨(tb_7 _ (List.mem_of_getElem? (i := 88) rfl)), (List.forall_mem_cons.mpr ⟨(tb_0 _ (List.mem_of_getElem? (i := 75) rfl)), (List.forall_mem_cons.mpr ⟨(tb_7 _ (List.mem_of_getElem? (i := 89) rfl)), (List.forall_mem_cons.mpr ⟨(tb_7 _ (List.mem_of_getElem? (i := 90) rfl)), (List.forall_mem_cons.mpr ⟨(tb_7 _ (List.mem_of_getElem? (i := 92) rfl)), (List.forall_mem_cons.mpr ⟨(tb_0 _ (List.mem_of_getElem? (i := 76) rfl)), (fun _ h => absurd h List.not_mem_nil)⟩)⟩)⟩)⟩)⟩)⟩)⟩)⟩)⟩)⟩)⟩)⟩)⟩)⟩)⟩)⟩)⟩)⟩)⟩)⟩)⟩)⟩)⟩)⟩)
set_option maxRecDepth 100000 in
theorem lwm_wsL_law0_r39 : ∀ w ∈ wsL_law0_r39, w ∈ lw_tbl := (List.forall_mem_cons.mpr ⟨(tb_7 _ (List.mem_of_getElem? (i := 93) rfl)), (List.forall_mem_cons.mpr ⟨(tb_7 _ (List.mem_of_getElem? (i := 94) rfl)), (List.forall_mem_cons.mpr ⟨(tb_7 _ (List.mem_of_getElem? (i := 96) rfl)), (List.forall_mem_cons.mpr ⟨(tb_0 _ (List.mem_of_getElem? (i := 77) rfl)), (List.forall_mem_cons.mpr ⟨(tb_7 _ (List.mem_of_getElem? (i := 97) rfl)), (List.forall_mem_cons.mpr ⟨(tb_7 _ (List.mem_of_getElem? (i := 98) rfl)), (List.forall_mem_cons.mpr ⟨(tb_7 _ (List.mem_of_getElem? (i := 100) rfl)), (List.forall_mem_cons.mpr ⟨(tb_0 _ (List.mem_of_getElem? (i := 78) rfl)), (List.forall_mem_cons.mpr ⟨(tb_7 _ (List.mem_of_getElem? (i := 101) rfl)), (List.forall_mem_cons.mpr ⟨(tb_7 _ (List.mem_of_getElem? (i := 102) rfl)), (List.forall_mem_cons.mpr ⟨(tb_7 _ (List.mem_of_getElem? (i := 104) rfl)), (List.forall_mem_cons.mpr ⟨(tb_0 _ (List.mem_of_getElem? (i := 79) rfl)), (List.forall_mem_cons.mpr ⟨(tb_7 _ (List.mem_of_getElem? (i := 105) rfl)), (List.forall_mem_cons.mpr ⟨(tb_4 _ (List.mem_of_getElem? (i := 38) rfl)), (List.forall_mem_cons.mpr ⟨(tb_4 _ (List.mem_of_getElem? (i := 39) rfl)), (List.forall_mem_cons.mpr ⟨(tb_4 _ (List.mem_of_getElem? (i := 40) rfl)), (List.forall_mem_cons.mpr ⟨(tb_4 _ (List.mem_of_getElem? (i := 41) rfl)), (List.forall_mem_cons.mpr ⟨(tb_7 _ (List.mem_of_getElem? (i := 106) rfl)), (List.forall_mem_cons.mpr ⟨(tb_7 _ (List.mem_of_getElem? (i := 107) rfl)), (List.forall_mem_cons.mpr ⟨(tb_7 _ (List.mem_of_getElem? (i := 108) rfl)), (List.forall_mem_cons.mpr ⟨(tb_7 _ (List.mem_of_getElem? (i := 109) rfl)), (List.forall_mem_cons.mpr ⟨(tb_4 _ (List.mem_of_getElem? (i := 42) rfl)), (List.forall_mem_cons.mpr ⟨(tb_4 _ (List.mem_of_getElem? (i := 43) rfl)), (List.forall_mem_cons.mpr ⟨(tb_4 _ (List.mem_of_getElem? (i := 44) rfl)), (fun _ h => absurd h List.not_mem_nil)⟩)⟩)⟩)⟩)⟩)⟩)⟩)⟩)⟩)⟩)⟩)⟩)⟩)⟩)⟩)⟩)⟩)⟩)⟩)⟩)⟩)⟩)⟩)⟩)
set_option maxRecDepth 100000 in
theorem lwm_wsL_law0_r40 : ∀ w ∈ wsL_law0_r40, w ∈ lw_tbl := (List.forall_mem_cons.mpr ⟨(tb_4 _ (List.mem_of_getElem? (i := 45) rfl)), (List.forall_mem_cons.mpr ⟨(tb_4 _ (List.mem_of_getElem? (i := 46) rfl)), (List.forall_mem_cons.mpr ⟨(tb_4 _ (List.mem_of_getElem? (i := 48) rfl)), (List.forall_mem_cons.mpr ⟨(tb_0 _ (List.mem_of_getElem? (i := 23) rfl)), (List.forall_mem_cons.mpr ⟨(tb_4 _ (List.mem_of_getElem? (i := 49) rfl)), (List.forall_mem_cons.mpr ⟨(tb_4 _ (List.mem_of_getElem? (i := 50) rfl)), (List.forall_mem_cons.mpr ⟨(tb_4 _ (List.mem_of_getElem? (i := 52) rfl)), (List.forall_mem_cons.mpr ⟨(tb_0 _ (List.mem_of_getElem? (i := 24) rfl)), (List.forall_mem_cons.mpr ⟨(tb_4 _ (List.mem_of_getElem? (i := 53) rfl)), (List.forall_mem_cons.mpr ⟨(tb_4 _ (List.mem_of_getElem? (i := 54) rfl)), (List.forall_mem_cons.mpr ⟨(tb_4 _ (List.mem_of_getElem? (i := 55) rfl)), (List.forall_mem_cons.mpr ⟨(tb_7 _ (List.mem_of_getElem? (i := 110) rfl)), (List.forall_mem_cons.mpr ⟨(tb_7 _ (List.mem_of_getElem? (i := 111) rfl)), (List.forall_mem_cons.mpr ⟨(tb_7 _ (List.mem_of_getElem? (i := 112) rfl)), (List.forall_mem_cons.mpr ⟨(tb_7 _ (List.mem_of_getElem? (i := 113) rfl)), (List.forall_mem_cons.mpr ⟨(tb_5 _ (List.mem_of_getElem? (i := 184) rfl)), (List.forall_mem_cons.mpr ⟨(tb_7 _ (List.mem_of_getElem? (i := 114) rfl)), (List.forall_mem_cons.mpr ⟨(tb_7 _ (List.mem_of_getElem? (i := 116) rfl)), (List.forall_mem_cons.mpr ⟨(tb_0 _ (List.mem_of_getElem? (i := 80) rfl)), (List.forall_mem_cons.mpr ⟨(tb_7 _ (List.mem_of_getElem? (i := 117) rfl)), (List.forall_mem_cons.mpr ⟨(tb_7 _ (List.mem_of_getElem? (i := 118) rfl)), (List.forall_mem_cons.mpr ⟨(tb_7 _ (List.mem_of_getElem? (i := 120) rfl)), (List.forall_mem_cons.mpr ⟨(tb_0 _ (List.mem_of_getElem? (i := 81) rfl)), (List.forall_mem_cons.mpr ⟨(tb_7 _ (List.mem_of_getElem? (i := 121) rfl)), (fun _ h => absurd h List.not_mem_nil)⟩)⟩)⟩)⟩)⟩)⟩)⟩)⟩)⟩)⟩)⟩)⟩)⟩)⟩)⟩)⟩)⟩)⟩)⟩)⟩)⟩)⟩)⟩)⟩)
set_option maxRecDepth 100000 in
theorem lwm_wsL_law0_r41 : ∀ w ∈ wsL_law0_r41, w ∈ lw_tbl := (List.forall_mem_cons.mpr ⟨(tb_7 _ (List.mem_of_getElem? (i := 122) rfl)), (List.forall_mem_cons.mpr ⟨(tb_7 _ (List.mem_of_getElem? (i := 123) rfl)), (List.forall_mem_cons.mpr ⟨(tb_4 _ (List.mem_of_getElem? (i := 56) rfl)), (List.forall_mem_cons.mpr ⟨(tb_4 _ (List.mem_of_getElem? (i := 57) rfl)), (List.forall_mem_cons.mpr ⟨(tb_4 _ (List.mem_of_getElem? (i := 58) rfl)), (List.forall_mem_cons.mpr ⟨(tb_4 _ (List.mem_of_getElem? (i := 59) rfl)), (List.forall_mem_cons.mpr ⟨(tb_7 _ (List.mem_of_getElem? (i := 124) rfl)), (List.forall_mem_cons.mpr ⟨(tb_7 _ (List.mem_of_getElem? (i := 125) rfl)), (List.forall_mem_cons.mpr ⟨(tb_7 _ (List.mem_of_getElem? (i := 126) rfl)), (List.forall_mem_cons.mpr ⟨(tb_7 _ (List.mem_of_getElem? (i := 127) rfl)), (List.forall_mem_cons.mpr ⟨(tb_4 _ (List.mem_of_getElem? (i := 60) rfl)), (List.forall_mem_cons.mpr ⟨(tb_4 _ (List.mem_of_getElem? (i := 61) rfl)), (List.forall_mem_cons.mpr ⟨(tb_4 _ (List.mem_of_getElem? (i := 62) rfl)), (List.forall_mem_cons.mpr ⟨(tb_4 _ (List.mem_of_getElem? (i := 63) rfl)), (List.forall_mem_cons.mpr ⟨(tb_1 _ (List.mem_of_getElem? (i := 222) rfl)), (List.forall_mem_cons.mpr ⟨(tb_4 _ (List.mem_of_getElem? (i := 64) rfl)), (List.forall_mem_cons.mpr ⟨(tb_4 _ (List.mem_of_getElem? (i := 65) rfl)), (List.forall_mem_cons.mpr ⟨(tb_4 _ (List.mem_of_getElem? (i := 66) rfl)), (List.forall_mem_cons.mpr ⟨(tb_4 _ (List.mem_of_getElem? (i := 67) rfl)), (List.forall_mem_cons.mpr ⟨(tb_7 _ (List.mem_of_getElem? (i := 128) rfl)), (List.forall_mem_cons.mpr ⟨(tb_7 _ (List.mem_of_getElem? (i := 129) rfl)), (List.forall_mem_cons.mpr ⟨(tb_7 _ (List.mem_of_getElem? (i := 130) rfl)), (List.forall_mem_cons.mpr ⟨(tb_7 _ (List.mem_of_getElem? (i := 131) rfl)), (List.forall_mem_cons.mpr ⟨(tb_4 _ (List.mem_of_getElem? (i := 68) rfl)), (fun _ h => absurd h List.not_mem_nil)⟩)⟩)⟩)⟩)⟩)⟩)⟩)⟩)⟩)⟩)⟩)⟩)⟩)⟩)⟩)⟩)⟩)⟩)⟩)⟩)⟩)⟩)⟩)⟩)
set_option maxRecDepth 100000 in
theorem lwm_wsL_law0_r42 : ∀ w ∈ wsL_law0_r42, w ∈ lw_tbl := (List.forall_mem_cons.mpr ⟨(tb_4 _ (List.mem_of_getElem? (i := 69) rfl)), (List.forall_mem_cons.mpr ⟨(tb_4 _ (List.mem_of_getElem? (i := 70) rfl)), (List.forall_mem_cons.mpr ⟨(tb_4 _ (List.mem_of_getElem? (i := 71) rfl)), (List.forall_mem_cons.mpr ⟨(tb_4 _ (List.mem_of_getElem? (i := 72) rfl)), (List.forall_mem_cons.mpr ⟨(tb_4 _ (List.mem_of_getElem? (i := 73) rfl)), (List.forall_mem_cons.mpr ⟨(tb_4 _ (List.mem_of_getElem? (i := 74) rfl)), (List.forall_mem_cons.mpr ⟨(tb_4 _ (List.mem_of_getElem? (i := 75) rfl)), (List.forall_mem_cons.mpr ⟨(tb_4 _ (List.mem_of_getElem? (i := 76) rfl)), (List.forall_mem_cons.mpr ⟨(tb_4 _ (List.mem_of_getElem? (i := 77) rfl)), (List.forall_mem_cons.mpr ⟨(tb_4 _ (List.mem_of_getElem? (i := 78) rfl)), (List.forall_mem_cons.mpr ⟨(tb_4 _ (List.mem_of_getElem? (i := 79) rfl)), (List.forall_mem_cons.mpr ⟨(tb_7 _ (List.mem_of_getElem? (i := 132) rfl)), (List.forall_mem_cons.mpr ⟨(tb_7 _ (List.mem_of_getElem? (i := 133) rfl)), (List.forall_mem_cons.mpr ⟨(tb_7 _ (List.mem_of_getElem? (i := 134) rfl)), (List.forall_mem_cons.mpr ⟨(tb_7 _ (List.mem_of_getElem? (i := 135) rfl)), (List.forall_mem_cons.mpr ⟨(tb_4 _ (List.mem_of_getElem? (i := 80) rfl)), (List.forall_mem_cons.mpr ⟨(tb_4 _ (List.mem_of_getElem? (i := 81) rfl)), (List.forall_mem_cons.mpr ⟨(tb_4 _ (List.mem_of_getElem? (i := 82) rfl)), (List.forall_mem_cons.mpr ⟨(tb_4 _ (List.mem_of_getElem? (i := 83) rfl)), (List.forall_mem_cons.mpr ⟨(tb_4 _ (List.mem_of_getElem? (i := 88) rfl)), (List.forall_mem_cons.mpr ⟨(tb_4 _ (List.mem_of_getElem? (i := 84) rfl)), (List.forall_mem_cons.mpr ⟨(tb_4 _ (List.mem_of_getElem? (i := 85) rfl)), (List.forall_mem_cons.mpr ⟨(tb_4 _ (List.mem_of_getElem? (i := 86) rfl)), (List.forall_mem_cons.mpr ⟨(tb_4 _ (List.mem_of_getElem? (i := 87) rfl)), (fun _ h => absurd h List.not_mem_nil)⟩)⟩)⟩)⟩)⟩)⟩)⟩)⟩)⟩)⟩)⟩)⟩)⟩)⟩)⟩)⟩)⟩)⟩)⟩)⟩)⟩)⟩)⟩)⟩)
set_option maxRecDepth 100000 in
theorem lwm_wsL_law0_r43 : ∀ w ∈ wsL_law0_r43, w ∈ lw_tbl := (List.forall_mem_cons.mpr ⟨(tb_7 _ (List.mem_of_getElem? (i := 136) rfl)), (List.forall_mem_cons.mpr ⟨(tb_7 _ (List.mem_of_getElem? (i := 137) rfl)), (List.forall_mem_cons.mpr ⟨(tb_7 _ (List.mem_of_getElem? (i := 138) rfl)), (List.forall_mem_cons.mpr ⟨(tb_7 _ (List.mem_of_getElem? (i := 139) rfl)), (List.forall_mem_cons.mpr ⟨(tb_7 _ (List.mem_of_getElem? (i := 140) rfl)), (List.forall_mem_cons.mpr ⟨(tb_4 _ (List.mem_of_getElem? (i := 89) rfl)), (List.forall_mem_cons.mpr ⟨(tb_4 _ (List.mem_of_getElem? (i := 90) rfl)), (List.forall_mem_cons.mpr ⟨(tb_4 _ (List.mem_of_getElem? (i := 91) rfl)), (List.forall_mem_cons.mpr ⟨(tb_4 _ (List.mem_of_getElem? (i := 92) rfl)), (List.forall_mem_cons.mpr ⟨(tb_4 _ (List.mem_of_getElem? (i := 93) rfl)), (List.forall_mem_cons.mpr ⟨(tb_7 _ (List.mem_of_getElem? (i := 141) rfl)), (List.forall_mem_cons.mpr ⟨(tb_7 _ (List.mem_of_getElem? (i := 142) rfl)), (List.forall_mem_cons.mpr ⟨(tb_7 _ (List.mem_of_getElem? (i := 143) rfl)), (List.forall_mem_cons.mpr ⟨(tb_7 _ (List.mem_of_getElem? (i := 144) rfl)), (List.forall_mem_cons.mpr ⟨(tb_4 _ (List.mem_of_getElem? (i := 94) rfl)), (List.forall_mem_cons.mpr ⟨(tb_4 _ (List.mem_of_getElem? (i := 95) rfl)), (List.forall_mem_cons.mpr ⟨(tb_4 _ (List.mem_of_getElem? (i := 96) rfl)), (List.forall_mem_cons.mpr ⟨(tb_4 _ (List.mem_of_getElem? (i := 97) rfl)), (List.forall_mem_cons.mpr ⟨(tb_4 _ (List.mem_of_getElem? (i := 98) rfl)), (List.forall_mem_cons.mpr ⟨(tb_4 _ (List.mem_of_getElem? (i := 100) rfl)), (List.forall_mem_cons.mpr ⟨(tb_0 _ (List.mem_of_getElem? (i := 25) rfl)), (List.forall_mem_cons.mpr ⟨(tb_4 _ (List.mem_of_getElem? (i := 101) rfl)), (List.forall_mem_cons.mpr ⟨(tb_7 _ (List.mem_of_getElem? (i := 145) rfl)), (List.forall_mem_cons.mpr ⟨(tb_7 _ (List.mem_of_getElem? (i := 146) rfl)), (fun _ h => absurd h List.not_mem_nil)⟩)⟩)⟩)⟩)⟩)⟩)⟩)⟩)⟩)⟩)⟩)⟩)⟩)⟩)⟩)⟩)⟩)⟩)⟩)⟩)⟩)⟩)⟩)⟩)
set_option maxRecDepth 100000 in
theorem lwm_wsL_law0_r44 : ∀ w ∈ wsL_law0_r44, w ∈ lw_tbl := (List.forall_mem_cons.mpr ⟨(tb_7 _ (List.mem_of_getElem? (i := 147) rfl)), (List.forall_mem_cons.mpr ⟨(tb_7 _ (List.mem_of_getElem? (i := 148) rfl)), (List.forall_mem_cons.mpr ⟨(tb_7 _ (List.mem_of_getElem? (i := 149) rfl)), (List.forall_mem_cons.mpr ⟨(tb_7 _ (List.mem_of_getElem? (i := 151) rfl)), (List.forall_mem_cons.mpr ⟨(tb_0 _ (List.mem_of_getElem? (i := 82) rfl)), (List.forall_mem_cons.mpr ⟨(tb_7 _ (List.mem_of_getElem? (i := 152) rfl)), (List.forall_mem_cons.mpr ⟨(tb_4 _ (List.mem_of_getElem? (i := 102) rfl)), (List.forall_mem_cons.mpr ⟨(tb_4 _ (List.mem_of_getElem? (i := 103) rfl)), (List.forall_mem_cons.mpr ⟨(tb_4 _ (List.mem_of_getElem? (i := 104) rfl)), (List.forall_mem_cons.mpr ⟨(tb_4 _ (List.mem_of_getElem? (i := 105) rfl)), (List.forall_mem_cons.mpr ⟨(tb_2 _ (List.mem_of_getElem? (i := 31) rfl)), (List.forall_mem_cons.mpr ⟨(tb_2 _ (List.mem_of_getElem? (i := 29) rfl)), (List.forall_mem_cons.mpr ⟨(tb_2 _ (List.mem_of_getElem? (i := 33) rfl)), (List.forall_mem_cons.mpr ⟨(tb_4 _ (List.mem_of_getElem? (i := 106) rfl)), (List.forall_mem_cons.mpr ⟨(tb_4 _ (List.mem_of_getElem? (i := 107) rfl)), (List.forall_mem_cons.mpr ⟨(tb_4 _ (List.mem_of_getElem? (i := 108) rfl)), (List.forall_mem_cons.mpr ⟨(tb_4 _ (List.mem_of_getElem? (i := 109) rfl)), (List.forall_mem_cons.mpr ⟨(tb_2 _ (List.mem_of_getElem? (i := 28) rfl)), (List.forall_mem_cons.mpr ⟨(tb_1 _ (List.mem_of_getElem? (i := 63) rfl)), (List.forall_mem_cons.mpr ⟨(tb_1 _ (List.mem_of_getElem? (i := 79) rfl)), (List.forall_mem_cons.mpr ⟨(tb_2 _ (List.mem_of_getElem? (i := 37) rfl)), (List.forall_mem_cons.mpr ⟨(tb_4 _ (List.mem_of_getElem? (i := 110) rfl)), (List.forall_mem_cons.mpr ⟨(tb_4 _ (List.mem_of_getElem? (i := 111) rfl)), (List.forall_mem_cons.mpr ⟨(tb_4 _ (List.mem_of_getElem? (i := 112) rfl)), (fun _ h => absurd h List.not_mem_nil)⟩)⟩)⟩)⟩)⟩)⟩)⟩)⟩)⟩)⟩)⟩)⟩)⟩)⟩)⟩)⟩)⟩)⟩)⟩)⟩)⟩)⟩)⟩)⟩)
set_option maxRecDepth 100000 in
theorem lwm_wsL_law0_r45 : ∀ w ∈ wsL_law0_r45, w ∈ lw_tbl := (List.forall_mem_cons.mpr ⟨(tb_4 _ (List.mem_of_getElem? (i := 113) rfl)), (List.forall_mem_cons.mpr ⟨(tb_4 _ (List.mem_of_getElem? (i := 114) rfl)), (List.forall_mem_cons.mpr ⟨(tb_4 _ (List.mem_of_getElem? (i := 116) rfl)), (List.forall_mem_cons.mpr ⟨(tb_0 _ (List.mem_of_getElem? (i := 26) rfl)), (List.forall_mem_cons.mpr ⟨(tb_4 _ (List.mem_of_getElem? (i := 117) rfl)), (List.forall_mem_cons.mpr ⟨(tb_2 _ (List.mem_of_getElem? (i := 30) rfl)), (List.forall_mem_cons.mpr ⟨(tb_2 _ (List.mem_of_getElem? (i := 32) rfl)), (List.forall_mem_cons.mpr ⟨(tb_7 _ (List.mem_of_getElem? (i := 153) rfl)), (List.forall_mem_cons.mpr ⟨(tb_7 _ (List.mem_of_getElem? (i := 154) rfl)), (List.forall_mem_cons.mpr ⟨(tb_7 _ (List.mem_of_getElem? (i := 155) rfl)), (List.forall_mem_cons.mpr ⟨(tb_7 _ (List.mem_of_getElem? (i := 156) rfl)), (List.forall_mem_cons.mpr ⟨(tb_5 _ (List.mem_of_getElem? (i := 186) rfl)), (List.forall_mem_cons.mpr ⟨(tb_5 _ (List.mem_of_getElem? (i := 185) rfl)), (List.forall_mem_cons.mpr ⟨(tb_7 _ (List.mem_of_getElem? (i := 157) rfl)), (List.forall_mem_cons.mpr ⟨(tb_7 _ (List.mem_of_getElem? (i := 159) rfl)), (List.forall_mem_cons.mpr ⟨(tb_0 _ (List.mem_of_getElem? (i := 83) rfl)), (List.forall_mem_cons.mpr ⟨(tb_7 _ (List.mem_of_getElem? (i := 160) rfl)), (List.forall_mem_cons.mpr ⟨(tb_5 _ (List.mem_of_getElem? (i := 187) rfl)), (List.forall_mem_cons.mpr ⟨(tb_7 _ (List.mem_of_getElem? (i := 161) rfl)), (List.forall_mem_cons.mpr ⟨(tb_7 _ (List.mem_of_getElem? (i := 163) rfl)), (List.forall_mem_cons.mpr ⟨(tb_0 _ (List.mem_of_getElem? (i := 84) rfl)), (List.forall_mem_cons.mpr ⟨(tb_7 _ (List.mem_of_getElem? (i := 164) rfl)), (List.forall_mem_cons.mpr ⟨(tb_7 _ (List.mem_of_getElem? (i := 165) rfl)), (List.forall_mem_cons.mpr ⟨(tb_7 _ (List.mem_of_getElem? (i := 167) rfl)), (fun _ h => absurd h List.not_mem_nil)⟩)⟩)⟩)⟩)⟩)⟩)⟩)⟩)⟩)⟩)⟩)⟩)⟩)⟩)⟩)⟩)⟩)⟩)⟩)⟩)⟩)⟩)⟩)⟩)
set_option maxRecDepth 100000 in
theorem lwm_wsL_law0_r46 : ∀ w ∈ wsL_law0_r46, w ∈ lw_tbl := (List.forall_mem_cons.mpr ⟨(tb_0 _ (List.mem_of_getElem? (i := 85) rfl)), (List.forall_mem_cons.mpr ⟨(tb_7 _ (List.mem_of_getElem? (i := 168) rfl)), (List.forall_mem_cons.mpr ⟨(tb_4 _ (List.mem_of_getElem? (i := 118) rfl)), (List.forall_mem_cons.mpr ⟨(tb_4 _ (List.mem_of_getElem? (i := 119) rfl)), (List.forall_mem_cons.mpr ⟨(tb_4 _ (List.mem_of_getElem? (i := 120) rfl)), (List.forall_mem_cons.mpr ⟨(tb_4 _ (List.mem_of_getElem? (i := 121) rfl)), (List.forall_mem_cons.mpr ⟨(tb_4 _ (List.mem_of_getElem? (i := 122) rfl)), (List.forall_mem_cons.mpr ⟨(tb_4 _ (List.mem_of_getElem? (i := 123) rfl)), (List.forall_mem_cons.mpr ⟨(tb_4 _ (List.mem_of_getElem? (i := 124) rfl)), (List.forall_mem_cons.mpr ⟨(tb_4 _ (List.mem_of_getElem? (i := 125) rfl)), (List.forall_mem_cons.mpr ⟨(tb_4 _ (List.mem_of_getElem? (i := 126) rfl)), (List.forall_mem_cons.mpr ⟨(tb_4 _ (List.mem_of_getElem? (i := 127) rfl)), (List.forall_mem_cons.mpr ⟨(tb_4 _ (List.mem_of_getElem? (i := 128) rfl)), (List.forall_mem_cons.mpr ⟨(tb_4 _ (List.mem_of_getElem? (i := 129) rfl)), (List.forall_mem_cons.mpr ⟨(tb_4 _ (List.mem_of_getElem? (i := 130) rfl)), (List.forall_mem_cons.mpr ⟨(tb_4 _ (List.mem_of_getElem? (i := 131) rfl)), (List.forall_mem_cons.mpr ⟨(tb_4 _ (List.mem_of_getElem? (i := 132) rfl)), (List.forall_mem_cons.mpr ⟨(tb_4 _ (List.mem_of_getElem? (i := 133) rfl)), (List.forall_mem_cons.mpr ⟨(tb_4 _ (List.mem_of_getElem? (i := 134) rfl)), (List.forall_mem_cons.mpr ⟨(tb_4 _ (List.mem_of_getElem? (i := 135) rfl)), (List.forall_mem_cons.mpr ⟨(tb_7 _ (List.mem_of_getElem? (i := 169) rfl)), (List.forall_mem_cons.mpr ⟨(tb_7 _ (List.mem_of_getElem? (i := 170) rfl)), (List.forall_mem_cons.mpr ⟨(tb_7 _ (List.mem_of_getElem? (i := 171) rfl)), (List.forall_mem_cons.mpr ⟨(tb_7 _ (List.mem_of_getElem? (i := 172) rfl)), (fun _ h => absurd h List.not_mem_nil)⟩)⟩)⟩)⟩)⟩)⟩)⟩)⟩)⟩)⟩)⟩)⟩)⟩)⟩)⟩)⟩)⟩)⟩)⟩)⟩)⟩)⟩)⟩)⟩)
set_option maxRecDepth 100000 in
theorem lwm_wsL_law0_r47 : ∀ w ∈ wsL_law0_r47, w ∈ lw_tbl := (List.forall_mem_cons.mpr ⟨(tb_7 _ (List.mem_of_getElem? (i := 173) rfl)), (List.forall_mem_cons.mpr ⟨(tb_7 _ (List.mem_of_getElem? (i := 175) rfl)), (List.forall_mem_cons.mpr ⟨(tb_0 _ (List.mem_of_getElem? (i := 86) rfl)), (List.forall_mem_cons.mpr ⟨(tb_7 _ (List.mem_of_getElem? (i := 176) rfl)), (List.forall_mem_cons.mpr ⟨(tb_7 _ (List.mem_of_getElem? (i := 177) rfl)), (List.forall_mem_cons.mpr ⟨(tb_7 _ (List.mem_of_getElem? (i := 179) rfl)), (List.forall_mem_cons.mpr ⟨(tb_0 _ (List.mem_of_getElem? (i := 87) rfl)), (List.forall_mem_cons.mpr ⟨(tb_7 _ (List.mem_of_getElem? (i := 180) rfl)), (List.forall_mem_cons.mpr ⟨(tb_4 _ (List.mem_of_getElem? (i := 136) rfl)), (List.forall_mem_cons.mpr ⟨(tb_4 _ (List.mem_of_getElem? (i := 137) rfl)), (List.forall_mem_cons.mpr ⟨(tb_4 _ (List.mem_of_getElem? (i := 138) rfl)), (List.forall_mem_cons.mpr ⟨(tb_4 _ (List.mem_of_getElem? (i := 139) rfl)), (List.forall_mem_cons.mpr ⟨(tb_4 _ (List.mem_of_getElem? (i := 140) rfl)), (List.forall_mem_cons.mpr ⟨(tb_4 _ (List.mem_of_getElem? (i := 141) rfl)), (List.forall_mem_cons.mpr ⟨(tb_4 _ (List.mem_of_getElem? (i := 142) rfl)), (List.forall_mem_cons.mpr ⟨(tb_4 _ (List.mem_of_getElem? (i := 143) rfl)), (List.forall_mem_cons.mpr ⟨(tb_4 _ (List.mem_of_getElem? (i := 144) rfl)), (List.forall_mem_cons.mpr ⟨(tb_4 _ (List.mem_of_getElem? (i := 145) rfl)), (List.forall_mem_cons.mpr ⟨(tb_4 _ (List.mem_of_getElem? (i := 146) rfl)), (List.forall_mem_cons.mpr ⟨(tb_1 _ (List.mem_of_getElem? (i := 238) rfl)), (List.forall_mem_cons.mpr ⟨(tb_4 _ (List.mem_of_getElem? (i := 147) rfl)), (List.forall_mem_cons.mpr ⟨(tb_4 _ (List.mem_of_getElem? (i := 148) rfl)), (List.forall_mem_cons.mpr ⟨(tb_4 _ (List.mem_of_getElem? (i := 149) rfl)), (List.forall_mem_cons.mpr ⟨(tb_4 _ (List.mem_of_getElem? (i := 150) rfl)), (fun _ h => absurd h List.not_mem_nil)⟩)⟩)⟩)⟩)⟩)⟩)⟩)⟩)⟩)⟩)⟩)⟩)⟩)⟩)⟩)⟩)⟩)⟩)⟩)⟩)⟩)⟩)⟩)⟩)
set_option maxRecDepth 100000 in
theorem lwm_wsL_law0_r48 : ∀ w ∈ wsL_law0_r48, w ∈ lw_tbl := (List.forall_mem_cons.mpr ⟨(tb_7 _ (List.mem_of_getElem? (i := 181) rfl)), (List.forall_mem_cons.mpr ⟨(tb_7 _ (List.mem_of_getElem? (i := 182) rfl)), (List.forall_mem_cons.mpr ⟨(tb_7 _ (List.mem_of_getElem? (i := 183) rfl)), (List.forall_mem_cons.mpr ⟨(tb_7 _ (List.mem_of_getElem? (i := 184) rfl)), (List.forall_mem_cons.mpr ⟨(tb_4 _ (List.mem_of_getElem? (i := 151) rfl)), (List.forall_mem_cons.mpr ⟨(tb_4 _ (List.mem_of_getElem? (i := 152) rfl)), (List.forall_mem_cons.mpr ⟨(tb_4 _ (List.mem_of_getElem? (i := 153) rfl)), (List.forall_mem_cons.mpr ⟨(tb_4 _ (List.mem_of_getElem? (i := 154) rfl)), (List.forall_mem_cons.mpr ⟨(tb_4 _ (List.mem_of_getElem? (i := 155) rfl)), (List.forall_mem_cons.mpr ⟨(tb_4 _ (List.mem_of_getElem? (i := 156) rfl)), (List.forall_mem_cons.mpr ⟨(tb_4 _ (List.mem_of_getElem? (i := 157) rfl)), (List.forall_mem_cons.mpr ⟨(tb_4 _ (List.mem_of_getElem? (i := 158) rfl)), (List.forall_mem_cons.mpr ⟨(tb_4 _ (List.mem_of_getElem? (i := 159) rfl)), (List.forall_mem_cons.mpr ⟨(tb_4 _ (List.mem_of_getElem? (i := 161) rfl)), (List.forall_mem_cons.mpr ⟨(tb_0 _ (List.mem_of_getElem? (i := 27) rfl)), (List.forall_mem_cons.mpr ⟨(tb_4 _ (List.mem_of_getElem? (i := 162) rfl)), (List.forall_mem_cons.mpr ⟨(tb_1 _ (List.mem_of_getElem? (i := 85) rfl)), (List.forall_mem_cons.mpr ⟨(tb_1 _ (List.mem_of_getElem? (i := 89) rfl)), (List.forall_mem_cons.mpr ⟨(tb_1 _ (List.mem_of_getElem? (i := 74) rfl)), (List.forall_mem_cons.mpr ⟨(tb_4 _ (List.mem_of_getElem? (i := 163) rfl)), (List.forall_mem_cons.mpr ⟨(tb_4 _ (List.mem_of_getElem? (i := 164) rfl)), (List.forall_mem_cons.mpr ⟨(tb_7 _ (List.mem_of_getElem? (i := 185) rfl)), (List.forall_mem_cons.mpr ⟨(tb_7 _ (List.mem_of_getElem? (i := 186) rfl)), (List.forall_mem_cons.mpr ⟨(tb_7 _ (List.mem_of_getElem? (i := 187) rfl)), (fun _ h => absurd h List.not_mem_nil)⟩)⟩)⟩)⟩)⟩)⟩)⟩)⟩)⟩)⟩)⟩)⟩)⟩)⟩)⟩)⟩)⟩)⟩)⟩)⟩)⟩)⟩)⟩)⟩)
set_option maxRecDepth 100000 in
theorem lwm_wsL_law0_r49 : ∀ w ∈ wsL_law0_r49, w ∈ lw_tbl := (List.forall_mem_cons.mpr ⟨(tb_7 _ (List.mem_of_getElem? (i := 188) rfl)), (List.forall_mem_cons.mpr ⟨(tb_7 _ (List.mem_of_getElem? (i := 189) rfl)), (List.forall_mem_cons.mpr ⟨(tb_7 _ (List.mem_of_getElem? (i := 191) rfl)), (List.forall_mem_cons.mpr ⟨(tb_0 _ (List.mem_of_getElem? (i := 88) rfl)), (List.forall_mem_cons.mpr ⟨(tb_7 _ (List.mem_of_getElem? (i := 192) rfl)), (List.forall_mem_cons.mpr ⟨(tb_7 _ (List.mem_of_getElem? (i := 193) rfl)), (List.forall_mem_cons.mpr ⟨(tb_7 _ (List.mem_of_getElem? (i := 195) rfl)), (List.forall_mem_cons.mpr ⟨(tb_0 _ (List.mem_of_getElem? (i := 89) rfl)), (List.forall_mem_cons.mpr ⟨(tb_7 _ (List.mem_of_getElem? (i := 196) rfl)), (List.forall_mem_cons.mpr ⟨(tb_4 _ (List.mem_of_getElem? (i := 165) rfl)), (List.forall_mem_cons.mpr ⟨(tb_4 _ (List.mem_of_getElem? (i := 166) rfl)), (List.forall_mem_cons.mpr ⟨(tb_4 _ (List.mem_of_getElem? (i := 167) rfl)), (List.forall_mem_cons.mpr ⟨(tb_4 _ (List.mem_of_getElem? (i := 168) rfl)), (List.forall_mem_cons.mpr ⟨(tb_4 _ (List.mem_of_getElem? (i := 169) rfl)), (List.forall_mem_cons.mpr ⟨(tb_4 _ (List.mem_of_getElem? (i := 170) rfl)), (List.forall_mem_cons.mpr ⟨(tb_4 _ (List.mem_of_getElem? (i := 171) rfl)), (List.forall_mem_cons.mpr ⟨(tb_4 _ (List.mem_of_getElem? (i := 172) rfl)), (List.forall_mem_cons.mpr ⟨(tb_4 _ (List.mem_of_getElem? (i := 173) rfl)), (List.forall_mem_cons.mpr ⟨(tb_4 _ (List.mem_of_getElem? (i := 174) rfl)), (List.forall_mem_cons.mpr ⟨(tb_4 _ (List.mem_of_getElem? (i := 175) rfl)), (List.forall_mem_cons.mpr ⟨(tb_4 _ (List.mem_of_getElem? (i := 176) rfl)), (List.forall_mem_cons.mpr ⟨(tb_4 _ (List.mem_of_getElem? (i := 177) rfl)), (List.forall_mem_cons.mpr ⟨(tb_4 _ (List.mem_of_getElem? (i := 178) rfl)), (List.forall_mem_cons.mpr ⟨(tb_4 _ (List.mem_of_getElem? (i := 179) rfl)), (fun _ h => absurd h List.not_mem_nil)⟩)⟩)⟩)⟩)⟩)⟩)⟩)⟩)⟩)⟩)⟩)⟩)⟩)⟩)⟩)⟩)⟩)⟩)⟩)⟩)⟩)⟩)⟩)⟩)
set_option maxRecDepth 100000 in
theorem lwm_wsL_law0_r50 : ∀ w ∈ wsL_law0_r50, w ∈ lw_tbl := (List.forall_mem_cons.mpr ⟨(tb_4 _ (List.mem_of_getElem? (i := 180) rfl)), (List.forall_mem_cons.mpr ⟨(tb_7 _ (List.mem_of_getElem? (i := 197) rfl)), (List.forall_mem_cons.mpr ⟨(tb_7 _ (List.mem_of_getElem? (i := 198) rfl)), (List.forall_mem_cons.mpr ⟨(tb_7 _ (List.mem_of_getElem? (i := 199) rfl)), (List.forall_mem_cons.mpr ⟨(tb_7 _ (List.mem_of_getElem? (i := 200) rfl)), (List.forall_mem_cons.mpr ⟨(tb_7 _ (List.mem_of_getElem? (i := 202) rfl)), (List.forall_mem_cons.mpr ⟨(tb_7 _ (List.mem_of_getElem? (i := 201) rfl)), (List.forall_mem_cons.mpr ⟨(tb_4 _ (List.mem_of_getElem? (i := 181) rfl)), (List.forall_mem_cons.mpr ⟨(tb_4 _ (List.mem_of_getElem? (i := 182) rfl)), (List.forall_mem_cons.mpr ⟨(tb_4 _ (List.mem_of_getElem? (i := 183) rfl)), (List.forall_mem_cons.mpr ⟨(tb_4 _ (List.mem_of_getElem? (i := 184) rfl)), (List.forall_mem_cons.mpr ⟨(tb_4 _ (List.mem_of_getElem? (i := 185) rfl)), (List.forall_mem_cons.mpr ⟨(tb_4 _ (List.mem_of_getElem? (i := 186) rfl)), (List.forall_mem_cons.mpr ⟨(tb_4 _ (List.mem_of_getElem? (i := 187) rfl)), (List.forall_mem_cons.mpr ⟨(tb_4 _ (List.mem_of_getElem? (i := 188) rfl)), (List.forall_mem_cons.mpr ⟨(tb_4 _ (List.mem_of_getElem? (i := 189) rfl)), (List.forall_mem_cons.mpr ⟨(tb_4 _ (List.mem_of_getElem? (i := 190) rfl)), (List.forall_mem_cons.mpr ⟨(tb_4 _ (List.mem_of_getElem? (i := 191) rfl)), (List.forall_mem_cons.mpr ⟨(tb_4 _ (List.mem_of_getElem? (i := 192) rfl)), (List.forall_mem_cons.mpr ⟨(tb_4 _ (List.mem_of_getElem? (i := 193) rfl)), (List.forall_mem_cons.mpr ⟨(tb_4 _ (List.mem_of_getElem? (i := 194) rfl)), (List.forall_mem_cons.mpr ⟨(tb_7 _ (List.mem_of_getElem? (i := 203) rfl)), (List.forall_mem_cons.mpr ⟨(tb_7 _ (List.mem_of_getElem? (i := 204) rfl)), (List.forall_mem_cons.mpr ⟨(tb_7 _ (List.mem_of_getElem? (i := 205) rfl)), (fun _ h => absurd h List.not_mem_nil)⟩)⟩)⟩)⟩)⟩)⟩)⟩)⟩)⟩)⟩)⟩)⟩)⟩)⟩)⟩)⟩)⟩)⟩)⟩)⟩)⟩)⟩)⟩)⟩)
set_option maxRecDepth 100000 in
theorem lwm_wsL_law0_r51 : ∀ w ∈ wsL_law0_r51, w ∈ lw_tbl := (List.forall_mem_cons.mpr ⟨(tb_7 _ (List.mem_of_getElem? (i := 206) rfl)), (List.forall_mem_cons.mpr ⟨(tb_7 _ (List.mem_of_getElem? (i := 207) rfl)), (List.forall_mem_cons.mpr ⟨(tb_7 _ (List.mem_of_getElem? (i := 209) rfl)), (List.forall_mem_cons.mpr ⟨(tb_0 _ (List.mem_of_getElem? (i := 90) rfl)), (List.forall_mem_cons.mpr ⟨(tb_7 _ (List.mem_of_getElem? (i := 210) rfl)), (List.forall_mem_cons.mpr ⟨(tb_7 _ (List.mem_of_getElem? (i := 211) rfl)), (List.forall_mem_cons.mpr ⟨(tb_7 _ (List.mem_of_getElem? (i := 213) rfl)), (List.forall_mem_cons.mpr ⟨(tb_0 _ (List.mem_of_getElem? (i := 91) rfl)), (List.forall_mem_cons.mpr ⟨(tb_7 _ (List.mem_of_getElem? (i := 214) rfl)), (List.forall_mem_cons.mpr ⟨(tb_4 _ (List.mem_of_getElem? (i := 195) rfl)), (List.forall_mem_cons.mpr ⟨(tb_4 _ (List.mem_of_getElem? (i := 196) rfl)), (List.forall_mem_cons.mpr ⟨(tb_4 _ (List.mem_of_getElem? (i := 197) rfl)), (List.forall_mem_cons.mpr ⟨(tb_4 _ (List.mem_of_getElem? (i := 198) rfl)), (List.forall_mem_cons.mpr ⟨(tb_4 _ (List.mem_of_getElem? (i := 204) rfl)), (List.forall_mem_cons.mpr ⟨(tb_4 _ (List.mem_of_getElem? (i := 199) rfl)), (List.forall_mem_cons.mpr ⟨(tb_4 _ (List.mem_of_getElem? (i := 201) rfl)), (List.forall_mem_cons.mpr ⟨(tb_0 _ (List.mem_of_getElem? (i := 28) rfl)), (List.forall_mem_cons.mpr ⟨(tb_4 _ (List.mem_of_getElem? (i := 202) rfl)), (List.forall_mem_cons.mpr ⟨(tb_4 _ (List.mem_of_getElem? (i := 203) rfl)), (List.forall_mem_cons.mpr ⟨(tb_7 _ (List.mem_of_getElem? (i := 215) rfl)), (List.forall_mem_cons.mpr ⟨(tb_7 _ (List.mem_of_getElem? (i := 216) rfl)), (List.forall_mem_cons.mpr ⟨(tb_7 _ (List.mem_of_getElem? (i := 217) rfl)), (List.forall_mem_cons.mpr ⟨(tb_7 _ (List.mem_of_getElem? (i := 218) rfl)), (List.forall_mem_cons.mpr ⟨(tb_7 _ (List.mem_of_getElem? (i := 219) rfl)), (fun _ h => absurd h List.not_mem_nil)⟩)⟩)⟩)⟩)⟩)⟩)⟩)⟩)⟩)⟩)⟩)⟩)⟩)⟩)⟩)⟩)⟩)⟩)⟩)⟩)⟩)⟩)⟩)⟩)
set_option maxRecDepth 100000 in
theorem lwm_wsL_law0_r52 : ∀ w ∈ wsL_law0_r52, w ∈ lw_tbl := (List.forall_mem_cons.mpr ⟨(tb_7 _ (List.mem_of_getElem? (i := 221) rfl)), (List.forall_mem_cons.mpr ⟨(tb_0 _ (List.mem_of_getElem? (i := 92) rfl)), (List.forall_mem_cons.mpr ⟨(tb_7 _ (List.mem_of_getElem? (i := 222) rfl)), (List.forall_mem_cons.mpr ⟨(tb_7 _ (List.mem_of_getElem? (i := 223) rfl)), (List.forall_mem_cons.mpr ⟨(tb_7 _ (List.mem_of_getElem? (i := 225) rfl)), (List.forall_mem_cons.mpr ⟨(tb_0 _ (List.mem_of_getElem? (i := 93) rfl)), (List.forall_mem_cons.mpr ⟨(tb_7 _ (List.mem_of_getElem? (i := 226) rfl)), (List.forall_mem_cons.mpr ⟨(tb_4 _ (List.mem_of_getElem? (i := 205) rfl)), (List.forall_mem_cons.mpr ⟨(tb_4 _ (List.mem_of_getElem? (i := 206) rfl)), (List.forall_mem_cons.mpr ⟨(tb_4 _ (List.mem_of_getElem? (i := 207) rfl)), (List.forall_mem_cons.mpr ⟨(tb_4 _ (List.mem_of_getElem? (i := 208) rfl)), (List.forall_mem_cons.mpr ⟨(tb_4 _ (List.mem_of_getElem? (i := 209) rfl)), (List.forall_mem_cons.mpr ⟨(tb_4 _ (List.mem_of_getElem? (i := 210) rfl)), (List.forall_mem_cons.mpr ⟨(tb_4 _ (List.mem_of_getElem? (i := 212) rfl)), (List.forall_mem_cons.mpr ⟨(tb_0 _ (List.mem_of_getElem? (i := 29) rfl)), (List.forall_mem_cons.mpr ⟨(tb_4 _ (List.mem_of_getElem? (i := 213) rfl)), (List.forall_mem_cons.mpr ⟨(tb_7 _ (List.mem_of_getElem? (i := 227) rfl)), (List.forall_mem_cons.mpr ⟨(tb_7 _ (List.mem_of_getElem? (i := 228) rfl)), (List.forall_mem_cons.mpr ⟨(tb_7 _ (List.mem_of_getElem? (i := 229) rfl)), (List.forall_mem_cons.mpr ⟨(tb_7 _ (List.mem_of_getElem? (i := 230) rfl)), (List.forall_mem_cons.mpr ⟨(tb_7 _ (List.mem_of_getElem? (i := 231) rfl)), (List.forall_mem_cons.mpr ⟨(tb_7 _ (List.mem_of_getElem? (i := 233) rfl)), (List.forall_mem_cons.mpr ⟨(tb_0 _ (List.mem_of_getElem? (i := 94) rfl)), (List.forall_mem_cons.mpr ⟨(tb_7 _ (List.mem_of_getElem? (i := 234) rfl)), (fun _ h => absurd h List.not_mem_nil)⟩)⟩)⟩)⟩)⟩)⟩)⟩)⟩)⟩)⟩)⟩)⟩)⟩)⟩)⟩)⟩)⟩)⟩)⟩)⟩)⟩)⟩)⟩)⟩)
set_option maxRecDepth 100000 in
theorem lwm_wsL_law0_r53 : ∀ w ∈ wsL_law0_r53, w ∈ lw_tbl := (List.forall_mem_cons.mpr ⟨(tb_4 _ (List.mem_of_getElem? (i := 214) rfl)), (List.forall_mem_cons.mpr ⟨(tb_4 _ (List.mem_of_getElem? (i := 215) rfl)), (List.forall_mem_cons.mpr ⟨(tb_4 _ (List.mem_of_getElem? (i := 216) rfl)), (List.forall_mem_cons.mpr ⟨(tb_4 _ (List.mem_of_getElem? (i := 217) rfl)), (List.forall_mem_cons.mpr ⟨(tb_4 _ (List.mem_of_getElem? (i := 218) rfl)), (List.forall_mem_cons.mpr ⟨(tb_4 _ (List.mem_of_getElem? (i := 219) rfl)), (List.forall_mem_cons.mpr ⟨(tb_4 _ (List.mem_of_getElem? (i := 220) rfl)), (List.forall_mem_cons.mpr ⟨(tb_4 _ (List.mem_of_getElem? (i := 221) rfl)), (List.forall_mem_cons.mpr ⟨(tb_2 _ (List.mem_of_getElem? (i := 59) rfl)), (List.forall_mem_cons.mpr ⟨(tb_2 _ (List.mem_of_getElem? (i := 60) rfl)), (List.forall_mem_cons.mpr ⟨(tb_2 _ (List.mem_of_getElem? (i := 61) rfl)), (List.forall_mem_cons.mpr ⟨(tb_2 _ (List.mem_of_getElem? (i := 62) rfl)), (List.forall_mem_cons.mpr ⟨(tb_2 _ (List.mem_of_getElem? (i := 63) rfl)), (List.forall_mem_cons.mpr ⟨(tb_4 _ (List.mem_of_getElem? (i := 222) rfl)), (List.forall_mem_cons.mpr ⟨(tb_4 _ (List.mem_of_getElem? (i := 223) rfl)), (List.forall_mem_cons.mpr ⟨(tb_4 _ (List.mem_of_getElem? (i := 224) rfl)), (List.forall_mem_cons.mpr ⟨(tb_4 _ (List.mem_of_getElem? (i := 226) rfl)), (List.forall_mem_cons.mpr ⟨(tb_0 _ (List.mem_of_getElem? (i := 30) rfl)), (List.forall_mem_cons.mpr ⟨(tb_4 _ (List.mem_of_getElem? (i := 227) rfl)), (List.forall_mem_cons.mpr ⟨(tb_4 _ (List.mem_of_getElem? (i := 228) rfl)), (List.forall_mem_cons.mpr ⟨(tb_4 _ (List.mem_of_getElem? (i := 229) rfl)), (List.forall_mem_cons.mpr ⟨(tb_4 _ (List.mem_of_getElem? (i := 230) rfl)), (List.forall_mem_cons.mpr ⟨(tb_4 _ (List.mem_of_getElem? (i := 232) rfl)), (List.forall_mem_cons.mpr ⟨(tb_0 _ (List.mem_of_getElem? (i := 31) rfl)), (fun _ h => absurd h List.not_mem_nil)⟩)⟩)⟩)⟩)⟩)⟩)⟩)⟩)⟩)⟩)⟩)⟩)⟩)⟩)⟩)⟩)⟩)⟩)⟩)⟩)⟩)⟩)⟩)⟩)
set_option maxRecDepth 100000 in
theorem lwm_wsL_law0_r54 : ∀ w ∈ wsL_law0_r54, w ∈ lw_tbl := (List.forall_mem_cons.mpr ⟨(tb_4 _ (List.mem_of_getElem? (i := 233) rfl)), (List.forall_mem_cons.mpr ⟨(tb_7 _ (List.mem_of_getElem? (i := 235) rfl)), (List.forall_mem_cons.mpr ⟨(tb_7 _ (List.mem_of_getElem? (i := 236) rfl)), (List.forall_mem_cons.mpr ⟨(tb_7 _ (List.mem_of_getElem? (i := 237) rfl)), (List.forall_mem_cons.mpr ⟨(tb_7 _ (List.mem_of_getElem? (i := 238) rfl)), (List.forall_mem_cons.mpr ⟨(tb_7 _ (List.mem_of_getElem? (i := 239) rfl)), (List.forall_mem_cons.mpr ⟨(tb_8 _ (List.mem_of_getElem? (i := 0) rfl)), (List.forall_mem_cons.mpr ⟨(tb_8 _ (List.mem_of_getElem? (i := 2) rfl)), (List.forall_mem_cons.mpr ⟨(tb_0 _ (List.mem_of_getElem? (i := 95) rfl)), (List.forall_mem_cons.mpr ⟨(tb_8 _ (List.mem_of_getElem? (i := 3) rfl)), (List.forall_mem_cons.mpr ⟨(tb_8 _ (List.mem_of_getElem? (i := 4) rfl)), (List.forall_mem_cons.mpr ⟨(tb_4 _ (List.mem_of_getElem? (i := 234) rfl)), (List.forall_mem_cons.mpr ⟨(tb_4 _ (List.mem_of_getElem? (i := 235) rfl)), (List.forall_mem_cons.mpr ⟨(tb_4 _ (List.mem_of_getElem? (i := 236) rfl)), (List.forall_mem_cons.mpr ⟨(tb_4 _ (List.mem_of_getElem? (i := 237) rfl)), (List.forall_mem_cons.mpr ⟨(tb_4 _ (List.mem_of_getElem? (i := 238) rfl)), (List.forall_mem_cons.mpr ⟨(tb_4 _ (List.mem_of_getElem? (i := 239) rfl)), (List.forall_mem_cons.mpr ⟨(tb_5 _ (List.mem_of_getElem? (i := 0) rfl)), (List.forall_mem_cons.mpr ⟨(tb_5 _ (List.mem_of_getElem? (i := 1) rfl)), (List.forall_mem_cons.mpr ⟨(tb_1 _ (List.mem_of_getElem? (i := 82) rfl)), (List.forall_mem_cons.mpr ⟨(tb_8 _ (List.mem_of_getElem? (i := 5) rfl)), (List.forall_mem_cons.mpr ⟨(tb_8 _ (List.mem_of_getElem? (i := 6) rfl)), (List.forall_mem_cons.mpr ⟨(tb_8 _ (List.mem_of_getElem? (i := 7) rfl)), (List.forall_mem_cons.mpr ⟨(tb_8 _ (List.mem_of_getElem? (i := 8) rfl)), (fun _ h => absurd h List.not_mem_nil)⟩)⟩)⟩)⟩)⟩)⟩)⟩)⟩)⟩)⟩)⟩)⟩)⟩)⟩)⟩)⟩)⟩)⟩)⟩)⟩)⟩)⟩)⟩)⟩)
set_option maxRecDepth 100000 in
theorem lwm_wsL_law0_r55 : ∀ w ∈ wsL_law0_r55, w ∈ lw_tbl := (List.forall_mem_cons.mpr ⟨(tb_5 _ (List.mem_of_getElem? (i := 2) rfl)), (List.forall_mem_cons.mpr ⟨(tb_5 _ (List.mem_of_getElem? (i := 3) rfl)), (List.forall_mem_cons.mpr ⟨(tb_5 _ (List.mem_of_getElem? (i := 4) rfl)), (List.forall_mem_cons.mpr ⟨(tb_5 _ (List.mem_of_getElem? (i := 5) rfl)), (List.forall_mem_cons.mpr ⟨(tb_5 _ (List.mem_of_getElem? (i := 6) rfl)), (List.forall_mem_cons.mpr ⟨(tb_5 _ (List.mem_of_getElem? (i := 7) rfl)), (List.forall_mem_cons.mpr ⟨(tb_5 _ (List.mem_of_getElem? (i := 8) rfl)), (List.forall_mem_cons.mpr ⟨(tb_5 _ (List.mem_of_getElem? (i := 9) rfl)), (List.forall_mem_cons.mpr ⟨(tb_5 _ (List.mem_of_getElem? (i := 10) rfl)), (List.forall_mem_cons.mpr ⟨(tb_5 _ (List.mem_of_getElem? (i := 11) rfl)), (List.forall_mem_cons.mpr ⟨(tb_5 _ (List.mem_of_getElem? (i := 12) rfl)), (List.forall_mem_cons.mpr ⟨(tb_5 _ (List.mem_of_getElem? (i := 13) rfl)), (List.forall_mem_cons.mpr ⟨(tb_5 _ (List.mem_of_getElem? (i := 14) rfl)), (List.forall_mem_cons.mpr ⟨(tb_5 _ (List.mem_of_getElem? (i := 16) rfl)), (List.forall_mem_cons.mpr ⟨(tb_0 _ (List.mem_of_getElem? (i := 32) rfl)), (List.forall_mem_cons.mpr ⟨(tb_5 _ (List.mem_of_getElem? (i := 17) rfl)), (List.forall_mem_cons.mpr ⟨(tb_5 _ (List.mem_of_getElem? (i := 18) rfl)), (List.forall_mem_cons.mpr ⟨(tb_5 _ (List.mem_of_getElem? (i := 19) rfl)), (List.forall_mem_cons.mpr ⟨(tb_5 _ (List.mem_of_getElem? (i := 20) rfl)), (List.forall_mem_cons.mpr ⟨(tb_5 _ (List.mem_of_getElem? (i := 21) rfl)), (List.forall_mem_cons.mpr ⟨(tb_5 _ (List.mem_of_getElem? (i := 22) rfl)), (List.forall_mem_cons.mpr ⟨(tb_5 _ (List.mem_of_getElem? (i := 23) rfl)), (List.forall_mem_cons.mpr ⟨(tb_5 _ (List.mem_of_getElem? (i := 24) rfl)), (List.forall_mem_cons.mpr ⟨(tb_5 _ (List.mem_of_getElem? (i := 25) rfl)), (fun _ h => absurd h List.not_mem_nil)⟩)⟩)⟩)⟩)⟩)⟩)⟩)⟩)⟩)⟩)⟩)⟩)⟩)⟩)⟩)⟩)⟩)⟩)⟩)⟩)⟩)⟩)⟩)⟩)
set_option maxRecDepth 100000 in
theorem lwm_wsL_law0_r56 : ∀ w ∈ wsL_law0_r56, w ∈ lw_tbl := (List.forall_mem_cons.mpr ⟨(tb_5 _ (List.mem_of_getElem? (i := 26) rfl)), (List.forall_mem_cons.mpr ⟨(tb_5 _ (List.mem_of_getElem? (i := 27) rfl)), (List.forall_mem_cons.mpr ⟨(tb_5 _ (List.mem_of_getElem? (i := 29) rfl)), (List.forall_mem_cons.mpr ⟨(tb_0 _ (List.mem_of_getElem? (i := 33) rfl)), (List.forall_mem_cons.mpr ⟨(tb_5 _ (List.mem_of_getElem? (i := 30) rfl)), (List.forall_mem_cons.mpr ⟨(tb_5 _ (List.mem_of_getElem? (i := 31) rfl)), (List.forall_mem_cons.mpr ⟨(tb_5 _ (List.mem_of_getElem? (i := 32) rfl)), (List.forall_mem_cons.mpr ⟨(tb_5 _ (List.mem_of_getElem? (i := 33) rfl)), (List.forall_mem_cons.mpr ⟨(tb_5 _ (List.mem_of_getElem? (i := 34) rfl)), (List.forall_mem_cons.mpr ⟨(tb_5 _ (List.mem_of_getElem? (i := 35) rfl)), (List.forall_mem_cons.mpr ⟨(tb_5 _ (List.mem_of_getElem? (i := 36) rfl)), (List.forall_mem_cons.mpr ⟨(tb_5 _ (List.mem_of_getElem? (i := 37) rfl)), (List.forall_mem_cons.mpr ⟨(tb_5 _ (List.mem_of_getElem? (i := 38) rfl)), (List.forall_mem_cons.mpr ⟨(tb_5 _ (List.mem_of_getElem? (i := 39) rfl)), (List.forall_mem_cons.mpr ⟨(tb_5 _ (List.mem_of_getElem? (i := 40) rfl)), (List.forall_mem_cons.mpr ⟨(tb_5 _ (List.mem_of_getElem? (i := 41) rfl)), (List.forall_mem_cons.mpr ⟨(tb_5 _ (List.mem_of_getElem? (i := 42) rfl)), (List.forall_mem_cons.mpr ⟨(tb_1 _ (List.mem_of_getElem? (i := 97) rfl)), (List.forall_mem_cons.mpr ⟨(tb_5 _ (List.mem_of_getElem? (i := 43) rfl)), (List.forall_mem_cons.mpr ⟨(tb_5 _ (List.mem_of_getElem? (i := 44) rfl)), (List.forall_mem_cons.mpr ⟨(tb_5 _ (List.mem_of_getElem? (i := 45) rfl)), (List.forall_mem_cons.mpr ⟨(tb_5 _ (List.mem_of_getElem? (i := 46) rfl)), (List.forall_mem_cons.mpr ⟨(tb_5 _ (List.mem_of_getElem? (i := 47) rfl)), (List.forall_mem_cons.mpr ⟨(tb_8 _ (List.mem_of_getElem? (i := 9) rfl)), (fun _ h => absurd h List.not_mem_nil)⟩)⟩)⟩)⟩)⟩)⟩)⟩)⟩)⟩)⟩)⟩)⟩)⟩)⟩)⟩)⟩)⟩)⟩)⟩)⟩)⟩)⟩)⟩)⟩)
set_option maxRecDepth 100000 in
theorem lwm_wsL_law0_r57 : ∀ w ∈ wsL_law0_r57, w ∈ lw_tbl := (List.forall_mem_cons.mpr ⟨(tb_8 _ (List.mem_of_getElem? (i := 10) rfl)), (List.forall_mem_cons.mpr ⟨(tb_8 _ (List.mem_of_getElem? (i := 11) rfl)), (List.forall_mem_cons.mpr ⟨(tb_8 _ (List.mem_of_getElem? (i := 12) rfl)), (List.forall_mem_cons.mpr ⟨(tb_8 _ (List.mem_of_getElem? (i := 13) rfl)), (List.forall_mem_cons.mpr ⟨(tb_8 _ (List.mem_of_getElem? (i := 15) rfl)), (List.forall_mem_cons.mpr ⟨(tb_0 _ (List.mem_of_getElem? (i := 96) rfl)), (List.forall_mem_cons.mpr ⟨(tb_8 _ (List.mem_of_getElem? (i := 16) rfl)), (List.forall_mem_cons.mpr ⟨(tb_8 _ (List.mem_of_getElem? (i := 17) rfl)), (List.forall_mem_cons.mpr ⟨(tb_8 _ (List.mem_of_getElem? (i := 19) rfl)), (List.forall_mem_cons.mpr ⟨(tb_0 _ (List.mem_of_getElem? (i := 97) rfl)), (List.forall_mem_cons.mpr ⟨(tb_8 _ (List.mem_of_getElem? (i := 20) rfl)), (List.forall_mem_cons.mpr ⟨(tb_8 _ (List.mem_of_getElem? (i := 21) rfl)), (List.forall_mem_cons.mpr ⟨(tb_8 _ (List.mem_of_getElem? (i := 23) rfl)), (List.forall_mem_cons.mpr ⟨(tb_0 _ (List.mem_of_getElem? (i := 98) rfl)), (List.forall_mem_cons.mpr ⟨(tb_8 _ (List.mem_of_getElem? (i := 24) rfl)), (List.forall_mem_cons.mpr ⟨(tb_8 _ (List.mem_of_getElem? (i := 25) rfl)), (List.forall_mem_cons.mpr ⟨(tb_8 _ (List.mem_of_getElem? (i := 27) rfl)), (List.forall_mem_cons.mpr ⟨(tb_0 _ (List.mem_of_getElem? (i := 99) rfl)), (List.forall_mem_cons.mpr ⟨(tb_8 _ (List.mem_of_getElem? (i := 28) rfl)), (List.forall_mem_cons.mpr ⟨(tb_8 _ (List.mem_of_getElem? (i := 29) rfl)), (List.forall_mem_cons.mpr ⟨(tb_8 _ (List.mem_of_getElem? (i := 31) rfl)), (List.forall_mem_cons.mpr ⟨(tb_0 _ (List.mem_of_getElem? (i := 100) rfl)), (List.forall_mem_cons.mpr ⟨(tb_8 _ (List.mem_of_getElem? (i := 32) rfl)), (List.forall_mem_cons.mpr ⟨(tb_8 _ (List.mem_of_getElem? (i := 33) rfl)), (fun _ h => absurd h List.not_mem_nil)⟩)⟩)⟩)⟩)⟩)⟩)⟩)⟩)⟩)⟩)⟩)⟩)⟩)⟩)⟩)⟩)⟩)⟩)⟩)⟩)⟩)⟩)⟩)⟩)
set_option maxRecDepth 100000 in
theorem lwm_wsL_law0_r58 : ∀ w ∈ wsL_law0_r58, w ∈ lw_tbl := (List.forall_mem_cons.mpr ⟨(tb_8 _ (List.mem_of_getElem? (i := 35) rfl)), (List.forall_mem_cons.mpr ⟨(tb_0 _ (List.mem_of_getElem? (i := 101) rfl)), (List.forall_mem_cons.mpr ⟨(tb_8 _ (List.mem_of_getElem? (i := 36) rfl)), (List.forall_mem_cons.mpr ⟨(tb_8 _ (List.mem_of_getElem? (i := 37) rfl)), (List.forall_mem_cons.mpr ⟨(tb_8 _ (List.mem_of_getElem? (i := 39) rfl)), (List.forall_mem_cons.mpr ⟨(tb_0 _ (List.mem_of_getElem? (i := 102) rfl)), (List.forall_mem_cons.mpr ⟨(tb_8 _ (List.mem_of_getElem? (i := 40) rfl)), (List.forall_mem_cons.mpr ⟨(tb_5 _ (List.mem_of_getElem? (i := 48) rfl)), (List.forall_mem_cons.mpr ⟨(tb_5 _ (List.mem_of_getElem? (i := 49) rfl)), (List.forall_mem_cons.mpr ⟨(tb_5 _ (List.mem_of_getElem? (i := 50) rfl)), (List.forall_mem_cons.mpr ⟨(tb_5 _ (List.mem_of_getElem? (i := 51) rfl)), (List.forall_mem_cons.mpr ⟨(tb_5 _ (List.mem_of_getElem? (i := 52) rfl)), (List.forall_mem_cons.mpr ⟨(tb_8 _ (List.mem_of_getElem? (i := 41) rfl)), (List.forall_mem_cons.mpr ⟨(tb_8 _ (List.mem_of_getElem? (i := 42) rfl)), (List.forall_mem_cons.mpr ⟨(tb_8 _ (List.mem_of_getElem? (i := 43) rfl)), (List.forall_mem_cons.mpr ⟨(tb_8 _ (List.mem_of_getElem? (i := 44) rfl)), (List.forall_mem_cons.mpr ⟨(tb_5 _ (List.mem_of_getElem? (i := 53) rfl)), (List.forall_mem_cons.mpr ⟨(tb_5 _ (List.mem_of_getElem? (i := 54) rfl)), (List.forall_mem_cons.mpr ⟨(tb_5 _ (List.mem_of_getElem? (i := 55) rfl)), (List.forall_mem_cons.mpr ⟨(tb_5 _ (List.mem_of_getElem? (i := 56) rfl)), (List.forall_mem_cons.mpr ⟨(tb_5 _ (List.mem_of_getElem? (i := 57) rfl)), (List.forall_mem_cons.mpr ⟨(tb_5 _ (List.mem_of_getElem? (i := 58) rfl)), (List.forall_mem_cons.mpr ⟨(tb_5 _ (List.mem_of_getElem? (i := 59) rfl)), (List.forall_mem_cons.mpr ⟨(tb_5 _ (List.mem_of_getElem? (i := 60) rfl)), (fun _ h => absurd h List.not_mem_nil)⟩)⟩)⟩)⟩)⟩)⟩)⟩)⟩)⟩)⟩)⟩)⟩)⟩)⟩)⟩)⟩)⟩)⟩)⟩)⟩)⟩)⟩)⟩)⟩)
set_option maxRecDepth 100000 in
theorem lwm_wsL_law0_r59 : ∀ w ∈ wsL_law0_r59, w ∈ lw_tbl := (List.forall_mem_cons.mpr ⟨(tb_5 _ (List.mem_of_getElem? (i := 61) rfl)), (List.forall_mem_cons.mpr ⟨(tb_8 _ (List.mem_of_getElem? (i := 45) rfl)), (List.forall_mem_cons.mpr ⟨(tb_8 _ (List.mem_of_getElem? (i := 46) rfl)), (List.forall_mem_cons.mpr ⟨(tb_8 _ (List.mem_of_getElem? (i := 47) rfl)), (List.forall_mem_cons.mpr ⟨(tb_8 _ (List.mem_of_getElem? (i := 48) rfl)), (List.forall_mem_cons.mpr ⟨(tb_5 _ (List.mem_of_getElem? (i := 62) rfl)), (List.forall_mem_cons.mpr ⟨(tb_5 _ (List.mem_of_getElem? (i := 63) rfl)), (List.forall_mem_cons.mpr ⟨(tb_5 _ (List.mem_of_getElem? (i := 64) rfl)), (List.forall_mem_cons.mpr ⟨(tb_5 _ (List.mem_of_getElem? (i := 65) rfl)), (List.forall_mem_cons.mpr ⟨(tb_8 _ (List.mem_of_getElem? (i := 49) rfl)), (List.forall_mem_cons.mpr ⟨(tb_8 _ (List.mem_of_getElem? (i := 50) rfl)), (List.forall_mem_cons.mpr ⟨(tb_8 _ (List.mem_of_getElem? (i := 51) rfl)), (List.forall_mem_cons.mpr ⟨(tb_8 _ (List.mem_of_getElem? (i := 52) rfl)), (List.forall_mem_cons.mpr ⟨(tb_5 _ (List.mem_of_getElem? (i := 66) rfl)), (List.forall_mem_cons.mpr ⟨(tb_5 _ (List.mem_of_getElem? (i := 67) rfl)), (List.forall_mem_cons.mpr ⟨(tb_5 _ (List.mem_of_getElem? (i := 68) rfl)), (List.forall_mem_cons.mpr ⟨(tb_5 _ (List.mem_of_getElem? (i := 69) rfl)), (List.forall_mem_cons.mpr ⟨(tb_1 _ (List.mem_of_getElem? (i := 70) rfl)), (List.forall_mem_cons.mpr ⟨(tb_8 _ (List.mem_of_getElem? (i := 53) rfl)), (List.forall_mem_cons.mpr ⟨(tb_8 _ (List.mem_of_getElem? (i := 54) rfl)), (List.forall_mem_cons.mpr ⟨(tb_8 _ (List.mem_of_getElem? (i := 55) rfl)), (List.forall_mem_cons.mpr ⟨(tb_8 _ (List.mem_of_getElem? (i := 56) rfl)), (fun _ h => absurd h List.not_mem_nil)⟩)⟩)⟩)⟩)⟩)⟩)⟩)⟩)⟩)⟩)⟩)⟩)⟩)⟩)⟩)⟩)⟩)⟩)⟩)⟩)⟩)⟩)
set_option maxRecDepth 100000 in
theorem lwm_wsX110 : ∀ w ∈ wsX110, w ∈ lw_tbl := mem_pl [436, 438, 440, 442, 444, 446, 448, 450, 452, 454, 456, 458, 460, 462, 464, 466, 468, 470] rfl
set_option maxRecDepth 100000 in
theorem lwm_wsX120 : ∀ w ∈ wsX120, w ∈ lw_tbl := mem_pl [1260, 1262, 1264, 1266, 1268, 1270, 1272, 1274, 1276, 1278, 1280, 1282, 1284, 1286, 1288, 1290, 1292, 1294, 1296, 1298, 1300, 1302, 1304, 1306, 1308, 1310, 1312, 1314, 1316, 1318, 1320, 1322, 1324, 1326, 1328, 1330, 1332, 1334, 1336, 1338, 1340, 1342, 1344, 1346, 1348, 1350] rfl
set_option maxRecDepth 100000 in
theorem lwm_wsX100 : ∀ w ∈ wsX100, w ∈ lw_tbl := mem_pl [145, 147, 149] rfl
set_option maxRecDepth 100000 in
theorem lwm_wsX60 : ∀ w ∈ wsX60, w ∈ lw_tbl := mem_pl [231, 233, 235, 237] rfl
set_option maxRecDepth 100000 in
theorem lwm_wsX10 : ∀ w ∈ wsX10, w ∈ lw_tbl := mem_pl [251, 253, 255] rfl
set_option maxRecDepth 100000 in
theorem lwm_wsX50 : ∀ w ∈ wsX50, w ∈ lw_tbl := mem_pl [205, 207, 209, 211, 213, 215, 217, 219, 221, 223] rfl
set_option maxRecDepth 100000 in
theorem lwm_wsX20 : ∀ w ∈ wsX20, w ∈ lw_tbl := mem_pl [278, 280, 282, 284, 286, 288] rfl
set_option maxRecDepth 100000 in
theorem lwm_wsX90 : ∀ w ∈ wsX90, w ∈ lw_tbl := mem_pl [301, 303, 305] rfl
set_option maxRecDepth 100000 in
theorem lwm_wsX30 : ∀ w ∈ wsX30, w ∈ lw_tbl := mem_pl [315] rfl
set_option maxRecDepth 100000 in
theorem lwm_wsX00 : ∀ w ∈ wsX00, w ∈ lw_tbl := mem_pl [328, 330, 332] rfl
set_option maxRecDepth 100000 in
theorem lwm_wsX80 : ∀ w ∈ wsX80, w ∈ lw_tbl := mem_pl [349, 351, 353, 355, 357, 359, 361] rfl
set_option maxRecDepth 100000 in
theorem lwm_wsX40 : ∀ w ∈ wsX40, w ∈ lw_tbl := mem_pl [381, 383, 385, 387, 389, 391, 393] rfl
set_option maxRecDepth 100000 in
theorem lwm_wsX70 : ∀ w ∈ wsX70, w ∈ lw_tbl := mem_pl [407, 409, 411, 413, 415] rfl
theorem wsL_law_in0 : ∀ w ∈ wsL_law0, w ∈ lw_tbl := (fun w h => (List.mem_append.mp h).elim ((fun w h => (List.mem_append.mp h).elim ((fun w h => (List.mem_append.mp h).elim ((fun w h => (List.mem_append.mp h).elim ((fun w h => (List.mem_append.mp h).elim ((fun w h => (List.mem_append.mp h).elim ((fun w h => (List.mem_append.mp h).elim ((fun w h => (List.mem_append.mp h).elim ((fun w h => (List.mem_append.mp h).elim ((fun w h => (List.mem_append.mp h).elim ((fun w h => (List.mem_append.mp h).elim ((fun w h => (List.mem_append.mp h).elim ((fun w h => (List.mem_append.mp h).elim ((fun w h => (List.mem_append.mp h).elim ((fun w h => (List.mem_append.mp h).elim (lwm_wsL_law0_r1 w) ((fun w h => (List.mem_append.mp h).elim (lwm_wsL_law0_r2 w) ((fun w h => (List.mem_append.mp h).elim (lwm_wsL_law0_r3 w) ((fun w h => (List.mem_append.mp h).elim (lwm_wsL_law0_r4 w) ((fun w h => (List.mem_append.mp h).elim (lwm_wsL_law0_r5 w) ((fun w h => (List.mem_append.mp h).elim (lwm_wsL_law0_r6 w) ((fun w h => (List.mem_append.mp h).elim (lwm_wsL_law0_r7 w) ((fun w h => (List.mem_append.mp h).elim (lwm_wsL_law0_r8 w) ((fun w h => (List.mem_append.mp h).elim (lwm_wsL_law0_r9 w) ((fun w h => (List.mem_append.mp h).elim (lwm_wsL_law0_r10 w) ((fun w h => (List.mem_append.mp h).elim (lwm_wsL_law0_r11 w) ((fun w h => (List.mem_append.mp h).elim (lwm_wsL_law0_r12 w) ((fun w h => (List.mem_append.mp h).elim (lwm_wsL_law0_r13 w) ((fun w h => (List.mem_append.mp h).elim (lwm_wsL_law0_r14 w) ((fun w h => (List.mem_append.mp h).elim (lwm_wsL_law0_r15 w) ((fun w h => (List.mem_append.mp h).elim (lwm_wsL_law0_r16 w) ((fun w h => (List.mem_append.mp h).elim (lwm_wsL_law0_r17 w) ((fun w h => (List.mem_append.mp h).elim (lwm_wsL_law0_r18 w) ((fun w h => (List.mem_append.mp h).elim (lwm_wsL_law0_r19 w) ((fun w h => (List.mem_append.mp h).elim (lwm_wsL_law0_r20 w) ((fun w h => (List.mem_append.mp h).elim (lwm_wsL_law0_r21 w) ((fun w h => (List.mem_append.mp h).elim (lwm_wsL_law0_r22 w) ((fun w h => (List.mem_append.mp h).elim (lwm_wsL_law0_r23 w) ((fun w h => (List.mem_append.mp h).elim (lwm_wsL_law0_r24 w) ((fun w h => (List.mem_append.mp h).elim (lwm_wsL_law0_r25 w) ((fun w h => (List.mem_append.mp h).elim (lwm_wsL_law0_r26 w) ((fun w h => (List.mem_append.mp h).elim (lwm_wsL_law0_r27 w) ((fun w h => (List.mem_append.mp h).elim (lwm_wsL_law0_r28 w) ((fun w h => (List.mem_append.mp h).elim (lwm_wsL_law0_r29 w) ((fun w h => (List.mem_append.mp h).elim (lwm_wsL_law0_r30 w) ((fun w h => (List.mem_append.mp h).elim (lwm_wsL_law0_r31 w) ((fun w h => (List.mem_append.mp h).elim (lwm_wsL_law0_r32 w) ((fun w h => (List.mem_append.mp h).elim (lwm_wsL_law0_r33 w) ((fun w h => (List.mem_append.mp h).elim (lwm_wsL_law0_r34 w) ((fun w h => (List.mem_append.mp h).elim (lwm_wsL_law0_r35 w) ((fun w h => (List.mem_append.mp h).elim (lwm_wsL_law0_r36 w) ((fun w h => (List.mem_append.mp h).elim (lwm_wsL_law0_r37 w) ((fun w h => (List.mem_append.mp h).elim (lwm_wsL_law0_r38 w) ((fun w h => (List.mem_append.mp h).elim (lwm_wsL_law0_r39 w) ((fun w h => (List.mem_append.mp h).elim (lwm_wsL_law0_r40 w) ((fun w h => (List.mem_append.mp h).elim (lwm_wsL_law0_r41 w) ((fun w h => (List.mem_append.mp h).elim (lwm_wsL_law0_r42 w) ((fun w h => (List.mem_append.mp h).elim (lwm_wsL_law0_r43 w) ((fun w h => (List.mem_append.mp h).elim (lwm_wsL_law0_r44 w) ((fun w h => (List.mem_append.mp h).elim (lwm_wsL_law0_r45 w) ((fun w h => (List.mem_append.mp h).elim (lwm_wsL_law0_r46 w) ((fun w h => (List.mem_append.mp h).elim (lwm_wsL_law0_r47 w) ((fun w h => (List.mem_append.mp h).elim (lwm_wsL_law0_r48 w) ((fun w h => (List.mem_append.mp h).elim (lwm_wsL_law0_r49 w) ((fun w h => (List.mem_append.mp h).elim (lwm_wsL_law0_r50 w) ((fun w h => (List.mem_append.mp h).elim (lwm_wsL_law0_r51 w) ((fun w h => (List.mem_append.mp h).elim (lwm_wsL_law0_r52 w) ((fun w h => (List.mem_append.mp h).elim (lwm_wsL_law0_r53 w) ((fun w h => (List.mem_append.mp h).elim (lwm_wsL_law0_r54 w) ((fun w h => (List.mem_append.mp h).elim (lwm_wsL_law0_r55 w) ((fun w h => (List.mem_append.mp h).elim (lwm_wsL_law0_r56 w) ((fun w h => (List.mem_append.mp h).elim (lwm_wsL_law0_r57 w) ((fun w h => (List.mem_append.mp h).elim (lwm_wsL_law0_r58 w) (lwm_wsL_law0_r59 w)) w)) w)) w)) w)) w)) w)) w)) w)) w)) w)) w)) w)) w)) w)) w)) w)) w)) w)) w)) w)) w)) w)) w)) w)) w)) w)) w)) w)) w)) w)) w)) w)) w)) w)) w)) w)) w)) w)) w)) w)) w)) w)) w)) w)) w)) w)) w)) w)) w)) w)) w)) w)) w)) w)) w)) w)) w)) w) (lwm_wsX110 w)) w) (lwm_wsX120 w)) w) (lwm_wsX100 w)) w) (lwm_wsX60 w)) w) (lwm_wsX10 w)) w) (lwm_wsX50 w)) w) (lwm_wsX20 w)) w) (lwm_wsX90 w)) w) (lwm_wsX30 w)) w) (lwm_wsX00 w)) w) (lwm_wsX80 w)) w) (lwm_wsX40 w)) w) (lwm_wsX70 w)) w) ((fun _ h => absurd h List.not_mem_nil) w))
theorem wsL_law_x0 : ∀ w ∈ (vx_atX RX11 163 "java/util/NoSuchElementException" 13 prog_23_method_4_code ["java/lang/RuntimeException", "java/lang/Exception"]).filter goodWord, w ∈ lw_tbl := by decide +kernel
theorem wsL_law_in : ∀ w ∈ wsL_law, w ∈ lw_tbl := fun w h => (List.mem_append.mp h).elim (fun h => wsL_law_in0 w h) (fun h => wsL_law_x0 w h)
theorem inlX0 : ∀ w ∈ wsX00, w ∈ wsL_law := fun _ h => List.mem_append_left _ (List.mem_append_left _ (List.mem_append_left _ (List.mem_append_left _ (List.mem_append_left _ (List.mem_append_right _ h)))))
theorem inX0 : ∀ w ∈ wsX00, w ∈ lw_tbl := fun w h => wsL_law_in w (inlX0 w h)
theorem inlX1 : ∀ w ∈ wsX10, w ∈ wsL_law := fun _ h => List.mem_append_left _ (List.mem_append_left _ (List.mem_append_left _ (List.mem_append_left _ (List.mem_append_left _ (List.mem_append_left _ (List.mem_append_left _ (List.mem_append_left _ (List.mem_append_left _ (List.mem_append_left _ (List.mem_append_right _ h))))))))))
theorem inX1 : ∀ w ∈ wsX10, w ∈ lw_tbl := fun w h => wsL_law_in w (inlX1 w h)
theorem inlX2 : ∀ w ∈ wsX20, w ∈ wsL_law := fun _ h => List.mem_append_left _ (List.mem_append_left _ (List.mem_append_left _ (List.mem_append_left _ (List.mem_append_left _ (List.mem_append_left _ (List.mem_append_left _ (List.mem_append_left _ (List.mem_append_right _ h))))))))
theorem inX2 : ∀ w ∈ wsX20, w ∈ lw_tbl := fun w h => wsL_law_in w (inlX2 w h)
theorem inlX3 : ∀ w ∈ wsX30, w ∈ wsL_law := fun _ h => List.mem_append_left _ (List.mem_append_left _ (List.mem_append_left _ (List.mem_append_left _ (List.mem_append_left _ (List.mem_append_left _ (List.mem_append_right _ h))))))
theorem inX3 : ∀ w ∈ wsX30, w ∈ lw_tbl := fun w h => wsL_law_in w (inlX3 w h)
theorem inlX4 : ∀ w ∈ wsX40, w ∈ wsL_law := fun _ h => List.mem_append_left _ (List.mem_append_left _ (List.mem_append_left _ (List.mem_append_right _ h)))
theorem inX4 : ∀ w ∈ wsX40, w ∈ lw_tbl := fun w h => wsL_law_in w (inlX4 w h)
theorem inlX5 : ∀ w ∈ wsX50, w ∈ wsL_law := fun _ h => List.mem_append_left _ (List.mem_append_left _ (List.mem_append_left _ (List.mem_append_left _ (List.mem_append_left _ (List.mem_append_left _ (List.mem_append_left _ (List.mem_append_left _ (List.mem_append_left _ (List.mem_append_right _ h)))))))))
theorem inX5 : ∀ w ∈ wsX50, w ∈ lw_tbl := fun w h => wsL_law_in w (inlX5 w h)
theorem inlX6 : ∀ w ∈ wsX60, w ∈ wsL_law := fun _ h => List.mem_append_left _ (List.mem_append_left _ (List.mem_append_left _ (List.mem_append_left _ (List.mem_append_left _ (List.mem_append_left _ (List.mem_append_left _ (List.mem_append_left _ (List.mem_append_left _ (List.mem_append_left _ (List.mem_append_left _ (List.mem_append_right _ h)))))))))))
theorem inX6 : ∀ w ∈ wsX60, w ∈ lw_tbl := fun w h => wsL_law_in w (inlX6 w h)
theorem inlX7 : ∀ w ∈ wsX70, w ∈ wsL_law := fun _ h => List.mem_append_left _ (List.mem_append_left _ (List.mem_append_right _ h))
theorem inX7 : ∀ w ∈ wsX70, w ∈ lw_tbl := fun w h => wsL_law_in w (inlX7 w h)
theorem inlX8 : ∀ w ∈ wsX80, w ∈ wsL_law := fun _ h => List.mem_append_left _ (List.mem_append_left _ (List.mem_append_left _ (List.mem_append_left _ (List.mem_append_right _ h))))
theorem inX8 : ∀ w ∈ wsX80, w ∈ lw_tbl := fun w h => wsL_law_in w (inlX8 w h)
theorem inlX9 : ∀ w ∈ wsX90, w ∈ wsL_law := fun _ h => List.mem_append_left _ (List.mem_append_left _ (List.mem_append_left _ (List.mem_append_left _ (List.mem_append_left _ (List.mem_append_left _ (List.mem_append_left _ (List.mem_append_right _ h)))))))
theorem inX9 : ∀ w ∈ wsX90, w ∈ lw_tbl := fun w h => wsL_law_in w (inlX9 w h)
theorem inlX10 : ∀ w ∈ wsX100, w ∈ wsL_law := fun _ h => List.mem_append_left _ (List.mem_append_left _ (List.mem_append_left _ (List.mem_append_left _ (List.mem_append_left _ (List.mem_append_left _ (List.mem_append_left _ (List.mem_append_left _ (List.mem_append_left _ (List.mem_append_left _ (List.mem_append_left _ (List.mem_append_left _ (List.mem_append_right _ h))))))))))))
theorem inX10 : ∀ w ∈ wsX100, w ∈ lw_tbl := fun w h => wsL_law_in w (inlX10 w h)
theorem inlX11 : ∀ w ∈ wsX110, w ∈ wsL_law := fun _ h => List.mem_append_left _ (List.mem_append_left _ (List.mem_append_left _ (List.mem_append_left _ (List.mem_append_left _ (List.mem_append_left _ (List.mem_append_left _ (List.mem_append_left _ (List.mem_append_left _ (List.mem_append_left _ (List.mem_append_left _ (List.mem_append_left _ (List.mem_append_left _ (List.mem_append_left _ (List.mem_append_right _ h))))))))))))))
theorem inX11 : ∀ w ∈ wsX110, w ∈ lw_tbl := fun w h => wsL_law_in w (inlX11 w h)
theorem inlX12 : ∀ w ∈ wsX120, w ∈ wsL_law := fun _ h => List.mem_append_left _ (List.mem_append_left _ (List.mem_append_left _ (List.mem_append_left _ (List.mem_append_left _ (List.mem_append_left _ (List.mem_append_left _ (List.mem_append_left _ (List.mem_append_left _ (List.mem_append_left _ (List.mem_append_left _ (List.mem_append_left _ (List.mem_append_left _ (List.mem_append_right _ h)))))))))))))
theorem inX12 : ∀ w ∈ wsX120, w ∈ lw_tbl := fun w h => wsL_law_in w (inlX12 w h)
theorem inJx145de : ∀ w ∈ wsJx145de0, w ∈ lw_tbl := by decide +kernel
theorem inJ6 : ∀ w ∈ wsJ60, w ∈ lw_tbl := by decide +kernel
theorem inJ9 : ∀ w ∈ wsJ90, w ∈ lw_tbl := by decide +kernel
theorem inJ0 : ∀ w ∈ wsJ00, w ∈ lw_tbl := by decide +kernel
theorem inJ10 : ∀ w ∈ wsJ100, w ∈ lw_tbl := by decide +kernel
theorem dX0_init_8 : decode cX0_init 8 = .ok (.newarray .int, 2) := by decide +kernel
def ztdX0_init_0 : List (Nat × Instr × Nat) := [(0, .aload_n 0, 1), (1, .invokespecial 1, 3), (4, .aload_n 0, 1), (5, .sipush 2760, 3), (10, .putfield 11, 3), (13, .return_, 1)]
theorem zhdX0_init_0 : dzC ztdX0_init_0 0 (cX0_init.data.toList.drop 0) = true := by decide +kernel
theorem dX0_init_0 : decode cX0_init 0 = .ok (.aload_n 0, 1) := dzr zhdX0_init_0 0 rfl
theorem dX0_init_1 : decode cX0_init 1 = .ok (.invokespecial 1, 3) := dzr zhdX0_init_0 1 rfl
theorem dX0_init_4 : decode cX0_init 4 = .ok (.aload_n 0, 1) := dzr zhdX0_init_0 2 rfl
theorem dX0_init_5 : decode cX0_init 5 = .ok (.sipush 2760, 3) := dzr zhdX0_init_0 3 rfl
theorem dX0_init_10 : decode cX0_init 10 = .ok (.putfield 11, 3) := dzr zhdX0_init_0 4 rfl
theorem dX0_init_13 : decode cX0_init 13 = .ok (.return_, 1) := dzr zhdX0_init_0 5 rfl
def ztdX0_keep_0 : List (Nat × Instr × Nat) := [(0, .aload_n 1, 1), (1, .getfield 15, 3), (4, .iconst 0, 1), (5, .aload_n 0, 1), (6, .getfield 11, 3), (9, .aload_n 0, 1), (10, .getfield 18, 3), (13, .bipush 69, 2), (15, .imul, 1), (16, .bipush 69, 2), (18, .invokestatic 22, 3), (21, .aload_n 0, 1), (22, .aload_n 0, 1), (23, .getfield 18, 3), (26, .iconst 1, 1), (27, .iadd, 1), (28, .bipush 40, 2), (30, .irem, 1), (31, .putfield 18, 3), (34, .aload_n 0, 1), (35, .bipush 40, 2), (37, .aload_n 0, 1), (38, .getfield 28, 3), (41, .iconst 1, 1)]
theorem zhdX0_keep_0 : dzC ztdX0_keep_0 0 (cX0_keep.data.toList.drop 0) = true := by decide +kernel
theorem dX0_keep_0 : decode cX0_keep 0 = .ok (.aload_n 1, 1) := dzr zhdX0_keep_0 0 rfl
theorem dX0_keep_1 : decode cX0_keep 1 = .ok (.getfield 15, 3) := dzr zhdX0_keep_0 1 rfl
theorem dX0_keep_4 : decode cX0_keep 4 = .ok (.iconst 0, 1) := dzr zhdX0_keep_0 2 rfl
theorem dX0_keep_5 : decode cX0_keep 5 = .ok (.aload_n 0, 1) := dzr zhdX0_keep_0 3 rfl
theorem dX0_keep_6 : decode cX0_keep 6 = .ok (.getfield 11, 3) := dzr zhdX0_keep_0 4 rfl
theorem dX0_keep_9 : decode cX0_keep 9 = .ok (.aload_n 0, 1) := dzr zhdX0_keep_0 5 rfl
theorem dX0_keep_10 : decode cX0_keep 10 = .ok (.getfield 18, 3) := dzr zhdX0_keep_0 6 rfl
theorem dX0_keep_13 : decode cX0_keep 13 = .ok (.bipush 69, 2) := dzr zhdX0_keep_0 7 rfl
theorem dX0_keep_15 : decode cX0_keep 15 = .ok (.imul, 1) := dzr zhdX0_keep_0 8 rfl
theorem dX0_keep_16 : decode cX0_keep 16 = .ok (.bipush 69, 2) := dzr zhdX0_keep_0 9 rfl
theorem dX0_keep_18 : decode cX0_keep 18 = .ok (.invokestatic 22, 3) := dzr zhdX0_keep_0 10 rfl
theorem dX0_keep_21 : decode cX0_keep 21 = .ok (.aload_n 0, 1) := dzr zhdX0_keep_0 11 rfl
theorem dX0_keep_22 : decode cX0_keep 22 = .ok (.aload_n 0, 1) := dzr zhdX0_keep_0 12 rfl
theorem dX0_keep_23 : decode cX0_keep 23 = .ok (.getfield 18, 3) := dzr zhdX0_keep_0 13 rfl
theorem dX0_keep_26 : decode cX0_keep 26 = .ok (.iconst 1, 1) := dzr zhdX0_keep_0 14 rfl
theorem dX0_keep_27 : decode cX0_keep 27 = .ok (.iadd, 1) := dzr zhdX0_keep_0 15 rfl
theorem dX0_keep_28 : decode cX0_keep 28 = .ok (.bipush 40, 2) := dzr zhdX0_keep_0 16 rfl
theorem dX0_keep_30 : decode cX0_keep 30 = .ok (.irem, 1) := dzr zhdX0_keep_0 17 rfl
theorem dX0_keep_31 : decode cX0_keep 31 = .ok (.putfield 18, 3) := dzr zhdX0_keep_0 18 rfl
theorem dX0_keep_34 : decode cX0_keep 34 = .ok (.aload_n 0, 1) := dzr zhdX0_keep_0 19 rfl
theorem dX0_keep_35 : decode cX0_keep 35 = .ok (.bipush 40, 2) := dzr zhdX0_keep_0 20 rfl
theorem dX0_keep_37 : decode cX0_keep 37 = .ok (.aload_n 0, 1) := dzr zhdX0_keep_0 21 rfl
theorem dX0_keep_38 : decode cX0_keep 38 = .ok (.getfield 28, 3) := dzr zhdX0_keep_0 22 rfl
theorem dX0_keep_41 : decode cX0_keep 41 = .ok (.iconst 1, 1) := dzr zhdX0_keep_0 23 rfl
def ztdX0_keep_42 : List (Nat × Instr × Nat) := [(42, .iadd, 1), (43, .invokestatic 31, 3), (46, .putfield 28, 3), (49, .return_, 1)]
theorem zhdX0_keep_42 : dzC ztdX0_keep_42 42 (cX0_keep.data.toList.drop 42) = true := by decide +kernel
theorem dX0_keep_42 : decode cX0_keep 42 = .ok (.iadd, 1) := dzr zhdX0_keep_42 0 rfl
theorem dX0_keep_43 : decode cX0_keep 43 = .ok (.invokestatic 31, 3) := dzr zhdX0_keep_42 1 rfl
theorem dX0_keep_46 : decode cX0_keep 46 = .ok (.putfield 28, 3) := dzr zhdX0_keep_42 2 rfl
theorem dX0_keep_49 : decode cX0_keep 49 = .ok (.return_, 1) := dzr zhdX0_keep_42 3 rfl
def ztdX0_takeBack_0 : List (Nat × Instr × Nat) := [(0, .aload_n 0, 1), (1, .aload_n 0, 1), (2, .getfield 18, 3), (5, .bipush 40, 2), (7, .iadd, 1), (8, .iconst 1, 1), (9, .isub, 1), (10, .bipush 40, 2), (12, .irem, 1), (13, .putfield 18, 3), (16, .aload_n 0, 1), (17, .dup, 1), (18, .getfield 28, 3), (21, .iconst 1, 1), (22, .isub, 1), (23, .putfield 28, 3), (26, .aload_n 0, 1), (27, .getfield 11, 3), (30, .aload_n 0, 1), (31, .getfield 18, 3), (34, .bipush 69, 2), (36, .imul, 1), (37, .aload_n 1, 1), (38, .getfield 15, 3)]
theorem zhdX0_takeBack_0 : dzC ztdX0_takeBack_0 0 (cX0_takeBack.data.toList.drop 0) = true := by decide +kernel
theorem dX0_takeBack_0 : decode cX0_takeBack 0 = .ok (.aload_n 0, 1) := dzr zhdX0_takeBack_0 0 rfl
theorem dX0_takeBack_1 : decode cX0_takeBack 1 = .ok (.aload_n 0, 1) := dzr zhdX0_takeBack_0 1 rfl
theorem dX0_takeBack_2 : decode cX0_takeBack 2 = .ok (.getfield 18, 3) := dzr zhdX0_takeBack_0 2 rfl
theorem dX0_takeBack_5 : decode cX0_takeBack 5 = .ok (.bipush 40, 2) := dzr zhdX0_takeBack_0 3 rfl
theorem dX0_takeBack_7 : decode cX0_takeBack 7 = .ok (.iadd, 1) := dzr zhdX0_takeBack_0 4 rfl
theorem dX0_takeBack_8 : decode cX0_takeBack 8 = .ok (.iconst 1, 1) := dzr zhdX0_takeBack_0 5 rfl
theorem dX0_takeBack_9 : decode cX0_takeBack 9 = .ok (.isub, 1) := dzr zhdX0_takeBack_0 6 rfl
theorem dX0_takeBack_10 : decode cX0_takeBack 10 = .ok (.bipush 40, 2) := dzr zhdX0_takeBack_0 7 rfl
theorem dX0_takeBack_12 : decode cX0_takeBack 12 = .ok (.irem, 1) := dzr zhdX0_takeBack_0 8 rfl
theorem dX0_takeBack_13 : decode cX0_takeBack 13 = .ok (.putfield 18, 3) := dzr zhdX0_takeBack_0 9 rfl
theorem dX0_takeBack_16 : decode cX0_takeBack 16 = .ok (.aload_n 0, 1) := dzr zhdX0_takeBack_0 10 rfl
theorem dX0_takeBack_17 : decode cX0_takeBack 17 = .ok (.dup, 1) := dzr zhdX0_takeBack_0 11 rfl
theorem dX0_takeBack_18 : decode cX0_takeBack 18 = .ok (.getfield 28, 3) := dzr zhdX0_takeBack_0 12 rfl
theorem dX0_takeBack_21 : decode cX0_takeBack 21 = .ok (.iconst 1, 1) := dzr zhdX0_takeBack_0 13 rfl
theorem dX0_takeBack_22 : decode cX0_takeBack 22 = .ok (.isub, 1) := dzr zhdX0_takeBack_0 14 rfl
theorem dX0_takeBack_23 : decode cX0_takeBack 23 = .ok (.putfield 28, 3) := dzr zhdX0_takeBack_0 15 rfl
theorem dX0_takeBack_26 : decode cX0_takeBack 26 = .ok (.aload_n 0, 1) := dzr zhdX0_takeBack_0 16 rfl
theorem dX0_takeBack_27 : decode cX0_takeBack 27 = .ok (.getfield 11, 3) := dzr zhdX0_takeBack_0 17 rfl
theorem dX0_takeBack_30 : decode cX0_takeBack 30 = .ok (.aload_n 0, 1) := dzr zhdX0_takeBack_0 18 rfl
theorem dX0_takeBack_31 : decode cX0_takeBack 31 = .ok (.getfield 18, 3) := dzr zhdX0_takeBack_0 19 rfl
theorem dX0_takeBack_34 : decode cX0_takeBack 34 = .ok (.bipush 69, 2) := dzr zhdX0_takeBack_0 20 rfl
theorem dX0_takeBack_36 : decode cX0_takeBack 36 = .ok (.imul, 1) := dzr zhdX0_takeBack_0 21 rfl
theorem dX0_takeBack_37 : decode cX0_takeBack 37 = .ok (.aload_n 1, 1) := dzr zhdX0_takeBack_0 22 rfl
theorem dX0_takeBack_38 : decode cX0_takeBack 38 = .ok (.getfield 15, 3) := dzr zhdX0_takeBack_0 23 rfl
def ztdX0_takeBack_41 : List (Nat × Instr × Nat) := [(41, .iconst 0, 1), (42, .bipush 69, 2), (44, .invokestatic 22, 3), (47, .return_, 1)]
theorem zhdX0_takeBack_41 : dzC ztdX0_takeBack_41 41 (cX0_takeBack.data.toList.drop 41) = true := by decide +kernel
theorem dX0_takeBack_41 : decode cX0_takeBack 41 = .ok (.iconst 0, 1) := dzr zhdX0_takeBack_41 0 rfl
theorem dX0_takeBack_42 : decode cX0_takeBack 42 = .ok (.bipush 69, 2) := dzr zhdX0_takeBack_41 1 rfl
theorem dX0_takeBack_44 : decode cX0_takeBack 44 = .ok (.invokestatic 22, 3) := dzr zhdX0_takeBack_41 2 rfl
theorem dX0_takeBack_47 : decode cX0_takeBack 47 = .ok (.return_, 1) := dzr zhdX0_takeBack_41 3 rfl
def ztdX0_forget_0 : List (Nat × Instr × Nat) := [(0, .aload_n 0, 1), (1, .iconst 0, 1), (2, .putfield 28, 3), (5, .return_, 1)]
theorem zhdX0_forget_0 : dzC ztdX0_forget_0 0 (cX0_forget.data.toList.drop 0) = true := by decide +kernel
theorem dX0_forget_0 : decode cX0_forget 0 = .ok (.aload_n 0, 1) := dzr zhdX0_forget_0 0 rfl
theorem dX0_forget_1 : decode cX0_forget 1 = .ok (.iconst 0, 1) := dzr zhdX0_forget_0 1 rfl
theorem dX0_forget_2 : decode cX0_forget 2 = .ok (.putfield 28, 3) := dzr zhdX0_forget_0 2 rfl
theorem dX0_forget_5 : decode cX0_forget 5 = .ok (.return_, 1) := dzr zhdX0_forget_0 3 rfl
theorem dX1_init_8 : decode cX1_init 8 = .ok (.newarray .int, 2) := by decide +kernel
def ztdX1_init_0 : List (Nat × Instr × Nat) := [(0, .aload_n 0, 1), (1, .invokespecial 3, 3), (4, .aload_n 0, 1), (5, .sipush 241, 3), (10, .putfield 11, 3), (13, .aload_n 0, 1), (14, .aload_n 1, 1), (15, .putfield 17, 3), (18, .return_, 1)]
theorem zhdX1_init_0 : dzC ztdX1_init_0 0 (cX1_init.data.toList.drop 0) = true := by decide +kernel
theorem dX1_init_0 : decode cX1_init 0 = .ok (.aload_n 0, 1) := dzr zhdX1_init_0 0 rfl
theorem dX1_init_1 : decode cX1_init 1 = .ok (.invokespecial 3, 3) := dzr zhdX1_init_0 1 rfl
theorem dX1_init_4 : decode cX1_init 4 = .ok (.aload_n 0, 1) := dzr zhdX1_init_0 2 rfl
theorem dX1_init_5 : decode cX1_init 5 = .ok (.sipush 241, 3) := dzr zhdX1_init_0 3 rfl
theorem dX1_init_10 : decode cX1_init 10 = .ok (.putfield 11, 3) := dzr zhdX1_init_0 4 rfl
theorem dX1_init_13 : decode cX1_init 13 = .ok (.aload_n 0, 1) := dzr zhdX1_init_0 5 rfl
theorem dX1_init_14 : decode cX1_init 14 = .ok (.aload_n 1, 1) := dzr zhdX1_init_0 6 rfl
theorem dX1_init_15 : decode cX1_init 15 = .ok (.putfield 17, 3) := dzr zhdX1_init_0 7 rfl
theorem dX1_init_18 : decode cX1_init 18 = .ok (.return_, 1) := dzr zhdX1_init_0 8 rfl
theorem ggX1_readsAll_X1_readsClause : GoodIn wsX1_readsAll wsX1_readsClause := (bg_up (bg_law (bi_wsL_law0_r12 _ (List.mem_of_getElem? (i := 22) rfl))))
theorem gX1_readsAll_X1_readsClause : GoodIn wsX1_readsAll (wsV RX1 30 RX1 yX1_readsClause wsX1_readsClause) := goodIn_app (bg_up (bg_cons (bi_wsL_law0_r12 _ (List.mem_of_getElem? (i := 19) rfl)) (bg_cons (bi_wsL_law0_r12 _ (List.mem_of_getElem? (i := 20) rfl)) (bg_cons (bi_wsL_law0_r12 _ (List.mem_of_getElem? (i := 21) rfl)) (bg_cons (bi_wsL_law0_r2 _ (List.mem_of_getElem? (i := 0) rfl)) bg_nil))))) (bg_up (bg_law (bi_wsL_law0_r12 _ (List.mem_of_getElem? (i := 22) rfl))))
theorem ggX1_readsAll_X10_sign : GoodIn wsX1_readsAll wsX10_sign := (bg_up (bg_law (bi_wsL_law0_r10 _ (List.mem_of_getElem? (i := 7) rfl))))
theorem gX1_readsAll_X10_sign : GoodIn wsX1_readsAll (wsV RX1 34 RX10 yX10_sign wsX10_sign) := goodIn_app (bg_up (bg_cons (bi_wsL_law0_r13 _ (List.mem_of_getElem? (i := 0) rfl)) (bg_cons (bi_wsL_law0_r10 _ (List.mem_of_getElem? (i := 5) rfl)) (bg_cons (bi_wsL_law0_r10 _ (List.mem_of_getElem? (i := 6) rfl)) (bg_cons (bi_wsL_law0_r1 _ (List.mem_of_getElem? (i := 16) rfl)) bg_nil))))) (bg_up (bg_law (bi_wsL_law0_r10 _ (List.mem_of_getElem? (i := 7) rfl))))
theorem ggX1_readsAll_X10_take : GoodIn wsX1_readsAll wsX10_take := (bg_up (bg_law (bi_wsL_law0_r12 _ (List.mem_of_getElem? (i := 12) rfl))))
theorem gX1_readsAll_X10_take : GoodIn wsX1_readsAll (wsV RX1 38 RX10 yX10_take wsX10_take) := goodIn_app (bg_up (bg_cons (bi_wsL_law0_r12 _ (List.mem_of_getElem? (i := 23) rfl)) (bg_cons (bi_wsL_law0_r12 _ (List.mem_of_getElem? (i := 10) rfl)) (bg_cons (bi_wsL_law0_r12 _ (List.mem_of_getElem? (i := 11) rfl)) (bg_cons (bi_wsL_law0_r1 _ (List.mem_of_getElem? (i := 16) rfl)) bg_nil))))) (bg_up (bg_law (bi_wsL_law0_r12 _ (List.mem_of_getElem? (i := 12) rfl))))
def ztdX1_readsAll_0 : List (Nat × Instr × Nat) := [(0, .aload_n 0, 1), (1, .getfield 17, 3), (4, .iconst 0, 1), (5, .putfield 21, 3), (8, .aload_n 0, 1), (9, .iconst 0, 1), (10, .putfield 27, 3), (13, .iconst 0, 1), (14, .istore_n 1, 1), (15, .iload_n 1, 1), (16, .sipush 240, 3), (19, .if_icmp .gt 45, 3), (22, .aload_n 0, 1), (23, .invokevirtual 30, 3), (26, .ifCond .ne 5, 3), (29, .iconst 0, 1), (30, .ireturn, 1), (31, .aload_n 0, 1), (32, .getfield 17, 3), (35, .invokevirtual 34, 3), (38, .iconst (-1), 1), (39, .if_icmp .ne 5, 3), (42, .iconst 1, 1), (43, .ireturn, 1)]
theorem zhdX1_readsAll_0 : dzC ztdX1_readsAll_0 0 (cX1_readsAll.data.toList.drop 0) = true := by decide +kernel
theorem dX1_readsAll_0 : decode cX1_readsAll 0 = .ok (.aload_n 0, 1) := dzr zhdX1_readsAll_0 0 rfl
theorem dX1_readsAll_1 : decode cX1_readsAll 1 = .ok (.getfield 17, 3) := dzr zhdX1_readsAll_0 1 rfl
theorem dX1_readsAll_4 : decode cX1_readsAll 4 = .ok (.iconst 0, 1) := dzr zhdX1_readsAll_0 2 rfl
theorem dX1_readsAll_5 : decode cX1_readsAll 5 = .ok (.putfield 21, 3) := dzr zhdX1_readsAll_0 3 rfl
theorem dX1_readsAll_8 : decode cX1_readsAll 8 = .ok (.aload_n 0, 1) := dzr zhdX1_readsAll_0 4 rfl
theorem dX1_readsAll_9 : decode cX1_readsAll 9 = .ok (.iconst 0, 1) := dzr zhdX1_readsAll_0 5 rfl
theorem dX1_readsAll_10 : decode cX1_readsAll 10 = .ok (.putfield 27, 3) := dzr zhdX1_readsAll_0 6 rfl
theorem dX1_readsAll_13 : decode cX1_readsAll 13 = .ok (.iconst 0, 1) := dzr zhdX1_readsAll_0 7 rfl
theorem dX1_readsAll_14 : decode cX1_readsAll 14 = .ok (.istore_n 1, 1) := dzr zhdX1_readsAll_0 8 rfl
theorem dX1_readsAll_15 : decode cX1_readsAll 15 = .ok (.iload_n 1, 1) := dzr zhdX1_readsAll_0 9 rfl
theorem dX1_readsAll_16 : decode cX1_readsAll 16 = .ok (.sipush 240, 3) := dzr zhdX1_readsAll_0 10 rfl
theorem dX1_readsAll_19 : decode cX1_readsAll 19 = .ok (.if_icmp .gt 45, 3) := dzr zhdX1_readsAll_0 11 rfl
theorem dX1_readsAll_22 : decode cX1_readsAll 22 = .ok (.aload_n 0, 1) := dzr zhdX1_readsAll_0 12 rfl
theorem dX1_readsAll_23 : decode cX1_readsAll 23 = .ok (.invokevirtual 30, 3) := dzr zhdX1_readsAll_0 13 rfl
theorem dX1_readsAll_26 : decode cX1_readsAll 26 = .ok (.ifCond .ne 5, 3) := dzr zhdX1_readsAll_0 14 rfl
theorem dX1_readsAll_29 : decode cX1_readsAll 29 = .ok (.iconst 0, 1) := dzr zhdX1_readsAll_0 15 rfl
theorem dX1_readsAll_30 : decode cX1_readsAll 30 = .ok (.ireturn, 1) := dzr zhdX1_readsAll_0 16 rfl
theorem dX1_readsAll_31 : decode cX1_readsAll 31 = .ok (.aload_n 0, 1) := dzr zhdX1_readsAll_0 17 rfl
theorem dX1_readsAll_32 : decode cX1_readsAll 32 = .ok (.getfield 17, 3) := dzr zhdX1_readsAll_0 18 rfl
theorem dX1_readsAll_35 : decode cX1_readsAll 35 = .ok (.invokevirtual 34, 3) := dzr zhdX1_readsAll_0 19 rfl
theorem dX1_readsAll_38 : decode cX1_readsAll 38 = .ok (.iconst (-1), 1) := dzr zhdX1_readsAll_0 20 rfl
theorem dX1_readsAll_39 : decode cX1_readsAll 39 = .ok (.if_icmp .ne 5, 3) := dzr zhdX1_readsAll_0 21 rfl
theorem dX1_readsAll_42 : decode cX1_readsAll 42 = .ok (.iconst 1, 1) := dzr zhdX1_readsAll_0 22 rfl
theorem dX1_readsAll_43 : decode cX1_readsAll 43 = .ok (.ireturn, 1) := dzr zhdX1_readsAll_0 23 rfl
def ztdX1_readsAll_44 : List (Nat × Instr × Nat) := [(44, .aload_n 0, 1), (45, .getfield 17, 3), (48, .bipush 59, 2), (50, .invokevirtual 38, 3), (53, .ifCond .ne 5, 3), (56, .iconst 0, 1), (57, .ireturn, 1), (58, .iinc 1 1, 3), (61, .goto (-46), 3), (64, .iconst 0, 1), (65, .ireturn, 1)]
theorem zhdX1_readsAll_44 : dzC ztdX1_readsAll_44 44 (cX1_readsAll.data.toList.drop 44) = true := by decide +kernel
theorem dX1_readsAll_44 : decode cX1_readsAll 44 = .ok (.aload_n 0, 1) := dzr zhdX1_readsAll_44 0 rfl
theorem dX1_readsAll_45 : decode cX1_readsAll 45 = .ok (.getfield 17, 3) := dzr zhdX1_readsAll_44 1 rfl
theorem dX1_readsAll_48 : decode cX1_readsAll 48 = .ok (.bipush 59, 2) := dzr zhdX1_readsAll_44 2 rfl
theorem dX1_readsAll_50 : decode cX1_readsAll 50 = .ok (.invokevirtual 38, 3) := dzr zhdX1_readsAll_44 3 rfl
theorem dX1_readsAll_53 : decode cX1_readsAll 53 = .ok (.ifCond .ne 5, 3) := dzr zhdX1_readsAll_44 4 rfl
theorem dX1_readsAll_56 : decode cX1_readsAll 56 = .ok (.iconst 0, 1) := dzr zhdX1_readsAll_44 5 rfl
theorem dX1_readsAll_57 : decode cX1_readsAll 57 = .ok (.ireturn, 1) := dzr zhdX1_readsAll_44 6 rfl
theorem dX1_readsAll_58 : decode cX1_readsAll 58 = .ok (.iinc 1 1, 3) := dzr zhdX1_readsAll_44 7 rfl
theorem dX1_readsAll_61 : decode cX1_readsAll 61 = .ok (.goto (-46), 3) := dzr zhdX1_readsAll_44 8 rfl
theorem dX1_readsAll_64 : decode cX1_readsAll 64 = .ok (.iconst 0, 1) := dzr zhdX1_readsAll_44 9 rfl
theorem dX1_readsAll_65 : decode cX1_readsAll 65 = .ok (.ireturn, 1) := dzr zhdX1_readsAll_44 10 rfl
theorem ggX1_readsClause_X10_take : GoodIn wsX1_readsClause wsX10_take := (bg_up (bg_law (bi_wsL_law0_r12 _ (List.mem_of_getElem? (i := 12) rfl))))
theorem gX1_readsClause_X10_take : GoodIn wsX1_readsClause (wsV RX1 38 RX10 yX10_take wsX10_take) := goodIn_app (bg_up (bg_cons (bi_wsL_law0_r12 _ (List.mem_of_getElem? (i := 23) rfl)) (bg_cons (bi_wsL_law0_r12 _ (List.mem_of_getElem? (i := 10) rfl)) (bg_cons (bi_wsL_law0_r12 _ (List.mem_of_getElem? (i := 11) rfl)) (bg_cons (bi_wsL_law0_r1 _ (List.mem_of_getElem? (i := 16) rfl)) bg_nil))))) (bg_up (bg_law (bi_wsL_law0_r12 _ (List.mem_of_getElem? (i := 12) rfl))))
theorem ggX1_readsClause_X10_sign : GoodIn wsX1_readsClause wsX10_sign := (bg_up (bg_law (bi_wsL_law0_r10 _ (List.mem_of_getElem? (i := 7) rfl))))
theorem gX1_readsClause_X10_sign : GoodIn wsX1_readsClause (wsV RX1 34 RX10 yX10_sign wsX10_sign) := goodIn_app (bg_up (bg_cons (bi_wsL_law0_r13 _ (List.mem_of_getElem? (i := 0) rfl)) (bg_cons (bi_wsL_law0_r10 _ (List.mem_of_getElem? (i := 5) rfl)) (bg_cons (bi_wsL_law0_r10 _ (List.mem_of_getElem? (i := 6) rfl)) (bg_cons (bi_wsL_law0_r1 _ (List.mem_of_getElem? (i := 16) rfl)) bg_nil))))) (bg_up (bg_law (bi_wsL_law0_r10 _ (List.mem_of_getElem? (i := 7) rfl))))
theorem ggX1_readsClause_X1_readsCondition : GoodIn wsX1_readsClause wsX1_readsCondition := (bg_up (bg_law (bi_wsL_law0_r13 _ (List.mem_of_getElem? (i := 4) rfl))))
theorem gX1_readsClause_X1_readsCondition : GoodIn wsX1_readsClause (wsV RX1 42 RX1 yX1_readsCondition wsX1_readsCondition) := goodIn_app (bg_up (bg_cons (bi_wsL_law0_r13 _ (List.mem_of_getElem? (i := 1) rfl)) (bg_cons (bi_wsL_law0_r13 _ (List.mem_of_getElem? (i := 2) rfl)) (bg_cons (bi_wsL_law0_r13 _ (List.mem_of_getElem? (i := 3) rfl)) (bg_cons (bi_wsL_law0_r2 _ (List.mem_of_getElem? (i := 0) rfl)) bg_nil))))) (bg_up (bg_law (bi_wsL_law0_r13 _ (List.mem_of_getElem? (i := 4) rfl))))
theorem ggX1_readsClause_X1_readsSum : GoodIn wsX1_readsClause wsX1_readsSum := (bg_up (bg_law (bi_wsL_law0_r14 _ (List.mem_of_getElem? (i := 0) rfl))))
theorem gX1_readsClause_X1_readsSum : GoodIn wsX1_readsClause (wsV RX1 45 RX1 yX1_readsSum wsX1_readsSum) := goodIn_app (bg_up (bg_cons (bi_wsL_law0_r13 _ (List.mem_of_getElem? (i := 21) rfl)) (bg_cons (bi_wsL_law0_r13 _ (List.mem_of_getElem? (i := 22) rfl)) (bg_cons (bi_wsL_law0_r13 _ (List.mem_of_getElem? (i := 23) rfl)) (bg_cons (bi_wsL_law0_r2 _ (List.mem_of_getElem? (i := 0) rfl)) bg_nil))))) (bg_up (bg_law (bi_wsL_law0_r14 _ (List.mem_of_getElem? (i := 0) rfl))))
theorem ggX1_readsClause_X1_comparison : GoodIn wsX1_readsClause wsX1_comparison := (bg_up (bg_law (bi_wsL_law0_r14 _ (List.mem_of_getElem? (i := 19) rfl))))
theorem gX1_readsClause_X1_comparison : GoodIn wsX1_readsClause (va_wsS RX1 48 yX1_comparison wsX1_comparison) := goodIn_app (bg_up (bg_cons (bi_wsL_law0_r14 _ (List.mem_of_getElem? (i := 17) rfl)) (bg_cons (bi_wsL_law0_r14 _ (List.mem_of_getElem? (i := 18) rfl)) (bg_cons (bi_wsL_law0_r2 _ (List.mem_of_getElem? (i := 0) rfl)) bg_nil)))) (bg_up (bg_law (bi_wsL_law0_r14 _ (List.mem_of_getElem? (i := 19) rfl))))
theorem ggX1_readsClause_X1_readsComparison : GoodIn wsX1_readsClause wsX1_readsComparison := (bg_up (bg_law (bi_wsL_law0_r14 _ (List.mem_of_getElem? (i := 16) rfl))))
theorem gX1_readsClause_X1_readsComparison : GoodIn wsX1_readsClause (wsV RX1 52 RX1 yX1_readsComparison wsX1_readsComparison) := goodIn_app (bg_up (bg_cons (bi_wsL_law0_r14 _ (List.mem_of_getElem? (i := 13) rfl)) (bg_cons (bi_wsL_law0_r14 _ (List.mem_of_getElem? (i := 14) rfl)) (bg_cons (bi_wsL_law0_r14 _ (List.mem_of_getElem? (i := 15) rfl)) (bg_cons (bi_wsL_law0_r2 _ (List.mem_of_getElem? (i := 0) rfl)) bg_nil))))) (bg_up (bg_law (bi_wsL_law0_r14 _ (List.mem_of_getElem? (i := 16) rfl))))
theorem ggX1_readsClause_X1_readsMoreUnits : GoodIn wsX1_readsClause wsX1_readsMoreUnits := (bg_up (bg_law (bi_wsL_law0_r13 _ (List.mem_of_getElem? (i := 19) rfl))))
theorem gX1_readsClause_X1_readsMoreUnits : GoodIn wsX1_readsClause (wsV RX1 55 RX1 yX1_readsMoreUnits wsX1_readsMoreUnits) := goodIn_app (bg_up (bg_cons (bi_wsL_law0_r13 _ (List.mem_of_getElem? (i := 8) rfl)) (bg_cons (bi_wsL_law0_r13 _ (List.mem_of_getElem? (i := 9) rfl)) (bg_cons (bi_wsL_law0_r13 _ (List.mem_of_getElem? (i := 10) rfl)) (bg_cons (bi_wsL_law0_r2 _ (List.mem_of_getElem? (i := 0) rfl)) bg_nil))))) (bg_up (bg_law (bi_wsL_law0_r13 _ (List.mem_of_getElem? (i := 19) rfl))))
theorem ggX1_readsClause_X1_readsMoreTruths : GoodIn wsX1_readsClause wsX1_readsMoreTruths := (bg_up (bg_law (bi_wsL_law0_r13 _ (List.mem_of_getElem? (i := 14) rfl))))
theorem gX1_readsClause_X1_readsMoreTruths : GoodIn wsX1_readsClause (wsV RX1 58 RX1 yX1_readsMoreTruths wsX1_readsMoreTruths) := goodIn_app (bg_up (bg_cons (bi_wsL_law0_r13 _ (List.mem_of_getElem? (i := 11) rfl)) (bg_cons (bi_wsL_law0_r13 _ (List.mem_of_getElem? (i := 12) rfl)) (bg_cons (bi_wsL_law0_r13 _ (List.mem_of_getElem? (i := 13) rfl)) (bg_cons (bi_wsL_law0_r2 _ (List.mem_of_getElem? (i := 0) rfl)) bg_nil))))) (bg_up (bg_law (bi_wsL_law0_r13 _ (List.mem_of_getElem? (i := 14) rfl))))
theorem ggX1_readsClause_X1_put : GoodIn wsX1_readsClause wsX1_put := (bg_up (bg_law (bi_wsL_law0_r13 _ (List.mem_of_getElem? (i := 18) rfl))))
theorem gX1_readsClause_X1_put : GoodIn wsX1_readsClause (wsV RX1 61 RX1 yX1_put wsX1_put) := goodIn_app (bg_up (bg_cons (bi_wsL_law0_r13 _ (List.mem_of_getElem? (i := 15) rfl)) (bg_cons (bi_wsL_law0_r13 _ (List.mem_of_getElem? (i := 16) rfl)) (bg_cons (bi_wsL_law0_r13 _ (List.mem_of_getElem? (i := 17) rfl)) (bg_cons (bi_wsL_law0_r2 _ (List.mem_of_getElem? (i := 0) rfl)) bg_nil))))) (bg_up (bg_law (bi_wsL_law0_r13 _ (List.mem_of_getElem? (i := 18) rfl))))
def ztdX1_readsClause_0 : List (Nat × Instr × Nat) := [(0, .aload_n 0, 1), (1, .getfield 17, 3), (4, .bipush 121, 2), (6, .invokevirtual 38, 3), (9, .ifCond .eq 15, 3), (12, .aload_n 0, 1), (13, .getfield 17, 3), (16, .bipush 58, 2), (18, .invokevirtual 38, 3), (21, .ifCond .ne 5, 3), (24, .iconst 0, 1), (25, .ireturn, 1), (26, .aload_n 0, 1), (27, .getfield 17, 3), (30, .invokevirtual 34, 3), (33, .istore_n 1, 1), (34, .iload_n 1, 1), (35, .bipush 33, 2), (37, .if_icmp .eq 9, 3), (40, .iload_n 1, 1), (41, .bipush 40, 2), (43, .if_icmp .ne 7, 3), (46, .iconst 1, 1), (47, .goto 4, 3)]
theorem zhdX1_readsClause_0 : dzC ztdX1_readsClause_0 0 (cX1_readsClause.data.toList.drop 0) = true := by decide +kernel
theorem dX1_readsClause_0 : decode cX1_readsClause 0 = .ok (.aload_n 0, 1) := dzr zhdX1_readsClause_0 0 rfl
theorem dX1_readsClause_1 : decode cX1_readsClause 1 = .ok (.getfield 17, 3) := dzr zhdX1_readsClause_0 1 rfl
theorem dX1_readsClause_4 : decode cX1_readsClause 4 = .ok (.bipush 121, 2) := dzr zhdX1_readsClause_0 2 rfl
theorem dX1_readsClause_6 : decode cX1_readsClause 6 = .ok (.invokevirtual 38, 3) := dzr zhdX1_readsClause_0 3 rfl
theorem dX1_readsClause_9 : decode cX1_readsClause 9 = .ok (.ifCond .eq 15, 3) := dzr zhdX1_readsClause_0 4 rfl
theorem dX1_readsClause_12 : decode cX1_readsClause 12 = .ok (.aload_n 0, 1) := dzr zhdX1_readsClause_0 5 rfl
theorem dX1_readsClause_13 : decode cX1_readsClause 13 = .ok (.getfield 17, 3) := dzr zhdX1_readsClause_0 6 rfl
theorem dX1_readsClause_16 : decode cX1_readsClause 16 = .ok (.bipush 58, 2) := dzr zhdX1_readsClause_0 7 rfl
theorem dX1_readsClause_18 : decode cX1_readsClause 18 = .ok (.invokevirtual 38, 3) := dzr zhdX1_readsClause_0 8 rfl
theorem dX1_readsClause_21 : decode cX1_readsClause 21 = .ok (.ifCond .ne 5, 3) := dzr zhdX1_readsClause_0 9 rfl
theorem dX1_readsClause_24 : decode cX1_readsClause 24 = .ok (.iconst 0, 1) := dzr zhdX1_readsClause_0 10 rfl
theorem dX1_readsClause_25 : decode cX1_readsClause 25 = .ok (.ireturn, 1) := dzr zhdX1_readsClause_0 11 rfl
theorem dX1_readsClause_26 : decode cX1_readsClause 26 = .ok (.aload_n 0, 1) := dzr zhdX1_readsClause_0 12 rfl
theorem dX1_readsClause_27 : decode cX1_readsClause 27 = .ok (.getfield 17, 3) := dzr zhdX1_readsClause_0 13 rfl
theorem dX1_readsClause_30 : decode cX1_readsClause 30 = .ok (.invokevirtual 34, 3) := dzr zhdX1_readsClause_0 14 rfl
theorem dX1_readsClause_33 : decode cX1_readsClause 33 = .ok (.istore_n 1, 1) := dzr zhdX1_readsClause_0 15 rfl
theorem dX1_readsClause_34 : decode cX1_readsClause 34 = .ok (.iload_n 1, 1) := dzr zhdX1_readsClause_0 16 rfl
theorem dX1_readsClause_35 : decode cX1_readsClause 35 = .ok (.bipush 33, 2) := dzr zhdX1_readsClause_0 17 rfl
theorem dX1_readsClause_37 : decode cX1_readsClause 37 = .ok (.if_icmp .eq 9, 3) := dzr zhdX1_readsClause_0 18 rfl
theorem dX1_readsClause_40 : decode cX1_readsClause 40 = .ok (.iload_n 1, 1) := dzr zhdX1_readsClause_0 19 rfl
theorem dX1_readsClause_41 : decode cX1_readsClause 41 = .ok (.bipush 40, 2) := dzr zhdX1_readsClause_0 20 rfl
theorem dX1_readsClause_43 : decode cX1_readsClause 43 = .ok (.if_icmp .ne 7, 3) := dzr zhdX1_readsClause_0 21 rfl
theorem dX1_readsClause_46 : decode cX1_readsClause 46 = .ok (.iconst 1, 1) := dzr zhdX1_readsClause_0 22 rfl
theorem dX1_readsClause_47 : decode cX1_readsClause 47 = .ok (.goto 4, 3) := dzr zhdX1_readsClause_0 23 rfl
def ztdX1_readsClause_50 : List (Nat × Instr × Nat) := [(50, .iconst 0, 1), (51, .istore_n 2, 1), (52, .iload_n 2, 1), (53, .ifCond .eq 13, 3), (56, .aload_n 0, 1), (57, .iconst 0, 1), (58, .invokevirtual 42, 3), (61, .ifCond .ne 65, 3), (64, .iconst 0, 1), (65, .ireturn, 1), (66, .aload_n 0, 1), (67, .iconst 0, 1), (68, .invokevirtual 45, 3), (71, .ifCond .ne 5, 3), (74, .iconst 0, 1), (75, .ireturn, 1), (76, .aload_n 0, 1), (77, .getfield 17, 3), (80, .invokevirtual 34, 3), (83, .invokestatic 48, 3), (86, .iconst (-1), 1), (87, .if_icmp .eq 7, 3), (90, .iconst 1, 1), (91, .goto 4, 3)]
theorem zhdX1_readsClause_50 : dzC ztdX1_readsClause_50 50 (cX1_readsClause.data.toList.drop 50) = true := by decide +kernel
theorem dX1_readsClause_50 : decode cX1_readsClause 50 = .ok (.iconst 0, 1) := dzr zhdX1_readsClause_50 0 rfl
theorem dX1_readsClause_51 : decode cX1_readsClause 51 = .ok (.istore_n 2, 1) := dzr zhdX1_readsClause_50 1 rfl
theorem dX1_readsClause_52 : decode cX1_readsClause 52 = .ok (.iload_n 2, 1) := dzr zhdX1_readsClause_50 2 rfl
theorem dX1_readsClause_53 : decode cX1_readsClause 53 = .ok (.ifCond .eq 13, 3) := dzr zhdX1_readsClause_50 3 rfl
theorem dX1_readsClause_56 : decode cX1_readsClause 56 = .ok (.aload_n 0, 1) := dzr zhdX1_readsClause_50 4 rfl
theorem dX1_readsClause_57 : decode cX1_readsClause 57 = .ok (.iconst 0, 1) := dzr zhdX1_readsClause_50 5 rfl
theorem dX1_readsClause_58 : decode cX1_readsClause 58 = .ok (.invokevirtual 42, 3) := dzr zhdX1_readsClause_50 6 rfl
theorem dX1_readsClause_61 : decode cX1_readsClause 61 = .ok (.ifCond .ne 65, 3) := dzr zhdX1_readsClause_50 7 rfl
theorem dX1_readsClause_64 : decode cX1_readsClause 64 = .ok (.iconst 0, 1) := dzr zhdX1_readsClause_50 8 rfl
theorem dX1_readsClause_65 : decode cX1_readsClause 65 = .ok (.ireturn, 1) := dzr zhdX1_readsClause_50 9 rfl
theorem dX1_readsClause_66 : decode cX1_readsClause 66 = .ok (.aload_n 0, 1) := dzr zhdX1_readsClause_50 10 rfl
theorem dX1_readsClause_67 : decode cX1_readsClause 67 = .ok (.iconst 0, 1) := dzr zhdX1_readsClause_50 11 rfl
theorem dX1_readsClause_68 : decode cX1_readsClause 68 = .ok (.invokevirtual 45, 3) := dzr zhdX1_readsClause_50 12 rfl
theorem dX1_readsClause_71 : decode cX1_readsClause 71 = .ok (.ifCond .ne 5, 3) := dzr zhdX1_readsClause_50 13 rfl
theorem dX1_readsClause_74 : decode cX1_readsClause 74 = .ok (.iconst 0, 1) := dzr zhdX1_readsClause_50 14 rfl
theorem dX1_readsClause_75 : decode cX1_readsClause 75 = .ok (.ireturn, 1) := dzr zhdX1_readsClause_50 15 rfl
theorem dX1_readsClause_76 : decode cX1_readsClause 76 = .ok (.aload_n 0, 1) := dzr zhdX1_readsClause_50 16 rfl
theorem dX1_readsClause_77 : decode cX1_readsClause 77 = .ok (.getfield 17, 3) := dzr zhdX1_readsClause_50 17 rfl
theorem dX1_readsClause_80 : decode cX1_readsClause 80 = .ok (.invokevirtual 34, 3) := dzr zhdX1_readsClause_50 18 rfl
theorem dX1_readsClause_83 : decode cX1_readsClause 83 = .ok (.invokestatic 48, 3) := dzr zhdX1_readsClause_50 19 rfl
theorem dX1_readsClause_86 : decode cX1_readsClause 86 = .ok (.iconst (-1), 1) := dzr zhdX1_readsClause_50 20 rfl
theorem dX1_readsClause_87 : decode cX1_readsClause 87 = .ok (.if_icmp .eq 7, 3) := dzr zhdX1_readsClause_50 21 rfl
theorem dX1_readsClause_90 : decode cX1_readsClause 90 = .ok (.iconst 1, 1) := dzr zhdX1_readsClause_50 22 rfl
theorem dX1_readsClause_91 : decode cX1_readsClause 91 = .ok (.goto 4, 3) := dzr zhdX1_readsClause_50 23 rfl
def ztdX1_readsClause_94 : List (Nat × Instr × Nat) := [(94, .iconst 0, 1), (95, .istore_n 2, 1), (96, .iload_n 2, 1), (97, .ifCond .eq 29, 3), (100, .aload_n 0, 1), (101, .iconst 0, 1), (102, .invokevirtual 52, 3), (105, .ifCond .eq 19, 3), (108, .aload_n 0, 1), (109, .iconst 0, 1), (110, .invokevirtual 55, 3), (113, .ifCond .eq 11, 3), (116, .aload_n 0, 1), (117, .iconst 0, 1), (118, .invokevirtual 58, 3), (121, .ifCond .ne 5, 3), (124, .iconst 0, 1), (125, .ireturn, 1), (126, .iload_n 2, 1), (127, .ifCond .eq 34, 3), (130, .aload_n 0, 1), (131, .getfield 17, 3), (134, .bipush 63, 2), (136, .invokevirtual 38, 3)]
theorem zhdX1_readsClause_94 : dzC ztdX1_readsClause_94 94 (cX1_readsClause.data.toList.drop 94) = true := by decide +kernel
theorem dX1_readsClause_94 : decode cX1_readsClause 94 = .ok (.iconst 0, 1) := dzr zhdX1_readsClause_94 0 rfl
theorem dX1_readsClause_95 : decode cX1_readsClause 95 = .ok (.istore_n 2, 1) := dzr zhdX1_readsClause_94 1 rfl
theorem dX1_readsClause_96 : decode cX1_readsClause 96 = .ok (.iload_n 2, 1) := dzr zhdX1_readsClause_94 2 rfl
theorem dX1_readsClause_97 : decode cX1_readsClause 97 = .ok (.ifCond .eq 29, 3) := dzr zhdX1_readsClause_94 3 rfl
theorem dX1_readsClause_100 : decode cX1_readsClause 100 = .ok (.aload_n 0, 1) := dzr zhdX1_readsClause_94 4 rfl
theorem dX1_readsClause_101 : decode cX1_readsClause 101 = .ok (.iconst 0, 1) := dzr zhdX1_readsClause_94 5 rfl
theorem dX1_readsClause_102 : decode cX1_readsClause 102 = .ok (.invokevirtual 52, 3) := dzr zhdX1_readsClause_94 6 rfl
theorem dX1_readsClause_105 : decode cX1_readsClause 105 = .ok (.ifCond .eq 19, 3) := dzr zhdX1_readsClause_94 7 rfl
theorem dX1_readsClause_108 : decode cX1_readsClause 108 = .ok (.aload_n 0, 1) := dzr zhdX1_readsClause_94 8 rfl
theorem dX1_readsClause_109 : decode cX1_readsClause 109 = .ok (.iconst 0, 1) := dzr zhdX1_readsClause_94 9 rfl
theorem dX1_readsClause_110 : decode cX1_readsClause 110 = .ok (.invokevirtual 55, 3) := dzr zhdX1_readsClause_94 10 rfl
theorem dX1_readsClause_113 : decode cX1_readsClause 113 = .ok (.ifCond .eq 11, 3) := dzr zhdX1_readsClause_94 11 rfl
theorem dX1_readsClause_116 : decode cX1_readsClause 116 = .ok (.aload_n 0, 1) := dzr zhdX1_readsClause_94 12 rfl
theorem dX1_readsClause_117 : decode cX1_readsClause 117 = .ok (.iconst 0, 1) := dzr zhdX1_readsClause_94 13 rfl
theorem dX1_readsClause_118 : decode cX1_readsClause 118 = .ok (.invokevirtual 58, 3) := dzr zhdX1_readsClause_94 14 rfl
theorem dX1_readsClause_121 : decode cX1_readsClause 121 = .ok (.ifCond .ne 5, 3) := dzr zhdX1_readsClause_94 15 rfl
theorem dX1_readsClause_124 : decode cX1_readsClause 124 = .ok (.iconst 0, 1) := dzr zhdX1_readsClause_94 16 rfl
theorem dX1_readsClause_125 : decode cX1_readsClause 125 = .ok (.ireturn, 1) := dzr zhdX1_readsClause_94 17 rfl
theorem dX1_readsClause_126 : decode cX1_readsClause 126 = .ok (.iload_n 2, 1) := dzr zhdX1_readsClause_94 18 rfl
theorem dX1_readsClause_127 : decode cX1_readsClause 127 = .ok (.ifCond .eq 34, 3) := dzr zhdX1_readsClause_94 19 rfl
theorem dX1_readsClause_130 : decode cX1_readsClause 130 = .ok (.aload_n 0, 1) := dzr zhdX1_readsClause_94 20 rfl
theorem dX1_readsClause_131 : decode cX1_readsClause 131 = .ok (.getfield 17, 3) := dzr zhdX1_readsClause_94 21 rfl
theorem dX1_readsClause_134 : decode cX1_readsClause 134 = .ok (.bipush 63, 2) := dzr zhdX1_readsClause_94 22 rfl
theorem dX1_readsClause_136 : decode cX1_readsClause 136 = .ok (.invokevirtual 38, 3) := dzr zhdX1_readsClause_94 23 rfl
def ztdX1_readsClause_139 : List (Nat × Instr × Nat) := [(139, .ifCond .eq 20, 3), (142, .aload_n 0, 1), (143, .bipush (-12), 2), (145, .invokevirtual 61, 3), (148, .ifCond .eq 11, 3), (151, .aload_n 0, 1), (152, .iconst 0, 1), (153, .invokevirtual 45, 3), (156, .ifCond .ne 5, 3), (159, .iconst 0, 1), (160, .ireturn, 1), (161, .aload_n 0, 1), (162, .bipush (-13), 2), (164, .invokevirtual 61, 3), (167, .ireturn, 1)]
theorem zhdX1_readsClause_139 : dzC ztdX1_readsClause_139 139 (cX1_readsClause.data.toList.drop 139) = true := by decide +kernel
theorem dX1_readsClause_139 : decode cX1_readsClause 139 = .ok (.ifCond .eq 20, 3) := dzr zhdX1_readsClause_139 0 rfl
theorem dX1_readsClause_142 : decode cX1_readsClause 142 = .ok (.aload_n 0, 1) := dzr zhdX1_readsClause_139 1 rfl
theorem dX1_readsClause_143 : decode cX1_readsClause 143 = .ok (.bipush (-12), 2) := dzr zhdX1_readsClause_139 2 rfl
theorem dX1_readsClause_145 : decode cX1_readsClause 145 = .ok (.invokevirtual 61, 3) := dzr zhdX1_readsClause_139 3 rfl
theorem dX1_readsClause_148 : decode cX1_readsClause 148 = .ok (.ifCond .eq 11, 3) := dzr zhdX1_readsClause_139 4 rfl
theorem dX1_readsClause_151 : decode cX1_readsClause 151 = .ok (.aload_n 0, 1) := dzr zhdX1_readsClause_139 5 rfl
theorem dX1_readsClause_152 : decode cX1_readsClause 152 = .ok (.iconst 0, 1) := dzr zhdX1_readsClause_139 6 rfl
theorem dX1_readsClause_153 : decode cX1_readsClause 153 = .ok (.invokevirtual 45, 3) := dzr zhdX1_readsClause_139 7 rfl
theorem dX1_readsClause_156 : decode cX1_readsClause 156 = .ok (.ifCond .ne 5, 3) := dzr zhdX1_readsClause_139 8 rfl
theorem dX1_readsClause_159 : decode cX1_readsClause 159 = .ok (.iconst 0, 1) := dzr zhdX1_readsClause_139 9 rfl
theorem dX1_readsClause_160 : decode cX1_readsClause 160 = .ok (.ireturn, 1) := dzr zhdX1_readsClause_139 10 rfl
theorem dX1_readsClause_161 : decode cX1_readsClause 161 = .ok (.aload_n 0, 1) := dzr zhdX1_readsClause_139 11 rfl
theorem dX1_readsClause_162 : decode cX1_readsClause 162 = .ok (.bipush (-13), 2) := dzr zhdX1_readsClause_139 12 rfl
theorem dX1_readsClause_164 : decode cX1_readsClause 164 = .ok (.invokevirtual 61, 3) := dzr zhdX1_readsClause_139 13 rfl
theorem dX1_readsClause_167 : decode cX1_readsClause 167 = .ok (.ireturn, 1) := dzr zhdX1_readsClause_139 14 rfl
theorem ggX1_readsCondition_X1_readsUnit : GoodIn wsX1_readsCondition wsX1_readsUnit := (bg_up (bg_law (bi_wsL_law0_r13 _ (List.mem_of_getElem? (i := 20) rfl))))
theorem gX1_readsCondition_X1_readsUnit : GoodIn wsX1_readsCondition (wsV RX1 64 RX1 yX1_readsUnit wsX1_readsUnit) := goodIn_app (bg_up (bg_cons (bi_wsL_law0_r13 _ (List.mem_of_getElem? (i := 5) rfl)) (bg_cons (bi_wsL_law0_r13 _ (List.mem_of_getElem? (i := 6) rfl)) (bg_cons (bi_wsL_law0_r13 _ (List.mem_of_getElem? (i := 7) rfl)) (bg_cons (bi_wsL_law0_r2 _ (List.mem_of_getElem? (i := 0) rfl)) bg_nil))))) (bg_up (bg_law (bi_wsL_law0_r13 _ (List.mem_of_getElem? (i := 20) rfl))))
theorem ggX1_readsCondition_X1_readsMoreUnits : GoodIn wsX1_readsCondition wsX1_readsMoreUnits := (bg_up (bg_law (bi_wsL_law0_r13 _ (List.mem_of_getElem? (i := 19) rfl))))
theorem gX1_readsCondition_X1_readsMoreUnits : GoodIn wsX1_readsCondition (wsV RX1 55 RX1 yX1_readsMoreUnits wsX1_readsMoreUnits) := goodIn_app (bg_up (bg_cons (bi_wsL_law0_r13 _ (List.mem_of_getElem? (i := 8) rfl)) (bg_cons (bi_wsL_law0_r13 _ (List.mem_of_getElem? (i := 9) rfl)) (bg_cons (bi_wsL_law0_r13 _ (List.mem_of_getElem? (i := 10) rfl)) (bg_cons (bi_wsL_law0_r2 _ (List.mem_of_getElem? (i := 0) rfl)) bg_nil))))) (bg_up (bg_law (bi_wsL_law0_r13 _ (List.mem_of_getElem? (i := 19) rfl))))
theorem ggX1_readsCondition_X1_readsMoreTruths : GoodIn wsX1_readsCondition wsX1_readsMoreTruths := (bg_up (bg_law (bi_wsL_law0_r13 _ (List.mem_of_getElem? (i := 14) rfl))))
theorem gX1_readsCondition_X1_readsMoreTruths : GoodIn wsX1_readsCondition (wsV RX1 58 RX1 yX1_readsMoreTruths wsX1_readsMoreTruths) := goodIn_app (bg_up (bg_cons (bi_wsL_law0_r13 _ (List.mem_of_getElem? (i := 11) rfl)) (bg_cons (bi_wsL_law0_r13 _ (List.mem_of_getElem? (i := 12) rfl)) (bg_cons (bi_wsL_law0_r13 _ (List.mem_of_getElem? (i := 13) rfl)) (bg_cons (bi_wsL_law0_r2 _ (List.mem_of_getElem? (i := 0) rfl)) bg_nil))))) (bg_up (bg_law (bi_wsL_law0_r13 _ (List.mem_of_getElem? (i := 14) rfl))))
