def RX0 : String := "SleepMoves$Dream"
def TX0 : u_T := fun k => match k with
  | 0 => ("SleepMoves$Stand", "places", "I", false)
  | 1 => ("SleepMoves$Stand", "night", "I", false)
  | 2 => ("SleepMoves$Stand", "locks", "I", false)
  | 3 => ("SleepMoves$Stand", "draws", "J", false)
  | 4 => ("SleepMoves$Dream", "street", "LSleepMoves$Street;", true)
  | 5 => ("SleepMoves$Dream", "rules", "Ljava/util/ArrayList;", true)
  | 6 => ("SleepMoves$Dream", "forcedStep", "LSleepMoves$Row;", true)
  | 7 => ("SleepMoves$Dream", "carried", "LSleepMoves$Row;", true)
  | 8 => ("SleepMoves$Dream", "carriers", "LSleepMoves$Row;", true)
  | 9 => ("SleepMoves$Dream", "risk", "I", false)
  | 10 => ("SleepMoves$Dream", "inBed", "I", false)
  | 11 => ("SleepMoves$Dream", "guestHome", "I", false)
  | 12 => ("SleepMoves$Dream", "guestStep", "I", false)
  | 13 => ("SleepMoves$Dream", "strideAhead", "I", false)
  | 14 => ("SleepMoves$Dream", "oddsThing", "I", false)
  | 15 => ("SleepMoves$Dream", "oddsHouse", "I", false)
  | 16 => ("SleepMoves$Dream", "oddsRisk", "I", false)
  | 17 => ("SleepMoves$Dream", "letters", "LSleepMoves$Row;", true)
  | 18 => ("SleepMoves$Dream", "stack", "LSleepMoves$Row;", true)
  | 19 => ("SleepMoves$Dream", "worths", "LSleepMoves$Row;", true)
  | _ => ("SleepMoves$Dream", "worthNights", "LSleepMoves$Row;", true)
def tyX0 : Nat → FieldType := fun k => match k with
  | 0 => .int
  | 1 => .int
  | 2 => .int
  | 3 => .long
  | 4 => .object "SleepMoves$Street"
  | 5 => .object "java/util/ArrayList"
  | 6 => .object "SleepMoves$Row"
  | 7 => .object "SleepMoves$Row"
  | 8 => .object "SleepMoves$Row"
  | 9 => .int
  | 10 => .int
  | 11 => .int
  | 12 => .int
  | 13 => .int
  | 14 => .int
  | 15 => .int
  | 16 => .int
  | 17 => .object "SleepMoves$Row"
  | 18 => .object "SleepMoves$Row"
  | 19 => .object "SleepMoves$Row"
  | _ => .object "SleepMoves$Row"
abbrev wsX00 : List Cond := u_ws RX0 TX0 21
theorem nmX0 : ∀ a, a < 21 → ∀ b, b < 21 → a ≠ b → (TX0 a).2.1 ≠ (TX0 b).2.1 := by decide +kernel
theorem tyX0_ok : ∀ k, k < 21 → parseFieldDescriptor (TX0 k).2.2.1 = some (tyX0 k) := by decide +kernel
abbrev cX0_init : ByteArray := prog_2_method_1_code
def yX0_init : MethodName := ⟨RX0, "<init>", "(LSleepMoves$Street;Ljava/util/ArrayList;)V"⟩
abbrev cX0_begin : ByteArray := prog_2_method_2_code
def yX0_begin : MethodName := ⟨RX0, "begin", "(LSleepMoves$Stand;)V"⟩
abbrev cX0_forgetWorths : ByteArray := prog_2_method_3_code
def yX0_forgetWorths : MethodName := ⟨RX0, "forgetWorths", "()V"⟩
abbrev cX0_goOn : ByteArray := prog_2_method_4_code
def yX0_goOn : MethodName := ⟨RX0, "goOn", "(I)V"⟩
abbrev cX0_goOneNight : ByteArray := prog_2_method_5_code
def yX0_goOneNight : MethodName := ⟨RX0, "goOneNight", "()V"⟩
abbrev cX0_roundKey : ByteArray := prog_2_method_6_code
def yX0_roundKey : MethodName := ⟨RX0, "roundKey", "()I"⟩
abbrev cX0_walk : ByteArray := prog_2_method_7_code
def yX0_walk : MethodName := ⟨RX0, "walk", "(I)V"⟩
abbrev cX0_hasFever : ByteArray := prog_2_method_8_code
def yX0_hasFever : MethodName := ⟨RX0, "hasFever", "()Z"⟩
abbrev cX0_ownStride : ByteArray := prog_2_method_9_code
def yX0_ownStride : MethodName := ⟨RX0, "ownStride", "(I)I"⟩
abbrev cX0_ruleOf : ByteArray := prog_2_method_10_code
def yX0_ruleOf : MethodName := ⟨RX0, "ruleOf", "(I)LSleepMoves$Rule;"⟩
abbrev cX0_tellLetters : ByteArray := prog_2_method_11_code
def yX0_tellLetters : MethodName := ⟨RX0, "tellLetters", "(II)V"⟩
abbrev cX0_carry : ByteArray := prog_2_method_12_code
def yX0_carry : MethodName := ⟨RX0, "carry", "(IIIZ)V"⟩
abbrev cX0_partsInto : ByteArray := prog_2_method_13_code
def yX0_partsInto : MethodName := ⟨RX0, "partsInto", "(IIII)J"⟩
abbrev cX0_partsFrom : ByteArray := prog_2_method_14_code
def yX0_partsFrom : MethodName := ⟨RX0, "partsFrom", "(IIJI)J"⟩
abbrev cX0_splitParts : ByteArray := prog_2_method_15_code
def yX0_splitParts : MethodName := ⟨RX0, "splitParts", "(IIJI)J"⟩
def RX1 : String := "SleepMoves$Past"
def TX1 : u_T := fun k => match k with
  | 0 => ("SleepMoves$Past", "places", "LSleepMoves$Row;", true)
  | 1 => ("SleepMoves$Past", "highDraws", "LSleepMoves$Row;", true)
  | 2 => ("SleepMoves$Past", "lowDraws", "LSleepMoves$Row;", true)
  | 3 => ("SleepMoves$Past", "next", "I", false)
  | _ => ("SleepMoves$Past", "count", "I", false)
def tyX1 : Nat → FieldType := fun k => match k with
  | 0 => .object "SleepMoves$Row"
  | 1 => .object "SleepMoves$Row"
  | 2 => .object "SleepMoves$Row"
  | 3 => .int
  | _ => .int
abbrev wsX10 : List Cond := u_ws RX1 TX1 5
theorem nmX1 : ∀ a, a < 5 → ∀ b, b < 5 → a ≠ b → (TX1 a).2.1 ≠ (TX1 b).2.1 := by decide +kernel
theorem tyX1_ok : ∀ k, k < 5 → parseFieldDescriptor (TX1 k).2.2.1 = some (tyX1 k) := by decide +kernel
abbrev cX1_init : ByteArray := prog_3_method_1_code
def yX1_init : MethodName := ⟨RX1, "<init>", "()V"⟩
abbrev cX1_forget : ByteArray := prog_3_method_2_code
def yX1_forget : MethodName := ⟨RX1, "forget", "()V"⟩
abbrev cX1_keep : ByteArray := prog_3_method_3_code
def yX1_keep : MethodName := ⟨RX1, "keep", "(LSleepMoves$Stand;)V"⟩
abbrev cX1_takeBack : ByteArray := prog_3_method_4_code
def yX1_takeBack : MethodName := ⟨RX1, "takeBack", "(LSleepMoves$Stand;)Z"⟩
def RX2 : String := "SleepMoves$Reader"
def TX2 : u_T := fun k => match k with
  | _ => ("", "", "", false)
def tyX2 : Nat → FieldType := fun k => match k with
  | _ => .int
abbrev wsX20 : List Cond := u_ws RX2 TX2 0
theorem nmX2 : ∀ a, a < 0 → ∀ b, b < 0 → a ≠ b → (TX2 a).2.1 ≠ (TX2 b).2.1 := by decide +kernel
theorem tyX2_ok : ∀ k, k < 0 → parseFieldDescriptor (TX2 k).2.2.1 = some (tyX2 k) := by decide +kernel
abbrev cX2_init : ByteArray := prog_4_method_1_code
def yX2_init : MethodName := ⟨RX2, "<init>", "(LSleepMoves$Tape;)V"⟩
abbrev cX2_begin : ByteArray := prog_4_method_2_code
def yX2_begin : MethodName := ⟨RX2, "begin", "()V"⟩
abbrev cX2_faultHere : ByteArray := prog_4_method_3_code
def yX2_faultHere : MethodName := ⟨RX2, "faultHere", "()I"⟩
abbrev cX2_signHere : ByteArray := prog_4_method_4_code
def yX2_signHere : MethodName := ⟨RX2, "signHere", "()I"⟩
abbrev cX2_nextSign : ByteArray := prog_4_method_5_code
def yX2_nextSign : MethodName := ⟨RX2, "nextSign", "()I"⟩
abbrev cX2_goOn : ByteArray := prog_4_method_6_code
def yX2_goOn : MethodName := ⟨RX2, "goOn", "()V"⟩
abbrev cX2_take : ByteArray := prog_4_method_7_code
def yX2_take : MethodName := ⟨RX2, "take", "(I)Z"⟩
def RX3 : String := "SleepMoves$Row"
def TX3 : u_T := fun k => match k with
  | _ => ("SleepMoves$Row", "cells", "[I", true)
def tyX3 : Nat → FieldType := fun k => match k with
  | _ => .array .int
abbrev wsX30 : List Cond := u_ws RX3 TX3 1
theorem nmX3 : ∀ a, a < 1 → ∀ b, b < 1 → a ≠ b → (TX3 a).2.1 ≠ (TX3 b).2.1 := by decide +kernel
theorem tyX3_ok : ∀ k, k < 1 → parseFieldDescriptor (TX3 k).2.2.1 = some (tyX3 k) := by decide +kernel
abbrev cX3_init : ByteArray := prog_5_method_1_code
def yX3_init : MethodName := ⟨RX3, "<init>", "(I)V"⟩
abbrev cX3_length : ByteArray := prog_5_method_2_code
def yX3_length : MethodName := ⟨RX3, "length", "()I"⟩
abbrev cX3_at : ByteArray := prog_5_method_3_code
def yX3_at : MethodName := ⟨RX3, "at", "(I)I"⟩
abbrev cX3_set : ByteArray := prog_5_method_4_code
def yX3_set : MethodName := ⟨RX3, "set", "(II)V"⟩
abbrev cX3_fill : ByteArray := prog_5_method_5_code
def yX3_fill : MethodName := ⟨RX3, "fill", "(I)V"⟩
abbrev cX3_copy : ByteArray := prog_5_method_6_code
def yX3_copy : MethodName := ⟨RX3, "copy", "(LSleepMoves$Row;)V"⟩
def RX4 : String := "SleepMoves$Rule"
def TX4 : u_T := fun k => match k with
  | 0 => ("SleepMoves$Rule", "signs", "LSleepMoves$Row;", true)
  | _ => ("SleepMoves$Rule", "numbers", "LSleepMoves$Row;", true)
def tyX4 : Nat → FieldType := fun k => match k with
  | 0 => .object "SleepMoves$Row"
  | _ => .object "SleepMoves$Row"
abbrev wsX40 : List Cond := u_ws RX4 TX4 2
theorem nmX4 : ∀ a, a < 2 → ∀ b, b < 2 → a ≠ b → (TX4 a).2.1 ≠ (TX4 b).2.1 := by decide +kernel
theorem tyX4_ok : ∀ k, k < 2 → parseFieldDescriptor (TX4 k).2.2.1 = some (tyX4 k) := by decide +kernel
abbrev cX4_init : ByteArray := prog_6_method_1_code
def yX4_init : MethodName := ⟨RX4, "<init>", "(LSleepMoves$Row;LSleepMoves$Row;I)V"⟩
abbrev cX4_worth : ByteArray := prog_6_method_2_code
def yX4_worth : MethodName := ⟨RX4, "worth", "(LSleepMoves$Row;LSleepMoves$Row;)I"⟩
abbrev cX4_joined : ByteArray := prog_6_method_3_code
def yX4_joined : MethodName := ⟨RX4, "joined", "(IJJ)I"⟩
def RX5 : String := "SleepMoves$RuleReader"
def TX5 : u_T := fun k => match k with
  | 0 => ("SleepMoves$Reader", "tape", "LSleepMoves$Tape;", true)
  | 1 => ("SleepMoves$Reader", "at", "I", false)
  | 2 => ("SleepMoves$RuleReader", "signs", "LSleepMoves$Row;", true)
  | 3 => ("SleepMoves$RuleReader", "numbers", "LSleepMoves$Row;", true)
  | _ => ("SleepMoves$RuleReader", "length", "I", false)
def tyX5 : Nat → FieldType := fun k => match k with
  | 0 => .object "SleepMoves$Tape"
  | 1 => .int
  | 2 => .object "SleepMoves$Row"
  | 3 => .object "SleepMoves$Row"
  | _ => .int
abbrev wsX50 : List Cond := u_ws RX5 TX5 5
theorem nmX5 : ∀ a, a < 5 → ∀ b, b < 5 → a ≠ b → (TX5 a).2.1 ≠ (TX5 b).2.1 := by decide +kernel
theorem tyX5_ok : ∀ k, k < 5 → parseFieldDescriptor (TX5 k).2.2.1 = some (tyX5 k) := by decide +kernel
abbrev cX5_init : ByteArray := prog_7_method_1_code
def yX5_init : MethodName := ⟨RX5, "<init>", "(LSleepMoves$Tape;)V"⟩
abbrev cX5_made : ByteArray := prog_7_method_2_code
def yX5_made : MethodName := ⟨RX5, "made", "()LSleepMoves$Rule;"⟩
abbrev cX5_read : ByteArray := prog_7_method_3_code
def yX5_read : MethodName := ⟨RX5, "read", "()I"⟩
abbrev cX5_readClause : ByteArray := prog_7_method_4_code
def yX5_readClause : MethodName := ⟨RX5, "readClause", "()Z"⟩
abbrev cX5_readCondition : ByteArray := prog_7_method_5_code
def yX5_readCondition : MethodName := ⟨RX5, "readCondition", "(IZ)Z"⟩
abbrev cX5_readTruth : ByteArray := prog_7_method_6_code
def yX5_readTruth : MethodName := ⟨RX5, "readTruth", "(IZ)Z"⟩
abbrev cX5_readUnit : ByteArray := prog_7_method_7_code
def yX5_readUnit : MethodName := ⟨RX5, "readUnit", "(IZ)Z"⟩
abbrev cX5_readDenied : ByteArray := prog_7_method_8_code
def yX5_readDenied : MethodName := ⟨RX5, "readDenied", "(I)Z"⟩
abbrev cX5_readSum : ByteArray := prog_7_method_9_code
def yX5_readSum : MethodName := ⟨RX5, "readSum", "(I)Z"⟩
abbrev cX5_readTerm : ByteArray := prog_7_method_10_code
def yX5_readTerm : MethodName := ⟨RX5, "readTerm", "(I)Z"⟩
abbrev cX5_readAtom : ByteArray := prog_7_method_11_code
def yX5_readAtom : MethodName := ⟨RX5, "readAtom", "(I)Z"⟩
abbrev cX5_readNumber : ByteArray := prog_7_method_12_code
def yX5_readNumber : MethodName := ⟨RX5, "readNumber", "()Z"⟩
abbrev cX5_write : ByteArray := prog_7_method_13_code
def yX5_write : MethodName := ⟨RX5, "write", "(II)V"⟩
abbrev cX5_isDigit : ByteArray := prog_7_method_14_code
def yX5_isDigit : MethodName := ⟨RX5, "isDigit", "(I)Z"⟩
abbrev cX5_isRelation : ByteArray := prog_7_method_15_code
def yX5_isRelation : MethodName := ⟨RX5, "isRelation", "(I)Z"⟩
def RX6 : String := "SleepMoves$Seen"
def TX6 : u_T := fun k => match k with
  | 0 => ("SleepMoves$Seen", "things", "LSleepMoves$Row;", true)
  | 1 => ("SleepMoves$Seen", "nights", "LSleepMoves$Row;", true)
  | 2 => ("SleepMoves$Seen", "houses", "LSleepMoves$Row;", true)
  | 3 => ("SleepMoves$Seen", "lay", "LSleepMoves$Row;", true)
  | 4 => ("SleepMoves$Seen", "count", "I", false)
  | _ => ("SleepMoves$Seen", "latest", "I", false)
def tyX6 : Nat → FieldType := fun k => match k with
  | 0 => .object "SleepMoves$Row"
  | 1 => .object "SleepMoves$Row"
  | 2 => .object "SleepMoves$Row"
  | 3 => .object "SleepMoves$Row"
  | 4 => .int
  | _ => .int
abbrev wsX60 : List Cond := u_ws RX6 TX6 6
theorem nmX6 : ∀ a, a < 6 → ∀ b, b < 6 → a ≠ b → (TX6 a).2.1 ≠ (TX6 b).2.1 := by decide +kernel
theorem tyX6_ok : ∀ k, k < 6 → parseFieldDescriptor (TX6 k).2.2.1 = some (tyX6 k) := by decide +kernel
abbrev cX6_init : ByteArray := prog_8_method_1_code
def yX6_init : MethodName := ⟨RX6, "<init>", "()V"⟩
abbrev cX6_forget : ByteArray := prog_8_method_2_code
def yX6_forget : MethodName := ⟨RX6, "forget", "()V"⟩
abbrev cX6_add : ByteArray := prog_8_method_3_code
def yX6_add : MethodName := ⟨RX6, "add", "(IIIZ)V"⟩
abbrev cX6_allows : ByteArray := prog_8_method_4_code
def yX6_allows : MethodName := ⟨RX6, "allows", "(II)Z"⟩
def RX7 : String := "SleepMoves$Stand"
def TX7 : u_T := fun k => match k with
  | 0 => ("SleepMoves$Stand", "places", "I", false)
  | 1 => ("SleepMoves$Stand", "night", "I", false)
  | 2 => ("SleepMoves$Stand", "locks", "I", false)
  | _ => ("SleepMoves$Stand", "draws", "J", false)
def tyX7 : Nat → FieldType := fun k => match k with
  | 0 => .int
  | 1 => .int
  | 2 => .int
  | _ => .long
abbrev wsX70 : List Cond := u_ws RX7 TX7 4
theorem nmX7 : ∀ a, a < 4 → ∀ b, b < 4 → a ≠ b → (TX7 a).2.1 ≠ (TX7 b).2.1 := by decide +kernel
theorem tyX7_ok : ∀ k, k < 4 → parseFieldDescriptor (TX7 k).2.2.1 = some (tyX7 k) := by decide +kernel
abbrev cX7_init : ByteArray := prog_9_method_1_code
def yX7_init : MethodName := ⟨RX7, "<init>", "()V"⟩
abbrev cX7_copy : ByteArray := prog_9_method_2_code
def yX7_copy : MethodName := ⟨RX7, "copy", "(LSleepMoves$Stand;)V"⟩
def RX8 : String := "SleepMoves$Street"
def TX8 : u_T := fun k => match k with
  | 0 => ("SleepMoves$Street", "houses", "I", false)
  | 1 => ("SleepMoves$Street", "sleepers", "I", false)
  | 2 => ("SleepMoves$Street", "things", "I", false)
  | 3 => ("SleepMoves$Street", "first", "I", false)
  | 4 => ("SleepMoves$Street", "period", "I", false)
  | 5 => ("SleepMoves$Street", "firstFull", "I", false)
  | 6 => ("SleepMoves$Street", "home", "LSleepMoves$Row;", true)
  | 7 => ("SleepMoves$Street", "step", "LSleepMoves$Row;", true)
  | 8 => ("SleepMoves$Street", "kind", "LSleepMoves$Row;", true)
  | 9 => ("SleepMoves$Street", "highest", "LSleepMoves$Row;", true)
  | _ => ("SleepMoves$Street", "rule", "LSleepMoves$Row;", true)
def tyX8 : Nat → FieldType := fun k => match k with
  | 0 => .int
  | 1 => .int
  | 2 => .int
  | 3 => .int
  | 4 => .int
  | 5 => .int
  | 6 => .object "SleepMoves$Row"
  | 7 => .object "SleepMoves$Row"
  | 8 => .object "SleepMoves$Row"
  | 9 => .object "SleepMoves$Row"
  | _ => .object "SleepMoves$Row"
abbrev wsX80 : List Cond := u_ws RX8 TX8 11
theorem nmX8 : ∀ a, a < 11 → ∀ b, b < 11 → a ≠ b → (TX8 a).2.1 ≠ (TX8 b).2.1 := by decide +kernel
theorem tyX8_ok : ∀ k, k < 11 → parseFieldDescriptor (TX8 k).2.2.1 = some (tyX8 k) := by decide +kernel
abbrev cX8_init : ByteArray := prog_10_method_1_code
def yX8_init : MethodName := ⟨RX8, "<init>", "()V"⟩
abbrev cX8_clear : ByteArray := prog_10_method_2_code
def yX8_clear : MethodName := ⟨RX8, "clear", "()V"⟩
abbrev cX8_copy : ByteArray := prog_10_method_3_code
def yX8_copy : MethodName := ⟨RX8, "copy", "(LSleepMoves$Street;)V"⟩
abbrev cX8_addSleeper : ByteArray := prog_10_method_4_code
def yX8_addSleeper : MethodName := ⟨RX8, "addSleeper", "(LSleepMoves$Row;)Z"⟩
abbrev cX8_addThing : ByteArray := prog_10_method_5_code
def yX8_addThing : MethodName := ⟨RX8, "addThing", "(LSleepMoves$Row;)Z"⟩
abbrev cX8_addMoon : ByteArray := prog_10_method_6_code
def yX8_addMoon : MethodName := ⟨RX8, "addMoon", "(LSleepMoves$Row;)Z"⟩
abbrev cX8_isTold : ByteArray := prog_10_method_7_code
def yX8_isTold : MethodName := ⟨RX8, "isTold", "()Z"⟩
abbrev cX8_hasHouse : ByteArray := prog_10_method_8_code
def yX8_hasHouse : MethodName := ⟨RX8, "hasHouse", "(I)Z"⟩
abbrev cX8_hasSleeper : ByteArray := prog_10_method_9_code
def yX8_hasSleeper : MethodName := ⟨RX8, "hasSleeper", "(I)Z"⟩
abbrev cX8_hasThing : ByteArray := prog_10_method_10_code
def yX8_hasThing : MethodName := ⟨RX8, "hasThing", "(I)Z"⟩
abbrev cX8_feverish : ByteArray := prog_10_method_11_code
def yX8_feverish : MethodName := ⟨RX8, "feverish", "()I"⟩
abbrev cX8_isFull : ByteArray := prog_10_method_12_code
def yX8_isFull : MethodName := ⟨RX8, "isFull", "(I)Z"⟩
abbrev cX8_moonStand : ByteArray := prog_10_method_13_code
def yX8_moonStand : MethodName := ⟨RX8, "moonStand", "(I)I"⟩
abbrev cX8_around : ByteArray := prog_10_method_14_code
def yX8_around : MethodName := ⟨RX8, "around", "(II)I"⟩
abbrev cX8_thingsIn : ByteArray := prog_10_method_15_code
def yX8_thingsIn : MethodName := ⟨RX8, "thingsIn", "(II)I"⟩
abbrev cX8_fullestHouse : ByteArray := prog_10_method_16_code
def yX8_fullestHouse : MethodName := ⟨RX8, "fullestHouse", "(I)I"⟩
abbrev cX8_elsewhere : ByteArray := prog_10_method_17_code
def yX8_elsewhere : MethodName := ⟨RX8, "elsewhere", "(II)I"⟩
abbrev cX8_starts : ByteArray := prog_10_method_18_code
def yX8_starts : MethodName := ⟨RX8, "starts", "()I"⟩
abbrev cX8_startOf : ByteArray := prog_10_method_19_code
def yX8_startOf : MethodName := ⟨RX8, "startOf", "(I)I"⟩
abbrev cX8_placesOf : ByteArray := prog_10_method_20_code
def yX8_placesOf : MethodName := ⟨RX8, "placesOf", "(I)I"⟩
abbrev cX8_digitsOf : ByteArray := prog_10_method_21_code
def yX8_digitsOf : MethodName := ⟨RX8, "digitsOf", "(I)I"⟩
def RX9 : String := "SleepMoves$StreetReader"
def TX9 : u_T := fun k => match k with
  | 0 => ("SleepMoves$Reader", "tape", "LSleepMoves$Tape;", true)
  | 1 => ("SleepMoves$Reader", "at", "I", false)
  | 2 => ("SleepMoves$StreetReader", "draft", "LSleepMoves$Street;", true)
  | 3 => ("SleepMoves$StreetReader", "items", "LSleepMoves$Row;", true)
  | _ => ("SleepMoves$StreetReader", "digit", "I", false)
def tyX9 : Nat → FieldType := fun k => match k with
  | 0 => .object "SleepMoves$Tape"
  | 1 => .int
  | 2 => .object "SleepMoves$Street"
  | 3 => .object "SleepMoves$Row"
  | _ => .int
abbrev wsX90 : List Cond := u_ws RX9 TX9 5
theorem nmX9 : ∀ a, a < 5 → ∀ b, b < 5 → a ≠ b → (TX9 a).2.1 ≠ (TX9 b).2.1 := by decide +kernel
theorem tyX9_ok : ∀ k, k < 5 → parseFieldDescriptor (TX9 k).2.2.1 = some (tyX9 k) := by decide +kernel
abbrev cX9_init : ByteArray := prog_11_method_1_code
def yX9_init : MethodName := ⟨RX9, "<init>", "(LSleepMoves$Tape;)V"⟩
abbrev cX9_read : ByteArray := prog_11_method_2_code
def yX9_read : MethodName := ⟨RX9, "read", "()I"⟩
abbrev cX9_readClause : ByteArray := prog_11_method_3_code
def yX9_readClause : MethodName := ⟨RX9, "readClause", "()Z"⟩
abbrev cX9_canCome : ByteArray := prog_11_method_4_code
def yX9_canCome : MethodName := ⟨RX9, "canCome", "(I)Z"⟩
abbrev cX9_readItems : ByteArray := prog_11_method_5_code
def yX9_readItems : MethodName := ⟨RX9, "readItems", "(Ljava/lang/String;)Z"⟩
abbrev cX9_mostOf : ByteArray := prog_11_method_6_code
def yX9_mostOf : MethodName := ⟨RX9, "mostOf", "(I)I"⟩
abbrev cX9_takeDigit : ByteArray := prog_11_method_7_code
def yX9_takeDigit : MethodName := ⟨RX9, "takeDigit", "(II)Z"⟩
def RX10 : String := "SleepMoves$Tape"
def TX10 : u_T := fun k => match k with
  | 0 => ("SleepMoves$Tape", "bytes", "LSleepMoves$Row;", true)
  | _ => ("SleepMoves$Tape", "length", "I", false)
def tyX10 : Nat → FieldType := fun k => match k with
  | 0 => .object "SleepMoves$Row"
  | _ => .int
abbrev wsX100 : List Cond := u_ws RX10 TX10 2
theorem nmX10 : ∀ a, a < 2 → ∀ b, b < 2 → a ≠ b → (TX10 a).2.1 ≠ (TX10 b).2.1 := by decide +kernel
theorem tyX10_ok : ∀ k, k < 2 → parseFieldDescriptor (TX10 k).2.2.1 = some (tyX10 k) := by decide +kernel
abbrev cX10_init : ByteArray := prog_12_method_1_code
def yX10_init : MethodName := ⟨RX10, "<init>", "()V"⟩
abbrev cX10_bytesIn : ByteArray := prog_12_method_2_code
def yX10_bytesIn : MethodName := ⟨RX10, "bytesIn", "(I)I"⟩
abbrev cX10_add : ByteArray := prog_12_method_3_code
def yX10_add : MethodName := ⟨RX10, "add", "(I)V"⟩
def RX11 : String := "SleepMoves"
def TX11 : u_T := fun k => match k with
  | 0 => ("SleepMoves", "tape", "LSleepMoves$Tape;", true)
  | 1 => ("SleepMoves", "streetReader", "LSleepMoves$StreetReader;", true)
  | 2 => ("SleepMoves", "ruleReader", "LSleepMoves$RuleReader;", true)
  | 3 => ("SleepMoves", "rules", "Ljava/util/ArrayList;", true)
  | 4 => ("SleepMoves", "street", "LSleepMoves$Street;", true)
  | 5 => ("SleepMoves", "now", "LSleepMoves$Stand;", true)
  | 6 => ("SleepMoves", "kept", "LSleepMoves$Stand;", true)
  | 7 => ("SleepMoves", "hasImage", "Z", false)
  | 8 => ("SleepMoves", "past", "LSleepMoves$Past;", true)
  | 9 => ("SleepMoves", "seen", "LSleepMoves$Seen;", true)
  | 10 => ("SleepMoves", "dream", "LSleepMoves$Dream;", true)
  | 11 => ("SleepMoves", "risk", "I", false)
  | 12 => ("SleepMoves", "roundKeys", "LSleepMoves$Row;", true)
  | 13 => ("SleepMoves", "landing", "LSleepMoves$Row;", true)
  | 14 => ("SleepMoves", "onward", "LSleepMoves$Row;", true)
  | _ => ("SleepMoves", "onwardNight", "LSleepMoves$Row;", true)
def tyX11 : Nat → FieldType := fun k => match k with
  | 0 => .object "SleepMoves$Tape"
  | 1 => .object "SleepMoves$StreetReader"
  | 2 => .object "SleepMoves$RuleReader"
  | 3 => .object "java/util/ArrayList"
  | 4 => .object "SleepMoves$Street"
  | 5 => .object "SleepMoves$Stand"
  | 6 => .object "SleepMoves$Stand"
  | 7 => .boolean
  | 8 => .object "SleepMoves$Past"
  | 9 => .object "SleepMoves$Seen"
  | 10 => .object "SleepMoves$Dream"
  | 11 => .int
  | 12 => .object "SleepMoves$Row"
  | 13 => .object "SleepMoves$Row"
  | 14 => .object "SleepMoves$Row"
  | _ => .object "SleepMoves$Row"
abbrev wsX110 : List Cond := u_ws RX11 TX11 16
theorem nmX11 : ∀ a, a < 16 → ∀ b, b < 16 → a ≠ b → (TX11 a).2.1 ≠ (TX11 b).2.1 := by decide +kernel
theorem tyX11_ok : ∀ k, k < 16 → parseFieldDescriptor (TX11 k).2.2.1 = some (tyX11 k) := by decide +kernel
abbrev cX11_init : ByteArray := prog_1_method_1_code
def yX11_init : MethodName := ⟨RX11, "<init>", "()V"⟩
abbrev cX11_feed : ByteArray := prog_1_method_2_code
def yX11_feed : MethodName := ⟨RX11, "feed", "(IIIII)I"⟩
abbrev cX11_end : ByteArray := prog_1_method_3_code
def yX11_end : MethodName := ⟨RX11, "end", "(I)Z"⟩
abbrev cX11_fault : ByteArray := prog_1_method_4_code
def yX11_fault : MethodName := ⟨RX11, "fault", "(I)I"⟩
abbrev cX11_text : ByteArray := prog_1_method_5_code
def yX11_text : MethodName := ⟨RX11, "text", "(I)I"⟩
abbrev cX11_moveInto : ByteArray := prog_1_method_6_code
def yX11_moveInto : MethodName := ⟨RX11, "moveInto", "(LSleepMoves$Street;)V"⟩
abbrev cX11_sleeper : ByteArray := prog_1_method_7_code
def yX11_sleeper : MethodName := ⟨RX11, "sleeper", "(II)I"⟩
abbrev cX11_thing : ByteArray := prog_1_method_8_code
def yX11_thing : MethodName := ⟨RX11, "thing", "(II)I"⟩
abbrev cX11_house : ByteArray := prog_1_method_9_code
def yX11_house : MethodName := ⟨RX11, "house", "(II)I"⟩
abbrev cX11_moon : ByteArray := prog_1_method_10_code
def yX11_moon : MethodName := ⟨RX11, "moon", "(I)I"⟩
abbrev cX11_count : ByteArray := prog_1_method_11_code
def yX11_count : MethodName := ⟨RX11, "count", "(I)I"⟩
abbrev cX11_rule : ByteArray := prog_1_method_12_code
def yX11_rule : MethodName := ⟨RX11, "rule", "(II)Z"⟩
abbrev cX11_risk : ByteArray := prog_1_method_13_code
def yX11_risk : MethodName := ⟨RX11, "risk", "(I)Z"⟩
abbrev cX11_seed : ByteArray := prog_1_method_14_code
def yX11_seed : MethodName := ⟨RX11, "seed", "(J)Z"⟩
abbrev cX11_put : ByteArray := prog_1_method_15_code
def yX11_put : MethodName := ⟨RX11, "put", "(II)Z"⟩
abbrev cX11_lock : ByteArray := prog_1_method_16_code
def yX11_lock : MethodName := ⟨RX11, "lock", "(IZ)Z"⟩
abbrev cX11_nights : ByteArray := prog_1_method_17_code
def yX11_nights : MethodName := ⟨RX11, "nights", "(I)I"⟩
abbrev cX11_undo : ByteArray := prog_1_method_18_code
def yX11_undo : MethodName := ⟨RX11, "undo", "()I"⟩
abbrev cX11_image : ByteArray := prog_1_method_19_code
def yX11_image : MethodName := ⟨RX11, "image", "()I"⟩
abbrev cX11_back : ByteArray := prog_1_method_20_code
def yX11_back : MethodName := ⟨RX11, "back", "()I"⟩
abbrev cX11_where : ByteArray := prog_1_method_21_code
def yX11_where : MethodName := ⟨RX11, "where", "(II)I"⟩
abbrev cX11_carries : ByteArray := prog_1_method_22_code
def yX11_carries : MethodName := ⟨RX11, "carries", "(II)I"⟩
abbrev cX11_touched : ByteArray := prog_1_method_23_code
def yX11_touched : MethodName := ⟨RX11, "touched", "(II)I"⟩
abbrev cX11_empty : ByteArray := prog_1_method_24_code
def yX11_empty : MethodName := ⟨RX11, "empty", "(II)I"⟩
abbrev cX11_met : ByteArray := prog_1_method_25_code
def yX11_met : MethodName := ⟨RX11, "met", "(IIII)I"⟩
abbrev cX11_round : ByteArray := prog_1_method_26_code
def yX11_round : MethodName := ⟨RX11, "round", "(I)I"⟩
abbrev cX11_path : ByteArray := prog_1_method_27_code
def yX11_path : MethodName := ⟨RX11, "path", "(III)I"⟩
abbrev cX11_span : ByteArray := prog_1_method_28_code
def yX11_span : MethodName := ⟨RX11, "span", "(II)I"⟩
abbrev cX11_fullest : ByteArray := prog_1_method_29_code
def yX11_fullest : MethodName := ⟨RX11, "fullest", "(II)I"⟩
abbrev cX11_astray : ByteArray := prog_1_method_30_code
def yX11_astray : MethodName := ⟨RX11, "astray", "(I)I"⟩
abbrev cX11_see : ByteArray := prog_1_method_31_code
def yX11_see : MethodName := ⟨RX11, "see", "(IIIZ)I"⟩
abbrev cX11_fits : ByteArray := prog_1_method_32_code
def yX11_fits : MethodName := ⟨RX11, "fits", "(I)I"⟩
abbrev cX11_pairs : ByteArray := prog_1_method_33_code
def yX11_pairs : MethodName := ⟨RX11, "pairs", "(II)I"⟩
abbrev cX11_awake : ByteArray := prog_1_method_34_code
def yX11_awake : MethodName := ⟨RX11, "awake", "()I"⟩
abbrev cX11_test : ByteArray := prog_1_method_35_code
def yX11_test : MethodName := ⟨RX11, "test", "(III)I"⟩
abbrev cX11_odds : ByteArray := prog_1_method_36_code
def yX11_odds : MethodName := ⟨RX11, "odds", "(III)I"⟩
abbrev cX11_stay : ByteArray := prog_1_method_37_code
def yX11_stay : MethodName := ⟨RX11, "stay", "(II)I"⟩
abbrev cX11_homing : ByteArray := prog_1_method_38_code
def yX11_homing : MethodName := ⟨RX11, "homing", "(II)I"⟩
abbrev cX11_quiet : ByteArray := prog_1_method_39_code
def yX11_quiet : MethodName := ⟨RX11, "quiet", "(II)I"⟩
abbrev cX11_culprit : ByteArray := prog_1_method_40_code
def yX11_culprit : MethodName := ⟨RX11, "culprit", "(I)I"⟩
abbrev cX11_guest : ByteArray := prog_1_method_41_code
def yX11_guest : MethodName := ⟨RX11, "guest", "(IIII)I"⟩
abbrev cX11_dreamOf : ByteArray := prog_1_method_42_code
def yX11_dreamOf : MethodName := ⟨RX11, "dreamOf", "(I)V"⟩
abbrev cX11_fittingSteps : ByteArray := prog_1_method_43_code
def yX11_fittingSteps : MethodName := ⟨RX11, "fittingSteps", "(I)I"⟩
abbrev cX11_dreamIsAsSeen : ByteArray := prog_1_method_44_code
def yX11_dreamIsAsSeen : MethodName := ⟨RX11, "dreamIsAsSeen", "()Z"⟩
abbrev cX11_kindsOfPlaces : ByteArray := prog_1_method_45_code
def yX11_kindsOfPlaces : MethodName := ⟨RX11, "kindsOfPlaces", "(IIII)I"⟩
abbrev cX11_staysBehind : ByteArray := prog_1_method_46_code
def yX11_staysBehind : MethodName := ⟨RX11, "staysBehind", "(III)Z"⟩
abbrev cX11_landAllStarts : ByteArray := prog_1_method_47_code
def yX11_landAllStarts : MethodName := ⟨RX11, "landAllStarts", "(I)V"⟩
abbrev cX11_changedWithout : ByteArray := prog_1_method_48_code
def yX11_changedWithout : MethodName := ⟨RX11, "changedWithout", "(III)I"⟩
abbrev cX11_firstOf : ByteArray := prog_1_method_49_code
def yX11_firstOf : MethodName := ⟨RX11, "firstOf", "(LSleepMoves$Row;I)I"⟩
abbrev cX11_within : ByteArray := prog_1_method_50_code
def yX11_within : MethodName := ⟨RX11, "within", "(III)Z"⟩
abbrev cX11_bitOf : ByteArray := prog_1_method_51_code
def yX11_bitOf : MethodName := ⟨RX11, "bitOf", "(II)I"⟩
abbrev cX11_placeIn : ByteArray := prog_1_method_52_code
def yX11_placeIn : MethodName := ⟨RX11, "placeIn", "(II)I"⟩
abbrev cX11_placed : ByteArray := prog_1_method_53_code
def yX11_placed : MethodName := ⟨RX11, "placed", "(III)I"⟩
def RX12 : String := "SleepMovesModel"
def TX12 : u_T := fun k => match k with
  | 0 => ("SleepMovesModel", "thrown", "I", false)
  | 1 => ("SleepMovesModel", "tape", "[I", true)
  | 2 => ("SleepMovesModel", "size", "I", false)
  | 3 => ("SleepMovesModel", "at", "I", false)
  | 4 => ("SleepMovesModel", "wrong", "I", false)
  | 5 => ("SleepMovesModel", "deep", "I", false)
  | 6 => ("SleepMovesModel", "code", "[I", true)
  | 7 => ("SleepMovesModel", "value", "[I", true)
  | 8 => ("SleepMovesModel", "codes", "[I", true)
  | 9 => ("SleepMovesModel", "clauses", "[I", true)
  | 10 => ("SleepMovesModel", "testFrom", "[I", true)
  | 11 => ("SleepMovesModel", "sumFrom", "[I", true)
  | 12 => ("SleepMovesModel", "sumTo", "[I", true)
  | 13 => ("SleepMovesModel", "laws", "I", false)
  | 14 => ("SleepMovesModel", "text", "I", false)
  | 15 => ("SleepMovesModel", "letters", "[I", true)
  | 16 => ("SleepMovesModel", "stack", "[I", true)
  | 17 => ("SleepMovesModel", "readSleeper", "[I", true)
  | 18 => ("SleepMovesModel", "readThing", "[I", true)
  | 19 => ("SleepMovesModel", "readHouses", "I", false)
  | 20 => ("SleepMovesModel", "readSleepers", "I", false)
  | 21 => ("SleepMovesModel", "readThings", "I", false)
  | 22 => ("SleepMovesModel", "readPeriod", "I", false)
  | 23 => ("SleepMovesModel", "readFull", "I", false)
  | 24 => ("SleepMovesModel", "sleeper", "[I", true)
  | 25 => ("SleepMovesModel", "first", "[I", true)
  | 26 => ("SleepMovesModel", "houses", "I", false)
  | 27 => ("SleepMovesModel", "sleepers", "I", false)
  | 28 => ("SleepMovesModel", "things", "I", false)
  | 29 => ("SleepMovesModel", "period", "I", false)
  | 30 => ("SleepMovesModel", "full", "I", false)
  | 31 => ("SleepMovesModel", "ruleOf", "[I", true)
  | 32 => ("SleepMovesModel", "lie", "[I", true)
  | 33 => ("SleepMovesModel", "locks", "I", false)
  | 34 => ("SleepMovesModel", "night", "I", false)
  | 35 => ("SleepMovesModel", "risk", "I", false)
  | 36 => ("SleepMovesModel", "draws", "J", false)
  | 37 => ("SleepMovesModel", "steps", "[I", true)
  | 38 => ("SleepMovesModel", "strides", "[I", true)
  | 39 => ("SleepMovesModel", "bed", "I", false)
  | 40 => ("SleepMovesModel", "keptLie", "[I", true)
  | 41 => ("SleepMovesModel", "keptDraws", "[J", true)
  | 42 => ("SleepMovesModel", "acts", "I", false)
  | 43 => ("SleepMovesModel", "aside", "[I", true)
  | 44 => ("SleepMovesModel", "asideNight", "I", false)
  | 45 => ("SleepMovesModel", "carried", "[I", true)
  | 46 => ("SleepMovesModel", "standsAt", "[I", true)
  | 47 => ("SleepMovesModel", "seenThing", "[I", true)
  | 48 => ("SleepMovesModel", "seenAt", "[I", true)
  | 49 => ("SleepMovesModel", "seenHouse", "[I", true)
  | 50 => ("SleepMovesModel", "seenIs", "[Z", true)
  | 51 => ("SleepMovesModel", "seen", "I", false)
  | 52 => ("SleepMovesModel", "lieAt", "[I", true)
  | 53 => ("SleepMovesModel", "strideAt", "[I", true)
  | 54 => ("SleepMovesModel", "own", "[I", true)
  | 55 => ("SleepMovesModel", "ends", "[I", true)
  | 56 => ("SleepMovesModel", "imageLie", "[I", true)
  | 57 => ("SleepMovesModel", "imageLocks", "I", false)
  | 58 => ("SleepMovesModel", "imageNight", "I", false)
  | 59 => ("SleepMovesModel", "imageDraws", "J", false)
  | _ => ("SleepMovesModel", "hasImage", "Z", false)
def tyX12 : Nat → FieldType := fun k => match k with
  | 0 => .int
  | 1 => .array .int
  | 2 => .int
  | 3 => .int
  | 4 => .int
  | 5 => .int
  | 6 => .array .int
  | 7 => .array .int
  | 8 => .array .int
  | 9 => .array .int
  | 10 => .array .int
  | 11 => .array .int
  | 12 => .array .int
  | 13 => .int
  | 14 => .int
  | 15 => .array .int
  | 16 => .array .int
  | 17 => .array .int
  | 18 => .array .int
  | 19 => .int
  | 20 => .int
  | 21 => .int
  | 22 => .int
  | 23 => .int
  | 24 => .array .int
  | 25 => .array .int
  | 26 => .int
  | 27 => .int
  | 28 => .int
  | 29 => .int
  | 30 => .int
  | 31 => .array .int
  | 32 => .array .int
  | 33 => .int
  | 34 => .int
  | 35 => .int
  | 36 => .long
  | 37 => .array .int
  | 38 => .array .int
  | 39 => .int
  | 40 => .array .int
  | 41 => .array .long
  | 42 => .int
  | 43 => .array .int
  | 44 => .int
  | 45 => .array .int
  | 46 => .array .int
  | 47 => .array .int
  | 48 => .array .int
  | 49 => .array .int
  | 50 => .array .boolean
  | 51 => .int
  | 52 => .array .int
  | 53 => .array .int
  | 54 => .array .int
  | 55 => .array .int
  | 56 => .array .int
  | 57 => .int
  | 58 => .int
  | 59 => .long
  | _ => .boolean
abbrev wsX120 : List Cond := u_ws RX12 TX12 61
theorem nmX12 : ∀ a, a < 61 → ∀ b, b < 61 → a ≠ b → (TX12 a).2.1 ≠ (TX12 b).2.1 := by decide +kernel
theorem tyX12_ok : ∀ k, k < 61 → parseFieldDescriptor (TX12 k).2.2.1 = some (tyX12 k) := by decide +kernel
abbrev cX12_in : ByteArray := prog_14_method_1_code
def yX12_in : MethodName := ⟨RX12, "in", "(III)Z"⟩
abbrev cX12_has : ByteArray := prog_14_method_2_code
def yX12_has : MethodName := ⟨RX12, "has", "(II)Z"⟩
abbrev cX12_init : ByteArray := prog_14_method_3_code
def yX12_init : MethodName := ⟨RX12, "<init>", "()V"⟩
abbrev cX12_thrown : ByteArray := prog_14_method_4_code
def yX12_thrown : MethodName := ⟨RX12, "thrown", "()I"⟩
abbrev cX12_byteOf : ByteArray := prog_14_method_5_code
def yX12_byteOf : MethodName := ⟨RX12, "byteOf", "(IIIIII)I"⟩
abbrev cX12_feed : ByteArray := prog_14_method_6_code
def yX12_feed : MethodName := ⟨RX12, "feed", "(IIIII)I"⟩
abbrev cX12_end : ByteArray := prog_14_method_7_code
def yX12_end : MethodName := ⟨RX12, "end", "(I)Z"⟩
abbrev cX12_here : ByteArray := prog_14_method_8_code
def yX12_here : MethodName := ⟨RX12, "here", "()I"⟩
abbrev cX12_look : ByteArray := prog_14_method_9_code
def yX12_look : MethodName := ⟨RX12, "look", "()I"⟩
abbrev cX12_bad : ByteArray := prog_14_method_10_code
def yX12_bad : MethodName := ⟨RX12, "bad", "()V"⟩
abbrev cX12_isDigit : ByteArray := prog_14_method_11_code
def yX12_isDigit : MethodName := ⟨RX12, "isDigit", "(I)Z"⟩
abbrev cX12_note : ByteArray := prog_14_method_12_code
def yX12_note : MethodName := ⟨RX12, "note", "(II)V"⟩
abbrev cX12_letterOf : ByteArray := prog_14_method_13_code
def yX12_letterOf : MethodName := ⟨RX12, "letterOf", "(I)I"⟩
abbrev cX12_opens : ByteArray := prog_14_method_14_code
def yX12_opens : MethodName := ⟨RX12, "opens", "()V"⟩
abbrev cX12_closes : ByteArray := prog_14_method_15_code
def yX12_closes : MethodName := ⟨RX12, "closes", "(I)V"⟩
abbrev cX12_plainNumber : ByteArray := prog_14_method_16_code
def yX12_plainNumber : MethodName := ⟨RX12, "plainNumber", "()I"⟩
abbrev cX12_atom : ByteArray := prog_14_method_17_code
def yX12_atom : MethodName := ⟨RX12, "atom", "()V"⟩
abbrev cX12_term : ByteArray := prog_14_method_18_code
def yX12_term : MethodName := ⟨RX12, "term", "()V"⟩
abbrev cX12_sum : ByteArray := prog_14_method_19_code
def yX12_sum : MethodName := ⟨RX12, "sum", "()V"⟩
abbrev cX12_isSign : ByteArray := prog_14_method_20_code
def yX12_isSign : MethodName := ⟨RX12, "isSign", "(I)Z"⟩
abbrev cX12_compare : ByteArray := prog_14_method_21_code
def yX12_compare : MethodName := ⟨RX12, "compare", "()V"⟩
abbrev cX12_unit : ByteArray := prog_14_method_22_code
def yX12_unit : MethodName := ⟨RX12, "unit", "()V"⟩
abbrev cX12_goOnAnd : ByteArray := prog_14_method_23_code
def yX12_goOnAnd : MethodName := ⟨RX12, "goOnAnd", "()V"⟩
abbrev cX12_goOnOr : ByteArray := prog_14_method_24_code
def yX12_goOnOr : MethodName := ⟨RX12, "goOnOr", "()V"⟩
abbrev cX12_condition : ByteArray := prog_14_method_25_code
def yX12_condition : MethodName := ⟨RX12, "condition", "()V"⟩
abbrev cX12_clause : ByteArray := prog_14_method_26_code
def yX12_clause : MethodName := ⟨RX12, "clause", "()V"⟩
abbrev cX12_open : ByteArray := prog_14_method_27_code
def yX12_open : MethodName := ⟨RX12, "open", "(I)V"⟩
abbrev cX12_atEnd : ByteArray := prog_14_method_28_code
def yX12_atEnd : MethodName := ⟨RX12, "atEnd", "()I"⟩
abbrev cX12_readLaw : ByteArray := prog_14_method_29_code
def yX12_readLaw : MethodName := ⟨RX12, "readLaw", "(I)I"⟩
abbrev cX12_bounded : ByteArray := prog_14_method_30_code
def yX12_bounded : MethodName := ⟨RX12, "bounded", "(J)I"⟩
abbrev cX12_worked : ByteArray := prog_14_method_31_code
def yX12_worked : MethodName := ⟨RX12, "worked", "(IJJ)I"⟩
abbrev cX12_workOut : ByteArray := prog_14_method_32_code
def yX12_workOut : MethodName := ⟨RX12, "workOut", "(III)I"⟩
abbrev cX12_worthOf : ByteArray := prog_14_method_33_code
def yX12_worthOf : MethodName := ⟨RX12, "worthOf", "(I)I"⟩
abbrev cX12_digit : ByteArray := prog_14_method_34_code
def yX12_digit : MethodName := ⟨RX12, "digit", "(II)I"⟩
abbrev cX12_sleeperItem : ByteArray := prog_14_method_35_code
def yX12_sleeperItem : MethodName := ⟨RX12, "sleeperItem", "(I)I"⟩
abbrev cX12_highest : ByteArray := prog_14_method_36_code
def yX12_highest : MethodName := ⟨RX12, "highest", "(I)I"⟩
abbrev cX12_sleeperText : ByteArray := prog_14_method_37_code
def yX12_sleeperText : MethodName := ⟨RX12, "sleeperText", "()V"⟩
abbrev cX12_thingText : ByteArray := prog_14_method_38_code
def yX12_thingText : MethodName := ⟨RX12, "thingText", "()V"⟩
abbrev cX12_moonText : ByteArray := prog_14_method_39_code
def yX12_moonText : MethodName := ⟨RX12, "moonText", "()V"⟩
abbrev cX12_readStreet : ByteArray := prog_14_method_40_code
def yX12_readStreet : MethodName := ⟨RX12, "readStreet", "()I"⟩
abbrev cX12_fault : ByteArray := prog_14_method_41_code
def yX12_fault : MethodName := ⟨RX12, "fault", "(I)I"⟩
abbrev cX12_takeStreet : ByteArray := prog_14_method_42_code
def yX12_takeStreet : MethodName := ⟨RX12, "takeStreet", "()I"⟩
abbrev cX12_text : ByteArray := prog_14_method_43_code
def yX12_text : MethodName := ⟨RX12, "text", "(I)I"⟩
abbrev cX12_isSleeper : ByteArray := prog_14_method_44_code
def yX12_isSleeper : MethodName := ⟨RX12, "isSleeper", "(I)Z"⟩
abbrev cX12_isThing : ByteArray := prog_14_method_45_code
def yX12_isThing : MethodName := ⟨RX12, "isThing", "(I)Z"⟩
abbrev cX12_isHouse : ByteArray := prog_14_method_46_code
def yX12_isHouse : MethodName := ⟨RX12, "isHouse", "(I)Z"⟩
abbrev cX12_of : ByteArray := prog_14_method_47_code
def yX12_of : MethodName := ⟨RX12, "of", "(II)I"⟩
abbrev cX12_sleeper : ByteArray := prog_14_method_48_code
def yX12_sleeper : MethodName := ⟨RX12, "sleeper", "(II)I"⟩
abbrev cX12_thing : ByteArray := prog_14_method_49_code
def yX12_thing : MethodName := ⟨RX12, "thing", "(II)I"⟩
abbrev cX12_thingsIn : ByteArray := prog_14_method_50_code
def yX12_thingsIn : MethodName := ⟨RX12, "thingsIn", "(I)I"⟩
abbrev cX12_house : ByteArray := prog_14_method_51_code
def yX12_house : MethodName := ⟨RX12, "house", "(II)I"⟩
abbrev cX12_rule : ByteArray := prog_14_method_52_code
def yX12_rule : MethodName := ⟨RX12, "rule", "(II)Z"⟩
abbrev cX12_risk : ByteArray := prog_14_method_53_code
def yX12_risk : MethodName := ⟨RX12, "risk", "(I)Z"⟩
abbrev cX12_seed : ByteArray := prog_14_method_54_code
def yX12_seed : MethodName := ⟨RX12, "seed", "(J)Z"⟩
abbrev cX12_put : ByteArray := prog_14_method_55_code
def yX12_put : MethodName := ⟨RX12, "put", "(II)Z"⟩
abbrev cX12_lock : ByteArray := prog_14_method_56_code
def yX12_lock : MethodName := ⟨RX12, "lock", "(IZ)Z"⟩
abbrev cX12_isFull : ByteArray := prog_14_method_57_code
def yX12_isFull : MethodName := ⟨RX12, "isFull", "(I)Z"⟩
abbrev cX12_moon : ByteArray := prog_14_method_58_code
def yX12_moon : MethodName := ⟨RX12, "moon", "(I)I"⟩
abbrev cX12_ownStride : ByteArray := prog_14_method_59_code
def yX12_ownStride : MethodName := ⟨RX12, "ownStride", "(II)I"⟩
abbrev cX12_takenFrom : ByteArray := prog_14_method_60_code
def yX12_takenFrom : MethodName := ⟨RX12, "takenFrom", "(II)I"⟩
abbrev cX12_walk : ByteArray := prog_14_method_61_code
def yX12_walk : MethodName := ⟨RX12, "walk", "(IIZ)I"⟩
abbrev cX12_draw : ByteArray := prog_14_method_62_code
def yX12_draw : MethodName := ⟨RX12, "draw", "()I"⟩
abbrev cX12_keep : ByteArray := prog_14_method_63_code
def yX12_keep : MethodName := ⟨RX12, "keep", "()V"⟩
abbrev cX12_areNights : ByteArray := prog_14_method_64_code
def yX12_areNights : MethodName := ⟨RX12, "areNights", "(I)Z"⟩
abbrev cX12_nights : ByteArray := prog_14_method_65_code
def yX12_nights : MethodName := ⟨RX12, "nights", "(I)I"⟩
abbrev cX12_undo : ByteArray := prog_14_method_66_code
def yX12_undo : MethodName := ⟨RX12, "undo", "()I"⟩
abbrev cX12_putAside : ByteArray := prog_14_method_67_code
def yX12_putAside : MethodName := ⟨RX12, "putAside", "()V"⟩
abbrev cX12_takeBack : ByteArray := prog_14_method_68_code
def yX12_takeBack : MethodName := ⟨RX12, "takeBack", "()V"⟩
abbrev cX12_calmNight : ByteArray := prog_14_method_69_code
def yX12_calmNight : MethodName := ⟨RX12, "calmNight", "()V"⟩
abbrev cX12_calmNights : ByteArray := prog_14_method_70_code
def yX12_calmNights : MethodName := ⟨RX12, "calmNights", "(I)V"⟩
abbrev cX12_where : ByteArray := prog_14_method_71_code
def yX12_where : MethodName := ⟨RX12, "where", "(II)I"⟩
abbrev cX12_carries : ByteArray := prog_14_method_72_code
def yX12_carries : MethodName := ⟨RX12, "carries", "(II)I"⟩
abbrev cX12_touched : ByteArray := prog_14_method_73_code
def yX12_touched : MethodName := ⟨RX12, "touched", "(II)I"⟩
abbrev cX12_empty : ByteArray := prog_14_method_74_code
def yX12_empty : MethodName := ⟨RX12, "empty", "(II)I"⟩
abbrev cX12_met : ByteArray := prog_14_method_75_code
def yX12_met : MethodName := ⟨RX12, "met", "(IIII)I"⟩
abbrev cX12_stand : ByteArray := prog_14_method_76_code
def yX12_stand : MethodName := ⟨RX12, "stand", "()I"⟩
abbrev cX12_round : ByteArray := prog_14_method_77_code
def yX12_round : MethodName := ⟨RX12, "round", "(I)I"⟩
abbrev cX12_see : ByteArray := prog_14_method_78_code
def yX12_see : MethodName := ⟨RX12, "see", "(IIIZ)I"⟩
abbrev cX12_agrees : ByteArray := prog_14_method_79_code
def yX12_agrees : MethodName := ⟨RX12, "agrees", "()Z"⟩
abbrev cX12_fitsOf : ByteArray := prog_14_method_80_code
def yX12_fitsOf : MethodName := ⟨RX12, "fitsOf", "(I)I"⟩
abbrev cX12_fits : ByteArray := prog_14_method_81_code
def yX12_fits : MethodName := ⟨RX12, "fits", "(I)I"⟩
abbrev cX12_pairs : ByteArray := prog_14_method_82_code
def yX12_pairs : MethodName := ⟨RX12, "pairs", "(II)I"⟩
abbrev cX12_awake : ByteArray := prog_14_method_83_code
def yX12_awake : MethodName := ⟨RX12, "awake", "()I"⟩
abbrev cX12_kindsOf : ByteArray := prog_14_method_84_code
def yX12_kindsOf : MethodName := ⟨RX12, "kindsOf", "(III)I"⟩
abbrev cX12_test : ByteArray := prog_14_method_85_code
def yX12_test : MethodName := ⟨RX12, "test", "(III)I"⟩
abbrev cX12_keepWalk : ByteArray := prog_14_method_86_code
def yX12_keepWalk : MethodName := ⟨RX12, "keepWalk", "(I)V"⟩
abbrev cX12_takeWalk : ByteArray := prog_14_method_87_code
def yX12_takeWalk : MethodName := ⟨RX12, "takeWalk", "(I)V"⟩
abbrev cX12_oddsFrom : ByteArray := prog_14_method_88_code
def yX12_oddsFrom : MethodName := ⟨RX12, "oddsFrom", "(IIIIJ)J"⟩
abbrev cX12_odds : ByteArray := prog_14_method_89_code
def yX12_odds : MethodName := ⟨RX12, "odds", "(III)I"⟩
abbrev cX12_stays : ByteArray := prog_14_method_90_code
def yX12_stays : MethodName := ⟨RX12, "stays", "(II)Z"⟩
abbrev cX12_stay : ByteArray := prog_14_method_91_code
def yX12_stay : MethodName := ⟨RX12, "stay", "(II)I"⟩
abbrev cX12_homing : ByteArray := prog_14_method_92_code
def yX12_homing : MethodName := ⟨RX12, "homing", "(II)I"⟩
abbrev cX12_comeHome : ByteArray := prog_14_method_93_code
def yX12_comeHome : MethodName := ⟨RX12, "comeHome", "(I)Z"⟩
abbrev cX12_elsewhere : ByteArray := prog_14_method_94_code
def yX12_elsewhere : MethodName := ⟨RX12, "elsewhere", "()I"⟩
abbrev cX12_noteEnds : ByteArray := prog_14_method_95_code
def yX12_noteEnds : MethodName := ⟨RX12, "noteEnds", "(I)V"⟩
abbrev cX12_quietOf : ByteArray := prog_14_method_96_code
def yX12_quietOf : MethodName := ⟨RX12, "quietOf", "(II)I"⟩
abbrev cX12_quiet : ByteArray := prog_14_method_97_code
def yX12_quiet : MethodName := ⟨RX12, "quiet", "(II)I"⟩
abbrev cX12_culprit : ByteArray := prog_14_method_98_code
def yX12_culprit : MethodName := ⟨RX12, "culprit", "(I)I"⟩
abbrev cX12_guest : ByteArray := prog_14_method_99_code
def yX12_guest : MethodName := ⟨RX12, "guest", "(IIII)I"⟩
abbrev cX12_path : ByteArray := prog_14_method_100_code
def yX12_path : MethodName := ⟨RX12, "path", "(III)I"⟩
abbrev cX12_span : ByteArray := prog_14_method_101_code
def yX12_span : MethodName := ⟨RX12, "span", "(II)I"⟩
abbrev cX12_fullest : ByteArray := prog_14_method_102_code
def yX12_fullest : MethodName := ⟨RX12, "fullest", "(II)I"⟩
abbrev cX12_astray : ByteArray := prog_14_method_103_code
def yX12_astray : MethodName := ⟨RX12, "astray", "(I)I"⟩
abbrev cX12_image : ByteArray := prog_14_method_104_code
def yX12_image : MethodName := ⟨RX12, "image", "()I"⟩
abbrev cX12_back : ByteArray := prog_14_method_105_code
def yX12_back : MethodName := ⟨RX12, "back", "()I"⟩
abbrev cX12_count : ByteArray := prog_14_method_106_code
def yX12_count : MethodName := ⟨RX12, "count", "(I)I"⟩
def RJx145de : String := "java/io/Serializable"
def TJx145de : u_T := fun k => match k with
  | _ => ("", "", "", false)
def tyJx145de : Nat → FieldType := fun k => match k with
  | _ => .int
abbrev wsJx145de0 : List Cond := u_ws RJx145de TJx145de 0
theorem nmJx145de : ∀ a, a < 0 → ∀ b, b < 0 → a ≠ b → (TJx145de a).2.1 ≠ (TJx145de b).2.1 := by decide +kernel
theorem tyJx145de_ok : ∀ k, k < 0 → parseFieldDescriptor (TJx145de k).2.2.1 = some (tyJx145de k) := by decide +kernel
def RJx9f9b0 : String := "java/lang/CharSequence"
def TJx9f9b0 : u_T := fun k => match k with
  | _ => ("", "", "", false)
def tyJx9f9b0 : Nat → FieldType := fun k => match k with
  | _ => .int
abbrev wsJx9f9b00 : List Cond := u_ws RJx9f9b0 TJx9f9b0 0
theorem nmJx9f9b0 : ∀ a, a < 0 → ∀ b, b < 0 → a ≠ b → (TJx9f9b0 a).2.1 ≠ (TJx9f9b0 b).2.1 := by decide +kernel
theorem tyJx9f9b0_ok : ∀ k, k < 0 → parseFieldDescriptor (TJx9f9b0 k).2.2.1 = some (tyJx9f9b0 k) := by decide +kernel
def RJ11 : String := "java/lang/Character"
def TJ11 : u_T := fun k => match k with
  | _ => ("", "", "", false)
def tyJ11 : Nat → FieldType := fun k => match k with
  | _ => .int
abbrev wsJ110 : List Cond := u_ws RJ11 TJ11 0
theorem nmJ11 : ∀ a, a < 0 → ∀ b, b < 0 → a ≠ b → (TJ11 a).2.1 ≠ (TJ11 b).2.1 := by decide +kernel
theorem tyJ11_ok : ∀ k, k < 0 → parseFieldDescriptor (TJ11 k).2.2.1 = some (tyJ11 k) := by decide +kernel
abbrev cJ11_isValidCodePoint_9a6ad : ByteArray := prog_17_method_11_code
def yJ11_isValidCodePoint_9a6ad : MethodName := ⟨RJ11, "isValidCodePoint", "(I)Z"⟩
abbrev cJ11_highSurrogate_5068e : ByteArray := prog_17_method_28_code
def yJ11_highSurrogate_5068e : MethodName := ⟨RJ11, "highSurrogate", "(I)C"⟩
abbrev cJ11_lowSurrogate_5068e : ByteArray := prog_17_method_29_code
def yJ11_lowSurrogate_5068e : MethodName := ⟨RJ11, "lowSurrogate", "(I)C"⟩
def RJx8e188 : String := "java/lang/Cloneable"
def TJx8e188 : u_T := fun k => match k with
  | _ => ("", "", "", false)
def tyJx8e188 : Nat → FieldType := fun k => match k with
  | _ => .int
abbrev wsJx8e1880 : List Cond := u_ws RJx8e188 TJx8e188 0
theorem nmJx8e188 : ∀ a, a < 0 → ∀ b, b < 0 → a ≠ b → (TJx8e188 a).2.1 ≠ (TJx8e188 b).2.1 := by decide +kernel
theorem tyJx8e188_ok : ∀ k, k < 0 → parseFieldDescriptor (TJx8e188 k).2.2.1 = some (tyJx8e188 k) := by decide +kernel
def RJxb160c : String := "java/lang/Comparable"
def TJxb160c : u_T := fun k => match k with
  | _ => ("", "", "", false)
def tyJxb160c : Nat → FieldType := fun k => match k with
  | _ => .int
abbrev wsJxb160c0 : List Cond := u_ws RJxb160c TJxb160c 0
theorem nmJxb160c : ∀ a, a < 0 → ∀ b, b < 0 → a ≠ b → (TJxb160c a).2.1 ≠ (TJxb160c b).2.1 := by decide +kernel
theorem tyJxb160c_ok : ∀ k, k < 0 → parseFieldDescriptor (TJxb160c k).2.2.1 = some (tyJxb160c k) := by decide +kernel
def RJ6 : String := "java/lang/Integer"
def TJ6 : u_T := fun k => match k with
  | _ => ("", "", "", false)
def tyJ6 : Nat → FieldType := fun k => match k with
  | _ => .int
abbrev wsJ60 : List Cond := u_ws RJ6 TJ6 0
theorem nmJ6 : ∀ a, a < 0 → ∀ b, b < 0 → a ≠ b → (TJ6 a).2.1 ≠ (TJ6 b).2.1 := by decide +kernel
theorem tyJ6_ok : ∀ k, k < 0 → parseFieldDescriptor (TJ6 k).2.2.1 = some (tyJ6 k) := by decide +kernel
abbrev cJ6_numberOfLeadingZeros_0f7a4 : ByteArray := prog_21_method_47_code
def yJ6_numberOfLeadingZeros_0f7a4 : MethodName := ⟨RJ6, "numberOfLeadingZeros", "(I)I"⟩
abbrev cJ6_numberOfTrailingZeros_0f7a4 : ByteArray := prog_21_method_48_code
def yJ6_numberOfTrailingZeros_0f7a4 : MethodName := ⟨RJ6, "numberOfTrailingZeros", "(I)I"⟩
abbrev cJ6_bitCount_0f7a4 : ByteArray := prog_21_method_49_code
def yJ6_bitCount_0f7a4 : MethodName := ⟨RJ6, "bitCount", "(I)I"⟩
def RJxab1ab : String := "java/lang/Iterable"
def TJxab1ab : u_T := fun k => match k with
  | _ => ("", "", "", false)
def tyJxab1ab : Nat → FieldType := fun k => match k with
  | _ => .int
abbrev wsJxab1ab0 : List Cond := u_ws RJxab1ab TJxab1ab 0
theorem nmJxab1ab : ∀ a, a < 0 → ∀ b, b < 0 → a ≠ b → (TJxab1ab a).2.1 ≠ (TJxab1ab b).2.1 := by decide +kernel
theorem tyJxab1ab_ok : ∀ k, k < 0 → parseFieldDescriptor (TJxab1ab k).2.2.1 = some (tyJxab1ab k) := by decide +kernel
def RJ9 : String := "java/lang/Math"
def TJ9 : u_T := fun k => match k with
  | _ => ("", "", "", false)
def tyJ9 : Nat → FieldType := fun k => match k with
  | _ => .int
abbrev wsJ90 : List Cond := u_ws RJ9 TJ9 0
theorem nmJ9 : ∀ a, a < 0 → ∀ b, b < 0 → a ≠ b → (TJ9 a).2.1 ≠ (TJ9 b).2.1 := by decide +kernel
theorem tyJ9_ok : ∀ k, k < 0 → parseFieldDescriptor (TJ9 k).2.2.1 = some (tyJ9 k) := by decide +kernel
abbrev cJ9_floorMod_7cf53 : ByteArray := prog_23_method_50_code
def yJ9_floorMod_7cf53 : MethodName := ⟨RJ9, "floorMod", "(II)I"⟩
abbrev cJ9_max_7cf53 : ByteArray := prog_23_method_65_code
def yJ9_max_7cf53 : MethodName := ⟨RJ9, "max", "(II)I"⟩
abbrev cJ9_max_f86c9 : ByteArray := prog_23_method_66_code
def yJ9_max_f86c9 : MethodName := ⟨RJ9, "max", "(JJ)J"⟩
abbrev cJ9_min_7cf53 : ByteArray := prog_23_method_69_code
def yJ9_min_7cf53 : MethodName := ⟨RJ9, "min", "(II)I"⟩
abbrev cJ9_min_f86c9 : ByteArray := prog_23_method_70_code
def yJ9_min_f86c9 : MethodName := ⟨RJ9, "min", "(JJ)J"⟩
def RJ0 : String := "java/lang/String"
def TJ0 : u_T := fun k => match k with
  | _ => ("", "", "", false)
def tyJ0 : Nat → FieldType := fun k => match k with
  | _ => .int
abbrev wsJ00 : List Cond := u_ws RJ0 TJ0 0
theorem nmJ0 : ∀ a, a < 0 → ∀ b, b < 0 → a ≠ b → (TJ0 a).2.1 ≠ (TJ0 b).2.1 := by decide +kernel
theorem tyJ0_ok : ∀ k, k < 0 → parseFieldDescriptor (TJ0 k).2.2.1 = some (tyJ0 k) := by decide +kernel
abbrev cJ0_length_8abf5 : ByteArray := prog_25_method_54_code
def yJ0_length_8abf5 : MethodName := ⟨RJ0, "length", "()I"⟩
abbrev cJ0_indexOf_0f7a4 : ByteArray := prog_25_method_79_code
def yJ0_indexOf_0f7a4 : MethodName := ⟨RJ0, "indexOf", "(I)I"⟩
abbrev cJ0_indexOf_7cf53 : ByteArray := prog_25_method_80_code
def yJ0_indexOf_7cf53 : MethodName := ⟨RJ0, "indexOf", "(II)I"⟩
abbrev cJ0_coder_7d493 : ByteArray := prog_25_method_152_code
def yJ0_coder_7d493 : MethodName := ⟨RJ0, "coder", "()B"⟩
abbrev cJ0_isLatin1_aae02 : ByteArray := prog_25_method_154_code
def yJ0_isLatin1_aae02 : MethodName := ⟨RJ0, "isLatin1", "()Z"⟩
abbrev cJ0_checkBoundsBeginEnd_23922 : ByteArray := prog_25_method_158_code
def yJ0_checkBoundsBeginEnd_23922 : MethodName := ⟨RJ0, "checkBoundsBeginEnd", "(III)V"⟩
def RJ1 : String := "java/lang/StringLatin1"
def TJ1 : u_T := fun k => match k with
  | _ => ("", "", "", false)
def tyJ1 : Nat → FieldType := fun k => match k with
  | _ => .int
abbrev wsJ10 : List Cond := u_ws RJ1 TJ1 0
theorem nmJ1 : ∀ a, a < 0 → ∀ b, b < 0 → a ≠ b → (TJ1 a).2.1 ≠ (TJ1 b).2.1 := by decide +kernel
theorem tyJ1_ok : ∀ k, k < 0 → parseFieldDescriptor (TJ1 k).2.2.1 = some (tyJ1 k) := by decide +kernel
abbrev cJ1_canEncode_9a6ad : ByteArray := prog_26_method_4_code
def yJ1_canEncode_9a6ad : MethodName := ⟨RJ1, "canEncode", "(I)Z"⟩
abbrev cJ1_indexOf_4cfef : ByteArray := prog_26_method_22_code
def yJ1_indexOf_4cfef : MethodName := ⟨RJ1, "indexOf", "([BIII)I"⟩
abbrev cJ1_indexOfChar_4cfef : ByteArray := prog_26_method_23_code
def yJ1_indexOfChar_4cfef : MethodName := ⟨RJ1, "indexOfChar", "([BIII)I"⟩
def RJ2 : String := "java/lang/StringUTF16"
def TJ2 : u_T := fun k => match k with
  | _ => ("", "", "", false)
def tyJ2 : Nat → FieldType := fun k => match k with
  | _ => .int
abbrev wsJ20 : List Cond := u_ws RJ2 TJ2 0
theorem nmJ2 : ∀ a, a < 0 → ∀ b, b < 0 → a ≠ b → (TJ2 a).2.1 ≠ (TJ2 b).2.1 := by decide +kernel
theorem tyJ2_ok : ∀ k, k < 0 → parseFieldDescriptor (TJ2 k).2.2.1 = some (tyJ2 k) := by decide +kernel
abbrev cJ2_getChar_3b067 : ByteArray := prog_27_method_5_code
def yJ2_getChar_3b067 : MethodName := ⟨RJ2, "getChar", "([BI)C"⟩
abbrev cJ2_length_9d52b : ByteArray := prog_27_method_6_code
def yJ2_length_9d52b : MethodName := ⟨RJ2, "length", "([B)I"⟩
abbrev cJ2_indexOf_4cfef : ByteArray := prog_27_method_40_code
def yJ2_indexOf_4cfef : MethodName := ⟨RJ2, "indexOf", "([BIII)I"⟩
abbrev cJ2_indexOfChar_4cfef : ByteArray := prog_27_method_47_code
def yJ2_indexOfChar_4cfef : MethodName := ⟨RJ2, "indexOfChar", "([BIII)I"⟩
abbrev cJ2_indexOfCharUnsafe_4cfef : ByteArray := prog_27_method_48_code
def yJ2_indexOfCharUnsafe_4cfef : MethodName := ⟨RJ2, "indexOfCharUnsafe", "([BIII)I"⟩
abbrev cJ2_indexOfSupplementary_4cfef : ByteArray := prog_27_method_49_code
def yJ2_indexOfSupplementary_4cfef : MethodName := ⟨RJ2, "indexOfSupplementary", "([BIII)I"⟩
abbrev cJ2_checkBoundsBeginEnd_d044e : ByteArray := prog_27_method_93_code
def yJ2_checkBoundsBeginEnd_d044e : MethodName := ⟨RJ2, "checkBoundsBeginEnd", "(II[B)V"⟩
def RJ10 : String := "java/lang/System"
def TJ10 : u_T := fun k => match k with
  | _ => ("", "", "", false)
def tyJ10 : Nat → FieldType := fun k => match k with
  | _ => .int
abbrev wsJ100 : List Cond := u_ws RJ10 TJ10 0
theorem nmJ10 : ∀ a, a < 0 → ∀ b, b < 0 → a ≠ b → (TJ10 a).2.1 ≠ (TJ10 b).2.1 := by decide +kernel
theorem tyJ10_ok : ∀ k, k < 0 → parseFieldDescriptor (TJ10 k).2.2.1 = some (tyJ10 k) := by decide +kernel
def RJxfd54e : String := "java/lang/constant/Constable"
def TJxfd54e : u_T := fun k => match k with
  | _ => ("", "", "", false)
def tyJxfd54e : Nat → FieldType := fun k => match k with
  | _ => .int
abbrev wsJxfd54e0 : List Cond := u_ws RJxfd54e TJxfd54e 0
theorem nmJxfd54e : ∀ a, a < 0 → ∀ b, b < 0 → a ≠ b → (TJxfd54e a).2.1 ≠ (TJxfd54e b).2.1 := by decide +kernel
theorem tyJxfd54e_ok : ∀ k, k < 0 → parseFieldDescriptor (TJxfd54e k).2.2.1 = some (tyJxfd54e k) := by decide +kernel
def RJx3cf43 : String := "java/lang/constant/ConstantDesc"
def TJx3cf43 : u_T := fun k => match k with
  | _ => ("", "", "", false)
def tyJx3cf43 : Nat → FieldType := fun k => match k with
  | _ => .int
abbrev wsJx3cf430 : List Cond := u_ws RJx3cf43 TJx3cf43 0
theorem nmJx3cf43 : ∀ a, a < 0 → ∀ b, b < 0 → a ≠ b → (TJx3cf43 a).2.1 ≠ (TJx3cf43 b).2.1 := by decide +kernel
theorem tyJx3cf43_ok : ∀ k, k < 0 → parseFieldDescriptor (TJx3cf43 k).2.2.1 = some (tyJx3cf43 k) := by decide +kernel
def RJxa1e45 : String := "java/util/AbstractCollection"
def TJxa1e45 : u_T := fun k => match k with
  | _ => ("", "", "", false)
def tyJxa1e45 : Nat → FieldType := fun k => match k with
  | _ => .int
abbrev wsJxa1e450 : List Cond := u_ws RJxa1e45 TJxa1e45 0
theorem nmJxa1e45 : ∀ a, a < 0 → ∀ b, b < 0 → a ≠ b → (TJxa1e45 a).2.1 ≠ (TJxa1e45 b).2.1 := by decide +kernel
theorem tyJxa1e45_ok : ∀ k, k < 0 → parseFieldDescriptor (TJxa1e45 k).2.2.1 = some (tyJxa1e45 k) := by decide +kernel
abbrev cJxa1e45_init_da8c8 : ByteArray := prog_32_method_1_code
def yJxa1e45_init_da8c8 : MethodName := ⟨RJxa1e45, "<init>", "()V"⟩
def RJxc12de : String := "java/util/AbstractList"
def TJxc12de : u_T := fun k => match k with
  | _ => ("", "", "", false)
def tyJxc12de : Nat → FieldType := fun k => match k with
  | _ => .int
abbrev wsJxc12de0 : List Cond := u_ws RJxc12de TJxc12de 0
theorem nmJxc12de : ∀ a, a < 0 → ∀ b, b < 0 → a ≠ b → (TJxc12de a).2.1 ≠ (TJxc12de b).2.1 := by decide +kernel
theorem tyJxc12de_ok : ∀ k, k < 0 → parseFieldDescriptor (TJxc12de k).2.2.1 = some (tyJxc12de k) := by decide +kernel
abbrev cJxc12de_init_da8c8 : ByteArray := prog_33_method_1_code
def yJxc12de_init_da8c8 : MethodName := ⟨RJxc12de, "<init>", "()V"⟩
def RJx4a65c : String := "java/util/ArrayList"
def TJx4a65c : u_T := fun k => match k with
  | 0 => ("java/util/AbstractList", "modCount", "I", false)
  | 1 => ("java/util/ArrayList", "elementData", "[Ljava/lang/Object;", false)
  | _ => ("java/util/ArrayList", "size", "I", false)
def tyJx4a65c : Nat → FieldType := fun k => match k with
  | 0 => .int
  | 1 => .array (.object "java/lang/Object")
  | _ => .int
abbrev wsJx4a65c0 : List Cond := u_ws RJx4a65c TJx4a65c 3
theorem nmJx4a65c : ∀ a, a < 3 → ∀ b, b < 3 → a ≠ b → (TJx4a65c a).2.1 ≠ (TJx4a65c b).2.1 := by decide +kernel
theorem tyJx4a65c_ok : ∀ k, k < 3 → parseFieldDescriptor (TJx4a65c k).2.2.1 = some (tyJx4a65c k) := by decide +kernel
abbrev cJx4a65c_init_da8c8 : ByteArray := prog_34_method_2_code
def yJx4a65c_init_da8c8 : MethodName := ⟨RJx4a65c, "<init>", "()V"⟩
abbrev cJx4a65c_grow_92f84 : ByteArray := prog_34_method_6_code
def yJx4a65c_grow_92f84 : MethodName := ⟨RJx4a65c, "grow", "(I)[Ljava/lang/Object;"⟩
abbrev cJx4a65c_grow_d5877 : ByteArray := prog_34_method_7_code
def yJx4a65c_grow_d5877 : MethodName := ⟨RJx4a65c, "grow", "()[Ljava/lang/Object;"⟩
abbrev cJx4a65c_size_8abf5 : ByteArray := prog_34_method_8_code
def yJx4a65c_size_8abf5 : MethodName := ⟨RJx4a65c, "size", "()I"⟩
abbrev cJx4a65c_elementData_915e3 : ByteArray := prog_34_method_18_code
def yJx4a65c_elementData_915e3 : MethodName := ⟨RJx4a65c, "elementData", "(I)Ljava/lang/Object;"⟩
abbrev cJx4a65c_get_915e3 : ByteArray := prog_34_method_20_code
def yJx4a65c_get_915e3 : MethodName := ⟨RJx4a65c, "get", "(I)Ljava/lang/Object;"⟩
abbrev cJx4a65c_add_72be8 : ByteArray := prog_34_method_24_code
def yJx4a65c_add_72be8 : MethodName := ⟨RJx4a65c, "add", "(Ljava/lang/Object;[Ljava/lang/Object;I)V"⟩
abbrev cJx4a65c_add_9ea2d : ByteArray := prog_34_method_25_code
def yJx4a65c_add_9ea2d : MethodName := ⟨RJx4a65c, "add", "(Ljava/lang/Object;)Z"⟩
def RJ7 : String := "java/util/Arrays"
def TJ7 : u_T := fun k => match k with
  | _ => ("", "", "", false)
def tyJ7 : Nat → FieldType := fun k => match k with
  | _ => .int
abbrev wsJ70 : List Cond := u_ws RJ7 TJ7 0
theorem nmJ7 : ∀ a, a < 0 → ∀ b, b < 0 → a ≠ b → (TJ7 a).2.1 ≠ (TJ7 b).2.1 := by decide +kernel
theorem tyJ7_ok : ∀ k, k < 0 → parseFieldDescriptor (TJ7 k).2.2.1 = some (tyJ7 k) := by decide +kernel
abbrev cJ7_copyOf_1904c : ByteArray := prog_35_method_119_code
def yJ7_copyOf_1904c : MethodName := ⟨RJ7, "copyOf", "([Ljava/lang/Object;I)[Ljava/lang/Object;"⟩
abbrev cJ7_copyOf_6403c : ByteArray := prog_35_method_120_code
def yJ7_copyOf_6403c : MethodName := ⟨RJ7, "copyOf", "([Ljava/lang/Object;ILjava/lang/Class;)[Ljava/lang/Object;"⟩
def RJx5ef63 : String := "java/util/Collection"
def TJx5ef63 : u_T := fun k => match k with
  | _ => ("", "", "", false)
def tyJx5ef63 : Nat → FieldType := fun k => match k with
  | _ => .int
abbrev wsJx5ef630 : List Cond := u_ws RJx5ef63 TJx5ef63 0
theorem nmJx5ef63 : ∀ a, a < 0 → ∀ b, b < 0 → a ≠ b → (TJx5ef63 a).2.1 ≠ (TJx5ef63 b).2.1 := by decide +kernel
theorem tyJx5ef63_ok : ∀ k, k < 0 → parseFieldDescriptor (TJx5ef63 k).2.2.1 = some (tyJx5ef63 k) := by decide +kernel
def RJxbd725 : String := "java/util/List"
def TJxbd725 : u_T := fun k => match k with
  | _ => ("", "", "", false)
def tyJxbd725 : Nat → FieldType := fun k => match k with
  | _ => .int
abbrev wsJxbd7250 : List Cond := u_ws RJxbd725 TJxbd725 0
theorem nmJxbd725 : ∀ a, a < 0 → ∀ b, b < 0 → a ≠ b → (TJxbd725 a).2.1 ≠ (TJxbd725 b).2.1 := by decide +kernel
theorem tyJxbd725_ok : ∀ k, k < 0 → parseFieldDescriptor (TJxbd725 k).2.2.1 = some (tyJxbd725 k) := by decide +kernel
def RJ15 : String := "java/util/Objects"
def TJ15 : u_T := fun k => match k with
  | _ => ("", "", "", false)
def tyJ15 : Nat → FieldType := fun k => match k with
  | _ => .int
abbrev wsJ150 : List Cond := u_ws RJ15 TJ15 0
theorem nmJ15 : ∀ a, a < 0 → ∀ b, b < 0 → a ≠ b → (TJ15 a).2.1 ≠ (TJ15 b).2.1 := by decide +kernel
theorem tyJ15_ok : ∀ k, k < 0 → parseFieldDescriptor (TJ15 k).2.2.1 = some (tyJ15 k) := by decide +kernel
abbrev cJ15_checkIndex_7cf53 : ByteArray := prog_39_method_17_code
def yJ15_checkIndex_7cf53 : MethodName := ⟨RJ15, "checkIndex", "(II)I"⟩
def RJxf0a74 : String := "java/util/RandomAccess"
def TJxf0a74 : u_T := fun k => match k with
  | _ => ("", "", "", false)
def tyJxf0a74 : Nat → FieldType := fun k => match k with
  | _ => .int
abbrev wsJxf0a740 : List Cond := u_ws RJxf0a74 TJxf0a74 0
theorem nmJxf0a74 : ∀ a, a < 0 → ∀ b, b < 0 → a ≠ b → (TJxf0a74 a).2.1 ≠ (TJxf0a74 b).2.1 := by decide +kernel
theorem tyJxf0a74_ok : ∀ k, k < 0 → parseFieldDescriptor (TJxf0a74 k).2.2.1 = some (tyJxf0a74 k) := by decide +kernel
def RJxa66e6 : String := "java/util/SequencedCollection"
def TJxa66e6 : u_T := fun k => match k with
  | _ => ("", "", "", false)
def tyJxa66e6 : Nat → FieldType := fun k => match k with
  | _ => .int
abbrev wsJxa66e60 : List Cond := u_ws RJxa66e6 TJxa66e6 0
theorem nmJxa66e6 : ∀ a, a < 0 → ∀ b, b < 0 → a ≠ b → (TJxa66e6 a).2.1 ≠ (TJxa66e6 b).2.1 := by decide +kernel
theorem tyJxa66e6_ok : ∀ k, k < 0 → parseFieldDescriptor (TJxa66e6 k).2.2.1 = some (tyJxa66e6 k) := by decide +kernel
def RJ8 : String := "jdk/internal/util/ArraysSupport"
def TJ8 : u_T := fun k => match k with
  | _ => ("", "", "", false)
def tyJ8 : Nat → FieldType := fun k => match k with
  | _ => .int
abbrev wsJ80 : List Cond := u_ws RJ8 TJ8 0
theorem nmJ8 : ∀ a, a < 0 → ∀ b, b < 0 → a ≠ b → (TJ8 a).2.1 ≠ (TJ8 b).2.1 := by decide +kernel
theorem tyJ8_ok : ∀ k, k < 0 → parseFieldDescriptor (TJ8 k).2.2.1 = some (tyJ8 k) := by decide +kernel
abbrev cJ8_newLength_cabcc : ByteArray := prog_42_method_27_code
def yJ8_newLength_cabcc : MethodName := ⟨RJ8, "newLength", "(III)I"⟩
abbrev cJ8_hugeLength_7cf53 : ByteArray := prog_42_method_28_code
def yJ8_hugeLength_7cf53 : MethodName := ⟨RJ8, "hugeLength", "(II)I"⟩
def RJ3 : String := "jdk/internal/util/Preconditions"
def TJ3 : u_T := fun k => match k with
  | _ => ("", "", "", false)
def tyJ3 : Nat → FieldType := fun k => match k with
  | _ => .int
abbrev wsJ30 : List Cond := u_ws RJ3 TJ3 0
theorem nmJ3 : ∀ a, a < 0 → ∀ b, b < 0 → a ≠ b → (TJ3 a).2.1 ≠ (TJ3 b).2.1 := by decide +kernel
theorem tyJ3_ok : ∀ k, k < 0 → parseFieldDescriptor (TJ3 k).2.2.1 = some (tyJ3 k) := by decide +kernel
abbrev cJ3_checkIndex_8e157 : ByteArray := prog_43_method_11_code
def yJ3_checkIndex_8e157 : MethodName := ⟨RJ3, "checkIndex", "(IILjava/util/function/BiFunction;)I"⟩
abbrev cJ3_checkFromToIndex_8c36e : ByteArray := prog_43_method_12_code
def yJ3_checkFromToIndex_8c36e : MethodName := ⟨RJ3, "checkFromToIndex", "(IIILjava/util/function/BiFunction;)I"⟩
def RL : String := "SleepMovesLaw"
abbrev cL_sleeper : ByteArray := method_3_code
def yL_sleeper : MethodName := ⟨RL, "sleeper", "(LSleepMoves;II[J)I"⟩
abbrev cL_law : ByteArray := code
def yL_law : MethodName := ⟨RL, "law", "([I)Z"⟩
abbrev vwCl : List vw_C := [(RJx4a65c, TJx4a65c, 3), (RX0, TX0, 21), (RX1, TX1, 5), (RX3, TX3, 1), (RX4, TX4, 2), (RX5, TX5, 5), (RX6, TX6, 6), (RX7, TX7, 4), (RX8, TX8, 11), (RX9, TX9, 5), (RX10, TX10, 2), (RX11, TX11, 16), (RX12, TX12, 61)]
