/-! ===== BEGIN printed: names, fields, word lists, decode rows ===== -/
def RX0 : String := "LiarHall$Asker"
def TX0 : u_T := fun k => match k with
  | 0 => ("LiarHall$Asker", "reckoner", "LLiarHall$Reckoner;", true)
  | 1 => ("LiarHall$Asker", "letters", "[J", true)
  | 2 => ("LiarHall$Asker", "saying", "LLiarHall$Saying;", false)
  | 3 => ("LiarHall$Asker", "law", "LLiarHall$Text;", false)
  | 4 => ("LiarHall$Asker", "modulus", "I", false)
  | 5 => ("LiarHall$Asker", "upper", "J", false)
  | _ => ("LiarHall$Asker", "lower", "J", false)
def tyX0 : Nat → FieldType := fun k => match k with
  | 0 => .object "LiarHall$Reckoner"
  | 1 => .array .long
  | 2 => .object "LiarHall$Saying"
  | 3 => .object "LiarHall$Text"
  | 4 => .int
  | 5 => .long
  | _ => .long
abbrev wsX00 : List Cond := u_ws RX0 TX0 7
theorem nmX0 : ∀ a, a < 7 → ∀ b, b < 7 → a ≠ b → (TX0 a).2.1 ≠ (TX0 b).2.1 := by decide +kernel
theorem tyX0_ok : ∀ k, k < 7 → parseFieldDescriptor (TX0 k).2.2.1 = some (tyX0 k) := by decide +kernel
abbrev cX0_init : ByteArray := prog_2_method_1_code
def yX0_init : MethodName := ⟨RX0, "<init>", "(LLiarHall$Reckoner;)V"⟩
abbrev cX0_sit : ByteArray := prog_2_method_2_code
def yX0_sit : MethodName := ⟨RX0, "sit", "(LLiarHall$Saying;LLiarHall$Text;I)V"⟩
abbrev cX0_asksForSum : ByteArray := prog_2_method_3_code
def yX0_asksForSum : MethodName := ⟨RX0, "asksForSum", "(I)Z"⟩
abbrev cX0_asksAtEnd : ByteArray := prog_2_method_4_code
def yX0_asksAtEnd : MethodName := ⟨RX0, "asksAtEnd", "()Z"⟩
abbrev cX0_dice : ByteArray := prog_2_method_5_code
def yX0_dice : MethodName := ⟨RX0, "dice", "(I)I"⟩
abbrev cX0_rounds : ByteArray := prog_2_method_6_code
def yX0_rounds : MethodName := ⟨RX0, "rounds", "()I"⟩
abbrev cX0_steepOf : ByteArray := prog_2_method_7_code
def yX0_steepOf : MethodName := ⟨RX0, "steepOf", "(I)I"⟩
abbrev cX0_lawWorth : ByteArray := prog_2_method_8_code
def yX0_lawWorth : MethodName := ⟨RX0, "lawWorth", "(II)J"⟩
abbrev cX0_allRows : ByteArray := prog_2_method_9_code
def yX0_allRows : MethodName := ⟨RX0, "allRows", "()I"⟩
abbrev cX0_mostRoots : ByteArray := prog_2_method_10_code
def yX0_mostRoots : MethodName := ⟨RX0, "mostRoots", "(I)I"⟩
abbrev cX0_tellsBest : ByteArray := prog_2_method_11_code
def yX0_tellsBest : MethodName := ⟨RX0, "tellsBest", "()Z"⟩
abbrev cX0_tellsBound : ByteArray := prog_2_method_12_code
def yX0_tellsBound : MethodName := ⟨RX0, "tellsBound", "()Z"⟩
abbrev cX0_setFraction : ByteArray := prog_2_method_13_code
def yX0_setFraction : MethodName := ⟨RX0, "setFraction", "(JJ)V"⟩
abbrev cX0_fraction : ByteArray := prog_2_method_14_code
def yX0_fraction : MethodName := ⟨RX0, "fraction", "(I)J"⟩
abbrev cX0_isAtMostOneBy : ByteArray := prog_2_method_15_code
def yX0_isAtMostOneBy : MethodName := ⟨RX0, "isAtMostOneBy", "(I)Z"⟩
def RX1 : String := "LiarHall$Course"
def TX1 : u_T := fun k => match k with
  | 0 => ("LiarHall$Course", "reckoner", "LLiarHall$Reckoner;", true)
  | 1 => ("LiarHall$Course", "asker", "LLiarHall$Asker;", true)
  | 2 => ("LiarHall$Course", "letters", "[J", true)
  | 3 => ("LiarHall$Course", "values", "[[J", true)
  | 4 => ("LiarHall$Course", "draws", "[J", true)
  | 5 => ("LiarHall$Course", "truths", "[J", true)
  | 6 => ("LiarHall$Course", "firstTruths", "[J", true)
  | 7 => ("LiarHall$Course", "firstTruthsOf", "LLiarHall$Talk;", false)
  | 8 => ("LiarHall$Course", "talk", "LLiarHall$Talk;", false)
  | 9 => ("LiarHall$Course", "firstClaim", "J", false)
  | 10 => ("LiarHall$Course", "claim", "J", false)
  | 11 => ("LiarHall$Course", "gaveUp", "I", false)
  | 12 => ("LiarHall$Course", "drawn", "I", false)
  | 13 => ("LiarHall$Course", "roundsSaid", "I", false)
  | _ => ("LiarHall$Course", "x", "J", false)
def tyX1 : Nat → FieldType := fun k => match k with
  | 0 => .object "LiarHall$Reckoner"
  | 1 => .object "LiarHall$Asker"
  | 2 => .array .long
  | 3 => .array (.array .long)
  | 4 => .array .long
  | 5 => .array .long
  | 6 => .array .long
  | 7 => .object "LiarHall$Talk"
  | 8 => .object "LiarHall$Talk"
  | 9 => .long
  | 10 => .long
  | 11 => .int
  | 12 => .int
  | 13 => .int
  | _ => .long
abbrev wsX10 : List Cond := u_ws RX1 TX1 15
theorem nmX1 : ∀ a, a < 15 → ∀ b, b < 15 → a ≠ b → (TX1 a).2.1 ≠ (TX1 b).2.1 := by decide +kernel
theorem tyX1_ok : ∀ k, k < 15 → parseFieldDescriptor (TX1 k).2.2.1 = some (tyX1 k) := by decide +kernel
abbrev cX1_init : ByteArray := prog_3_method_1_code
def yX1_init : MethodName := ⟨RX1, "<init>", "(LLiarHall$Reckoner;LLiarHall$Asker;)V"⟩
abbrev cX1_goByDraws : ByteArray := prog_3_method_2_code
def yX1_goByDraws : MethodName := ⟨RX1, "goByDraws", "(LLiarHall$Talk;JI)Z"⟩
abbrev cX1_goFixed : ByteArray := prog_3_method_3_code
def yX1_goFixed : MethodName := ⟨RX1, "goFixed", "(LLiarHall$Talk;I)Z"⟩
abbrev cX1_believedFrom : ByteArray := prog_3_method_4_code
def yX1_believedFrom : MethodName := ⟨RX1, "believedFrom", "(LLiarHall$Talk;I)I"⟩
abbrev cX1_open : ByteArray := prog_3_method_5_code
def yX1_open : MethodName := ⟨RX1, "open", "(LLiarHall$Talk;I)V"⟩
abbrev cX1_saidBy : ByteArray := prog_3_method_6_code
def yX1_saidBy : MethodName := ⟨RX1, "saidBy", "(LLiarHall$Talk;I)J"⟩
abbrev cX1_sayCurve : ByteArray := prog_3_method_7_code
def yX1_sayCurve : MethodName := ⟨RX1, "sayCurve", "(LLiarHall$Talk;I)V"⟩
abbrev cX1_truthsOf : ByteArray := prog_3_method_8_code
def yX1_truthsOf : MethodName := ⟨RX1, "truthsOf", "(LLiarHall$Talk;I)[J"⟩
abbrev cX1_drawBefore : ByteArray := prog_3_method_9_code
def yX1_drawBefore : MethodName := ⟨RX1, "drawBefore", "(I)J"⟩
abbrev cX1_note : ByteArray := prog_3_method_10_code
def yX1_note : MethodName := ⟨RX1, "note", "(IIJ)V"⟩
abbrev cX1_agrees : ByteArray := prog_3_method_11_code
def yX1_agrees : MethodName := ⟨RX1, "agrees", "(LLiarHall$Talk;I)Z"⟩
abbrev cX1_stir : ByteArray := prog_3_method_12_code
def yX1_stir : MethodName := ⟨RX1, "stir", "(J)V"⟩
abbrev cX1_drawOfDice : ByteArray := prog_3_method_13_code
def yX1_drawOfDice : MethodName := ⟨RX1, "drawOfDice", "(I)I"⟩
abbrev cX1_moveOn : ByteArray := prog_3_method_14_code
def yX1_moveOn : MethodName := ⟨RX1, "moveOn", "(LLiarHall$Talk;II)V"⟩
abbrev cX1_believesAtEnd : ByteArray := prog_3_method_15_code
def yX1_believesAtEnd : MethodName := ⟨RX1, "believesAtEnd", "(LLiarHall$Talk;)Z"⟩
abbrev cX1_hasSaid : ByteArray := prog_3_method_16_code
def yX1_hasSaid : MethodName := ⟨RX1, "hasSaid", "(II)Z"⟩
abbrev cX1_saidAt : ByteArray := prog_3_method_17_code
def yX1_saidAt : MethodName := ⟨RX1, "saidAt", "(II)J"⟩
abbrev cX1_drawOf : ByteArray := prog_3_method_18_code
def yX1_drawOf : MethodName := ⟨RX1, "drawOf", "(I)I"⟩
def RX2 : String := "LiarHall$Net"
def TX2 : u_T := fun k => match k with
  | 0 => ("LiarHall$Net", "points", "I", true)
  | _ => ("LiarHall$Net", "edges", "I", true)
def tyX2 : Nat → FieldType := fun k => match k with
  | 0 => .int
  | _ => .int
abbrev wsX20 : List Cond := u_ws RX2 TX2 2
theorem nmX2 : ∀ a, a < 2 → ∀ b, b < 2 → a ≠ b → (TX2 a).2.1 ≠ (TX2 b).2.1 := by decide +kernel
theorem tyX2_ok : ∀ k, k < 2 → parseFieldDescriptor (TX2 k).2.2.1 = some (tyX2 k) := by decide +kernel
abbrev cX2_init : ByteArray := prog_4_method_1_code
def yX2_init : MethodName := ⟨RX2, "<init>", "(II)V"⟩
abbrev cX2_joins : ByteArray := prog_4_method_2_code
def yX2_joins : MethodName := ⟨RX2, "joins", "(II)Z"⟩
abbrev cX2_isAlike : ByteArray := prog_4_method_3_code
def yX2_isAlike : MethodName := ⟨RX2, "isAlike", "(LLiarHall$Net;[I)Z"⟩
abbrev cX2_goOnFrom : ByteArray := prog_4_method_4_code
def yX2_goOnFrom : MethodName := ⟨RX2, "goOnFrom", "(IILLiarHall$Net;[I)Z"⟩
abbrev cX2_fits : ByteArray := prog_4_method_5_code
def yX2_fits : MethodName := ⟨RX2, "fits", "(IILLiarHall$Net;[I)Z"⟩
def RX3 : String := "LiarHall$Reckoner"
def TX3 : u_T := fun k => match k with
  | 0 => ("LiarHall$Reckoner", "stack", "[J", true)
  | 1 => ("LiarHall$Reckoner", "corner", "[J", true)
  | 2 => ("LiarHall$Reckoner", "differences", "[J", true)
  | _ => ("LiarHall$Reckoner", "inverses", "[J", true)
def tyX3 : Nat → FieldType := fun k => match k with
  | 0 => .array .long
  | 1 => .array .long
  | 2 => .array .long
  | _ => .array .long
abbrev wsX30 : List Cond := u_ws RX3 TX3 4
theorem nmX3 : ∀ a, a < 4 → ∀ b, b < 4 → a ≠ b → (TX3 a).2.1 ≠ (TX3 b).2.1 := by decide +kernel
theorem tyX3_ok : ∀ k, k < 4 → parseFieldDescriptor (TX3 k).2.2.1 = some (tyX3 k) := by decide +kernel
abbrev cX3_init : ByteArray := prog_5_method_1_code
def yX3_init : MethodName := ⟨RX3, "<init>", "()V"⟩
abbrev cX3_rest : ByteArray := prog_5_method_2_code
def yX3_rest : MethodName := ⟨RX3, "rest", "(JJ)J"⟩
abbrev cX3_plus : ByteArray := prog_5_method_3_code
def yX3_plus : MethodName := ⟨RX3, "plus", "(JJJ)J"⟩
abbrev cX3_minus : ByteArray := prog_5_method_4_code
def yX3_minus : MethodName := ⟨RX3, "minus", "(JJJ)J"⟩
abbrev cX3_times : ByteArray := prog_5_method_5_code
def yX3_times : MethodName := ⟨RX3, "times", "(JJJ)J"⟩
abbrev cX3_isPrime : ByteArray := prog_5_method_6_code
def yX3_isPrime : MethodName := ⟨RX3, "isPrime", "(I)Z"⟩
abbrev cX3_passes : ByteArray := prog_5_method_7_code
def yX3_passes : MethodName := ⟨RX3, "passes", "(II)Z"⟩
abbrev cX3_put : ByteArray := prog_5_method_8_code
def yX3_put : MethodName := ⟨RX3, "put", "(IJ)V"⟩
abbrev cX3_worthOf : ByteArray := prog_5_method_9_code
def yX3_worthOf : MethodName := ⟨RX3, "worthOf", "(LLiarHall$Saying;J)J"⟩
abbrev cX3_overCorners : ByteArray := prog_5_method_10_code
def yX3_overCorners : MethodName := ⟨RX3, "overCorners", "(LLiarHall$Saying;IJ)J"⟩
abbrev cX3_gameWorth : ByteArray := prog_5_method_11_code
def yX3_gameWorth : MethodName := ⟨RX3, "gameWorth", "(LLiarHall$Saying;IJI)J"⟩
abbrev cX3_curveAt : ByteArray := prog_5_method_12_code
def yX3_curveAt : MethodName := ⟨RX3, "curveAt", "([JIJJ)J"⟩
abbrev cX3_fillInverses : ByteArray := prog_5_method_13_code
def yX3_fillInverses : MethodName := ⟨RX3, "fillInverses", "(IJ)V"⟩
abbrev cX3_labelWorth : ByteArray := prog_5_method_14_code
def yX3_labelWorth : MethodName := ⟨RX3, "labelWorth", "(LLiarHall$Text;I[J)J"⟩
abbrev cX3_reckoned : ByteArray := prog_5_method_15_code
def yX3_reckoned : MethodName := ⟨RX3, "reckoned", "([III[J)J"⟩
abbrev cX3_letterWorth : ByteArray := prog_5_method_16_code
def yX3_letterWorth : MethodName := ⟨RX3, "letterWorth", "(I[J)J"⟩
abbrev cX3_worked : ByteArray := prog_5_method_17_code
def yX3_worked : MethodName := ⟨RX3, "worked", "(IJJ)J"⟩
def RX4 : String := "LiarHall$Saying"
def TX4 : u_T := fun k => match k with
  | 0 => ("LiarHall$Saying", "code", "[I", true)
  | 1 => ("LiarHall$Saying", "steeps", "[I", true)
  | 2 => ("LiarHall$Saying", "names", "I", true)
  | 3 => ("LiarHall$Saying", "work", "I", true)
  | _ => ("LiarHall$Saying", "corners", "I", false)
def tyX4 : Nat → FieldType := fun k => match k with
  | 0 => .array .int
  | 1 => .array .int
  | 2 => .int
  | 3 => .int
  | _ => .int
abbrev wsX40 : List Cond := u_ws RX4 TX4 5
theorem nmX4 : ∀ a, a < 5 → ∀ b, b < 5 → a ≠ b → (TX4 a).2.1 ≠ (TX4 b).2.1 := by decide +kernel
theorem tyX4_ok : ∀ k, k < 5 → parseFieldDescriptor (TX4 k).2.2.1 = some (tyX4 k) := by decide +kernel
abbrev cX4_init : ByteArray := prog_6_method_1_code
def yX4_init : MethodName := ⟨RX4, "<init>", "([I)V"⟩
abbrev cX4_steepOf : ByteArray := prog_6_method_2_code
def yX4_steepOf : MethodName := ⟨RX4, "steepOf", "(I)I"⟩
abbrev cX4_mostSteep : ByteArray := prog_6_method_3_code
def yX4_mostSteep : MethodName := ⟨RX4, "mostSteep", "()I"⟩
def RX5 : String := "LiarHall$SayingReader"
def TX5 : u_T := fun k => match k with
  | _ => ("LiarHall$SayingReader", "text", "LLiarHall$Tape;", true)
def tyX5 : Nat → FieldType := fun k => match k with
  | _ => .object "LiarHall$Tape"
abbrev wsX50 : List Cond := u_ws RX5 TX5 1
theorem nmX5 : ∀ a, a < 1 → ∀ b, b < 1 → a ≠ b → (TX5 a).2.1 ≠ (TX5 b).2.1 := by decide +kernel
theorem tyX5_ok : ∀ k, k < 1 → parseFieldDescriptor (TX5 k).2.2.1 = some (tyX5 k) := by decide +kernel
abbrev cX5_init : ByteArray := prog_7_method_1_code
def yX5_init : MethodName := ⟨RX5, "<init>", "(LLiarHall$Tape;)V"⟩
abbrev cX5_read : ByteArray := prog_7_method_2_code
def yX5_read : MethodName := ⟨RX5, "read", "()I"⟩
abbrev cX5_ands : ByteArray := prog_7_method_3_code
def yX5_ands : MethodName := ⟨RX5, "ands", "(I)Z"⟩
abbrev cX5_units : ByteArray := prog_7_method_4_code
def yX5_units : MethodName := ⟨RX5, "units", "(I)Z"⟩
abbrev cX5_unit : ByteArray := prog_7_method_5_code
def yX5_unit : MethodName := ⟨RX5, "unit", "(I)Z"⟩
abbrev cX5_inner : ByteArray := prog_7_method_6_code
def yX5_inner : MethodName := ⟨RX5, "inner", "(II)Z"⟩
def RX6 : String := "LiarHall$Tables"
def TX6 : u_T := fun k => match k with
  | _ => ("", "", "", false)
def tyX6 : Nat → FieldType := fun k => match k with
  | _ => .int
abbrev wsX60 : List Cond := u_ws RX6 TX6 0
theorem nmX6 : ∀ a, a < 0 → ∀ b, b < 0 → a ≠ b → (TX6 a).2.1 ≠ (TX6 b).2.1 := by decide +kernel
theorem tyX6_ok : ∀ k, k < 0 → parseFieldDescriptor (TX6 k).2.2.1 = some (tyX6 k) := by decide +kernel
abbrev cX6_mostTales : ByteArray := prog_8_method_2_code
def yX6_mostTales : MethodName := ⟨RX6, "mostTales", "(J)I"⟩
abbrev cX6_mostByWord : ByteArray := prog_8_method_3_code
def yX6_mostByWord : MethodName := ⟨RX6, "mostByWord", "(J)I"⟩
abbrev cX6_mostAgreeing : ByteArray := prog_8_method_4_code
def yX6_mostAgreeing : MethodName := ⟨RX6, "mostAgreeing", "(JII)I"⟩
abbrev cX6_agreeing : ByteArray := prog_8_method_5_code
def yX6_agreeing : MethodName := ⟨RX6, "agreeing", "(JIIII)I"⟩
abbrev cX6_isBook : ByteArray := prog_8_method_6_code
def yX6_isBook : MethodName := ⟨RX6, "isBook", "(II)Z"⟩
abbrev cX6_pairsCaught : ByteArray := prog_8_method_7_code
def yX6_pairsCaught : MethodName := ⟨RX6, "pairsCaught", "(II)I"⟩
abbrev cX6_nearestLinear : ByteArray := prog_8_method_8_code
def yX6_nearestLinear : MethodName := ⟨RX6, "nearestLinear", "(II)I"⟩
abbrev cX6_linearBook : ByteArray := prog_8_method_9_code
def yX6_linearBook : MethodName := ⟨RX6, "linearBook", "(II)I"⟩
abbrev cX6_mendedCell : ByteArray := prog_8_method_10_code
def yX6_mendedCell : MethodName := ⟨RX6, "mendedCell", "(III)I"⟩
abbrev cX6_leastCaughtBook : ByteArray := prog_8_method_11_code
def yX6_leastCaughtBook : MethodName := ⟨RX6, "leastCaughtBook", "(I)I"⟩
def RX7 : String := "LiarHall$Talk"
def TX7 : u_T := fun k => match k with
  | 0 => ("LiarHall$Talk", "saying", "LLiarHall$Saying;", true)
  | 1 => ("LiarHall$Talk", "prime", "I", true)
  | 2 => ("LiarHall$Talk", "law", "LLiarHall$Text;", true)
  | _ => ("LiarHall$Talk", "giant", "LLiarHall$Text;", true)
def tyX7 : Nat → FieldType := fun k => match k with
  | 0 => .object "LiarHall$Saying"
  | 1 => .int
  | 2 => .object "LiarHall$Text"
  | _ => .object "LiarHall$Text"
abbrev wsX70 : List Cond := u_ws RX7 TX7 4
theorem nmX7 : ∀ a, a < 4 → ∀ b, b < 4 → a ≠ b → (TX7 a).2.1 ≠ (TX7 b).2.1 := by decide +kernel
theorem tyX7_ok : ∀ k, k < 4 → parseFieldDescriptor (TX7 k).2.2.1 = some (tyX7 k) := by decide +kernel
abbrev cX7_init : ByteArray := prog_9_method_1_code
def yX7_init : MethodName := ⟨RX7, "<init>", "(LLiarHall$Saying;ILLiarHall$Text;LLiarHall$Text;)V"⟩
def RX8 : String := "LiarHall$Tape"
def TX8 : u_T := fun k => match k with
  | 0 => ("LiarHall$Tape", "bytes", "[I", true)
  | 1 => ("LiarHall$Tape", "code", "[I", true)
  | 2 => ("LiarHall$Tape", "length", "I", false)
  | 3 => ("LiarHall$Tape", "at", "I", false)
  | 4 => ("LiarHall$Tape", "faultAt", "I", false)
  | _ => ("LiarHall$Tape", "written", "I", false)
def tyX8 : Nat → FieldType := fun k => match k with
  | 0 => .array .int
  | 1 => .array .int
  | 2 => .int
  | 3 => .int
  | 4 => .int
  | _ => .int
abbrev wsX80 : List Cond := u_ws RX8 TX8 6
theorem nmX8 : ∀ a, a < 6 → ∀ b, b < 6 → a ≠ b → (TX8 a).2.1 ≠ (TX8 b).2.1 := by decide +kernel
theorem tyX8_ok : ∀ k, k < 6 → parseFieldDescriptor (TX8 k).2.2.1 = some (tyX8 k) := by decide +kernel
abbrev cX8_init : ByteArray := prog_10_method_1_code
def yX8_init : MethodName := ⟨RX8, "<init>", "()V"⟩
abbrev cX8_signsIn : ByteArray := prog_10_method_2_code
def yX8_signsIn : MethodName := ⟨RX8, "signsIn", "(I)I"⟩
abbrev cX8_append : ByteArray := prog_10_method_3_code
def yX8_append : MethodName := ⟨RX8, "append", "(I)V"⟩
abbrev cX8_begin : ByteArray := prog_10_method_4_code
def yX8_begin : MethodName := ⟨RX8, "begin", "()V"⟩
abbrev cX8_here : ByteArray := prog_10_method_5_code
def yX8_here : MethodName := ⟨RX8, "here", "()I"⟩
abbrev cX8_next : ByteArray := prog_10_method_6_code
def yX8_next : MethodName := ⟨RX8, "next", "()I"⟩
abbrev cX8_step : ByteArray := prog_10_method_7_code
def yX8_step : MethodName := ⟨RX8, "step", "()V"⟩
abbrev cX8_take : ByteArray := prog_10_method_8_code
def yX8_take : MethodName := ⟨RX8, "take", "(I)Z"⟩
abbrev cX8_expect : ByteArray := prog_10_method_9_code
def yX8_expect : MethodName := ⟨RX8, "expect", "(I)Z"⟩
abbrev cX8_expectEnd : ByteArray := prog_10_method_10_code
def yX8_expectEnd : MethodName := ⟨RX8, "expectEnd", "()Z"⟩
abbrev cX8_fail : ByteArray := prog_10_method_11_code
def yX8_fail : MethodName := ⟨RX8, "fail", "()Z"⟩
abbrev cX8_write : ByteArray := prog_10_method_12_code
def yX8_write : MethodName := ⟨RX8, "write", "(I)V"⟩
abbrev cX8_rewrite : ByteArray := prog_10_method_13_code
def yX8_rewrite : MethodName := ⟨RX8, "rewrite", "(II)V"⟩
abbrev cX8_writtenCode : ByteArray := prog_10_method_14_code
def yX8_writtenCode : MethodName := ⟨RX8, "writtenCode", "()[I"⟩
def RX9 : String := "LiarHall$Text"
def TX9 : u_T := fun k => match k with
  | _ => ("LiarHall$Text", "code", "[I", true)
def tyX9 : Nat → FieldType := fun k => match k with
  | _ => .array .int
abbrev wsX90 : List Cond := u_ws RX9 TX9 1
theorem nmX9 : ∀ a, a < 1 → ∀ b, b < 1 → a ≠ b → (TX9 a).2.1 ≠ (TX9 b).2.1 := by decide +kernel
theorem tyX9_ok : ∀ k, k < 1 → parseFieldDescriptor (TX9 k).2.2.1 = some (tyX9 k) := by decide +kernel
abbrev cX9_init : ByteArray := prog_11_method_1_code
def yX9_init : MethodName := ⟨RX9, "<init>", "([I)V"⟩
def RX10 : String := "LiarHall$TextReader"
def TX10 : u_T := fun k => match k with
  | 0 => ("LiarHall$TextReader", "text", "LLiarHall$Tape;", true)
  | 1 => ("LiarHall$TextReader", "labels", "Ljava/lang/String;", true)
  | _ => ("LiarHall$TextReader", "letters", "Ljava/lang/String;", true)
def tyX10 : Nat → FieldType := fun k => match k with
  | 0 => .object "LiarHall$Tape"
  | 1 => .object "java/lang/String"
  | _ => .object "java/lang/String"
abbrev wsX100 : List Cond := u_ws RX10 TX10 3
theorem nmX10 : ∀ a, a < 3 → ∀ b, b < 3 → a ≠ b → (TX10 a).2.1 ≠ (TX10 b).2.1 := by decide +kernel
theorem tyX10_ok : ∀ k, k < 3 → parseFieldDescriptor (TX10 k).2.2.1 = some (tyX10 k) := by decide +kernel
abbrev cX10_init : ByteArray := prog_12_method_1_code
def yX10_init : MethodName := ⟨RX10, "<init>", "(LLiarHall$Tape;Ljava/lang/String;Ljava/lang/String;)V"⟩
abbrev cX10_read : ByteArray := prog_12_method_2_code
def yX10_read : MethodName := ⟨RX10, "read", "()I"⟩
abbrev cX10_clause : ByteArray := prog_12_method_3_code
def yX10_clause : MethodName := ⟨RX10, "clause", "()Z"⟩
abbrev cX10_opening : ByteArray := prog_12_method_4_code
def yX10_opening : MethodName := ⟨RX10, "opening", "()Z"⟩
abbrev cX10_standsAtMark : ByteArray := prog_12_method_5_code
def yX10_standsAtMark : MethodName := ⟨RX10, "standsAtMark", "()Z"⟩
abbrev cX10_condition : ByteArray := prog_12_method_6_code
def yX10_condition : MethodName := ⟨RX10, "condition", "(IZ)Z"⟩
abbrev cX10_part : ByteArray := prog_12_method_7_code
def yX10_part : MethodName := ⟨RX10, "part", "(IZ)Z"⟩
abbrev cX10_unit : ByteArray := prog_12_method_8_code
def yX10_unit : MethodName := ⟨RX10, "unit", "(IZ)Z"⟩
abbrev cX10_inner : ByteArray := prog_12_method_9_code
def yX10_inner : MethodName := ⟨RX10, "inner", "(II)Z"⟩
abbrev cX10_comparison : ByteArray := prog_12_method_10_code
def yX10_comparison : MethodName := ⟨RX10, "comparison", "(I)Z"⟩
abbrev cX10_isComparison : ByteArray := prog_12_method_11_code
def yX10_isComparison : MethodName := ⟨RX10, "isComparison", "(I)Z"⟩
abbrev cX10_total : ByteArray := prog_12_method_12_code
def yX10_total : MethodName := ⟨RX10, "total", "(I)Z"⟩
abbrev cX10_term : ByteArray := prog_12_method_13_code
def yX10_term : MethodName := ⟨RX10, "term", "(I)Z"⟩
abbrev cX10_atom : ByteArray := prog_12_method_14_code
def yX10_atom : MethodName := ⟨RX10, "atom", "(I)Z"⟩
abbrev cX10_number : ByteArray := prog_12_method_15_code
def yX10_number : MethodName := ⟨RX10, "number", "()Z"⟩
abbrev cX10_isDigit : ByteArray := prog_12_method_16_code
def yX10_isDigit : MethodName := ⟨RX10, "isDigit", "(I)Z"⟩
def RX11 : String := "LiarHall"
def TX11 : u_T := fun k => match k with
  | 0 => ("LiarHall", "tape", "LLiarHall$Tape;", true)
  | 1 => ("LiarHall", "sayingReader", "LLiarHall$SayingReader;", true)
  | 2 => ("LiarHall", "lawReader", "LLiarHall$TextReader;", true)
  | 3 => ("LiarHall", "giantReader", "LLiarHall$TextReader;", true)
  | 4 => ("LiarHall", "reckoner", "LLiarHall$Reckoner;", true)
  | 5 => ("LiarHall", "asker", "LLiarHall$Asker;", true)
  | 6 => ("LiarHall", "latestCourse", "LLiarHall$Course;", true)
  | 7 => ("LiarHall", "trialCourse", "LLiarHall$Course;", true)
  | 8 => ("LiarHall", "sayings", "Ljava/util/ArrayList;", true)
  | 9 => ("LiarHall", "laws", "Ljava/util/ArrayList;", true)
  | 10 => ("LiarHall", "giants", "Ljava/util/ArrayList;", true)
  | 11 => ("LiarHall", "talks", "Ljava/util/ArrayList;", true)
  | 12 => ("LiarHall", "nets", "Ljava/util/ArrayList;", true)
  | 13 => ("LiarHall", "laidNumbers", "[I", true)
  | 14 => ("LiarHall", "shuffled", "[I", true)
  | _ => ("LiarHall", "laid", "I", false)
def tyX11 : Nat → FieldType := fun k => match k with
  | 0 => .object "LiarHall$Tape"
  | 1 => .object "LiarHall$SayingReader"
  | 2 => .object "LiarHall$TextReader"
  | 3 => .object "LiarHall$TextReader"
  | 4 => .object "LiarHall$Reckoner"
  | 5 => .object "LiarHall$Asker"
  | 6 => .object "LiarHall$Course"
  | 7 => .object "LiarHall$Course"
  | 8 => .object "java/util/ArrayList"
  | 9 => .object "java/util/ArrayList"
  | 10 => .object "java/util/ArrayList"
  | 11 => .object "java/util/ArrayList"
  | 12 => .object "java/util/ArrayList"
  | 13 => .array .int
  | 14 => .array .int
  | _ => .int
abbrev wsX110 : List Cond := u_ws RX11 TX11 16
theorem nmX11 : ∀ a, a < 16 → ∀ b, b < 16 → a ≠ b → (TX11 a).2.1 ≠ (TX11 b).2.1 := by decide +kernel
theorem tyX11_ok : ∀ k, k < 16 → parseFieldDescriptor (TX11 k).2.2.1 = some (tyX11 k) := by decide +kernel
abbrev cX11_init : ByteArray := prog_1_method_1_code
def yX11_init : MethodName := ⟨RX11, "<init>", "()V"⟩
abbrev cX11_feed : ByteArray := prog_1_method_2_code
def yX11_feed : MethodName := ⟨RX11, "feed", "(IIIII)I"⟩
abbrev cX11_end : ByteArray := prog_1_method_3_code
def yX11_end : MethodName := ⟨RX11, "end", "(I)Z"⟩
abbrev cX11_fault : ByteArray := prog_1_method_4_code
def yX11_fault : MethodName := ⟨RX11, "fault", "(I)I"⟩
abbrev cX11_saying : ByteArray := prog_1_method_5_code
def yX11_saying : MethodName := ⟨RX11, "saying", "()I"⟩
abbrev cX11_said : ByteArray := prog_1_method_6_code
def yX11_said : MethodName := ⟨RX11, "said", "(II)I"⟩
abbrev cX11_truth : ByteArray := prog_1_method_7_code
def yX11_truth : MethodName := ⟨RX11, "truth", "(II)I"⟩
abbrev cX11_lay : ByteArray := prog_1_method_8_code
def yX11_lay : MethodName := ⟨RX11, "lay", "(I)I"⟩
abbrev cX11_clear : ByteArray := prog_1_method_9_code
def yX11_clear : MethodName := ⟨RX11, "clear", "()I"⟩
abbrev cX11_worth : ByteArray := prog_1_method_10_code
def yX11_worth : MethodName := ⟨RX11, "worth", "(II)I"⟩
abbrev cX11_sum : ByteArray := prog_1_method_11_code
def yX11_sum : MethodName := ⟨RX11, "sum", "(II)I"⟩
abbrev cX11_prime : ByteArray := prog_1_method_12_code
def yX11_prime : MethodName := ⟨RX11, "prime", "(I)Z"⟩
abbrev cX11_curve : ByteArray := prog_1_method_13_code
def yX11_curve : MethodName := ⟨RX11, "curve", "(II)I"⟩
abbrev cX11_law : ByteArray := prog_1_method_14_code
def yX11_law : MethodName := ⟨RX11, "law", "()I"⟩
abbrev cX11_giant : ByteArray := prog_1_method_15_code
def yX11_giant : MethodName := ⟨RX11, "giant", "()I"⟩
abbrev cX11_talk : ByteArray := prog_1_method_16_code
def yX11_talk : MethodName := ⟨RX11, "talk", "(IIII)I"⟩
abbrev cX11_run : ByteArray := prog_1_method_17_code
def yX11_run : MethodName := ⟨RX11, "run", "(IJI)I"⟩
abbrev cX11_fixed : ByteArray := prog_1_method_18_code
def yX11_fixed : MethodName := ⟨RX11, "fixed", "(II)I"⟩
abbrev cX11_latest : ByteArray := prog_1_method_19_code
def yX11_latest : MethodName := ⟨RX11, "latest", "(I)I"⟩
abbrev cX11_value : ByteArray := prog_1_method_20_code
def yX11_value : MethodName := ⟨RX11, "value", "(II)I"⟩
abbrev cX11_draw : ByteArray := prog_1_method_21_code
def yX11_draw : MethodName := ⟨RX11, "draw", "(I)I"⟩
abbrev cX11_tries : ByteArray := prog_1_method_22_code
def yX11_tries : MethodName := ⟨RX11, "tries", "(II)I"⟩
abbrev cX11_spent : ByteArray := prog_1_method_23_code
def yX11_spent : MethodName := ⟨RX11, "spent", "(II)I"⟩
abbrev cX11_odds : ByteArray := prog_1_method_24_code
def yX11_odds : MethodName := ⟨RX11, "odds", "(III)I"⟩
abbrev cX11_best : ByteArray := prog_1_method_25_code
def yX11_best : MethodName := ⟨RX11, "best", "(II)J"⟩
abbrev cX11_bound : ByteArray := prog_1_method_26_code
def yX11_bound : MethodName := ⟨RX11, "bound", "(II)J"⟩
abbrev cX11_roots : ByteArray := prog_1_method_27_code
def yX11_roots : MethodName := ⟨RX11, "roots", "(II)I"⟩
abbrev cX11_small : ByteArray := prog_1_method_28_code
def yX11_small : MethodName := ⟨RX11, "small", "(III)I"⟩
abbrev cX11_won : ByteArray := prog_1_method_29_code
def yX11_won : MethodName := ⟨RX11, "won", "(II)I"⟩
abbrev cX11_game : ByteArray := prog_1_method_30_code
def yX11_game : MethodName := ⟨RX11, "game", "(III)I"⟩
abbrev cX11_steep : ByteArray := prog_1_method_31_code
def yX11_steep : MethodName := ⟨RX11, "steep", "(IIIZ)I"⟩
abbrev cX11_net : ByteArray := prog_1_method_32_code
def yX11_net : MethodName := ⟨RX11, "net", "(II)I"⟩
abbrev cX11_alike : ByteArray := prog_1_method_33_code
def yX11_alike : MethodName := ⟨RX11, "alike", "(II)I"⟩
abbrev cX11_shuffle : ByteArray := prog_1_method_34_code
def yX11_shuffle : MethodName := ⟨RX11, "shuffle", "(III)I"⟩
abbrev cX11_unlike : ByteArray := prog_1_method_35_code
def yX11_unlike : MethodName := ⟨RX11, "unlike", "(IIJI)I"⟩
abbrev cX11_rooms : ByteArray := prog_1_method_36_code
def yX11_rooms : MethodName := ⟨RX11, "rooms", "(JI)I"⟩
abbrev cX11_book : ByteArray := prog_1_method_37_code
def yX11_book : MethodName := ⟨RX11, "book", "(III)I"⟩
abbrev cX11_mended : ByteArray := prog_1_method_38_code
def yX11_mended : MethodName := ⟨RX11, "mended", "(III)I"⟩
abbrev cX11_least : ByteArray := prog_1_method_39_code
def yX11_least : MethodName := ⟨RX11, "least", "(II)I"⟩
abbrev cX11_count : ByteArray := prog_1_method_40_code
def yX11_count : MethodName := ⟨RX11, "count", "(I)I"⟩
abbrev cX11_sayingAt : ByteArray := prog_1_method_41_code
def yX11_sayingAt : MethodName := ⟨RX11, "sayingAt", "(I)LLiarHall$Saying;"⟩
abbrev cX11_talkAt : ByteArray := prog_1_method_42_code
def yX11_talkAt : MethodName := ⟨RX11, "talkAt", "(I)LLiarHall$Talk;"⟩
abbrev cX11_netAt : ByteArray := prog_1_method_43_code
def yX11_netAt : MethodName := ⟨RX11, "netAt", "(I)LLiarHall$Net;"⟩
abbrev cX11_textAt : ByteArray := prog_1_method_44_code
def yX11_textAt : MethodName := ⟨RX11, "textAt", "(Ljava/util/ArrayList;I)LLiarHall$Text;"⟩
abbrev cX11_keepText : ByteArray := prog_1_method_45_code
def yX11_keepText : MethodName := ⟨RX11, "keepText", "(Ljava/util/ArrayList;LLiarHall$TextReader;)I"⟩
abbrev cX11_isModulus : ByteArray := prog_1_method_46_code
def yX11_isModulus : MethodName := ⟨RX11, "isModulus", "(I)Z"⟩
abbrev cX11_isOwnNumber : ByteArray := prog_1_method_47_code
def yX11_isOwnNumber : MethodName := ⟨RX11, "isOwnNumber", "(I)Z"⟩
abbrev cX11_areTurns : ByteArray := prog_1_method_48_code
def yX11_areTurns : MethodName := ⟨RX11, "areTurns", "(I)Z"⟩
abbrev cX11_putPoint : ByteArray := prog_1_method_49_code
def yX11_putPoint : MethodName := ⟨RX11, "putPoint", "(I)V"⟩
def RX12 : String := "LiarHallModel"
def TX12 : u_T := fun k => match k with
  | 0 => ("LiarHallModel", "thrown", "I", false)
  | 1 => ("LiarHallModel", "tape", "[B", true)
  | 2 => ("LiarHallModel", "text", "[B", false)
  | 3 => ("LiarHallModel", "length", "I", false)
  | 4 => ("LiarHallModel", "begins", "I", false)
  | 5 => ("LiarHallModel", "ends", "I", false)
  | 6 => ("LiarHallModel", "at", "I", false)
  | 7 => ("LiarHallModel", "fault", "I", false)
  | 8 => ("LiarHallModel", "deep", "I", false)
  | 9 => ("LiarHallModel", "most", "I", false)
  | 10 => ("LiarHallModel", "signs", "[I", true)
  | 11 => ("LiarHallModel", "signMany", "[I", true)
  | 12 => ("LiarHallModel", "names", "[I", true)
  | 13 => ("LiarHallModel", "steeps", "[I", true)
  | 14 => ("LiarHallModel", "work", "[I", true)
  | 15 => ("LiarHallModel", "sayings", "I", false)
  | 16 => ("LiarHallModel", "reads", "I", false)
  | 17 => ("LiarHallModel", "pile", "[J", true)
  | 18 => ("LiarHallModel", "point", "[J", true)
  | 19 => ("LiarHallModel", "laid", "[I", true)
  | 20 => ("LiarHallModel", "lying", "I", false)
  | 21 => ("LiarHallModel", "through", "[J", true)
  | 22 => ("LiarHallModel", "texts", "[B", true)
  | 23 => ("LiarHallModel", "textLong", "[I", true)
  | 24 => ("LiarHallModel", "letters", "[J", true)
  | 25 => ("LiarHallModel", "laws", "I", false)
  | 26 => ("LiarHallModel", "giants", "I", false)
  | 27 => ("LiarHallModel", "label", "I", false)
  | 28 => ("LiarHallModel", "labels", "Ljava/lang/String;", false)
  | 29 => ("LiarHallModel", "allowed", "Ljava/lang/String;", false)
  | 30 => ("LiarHallModel", "hasFound", "Z", false)
  | 31 => ("LiarHallModel", "found", "J", false)
  | 32 => ("LiarHallModel", "talkSaying", "[I", true)
  | 33 => ("LiarHallModel", "talkPrime", "[I", true)
  | 34 => ("LiarHallModel", "talkLaw", "[I", true)
  | 35 => ("LiarHallModel", "talkGiant", "[I", true)
  | 36 => ("LiarHallModel", "talks", "I", false)
  | 37 => ("LiarHallModel", "drawn", "[J", true)
  | 38 => ("LiarHallModel", "spoken", "[J", true)
  | 39 => ("LiarHallModel", "hasLatest", "Z", false)
  | 40 => ("LiarHallModel", "lastTalk", "I", false)
  | 41 => ("LiarHallModel", "lastGave", "I", false)
  | 42 => ("LiarHallModel", "lastDraws", "I", false)
  | 43 => ("LiarHallModel", "lastFirst", "J", false)
  | 44 => ("LiarHallModel", "lastClaim", "J", false)
  | 45 => ("LiarHallModel", "mixed", "J", false)
  | 46 => ("LiarHallModel", "keptSpoken", "[J", true)
  | 47 => ("LiarHallModel", "keptDrawn", "[J", true)
  | 48 => ("LiarHallModel", "keptTalk", "I", false)
  | 49 => ("LiarHallModel", "keptGave", "I", false)
  | 50 => ("LiarHallModel", "keptDraws", "I", false)
  | 51 => ("LiarHallModel", "keptRounds", "I", false)
  | 52 => ("LiarHallModel", "keptFirst", "J", false)
  | 53 => ("LiarHallModel", "keptClaim", "J", false)
  | 54 => ("LiarHallModel", "netPoints", "[I", true)
  | 55 => ("LiarHallModel", "netEdges", "[I", true)
  | 56 => ("LiarHallModel", "row", "[I", true)
  | 57 => ("LiarHallModel", "lowRow", "[I", true)
  | _ => ("LiarHallModel", "nets", "I", false)
def tyX12 : Nat → FieldType := fun k => match k with
  | 0 => .int
  | 1 => .array .byte
  | 2 => .array .byte
  | 3 => .int
  | 4 => .int
  | 5 => .int
  | 6 => .int
  | 7 => .int
  | 8 => .int
  | 9 => .int
  | 10 => .array .int
  | 11 => .array .int
  | 12 => .array .int
  | 13 => .array .int
  | 14 => .array .int
  | 15 => .int
  | 16 => .int
  | 17 => .array .long
  | 18 => .array .long
  | 19 => .array .int
  | 20 => .int
  | 21 => .array .long
  | 22 => .array .byte
  | 23 => .array .int
  | 24 => .array .long
  | 25 => .int
  | 26 => .int
  | 27 => .int
  | 28 => .object "java/lang/String"
  | 29 => .object "java/lang/String"
  | 30 => .boolean
  | 31 => .long
  | 32 => .array .int
  | 33 => .array .int
  | 34 => .array .int
  | 35 => .array .int
  | 36 => .int
  | 37 => .array .long
  | 38 => .array .long
  | 39 => .boolean
  | 40 => .int
  | 41 => .int
  | 42 => .int
  | 43 => .long
  | 44 => .long
  | 45 => .long
  | 46 => .array .long
  | 47 => .array .long
  | 48 => .int
  | 49 => .int
  | 50 => .int
  | 51 => .int
  | 52 => .long
  | 53 => .long
  | 54 => .array .int
  | 55 => .array .int
  | 56 => .array .int
  | 57 => .array .int
  | _ => .int
abbrev wsX120 : List Cond := u_ws RX12 TX12 59
theorem nmX12 : ∀ a, a < 59 → ∀ b, b < 59 → a ≠ b → (TX12 a).2.1 ≠ (TX12 b).2.1 := by decide +kernel
theorem tyX12_ok : ∀ k, k < 59 → parseFieldDescriptor (TX12 k).2.2.1 = some (tyX12 k) := by decide +kernel
abbrev cX12_init : ByteArray := prog_14_method_1_code
def yX12_init : MethodName := ⟨RX12, "<init>", "()V"⟩
abbrev cX12_thrown : ByteArray := prog_14_method_2_code
def yX12_thrown : MethodName := ⟨RX12, "thrown", "()I"⟩
abbrev cX12_isIn : ByteArray := prog_14_method_3_code
def yX12_isIn : MethodName := ⟨RX12, "isIn", "(JJJ)Z"⟩
abbrev cX12_bytesIn : ByteArray := prog_14_method_4_code
def yX12_bytesIn : MethodName := ⟨RX12, "bytesIn", "(I)I"⟩
abbrev cX12_put : ByteArray := prog_14_method_5_code
def yX12_put : MethodName := ⟨RX12, "put", "(I)V"⟩
abbrev cX12_feed : ByteArray := prog_14_method_6_code
def yX12_feed : MethodName := ⟨RX12, "feed", "(IIIII)I"⟩
abbrev cX12_end : ByteArray := prog_14_method_7_code
def yX12_end : MethodName := ⟨RX12, "end", "(I)Z"⟩
abbrev cX12_begin : ByteArray := prog_14_method_8_code
def yX12_begin : MethodName := ⟨RX12, "begin", "([BIII)V"⟩
abbrev cX12_look : ByteArray := prog_14_method_9_code
def yX12_look : MethodName := ⟨RX12, "look", "()I"⟩
abbrev cX12_fails : ByteArray := prog_14_method_10_code
def yX12_fails : MethodName := ⟨RX12, "fails", "()Z"⟩
abbrev cX12_goesIn : ByteArray := prog_14_method_11_code
def yX12_goesIn : MethodName := ⟨RX12, "goesIn", "()Z"⟩
abbrev cX12_takes : ByteArray := prog_14_method_12_code
def yX12_takes : MethodName := ⟨RX12, "takes", "(I)Z"⟩
abbrev cX12_sign : ByteArray := prog_14_method_13_code
def yX12_sign : MethodName := ⟨RX12, "sign", "(I)V"⟩
abbrev cX12_ors : ByteArray := prog_14_method_14_code
def yX12_ors : MethodName := ⟨RX12, "ors", "()V"⟩
abbrev cX12_ands : ByteArray := prog_14_method_15_code
def yX12_ands : MethodName := ⟨RX12, "ands", "()V"⟩
abbrev cX12_saidUnit : ByteArray := prog_14_method_16_code
def yX12_saidUnit : MethodName := ⟨RX12, "saidUnit", "()V"⟩
abbrev cX12_readSaying : ByteArray := prog_14_method_17_code
def yX12_readSaying : MethodName := ⟨RX12, "readSaying", "()Z"⟩
abbrev cX12_saying : ByteArray := prog_14_method_18_code
def yX12_saying : MethodName := ⟨RX12, "saying", "()I"⟩
abbrev cX12_isSaying : ByteArray := prog_14_method_19_code
def yX12_isSaying : MethodName := ⟨RX12, "isSaying", "(I)Z"⟩
abbrev cX12_rest : ByteArray := prog_14_method_20_code
def yX12_rest : MethodName := ⟨RX12, "rest", "(JJ)J"⟩
abbrev cX12_worthAt : ByteArray := prog_14_method_21_code
def yX12_worthAt : MethodName := ⟨RX12, "worthAt", "(IJ)J"⟩
abbrev cX12_sumFrom : ByteArray := prog_14_method_22_code
def yX12_sumFrom : MethodName := ⟨RX12, "sumFrom", "(IIJ)J"⟩
abbrev cX12_countOf : ByteArray := prog_14_method_23_code
def yX12_countOf : MethodName := ⟨RX12, "countOf", "(I)I"⟩
abbrev cX12_said : ByteArray := prog_14_method_24_code
def yX12_said : MethodName := ⟨RX12, "said", "(II)I"⟩
abbrev cX12_isTrue : ByteArray := prog_14_method_25_code
def yX12_isTrue : MethodName := ⟨RX12, "isTrue", "(II)Z"⟩
abbrev cX12_truth : ByteArray := prog_14_method_26_code
def yX12_truth : MethodName := ⟨RX12, "truth", "(II)I"⟩
abbrev cX12_lay : ByteArray := prog_14_method_27_code
def yX12_lay : MethodName := ⟨RX12, "lay", "(I)I"⟩
abbrev cX12_clear : ByteArray := prog_14_method_28_code
def yX12_clear : MethodName := ⟨RX12, "clear", "()I"⟩
abbrev cX12_isPrime : ByteArray := prog_14_method_29_code
def yX12_isPrime : MethodName := ⟨RX12, "isPrime", "(I)Z"⟩
abbrev cX12_isRing : ByteArray := prog_14_method_30_code
def yX12_isRing : MethodName := ⟨RX12, "isRing", "(I)Z"⟩
abbrev cX12_prime : ByteArray := prog_14_method_31_code
def yX12_prime : MethodName := ⟨RX12, "prime", "(I)Z"⟩
abbrev cX12_layPoint : ByteArray := prog_14_method_32_code
def yX12_layPoint : MethodName := ⟨RX12, "layPoint", "(I)V"⟩
abbrev cX12_worth : ByteArray := prog_14_method_33_code
def yX12_worth : MethodName := ⟨RX12, "worth", "(II)I"⟩
abbrev cX12_sum : ByteArray := prog_14_method_34_code
def yX12_sum : MethodName := ⟨RX12, "sum", "(II)I"⟩
abbrev cX12_power : ByteArray := prog_14_method_35_code
def yX12_power : MethodName := ⟨RX12, "power", "(JJJ)J"⟩
abbrev cX12_curveAt : ByteArray := prog_14_method_36_code
def yX12_curveAt : MethodName := ⟨RX12, "curveAt", "(IJJ)J"⟩
abbrev cX12_curve : ByteArray := prog_14_method_37_code
def yX12_curve : MethodName := ⟨RX12, "curve", "(II)I"⟩
abbrev cX12_isDigit : ByteArray := prog_14_method_38_code
def yX12_isDigit : MethodName := ⟨RX12, "isDigit", "()Z"⟩
abbrev cX12_within : ByteArray := prog_14_method_39_code
def yX12_within : MethodName := ⟨RX12, "within", "(J)J"⟩
abbrev cX12_atom : ByteArray := prog_14_method_40_code
def yX12_atom : MethodName := ⟨RX12, "atom", "()J"⟩
abbrev cX12_term : ByteArray := prog_14_method_41_code
def yX12_term : MethodName := ⟨RX12, "term", "()J"⟩
abbrev cX12_reckon : ByteArray := prog_14_method_42_code
def yX12_reckon : MethodName := ⟨RX12, "reckon", "()J"⟩
abbrev cX12_isSign : ByteArray := prog_14_method_43_code
def yX12_isSign : MethodName := ⟨RX12, "isSign", "(I)Z"⟩
abbrev cX12_compares : ByteArray := prog_14_method_44_code
def yX12_compares : MethodName := ⟨RX12, "compares", "(ZJ)Z"⟩
abbrev cX12_unit : ByteArray := prog_14_method_45_code
def yX12_unit : MethodName := ⟨RX12, "unit", "()Z"⟩
abbrev cX12_part : ByteArray := prog_14_method_46_code
def yX12_part : MethodName := ⟨RX12, "part", "(ZJ)Z"⟩
abbrev cX12_condition : ByteArray := prog_14_method_47_code
def yX12_condition : MethodName := ⟨RX12, "condition", "(ZJ)Z"⟩
abbrev cX12_clause : ByteArray := prog_14_method_48_code
def yX12_clause : MethodName := ⟨RX12, "clause", "()V"⟩
abbrev cX12_goThrough : ByteArray := prog_14_method_49_code
def yX12_goThrough : MethodName := ⟨RX12, "goThrough", "([BIIZI)V"⟩
abbrev cX12_fault : ByteArray := prog_14_method_50_code
def yX12_fault : MethodName := ⟨RX12, "fault", "(I)I"⟩
abbrev cX12_keeps : ByteArray := prog_14_method_51_code
def yX12_keeps : MethodName := ⟨RX12, "keeps", "(IZ)Z"⟩
abbrev cX12_law : ByteArray := prog_14_method_52_code
def yX12_law : MethodName := ⟨RX12, "law", "()I"⟩
abbrev cX12_giant : ByteArray := prog_14_method_53_code
def yX12_giant : MethodName := ⟨RX12, "giant", "()I"⟩
abbrev cX12_noLetters : ByteArray := prog_14_method_54_code
def yX12_noLetters : MethodName := ⟨RX12, "noLetters", "()V"⟩
abbrev cX12_worthOf : ByteArray := prog_14_method_55_code
def yX12_worthOf : MethodName := ⟨RX12, "worthOf", "(IZI)J"⟩
abbrev cX12_lawWorth : ByteArray := prog_14_method_56_code
def yX12_lawWorth : MethodName := ⟨RX12, "lawWorth", "(IIIII)J"⟩
abbrev cX12_asksSum : ByteArray := prog_14_method_57_code
def yX12_asksSum : MethodName := ⟨RX12, "asksSum", "(IIII)Z"⟩
abbrev cX12_asksEnd : ByteArray := prog_14_method_58_code
def yX12_asksEnd : MethodName := ⟨RX12, "asksEnd", "(III)Z"⟩
abbrev cX12_draws : ByteArray := prog_14_method_59_code
def yX12_draws : MethodName := ⟨RX12, "draws", "(IIII)I"⟩
abbrev cX12_isTalk : ByteArray := prog_14_method_60_code
def yX12_isTalk : MethodName := ⟨RX12, "isTalk", "(I)Z"⟩
abbrev cX12_talk : ByteArray := prog_14_method_61_code
def yX12_talk : MethodName := ⟨RX12, "talk", "(IIII)I"⟩
abbrev cX12_firstClaim : ByteArray := prog_14_method_62_code
def yX12_firstClaim : MethodName := ⟨RX12, "firstClaim", "(II)J"⟩
abbrev cX12_trueAt : ByteArray := prog_14_method_63_code
def yX12_trueAt : MethodName := ⟨RX12, "trueAt", "(III)J"⟩
abbrev cX12_speaks : ByteArray := prog_14_method_64_code
def yX12_speaks : MethodName := ⟨RX12, "speaks", "(IIJI)V"⟩
abbrev cX12_sumsUp : ByteArray := prog_14_method_65_code
def yX12_sumsUp : MethodName := ⟨RX12, "sumsUp", "(IIJ)Z"⟩
abbrev cX12_nextClaim : ByteArray := prog_14_method_66_code
def yX12_nextClaim : MethodName := ⟨RX12, "nextClaim", "(II)J"⟩
abbrev cX12_endsWell : ByteArray := prog_14_method_67_code
def yX12_endsWell : MethodName := ⟨RX12, "endsWell", "(IJ)Z"⟩
abbrev cX12_mix : ByteArray := prog_14_method_68_code
def yX12_mix : MethodName := ⟨RX12, "mix", "(J)V"⟩
abbrev cX12_goes : ByteArray := prog_14_method_69_code
def yX12_goes : MethodName := ⟨RX12, "goes", "(IZJI)Z"⟩
abbrev cX12_keep : ByteArray := prog_14_method_70_code
def yX12_keep : MethodName := ⟨RX12, "keep", "(IZ)I"⟩
abbrev cX12_isAsked : ByteArray := prog_14_method_71_code
def yX12_isAsked : MethodName := ⟨RX12, "isAsked", "(II)Z"⟩
abbrev cX12_run : ByteArray := prog_14_method_72_code
def yX12_run : MethodName := ⟨RX12, "run", "(IJI)I"⟩
abbrev cX12_fixed : ByteArray := prog_14_method_73_code
def yX12_fixed : MethodName := ⟨RX12, "fixed", "(II)I"⟩
abbrev cX12_latest : ByteArray := prog_14_method_74_code
def yX12_latest : MethodName := ⟨RX12, "latest", "(I)I"⟩
abbrev cX12_value : ByteArray := prog_14_method_75_code
def yX12_value : MethodName := ⟨RX12, "value", "(II)I"⟩
abbrev cX12_draw : ByteArray := prog_14_method_76_code
def yX12_draw : MethodName := ⟨RX12, "draw", "(I)I"⟩
abbrev cX12_tries : ByteArray := prog_14_method_77_code
def yX12_tries : MethodName := ⟨RX12, "tries", "(II)I"⟩
abbrev cX12_spent : ByteArray := prog_14_method_78_code
def yX12_spent : MethodName := ⟨RX12, "spent", "(II)I"⟩
abbrev cX12_believed : ByteArray := prog_14_method_79_code
def yX12_believed : MethodName := ⟨RX12, "believed", "(IIIJ)I"⟩
abbrev cX12_odds : ByteArray := prog_14_method_80_code
def yX12_odds : MethodName := ⟨RX12, "odds", "(III)I"⟩
abbrev cX12_product : ByteArray := prog_14_method_81_code
def yX12_product : MethodName := ⟨RX12, "product", "(III)J"⟩
abbrev cX12_rootsIn : ByteArray := prog_14_method_82_code
def yX12_rootsIn : MethodName := ⟨RX12, "rootsIn", "(IIII)I"⟩
abbrev cX12_common : ByteArray := prog_14_method_83_code
def yX12_common : MethodName := ⟨RX12, "common", "(JJ)J"⟩
abbrev cX12_fraction : ByteArray := prog_14_method_84_code
def yX12_fraction : MethodName := ⟨RX12, "fraction", "(JJI)J"⟩
abbrev cX12_bestOf : ByteArray := prog_14_method_85_code
def yX12_bestOf : MethodName := ⟨RX12, "bestOf", "(IIII)J"⟩
abbrev cX12_best : ByteArray := prog_14_method_86_code
def yX12_best : MethodName := ⟨RX12, "best", "(II)J"⟩
abbrev cX12_bound : ByteArray := prog_14_method_87_code
def yX12_bound : MethodName := ⟨RX12, "bound", "(II)J"⟩
abbrev cX12_roots : ByteArray := prog_14_method_88_code
def yX12_roots : MethodName := ⟨RX12, "roots", "(II)I"⟩
abbrev cX12_small : ByteArray := prog_14_method_89_code
def yX12_small : MethodName := ⟨RX12, "small", "(III)I"⟩
abbrev cX12_isWon : ByteArray := prog_14_method_90_code
def yX12_isWon : MethodName := ⟨RX12, "isWon", "(IIII)Z"⟩
abbrev cX12_won : ByteArray := prog_14_method_91_code
def yX12_won : MethodName := ⟨RX12, "won", "(II)I"⟩
abbrev cX12_folded : ByteArray := prog_14_method_92_code
def yX12_folded : MethodName := ⟨RX12, "folded", "(IIIJ)J"⟩
abbrev cX12_game : ByteArray := prog_14_method_93_code
def yX12_game : MethodName := ⟨RX12, "game", "(III)I"⟩
abbrev cX12_steep : ByteArray := prog_14_method_94_code
def yX12_steep : MethodName := ⟨RX12, "steep", "(IIIZ)I"⟩
abbrev cX12_isNet : ByteArray := prog_14_method_95_code
def yX12_isNet : MethodName := ⟨RX12, "isNet", "(I)Z"⟩
abbrev cX12_net : ByteArray := prog_14_method_96_code
def yX12_net : MethodName := ⟨RX12, "net", "(II)I"⟩
abbrev cX12_hasEdge : ByteArray := prog_14_method_97_code
def yX12_hasEdge : MethodName := ⟨RX12, "hasEdge", "(III)Z"⟩
abbrev cX12_puts : ByteArray := prog_14_method_98_code
def yX12_puts : MethodName := ⟨RX12, "puts", "(IIII)Z"⟩
abbrev cX12_areAlike : ByteArray := prog_14_method_99_code
def yX12_areAlike : MethodName := ⟨RX12, "areAlike", "(II)Z"⟩
abbrev cX12_alike : ByteArray := prog_14_method_100_code
def yX12_alike : MethodName := ⟨RX12, "alike", "(II)I"⟩
abbrev cX12_shuffle : ByteArray := prog_14_method_101_code
def yX12_shuffle : MethodName := ⟨RX12, "shuffle", "(III)I"⟩
abbrev cX12_unlike : ByteArray := prog_14_method_102_code
def yX12_unlike : MethodName := ⟨RX12, "unlike", "(IIJI)I"⟩
abbrev cX12_agrees : ByteArray := prog_14_method_103_code
def yX12_agrees : MethodName := ⟨RX12, "agrees", "(JIIII)I"⟩
abbrev cX12_rooms : ByteArray := prog_14_method_104_code
def yX12_rooms : MethodName := ⟨RX12, "rooms", "(JI)I"⟩
abbrev cX12_cell : ByteArray := prog_14_method_105_code
def yX12_cell : MethodName := ⟨RX12, "cell", "(II)I"⟩
abbrev cX12_caughtBy : ByteArray := prog_14_method_106_code
def yX12_caughtBy : MethodName := ⟨RX12, "caughtBy", "(II)I"⟩
abbrev cX12_isBook : ByteArray := prog_14_method_107_code
def yX12_isBook : MethodName := ⟨RX12, "isBook", "(II)Z"⟩
abbrev cX12_book : ByteArray := prog_14_method_108_code
def yX12_book : MethodName := ⟨RX12, "book", "(III)I"⟩
abbrev cX12_mended : ByteArray := prog_14_method_109_code
def yX12_mended : MethodName := ⟨RX12, "mended", "(III)I"⟩
abbrev cX12_least : ByteArray := prog_14_method_110_code
def yX12_least : MethodName := ⟨RX12, "least", "(II)I"⟩
abbrev cX12_count : ByteArray := prog_14_method_111_code
def yX12_count : MethodName := ⟨RX12, "count", "(I)I"⟩
def RJx145de : String := "java/io/Serializable"
def TJx145de : u_T := fun k => match k with
  | _ => ("", "", "", false)
def tyJx145de : Nat → FieldType := fun k => match k with
  | _ => .int
abbrev wsJx145de0 : List Cond := u_ws RJx145de TJx145de 0
theorem nmJx145de : ∀ a, a < 0 → ∀ b, b < 0 → a ≠ b → (TJx145de a).2.1 ≠ (TJx145de b).2.1 := by decide +kernel
theorem tyJx145de_ok : ∀ k, k < 0 → parseFieldDescriptor (TJx145de k).2.2.1 = some (tyJx145de k) := by decide +kernel
def RJx9f9b0 : String := "java/lang/CharSequence"
def TJx9f9b0 : u_T := fun k => match k with
  | _ => ("", "", "", false)
def tyJx9f9b0 : Nat → FieldType := fun k => match k with
  | _ => .int
abbrev wsJx9f9b00 : List Cond := u_ws RJx9f9b0 TJx9f9b0 0
theorem nmJx9f9b0 : ∀ a, a < 0 → ∀ b, b < 0 → a ≠ b → (TJx9f9b0 a).2.1 ≠ (TJx9f9b0 b).2.1 := by decide +kernel
theorem tyJx9f9b0_ok : ∀ k, k < 0 → parseFieldDescriptor (TJx9f9b0 k).2.2.1 = some (tyJx9f9b0 k) := by decide +kernel
def RJ11 : String := "java/lang/Character"
def TJ11 : u_T := fun k => match k with
  | _ => ("", "", "", false)
def tyJ11 : Nat → FieldType := fun k => match k with
  | _ => .int
abbrev wsJ110 : List Cond := u_ws RJ11 TJ11 0
theorem nmJ11 : ∀ a, a < 0 → ∀ b, b < 0 → a ≠ b → (TJ11 a).2.1 ≠ (TJ11 b).2.1 := by decide +kernel
theorem tyJ11_ok : ∀ k, k < 0 → parseFieldDescriptor (TJ11 k).2.2.1 = some (tyJ11 k) := by decide +kernel
abbrev cJ11_isValidCodePoint_9a6ad : ByteArray := prog_17_method_11_code
def yJ11_isValidCodePoint_9a6ad : MethodName := ⟨RJ11, "isValidCodePoint", "(I)Z"⟩
abbrev cJ11_highSurrogate_5068e : ByteArray := prog_17_method_28_code
def yJ11_highSurrogate_5068e : MethodName := ⟨RJ11, "highSurrogate", "(I)C"⟩
abbrev cJ11_lowSurrogate_5068e : ByteArray := prog_17_method_29_code
def yJ11_lowSurrogate_5068e : MethodName := ⟨RJ11, "lowSurrogate", "(I)C"⟩
def RJx8e188 : String := "java/lang/Cloneable"
def TJx8e188 : u_T := fun k => match k with
  | _ => ("", "", "", false)
def tyJx8e188 : Nat → FieldType := fun k => match k with
  | _ => .int
abbrev wsJx8e1880 : List Cond := u_ws RJx8e188 TJx8e188 0
theorem nmJx8e188 : ∀ a, a < 0 → ∀ b, b < 0 → a ≠ b → (TJx8e188 a).2.1 ≠ (TJx8e188 b).2.1 := by decide +kernel
theorem tyJx8e188_ok : ∀ k, k < 0 → parseFieldDescriptor (TJx8e188 k).2.2.1 = some (tyJx8e188 k) := by decide +kernel
def RJxb160c : String := "java/lang/Comparable"
def TJxb160c : u_T := fun k => match k with
  | _ => ("", "", "", false)
def tyJxb160c : Nat → FieldType := fun k => match k with
  | _ => .int
abbrev wsJxb160c0 : List Cond := u_ws RJxb160c TJxb160c 0
theorem nmJxb160c : ∀ a, a < 0 → ∀ b, b < 0 → a ≠ b → (TJxb160c a).2.1 ≠ (TJxb160c b).2.1 := by decide +kernel
theorem tyJxb160c_ok : ∀ k, k < 0 → parseFieldDescriptor (TJxb160c k).2.2.1 = some (tyJxb160c k) := by decide +kernel
def RJ6 : String := "java/lang/Integer"
def TJ6 : u_T := fun k => match k with
  | _ => ("", "", "", false)
def tyJ6 : Nat → FieldType := fun k => match k with
  | _ => .int
abbrev wsJ60 : List Cond := u_ws RJ6 TJ6 0
theorem nmJ6 : ∀ a, a < 0 → ∀ b, b < 0 → a ≠ b → (TJ6 a).2.1 ≠ (TJ6 b).2.1 := by decide +kernel
theorem tyJ6_ok : ∀ k, k < 0 → parseFieldDescriptor (TJ6 k).2.2.1 = some (tyJ6 k) := by decide +kernel
abbrev cJ6_bitCount_0f7a4 : ByteArray := prog_21_method_49_code
def yJ6_bitCount_0f7a4 : MethodName := ⟨RJ6, "bitCount", "(I)I"⟩
def RJxab1ab : String := "java/lang/Iterable"
def TJxab1ab : u_T := fun k => match k with
  | _ => ("", "", "", false)
def tyJxab1ab : Nat → FieldType := fun k => match k with
  | _ => .int
abbrev wsJxab1ab0 : List Cond := u_ws RJxab1ab TJxab1ab 0
theorem nmJxab1ab : ∀ a, a < 0 → ∀ b, b < 0 → a ≠ b → (TJxab1ab a).2.1 ≠ (TJxab1ab b).2.1 := by decide +kernel
theorem tyJxab1ab_ok : ∀ k, k < 0 → parseFieldDescriptor (TJxab1ab k).2.2.1 = some (tyJxab1ab k) := by decide +kernel
def RJ9 : String := "java/lang/Math"
def TJ9 : u_T := fun k => match k with
  | _ => ("", "", "", false)
def tyJ9 : Nat → FieldType := fun k => match k with
  | _ => .int
abbrev wsJ90 : List Cond := u_ws RJ9 TJ9 0
theorem nmJ9 : ∀ a, a < 0 → ∀ b, b < 0 → a ≠ b → (TJ9 a).2.1 ≠ (TJ9 b).2.1 := by decide +kernel
theorem tyJ9_ok : ∀ k, k < 0 → parseFieldDescriptor (TJ9 k).2.2.1 = some (tyJ9 k) := by decide +kernel
abbrev cJ9_floorMod_f86c9 : ByteArray := prog_23_method_52_code
def yJ9_floorMod_f86c9 : MethodName := ⟨RJ9, "floorMod", "(JJ)J"⟩
abbrev cJ9_max_7cf53 : ByteArray := prog_23_method_65_code
def yJ9_max_7cf53 : MethodName := ⟨RJ9, "max", "(II)I"⟩
abbrev cJ9_max_f86c9 : ByteArray := prog_23_method_66_code
def yJ9_max_f86c9 : MethodName := ⟨RJ9, "max", "(JJ)J"⟩
abbrev cJ9_min_7cf53 : ByteArray := prog_23_method_69_code
def yJ9_min_7cf53 : MethodName := ⟨RJ9, "min", "(II)I"⟩
abbrev cJ9_min_f86c9 : ByteArray := prog_23_method_70_code
def yJ9_min_f86c9 : MethodName := ⟨RJ9, "min", "(JJ)J"⟩
def RJ0 : String := "java/lang/String"
def TJ0 : u_T := fun k => match k with
  | _ => ("", "", "", false)
def tyJ0 : Nat → FieldType := fun k => match k with
  | _ => .int
abbrev wsJ00 : List Cond := u_ws RJ0 TJ0 0
theorem nmJ0 : ∀ a, a < 0 → ∀ b, b < 0 → a ≠ b → (TJ0 a).2.1 ≠ (TJ0 b).2.1 := by decide +kernel
theorem tyJ0_ok : ∀ k, k < 0 → parseFieldDescriptor (TJ0 k).2.2.1 = some (tyJ0 k) := by decide +kernel
abbrev cJ0_length_8abf5 : ByteArray := prog_25_method_54_code
def yJ0_length_8abf5 : MethodName := ⟨RJ0, "length", "()I"⟩
abbrev cJ0_indexOf_0f7a4 : ByteArray := prog_25_method_79_code
def yJ0_indexOf_0f7a4 : MethodName := ⟨RJ0, "indexOf", "(I)I"⟩
abbrev cJ0_indexOf_7cf53 : ByteArray := prog_25_method_80_code
def yJ0_indexOf_7cf53 : MethodName := ⟨RJ0, "indexOf", "(II)I"⟩
abbrev cJ0_coder_7d493 : ByteArray := prog_25_method_152_code
def yJ0_coder_7d493 : MethodName := ⟨RJ0, "coder", "()B"⟩
abbrev cJ0_isLatin1_aae02 : ByteArray := prog_25_method_154_code
def yJ0_isLatin1_aae02 : MethodName := ⟨RJ0, "isLatin1", "()Z"⟩
abbrev cJ0_checkBoundsBeginEnd_23922 : ByteArray := prog_25_method_158_code
def yJ0_checkBoundsBeginEnd_23922 : MethodName := ⟨RJ0, "checkBoundsBeginEnd", "(III)V"⟩
def RJ1 : String := "java/lang/StringLatin1"
def TJ1 : u_T := fun k => match k with
  | _ => ("", "", "", false)
def tyJ1 : Nat → FieldType := fun k => match k with
  | _ => .int
abbrev wsJ10 : List Cond := u_ws RJ1 TJ1 0
theorem nmJ1 : ∀ a, a < 0 → ∀ b, b < 0 → a ≠ b → (TJ1 a).2.1 ≠ (TJ1 b).2.1 := by decide +kernel
theorem tyJ1_ok : ∀ k, k < 0 → parseFieldDescriptor (TJ1 k).2.2.1 = some (tyJ1 k) := by decide +kernel
abbrev cJ1_canEncode_9a6ad : ByteArray := prog_26_method_4_code
def yJ1_canEncode_9a6ad : MethodName := ⟨RJ1, "canEncode", "(I)Z"⟩
abbrev cJ1_indexOf_4cfef : ByteArray := prog_26_method_22_code
def yJ1_indexOf_4cfef : MethodName := ⟨RJ1, "indexOf", "([BIII)I"⟩
abbrev cJ1_indexOfChar_4cfef : ByteArray := prog_26_method_23_code
def yJ1_indexOfChar_4cfef : MethodName := ⟨RJ1, "indexOfChar", "([BIII)I"⟩
def RJ2 : String := "java/lang/StringUTF16"
def TJ2 : u_T := fun k => match k with
  | _ => ("", "", "", false)
def tyJ2 : Nat → FieldType := fun k => match k with
  | _ => .int
abbrev wsJ20 : List Cond := u_ws RJ2 TJ2 0
theorem nmJ2 : ∀ a, a < 0 → ∀ b, b < 0 → a ≠ b → (TJ2 a).2.1 ≠ (TJ2 b).2.1 := by decide +kernel
theorem tyJ2_ok : ∀ k, k < 0 → parseFieldDescriptor (TJ2 k).2.2.1 = some (tyJ2 k) := by decide +kernel
abbrev cJ2_getChar_3b067 : ByteArray := prog_27_method_5_code
def yJ2_getChar_3b067 : MethodName := ⟨RJ2, "getChar", "([BI)C"⟩
abbrev cJ2_length_9d52b : ByteArray := prog_27_method_6_code
def yJ2_length_9d52b : MethodName := ⟨RJ2, "length", "([B)I"⟩
abbrev cJ2_indexOf_4cfef : ByteArray := prog_27_method_40_code
def yJ2_indexOf_4cfef : MethodName := ⟨RJ2, "indexOf", "([BIII)I"⟩
abbrev cJ2_indexOfChar_4cfef : ByteArray := prog_27_method_47_code
def yJ2_indexOfChar_4cfef : MethodName := ⟨RJ2, "indexOfChar", "([BIII)I"⟩
abbrev cJ2_indexOfCharUnsafe_4cfef : ByteArray := prog_27_method_48_code
def yJ2_indexOfCharUnsafe_4cfef : MethodName := ⟨RJ2, "indexOfCharUnsafe", "([BIII)I"⟩
abbrev cJ2_indexOfSupplementary_4cfef : ByteArray := prog_27_method_49_code
def yJ2_indexOfSupplementary_4cfef : MethodName := ⟨RJ2, "indexOfSupplementary", "([BIII)I"⟩
abbrev cJ2_checkBoundsBeginEnd_d044e : ByteArray := prog_27_method_93_code
def yJ2_checkBoundsBeginEnd_d044e : MethodName := ⟨RJ2, "checkBoundsBeginEnd", "(II[B)V"⟩
def RJ10 : String := "java/lang/System"
def TJ10 : u_T := fun k => match k with
  | _ => ("", "", "", false)
def tyJ10 : Nat → FieldType := fun k => match k with
  | _ => .int
abbrev wsJ100 : List Cond := u_ws RJ10 TJ10 0
theorem nmJ10 : ∀ a, a < 0 → ∀ b, b < 0 → a ≠ b → (TJ10 a).2.1 ≠ (TJ10 b).2.1 := by decide +kernel
theorem tyJ10_ok : ∀ k, k < 0 → parseFieldDescriptor (TJ10 k).2.2.1 = some (tyJ10 k) := by decide +kernel
def RJxfd54e : String := "java/lang/constant/Constable"
def TJxfd54e : u_T := fun k => match k with
  | _ => ("", "", "", false)
def tyJxfd54e : Nat → FieldType := fun k => match k with
  | _ => .int
abbrev wsJxfd54e0 : List Cond := u_ws RJxfd54e TJxfd54e 0
theorem nmJxfd54e : ∀ a, a < 0 → ∀ b, b < 0 → a ≠ b → (TJxfd54e a).2.1 ≠ (TJxfd54e b).2.1 := by decide +kernel
theorem tyJxfd54e_ok : ∀ k, k < 0 → parseFieldDescriptor (TJxfd54e k).2.2.1 = some (tyJxfd54e k) := by decide +kernel
def RJx3cf43 : String := "java/lang/constant/ConstantDesc"
def TJx3cf43 : u_T := fun k => match k with
  | _ => ("", "", "", false)
def tyJx3cf43 : Nat → FieldType := fun k => match k with
  | _ => .int
abbrev wsJx3cf430 : List Cond := u_ws RJx3cf43 TJx3cf43 0
theorem nmJx3cf43 : ∀ a, a < 0 → ∀ b, b < 0 → a ≠ b → (TJx3cf43 a).2.1 ≠ (TJx3cf43 b).2.1 := by decide +kernel
theorem tyJx3cf43_ok : ∀ k, k < 0 → parseFieldDescriptor (TJx3cf43 k).2.2.1 = some (tyJx3cf43 k) := by decide +kernel
def RJxa1e45 : String := "java/util/AbstractCollection"
def TJxa1e45 : u_T := fun k => match k with
  | _ => ("", "", "", false)
def tyJxa1e45 : Nat → FieldType := fun k => match k with
  | _ => .int
abbrev wsJxa1e450 : List Cond := u_ws RJxa1e45 TJxa1e45 0
theorem nmJxa1e45 : ∀ a, a < 0 → ∀ b, b < 0 → a ≠ b → (TJxa1e45 a).2.1 ≠ (TJxa1e45 b).2.1 := by decide +kernel
theorem tyJxa1e45_ok : ∀ k, k < 0 → parseFieldDescriptor (TJxa1e45 k).2.2.1 = some (tyJxa1e45 k) := by decide +kernel
abbrev cJxa1e45_init_da8c8 : ByteArray := prog_32_method_1_code
def yJxa1e45_init_da8c8 : MethodName := ⟨RJxa1e45, "<init>", "()V"⟩
def RJxc12de : String := "java/util/AbstractList"
def TJxc12de : u_T := fun k => match k with
  | _ => ("", "", "", false)
def tyJxc12de : Nat → FieldType := fun k => match k with
  | _ => .int
abbrev wsJxc12de0 : List Cond := u_ws RJxc12de TJxc12de 0
theorem nmJxc12de : ∀ a, a < 0 → ∀ b, b < 0 → a ≠ b → (TJxc12de a).2.1 ≠ (TJxc12de b).2.1 := by decide +kernel
theorem tyJxc12de_ok : ∀ k, k < 0 → parseFieldDescriptor (TJxc12de k).2.2.1 = some (tyJxc12de k) := by decide +kernel
abbrev cJxc12de_init_da8c8 : ByteArray := prog_33_method_1_code
def yJxc12de_init_da8c8 : MethodName := ⟨RJxc12de, "<init>", "()V"⟩
def RJx4a65c : String := "java/util/ArrayList"
def TJx4a65c : u_T := fun k => match k with
  | 0 => ("java/util/AbstractList", "modCount", "I", false)
  | 1 => ("java/util/ArrayList", "elementData", "[Ljava/lang/Object;", false)
  | _ => ("java/util/ArrayList", "size", "I", false)
def tyJx4a65c : Nat → FieldType := fun k => match k with
  | 0 => .int
  | 1 => .array (.object "java/lang/Object")
  | _ => .int
abbrev wsJx4a65c0 : List Cond := u_ws RJx4a65c TJx4a65c 3
theorem nmJx4a65c : ∀ a, a < 3 → ∀ b, b < 3 → a ≠ b → (TJx4a65c a).2.1 ≠ (TJx4a65c b).2.1 := by decide +kernel
theorem tyJx4a65c_ok : ∀ k, k < 3 → parseFieldDescriptor (TJx4a65c k).2.2.1 = some (tyJx4a65c k) := by decide +kernel
abbrev cJx4a65c_init_da8c8 : ByteArray := prog_34_method_2_code
def yJx4a65c_init_da8c8 : MethodName := ⟨RJx4a65c, "<init>", "()V"⟩
abbrev cJx4a65c_grow_92f84 : ByteArray := prog_34_method_6_code
def yJx4a65c_grow_92f84 : MethodName := ⟨RJx4a65c, "grow", "(I)[Ljava/lang/Object;"⟩
abbrev cJx4a65c_grow_d5877 : ByteArray := prog_34_method_7_code
def yJx4a65c_grow_d5877 : MethodName := ⟨RJx4a65c, "grow", "()[Ljava/lang/Object;"⟩
abbrev cJx4a65c_size_8abf5 : ByteArray := prog_34_method_8_code
def yJx4a65c_size_8abf5 : MethodName := ⟨RJx4a65c, "size", "()I"⟩
abbrev cJx4a65c_elementData_915e3 : ByteArray := prog_34_method_18_code
def yJx4a65c_elementData_915e3 : MethodName := ⟨RJx4a65c, "elementData", "(I)Ljava/lang/Object;"⟩
abbrev cJx4a65c_get_915e3 : ByteArray := prog_34_method_20_code
def yJx4a65c_get_915e3 : MethodName := ⟨RJx4a65c, "get", "(I)Ljava/lang/Object;"⟩
abbrev cJx4a65c_add_72be8 : ByteArray := prog_34_method_24_code
def yJx4a65c_add_72be8 : MethodName := ⟨RJx4a65c, "add", "(Ljava/lang/Object;[Ljava/lang/Object;I)V"⟩
abbrev cJx4a65c_add_9ea2d : ByteArray := prog_34_method_25_code
def yJx4a65c_add_9ea2d : MethodName := ⟨RJx4a65c, "add", "(Ljava/lang/Object;)Z"⟩
def RJ7 : String := "java/util/Arrays"
def TJ7 : u_T := fun k => match k with
  | _ => ("", "", "", false)
def tyJ7 : Nat → FieldType := fun k => match k with
  | _ => .int
abbrev wsJ70 : List Cond := u_ws RJ7 TJ7 0
theorem nmJ7 : ∀ a, a < 0 → ∀ b, b < 0 → a ≠ b → (TJ7 a).2.1 ≠ (TJ7 b).2.1 := by decide +kernel
theorem tyJ7_ok : ∀ k, k < 0 → parseFieldDescriptor (TJ7 k).2.2.1 = some (tyJ7 k) := by decide +kernel
abbrev cJ7_fill_d0a16 : ByteArray := prog_35_method_101_code
def yJ7_fill_d0a16 : MethodName := ⟨RJ7, "fill", "([JJ)V"⟩
abbrev cJ7_copyOf_1904c : ByteArray := prog_35_method_119_code
def yJ7_copyOf_1904c : MethodName := ⟨RJ7, "copyOf", "([Ljava/lang/Object;I)[Ljava/lang/Object;"⟩
abbrev cJ7_copyOf_6403c : ByteArray := prog_35_method_120_code
def yJ7_copyOf_6403c : MethodName := ⟨RJ7, "copyOf", "([Ljava/lang/Object;ILjava/lang/Class;)[Ljava/lang/Object;"⟩
abbrev cJ7_copyOf_59c91 : ByteArray := prog_35_method_123_code
def yJ7_copyOf_59c91 : MethodName := ⟨RJ7, "copyOf", "([II)[I"⟩
def RJx5ef63 : String := "java/util/Collection"
def TJx5ef63 : u_T := fun k => match k with
  | _ => ("", "", "", false)
def tyJx5ef63 : Nat → FieldType := fun k => match k with
  | _ => .int
abbrev wsJx5ef630 : List Cond := u_ws RJx5ef63 TJx5ef63 0
theorem nmJx5ef63 : ∀ a, a < 0 → ∀ b, b < 0 → a ≠ b → (TJx5ef63 a).2.1 ≠ (TJx5ef63 b).2.1 := by decide +kernel
theorem tyJx5ef63_ok : ∀ k, k < 0 → parseFieldDescriptor (TJx5ef63 k).2.2.1 = some (tyJx5ef63 k) := by decide +kernel
def RJxbd725 : String := "java/util/List"
def TJxbd725 : u_T := fun k => match k with
  | _ => ("", "", "", false)
def tyJxbd725 : Nat → FieldType := fun k => match k with
  | _ => .int
abbrev wsJxbd7250 : List Cond := u_ws RJxbd725 TJxbd725 0
theorem nmJxbd725 : ∀ a, a < 0 → ∀ b, b < 0 → a ≠ b → (TJxbd725 a).2.1 ≠ (TJxbd725 b).2.1 := by decide +kernel
theorem tyJxbd725_ok : ∀ k, k < 0 → parseFieldDescriptor (TJxbd725 k).2.2.1 = some (tyJxbd725 k) := by decide +kernel
def RJ15 : String := "java/util/Objects"
def TJ15 : u_T := fun k => match k with
  | _ => ("", "", "", false)
def tyJ15 : Nat → FieldType := fun k => match k with
  | _ => .int
abbrev wsJ150 : List Cond := u_ws RJ15 TJ15 0
theorem nmJ15 : ∀ a, a < 0 → ∀ b, b < 0 → a ≠ b → (TJ15 a).2.1 ≠ (TJ15 b).2.1 := by decide +kernel
theorem tyJ15_ok : ∀ k, k < 0 → parseFieldDescriptor (TJ15 k).2.2.1 = some (tyJ15 k) := by decide +kernel
abbrev cJ15_checkIndex_7cf53 : ByteArray := prog_39_method_17_code
def yJ15_checkIndex_7cf53 : MethodName := ⟨RJ15, "checkIndex", "(II)I"⟩
def RJxf0a74 : String := "java/util/RandomAccess"
def TJxf0a74 : u_T := fun k => match k with
  | _ => ("", "", "", false)
def tyJxf0a74 : Nat → FieldType := fun k => match k with
  | _ => .int
abbrev wsJxf0a740 : List Cond := u_ws RJxf0a74 TJxf0a74 0
theorem nmJxf0a74 : ∀ a, a < 0 → ∀ b, b < 0 → a ≠ b → (TJxf0a74 a).2.1 ≠ (TJxf0a74 b).2.1 := by decide +kernel
theorem tyJxf0a74_ok : ∀ k, k < 0 → parseFieldDescriptor (TJxf0a74 k).2.2.1 = some (tyJxf0a74 k) := by decide +kernel
def RJxa66e6 : String := "java/util/SequencedCollection"
def TJxa66e6 : u_T := fun k => match k with
  | _ => ("", "", "", false)
def tyJxa66e6 : Nat → FieldType := fun k => match k with
  | _ => .int
abbrev wsJxa66e60 : List Cond := u_ws RJxa66e6 TJxa66e6 0
theorem nmJxa66e6 : ∀ a, a < 0 → ∀ b, b < 0 → a ≠ b → (TJxa66e6 a).2.1 ≠ (TJxa66e6 b).2.1 := by decide +kernel
theorem tyJxa66e6_ok : ∀ k, k < 0 → parseFieldDescriptor (TJxa66e6 k).2.2.1 = some (tyJxa66e6 k) := by decide +kernel
def RJ8 : String := "jdk/internal/util/ArraysSupport"
def TJ8 : u_T := fun k => match k with
  | _ => ("", "", "", false)
def tyJ8 : Nat → FieldType := fun k => match k with
  | _ => .int
abbrev wsJ80 : List Cond := u_ws RJ8 TJ8 0
theorem nmJ8 : ∀ a, a < 0 → ∀ b, b < 0 → a ≠ b → (TJ8 a).2.1 ≠ (TJ8 b).2.1 := by decide +kernel
theorem tyJ8_ok : ∀ k, k < 0 → parseFieldDescriptor (TJ8 k).2.2.1 = some (tyJ8 k) := by decide +kernel
abbrev cJ8_newLength_cabcc : ByteArray := prog_42_method_27_code
def yJ8_newLength_cabcc : MethodName := ⟨RJ8, "newLength", "(III)I"⟩
abbrev cJ8_hugeLength_7cf53 : ByteArray := prog_42_method_28_code
def yJ8_hugeLength_7cf53 : MethodName := ⟨RJ8, "hugeLength", "(II)I"⟩
def RJ3 : String := "jdk/internal/util/Preconditions"
def TJ3 : u_T := fun k => match k with
  | _ => ("", "", "", false)
def tyJ3 : Nat → FieldType := fun k => match k with
  | _ => .int
abbrev wsJ30 : List Cond := u_ws RJ3 TJ3 0
theorem nmJ3 : ∀ a, a < 0 → ∀ b, b < 0 → a ≠ b → (TJ3 a).2.1 ≠ (TJ3 b).2.1 := by decide +kernel
theorem tyJ3_ok : ∀ k, k < 0 → parseFieldDescriptor (TJ3 k).2.2.1 = some (tyJ3 k) := by decide +kernel
abbrev cJ3_checkIndex_8e157 : ByteArray := prog_43_method_11_code
def yJ3_checkIndex_8e157 : MethodName := ⟨RJ3, "checkIndex", "(IILjava/util/function/BiFunction;)I"⟩
abbrev cJ3_checkFromToIndex_8c36e : ByteArray := prog_43_method_12_code
def yJ3_checkFromToIndex_8c36e : MethodName := ⟨RJ3, "checkFromToIndex", "(IIILjava/util/function/BiFunction;)I"⟩
def RL : String := "LiarHallLaw"
abbrev cL_value : ByteArray := method_3_code
def yL_value : MethodName := ⟨RL, "value", "(LLiarHall;II[J)I"⟩
abbrev cL_law : ByteArray := code
def yL_law : MethodName := ⟨RL, "law", "([I)Z"⟩
abbrev vwCl : List vw_C := [(RJx4a65c, TJx4a65c, 3), (RX0, TX0, 7), (RX1, TX1, 15), (RX2, TX2, 2), (RX3, TX3, 4), (RX4, TX4, 5), (RX5, TX5, 1), (RX7, TX7, 4), (RX8, TX8, 6), (RX9, TX9, 1), (RX10, TX10, 3), (RX11, TX11, 16), (RX12, TX12, 59)]
