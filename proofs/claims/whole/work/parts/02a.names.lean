def RX0 : String := "TokenMachines$Automaton"
def TX0 : u_T := fun k => match k with
  | 0 => ("TokenMachines$Automaton", "fitting", "[J", true)
  | 1 => ("TokenMachines$Automaton", "followers", "[J", true)
  | 2 => ("TokenMachines$Automaton", "atoms", "I", false)
  | 3 => ("TokenMachines$Automaton", "beginners", "J", false)
  | _ => ("TokenMachines$Automaton", "enders", "J", false)
def tyX0 : Nat → FieldType := fun k => match k with
  | 0 => .array .long
  | 1 => .array .long
  | 2 => .int
  | 3 => .long
  | _ => .long
abbrev wsX00 : List Cond := u_ws RX0 TX0 5
theorem nmX0 : ∀ a, a < 5 → ∀ b, b < 5 → a ≠ b → (TX0 a).2.1 ≠ (TX0 b).2.1 := by decide +kernel
theorem tyX0_ok : ∀ k, k < 5 → parseFieldDescriptor (TX0 k).2.2.1 = some (tyX0 k) := by decide +kernel
abbrev cX0_init : ByteArray := prog_2_method_1_code
def yX0_init : MethodName := ⟨RX0, "<init>", "()V"⟩
abbrev cX0_atoms : ByteArray := prog_2_method_2_code
def yX0_atoms : MethodName := ⟨RX0, "atoms", "()I"⟩
abbrev cX0_clear : ByteArray := prog_2_method_3_code
def yX0_clear : MethodName := ⟨RX0, "clear", "()V"⟩
abbrev cX0_addAtom : ByteArray := prog_2_method_4_code
def yX0_addAtom : MethodName := ⟨RX0, "addAtom", "()V"⟩
abbrev cX0_newest : ByteArray := prog_2_method_5_code
def yX0_newest : MethodName := ⟨RX0, "newest", "()J"⟩
abbrev cX0_allow : ByteArray := prog_2_method_6_code
def yX0_allow : MethodName := ⟨RX0, "allow", "(II)V"⟩
abbrev cX0_turnRound : ByteArray := prog_2_method_7_code
def yX0_turnRound : MethodName := ⟨RX0, "turnRound", "()V"⟩
abbrev cX0_connect : ByteArray := prog_2_method_8_code
def yX0_connect : MethodName := ⟨RX0, "connect", "(JJ)V"⟩
abbrev cX0_setEdges : ByteArray := prog_2_method_9_code
def yX0_setEdges : MethodName := ⟨RX0, "setEdges", "(JJ)V"⟩
abbrev cX0_longestFrom : ByteArray := prog_2_method_10_code
def yX0_longestFrom : MethodName := ⟨RX0, "longestFrom", "(LTokenMachines$Signs;I)I"⟩
abbrev cX0_fittingFor : ByteArray := prog_2_method_11_code
def yX0_fittingFor : MethodName := ⟨RX0, "fittingFor", "(I)J"⟩
abbrev cX0_behind : ByteArray := prog_2_method_12_code
def yX0_behind : MethodName := ⟨RX0, "behind", "(J)J"⟩
def RX1 : String := "TokenMachines$Dictionary"
def TX1 : u_T := fun k => match k with
  | 0 => ("TokenMachines$Dictionary", "held", "[B", true)
  | 1 => ("TokenMachines$Dictionary", "lengths", "[I", true)
  | 2 => ("TokenMachines$Dictionary", "costs", "[I", true)
  | 3 => ("TokenMachines$Dictionary", "size", "I", false)
  | 4 => ("TokenMachines$Dictionary", "strangeCost", "I", false)
  | 5 => ("TokenMachines$Dictionary", "sums", "[I", true)
  | 6 => ("TokenMachines$Dictionary", "pieces", "[I", true)
  | 7 => ("TokenMachines$Dictionary", "firsts", "[I", true)
  | _ => ("TokenMachines$Dictionary", "strangers", "[Z", true)
def tyX1 : Nat → FieldType := fun k => match k with
  | 0 => .array .byte
  | 1 => .array .int
  | 2 => .array .int
  | 3 => .int
  | 4 => .int
  | 5 => .array .int
  | 6 => .array .int
  | 7 => .array .int
  | _ => .array .boolean
abbrev wsX10 : List Cond := u_ws RX1 TX1 9
theorem nmX1 : ∀ a, a < 9 → ∀ b, b < 9 → a ≠ b → (TX1 a).2.1 ≠ (TX1 b).2.1 := by decide +kernel
theorem tyX1_ok : ∀ k, k < 9 → parseFieldDescriptor (TX1 k).2.2.1 = some (tyX1 k) := by decide +kernel
abbrev cX1_init : ByteArray := prog_3_method_1_code
def yX1_init : MethodName := ⟨RX1, "<init>", "()V"⟩
abbrev cX1_size : ByteArray := prog_3_method_2_code
def yX1_size : MethodName := ⟨RX1, "size", "()I"⟩
abbrev cX1_exchangeStrangeCost : ByteArray := prog_3_method_3_code
def yX1_exchangeStrangeCost : MethodName := ⟨RX1, "exchangeStrangeCost", "(I)I"⟩
abbrev cX1_learn : ByteArray := prog_3_method_4_code
def yX1_learn : MethodName := ⟨RX1, "learn", "(LTokenMachines$Signs;I)I"⟩
abbrev cX1_knows : ByteArray := prog_3_method_5_code
def yX1_knows : MethodName := ⟨RX1, "knows", "(LTokenMachines$Signs;)Z"⟩
abbrev cX1_standsAt : ByteArray := prog_3_method_6_code
def yX1_standsAt : MethodName := ⟨RX1, "standsAt", "(ILTokenMachines$Signs;I)Z"⟩
abbrev cX1_solve : ByteArray := prog_3_method_7_code
def yX1_solve : MethodName := ⟨RX1, "solve", "(LTokenMachines$Signs;II)I"⟩
abbrev cX1_choose : ByteArray := prog_3_method_8_code
def yX1_choose : MethodName := ⟨RX1, "choose", "(LTokenMachines$Signs;II)V"⟩
abbrev cX1_tryPiece : ByteArray := prog_3_method_9_code
def yX1_tryPiece : MethodName := ⟨RX1, "tryPiece", "(III)V"⟩
abbrev cX1_pieceAt : ByteArray := prog_3_method_10_code
def yX1_pieceAt : MethodName := ⟨RX1, "pieceAt", "(I)I"⟩
abbrev cX1_isStrangeAt : ByteArray := prog_3_method_11_code
def yX1_isStrangeAt : MethodName := ⟨RX1, "isStrangeAt", "(I)Z"⟩
def RX2 : String := "TokenMachines$Found"
def TX2 : u_T := fun k => match k with
  | 0 => ("TokenMachines$Found", "places", "[I", true)
  | 1 => ("TokenMachines$Found", "ends", "[I", true)
  | 2 => ("TokenMachines$Found", "positions", "[I", true)
  | 3 => ("TokenMachines$Found", "size", "I", false)
  | 4 => ("TokenMachines$Found", "over", "Z", false)
  | 5 => ("TokenMachines$Found", "limit", "I", false)
  | 6 => ("TokenMachines$Found", "limitRule", "I", false)
  | 7 => ("TokenMachines$Found", "shared", "Z", false)
  | 8 => ("TokenMachines$Found", "position", "I", false)
  | _ => ("TokenMachines$Found", "lastPlace", "I", false)
def tyX2 : Nat → FieldType := fun k => match k with
  | 0 => .array .int
  | 1 => .array .int
  | 2 => .array .int
  | 3 => .int
  | 4 => .boolean
  | 5 => .int
  | 6 => .int
  | 7 => .boolean
  | 8 => .int
  | _ => .int
abbrev wsX20 : List Cond := u_ws RX2 TX2 10
theorem nmX2 : ∀ a, a < 10 → ∀ b, b < 10 → a ≠ b → (TX2 a).2.1 ≠ (TX2 b).2.1 := by decide +kernel
theorem tyX2_ok : ∀ k, k < 10 → parseFieldDescriptor (TX2 k).2.2.1 = some (tyX2 k) := by decide +kernel
abbrev cX2_init : ByteArray := prog_4_method_1_code
def yX2_init : MethodName := ⟨RX2, "<init>", "()V"⟩
abbrev cX2_size : ByteArray := prog_4_method_2_code
def yX2_size : MethodName := ⟨RX2, "size", "()I"⟩
abbrev cX2_isOver : ByteArray := prog_4_method_3_code
def yX2_isOver : MethodName := ⟨RX2, "isOver", "()Z"⟩
abbrev cX2_has : ByteArray := prog_4_method_4_code
def yX2_has : MethodName := ⟨RX2, "has", "(I)Z"⟩
abbrev cX2_placeOf : ByteArray := prog_4_method_5_code
def yX2_placeOf : MethodName := ⟨RX2, "placeOf", "(I)I"⟩
abbrev cX2_endOf : ByteArray := prog_4_method_6_code
def yX2_endOf : MethodName := ⟨RX2, "endOf", "(I)I"⟩
abbrev cX2_positionOf : ByteArray := prog_4_method_7_code
def yX2_positionOf : MethodName := ⟨RX2, "positionOf", "(I)I"⟩
abbrev cX2_lengthOf : ByteArray := prog_4_method_8_code
def yX2_lengthOf : MethodName := ⟨RX2, "lengthOf", "(I)I"⟩
abbrev cX2_exchangeLimit : ByteArray := prog_4_method_9_code
def yX2_exchangeLimit : MethodName := ⟨RX2, "exchangeLimit", "(II)I"⟩
abbrev cX2_clear : ByteArray := prog_4_method_10_code
def yX2_clear : MethodName := ⟨RX2, "clear", "()V"⟩
abbrev cX2_begin : ByteArray := prog_4_method_11_code
def yX2_begin : MethodName := ⟨RX2, "begin", "(Z)V"⟩
abbrev cX2_add : ByteArray := prog_4_method_12_code
def yX2_add : MethodName := ⟨RX2, "add", "(II)V"⟩
abbrev cX2_addCut : ByteArray := prog_4_method_13_code
def yX2_addCut : MethodName := ⟨RX2, "addCut", "(II)V"⟩
abbrev cX2_put : ByteArray := prog_4_method_14_code
def yX2_put : MethodName := ⟨RX2, "put", "(II)V"⟩
def RX3 : String := "TokenMachines$Part"
def TX3 : u_T := fun k => match k with
  | 0 => ("TokenMachines$Part", "first", "J", false)
  | 1 => ("TokenMachines$Part", "last", "J", false)
  | _ => ("TokenMachines$Part", "mayBeEmpty", "Z", false)
def tyX3 : Nat → FieldType := fun k => match k with
  | 0 => .long
  | 1 => .long
  | _ => .boolean
abbrev wsX30 : List Cond := u_ws RX3 TX3 3
theorem nmX3 : ∀ a, a < 3 → ∀ b, b < 3 → a ≠ b → (TX3 a).2.1 ≠ (TX3 b).2.1 := by decide +kernel
theorem tyX3_ok : ∀ k, k < 3 → parseFieldDescriptor (TX3 k).2.2.1 = some (tyX3 k) := by decide +kernel
abbrev cX3_init : ByteArray := prog_5_method_1_code
def yX3_init : MethodName := ⟨RX3, "<init>", "()V"⟩
abbrev cX3_become : ByteArray := prog_5_method_2_code
def yX3_become : MethodName := ⟨RX3, "become", "(JZ)V"⟩
abbrev cX3_becomeNothing : ByteArray := prog_5_method_3_code
def yX3_becomeNothing : MethodName := ⟨RX3, "becomeNothing", "()V"⟩
abbrev cX3_becomeEmptyRow : ByteArray := prog_5_method_4_code
def yX3_becomeEmptyRow : MethodName := ⟨RX3, "becomeEmptyRow", "()V"⟩
abbrev cX3_becomeAtom : ByteArray := prog_5_method_5_code
def yX3_becomeAtom : MethodName := ⟨RX3, "becomeAtom", "(J)V"⟩
abbrev cX3_becomeCopyOf : ByteArray := prog_5_method_6_code
def yX3_becomeCopyOf : MethodName := ⟨RX3, "becomeCopyOf", "(LTokenMachines$Part;)V"⟩
abbrev cX3_addChoice : ByteArray := prog_5_method_7_code
def yX3_addChoice : MethodName := ⟨RX3, "addChoice", "(LTokenMachines$Part;)V"⟩
abbrev cX3_addBehind : ByteArray := prog_5_method_8_code
def yX3_addBehind : MethodName := ⟨RX3, "addBehind", "(LTokenMachines$Part;)V"⟩
def RX4 : String := "TokenMachines$PatternReader"
def TX4 : u_T := fun k => match k with
  | 0 => ("TokenMachines$PatternReader", "source", "LTokenMachines$Signs;", true)
  | 1 => ("TokenMachines$PatternReader", "choices", "[LTokenMachines$Part;", true)
  | 2 => ("TokenMachines$PatternReader", "rows", "[LTokenMachines$Part;", true)
  | 3 => ("TokenMachines$PatternReader", "piece", "LTokenMachines$Part;", true)
  | 4 => ("TokenMachines$PatternReader", "made", "LTokenMachines$Automaton;", false)
  | 5 => ("TokenMachines$PatternReader", "depth", "I", false)
  | 6 => ("TokenMachines$PatternReader", "at", "I", false)
  | _ => ("TokenMachines$PatternReader", "fault", "I", false)
def tyX4 : Nat → FieldType := fun k => match k with
  | 0 => .object "TokenMachines$Signs"
  | 1 => .array (.object "TokenMachines$Part")
  | 2 => .array (.object "TokenMachines$Part")
  | 3 => .object "TokenMachines$Part"
  | 4 => .object "TokenMachines$Automaton"
  | 5 => .int
  | 6 => .int
  | _ => .int
abbrev wsX40 : List Cond := u_ws RX4 TX4 8
theorem nmX4 : ∀ a, a < 8 → ∀ b, b < 8 → a ≠ b → (TX4 a).2.1 ≠ (TX4 b).2.1 := by decide +kernel
theorem tyX4_ok : ∀ k, k < 8 → parseFieldDescriptor (TX4 k).2.2.1 = some (tyX4 k) := by decide +kernel
abbrev cX4_init : ByteArray := prog_6_method_1_code
def yX4_init : MethodName := ⟨RX4, "<init>", "()V"⟩
abbrev cX4_exchange : ByteArray := prog_6_method_2_code
def yX4_exchange : MethodName := ⟨RX4, "exchange", "(LTokenMachines$Automaton;)LTokenMachines$Automaton;"⟩
abbrev cX4_readFrom : ByteArray := prog_6_method_3_code
def yX4_readFrom : MethodName := ⟨RX4, "readFrom", "(LTokenMachines$Signs;)I"⟩
abbrev cX4_begin : ByteArray := prog_6_method_4_code
def yX4_begin : MethodName := ⟨RX4, "begin", "(LTokenMachines$Signs;)V"⟩
abbrev cX4_end : ByteArray := prog_6_method_5_code
def yX4_end : MethodName := ⟨RX4, "end", "()V"⟩
abbrev cX4_beginChoices : ByteArray := prog_6_method_6_code
def yX4_beginChoices : MethodName := ⟨RX4, "beginChoices", "()V"⟩
abbrev cX4_endRow : ByteArray := prog_6_method_7_code
def yX4_endRow : MethodName := ⟨RX4, "endRow", "()V"⟩
abbrev cX4_open : ByteArray := prog_6_method_8_code
def yX4_open : MethodName := ⟨RX4, "open", "()V"⟩
abbrev cX4_close : ByteArray := prog_6_method_9_code
def yX4_close : MethodName := ⟨RX4, "close", "()V"⟩
abbrev cX4_endPiece : ByteArray := prog_6_method_10_code
def yX4_endPiece : MethodName := ⟨RX4, "endPiece", "()V"⟩
abbrev cX4_readAtom : ByteArray := prog_6_method_11_code
def yX4_readAtom : MethodName := ⟨RX4, "readAtom", "()V"⟩
abbrev cX4_allowSolid : ByteArray := prog_6_method_12_code
def yX4_allowSolid : MethodName := ⟨RX4, "allowSolid", "()V"⟩
abbrev cX4_readSet : ByteArray := prog_6_method_13_code
def yX4_readSet : MethodName := ⟨RX4, "readSet", "()V"⟩
abbrev cX4_readRange : ByteArray := prog_6_method_14_code
def yX4_readRange : MethodName := ⟨RX4, "readRange", "()V"⟩
abbrev cX4_readSign : ByteArray := prog_6_method_15_code
def yX4_readSign : MethodName := ⟨RX4, "readSign", "(Z)I"⟩
def RX5 : String := "TokenMachines$Signs"
def TX5 : u_T := fun k => match k with
  | 0 => ("TokenMachines$Signs", "held", "[B", true)
  | _ => ("TokenMachines$Signs", "size", "I", false)
def tyX5 : Nat → FieldType := fun k => match k with
  | 0 => .array .byte
  | _ => .int
abbrev wsX50 : List Cond := u_ws RX5 TX5 2
theorem nmX5 : ∀ a, a < 2 → ∀ b, b < 2 → a ≠ b → (TX5 a).2.1 ≠ (TX5 b).2.1 := by decide +kernel
theorem tyX5_ok : ∀ k, k < 2 → parseFieldDescriptor (TX5 k).2.2.1 = some (tyX5 k) := by decide +kernel
abbrev cX5_init : ByteArray := prog_7_method_1_code
def yX5_init : MethodName := ⟨RX5, "<init>", "()V"⟩
abbrev cX5_size : ByteArray := prog_7_method_2_code
def yX5_size : MethodName := ⟨RX5, "size", "()I"⟩
abbrev cX5_at : ByteArray := prog_7_method_3_code
def yX5_at : MethodName := ⟨RX5, "at", "(I)I"⟩
abbrev cX5_append : ByteArray := prog_7_method_4_code
def yX5_append : MethodName := ⟨RX5, "append", "(I)V"⟩
abbrev cX5_clear : ByteArray := prog_7_method_5_code
def yX5_clear : MethodName := ⟨RX5, "clear", "()V"⟩
abbrev cX5_takeOver : ByteArray := prog_7_method_6_code
def yX5_takeOver : MethodName := ⟨RX5, "takeOver", "(LTokenMachines$Signs;)V"⟩
abbrev cX5_hasBlank : ByteArray := prog_7_method_7_code
def yX5_hasBlank : MethodName := ⟨RX5, "hasBlank", "()Z"⟩
def RX6 : String := "TokenMachines"
def TX6 : u_T := fun k => match k with
  | 0 => ("TokenMachines", "tape", "LTokenMachines$Signs;", true)
  | 1 => ("TokenMachines", "read", "LTokenMachines$Signs;", true)
  | 2 => ("TokenMachines", "found", "LTokenMachines$Found;", true)
  | 3 => ("TokenMachines", "dictionary", "LTokenMachines$Dictionary;", true)
  | 4 => ("TokenMachines", "reader", "LTokenMachines$PatternReader;", true)
  | 5 => ("TokenMachines", "automaton", "LTokenMachines$Automaton;", false)
  | _ => ("TokenMachines", "linksOn", "Z", false)
def tyX6 : Nat → FieldType := fun k => match k with
  | 0 => .object "TokenMachines$Signs"
  | 1 => .object "TokenMachines$Signs"
  | 2 => .object "TokenMachines$Found"
  | 3 => .object "TokenMachines$Dictionary"
  | 4 => .object "TokenMachines$PatternReader"
  | 5 => .object "TokenMachines$Automaton"
  | _ => .boolean
abbrev wsX60 : List Cond := u_ws RX6 TX6 7
theorem nmX6 : ∀ a, a < 7 → ∀ b, b < 7 → a ≠ b → (TX6 a).2.1 ≠ (TX6 b).2.1 := by decide +kernel
theorem tyX6_ok : ∀ k, k < 7 → parseFieldDescriptor (TX6 k).2.2.1 = some (tyX6 k) := by decide +kernel
abbrev cX6_init : ByteArray := prog_1_method_1_code
def yX6_init : MethodName := ⟨RX6, "<init>", "()V"⟩
abbrev cX6_feed : ByteArray := prog_1_method_2_code
def yX6_feed : MethodName := ⟨RX6, "feed", "(IJ)I"⟩
abbrev cX6_text : ByteArray := prog_1_method_3_code
def yX6_text : MethodName := ⟨RX6, "text", "()I"⟩
abbrev cX6_pattern : ByteArray := prog_1_method_4_code
def yX6_pattern : MethodName := ⟨RX6, "pattern", "()I"⟩
abbrev cX6_word : ByteArray := prog_1_method_5_code
def yX6_word : MethodName := ⟨RX6, "word", "(I)I"⟩
abbrev cX6_strange : ByteArray := prog_1_method_6_code
def yX6_strange : MethodName := ⟨RX6, "strange", "(I)I"⟩
abbrev cX6_links : ByteArray := prog_1_method_7_code
def yX6_links : MethodName := ⟨RX6, "links", "(Z)I"⟩
abbrev cX6_longest : ByteArray := prog_1_method_8_code
def yX6_longest : MethodName := ⟨RX6, "longest", "(II)I"⟩
abbrev cX6_tokens : ByteArray := prog_1_method_9_code
def yX6_tokens : MethodName := ⟨RX6, "tokens", "(III)I"⟩
abbrev cX6_token : ByteArray := prog_1_method_10_code
def yX6_token : MethodName := ⟨RX6, "token", "(II)I"⟩
abbrev cX6_sign : ByteArray := prog_1_method_11_code
def yX6_sign : MethodName := ⟨RX6, "sign", "(II)I"⟩
abbrev cX6_same : ByteArray := prog_1_method_12_code
def yX6_same : MethodName := ⟨RX6, "same", "(II)I"⟩
abbrev cX6_cost : ByteArray := prog_1_method_13_code
def yX6_cost : MethodName := ⟨RX6, "cost", "(I)I"⟩
abbrev cX6_match : ByteArray := prog_1_method_14_code
def yX6_match : MethodName := ⟨RX6, "match", "(I)I"⟩
abbrev cX6_count : ByteArray := prog_1_method_15_code
def yX6_count : MethodName := ⟨RX6, "count", "(I)I"⟩
abbrev cX6_isLetter : ByteArray := prog_1_method_16_code
def yX6_isLetter : MethodName := ⟨RX6, "isLetter", "(I)Z"⟩
abbrev cX6_isFigure : ByteArray := prog_1_method_17_code
def yX6_isFigure : MethodName := ⟨RX6, "isFigure", "(I)Z"⟩
abbrev cX6_isBlank : ByteArray := prog_1_method_18_code
def yX6_isBlank : MethodName := ⟨RX6, "isBlank", "(I)Z"⟩
abbrev cX6_isSolid : ByteArray := prog_1_method_19_code
def yX6_isSolid : MethodName := ⟨RX6, "isSolid", "(I)Z"⟩
abbrev cX6_isOther : ByteArray := prog_1_method_20_code
def yX6_isOther : MethodName := ⟨RX6, "isOther", "(I)Z"⟩
abbrev cX6_isCost : ByteArray := prog_1_method_21_code
def yX6_isCost : MethodName := ⟨RX6, "isCost", "(I)Z"⟩
abbrev cX6_cutMatches : ByteArray := prog_1_method_22_code
def yX6_cutMatches : MethodName := ⟨RX6, "cutMatches", "()V"⟩
abbrev cX6_cutRows : ByteArray := prog_1_method_23_code
def yX6_cutRows : MethodName := ⟨RX6, "cutRows", "(III)V"⟩
abbrev cX6_cutRow : ByteArray := prog_1_method_24_code
def yX6_cutRow : MethodName := ⟨RX6, "cutRow", "(IIIII)V"⟩
abbrev cX6_cutPaths : ByteArray := prog_1_method_25_code
def yX6_cutPaths : MethodName := ⟨RX6, "cutPaths", "(II)V"⟩
abbrev cX6_cutSizes : ByteArray := prog_1_method_26_code
def yX6_cutSizes : MethodName := ⟨RX6, "cutSizes", "(IIII)V"⟩
abbrev cX6_cutPieces : ByteArray := prog_1_method_27_code
def yX6_cutPieces : MethodName := ⟨RX6, "cutPieces", "(II)V"⟩
abbrev cX6_cutPairs : ByteArray := prog_1_method_28_code
def yX6_cutPairs : MethodName := ⟨RX6, "cutPairs", "(II)V"⟩
abbrev cX6_endOfKind : ByteArray := prog_1_method_29_code
def yX6_endOfKind : MethodName := ⟨RX6, "endOfKind", "(II)I"⟩
abbrev cX6_isOfKind : ByteArray := prog_1_method_30_code
def yX6_isOfKind : MethodName := ⟨RX6, "isOfKind", "(II)Z"⟩
abbrev cX6_isOfWord : ByteArray := prog_1_method_31_code
def yX6_isOfWord : MethodName := ⟨RX6, "isOfWord", "(I)Z"⟩
abbrev cX6_isLinkAt : ByteArray := prog_1_method_32_code
def yX6_isLinkAt : MethodName := ⟨RX6, "isLinkAt", "(I)Z"⟩
abbrev cX6_isWebAt : ByteArray := prog_1_method_33_code
def yX6_isWebAt : MethodName := ⟨RX6, "isWebAt", "(I)Z"⟩
def RX7 : String := "TokenMachinesModel"
def TX7 : u_T := fun k => match k with
  | 0 => ("TokenMachinesModel", "tape", "[I", true)
  | 1 => ("TokenMachinesModel", "taped", "I", false)
  | 2 => ("TokenMachinesModel", "text", "[I", true)
  | 3 => ("TokenMachinesModel", "size", "I", false)
  | 4 => ("TokenMachinesModel", "words", "I", false)
  | 5 => ("TokenMachinesModel", "letters", "[I", true)
  | 6 => ("TokenMachinesModel", "lengths", "[I", true)
  | 7 => ("TokenMachinesModel", "costs", "[I", true)
  | 8 => ("TokenMachinesModel", "strange", "I", false)
  | 9 => ("TokenMachinesModel", "links", "Z", false)
  | 10 => ("TokenMachinesModel", "longest", "I", false)
  | 11 => ("TokenMachinesModel", "rule", "I", false)
  | 12 => ("TokenMachinesModel", "tokenMany", "I", false)
  | 13 => ("TokenMachinesModel", "isFull", "Z", false)
  | 14 => ("TokenMachinesModel", "places", "[I", true)
  | 15 => ("TokenMachinesModel", "ends", "[I", true)
  | 16 => ("TokenMachinesModel", "positions", "[I", true)
  | 17 => ("TokenMachinesModel", "atoms", "I", false)
  | 18 => ("TokenMachinesModel", "taken", "[J", true)
  | 19 => ("TokenMachinesModel", "behind", "[J", true)
  | 20 => ("TokenMachinesModel", "firsts", "J", false)
  | 21 => ("TokenMachinesModel", "lasts", "J", false)
  | 22 => ("TokenMachinesModel", "readAtoms", "I", false)
  | 23 => ("TokenMachinesModel", "readTaken", "[J", true)
  | 24 => ("TokenMachinesModel", "readBehind", "[J", true)
  | 25 => ("TokenMachinesModel", "anyEmpty", "[Z", true)
  | 26 => ("TokenMachinesModel", "anyIs", "[Z", true)
  | 27 => ("TokenMachinesModel", "anyFirst", "[J", true)
  | 28 => ("TokenMachinesModel", "anyLast", "[J", true)
  | 29 => ("TokenMachinesModel", "rowEmpty", "[Z", true)
  | 30 => ("TokenMachinesModel", "rowFirst", "[J", true)
  | 31 => ("TokenMachinesModel", "rowLast", "[J", true)
  | 32 => ("TokenMachinesModel", "hasPiece", "Z", false)
  | 33 => ("TokenMachinesModel", "pieceEmpty", "Z", false)
  | 34 => ("TokenMachinesModel", "pieceFirst", "J", false)
  | 35 => ("TokenMachinesModel", "pieceLast", "J", false)
  | 36 => ("TokenMachinesModel", "level", "I", false)
  | 37 => ("TokenMachinesModel", "p", "I", false)
  | 38 => ("TokenMachinesModel", "sign", "I", false)
  | 39 => ("TokenMachinesModel", "least", "[I", true)
  | 40 => ("TokenMachinesModel", "pieces", "[I", true)
  | 41 => ("TokenMachinesModel", "cuts", "[I", true)
  | 42 => ("TokenMachinesModel", "way", "I", false)
  | 43 => ("TokenMachinesModel", "position", "I", false)
  | _ => ("TokenMachinesModel", "lastPlace", "I", false)
def tyX7 : Nat → FieldType := fun k => match k with
  | 0 => .array .int
  | 1 => .int
  | 2 => .array .int
  | 3 => .int
  | 4 => .int
  | 5 => .array .int
  | 6 => .array .int
  | 7 => .array .int
  | 8 => .int
  | 9 => .boolean
  | 10 => .int
  | 11 => .int
  | 12 => .int
  | 13 => .boolean
  | 14 => .array .int
  | 15 => .array .int
  | 16 => .array .int
  | 17 => .int
  | 18 => .array .long
  | 19 => .array .long
  | 20 => .long
  | 21 => .long
  | 22 => .int
  | 23 => .array .long
  | 24 => .array .long
  | 25 => .array .boolean
  | 26 => .array .boolean
  | 27 => .array .long
  | 28 => .array .long
  | 29 => .array .boolean
  | 30 => .array .long
  | 31 => .array .long
  | 32 => .boolean
  | 33 => .boolean
  | 34 => .long
  | 35 => .long
  | 36 => .int
  | 37 => .int
  | 38 => .int
  | 39 => .array .int
  | 40 => .array .int
  | 41 => .array .int
  | 42 => .int
  | 43 => .int
  | _ => .int
abbrev wsX70 : List Cond := u_ws RX7 TX7 45
theorem nmX7 : ∀ a, a < 45 → ∀ b, b < 45 → a ≠ b → (TX7 a).2.1 ≠ (TX7 b).2.1 := by decide +kernel
theorem tyX7_ok : ∀ k, k < 45 → parseFieldDescriptor (TX7 k).2.2.1 = some (tyX7 k) := by decide +kernel
abbrev cX7_init : ByteArray := prog_9_method_1_code
def yX7_init : MethodName := ⟨RX7, "<init>", "()V"⟩
abbrev cX7_isIn : ByteArray := prog_9_method_2_code
def yX7_isIn : MethodName := ⟨RX7, "isIn", "(III)Z"⟩
abbrev cX7_isLetter : ByteArray := prog_9_method_3_code
def yX7_isLetter : MethodName := ⟨RX7, "isLetter", "(I)Z"⟩
abbrev cX7_isFigure : ByteArray := prog_9_method_4_code
def yX7_isFigure : MethodName := ⟨RX7, "isFigure", "(I)Z"⟩
abbrev cX7_isBlank : ByteArray := prog_9_method_5_code
def yX7_isBlank : MethodName := ⟨RX7, "isBlank", "(I)Z"⟩
abbrev cX7_isOther : ByteArray := prog_9_method_6_code
def yX7_isOther : MethodName := ⟨RX7, "isOther", "(I)Z"⟩
abbrev cX7_feed : ByteArray := prog_9_method_7_code
def yX7_feed : MethodName := ⟨RX7, "feed", "(IJ)I"⟩
abbrev cX7_text : ByteArray := prog_9_method_8_code
def yX7_text : MethodName := ⟨RX7, "text", "()I"⟩
abbrev cX7_peek : ByteArray := prog_9_method_9_code
def yX7_peek : MethodName := ⟨RX7, "peek", "()I"⟩
abbrev cX7_opens : ByteArray := prog_9_method_10_code
def yX7_opens : MethodName := ⟨RX7, "opens", "()V"⟩
abbrev cX7_begins : ByteArray := prog_9_method_11_code
def yX7_begins : MethodName := ⟨RX7, "begins", "()V"⟩
abbrev cX7_joins : ByteArray := prog_9_method_12_code
def yX7_joins : MethodName := ⟨RX7, "joins", "()V"⟩
abbrev cX7_closes : ByteArray := prog_9_method_13_code
def yX7_closes : MethodName := ⟨RX7, "closes", "()V"⟩
abbrev cX7_piece : ByteArray := prog_9_method_14_code
def yX7_piece : MethodName := ⟨RX7, "piece", "(ZJJ)V"⟩
abbrev cX7_takes : ByteArray := prog_9_method_15_code
def yX7_takes : MethodName := ⟨RX7, "takes", "(II)V"⟩
abbrev cX7_atom : ByteArray := prog_9_method_16_code
def yX7_atom : MethodName := ⟨RX7, "atom", "()V"⟩
abbrev cX7_signOfSet : ByteArray := prog_9_method_17_code
def yX7_signOfSet : MethodName := ⟨RX7, "signOfSet", "()Z"⟩
abbrev cX7_set : ByteArray := prog_9_method_18_code
def yX7_set : MethodName := ⟨RX7, "set", "(I)Z"⟩
abbrev cX7_plain : ByteArray := prog_9_method_19_code
def yX7_plain : MethodName := ⟨RX7, "plain", "(I)Z"⟩
abbrev cX7_reads : ByteArray := prog_9_method_20_code
def yX7_reads : MethodName := ⟨RX7, "reads", "()Z"⟩
abbrev cX7_pattern : ByteArray := prog_9_method_21_code
def yX7_pattern : MethodName := ⟨RX7, "pattern", "()I"⟩
abbrev cX7_matches : ByteArray := prog_9_method_22_code
def yX7_matches : MethodName := ⟨RX7, "matches", "(I)I"⟩
abbrev cX7_match : ByteArray := prog_9_method_23_code
def yX7_match : MethodName := ⟨RX7, "match", "(I)I"⟩
abbrev cX7_word : ByteArray := prog_9_method_24_code
def yX7_word : MethodName := ⟨RX7, "word", "(I)I"⟩
abbrev cX7_strange : ByteArray := prog_9_method_25_code
def yX7_strange : MethodName := ⟨RX7, "strange", "(I)I"⟩
abbrev cX7_wordAt : ByteArray := prog_9_method_26_code
def yX7_wordAt : MethodName := ⟨RX7, "wordAt", "(III)I"⟩
abbrev cX7_ways : ByteArray := prog_9_method_27_code
def yX7_ways : MethodName := ⟨RX7, "ways", "(II)V"⟩
abbrev cX7_isSolid : ByteArray := prog_9_method_28_code
def yX7_isSolid : MethodName := ⟨RX7, "isSolid", "(I)Z"⟩
abbrev cX7_cost : ByteArray := prog_9_method_29_code
def yX7_cost : MethodName := ⟨RX7, "cost", "(I)I"⟩
abbrev cX7_links : ByteArray := prog_9_method_30_code
def yX7_links : MethodName := ⟨RX7, "links", "(Z)I"⟩
abbrev cX7_longest : ByteArray := prog_9_method_31_code
def yX7_longest : MethodName := ⟨RX7, "longest", "(II)I"⟩
abbrev cX7_lays : ByteArray := prog_9_method_32_code
def yX7_lays : MethodName := ⟨RX7, "lays", "(III)V"⟩
abbrev cX7_tokenOf : ByteArray := prog_9_method_33_code
def yX7_tokenOf : MethodName := ⟨RX7, "tokenOf", "(II)V"⟩
abbrev cX7_isOfWord : ByteArray := prog_9_method_34_code
def yX7_isOfWord : MethodName := ⟨RX7, "isOfWord", "(I)Z"⟩
abbrev cX7_isOfRow : ByteArray := prog_9_method_35_code
def yX7_isOfRow : MethodName := ⟨RX7, "isOfRow", "(I)Z"⟩
abbrev cX7_isLink : ByteArray := prog_9_method_36_code
def yX7_isLink : MethodName := ⟨RX7, "isLink", "(II)Z"⟩
abbrev cX7_wordsWithin : ByteArray := prog_9_method_37_code
def yX7_wordsWithin : MethodName := ⟨RX7, "wordsWithin", "(II)V"⟩
abbrev cX7_paths : ByteArray := prog_9_method_38_code
def yX7_paths : MethodName := ⟨RX7, "paths", "(II)V"⟩
abbrev cX7_dictionary : ByteArray := prog_9_method_39_code
def yX7_dictionary : MethodName := ⟨RX7, "dictionary", "(II)V"⟩
abbrev cX7_isStrange : ByteArray := prog_9_method_40_code
def yX7_isStrange : MethodName := ⟨RX7, "isStrange", "(II)Z"⟩
abbrev cX7_row : ByteArray := prog_9_method_41_code
def yX7_row : MethodName := ⟨RX7, "row", "(IIII)V"⟩
abbrev cX7_tokens : ByteArray := prog_9_method_42_code
def yX7_tokens : MethodName := ⟨RX7, "tokens", "(III)I"⟩
abbrev cX7_isToken : ByteArray := prog_9_method_43_code
def yX7_isToken : MethodName := ⟨RX7, "isToken", "(I)Z"⟩
abbrev cX7_token : ByteArray := prog_9_method_44_code
def yX7_token : MethodName := ⟨RX7, "token", "(II)I"⟩
abbrev cX7_sign : ByteArray := prog_9_method_45_code
def yX7_sign : MethodName := ⟨RX7, "sign", "(II)I"⟩
abbrev cX7_same : ByteArray := prog_9_method_46_code
def yX7_same : MethodName := ⟨RX7, "same", "(II)I"⟩
abbrev cX7_count : ByteArray := prog_9_method_47_code
def yX7_count : MethodName := ⟨RX7, "count", "(I)I"⟩
def RJ9 : String := "java/lang/Math"
def TJ9 : u_T := fun k => match k with
  | _ => ("", "", "", false)
def tyJ9 : Nat → FieldType := fun k => match k with
  | _ => .int
abbrev wsJ90 : List Cond := u_ws RJ9 TJ9 0
theorem nmJ9 : ∀ a, a < 0 → ∀ b, b < 0 → a ≠ b → (TJ9 a).2.1 ≠ (TJ9 b).2.1 := by decide +kernel
theorem tyJ9_ok : ∀ k, k < 0 → parseFieldDescriptor (TJ9 k).2.2.1 = some (tyJ9 k) := by decide +kernel
abbrev cJ9_max_7cf53 : ByteArray := prog_10_method_65_code
def yJ9_max_7cf53 : MethodName := ⟨RJ9, "max", "(II)I"⟩
abbrev cJ9_min_7cf53 : ByteArray := prog_10_method_69_code
def yJ9_min_7cf53 : MethodName := ⟨RJ9, "min", "(II)I"⟩
def RJ7 : String := "java/util/Arrays"
def TJ7 : u_T := fun k => match k with
  | _ => ("", "", "", false)
def tyJ7 : Nat → FieldType := fun k => match k with
  | _ => .int
abbrev wsJ70 : List Cond := u_ws RJ7 TJ7 0
theorem nmJ7 : ∀ a, a < 0 → ∀ b, b < 0 → a ≠ b → (TJ7 a).2.1 ≠ (TJ7 b).2.1 := by decide +kernel
theorem tyJ7_ok : ∀ k, k < 0 → parseFieldDescriptor (TJ7 k).2.2.1 = some (tyJ7 k) := by decide +kernel
abbrev cJ7_fill_d0a16 : ByteArray := prog_11_method_101_code
def yJ7_fill_d0a16 : MethodName := ⟨RJ7, "fill", "([JJ)V"⟩
def RL : String := "TokenMachinesLaw"
abbrev cL_law : ByteArray := code
abbrev vwCl : List vw_C := [(RX0, TX0, 5), (RX1, TX1, 9), (RX2, TX2, 10), (RX3, TX3, 3), (RX4, TX4, 8), (RX5, TX5, 2), (RX6, TX6, 7), (RX7, TX7, 45)]
def GG : List Cond := lw_tbl.filter goodWord
theorem gm {w : Cond} (h : w ∈ tables_1) (g : goodWord w = true) : w ∈ GG := List.mem_filter.mpr ⟨List.mem_append_right _ h, g⟩
theorem gm1 {w : Cond} {i : Nat} (h : tables_1_1[i]? = some w) (g : goodWord w = true) : w ∈ GG := gm (List.mem_append_left _ (List.mem_of_getElem? h)) g
theorem gm2 {w : Cond} {i : Nat} (h : tables_1_2[i]? = some w) (g : goodWord w = true) : w ∈ GG := gm (List.mem_append_right _ (List.mem_append_left _ (List.mem_of_getElem? h))) g
theorem gm3 {w : Cond} {i : Nat} (h : tables_1_3[i]? = some w) (g : goodWord w = true) : w ∈ GG := gm (List.mem_append_right _ (List.mem_append_right _ (List.mem_append_left _ (List.mem_of_getElem? h)))) g
theorem gm4 {w : Cond} {i : Nat} (h : tables_1_4[i]? = some w) (g : goodWord w = true) : w ∈ GG := gm (List.mem_append_right _ (List.mem_append_right _ (List.mem_append_right _ (List.mem_of_getElem? h)))) g
theorem gpq {q : MethodName × Nat} (h : q ∈ lw_privs) (g : goodWord (Cond.selects q.1.cls q.1 q.1) = true) : Cond.selects q.1.cls q.1 q.1 ∈ GG := List.mem_filter.mpr ⟨List.mem_append_left _ (List.mem_map.mpr ⟨q, h, rfl⟩), g⟩
theorem GG_good {w : Cond} (h : w ∈ GG) : (w.onTables && w.keeps) = true ∨ ∃ ty, w = .arrayClass ty := good_of_word (List.mem_filter.mp h).2
theorem GG_tbl {w : Cond} (h : w ∈ GG) : w ∈ lw_tbl := (List.mem_filter.mp h).1
def wsG (y : MethodName) (b : ByteArray) (n : Nat) (r : Option FieldType) : List Cond := Cond.code y b n r :: GG
theorem goodG {y y1 : MethodName} {b b1 : ByteArray} {n n1 : Nat} {r r1 : Option FieldType} (hc : Cond.code y1 b1 n1 r1 ∈ GG) : GoodIn (wsG y b n r) (wsG y1 b1 n1 r1) := by
  intro w hw
  rcases List.mem_cons.mp hw with rfl | h
  · exact ⟨List.mem_cons_of_mem _ hc, GG_good hc⟩
  · exact ⟨List.mem_cons_of_mem _ h, GG_good h⟩
theorem goodGV {y y1 : MethodName} {b b1 : ByteArray} {n n1 idx : Nat} {r r1 : Option FieldType} {own C : String} (hc : Cond.code y1 b1 n1 r1 ∈ GG) (h1 : Cond.methodLink own idx y1 ∈ GG) (h2 : Cond.instanceMethod y1 ∈ GG) (h3 : Cond.selects C y1 y1 ∈ GG) (h4 : Cond.initialized C ∈ GG) : GoodIn (wsG y b n r) (wsV own idx C y1 (wsG y1 b1 n1 r1)) := by
  intro w hw
  rcases List.mem_append.mp hw with h | h
  · simp only [List.mem_cons, List.not_mem_nil, or_false] at h
    rcases h with rfl | rfl | rfl | rfl
    · exact ⟨List.mem_cons_of_mem _ h1, GG_good h1⟩
    · exact ⟨List.mem_cons_of_mem _ h2, GG_good h2⟩
    · exact ⟨List.mem_cons_of_mem _ h3, GG_good h3⟩
    · exact ⟨List.mem_cons_of_mem _ h4, GG_good h4⟩
  · exact goodG hc w h
theorem goodGS {y y1 : MethodName} {b b1 : ByteArray} {n n1 idx : Nat} {r r1 : Option FieldType} {own : String} (hc : Cond.code y1 b1 n1 r1 ∈ GG) (h1 : Cond.methodLink own idx y1 ∈ GG) (h2 : Cond.static y1 ∈ GG) (h4 : Cond.initialized own ∈ GG) : GoodIn (wsG y b n r) (wsS own idx y1 (wsG y1 b1 n1 r1)) := by
  intro w hw
  rcases List.mem_append.mp hw with h | h
  · simp only [List.mem_cons, List.not_mem_nil, or_false] at h
    rcases h with rfl | rfl | rfl
    · exact ⟨List.mem_cons_of_mem _ h1, GG_good h1⟩
    · exact ⟨List.mem_cons_of_mem _ h2, GG_good h2⟩
    · exact ⟨List.mem_cons_of_mem _ h4, GG_good h4⟩
  · exact goodG hc w h
theorem goodW {y : MethodName} {b : ByteArray} {n : Nat} {r : Option FieldType} {w : Cond} (h : w ∈ GG) : w ∈ wsG y b n r := List.mem_cons_of_mem _ h
theorem lay0 : ∀ k, k < 5 → u_lay RX0 TX0 k ∈ GG := by
  intro k hk
  match k, hk with
  | 0, _ => exact gm1 (i := 149) (by decide +kernel) (by decide +kernel)
  | 1, _ => exact gm1 (i := 151) (by decide +kernel) (by decide +kernel)
  | 2, _ => exact gm1 (i := 153) (by decide +kernel) (by decide +kernel)
  | 3, _ => exact gm1 (i := 155) (by decide +kernel) (by decide +kernel)
  | 4, _ => exact gm1 (i := 157) (by decide +kernel) (by decide +kernel)
  | k + 5, h => exact absurd h (by omega)
theorem inG0 {y : MethodName} {b : ByteArray} {n : Nat} {r : Option FieldType} : ∀ w ∈ wsX00, w ∈ wsG y b n r := by
  intro w hw
  obtain ⟨k, hk, rfl⟩ := List.mem_map.mp hw
  exact goodW (lay0 k (List.mem_range.mp hk))
theorem lay1 : ∀ k, k < 9 → u_lay RX1 TX1 k ∈ GG := by
  intro k hk
  match k, hk with
  | 0, _ => exact gm1 (i := 86) (by decide +kernel) (by decide +kernel)
  | 1, _ => exact gm1 (i := 88) (by decide +kernel) (by decide +kernel)
  | 2, _ => exact gm1 (i := 90) (by decide +kernel) (by decide +kernel)
  | 3, _ => exact gm1 (i := 92) (by decide +kernel) (by decide +kernel)
  | 4, _ => exact gm1 (i := 94) (by decide +kernel) (by decide +kernel)
  | 5, _ => exact gm1 (i := 96) (by decide +kernel) (by decide +kernel)
  | 6, _ => exact gm1 (i := 98) (by decide +kernel) (by decide +kernel)
  | 7, _ => exact gm1 (i := 100) (by decide +kernel) (by decide +kernel)
  | 8, _ => exact gm1 (i := 102) (by decide +kernel) (by decide +kernel)
  | k + 9, h => exact absurd h (by omega)
theorem inG1 {y : MethodName} {b : ByteArray} {n : Nat} {r : Option FieldType} : ∀ w ∈ wsX10, w ∈ wsG y b n r := by
  intro w hw
  obtain ⟨k, hk, rfl⟩ := List.mem_map.mp hw
  exact goodW (lay1 k (List.mem_range.mp hk))
theorem lay2 : ∀ k, k < 10 → u_lay RX2 TX2 k ∈ GG := by
  intro k hk
  match k, hk with
  | 0, _ => exact gm1 (i := 49) (by decide +kernel) (by decide +kernel)
  | 1, _ => exact gm1 (i := 51) (by decide +kernel) (by decide +kernel)
  | 2, _ => exact gm1 (i := 53) (by decide +kernel) (by decide +kernel)
  | 3, _ => exact gm1 (i := 55) (by decide +kernel) (by decide +kernel)
  | 4, _ => exact gm1 (i := 57) (by decide +kernel) (by decide +kernel)
  | 5, _ => exact gm1 (i := 59) (by decide +kernel) (by decide +kernel)
  | 6, _ => exact gm1 (i := 61) (by decide +kernel) (by decide +kernel)
  | 7, _ => exact gm1 (i := 63) (by decide +kernel) (by decide +kernel)
  | 8, _ => exact gm1 (i := 65) (by decide +kernel) (by decide +kernel)
  | 9, _ => exact gm1 (i := 67) (by decide +kernel) (by decide +kernel)
  | k + 10, h => exact absurd h (by omega)
theorem inG2 {y : MethodName} {b : ByteArray} {n : Nat} {r : Option FieldType} : ∀ w ∈ wsX20, w ∈ wsG y b n r := by
  intro w hw
  obtain ⟨k, hk, rfl⟩ := List.mem_map.mp hw
  exact goodW (lay2 k (List.mem_range.mp hk))
theorem lay3 : ∀ k, k < 3 → u_lay RX3 TX3 k ∈ GG := by
  intro k hk
  match k, hk with
  | 0, _ => exact gm1 (i := 131) (by decide +kernel) (by decide +kernel)
  | 1, _ => exact gm1 (i := 133) (by decide +kernel) (by decide +kernel)
  | 2, _ => exact gm1 (i := 135) (by decide +kernel) (by decide +kernel)
  | k + 3, h => exact absurd h (by omega)
theorem inG3 {y : MethodName} {b : ByteArray} {n : Nat} {r : Option FieldType} : ∀ w ∈ wsX30, w ∈ wsG y b n r := by
  intro w hw
  obtain ⟨k, hk, rfl⟩ := List.mem_map.mp hw
  exact goodW (lay3 k (List.mem_range.mp hk))
theorem lay4 : ∀ k, k < 8 → u_lay RX4 TX4 k ∈ GG := by
  intro k hk
  match k, hk with
  | 0, _ => exact gm1 (i := 169) (by decide +kernel) (by decide +kernel)
  | 1, _ => exact gm1 (i := 171) (by decide +kernel) (by decide +kernel)
  | 2, _ => exact gm1 (i := 173) (by decide +kernel) (by decide +kernel)
  | 3, _ => exact gm1 (i := 175) (by decide +kernel) (by decide +kernel)
  | 4, _ => exact gm1 (i := 177) (by decide +kernel) (by decide +kernel)
  | 5, _ => exact gm1 (i := 179) (by decide +kernel) (by decide +kernel)
  | 6, _ => exact gm1 (i := 181) (by decide +kernel) (by decide +kernel)
  | 7, _ => exact gm1 (i := 183) (by decide +kernel) (by decide +kernel)
  | k + 8, h => exact absurd h (by omega)
theorem inG4 {y : MethodName} {b : ByteArray} {n : Nat} {r : Option FieldType} : ∀ w ∈ wsX40, w ∈ wsG y b n r := by
  intro w hw
  obtain ⟨k, hk, rfl⟩ := List.mem_map.mp hw
  exact goodW (lay4 k (List.mem_range.mp hk))
theorem lay5 : ∀ k, k < 2 → u_lay RX5 TX5 k ∈ GG := by
  intro k hk
  match k, hk with
  | 0, _ => exact gm1 (i := 27) (by decide +kernel) (by decide +kernel)
  | 1, _ => exact gm1 (i := 29) (by decide +kernel) (by decide +kernel)
  | k + 2, h => exact absurd h (by omega)
theorem inG5 {y : MethodName} {b : ByteArray} {n : Nat} {r : Option FieldType} : ∀ w ∈ wsX50, w ∈ wsG y b n r := by
  intro w hw
  obtain ⟨k, hk, rfl⟩ := List.mem_map.mp hw
  exact goodW (lay5 k (List.mem_range.mp hk))
theorem lay6 : ∀ k, k < 7 → u_lay RX6 TX6 k ∈ GG := by
  intro k hk
  match k, hk with
  | 0, _ => exact gm1 (i := 195) (by decide +kernel) (by decide +kernel)
  | 1, _ => exact gm1 (i := 197) (by decide +kernel) (by decide +kernel)
  | 2, _ => exact gm1 (i := 199) (by decide +kernel) (by decide +kernel)
  | 3, _ => exact gm1 (i := 201) (by decide +kernel) (by decide +kernel)
  | 4, _ => exact gm1 (i := 203) (by decide +kernel) (by decide +kernel)
  | 5, _ => exact gm1 (i := 205) (by decide +kernel) (by decide +kernel)
  | 6, _ => exact gm1 (i := 207) (by decide +kernel) (by decide +kernel)
  | k + 7, h => exact absurd h (by omega)
theorem inG6 {y : MethodName} {b : ByteArray} {n : Nat} {r : Option FieldType} : ∀ w ∈ wsX60, w ∈ wsG y b n r := by
  intro w hw
  obtain ⟨k, hk, rfl⟩ := List.mem_map.mp hw
  exact goodW (lay6 k (List.mem_range.mp hk))
theorem lay7 : ∀ k, k < 45 → u_lay RX7 TX7 k ∈ GG := by
  intro k hk
  match k, hk with
  | 0, _ => exact gm3 (i := 174) (by decide +kernel) (by decide +kernel)
  | 1, _ => exact gm3 (i := 176) (by decide +kernel) (by decide +kernel)
  | 2, _ => exact gm3 (i := 178) (by decide +kernel) (by decide +kernel)
  | 3, _ => exact gm3 (i := 180) (by decide +kernel) (by decide +kernel)
  | 4, _ => exact gm3 (i := 182) (by decide +kernel) (by decide +kernel)
  | 5, _ => exact gm3 (i := 184) (by decide +kernel) (by decide +kernel)
  | 6, _ => exact gm3 (i := 186) (by decide +kernel) (by decide +kernel)
  | 7, _ => exact gm3 (i := 188) (by decide +kernel) (by decide +kernel)
  | 8, _ => exact gm3 (i := 190) (by decide +kernel) (by decide +kernel)
  | 9, _ => exact gm3 (i := 192) (by decide +kernel) (by decide +kernel)
  | 10, _ => exact gm3 (i := 194) (by decide +kernel) (by decide +kernel)
  | 11, _ => exact gm3 (i := 196) (by decide +kernel) (by decide +kernel)
  | 12, _ => exact gm3 (i := 198) (by decide +kernel) (by decide +kernel)
  | 13, _ => exact gm3 (i := 200) (by decide +kernel) (by decide +kernel)
  | 14, _ => exact gm3 (i := 202) (by decide +kernel) (by decide +kernel)
  | 15, _ => exact gm3 (i := 204) (by decide +kernel) (by decide +kernel)
  | 16, _ => exact gm3 (i := 206) (by decide +kernel) (by decide +kernel)
  | 17, _ => exact gm3 (i := 208) (by decide +kernel) (by decide +kernel)
  | 18, _ => exact gm3 (i := 210) (by decide +kernel) (by decide +kernel)
  | 19, _ => exact gm3 (i := 212) (by decide +kernel) (by decide +kernel)
  | 20, _ => exact gm3 (i := 214) (by decide +kernel) (by decide +kernel)
  | 21, _ => exact gm3 (i := 216) (by decide +kernel) (by decide +kernel)
  | 22, _ => exact gm3 (i := 218) (by decide +kernel) (by decide +kernel)
  | 23, _ => exact gm3 (i := 220) (by decide +kernel) (by decide +kernel)
  | 24, _ => exact gm3 (i := 222) (by decide +kernel) (by decide +kernel)
  | 25, _ => exact gm3 (i := 224) (by decide +kernel) (by decide +kernel)
  | 26, _ => exact gm3 (i := 226) (by decide +kernel) (by decide +kernel)
  | 27, _ => exact gm3 (i := 228) (by decide +kernel) (by decide +kernel)
  | 28, _ => exact gm3 (i := 230) (by decide +kernel) (by decide +kernel)
  | 29, _ => exact gm3 (i := 232) (by decide +kernel) (by decide +kernel)
  | 30, _ => exact gm3 (i := 234) (by decide +kernel) (by decide +kernel)
  | 31, _ => exact gm3 (i := 236) (by decide +kernel) (by decide +kernel)
  | 32, _ => exact gm3 (i := 238) (by decide +kernel) (by decide +kernel)
  | 33, _ => exact gm4 (i := 0) (by decide +kernel) (by decide +kernel)
  | 34, _ => exact gm4 (i := 2) (by decide +kernel) (by decide +kernel)
  | 35, _ => exact gm4 (i := 4) (by decide +kernel) (by decide +kernel)
  | 36, _ => exact gm4 (i := 6) (by decide +kernel) (by decide +kernel)
  | 37, _ => exact gm4 (i := 8) (by decide +kernel) (by decide +kernel)
  | 38, _ => exact gm4 (i := 10) (by decide +kernel) (by decide +kernel)
  | 39, _ => exact gm4 (i := 12) (by decide +kernel) (by decide +kernel)
  | 40, _ => exact gm4 (i := 14) (by decide +kernel) (by decide +kernel)
  | 41, _ => exact gm4 (i := 16) (by decide +kernel) (by decide +kernel)
  | 42, _ => exact gm4 (i := 18) (by decide +kernel) (by decide +kernel)
  | 43, _ => exact gm4 (i := 20) (by decide +kernel) (by decide +kernel)
  | 44, _ => exact gm4 (i := 22) (by decide +kernel) (by decide +kernel)
  | k + 45, h => exact absurd h (by omega)
theorem inG7 {y : MethodName} {b : ByteArray} {n : Nat} {r : Option FieldType} : ∀ w ∈ wsX70, w ∈ wsG y b n r := by
  intro w hw
  obtain ⟨k, hk, rfl⟩ := List.mem_map.mp hw
  exact goodW (lay7 k (List.mem_range.mp hk))
