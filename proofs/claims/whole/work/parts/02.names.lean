/-! names of classes, fields, methods; the words of the tables, by their places -/
def RX0 : String := "PageTurns$Breaks"
def TX0 : u_T := fun k => match k with
  | 0 => ("PageTurns$Breaks", "kinds", "[I", true)
  | 1 => ("PageTurns$Breaks", "parts", "[I", true)
  | 2 => ("PageTurns$Breaks", "bars", "[I", true)
  | 3 => ("PageTurns$Breaks", "number", "I", false)
  | _ => ("PageTurns$Breaks", "spots", "[I", true)
def tyX0 : Nat → FieldType := fun k => match k with
  | 0 => .array .int
  | 1 => .array .int
  | 2 => .array .int
  | 3 => .int
  | _ => .array .int
theorem nmX0 : ∀ a, a < 5 → ∀ b, b < 5 → a ≠ b → (TX0 a).2.1 ≠ (TX0 b).2.1 := by decide +kernel
theorem tyX0_ok : ∀ k, k < 5 → parseFieldDescriptor (TX0 k).2.2.1 = some (tyX0 k) := by decide +kernel
abbrev cX0_init : ByteArray := prog_2_method_1_code
def yX0_init : MethodName := ⟨RX0, "<init>", "()V"⟩
abbrev cX0_has : ByteArray := prog_2_method_2_code
def yX0_has : MethodName := ⟨RX0, "has", "(I)Z"⟩
abbrev cX0_become : ByteArray := prog_2_method_3_code
def yX0_become : MethodName := ⟨RX0, "become", "(LPageTurns$Breaks;)V"⟩
abbrev cX0_add : ByteArray := prog_2_method_4_code
def yX0_add : MethodName := ⟨RX0, "add", "(III)I"⟩
abbrev cX0_ofPart : ByteArray := prog_2_method_5_code
def yX0_ofPart : MethodName := ⟨RX0, "ofPart", "(I)I"⟩
abbrev cX0_dropPart : ByteArray := prog_2_method_6_code
def yX0_dropPart : MethodName := ⟨RX0, "dropPart", "(I)I"⟩
abbrev cX0_renumberSpots : ByteArray := prog_2_method_7_code
def yX0_renumberSpots : MethodName := ⟨RX0, "renumberSpots", "(II)V"⟩
abbrev cX0_heldSpots : ByteArray := prog_2_method_8_code
def yX0_heldSpots : MethodName := ⟨RX0, "heldSpots", "()I"⟩
abbrev cX0_isUnder : ByteArray := prog_2_method_9_code
def yX0_isUnder : MethodName := ⟨RX0, "isUnder", "(II)Z"⟩
def RX1 : String := "PageTurns$Engraver"
def TX1 : u_T := fun k => match k with
  | 0 => ("PageTurns$Engraver", "lines", "LPageTurns$LineTable;", true)
  | 1 => ("PageTurns$Engraver", "ease", "[I", true)
  | 2 => ("PageTurns$Engraver", "starts", "[I", true)
  | 3 => ("PageTurns$Engraver", "worths", "[J", true)
  | 4 => ("PageTurns$Engraver", "pageEnds", "[B", true)
  | 5 => ("PageTurns$Engraver", "turning", "I", false)
  | 6 => ("PageTurns$Engraver", "need", "I", false)
  | _ => ("PageTurns$Engraver", "paper", "I", false)
def tyX1 : Nat → FieldType := fun k => match k with
  | 0 => .object "PageTurns$LineTable"
  | 1 => .array .int
  | 2 => .array .int
  | 3 => .array .long
  | 4 => .array .byte
  | 5 => .int
  | 6 => .int
  | _ => .int
theorem nmX1 : ∀ a, a < 8 → ∀ b, b < 8 → a ≠ b → (TX1 a).2.1 ≠ (TX1 b).2.1 := by decide +kernel
theorem tyX1_ok : ∀ k, k < 8 → parseFieldDescriptor (TX1 k).2.2.1 = some (tyX1 k) := by decide +kernel
abbrev cX1_init : ByteArray := prog_3_method_1_code
def yX1_init : MethodName := ⟨RX1, "<init>", "()V"⟩
abbrev cX1_findEase : ByteArray := prog_3_method_2_code
def yX1_findEase : MethodName := ⟨RX1, "findEase", "(LPageTurns$State;II)V"⟩
abbrev cX1_flows : ByteArray := prog_3_method_3_code
def yX1_flows : MethodName := ⟨RX1, "flows", "(LPageTurns$PageTable;II)Z"⟩
abbrev cX1_followingSet : ByteArray := prog_3_method_4_code
def yX1_followingSet : MethodName := ⟨RX1, "followingSet", "(I)I"⟩
abbrev cX1_following : ByteArray := prog_3_method_5_code
def yX1_following : MethodName := ⟨RX1, "following", "(I)I"⟩
abbrev cX1_weigh : ByteArray := prog_3_method_6_code
def yX1_weigh : MethodName := ⟨RX1, "weigh", "(LPageTurns$PageTable;I[I)V"⟩
abbrev cX1_takeBetter : ByteArray := prog_3_method_7_code
def yX1_takeBetter : MethodName := ⟨RX1, "takeBetter", "(LPageTurns$PageTable;II)V"⟩
abbrev cX1_turnOf : ByteArray := prog_3_method_8_code
def yX1_turnOf : MethodName := ⟨RX1, "turnOf", "(LPageTurns$PageTable;II)I"⟩
abbrev cX1_layOut : ByteArray := prog_3_method_9_code
def yX1_layOut : MethodName := ⟨RX1, "layOut", "(LPageTurns$Part;[ILPageTurns$PageTable;LPageTurns$Laying;)V"⟩
abbrev cX1_addLines : ByteArray := prog_3_method_10_code
def yX1_addLines : MethodName := ⟨RX1, "addLines", "(IIILPageTurns$Laying;)V"⟩
def RX2 : String := "PageTurns$Laying"
def TX2 : u_T := fun k => match k with
  | 0 => ("PageTurns$Laying", "pages", "I", false)
  | 1 => ("PageTurns$Laying", "lines", "I", false)
  | 2 => ("PageTurns$Laying", "stops", "I", false)
  | 3 => ("PageTurns$Laying", "turns", "I", false)
  | 4 => ("PageTurns$Laying", "cost", "I", false)
  | 5 => ("PageTurns$Laying", "isFresh", "Z", false)
  | 6 => ("PageTurns$Laying", "first", "[I", true)
  | 7 => ("PageTurns$Laying", "last", "[I", true)
  | 8 => ("PageTurns$Laying", "size", "[I", true)
  | 9 => ("PageTurns$Laying", "linesOn", "[I", true)
  | 10 => ("PageTurns$Laying", "costOf", "[I", true)
  | 11 => ("PageTurns$Laying", "lineEnd", "[I", true)
  | _ => ("PageTurns$Laying", "turnBehind", "[I", true)
def tyX2 : Nat → FieldType := fun k => match k with
  | 0 => .int
  | 1 => .int
  | 2 => .int
  | 3 => .int
  | 4 => .int
  | 5 => .boolean
  | 6 => .array .int
  | 7 => .array .int
  | 8 => .array .int
  | 9 => .array .int
  | 10 => .array .int
  | 11 => .array .int
  | _ => .array .int
theorem nmX2 : ∀ a, a < 13 → ∀ b, b < 13 → a ≠ b → (TX2 a).2.1 ≠ (TX2 b).2.1 := by decide +kernel
theorem tyX2_ok : ∀ k, k < 13 → parseFieldDescriptor (TX2 k).2.2.1 = some (tyX2 k) := by decide +kernel
abbrev cX2_init : ByteArray := prog_4_method_1_code
def yX2_init : MethodName := ⟨RX2, "<init>", "()V"⟩
abbrev cX2_isNone : ByteArray := prog_4_method_2_code
def yX2_isNone : MethodName := ⟨RX2, "isNone", "()Z"⟩
abbrev cX2_begin : ByteArray := prog_4_method_3_code
def yX2_begin : MethodName := ⟨RX2, "begin", "()V"⟩
abbrev cX2_addPage : ByteArray := prog_4_method_4_code
def yX2_addPage : MethodName := ⟨RX2, "addPage", "(IIIII)V"⟩
abbrev cX2_addLine : ByteArray := prog_4_method_5_code
def yX2_addLine : MethodName := ⟨RX2, "addLine", "(I)V"⟩
abbrev cX2_addTurn : ByteArray := prog_4_method_6_code
def yX2_addTurn : MethodName := ⟨RX2, "addTurn", "(II)V"⟩
abbrev cX2_ofPage : ByteArray := prog_4_method_7_code
def yX2_ofPage : MethodName := ⟨RX2, "ofPage", "(II)I"⟩
abbrev cX2_barOfStop : ByteArray := prog_4_method_8_code
def yX2_barOfStop : MethodName := ⟨RX2, "barOfStop", "(I)I"⟩
def RX3 : String := "PageTurns$LineTable"
def TX3 : u_T := fun k => match k with
  | 0 => ("PageTurns$LineTable", "costs", "[I", true)
  | 1 => ("PageTurns$LineTable", "widest", "[I", true)
  | _ => ("PageTurns$LineTable", "cheapest", "[I", true)
def tyX3 : Nat → FieldType := fun k => match k with
  | 0 => .array .int
  | 1 => .array .int
  | _ => .array .int
theorem nmX3 : ∀ a, a < 3 → ∀ b, b < 3 → a ≠ b → (TX3 a).2.1 ≠ (TX3 b).2.1 := by decide +kernel
theorem tyX3_ok : ∀ k, k < 3 → parseFieldDescriptor (TX3 k).2.2.1 = some (tyX3 k) := by decide +kernel
abbrev cX3_init : ByteArray := prog_5_method_1_code
def yX3_init : MethodName := ⟨RX3, "<init>", "()V"⟩
abbrev cX3_fill : ByteArray := prog_5_method_2_code
def yX3_fill : MethodName := ⟨RX3, "fill", "(LPageTurns$Part;[IIII)V"⟩
abbrev cX3_fillFrom : ByteArray := prog_5_method_3_code
def yX3_fillFrom : MethodName := ⟨RX3, "fillFrom", "(LPageTurns$Part;[IIII)V"⟩
abbrev cX3_fits : ByteArray := prog_5_method_4_code
def yX3_fits : MethodName := ⟨RX3, "fits", "(II)Z"⟩
abbrev cX3_costOf : ByteArray := prog_5_method_5_code
def yX3_costOf : MethodName := ⟨RX3, "costOf", "(II)I"⟩
abbrev cX3_fillPages : ByteArray := prog_5_method_6_code
def yX3_fillPages : MethodName := ⟨RX3, "fillPages", "(III)V"⟩
abbrev cX3_cheapestFrom : ByteArray := prog_5_method_7_code
def yX3_cheapestFrom : MethodName := ⟨RX3, "cheapestFrom", "(III)I"⟩
abbrev cX3_pageCost : ByteArray := prog_5_method_8_code
def yX3_pageCost : MethodName := ⟨RX3, "pageCost", "(II)I"⟩
abbrev cX3_firstLineEnd : ByteArray := prog_5_method_9_code
def yX3_firstLineEnd : MethodName := ⟨RX3, "firstLineEnd", "(III)I"⟩
def RX4 : String := "PageTurns$PageTable"
def TX4 : u_T := fun k => match k with
  | 0 => ("PageTurns$PageTable", "leasts", "[I", true)
  | 1 => ("PageTurns$PageTable", "bars", "I", false)
  | _ => ("PageTurns$PageTable", "isFresh", "Z", false)
def tyX4 : Nat → FieldType := fun k => match k with
  | 0 => .array .int
  | 1 => .int
  | _ => .boolean
theorem nmX4 : ∀ a, a < 3 → ∀ b, b < 3 → a ≠ b → (TX4 a).2.1 ≠ (TX4 b).2.1 := by decide +kernel
theorem tyX4_ok : ∀ k, k < 3 → parseFieldDescriptor (TX4 k).2.2.1 = some (tyX4 k) := by decide +kernel
abbrev cX4_init : ByteArray := prog_6_method_1_code
def yX4_init : MethodName := ⟨RX4, "<init>", "()V"⟩
abbrev cX4_fill : ByteArray := prog_6_method_2_code
def yX4_fill : MethodName := ⟨RX4, "fill", "(LPageTurns$Part;[ILPageTurns$LineTable;)V"⟩
abbrev cX4_takeCheaper : ByteArray := prog_6_method_3_code
def yX4_takeCheaper : MethodName := ⟨RX4, "takeCheaper", "(LPageTurns$LineTable;III)V"⟩
abbrev cX4_hasPage : ByteArray := prog_6_method_4_code
def yX4_hasPage : MethodName := ⟨RX4, "hasPage", "(II)Z"⟩
abbrev cX4_costOf : ByteArray := prog_6_method_5_code
def yX4_costOf : MethodName := ⟨RX4, "costOf", "(II)I"⟩
abbrev cX4_sizeOf : ByteArray := prog_6_method_6_code
def yX4_sizeOf : MethodName := ⟨RX4, "sizeOf", "(II)I"⟩
def RX5 : String := "PageTurns$Part"
def TX5 : u_T := fun k => match k with
  | 0 => ("PageTurns$Part", "traits", "[I", true)
  | 1 => ("PageTurns$Part", "facts", "[I", true)
  | _ => ("PageTurns$Part", "bars", "I", false)
def tyX5 : Nat → FieldType := fun k => match k with
  | 0 => .array .int
  | 1 => .array .int
  | _ => .int
theorem nmX5 : ∀ a, a < 3 → ∀ b, b < 3 → a ≠ b → (TX5 a).2.1 ≠ (TX5 b).2.1 := by decide +kernel
theorem tyX5_ok : ∀ k, k < 3 → parseFieldDescriptor (TX5 k).2.2.1 = some (tyX5 k) := by decide +kernel
abbrev cX5_init : ByteArray := prog_7_method_1_code
def yX5_init : MethodName := ⟨RX5, "<init>", "()V"⟩
abbrev cX5_has : ByteArray := prog_7_method_2_code
def yX5_has : MethodName := ⟨RX5, "has", "(I)Z"⟩
abbrev cX5_fact : ByteArray := prog_7_method_3_code
def yX5_fact : MethodName := ⟨RX5, "fact", "(II)I"⟩
abbrev cX5_put : ByteArray := prog_7_method_4_code
def yX5_put : MethodName := ⟨RX5, "put", "(III)V"⟩
abbrev cX5_isMarked : ByteArray := prog_7_method_5_code
def yX5_isMarked : MethodName := ⟨RX5, "isMarked", "(II)Z"⟩
abbrev cX5_become : ByteArray := prog_7_method_6_code
def yX5_become : MethodName := ⟨RX5, "become", "(LPageTurns$Part;)V"⟩
abbrev cX5_append : ByteArray := prog_7_method_7_code
def yX5_append : MethodName := ⟨RX5, "append", "([II)Z"⟩
abbrev cX5_drop : ByteArray := prog_7_method_8_code
def yX5_drop : MethodName := ⟨RX5, "drop", "(II)V"⟩
abbrev cX5_mayEndLine : ByteArray := prog_7_method_9_code
def yX5_mayEndLine : MethodName := ⟨RX5, "mayEndLine", "(I)Z"⟩
abbrev cX5_roomAt : ByteArray := prog_7_method_10_code
def yX5_roomAt : MethodName := ⟨RX5, "roomAt", "(II)I"⟩
abbrev cX5_roomFromTo : ByteArray := prog_7_method_11_code
def yX5_roomFromTo : MethodName := ⟨RX5, "roomFromTo", "(II)I"⟩
abbrev cX5_freeBehind : ByteArray := prog_7_method_12_code
def yX5_freeBehind : MethodName := ⟨RX5, "freeBehind", "(II)I"⟩
abbrev cX5_freeBeats : ByteArray := prog_7_method_13_code
def yX5_freeBeats : MethodName := ⟨RX5, "freeBeats", "(III)I"⟩
def RX6 : String := "PageTurns$Sheet"
def TX6 : u_T := fun k => match k with
  | 0 => ("PageTurns$Sheet", "numbers", "[I", true)
  | 1 => ("PageTurns$Sheet", "bits", "I", false)
  | _ => ("PageTurns$Sheet", "length", "I", false)
def tyX6 : Nat → FieldType := fun k => match k with
  | 0 => .array .int
  | 1 => .int
  | _ => .int
theorem nmX6 : ∀ a, a < 3 → ∀ b, b < 3 → a ≠ b → (TX6 a).2.1 ≠ (TX6 b).2.1 := by decide +kernel
theorem tyX6_ok : ∀ k, k < 3 → parseFieldDescriptor (TX6 k).2.2.1 = some (tyX6 k) := by decide +kernel
abbrev cX6_init : ByteArray := prog_8_method_1_code
def yX6_init : MethodName := ⟨RX6, "<init>", "()V"⟩
abbrev cX6_isMissing : ByteArray := prog_8_method_2_code
def yX6_isMissing : MethodName := ⟨RX6, "isMissing", "()Z"⟩
abbrev cX6_renew : ByteArray := prog_8_method_3_code
def yX6_renew : MethodName := ⟨RX6, "renew", "(II)I"⟩
abbrev cX6_put : ByteArray := prog_8_method_4_code
def yX6_put : MethodName := ⟨RX6, "put", "(II)Z"⟩
abbrev cX6_hasStretch : ByteArray := prog_8_method_5_code
def yX6_hasStretch : MethodName := ⟨RX6, "hasStretch", "(II)Z"⟩
def RX7 : String := "PageTurns$State"
def TX7 : u_T := fun k => match k with
  | 0 => ("PageTurns$State", "parts", "[LPageTurns$Part;", true)
  | 1 => ("PageTurns$State", "rules", "[I", true)
  | _ => ("PageTurns$State", "breaks", "LPageTurns$Breaks;", true)
def tyX7 : Nat → FieldType := fun k => match k with
  | 0 => .array (.object "PageTurns$Part")
  | 1 => .array .int
  | _ => .object "PageTurns$Breaks"
theorem nmX7 : ∀ a, a < 3 → ∀ b, b < 3 → a ≠ b → (TX7 a).2.1 ≠ (TX7 b).2.1 := by decide +kernel
theorem tyX7_ok : ∀ k, k < 3 → parseFieldDescriptor (TX7 k).2.2.1 = some (tyX7 k) := by decide +kernel
abbrev cX7_init : ByteArray := prog_9_method_1_code
def yX7_init : MethodName := ⟨RX7, "<init>", "()V"⟩
abbrev cX7_become : ByteArray := prog_9_method_2_code
def yX7_become : MethodName := ⟨RX7, "become", "(LPageTurns$State;)V"⟩
abbrev cX7_barsInAll : ByteArray := prog_9_method_3_code
def yX7_barsInAll : MethodName := ⟨RX7, "barsInAll", "()I"⟩
abbrev cX7_neighbourFree : ByteArray := prog_9_method_4_code
def yX7_neighbourFree : MethodName := ⟨RX7, "neighbourFree", "(II)I"⟩
abbrev cX7_mayBreak : ByteArray := prog_9_method_5_code
def yX7_mayBreak : MethodName := ⟨RX7, "mayBreak", "(III)Z"⟩
abbrev cX7_priceOf : ByteArray := prog_9_method_6_code
def yX7_priceOf : MethodName := ⟨RX7, "priceOf", "(III)I"⟩
abbrev cX7_firstWrong : ByteArray := prog_9_method_7_code
def yX7_firstWrong : MethodName := ⟨RX7, "firstWrong", "(I)I"⟩
def RX8 : String := "PageTurns$Tape"
def TX8 : u_T := fun k => match k with
  | 0 => ("PageTurns$Tape", "bytes", "[B", true)
  | 1 => ("PageTurns$Tape", "length", "I", false)
  | 2 => ("PageTurns$Tape", "kinds", "[I", true)
  | 3 => ("PageTurns$Tape", "starts", "[I", true)
  | 4 => ("PageTurns$Tape", "values", "[I", true)
  | _ => ("PageTurns$Tape", "tokens", "I", false)
def tyX8 : Nat → FieldType := fun k => match k with
  | 0 => .array .byte
  | 1 => .int
  | 2 => .array .int
  | 3 => .array .int
  | 4 => .array .int
  | _ => .int
theorem nmX8 : ∀ a, a < 6 → ∀ b, b < 6 → a ≠ b → (TX8 a).2.1 ≠ (TX8 b).2.1 := by decide +kernel
theorem tyX8_ok : ∀ k, k < 6 → parseFieldDescriptor (TX8 k).2.2.1 = some (tyX8 k) := by decide +kernel
abbrev cX8_init : ByteArray := prog_10_method_1_code
def yX8_init : MethodName := ⟨RX8, "<init>", "()V"⟩
abbrev cX8_hasRoomFor : ByteArray := prog_10_method_2_code
def yX8_hasRoomFor : MethodName := ⟨RX8, "hasRoomFor", "(I)Z"⟩
abbrev cX8_put : ByteArray := prog_10_method_3_code
def yX8_put : MethodName := ⟨RX8, "put", "(I)V"⟩
abbrev cX8_known : ByteArray := prog_10_method_4_code
def yX8_known : MethodName := ⟨RX8, "known", "(I)I"⟩
abbrev cX8_kindOf : ByteArray := prog_10_method_5_code
def yX8_kindOf : MethodName := ⟨RX8, "kindOf", "(I)I"⟩
abbrev cX8_startOf : ByteArray := prog_10_method_6_code
def yX8_startOf : MethodName := ⟨RX8, "startOf", "(I)I"⟩
abbrev cX8_valueOf : ByteArray := prog_10_method_7_code
def yX8_valueOf : MethodName := ⟨RX8, "valueOf", "(I)I"⟩
abbrev cX8_split : ByteArray := prog_10_method_8_code
def yX8_split : MethodName := ⟨RX8, "split", "()V"⟩
abbrev cX8_behindToken : ByteArray := prog_10_method_9_code
def yX8_behindToken : MethodName := ⟨RX8, "behindToken", "(I)I"⟩
abbrev cX8_addToken : ByteArray := prog_10_method_10_code
def yX8_addToken : MethodName := ⟨RX8, "addToken", "(II)V"⟩
abbrev cX8_isLetter : ByteArray := prog_10_method_11_code
def yX8_isLetter : MethodName := ⟨RX8, "isLetter", "(I)Z"⟩
abbrev cX8_isDigit : ByteArray := prog_10_method_12_code
def yX8_isDigit : MethodName := ⟨RX8, "isDigit", "(I)Z"⟩
abbrev cX8_numberValue : ByteArray := prog_10_method_13_code
def yX8_numberValue : MethodName := ⟨RX8, "numberValue", "(II)I"⟩
abbrev cX8_wordNumber : ByteArray := prog_10_method_14_code
def yX8_wordNumber : MethodName := ⟨RX8, "wordNumber", "(II)I"⟩
abbrev cX8_spells : ByteArray := prog_10_method_15_code
def yX8_spells : MethodName := ⟨RX8, "spells", "(IILjava/lang/String;)Z"⟩
def RX9 : String := "PageTurns$TextReader"
def TX9 : u_T := fun k => match k with
  | 0 => ("PageTurns$TextReader", "tape", "LPageTurns$Tape;", true)
  | 1 => ("PageTurns$TextReader", "at", "I", false)
  | 2 => ("PageTurns$TextReader", "facts", "[I", true)
  | 3 => ("PageTurns$TextReader", "bars", "I", false)
  | 4 => ("PageTurns$TextReader", "isOver", "Z", false)
  | 5 => ("PageTurns$TextReader", "open", "I", false)
  | 6 => ("PageTurns$TextReader", "times", "[I", true)
  | _ => ("PageTurns$TextReader", "firstBar", "[I", true)
def tyX9 : Nat → FieldType := fun k => match k with
  | 0 => .object "PageTurns$Tape"
  | 1 => .int
  | 2 => .array .int
  | 3 => .int
  | 4 => .boolean
  | 5 => .int
  | 6 => .array .int
  | _ => .array .int
theorem nmX9 : ∀ a, a < 8 → ∀ b, b < 8 → a ≠ b → (TX9 a).2.1 ≠ (TX9 b).2.1 := by decide +kernel
theorem tyX9_ok : ∀ k, k < 8 → parseFieldDescriptor (TX9 k).2.2.1 = some (tyX9 k) := by decide +kernel
abbrev cX9_init : ByteArray := prog_11_method_1_code
def yX9_init : MethodName := ⟨RX9, "<init>", "()V"⟩
abbrev cX9_findFault : ByteArray := prog_11_method_2_code
def yX9_findFault : MethodName := ⟨RX9, "findFault", "()I"⟩
abbrev cX9_takeOpening : ByteArray := prog_11_method_3_code
def yX9_takeOpening : MethodName := ⟨RX9, "takeOpening", "()Z"⟩
abbrev cX9_takeClosing : ByteArray := prog_11_method_4_code
def yX9_takeClosing : MethodName := ⟨RX9, "takeClosing", "()Z"⟩
abbrev cX9_repeatLast : ByteArray := prog_11_method_5_code
def yX9_repeatLast : MethodName := ⟨RX9, "repeatLast", "(I)V"⟩
abbrev cX9_takeBar : ByteArray := prog_11_method_6_code
def yX9_takeBar : MethodName := ⟨RX9, "takeBar", "()Z"⟩
abbrev cX9_takeMarks : ByteArray := prog_11_method_7_code
def yX9_takeMarks : MethodName := ⟨RX9, "takeMarks", "()I"⟩
abbrev cX9_addBar : ByteArray := prog_11_method_8_code
def yX9_addBar : MethodName := ⟨RX9, "addBar", "(IIII)V"⟩
abbrev cX9_isNumber : ByteArray := prog_11_method_9_code
def yX9_isNumber : MethodName := ⟨RX9, "isNumber", "(II)Z"⟩
abbrev cX9_isWord : ByteArray := prog_11_method_10_code
def yX9_isWord : MethodName := ⟨RX9, "isWord", "(I)Z"⟩
def RX10 : String := "PageTurns"
def TX10 : u_T := fun k => match k with
  | 0 => ("PageTurns", "now", "LPageTurns$State;", true)
  | 1 => ("PageTurns", "kept", "LPageTurns$State;", true)
  | 2 => ("PageTurns", "isKept", "Z", false)
  | 3 => ("PageTurns", "reader", "LPageTurns$TextReader;", true)
  | 4 => ("PageTurns", "sheets", "[LPageTurns$Sheet;", true)
  | 5 => ("PageTurns", "tables", "[LPageTurns$PageTable;", true)
  | 6 => ("PageTurns", "layings", "[LPageTurns$Laying;", true)
  | 7 => ("PageTurns", "engraver", "LPageTurns$Engraver;", true)
  | _ => ("PageTurns", "told", "[I", true)
def tyX10 : Nat → FieldType := fun k => match k with
  | 0 => .object "PageTurns$State"
  | 1 => .object "PageTurns$State"
  | 2 => .boolean
  | 3 => .object "PageTurns$TextReader"
  | 4 => .array (.object "PageTurns$Sheet")
  | 5 => .array (.object "PageTurns$PageTable")
  | 6 => .array (.object "PageTurns$Laying")
  | 7 => .object "PageTurns$Engraver"
  | _ => .array .int
theorem nmX10 : ∀ a, a < 9 → ∀ b, b < 9 → a ≠ b → (TX10 a).2.1 ≠ (TX10 b).2.1 := by decide +kernel
theorem tyX10_ok : ∀ k, k < 9 → parseFieldDescriptor (TX10 k).2.2.1 = some (tyX10 k) := by decide +kernel
abbrev cX10_init : ByteArray := prog_1_method_1_code
def yX10_init : MethodName := ⟨RX10, "<init>", "()V"⟩
abbrev cX10_set : ByteArray := prog_1_method_2_code
def yX10_set : MethodName := ⟨RX10, "set", "(III)I"⟩
abbrev cX10_rule : ByteArray := prog_1_method_3_code
def yX10_rule : MethodName := ⟨RX10, "rule", "(II)I"⟩
abbrev cX10_feed : ByteArray := prog_1_method_4_code
def yX10_feed : MethodName := ⟨RX10, "feed", "(II)I"⟩
abbrev cX10_wipe : ByteArray := prog_1_method_5_code
def yX10_wipe : MethodName := ⟨RX10, "wipe", "()I"⟩
abbrev cX10_read : ByteArray := prog_1_method_6_code
def yX10_read : MethodName := ⟨RX10, "read", "(I)I"⟩
abbrev cX10_bar : ByteArray := prog_1_method_7_code
def yX10_bar : MethodName := ⟨RX10, "bar", "(III)I"⟩
abbrev cX10_change : ByteArray := prog_1_method_8_code
def yX10_change : MethodName := ⟨RX10, "change", "(IIII)I"⟩
abbrev cX10_cut : ByteArray := prog_1_method_9_code
def yX10_cut : MethodName := ⟨RX10, "cut", "(III)I"⟩
abbrev cX10_free : ByteArray := prog_1_method_10_code
def yX10_free : MethodName := ⟨RX10, "free", "(III)I"⟩
abbrev cX10_room : ByteArray := prog_1_method_11_code
def yX10_room : MethodName := ⟨RX10, "room", "(III)I"⟩
abbrev cX10_line : ByteArray := prog_1_method_12_code
def yX10_line : MethodName := ⟨RX10, "line", "(IIII)I"⟩
abbrev cX10_page : ByteArray := prog_1_method_13_code
def yX10_page : MethodName := ⟨RX10, "page", "(IIII)I"⟩
abbrev cX10_best : ByteArray := prog_1_method_14_code
def yX10_best : MethodName := ⟨RX10, "best", "(II)I"⟩
abbrev cX10_laid : ByteArray := prog_1_method_15_code
def yX10_laid : MethodName := ⟨RX10, "laid", "(III)I"⟩
abbrev cX10_ends : ByteArray := prog_1_method_16_code
def yX10_ends : MethodName := ⟨RX10, "ends", "(II)I"⟩
abbrev cX10_stop : ByteArray := prog_1_method_17_code
def yX10_stop : MethodName := ⟨RX10, "stop", "(II)I"⟩
abbrev cX10_hearts : ByteArray := prog_1_method_18_code
def yX10_hearts : MethodName := ⟨RX10, "hearts", "(I)I"⟩
abbrev cX10_folds : ByteArray := prog_1_method_19_code
def yX10_folds : MethodName := ⟨RX10, "folds", "(I)I"⟩
abbrev cX10_needs : ByteArray := prog_1_method_20_code
def yX10_needs : MethodName := ⟨RX10, "needs", "(I)I"⟩
abbrev cX10_together : ByteArray := prog_1_method_21_code
def yX10_together : MethodName := ⟨RX10, "together", "(II)I"⟩
abbrev cX10_all : ByteArray := prog_1_method_22_code
def yX10_all : MethodName := ⟨RX10, "all", "(I)I"⟩
abbrev cX10_lay : ByteArray := prog_1_method_23_code
def yX10_lay : MethodName := ⟨RX10, "lay", "(III)I"⟩
abbrev cX10_breakOf : ByteArray := prog_1_method_24_code
def yX10_breakOf : MethodName := ⟨RX10, "breakOf", "(II)I"⟩
abbrev cX10_clear : ByteArray := prog_1_method_25_code
def yX10_clear : MethodName := ⟨RX10, "clear", "(I)I"⟩
abbrev cX10_price : ByteArray := prog_1_method_26_code
def yX10_price : MethodName := ⟨RX10, "price", "(I)I"⟩
abbrev cX10_judge : ByteArray := prog_1_method_27_code
def yX10_judge : MethodName := ⟨RX10, "judge", "(I)I"⟩
abbrev cX10_hold : ByteArray := prog_1_method_28_code
def yX10_hold : MethodName := ⟨RX10, "hold", "(II)I"⟩
abbrev cX10_as : ByteArray := prog_1_method_29_code
def yX10_as : MethodName := ⟨RX10, "as", "(II)I"⟩
abbrev cX10_sheet : ByteArray := prog_1_method_30_code
def yX10_sheet : MethodName := ⟨RX10, "sheet", "(III)I"⟩
abbrev cX10_write : ByteArray := prog_1_method_31_code
def yX10_write : MethodName := ⟨RX10, "write", "(III)I"⟩
abbrev cX10_copy : ByteArray := prog_1_method_32_code
def yX10_copy : MethodName := ⟨RX10, "copy", "(IIIII)I"⟩
abbrev cX10_rooms : ByteArray := prog_1_method_33_code
def yX10_rooms : MethodName := ⟨RX10, "rooms", "(II)I"⟩
abbrev cX10_pages : ByteArray := prog_1_method_34_code
def yX10_pages : MethodName := ⟨RX10, "pages", "(II)I"⟩
abbrev cX10_image : ByteArray := prog_1_method_35_code
def yX10_image : MethodName := ⟨RX10, "image", "()I"⟩
abbrev cX10_undo : ByteArray := prog_1_method_36_code
def yX10_undo : MethodName := ⟨RX10, "undo", "()I"⟩
abbrev cX10_tear : ByteArray := prog_1_method_37_code
def yX10_tear : MethodName := ⟨RX10, "tear", "()I"⟩
abbrev cX10_count : ByteArray := prog_1_method_38_code
def yX10_count : MethodName := ⟨RX10, "count", "(I)I"⟩
abbrev cX10_status : ByteArray := prog_1_method_39_code
def yX10_status : MethodName := ⟨RX10, "status", "(I)I"⟩
abbrev cX10_tell : ByteArray := prog_1_method_40_code
def yX10_tell : MethodName := ⟨RX10, "tell", "(I)I"⟩
abbrev cX10_within : ByteArray := prog_1_method_41_code
def yX10_within : MethodName := ⟨RX10, "within", "(III)Z"⟩
abbrev cX10_isPart : ByteArray := prog_1_method_42_code
def yX10_isPart : MethodName := ⟨RX10, "isPart", "(I)Z"⟩
abbrev cX10_isSheet : ByteArray := prog_1_method_43_code
def yX10_isSheet : MethodName := ⟨RX10, "isSheet", "(I)Z"⟩
abbrev cX10_isSize : ByteArray := prog_1_method_44_code
def yX10_isSize : MethodName := ⟨RX10, "isSize", "(I)Z"⟩
abbrev cX10_isBar : ByteArray := prog_1_method_45_code
def yX10_isBar : MethodName := ⟨RX10, "isBar", "(II)Z"⟩
abbrev cX10_isStretch : ByteArray := prog_1_method_46_code
def yX10_isStretch : MethodName := ⟨RX10, "isStretch", "(III)Z"⟩
abbrev cX10_evenPages : ByteArray := prog_1_method_47_code
def yX10_evenPages : MethodName := ⟨RX10, "evenPages", "(I)I"⟩
abbrev cX10_turnsAtOnce : ByteArray := prog_1_method_48_code
def yX10_turnsAtOnce : MethodName := ⟨RX10, "turnsAtOnce", "(Z)I"⟩
abbrev cX10_tableOf : ByteArray := prog_1_method_49_code
def yX10_tableOf : MethodName := ⟨RX10, "tableOf", "(I)LPageTurns$PageTable;"⟩
abbrev cX10_layingOf : ByteArray := prog_1_method_50_code
def yX10_layingOf : MethodName := ⟨RX10, "layingOf", "(I)LPageTurns$Laying;"⟩
abbrev cX10_forgetPart : ByteArray := prog_1_method_51_code
def yX10_forgetPart : MethodName := ⟨RX10, "forgetPart", "(I)V"⟩
abbrev cX10_forgetAll : ByteArray := prog_1_method_52_code
def yX10_forgetAll : MethodName := ⟨RX10, "forgetAll", "()V"⟩
abbrev cX10_forgetLayings : ByteArray := prog_1_method_53_code
def yX10_forgetLayings : MethodName := ⟨RX10, "forgetLayings", "()V"⟩
def RX11 : String := "PageTurnsModel"
def TX11 : u_T := fun k => match k with
  | 0 => ("PageTurnsModel", "m", "[I", true)
  | 1 => ("PageTurnsModel", "kept", "[I", true)
  | 2 => ("PageTurnsModel", "isKept", "Z", false)
  | 3 => ("PageTurnsModel", "found", "[I", true)
  | 4 => ("PageTurnsModel", "tape", "[I", true)
  | 5 => ("PageTurnsModel", "taped", "I", false)
  | 6 => ("PageTurnsModel", "from", "I", false)
  | 7 => ("PageTurnsModel", "to", "I", false)
  | 8 => ("PageTurnsModel", "token", "I", false)
  | 9 => ("PageTurnsModel", "value", "I", false)
  | 10 => ("PageTurnsModel", "opens", "I", false)
  | 11 => ("PageTurnsModel", "bad", "Z", false)
  | 12 => ("PageTurnsModel", "row", "[I", true)
  | 13 => ("PageTurnsModel", "read", "I", false)
  | 14 => ("PageTurnsModel", "lines", "[I", true)
  | 15 => ("PageTurnsModel", "pages", "[I", true)
  | 16 => ("PageTurnsModel", "tails", "[I", true)
  | 17 => ("PageTurnsModel", "stops", "[Z", true)
  | 18 => ("PageTurnsModel", "bestStops", "[I", true)
  | 19 => ("PageTurnsModel", "bestCost", "[I", true)
  | 20 => ("PageTurnsModel", "bestPages", "[I", true)
  | 21 => ("PageTurnsModel", "bestLast", "[I", true)
  | 22 => ("PageTurnsModel", "bestSize", "[I", true)
  | 23 => ("PageTurnsModel", "pageMany", "I", false)
  | 24 => ("PageTurnsModel", "lineMany", "I", false)
  | 25 => ("PageTurnsModel", "turnMany", "I", false)
  | 26 => ("PageTurnsModel", "pageFirst", "[I", true)
  | 27 => ("PageTurnsModel", "pageLast", "[I", true)
  | 28 => ("PageTurnsModel", "pageSize", "[I", true)
  | 29 => ("PageTurnsModel", "pageLines", "[I", true)
  | 30 => ("PageTurnsModel", "pageCost", "[I", true)
  | 31 => ("PageTurnsModel", "pageTurn", "[I", true)
  | 32 => ("PageTurnsModel", "lineLast", "[I", true)
  | 33 => ("PageTurnsModel", "turnsAt", "[I", true)
  | 34 => ("PageTurnsModel", "bits", "[I", true)
  | 35 => ("PageTurnsModel", "size", "[I", true)
  | _ => ("PageTurnsModel", "number", "[I", true)
def tyX11 : Nat → FieldType := fun k => match k with
  | 0 => .array .int
  | 1 => .array .int
  | 2 => .boolean
  | 3 => .array .int
  | 4 => .array .int
  | 5 => .int
  | 6 => .int
  | 7 => .int
  | 8 => .int
  | 9 => .int
  | 10 => .int
  | 11 => .boolean
  | 12 => .array .int
  | 13 => .int
  | 14 => .array .int
  | 15 => .array .int
  | 16 => .array .int
  | 17 => .array .boolean
  | 18 => .array .int
  | 19 => .array .int
  | 20 => .array .int
  | 21 => .array .int
  | 22 => .array .int
  | 23 => .int
  | 24 => .int
  | 25 => .int
  | 26 => .array .int
  | 27 => .array .int
  | 28 => .array .int
  | 29 => .array .int
  | 30 => .array .int
  | 31 => .array .int
  | 32 => .array .int
  | 33 => .array .int
  | 34 => .array .int
  | 35 => .array .int
  | _ => .array .int
theorem nmX11 : ∀ a, a < 37 → ∀ b, b < 37 → a ≠ b → (TX11 a).2.1 ≠ (TX11 b).2.1 := by decide +kernel
theorem tyX11_ok : ∀ k, k < 37 → parseFieldDescriptor (TX11 k).2.2.1 = some (tyX11 k) := by decide +kernel
abbrev cX11_init : ByteArray := prog_13_method_1_code
def yX11_init : MethodName := ⟨RX11, "<init>", "()V"⟩
abbrev cX11_finds : ByteArray := prog_13_method_2_code
def yX11_finds : MethodName := ⟨RX11, "finds", "(I)I"⟩
abbrev cX11_in : ByteArray := prog_13_method_3_code
def yX11_in : MethodName := ⟨RX11, "in", "(JJJ)Z"⟩
abbrev cX11_part : ByteArray := prog_13_method_4_code
def yX11_part : MethodName := ⟨RX11, "part", "(I)I"⟩
abbrev cX11_isPart : ByteArray := prog_13_method_5_code
def yX11_isPart : MethodName := ⟨RX11, "isPart", "(I)Z"⟩
abbrev cX11_bars : ByteArray := prog_13_method_6_code
def yX11_bars : MethodName := ⟨RX11, "bars", "(I)I"⟩
abbrev cX11_isBar : ByteArray := prog_13_method_7_code
def yX11_isBar : MethodName := ⟨RX11, "isBar", "(II)Z"⟩
abbrev cX11_at : ByteArray := prog_13_method_8_code
def yX11_at : MethodName := ⟨RX11, "at", "(III)I"⟩
abbrev cX11_hand : ByteArray := prog_13_method_9_code
def yX11_hand : MethodName := ⟨RX11, "hand", "(II)I"⟩
abbrev cX11_beats : ByteArray := prog_13_method_10_code
def yX11_beats : MethodName := ⟨RX11, "beats", "(II)I"⟩
abbrev cX11_hasMark : ByteArray := prog_13_method_11_code
def yX11_hasMark : MethodName := ⟨RX11, "hasMark", "(III)Z"⟩
abbrev cX11_maySet : ByteArray := prog_13_method_12_code
def yX11_maySet : MethodName := ⟨RX11, "maySet", "(III)Z"⟩
abbrev cX11_set : ByteArray := prog_13_method_13_code
def yX11_set : MethodName := ⟨RX11, "set", "(III)I"⟩
abbrev cX11_rule : ByteArray := prog_13_method_14_code
def yX11_rule : MethodName := ⟨RX11, "rule", "(II)I"⟩
abbrev cX11_feed : ByteArray := prog_13_method_15_code
def yX11_feed : MethodName := ⟨RX11, "feed", "(II)I"⟩
abbrev cX11_wipe : ByteArray := prog_13_method_16_code
def yX11_wipe : MethodName := ⟨RX11, "wipe", "()I"⟩
abbrev cX11_isLetter : ByteArray := prog_13_method_17_code
def yX11_isLetter : MethodName := ⟨RX11, "isLetter", "(I)Z"⟩
abbrev cX11_isDigit : ByteArray := prog_13_method_18_code
def yX11_isDigit : MethodName := ⟨RX11, "isDigit", "(I)Z"⟩
abbrev cX11_spelt : ByteArray := prog_13_method_19_code
def yX11_spelt : MethodName := ⟨RX11, "spelt", "(IIIIII)J"⟩
abbrev cX11_wordOf : ByteArray := prog_13_method_20_code
def yX11_wordOf : MethodName := ⟨RX11, "wordOf", "(J)I"⟩
abbrev cX11_step : ByteArray := prog_13_method_21_code
def yX11_step : MethodName := ⟨RX11, "step", "()V"⟩
abbrev cX11_isWord : ByteArray := prog_13_method_22_code
def yX11_isWord : MethodName := ⟨RX11, "isWord", "(II)Z"⟩
abbrev cX11_isNumber : ByteArray := prog_13_method_23_code
def yX11_isNumber : MethodName := ⟨RX11, "isNumber", "(II)Z"⟩
abbrev cX11_need : ByteArray := prog_13_method_24_code
def yX11_need : MethodName := ⟨RX11, "need", "(Z)V"⟩
abbrev cX11_readBar : ByteArray := prog_13_method_25_code
def yX11_readBar : MethodName := ⟨RX11, "readBar", "()V"⟩
abbrev cX11_readTimes : ByteArray := prog_13_method_26_code
def yX11_readTimes : MethodName := ⟨RX11, "readTimes", "()V"⟩
abbrev cX11_readItem : ByteArray := prog_13_method_27_code
def yX11_readItem : MethodName := ⟨RX11, "readItem", "()V"⟩
abbrev cX11_readText : ByteArray := prog_13_method_28_code
def yX11_readText : MethodName := ⟨RX11, "readText", "()V"⟩
abbrev cX11_read : ByteArray := prog_13_method_29_code
def yX11_read : MethodName := ⟨RX11, "read", "(I)I"⟩
abbrev cX11_bar : ByteArray := prog_13_method_30_code
def yX11_bar : MethodName := ⟨RX11, "bar", "(III)I"⟩
abbrev cX11_change : ByteArray := prog_13_method_31_code
def yX11_change : MethodName := ⟨RX11, "change", "(IIII)I"⟩
abbrev cX11_cut : ByteArray := prog_13_method_32_code
def yX11_cut : MethodName := ⟨RX11, "cut", "(III)I"⟩
abbrev cX11_beatsFree : ByteArray := prog_13_method_33_code
def yX11_beatsFree : MethodName := ⟨RX11, "beatsFree", "(IIII)I"⟩
abbrev cX11_free : ByteArray := prog_13_method_34_code
def yX11_free : MethodName := ⟨RX11, "free", "(IIZ)I"⟩
abbrev cX11_free_ : ByteArray := prog_13_method_35_code
def yX11_free_ : MethodName := ⟨RX11, "free", "(III)I"⟩
abbrev cX11_room : ByteArray := prog_13_method_36_code
def yX11_room : MethodName := ⟨RX11, "room", "(IIIZ)I"⟩
abbrev cX11_room_ : ByteArray := prog_13_method_37_code
def yX11_room_ : MethodName := ⟨RX11, "room", "(III)I"⟩
abbrev cX11_mayEnd : ByteArray := prog_13_method_38_code
def yX11_mayEnd : MethodName := ⟨RX11, "mayEnd", "(II)Z"⟩
abbrev cX11_lineCost : ByteArray := prog_13_method_39_code
def yX11_lineCost : MethodName := ⟨RX11, "lineCost", "(IIIII)I"⟩
abbrev cX11_isSpan : ByteArray := prog_13_method_40_code
def yX11_isSpan : MethodName := ⟨RX11, "isSpan", "(IIII)Z"⟩
abbrev cX11_rooms : ByteArray := prog_13_method_41_code
def yX11_rooms : MethodName := ⟨RX11, "rooms", "(IIIIZ)I"⟩
abbrev cX11_line : ByteArray := prog_13_method_42_code
def yX11_line : MethodName := ⟨RX11, "line", "(IIII)I"⟩
abbrev cX11_cell : ByteArray := prog_13_method_43_code
def yX11_cell : MethodName := ⟨RX11, "cell", "(III)I"⟩
abbrev cX11_findLines : ByteArray := prog_13_method_44_code
def yX11_findLines : MethodName := ⟨RX11, "findLines", "(II)V"⟩
abbrev cX11_findTails : ByteArray := prog_13_method_45_code
def yX11_findTails : MethodName := ⟨RX11, "findTails", "(II)V"⟩
abbrev cX11_findPages : ByteArray := prog_13_method_46_code
def yX11_findPages : MethodName := ⟨RX11, "findPages", "(I)V"⟩
abbrev cX11_page : ByteArray := prog_13_method_47_code
def yX11_page : MethodName := ⟨RX11, "page", "(IIII)I"⟩
abbrev cX11_hasHelp : ByteArray := prog_13_method_48_code
def yX11_hasHelp : MethodName := ⟨RX11, "hasHelp", "(II)Z"⟩
abbrev cX11_findStops : ByteArray := prog_13_method_49_code
def yX11_findStops : MethodName := ⟨RX11, "findStops", "(I)V"⟩
abbrev cX11_isTurn : ByteArray := prog_13_method_50_code
def yX11_isTurn : MethodName := ⟨RX11, "isTurn", "(II)Z"⟩
abbrev cX11_findFrom : ByteArray := prog_13_method_51_code
def yX11_findFrom : MethodName := ⟨RX11, "findFrom", "(III)V"⟩
abbrev cX11_lays : ByteArray := prog_13_method_52_code
def yX11_lays : MethodName := ⟨RX11, "lays", "(I)Z"⟩
abbrev cX11_layLines : ByteArray := prog_13_method_53_code
def yX11_layLines : MethodName := ⟨RX11, "layLines", "(I)V"⟩
abbrev cX11_laysOut : ByteArray := prog_13_method_54_code
def yX11_laysOut : MethodName := ⟨RX11, "laysOut", "(I)Z"⟩
abbrev cX11_best : ByteArray := prog_13_method_55_code
def yX11_best : MethodName := ⟨RX11, "best", "(II)I"⟩
abbrev cX11_laid : ByteArray := prog_13_method_56_code
def yX11_laid : MethodName := ⟨RX11, "laid", "(III)I"⟩
abbrev cX11_ends : ByteArray := prog_13_method_57_code
def yX11_ends : MethodName := ⟨RX11, "ends", "(II)I"⟩
abbrev cX11_stop : ByteArray := prog_13_method_58_code
def yX11_stop : MethodName := ⟨RX11, "stop", "(II)I"⟩
abbrev cX11_stopsOf : ByteArray := prog_13_method_59_code
def yX11_stopsOf : MethodName := ⟨RX11, "stopsOf", "(I)I"⟩
abbrev cX11_hearts : ByteArray := prog_13_method_60_code
def yX11_hearts : MethodName := ⟨RX11, "hearts", "(I)I"⟩
abbrev cX11_ones : ByteArray := prog_13_method_61_code
def yX11_ones : MethodName := ⟨RX11, "ones", "(I)I"⟩
abbrev cX11_folds : ByteArray := prog_13_method_62_code
def yX11_folds : MethodName := ⟨RX11, "folds", "(I)I"⟩
abbrev cX11_needs : ByteArray := prog_13_method_63_code
def yX11_needs : MethodName := ⟨RX11, "needs", "(I)I"⟩
abbrev cX11_countsTurns : ByteArray := prog_13_method_64_code
def yX11_countsTurns : MethodName := ⟨RX11, "countsTurns", "(I)Z"⟩
abbrev cX11_turnsFrom : ByteArray := prog_13_method_65_code
def yX11_turnsFrom : MethodName := ⟨RX11, "turnsFrom", "(I)I"⟩
abbrev cX11_noTurns : ByteArray := prog_13_method_66_code
def yX11_noTurns : MethodName := ⟨RX11, "noTurns", "()V"⟩
abbrev cX11_together : ByteArray := prog_13_method_67_code
def yX11_together : MethodName := ⟨RX11, "together", "(II)I"⟩
abbrev cX11_all : ByteArray := prog_13_method_68_code
def yX11_all : MethodName := ⟨RX11, "all", "(I)I"⟩
abbrev cX11_above : ByteArray := prog_13_method_69_code
def yX11_above : MethodName := ⟨RX11, "above", "(I)I"⟩
abbrev cX11_isUnder : ByteArray := prog_13_method_70_code
def yX11_isUnder : MethodName := ⟨RX11, "isUnder", "(II)Z"⟩
abbrev cX11_isBreak : ByteArray := prog_13_method_71_code
def yX11_isBreak : MethodName := ⟨RX11, "isBreak", "(I)Z"⟩
abbrev cX11_of : ByteArray := prog_13_method_72_code
def yX11_of : MethodName := ⟨RX11, "of", "(II)I"⟩
abbrev cX11_mayBe : ByteArray := prog_13_method_73_code
def yX11_mayBe : MethodName := ⟨RX11, "mayBe", "(I)Z"⟩
abbrev cX11_priceOf : ByteArray := prog_13_method_74_code
def yX11_priceOf : MethodName := ⟨RX11, "priceOf", "(I)I"⟩
abbrev cX11_lay : ByteArray := prog_13_method_75_code
def yX11_lay : MethodName := ⟨RX11, "lay", "(III)I"⟩
abbrev cX11_breakOf : ByteArray := prog_13_method_76_code
def yX11_breakOf : MethodName := ⟨RX11, "breakOf", "(II)I"⟩
abbrev cX11_clear : ByteArray := prog_13_method_77_code
def yX11_clear : MethodName := ⟨RX11, "clear", "(I)I"⟩
abbrev cX11_price : ByteArray := prog_13_method_78_code
def yX11_price : MethodName := ⟨RX11, "price", "(I)I"⟩
abbrev cX11_judge : ByteArray := prog_13_method_79_code
def yX11_judge : MethodName := ⟨RX11, "judge", "(I)I"⟩
abbrev cX11_hold : ByteArray := prog_13_method_80_code
def yX11_hold : MethodName := ⟨RX11, "hold", "(II)I"⟩
abbrev cX11_as : ByteArray := prog_13_method_81_code
def yX11_as : MethodName := ⟨RX11, "as", "(II)I"⟩
abbrev cX11_isSheet : ByteArray := prog_13_method_82_code
def yX11_isSheet : MethodName := ⟨RX11, "isSheet", "(I)Z"⟩
abbrev cX11_sheet : ByteArray := prog_13_method_83_code
def yX11_sheet : MethodName := ⟨RX11, "sheet", "(III)I"⟩
abbrev cX11_write : ByteArray := prog_13_method_84_code
def yX11_write : MethodName := ⟨RX11, "write", "(III)I"⟩
abbrev cX11_copy : ByteArray := prog_13_method_85_code
def yX11_copy : MethodName := ⟨RX11, "copy", "(IIIII)I"⟩
abbrev cX11_rooms_ : ByteArray := prog_13_method_86_code
def yX11_rooms_ : MethodName := ⟨RX11, "rooms", "(II)I"⟩
abbrev cX11_pages : ByteArray := prog_13_method_87_code
def yX11_pages : MethodName := ⟨RX11, "pages", "(II)I"⟩
abbrev cX11_barsInAll : ByteArray := prog_13_method_88_code
def yX11_barsInAll : MethodName := ⟨RX11, "barsInAll", "()I"⟩
abbrev cX11_image : ByteArray := prog_13_method_89_code
def yX11_image : MethodName := ⟨RX11, "image", "()I"⟩
abbrev cX11_undo : ByteArray := prog_13_method_90_code
def yX11_undo : MethodName := ⟨RX11, "undo", "()I"⟩
abbrev cX11_tear : ByteArray := prog_13_method_91_code
def yX11_tear : MethodName := ⟨RX11, "tear", "()I"⟩
abbrev cX11_count : ByteArray := prog_13_method_92_code
def yX11_count : MethodName := ⟨RX11, "count", "(I)I"⟩
abbrev cX11_status : ByteArray := prog_13_method_93_code
def yX11_status : MethodName := ⟨RX11, "status", "(I)I"⟩
def RJx145de : String := "java/io/Serializable"
def RJx9f9b0 : String := "java/lang/CharSequence"
def RJxb160c : String := "java/lang/Comparable"
def RJ6 : String := "java/lang/Integer"
abbrev cJ6_bitCount_0f7a4 : ByteArray := prog_14_method_49_code
def yJ6_bitCount_0f7a4 : MethodName := ⟨RJ6, "bitCount", "(I)I"⟩
def RJ9 : String := "java/lang/Math"
abbrev cJ9_max_7cf53 : ByteArray := prog_15_method_65_code
def yJ9_max_7cf53 : MethodName := ⟨RJ9, "max", "(II)I"⟩
abbrev cJ9_min_7cf53 : ByteArray := prog_15_method_69_code
def yJ9_min_7cf53 : MethodName := ⟨RJ9, "min", "(II)I"⟩
def RJ0 : String := "java/lang/String"
abbrev cJ0_length_8abf5 : ByteArray := prog_16_method_54_code
def yJ0_length_8abf5 : MethodName := ⟨RJ0, "length", "()I"⟩
abbrev cJ0_charAt_5068e : ByteArray := prog_16_method_56_code
def yJ0_charAt_5068e : MethodName := ⟨RJ0, "charAt", "(I)C"⟩
abbrev cJ0_coder_7d493 : ByteArray := prog_16_method_152_code
def yJ0_coder_7d493 : MethodName := ⟨RJ0, "coder", "()B"⟩
abbrev cJ0_isLatin1_aae02 : ByteArray := prog_16_method_154_code
def yJ0_isLatin1_aae02 : MethodName := ⟨RJ0, "isLatin1", "()Z"⟩
abbrev cJ0_checkIndex_df160 : ByteArray := prog_16_method_155_code
def yJ0_checkIndex_df160 : MethodName := ⟨RJ0, "checkIndex", "(II)V"⟩
def RJ1 : String := "java/lang/StringLatin1"
abbrev cJ1_charAt_3b067 : ByteArray := prog_17_method_2_code
def yJ1_charAt_3b067 : MethodName := ⟨RJ1, "charAt", "([BI)C"⟩
def RJ2 : String := "java/lang/StringUTF16"
abbrev cJ2_getChar_3b067 : ByteArray := prog_18_method_5_code
def yJ2_getChar_3b067 : MethodName := ⟨RJ2, "getChar", "([BI)C"⟩
abbrev cJ2_length_9d52b : ByteArray := prog_18_method_6_code
def yJ2_length_9d52b : MethodName := ⟨RJ2, "length", "([B)I"⟩
abbrev cJ2_charAt_3b067 : ByteArray := prog_18_method_83_code
def yJ2_charAt_3b067 : MethodName := ⟨RJ2, "charAt", "([BI)C"⟩
abbrev cJ2_checkIndex_2214a : ByteArray := prog_18_method_91_code
def yJ2_checkIndex_2214a : MethodName := ⟨RJ2, "checkIndex", "(I[B)V"⟩
def RJ10 : String := "java/lang/System"
def RJxfd54e : String := "java/lang/constant/Constable"
def RJx3cf43 : String := "java/lang/constant/ConstantDesc"
def RJ7 : String := "java/util/Arrays"
abbrev cJ7_rangeCheck_23922 : ByteArray := prog_20_method_30_code
def yJ7_rangeCheck_23922 : MethodName := ⟨RJ7, "rangeCheck", "(III)V"⟩
abbrev cJ7_fill_bad5a : ByteArray := prog_20_method_102_code
def yJ7_fill_bad5a : MethodName := ⟨RJ7, "fill", "([JIIJ)V"⟩
abbrev cJ7_fill_53178 : ByteArray := prog_20_method_103_code
def yJ7_fill_53178 : MethodName := ⟨RJ7, "fill", "([II)V"⟩
def RJ3 : String := "jdk/internal/util/Preconditions"
abbrev cJ3_checkIndex_8e157 : ByteArray := prog_21_method_11_code
def yJ3_checkIndex_8e157 : MethodName := ⟨RJ3, "checkIndex", "(IILjava/util/function/BiFunction;)I"⟩
def RL : String := "PageTurnsLaw"
abbrev cL_law : ByteArray := code
def yL_law : MethodName := ⟨RL, "law", "([I)Z"⟩
abbrev vwCl : List vw_C := [(RX0, TX0, 5), (RX1, TX1, 8), (RX2, TX2, 13), (RX3, TX3, 3), (RX4, TX4, 3), (RX5, TX5, 3), (RX6, TX6, 3), (RX7, TX7, 3), (RX8, TX8, 6), (RX9, TX9, 8), (RX10, TX10, 9), (RX11, TX11, 37)]
theorem uX0 : u_ws RX0 TX0 5 = ([134, 136, 138, 140, 142] : List Nat).filterMap (fun i => lw_tbl[i]?) := by decide +kernel
theorem inX0 : ∀ w ∈ u_ws RX0 TX0 5, w ∈ lw_tbl := by
  intro w hw
  rw [uX0] at hw
  obtain ⟨i, -, hi⟩ := List.mem_filterMap.mp hw
  exact List.mem_of_getElem? hi
theorem uX1 : u_ws RX1 TX1 8 = ([281, 283, 285, 287, 289, 291, 293, 295] : List Nat).filterMap (fun i => lw_tbl[i]?) := by decide +kernel
theorem inX1 : ∀ w ∈ u_ws RX1 TX1 8, w ∈ lw_tbl := by
  intro w hw
  rw [uX1] at hw
  obtain ⟨i, -, hi⟩ := List.mem_filterMap.mp hw
  exact List.mem_of_getElem? hi
theorem uX2 : u_ws RX2 TX2 13 = ([361, 363, 365, 367, 369, 371, 373, 375, 377, 379, 381, 383, 385] : List Nat).filterMap (fun i => lw_tbl[i]?) := by decide +kernel
theorem inX2 : ∀ w ∈ u_ws RX2 TX2 13, w ∈ lw_tbl := by
  intro w hw
  rw [uX2] at hw
  obtain ⟨i, -, hi⟩ := List.mem_filterMap.mp hw
  exact List.mem_of_getElem? hi
theorem uX3 : u_ws RX3 TX3 3 = ([265, 267, 269] : List Nat).filterMap (fun i => lw_tbl[i]?) := by decide +kernel
theorem inX3 : ∀ w ∈ u_ws RX3 TX3 3, w ∈ lw_tbl := by
  intro w hw
  rw [uX3] at hw
  obtain ⟨i, -, hi⟩ := List.mem_filterMap.mp hw
  exact List.mem_of_getElem? hi
theorem uX4 : u_ws RX4 TX4 3 = ([327, 329, 331] : List Nat).filterMap (fun i => lw_tbl[i]?) := by decide +kernel
theorem inX4 : ∀ w ∈ u_ws RX4 TX4 3, w ∈ lw_tbl := by
  intro w hw
  rw [uX4] at hw
  obtain ⟨i, -, hi⟩ := List.mem_filterMap.mp hw
  exact List.mem_of_getElem? hi
theorem uX5 : u_ws RX5 TX5 3 = ([161, 163, 165] : List Nat).filterMap (fun i => lw_tbl[i]?) := by decide +kernel
theorem inX5 : ∀ w ∈ u_ws RX5 TX5 3, w ∈ lw_tbl := by
  intro w hw
  rw [uX5] at hw
  obtain ⟨i, -, hi⟩ := List.mem_filterMap.mp hw
  exact List.mem_of_getElem? hi
theorem uX6 : u_ws RX6 TX6 3 = ([310, 312, 314] : List Nat).filterMap (fun i => lw_tbl[i]?) := by decide +kernel
theorem inX6 : ∀ w ∈ u_ws RX6 TX6 3, w ∈ lw_tbl := by
  intro w hw
  rw [uX6] at hw
  obtain ⟨i, -, hi⟩ := List.mem_filterMap.mp hw
  exact List.mem_of_getElem? hi
theorem uX7 : u_ws RX7 TX7 3 = ([175, 177, 179] : List Nat).filterMap (fun i => lw_tbl[i]?) := by decide +kernel
theorem inX7 : ∀ w ∈ u_ws RX7 TX7 3, w ∈ lw_tbl := by
  intro w hw
  rw [uX7] at hw
  obtain ⟨i, -, hi⟩ := List.mem_filterMap.mp hw
  exact List.mem_of_getElem? hi
theorem uX8 : u_ws RX8 TX8 6 = ([201, 203, 205, 207, 209, 211] : List Nat).filterMap (fun i => lw_tbl[i]?) := by decide +kernel
theorem inX8 : ∀ w ∈ u_ws RX8 TX8 6, w ∈ lw_tbl := by
  intro w hw
  rw [uX8] at hw
  obtain ⟨i, -, hi⟩ := List.mem_filterMap.mp hw
  exact List.mem_of_getElem? hi
theorem uX9 : u_ws RX9 TX9 8 = ([227, 229, 231, 233, 235, 237, 239, 241] : List Nat).filterMap (fun i => lw_tbl[i]?) := by decide +kernel
theorem inX9 : ∀ w ∈ u_ws RX9 TX9 8, w ∈ lw_tbl := by
  intro w hw
  rw [uX9] at hw
  obtain ⟨i, -, hi⟩ := List.mem_filterMap.mp hw
  exact List.mem_of_getElem? hi
theorem uX10 : u_ws RX10 TX10 9 = ([397, 399, 401, 403, 405, 407, 409, 411, 413] : List Nat).filterMap (fun i => lw_tbl[i]?) := by decide +kernel
theorem inX10 : ∀ w ∈ u_ws RX10 TX10 9, w ∈ lw_tbl := by
  intro w hw
  rw [uX10] at hw
  obtain ⟨i, -, hi⟩ := List.mem_filterMap.mp hw
  exact List.mem_of_getElem? hi
theorem uX11 : u_ws RX11 TX11 37 = ([1124, 1126, 1128, 1130, 1132, 1134, 1136, 1138, 1140, 1142, 1144, 1146, 1148, 1150, 1152, 1154, 1156, 1158, 1160, 1162, 1164, 1166, 1168, 1170, 1172, 1174, 1176, 1178, 1180, 1182, 1184, 1186, 1188, 1190, 1192, 1194, 1196] : List Nat).filterMap (fun i => lw_tbl[i]?) := by decide +kernel
theorem inX11 : ∀ w ∈ u_ws RX11 TX11 37, w ∈ lw_tbl := by
  intro w hw
  rw [uX11] at hw
  obtain ⟨i, -, hi⟩ := List.mem_filterMap.mp hw
  exact List.mem_of_getElem? hi
theorem t_0 : Cond.selects RX10 yX10_tell yX10_tell ∈ lw_tbl := List.mem_of_getElem? (i := 0) (by decide +kernel)
theorem t_1 : Cond.selects RX10 yX10_forgetLayings yX10_forgetLayings ∈ lw_tbl := List.mem_of_getElem? (i := 1) (by decide +kernel)
theorem t_2 : Cond.selects RX10 yX10_forgetAll yX10_forgetAll ∈ lw_tbl := List.mem_of_getElem? (i := 2) (by decide +kernel)
theorem t_3 : Cond.selects RX10 yX10_forgetPart yX10_forgetPart ∈ lw_tbl := List.mem_of_getElem? (i := 3) (by decide +kernel)
theorem t_4 : Cond.selects RX8 yX8_behindToken yX8_behindToken ∈ lw_tbl := List.mem_of_getElem? (i := 4) (by decide +kernel)
theorem t_5 : Cond.selects RX8 yX8_isLetter yX8_isLetter ∈ lw_tbl := List.mem_of_getElem? (i := 5) (by decide +kernel)
theorem t_6 : Cond.selects RX8 yX8_isDigit yX8_isDigit ∈ lw_tbl := List.mem_of_getElem? (i := 6) (by decide +kernel)
theorem t_7 : Cond.selects RX8 yX8_addToken yX8_addToken ∈ lw_tbl := List.mem_of_getElem? (i := 7) (by decide +kernel)
theorem t_8 : Cond.selects RX8 yX8_wordNumber yX8_wordNumber ∈ lw_tbl := List.mem_of_getElem? (i := 8) (by decide +kernel)
theorem t_9 : Cond.selects RX8 yX8_spells yX8_spells ∈ lw_tbl := List.mem_of_getElem? (i := 9) (by decide +kernel)
theorem t_10 : Cond.selects RX8 yX8_numberValue yX8_numberValue ∈ lw_tbl := List.mem_of_getElem? (i := 10) (by decide +kernel)
theorem t_11 : Cond.selects RX8 yX8_known yX8_known ∈ lw_tbl := List.mem_of_getElem? (i := 11) (by decide +kernel)
theorem t_12 : Cond.selects RX9 yX9_takeOpening yX9_takeOpening ∈ lw_tbl := List.mem_of_getElem? (i := 12) (by decide +kernel)
theorem t_13 : Cond.selects RX9 yX9_isNumber yX9_isNumber ∈ lw_tbl := List.mem_of_getElem? (i := 13) (by decide +kernel)
theorem t_14 : Cond.selects RX9 yX9_takeBar yX9_takeBar ∈ lw_tbl := List.mem_of_getElem? (i := 14) (by decide +kernel)
theorem t_15 : Cond.selects RX9 yX9_isWord yX9_isWord ∈ lw_tbl := List.mem_of_getElem? (i := 15) (by decide +kernel)
theorem t_16 : Cond.selects RX9 yX9_takeMarks yX9_takeMarks ∈ lw_tbl := List.mem_of_getElem? (i := 16) (by decide +kernel)
theorem t_17 : Cond.selects RX9 yX9_addBar yX9_addBar ∈ lw_tbl := List.mem_of_getElem? (i := 17) (by decide +kernel)
theorem t_18 : Cond.selects RX9 yX9_takeClosing yX9_takeClosing ∈ lw_tbl := List.mem_of_getElem? (i := 18) (by decide +kernel)
theorem t_19 : Cond.selects RX9 yX9_repeatLast yX9_repeatLast ∈ lw_tbl := List.mem_of_getElem? (i := 19) (by decide +kernel)
theorem t_20 : Cond.selects RX10 yX10_isBar yX10_isBar ∈ lw_tbl := List.mem_of_getElem? (i := 20) (by decide +kernel)
theorem t_21 : Cond.selects RX5 yX5_freeBeats yX5_freeBeats ∈ lw_tbl := List.mem_of_getElem? (i := 21) (by decide +kernel)
theorem t_22 : Cond.selects RX10 yX10_isStretch yX10_isStretch ∈ lw_tbl := List.mem_of_getElem? (i := 22) (by decide +kernel)
theorem t_23 : Cond.selects RX3 yX3_cheapestFrom yX3_cheapestFrom ∈ lw_tbl := List.mem_of_getElem? (i := 23) (by decide +kernel)
theorem t_24 : Cond.selects RX10 yX10_layingOf yX10_layingOf ∈ lw_tbl := List.mem_of_getElem? (i := 24) (by decide +kernel)
theorem t_25 : Cond.selects RX10 yX10_tableOf yX10_tableOf ∈ lw_tbl := List.mem_of_getElem? (i := 25) (by decide +kernel)
theorem t_26 : Cond.selects RX4 yX4_takeCheaper yX4_takeCheaper ∈ lw_tbl := List.mem_of_getElem? (i := 26) (by decide +kernel)
theorem t_27 : Cond.selects RX1 yX1_takeBetter yX1_takeBetter ∈ lw_tbl := List.mem_of_getElem? (i := 27) (by decide +kernel)
theorem t_28 : Cond.selects RX1 yX1_turnOf yX1_turnOf ∈ lw_tbl := List.mem_of_getElem? (i := 28) (by decide +kernel)
theorem t_29 : Cond.selects RX1 yX1_addLines yX1_addLines ∈ lw_tbl := List.mem_of_getElem? (i := 29) (by decide +kernel)
theorem t_30 : Cond.selects RX10 yX10_turnsAtOnce yX10_turnsAtOnce ∈ lw_tbl := List.mem_of_getElem? (i := 30) (by decide +kernel)
theorem t_31 : Cond.selects RX0 yX0_renumberSpots yX0_renumberSpots ∈ lw_tbl := List.mem_of_getElem? (i := 31) (by decide +kernel)
theorem t_32 : Cond.selects RX11 yX11_finds yX11_finds ∈ lw_tbl := List.mem_of_getElem? (i := 32) (by decide +kernel)
theorem t_33 : Cond.selects RX11 yX11_step yX11_step ∈ lw_tbl := List.mem_of_getElem? (i := 33) (by decide +kernel)
theorem t_34 : Cond.selects RX11 yX11_isLetter yX11_isLetter ∈ lw_tbl := List.mem_of_getElem? (i := 34) (by decide +kernel)
theorem t_35 : Cond.selects RX11 yX11_isDigit yX11_isDigit ∈ lw_tbl := List.mem_of_getElem? (i := 35) (by decide +kernel)
theorem t_36 : Cond.selects RX11 yX11_readText yX11_readText ∈ lw_tbl := List.mem_of_getElem? (i := 36) (by decide +kernel)
theorem t_37 : Cond.selects RX11 yX11_readItem yX11_readItem ∈ lw_tbl := List.mem_of_getElem? (i := 37) (by decide +kernel)
theorem t_38 : Cond.selects RX11 yX11_isWord yX11_isWord ∈ lw_tbl := List.mem_of_getElem? (i := 38) (by decide +kernel)
theorem t_39 : Cond.selects RX11 yX11_readBar yX11_readBar ∈ lw_tbl := List.mem_of_getElem? (i := 39) (by decide +kernel)
theorem t_40 : Cond.selects RX11 yX11_isNumber yX11_isNumber ∈ lw_tbl := List.mem_of_getElem? (i := 40) (by decide +kernel)
theorem t_41 : Cond.selects RX11 yX11_need yX11_need ∈ lw_tbl := List.mem_of_getElem? (i := 41) (by decide +kernel)
theorem t_42 : Cond.selects RX11 yX11_readTimes yX11_readTimes ∈ lw_tbl := List.mem_of_getElem? (i := 42) (by decide +kernel)
theorem t_43 : Cond.selects RX11 yX11_bars yX11_bars ∈ lw_tbl := List.mem_of_getElem? (i := 43) (by decide +kernel)
theorem t_44 : Cond.selects RX11 yX11_isBar yX11_isBar ∈ lw_tbl := List.mem_of_getElem? (i := 44) (by decide +kernel)
theorem t_45 : Cond.selects RX11 yX11_free yX11_free ∈ lw_tbl := List.mem_of_getElem? (i := 45) (by decide +kernel)
theorem t_46 : Cond.selects RX11 yX11_beatsFree yX11_beatsFree ∈ lw_tbl := List.mem_of_getElem? (i := 46) (by decide +kernel)
theorem t_47 : Cond.selects RX11 yX11_hand yX11_hand ∈ lw_tbl := List.mem_of_getElem? (i := 47) (by decide +kernel)
theorem t_48 : Cond.selects RX11 yX11_beats yX11_beats ∈ lw_tbl := List.mem_of_getElem? (i := 48) (by decide +kernel)
theorem t_49 : Cond.selects RX11 yX11_room yX11_room ∈ lw_tbl := List.mem_of_getElem? (i := 49) (by decide +kernel)
theorem t_50 : Cond.selects RX11 yX11_isSpan yX11_isSpan ∈ lw_tbl := List.mem_of_getElem? (i := 50) (by decide +kernel)
theorem t_51 : Cond.selects RX11 yX11_rooms yX11_rooms ∈ lw_tbl := List.mem_of_getElem? (i := 51) (by decide +kernel)
theorem t_52 : Cond.selects RX11 yX11_mayEnd yX11_mayEnd ∈ lw_tbl := List.mem_of_getElem? (i := 52) (by decide +kernel)
theorem t_53 : Cond.selects RX11 yX11_hasMark yX11_hasMark ∈ lw_tbl := List.mem_of_getElem? (i := 53) (by decide +kernel)
theorem t_54 : Cond.selects RX11 yX11_lineCost yX11_lineCost ∈ lw_tbl := List.mem_of_getElem? (i := 54) (by decide +kernel)
theorem t_55 : Cond.selects RX11 yX11_findLines yX11_findLines ∈ lw_tbl := List.mem_of_getElem? (i := 55) (by decide +kernel)
theorem t_56 : Cond.selects RX11 yX11_findTails yX11_findTails ∈ lw_tbl := List.mem_of_getElem? (i := 56) (by decide +kernel)
theorem t_57 : Cond.selects RX11 yX11_laysOut yX11_laysOut ∈ lw_tbl := List.mem_of_getElem? (i := 57) (by decide +kernel)
theorem t_58 : Cond.selects RX11 yX11_findPages yX11_findPages ∈ lw_tbl := List.mem_of_getElem? (i := 58) (by decide +kernel)
theorem t_59 : Cond.selects RX11 yX11_lays yX11_lays ∈ lw_tbl := List.mem_of_getElem? (i := 59) (by decide +kernel)
theorem t_60 : Cond.selects RX11 yX11_findStops yX11_findStops ∈ lw_tbl := List.mem_of_getElem? (i := 60) (by decide +kernel)
theorem t_61 : Cond.selects RX11 yX11_hasHelp yX11_hasHelp ∈ lw_tbl := List.mem_of_getElem? (i := 61) (by decide +kernel)
theorem t_62 : Cond.selects RX11 yX11_findFrom yX11_findFrom ∈ lw_tbl := List.mem_of_getElem? (i := 62) (by decide +kernel)
theorem t_63 : Cond.selects RX11 yX11_isTurn yX11_isTurn ∈ lw_tbl := List.mem_of_getElem? (i := 63) (by decide +kernel)
theorem t_64 : Cond.selects RX11 yX11_layLines yX11_layLines ∈ lw_tbl := List.mem_of_getElem? (i := 64) (by decide +kernel)
theorem t_65 : Cond.selects RX11 yX11_stopsOf yX11_stopsOf ∈ lw_tbl := List.mem_of_getElem? (i := 65) (by decide +kernel)
theorem t_66 : Cond.selects RX11 yX11_noTurns yX11_noTurns ∈ lw_tbl := List.mem_of_getElem? (i := 66) (by decide +kernel)
theorem t_67 : Cond.selects RX11 yX11_countsTurns yX11_countsTurns ∈ lw_tbl := List.mem_of_getElem? (i := 67) (by decide +kernel)
theorem t_68 : Cond.selects RX11 yX11_turnsFrom yX11_turnsFrom ∈ lw_tbl := List.mem_of_getElem? (i := 68) (by decide +kernel)
theorem t_69 : Cond.selects RX11 yX11_isBreak yX11_isBreak ∈ lw_tbl := List.mem_of_getElem? (i := 69) (by decide +kernel)
theorem t_70 : Cond.selects RX11 yX11_of yX11_of ∈ lw_tbl := List.mem_of_getElem? (i := 70) (by decide +kernel)
theorem t_71 : Cond.selects RX11 yX11_mayBe yX11_mayBe ∈ lw_tbl := List.mem_of_getElem? (i := 71) (by decide +kernel)
theorem t_72 : Cond.selects RX11 yX11_priceOf yX11_priceOf ∈ lw_tbl := List.mem_of_getElem? (i := 72) (by decide +kernel)
theorem t_73 : Cond.selects RX11 yX11_barsInAll yX11_barsInAll ∈ lw_tbl := List.mem_of_getElem? (i := 73) (by decide +kernel)
theorem t_74 : Cond.initialized RL ∈ lw_tbl := List.mem_of_getElem? (i := 74) (by decide +kernel)
theorem t_75 : Cond.initialized RX10 ∈ lw_tbl := List.mem_of_getElem? (i := 75) (by decide +kernel)
theorem t_76 : Cond.initialized RX7 ∈ lw_tbl := List.mem_of_getElem? (i := 76) (by decide +kernel)
theorem t_77 : Cond.initialized RX0 ∈ lw_tbl := List.mem_of_getElem? (i := 77) (by decide +kernel)
theorem t_78 : Cond.initialized RJ7 ∈ lw_tbl := List.mem_of_getElem? (i := 78) (by decide +kernel)
theorem t_79 : Cond.initialized RX5 ∈ lw_tbl := List.mem_of_getElem? (i := 79) (by decide +kernel)
theorem t_80 : Cond.initialized RX9 ∈ lw_tbl := List.mem_of_getElem? (i := 80) (by decide +kernel)
theorem t_81 : Cond.initialized RX8 ∈ lw_tbl := List.mem_of_getElem? (i := 81) (by decide +kernel)
theorem t_82 : Cond.initialized RX1 ∈ lw_tbl := List.mem_of_getElem? (i := 82) (by decide +kernel)
theorem t_83 : Cond.initialized RX3 ∈ lw_tbl := List.mem_of_getElem? (i := 83) (by decide +kernel)
theorem t_84 : Cond.initialized RX6 ∈ lw_tbl := List.mem_of_getElem? (i := 84) (by decide +kernel)
theorem t_85 : Cond.initialized RX4 ∈ lw_tbl := List.mem_of_getElem? (i := 85) (by decide +kernel)
theorem t_86 : Cond.initialized RX2 ∈ lw_tbl := List.mem_of_getElem? (i := 86) (by decide +kernel)
theorem t_87 : Cond.initialized RX11 ∈ lw_tbl := List.mem_of_getElem? (i := 87) (by decide +kernel)
theorem t_88 : Cond.initialized RJ0 ∈ lw_tbl := List.mem_of_getElem? (i := 88) (by decide +kernel)
theorem t_89 : Cond.initialized RJ1 ∈ lw_tbl := List.mem_of_getElem? (i := 89) (by decide +kernel)
theorem t_90 : Cond.initialized RJ3 ∈ lw_tbl := List.mem_of_getElem? (i := 90) (by decide +kernel)
theorem t_91 : Cond.initialized RJ2 ∈ lw_tbl := List.mem_of_getElem? (i := 91) (by decide +kernel)
theorem t_92 : Cond.initialized RJ9 ∈ lw_tbl := List.mem_of_getElem? (i := 92) (by decide +kernel)
theorem t_93 : Cond.initialized RJ10 ∈ lw_tbl := List.mem_of_getElem? (i := 93) (by decide +kernel)
theorem t_94 : Cond.initialized RJ6 ∈ lw_tbl := List.mem_of_getElem? (i := 94) (by decide +kernel)
theorem t_95 : Cond.classLink RL 7 RX10 ∈ lw_tbl := List.mem_of_getElem? (i := 95) (by decide +kernel)
theorem t_96 : Cond.instantiable RX10 9 ∈ lw_tbl := List.mem_of_getElem? (i := 96) (by decide +kernel)
theorem t_97 : Cond.methodLink RL 9 yX10_init ∈ lw_tbl := List.mem_of_getElem? (i := 97) (by decide +kernel)
theorem t_98 : Cond.instanceMethod yX10_init ∈ lw_tbl := List.mem_of_getElem? (i := 98) (by decide +kernel)
theorem t_99 : Cond.code yX10_init cX10_init 2 none ∈ lw_tbl := List.mem_of_getElem? (i := 99) (by decide +kernel)
theorem t_100 : Cond.methodLink RX10 1 objectInit ∈ lw_tbl := List.mem_of_getElem? (i := 100) (by decide +kernel)
theorem t_101 : Cond.instanceMethod objectInit ∈ lw_tbl := List.mem_of_getElem? (i := 101) (by decide +kernel)
theorem t_102 : Cond.code objectInit object_method_1_code 1 none ∈ lw_tbl := List.mem_of_getElem? (i := 102) (by decide +kernel)
theorem t_103 : Cond.classLink RX10 7 RX7 ∈ lw_tbl := List.mem_of_getElem? (i := 103) (by decide +kernel)
theorem t_104 : Cond.instantiable RX7 3 ∈ lw_tbl := List.mem_of_getElem? (i := 104) (by decide +kernel)
theorem t_105 : Cond.methodLink RX10 9 yX7_init ∈ lw_tbl := List.mem_of_getElem? (i := 105) (by decide +kernel)
theorem t_106 : Cond.instanceMethod yX7_init ∈ lw_tbl := List.mem_of_getElem? (i := 106) (by decide +kernel)
theorem t_107 : Cond.code yX7_init cX7_init 2 none ∈ lw_tbl := List.mem_of_getElem? (i := 107) (by decide +kernel)
theorem t_108 : Cond.methodLink RX7 3 objectInit ∈ lw_tbl := List.mem_of_getElem? (i := 108) (by decide +kernel)
theorem t_109 : Cond.classLink RX7 9 RX5 ∈ lw_tbl := List.mem_of_getElem? (i := 109) (by decide +kernel)
theorem t_110 : Cond.arrayOver (FieldType.object "PageTurns$Part") ∈ lw_tbl := List.mem_of_getElem? (i := 110) (by decide +kernel)
theorem t_111 : Cond.classLink RX7 21 RX0 ∈ lw_tbl := List.mem_of_getElem? (i := 111) (by decide +kernel)
theorem t_112 : Cond.instantiable RX0 5 ∈ lw_tbl := List.mem_of_getElem? (i := 112) (by decide +kernel)
theorem t_113 : Cond.methodLink RX7 23 yX0_init ∈ lw_tbl := List.mem_of_getElem? (i := 113) (by decide +kernel)
theorem t_114 : Cond.instanceMethod yX0_init ∈ lw_tbl := List.mem_of_getElem? (i := 114) (by decide +kernel)
theorem t_115 : Cond.code yX0_init cX0_init 1 none ∈ lw_tbl := List.mem_of_getElem? (i := 115) (by decide +kernel)
theorem t_116 : Cond.methodLink RX0 3 objectInit ∈ lw_tbl := List.mem_of_getElem? (i := 116) (by decide +kernel)
theorem t_117 : Cond.methodLink RX0 24 yJ7_fill_53178 ∈ lw_tbl := List.mem_of_getElem? (i := 117) (by decide +kernel)
theorem t_118 : Cond.static yJ7_fill_53178 ∈ lw_tbl := List.mem_of_getElem? (i := 118) (by decide +kernel)
theorem t_119 : Cond.code yJ7_fill_53178 cJ7_fill_53178 4 none ∈ lw_tbl := List.mem_of_getElem? (i := 119) (by decide +kernel)
theorem t_120 : Cond.fieldLink RX0 9 "PageTurns$Breaks" "kinds" "[I" ∈ lw_tbl := List.mem_of_getElem? (i := 120) (by decide +kernel)
theorem t_121 : Cond.fieldLink RX7 78 "PageTurns$Breaks" "kinds" "[I" ∈ lw_tbl := List.mem_of_getElem? (i := 121) (by decide +kernel)
theorem t_122 : Cond.fieldLink RX10 271 "PageTurns$Breaks" "kinds" "[I" ∈ lw_tbl := List.mem_of_getElem? (i := 122) (by decide +kernel)
theorem t_123 : Cond.fieldLink RX0 15 "PageTurns$Breaks" "parts" "[I" ∈ lw_tbl := List.mem_of_getElem? (i := 123) (by decide +kernel)
theorem t_124 : Cond.fieldLink RX7 74 "PageTurns$Breaks" "parts" "[I" ∈ lw_tbl := List.mem_of_getElem? (i := 124) (by decide +kernel)
theorem t_125 : Cond.fieldLink RX10 274 "PageTurns$Breaks" "parts" "[I" ∈ lw_tbl := List.mem_of_getElem? (i := 125) (by decide +kernel)
theorem t_126 : Cond.fieldLink RX0 18 "PageTurns$Breaks" "bars" "[I" ∈ lw_tbl := List.mem_of_getElem? (i := 126) (by decide +kernel)
theorem t_127 : Cond.fieldLink RX7 76 "PageTurns$Breaks" "bars" "[I" ∈ lw_tbl := List.mem_of_getElem? (i := 127) (by decide +kernel)
theorem t_128 : Cond.fieldLink RX10 276 "PageTurns$Breaks" "bars" "[I" ∈ lw_tbl := List.mem_of_getElem? (i := 128) (by decide +kernel)
theorem t_129 : Cond.fieldLink RX0 30 "PageTurns$Breaks" "number" "I" ∈ lw_tbl := List.mem_of_getElem? (i := 129) (by decide +kernel)
theorem t_130 : Cond.fieldLink RX7 71 "PageTurns$Breaks" "number" "I" ∈ lw_tbl := List.mem_of_getElem? (i := 130) (by decide +kernel)
theorem t_131 : Cond.fieldLink RX10 287 "PageTurns$Breaks" "number" "I" ∈ lw_tbl := List.mem_of_getElem? (i := 131) (by decide +kernel)
theorem t_132 : Cond.fieldLink RX0 21 "PageTurns$Breaks" "spots" "[I" ∈ lw_tbl := List.mem_of_getElem? (i := 132) (by decide +kernel)
theorem t_133 : Cond.fieldLink RX10 293 "PageTurns$Breaks" "spots" "[I" ∈ lw_tbl := List.mem_of_getElem? (i := 133) (by decide +kernel)
theorem t_145 : Cond.arrayClass FieldType.int ∈ lw_tbl := List.mem_of_getElem? (i := 145) (by decide +kernel)
theorem t_146 : Cond.instantiable RX5 3 ∈ lw_tbl := List.mem_of_getElem? (i := 146) (by decide +kernel)
theorem t_147 : Cond.methodLinkNest RX7 28 yX5_init RX10 ∈ lw_tbl := List.mem_of_getElem? (i := 147) (by decide +kernel)
theorem t_148 : Cond.instanceMethod yX5_init ∈ lw_tbl := List.mem_of_getElem? (i := 148) (by decide +kernel)
theorem t_149 : Cond.code yX5_init cX5_init 1 none ∈ lw_tbl := List.mem_of_getElem? (i := 149) (by decide +kernel)
theorem t_150 : Cond.methodLink RX5 3 objectInit ∈ lw_tbl := List.mem_of_getElem? (i := 150) (by decide +kernel)
theorem t_151 : Cond.fieldLink RX5 9 "PageTurns$Part" "traits" "[I" ∈ lw_tbl := List.mem_of_getElem? (i := 151) (by decide +kernel)
theorem t_152 : Cond.fieldLink RX10 81 "PageTurns$Part" "traits" "[I" ∈ lw_tbl := List.mem_of_getElem? (i := 152) (by decide +kernel)
theorem t_153 : Cond.fieldLink RX7 46 "PageTurns$Part" "traits" "[I" ∈ lw_tbl := List.mem_of_getElem? (i := 153) (by decide +kernel)
theorem t_154 : Cond.fieldLink RX5 15 "PageTurns$Part" "facts" "[I" ∈ lw_tbl := List.mem_of_getElem? (i := 154) (by decide +kernel)
theorem t_155 : Cond.fieldLink RX4 15 "PageTurns$Part" "bars" "I" ∈ lw_tbl := List.mem_of_getElem? (i := 155) (by decide +kernel)
theorem t_156 : Cond.fieldLink RX5 18 "PageTurns$Part" "bars" "I" ∈ lw_tbl := List.mem_of_getElem? (i := 156) (by decide +kernel)
theorem t_157 : Cond.fieldLink RX1 39 "PageTurns$Part" "bars" "I" ∈ lw_tbl := List.mem_of_getElem? (i := 157) (by decide +kernel)
theorem t_158 : Cond.fieldLink RX7 42 "PageTurns$Part" "bars" "I" ∈ lw_tbl := List.mem_of_getElem? (i := 158) (by decide +kernel)
theorem t_159 : Cond.fieldLink RX3 35 "PageTurns$Part" "bars" "I" ∈ lw_tbl := List.mem_of_getElem? (i := 159) (by decide +kernel)
theorem t_160 : Cond.fieldLink RX10 140 "PageTurns$Part" "bars" "I" ∈ lw_tbl := List.mem_of_getElem? (i := 160) (by decide +kernel)
theorem t_168 : Cond.fieldLink RX7 11 "PageTurns$State" "parts" "[LPageTurns$Part;" ∈ lw_tbl := List.mem_of_getElem? (i := 168) (by decide +kernel)
theorem t_169 : Cond.fieldLink RX1 33 "PageTurns$State" "parts" "[LPageTurns$Part;" ∈ lw_tbl := List.mem_of_getElem? (i := 169) (by decide +kernel)
theorem t_170 : Cond.fieldLink RX10 77 "PageTurns$State" "parts" "[LPageTurns$Part;" ∈ lw_tbl := List.mem_of_getElem? (i := 170) (by decide +kernel)
theorem t_171 : Cond.fieldLink RX7 17 "PageTurns$State" "rules" "[I" ∈ lw_tbl := List.mem_of_getElem? (i := 171) (by decide +kernel)
theorem t_172 : Cond.fieldLink RX10 95 "PageTurns$State" "rules" "[I" ∈ lw_tbl := List.mem_of_getElem? (i := 172) (by decide +kernel)
theorem t_173 : Cond.fieldLink RX7 24 "PageTurns$State" "breaks" "LPageTurns$Breaks;" ∈ lw_tbl := List.mem_of_getElem? (i := 173) (by decide +kernel)
theorem t_174 : Cond.fieldLink RX10 152 "PageTurns$State" "breaks" "LPageTurns$Breaks;" ∈ lw_tbl := List.mem_of_getElem? (i := 174) (by decide +kernel)
theorem t_182 : Cond.classLink RX10 19 RX9 ∈ lw_tbl := List.mem_of_getElem? (i := 182) (by decide +kernel)
theorem t_183 : Cond.instantiable RX9 8 ∈ lw_tbl := List.mem_of_getElem? (i := 183) (by decide +kernel)
theorem t_184 : Cond.methodLinkNest RX10 21 yX9_init RX10 ∈ lw_tbl := List.mem_of_getElem? (i := 184) (by decide +kernel)
theorem t_185 : Cond.instanceMethod yX9_init ∈ lw_tbl := List.mem_of_getElem? (i := 185) (by decide +kernel)
theorem t_186 : Cond.code yX9_init cX9_init 1 none ∈ lw_tbl := List.mem_of_getElem? (i := 186) (by decide +kernel)
theorem t_187 : Cond.methodLink RX9 3 objectInit ∈ lw_tbl := List.mem_of_getElem? (i := 187) (by decide +kernel)
theorem t_188 : Cond.classLink RX9 9 RX8 ∈ lw_tbl := List.mem_of_getElem? (i := 188) (by decide +kernel)
theorem t_189 : Cond.instantiable RX8 6 ∈ lw_tbl := List.mem_of_getElem? (i := 189) (by decide +kernel)
theorem t_190 : Cond.methodLinkNest RX9 11 yX8_init RX10 ∈ lw_tbl := List.mem_of_getElem? (i := 190) (by decide +kernel)
theorem t_191 : Cond.instanceMethod yX8_init ∈ lw_tbl := List.mem_of_getElem? (i := 191) (by decide +kernel)
theorem t_192 : Cond.code yX8_init cX8_init 1 none ∈ lw_tbl := List.mem_of_getElem? (i := 192) (by decide +kernel)
theorem t_193 : Cond.methodLink RX8 3 objectInit ∈ lw_tbl := List.mem_of_getElem? (i := 193) (by decide +kernel)
theorem t_194 : Cond.fieldLink RX8 9 "PageTurns$Tape" "bytes" "[B" ∈ lw_tbl := List.mem_of_getElem? (i := 194) (by decide +kernel)
theorem t_195 : Cond.fieldLink RX8 25 "PageTurns$Tape" "length" "I" ∈ lw_tbl := List.mem_of_getElem? (i := 195) (by decide +kernel)
theorem t_196 : Cond.fieldLink RX10 115 "PageTurns$Tape" "length" "I" ∈ lw_tbl := List.mem_of_getElem? (i := 196) (by decide +kernel)
theorem t_197 : Cond.fieldLink RX8 15 "PageTurns$Tape" "kinds" "[I" ∈ lw_tbl := List.mem_of_getElem? (i := 197) (by decide +kernel)
theorem t_198 : Cond.fieldLink RX8 19 "PageTurns$Tape" "starts" "[I" ∈ lw_tbl := List.mem_of_getElem? (i := 198) (by decide +kernel)
theorem t_199 : Cond.fieldLink RX8 22 "PageTurns$Tape" "values" "[I" ∈ lw_tbl := List.mem_of_getElem? (i := 199) (by decide +kernel)
theorem t_200 : Cond.fieldLink RX8 33 "PageTurns$Tape" "tokens" "I" ∈ lw_tbl := List.mem_of_getElem? (i := 200) (by decide +kernel)
theorem t_214 : Cond.arrayClass FieldType.byte ∈ lw_tbl := List.mem_of_getElem? (i := 214) (by decide +kernel)
theorem t_215 : Cond.fieldLink RX9 12 "PageTurns$TextReader" "tape" "LPageTurns$Tape;" ∈ lw_tbl := List.mem_of_getElem? (i := 215) (by decide +kernel)
theorem t_216 : Cond.fieldLink RX10 101 "PageTurns$TextReader" "tape" "LPageTurns$Tape;" ∈ lw_tbl := List.mem_of_getElem? (i := 216) (by decide +kernel)
theorem t_217 : Cond.fieldLink RX9 31 "PageTurns$TextReader" "at" "I" ∈ lw_tbl := List.mem_of_getElem? (i := 217) (by decide +kernel)
theorem t_218 : Cond.fieldLink RX9 18 "PageTurns$TextReader" "facts" "[I" ∈ lw_tbl := List.mem_of_getElem? (i := 218) (by decide +kernel)
theorem t_219 : Cond.fieldLink RX10 127 "PageTurns$TextReader" "facts" "[I" ∈ lw_tbl := List.mem_of_getElem? (i := 219) (by decide +kernel)
theorem t_220 : Cond.fieldLink RX9 35 "PageTurns$TextReader" "bars" "I" ∈ lw_tbl := List.mem_of_getElem? (i := 220) (by decide +kernel)
theorem t_221 : Cond.fieldLink RX10 130 "PageTurns$TextReader" "bars" "I" ∈ lw_tbl := List.mem_of_getElem? (i := 221) (by decide +kernel)
theorem t_222 : Cond.fieldLink RX9 38 "PageTurns$TextReader" "isOver" "Z" ∈ lw_tbl := List.mem_of_getElem? (i := 222) (by decide +kernel)
theorem t_223 : Cond.fieldLink RX10 123 "PageTurns$TextReader" "isOver" "Z" ∈ lw_tbl := List.mem_of_getElem? (i := 223) (by decide +kernel)
theorem t_224 : Cond.fieldLink RX9 42 "PageTurns$TextReader" "open" "I" ∈ lw_tbl := List.mem_of_getElem? (i := 224) (by decide +kernel)
theorem t_225 : Cond.fieldLink RX9 22 "PageTurns$TextReader" "times" "[I" ∈ lw_tbl := List.mem_of_getElem? (i := 225) (by decide +kernel)
theorem t_226 : Cond.fieldLink RX9 25 "PageTurns$TextReader" "firstBar" "[I" ∈ lw_tbl := List.mem_of_getElem? (i := 226) (by decide +kernel)
theorem t_244 : Cond.classLink RX10 26 RX6 ∈ lw_tbl := List.mem_of_getElem? (i := 244) (by decide +kernel)
theorem t_245 : Cond.arrayOver (FieldType.object "PageTurns$Sheet") ∈ lw_tbl := List.mem_of_getElem? (i := 245) (by decide +kernel)
theorem t_246 : Cond.classLink RX10 32 RX4 ∈ lw_tbl := List.mem_of_getElem? (i := 246) (by decide +kernel)
theorem t_247 : Cond.arrayOver (FieldType.object "PageTurns$PageTable") ∈ lw_tbl := List.mem_of_getElem? (i := 247) (by decide +kernel)
theorem t_248 : Cond.classLink RX10 38 RX2 ∈ lw_tbl := List.mem_of_getElem? (i := 248) (by decide +kernel)
theorem t_249 : Cond.arrayOver (FieldType.object "PageTurns$Laying") ∈ lw_tbl := List.mem_of_getElem? (i := 249) (by decide +kernel)
theorem t_250 : Cond.classLink RX10 44 RX1 ∈ lw_tbl := List.mem_of_getElem? (i := 250) (by decide +kernel)
theorem t_251 : Cond.instantiable RX1 8 ∈ lw_tbl := List.mem_of_getElem? (i := 251) (by decide +kernel)
theorem t_252 : Cond.methodLinkNest RX10 46 yX1_init RX10 ∈ lw_tbl := List.mem_of_getElem? (i := 252) (by decide +kernel)
theorem t_253 : Cond.instanceMethod yX1_init ∈ lw_tbl := List.mem_of_getElem? (i := 253) (by decide +kernel)
theorem t_254 : Cond.code yX1_init cX1_init 1 none ∈ lw_tbl := List.mem_of_getElem? (i := 254) (by decide +kernel)
theorem t_255 : Cond.methodLink RX1 3 objectInit ∈ lw_tbl := List.mem_of_getElem? (i := 255) (by decide +kernel)
theorem t_256 : Cond.classLink RX1 9 RX3 ∈ lw_tbl := List.mem_of_getElem? (i := 256) (by decide +kernel)
theorem t_257 : Cond.instantiable RX3 3 ∈ lw_tbl := List.mem_of_getElem? (i := 257) (by decide +kernel)
theorem t_258 : Cond.methodLinkNest RX1 11 yX3_init RX10 ∈ lw_tbl := List.mem_of_getElem? (i := 258) (by decide +kernel)
theorem t_259 : Cond.instanceMethod yX3_init ∈ lw_tbl := List.mem_of_getElem? (i := 259) (by decide +kernel)
theorem t_260 : Cond.code yX3_init cX3_init 1 none ∈ lw_tbl := List.mem_of_getElem? (i := 260) (by decide +kernel)
theorem t_261 : Cond.methodLink RX3 3 objectInit ∈ lw_tbl := List.mem_of_getElem? (i := 261) (by decide +kernel)
theorem t_262 : Cond.fieldLink RX3 9 "PageTurns$LineTable" "costs" "[I" ∈ lw_tbl := List.mem_of_getElem? (i := 262) (by decide +kernel)
theorem t_263 : Cond.fieldLink RX3 15 "PageTurns$LineTable" "widest" "[I" ∈ lw_tbl := List.mem_of_getElem? (i := 263) (by decide +kernel)
theorem t_264 : Cond.fieldLink RX3 18 "PageTurns$LineTable" "cheapest" "[I" ∈ lw_tbl := List.mem_of_getElem? (i := 264) (by decide +kernel)
theorem t_272 : Cond.fieldLink RX1 12 "PageTurns$Engraver" "lines" "LPageTurns$LineTable;" ∈ lw_tbl := List.mem_of_getElem? (i := 272) (by decide +kernel)
theorem t_273 : Cond.fieldLink RX10 178 "PageTurns$Engraver" "lines" "LPageTurns$LineTable;" ∈ lw_tbl := List.mem_of_getElem? (i := 273) (by decide +kernel)
theorem t_274 : Cond.fieldLink RX1 18 "PageTurns$Engraver" "ease" "[I" ∈ lw_tbl := List.mem_of_getElem? (i := 274) (by decide +kernel)
theorem t_275 : Cond.fieldLink RX1 22 "PageTurns$Engraver" "starts" "[I" ∈ lw_tbl := List.mem_of_getElem? (i := 275) (by decide +kernel)
theorem t_276 : Cond.fieldLink RX1 25 "PageTurns$Engraver" "worths" "[J" ∈ lw_tbl := List.mem_of_getElem? (i := 276) (by decide +kernel)
theorem t_277 : Cond.fieldLink RX1 29 "PageTurns$Engraver" "pageEnds" "[B" ∈ lw_tbl := List.mem_of_getElem? (i := 277) (by decide +kernel)
theorem t_278 : Cond.fieldLink RX1 74 "PageTurns$Engraver" "turning" "I" ∈ lw_tbl := List.mem_of_getElem? (i := 278) (by decide +kernel)
theorem t_279 : Cond.fieldLink RX1 77 "PageTurns$Engraver" "need" "I" ∈ lw_tbl := List.mem_of_getElem? (i := 279) (by decide +kernel)
theorem t_280 : Cond.fieldLink RX1 80 "PageTurns$Engraver" "paper" "I" ∈ lw_tbl := List.mem_of_getElem? (i := 280) (by decide +kernel)
theorem t_298 : Cond.arrayClass FieldType.long ∈ lw_tbl := List.mem_of_getElem? (i := 298) (by decide +kernel)
theorem t_299 : Cond.instantiable RX6 3 ∈ lw_tbl := List.mem_of_getElem? (i := 299) (by decide +kernel)
theorem t_300 : Cond.methodLinkNest RX10 55 yX6_init RX10 ∈ lw_tbl := List.mem_of_getElem? (i := 300) (by decide +kernel)
theorem t_301 : Cond.instanceMethod yX6_init ∈ lw_tbl := List.mem_of_getElem? (i := 301) (by decide +kernel)
theorem t_302 : Cond.code yX6_init cX6_init 1 none ∈ lw_tbl := List.mem_of_getElem? (i := 302) (by decide +kernel)
theorem t_303 : Cond.methodLink RX6 3 objectInit ∈ lw_tbl := List.mem_of_getElem? (i := 303) (by decide +kernel)
theorem t_304 : Cond.fieldLink RX6 9 "PageTurns$Sheet" "numbers" "[I" ∈ lw_tbl := List.mem_of_getElem? (i := 304) (by decide +kernel)
theorem t_305 : Cond.fieldLink RX10 318 "PageTurns$Sheet" "numbers" "[I" ∈ lw_tbl := List.mem_of_getElem? (i := 305) (by decide +kernel)
theorem t_306 : Cond.fieldLink RX6 15 "PageTurns$Sheet" "bits" "I" ∈ lw_tbl := List.mem_of_getElem? (i := 306) (by decide +kernel)
theorem t_307 : Cond.fieldLink RX10 312 "PageTurns$Sheet" "bits" "I" ∈ lw_tbl := List.mem_of_getElem? (i := 307) (by decide +kernel)
theorem t_308 : Cond.fieldLink RX6 19 "PageTurns$Sheet" "length" "I" ∈ lw_tbl := List.mem_of_getElem? (i := 308) (by decide +kernel)
theorem t_309 : Cond.fieldLink RX10 327 "PageTurns$Sheet" "length" "I" ∈ lw_tbl := List.mem_of_getElem? (i := 309) (by decide +kernel)
theorem t_317 : Cond.instantiable RX4 3 ∈ lw_tbl := List.mem_of_getElem? (i := 317) (by decide +kernel)
theorem t_318 : Cond.methodLinkNest RX10 56 yX4_init RX10 ∈ lw_tbl := List.mem_of_getElem? (i := 318) (by decide +kernel)
theorem t_319 : Cond.instanceMethod yX4_init ∈ lw_tbl := List.mem_of_getElem? (i := 319) (by decide +kernel)
theorem t_320 : Cond.code yX4_init cX4_init 1 none ∈ lw_tbl := List.mem_of_getElem? (i := 320) (by decide +kernel)
theorem t_321 : Cond.methodLink RX4 3 objectInit ∈ lw_tbl := List.mem_of_getElem? (i := 321) (by decide +kernel)
theorem t_322 : Cond.fieldLink RX4 9 "PageTurns$PageTable" "leasts" "[I" ∈ lw_tbl := List.mem_of_getElem? (i := 322) (by decide +kernel)
theorem t_323 : Cond.fieldLink RX4 21 "PageTurns$PageTable" "bars" "I" ∈ lw_tbl := List.mem_of_getElem? (i := 323) (by decide +kernel)
theorem t_324 : Cond.fieldLink RX1 57 "PageTurns$PageTable" "bars" "I" ∈ lw_tbl := List.mem_of_getElem? (i := 324) (by decide +kernel)
theorem t_325 : Cond.fieldLink RX4 22 "PageTurns$PageTable" "isFresh" "Z" ∈ lw_tbl := List.mem_of_getElem? (i := 325) (by decide +kernel)
theorem t_326 : Cond.fieldLink RX10 350 "PageTurns$PageTable" "isFresh" "Z" ∈ lw_tbl := List.mem_of_getElem? (i := 326) (by decide +kernel)
theorem t_334 : Cond.instantiable RX2 13 ∈ lw_tbl := List.mem_of_getElem? (i := 334) (by decide +kernel)
theorem t_335 : Cond.methodLinkNest RX10 57 yX2_init RX10 ∈ lw_tbl := List.mem_of_getElem? (i := 335) (by decide +kernel)
theorem t_336 : Cond.instanceMethod yX2_init ∈ lw_tbl := List.mem_of_getElem? (i := 336) (by decide +kernel)
theorem t_337 : Cond.code yX2_init cX2_init 1 none ∈ lw_tbl := List.mem_of_getElem? (i := 337) (by decide +kernel)
theorem t_338 : Cond.methodLink RX2 3 objectInit ∈ lw_tbl := List.mem_of_getElem? (i := 338) (by decide +kernel)
theorem t_339 : Cond.fieldLink RX2 33 "PageTurns$Laying" "pages" "I" ∈ lw_tbl := List.mem_of_getElem? (i := 339) (by decide +kernel)
theorem t_340 : Cond.fieldLink RX10 220 "PageTurns$Laying" "pages" "I" ∈ lw_tbl := List.mem_of_getElem? (i := 340) (by decide +kernel)
theorem t_341 : Cond.fieldLink RX2 37 "PageTurns$Laying" "lines" "I" ∈ lw_tbl := List.mem_of_getElem? (i := 341) (by decide +kernel)
theorem t_342 : Cond.fieldLink RX10 223 "PageTurns$Laying" "lines" "I" ∈ lw_tbl := List.mem_of_getElem? (i := 342) (by decide +kernel)
theorem t_343 : Cond.fieldLink RX2 40 "PageTurns$Laying" "stops" "I" ∈ lw_tbl := List.mem_of_getElem? (i := 343) (by decide +kernel)
theorem t_344 : Cond.fieldLink RX10 214 "PageTurns$Laying" "stops" "I" ∈ lw_tbl := List.mem_of_getElem? (i := 344) (by decide +kernel)
theorem t_345 : Cond.fieldLink RX2 43 "PageTurns$Laying" "turns" "I" ∈ lw_tbl := List.mem_of_getElem? (i := 345) (by decide +kernel)
theorem t_346 : Cond.fieldLink RX10 225 "PageTurns$Laying" "turns" "I" ∈ lw_tbl := List.mem_of_getElem? (i := 346) (by decide +kernel)
theorem t_347 : Cond.fieldLink RX2 46 "PageTurns$Laying" "cost" "I" ∈ lw_tbl := List.mem_of_getElem? (i := 347) (by decide +kernel)
theorem t_348 : Cond.fieldLink RX10 217 "PageTurns$Laying" "cost" "I" ∈ lw_tbl := List.mem_of_getElem? (i := 348) (by decide +kernel)
theorem t_349 : Cond.fieldLink RX2 49 "PageTurns$Laying" "isFresh" "Z" ∈ lw_tbl := List.mem_of_getElem? (i := 349) (by decide +kernel)
theorem t_350 : Cond.fieldLink RX10 356 "PageTurns$Laying" "isFresh" "Z" ∈ lw_tbl := List.mem_of_getElem? (i := 350) (by decide +kernel)
theorem t_351 : Cond.fieldLink RX2 9 "PageTurns$Laying" "first" "[I" ∈ lw_tbl := List.mem_of_getElem? (i := 351) (by decide +kernel)
theorem t_352 : Cond.fieldLink RX2 15 "PageTurns$Laying" "last" "[I" ∈ lw_tbl := List.mem_of_getElem? (i := 352) (by decide +kernel)
theorem t_353 : Cond.fieldLink RX10 329 "PageTurns$Laying" "last" "[I" ∈ lw_tbl := List.mem_of_getElem? (i := 353) (by decide +kernel)
theorem t_354 : Cond.fieldLink RX2 18 "PageTurns$Laying" "size" "[I" ∈ lw_tbl := List.mem_of_getElem? (i := 354) (by decide +kernel)
theorem t_355 : Cond.fieldLink RX2 21 "PageTurns$Laying" "linesOn" "[I" ∈ lw_tbl := List.mem_of_getElem? (i := 355) (by decide +kernel)
theorem t_356 : Cond.fieldLink RX2 24 "PageTurns$Laying" "costOf" "[I" ∈ lw_tbl := List.mem_of_getElem? (i := 356) (by decide +kernel)
theorem t_357 : Cond.fieldLink RX2 27 "PageTurns$Laying" "lineEnd" "[I" ∈ lw_tbl := List.mem_of_getElem? (i := 357) (by decide +kernel)
theorem t_358 : Cond.fieldLink RX10 231 "PageTurns$Laying" "lineEnd" "[I" ∈ lw_tbl := List.mem_of_getElem? (i := 358) (by decide +kernel)
theorem t_359 : Cond.fieldLink RX2 30 "PageTurns$Laying" "turnBehind" "[I" ∈ lw_tbl := List.mem_of_getElem? (i := 359) (by decide +kernel)
theorem t_360 : Cond.fieldLink RX10 257 "PageTurns$Laying" "turnBehind" "[I" ∈ lw_tbl := List.mem_of_getElem? (i := 360) (by decide +kernel)
theorem t_388 : Cond.fieldLink RX10 10 "PageTurns" "now" "LPageTurns$State;" ∈ lw_tbl := List.mem_of_getElem? (i := 388) (by decide +kernel)
theorem t_389 : Cond.fieldLink RX10 16 "PageTurns" "kept" "LPageTurns$State;" ∈ lw_tbl := List.mem_of_getElem? (i := 389) (by decide +kernel)
theorem t_390 : Cond.fieldLink RX10 336 "PageTurns" "isKept" "Z" ∈ lw_tbl := List.mem_of_getElem? (i := 390) (by decide +kernel)
theorem t_391 : Cond.fieldLink RX10 22 "PageTurns" "reader" "LPageTurns$TextReader;" ∈ lw_tbl := List.mem_of_getElem? (i := 391) (by decide +kernel)
theorem t_392 : Cond.fieldLink RX10 28 "PageTurns" "sheets" "[LPageTurns$Sheet;" ∈ lw_tbl := List.mem_of_getElem? (i := 392) (by decide +kernel)
theorem t_393 : Cond.fieldLink RX10 34 "PageTurns" "tables" "[LPageTurns$PageTable;" ∈ lw_tbl := List.mem_of_getElem? (i := 393) (by decide +kernel)
theorem t_394 : Cond.fieldLink RX10 40 "PageTurns" "layings" "[LPageTurns$Laying;" ∈ lw_tbl := List.mem_of_getElem? (i := 394) (by decide +kernel)
theorem t_395 : Cond.fieldLink RX10 47 "PageTurns" "engraver" "LPageTurns$Engraver;" ∈ lw_tbl := List.mem_of_getElem? (i := 395) (by decide +kernel)
theorem t_396 : Cond.fieldLink RX10 51 "PageTurns" "told" "[I" ∈ lw_tbl := List.mem_of_getElem? (i := 396) (by decide +kernel)
theorem t_416 : Cond.methodLink RL 13 yX10_set ∈ lw_tbl := List.mem_of_getElem? (i := 416) (by decide +kernel)
theorem t_417 : Cond.instanceMethod yX10_set ∈ lw_tbl := List.mem_of_getElem? (i := 417) (by decide +kernel)
theorem t_418 : Cond.selects RX10 yX10_set yX10_set ∈ lw_tbl := List.mem_of_getElem? (i := 418) (by decide +kernel)
theorem t_419 : Cond.code yX10_set cX10_set 6 (some FieldType.int) ∈ lw_tbl := List.mem_of_getElem? (i := 419) (by decide +kernel)
theorem t_420 : Cond.methodLink RX10 58 yX10_isPart ∈ lw_tbl := List.mem_of_getElem? (i := 420) (by decide +kernel)
theorem t_421 : Cond.static yX10_isPart ∈ lw_tbl := List.mem_of_getElem? (i := 421) (by decide +kernel)
theorem t_422 : Cond.code yX10_isPart cX10_isPart 1 (some FieldType.boolean) ∈ lw_tbl := List.mem_of_getElem? (i := 422) (by decide +kernel)
theorem t_423 : Cond.methodLink RX10 62 yX10_within ∈ lw_tbl := List.mem_of_getElem? (i := 423) (by decide +kernel)
theorem t_424 : Cond.static yX10_within ∈ lw_tbl := List.mem_of_getElem? (i := 424) (by decide +kernel)
theorem t_425 : Cond.code yX10_within cX10_within 3 (some FieldType.boolean) ∈ lw_tbl := List.mem_of_getElem? (i := 425) (by decide +kernel)
theorem t_426 : Cond.fieldLink RX10 66 "PageTurns" "TRAIT_LEAST" "[I" ∈ lw_tbl := List.mem_of_getElem? (i := 426) (by decide +kernel)
theorem t_428 : Cond.fieldLink RX10 69 "PageTurns" "TRAIT_MOST" "[I" ∈ lw_tbl := List.mem_of_getElem? (i := 428) (by decide +kernel)
theorem t_430 : Cond.constant RX10 72 (-1000001) ∈ lw_tbl := List.mem_of_getElem? (i := 430) (by decide +kernel)
theorem t_431 : Cond.methodLink RX10 73 yX10_tell ∈ lw_tbl := List.mem_of_getElem? (i := 431) (by decide +kernel)
theorem t_433 : Cond.instanceMethod yX10_tell ∈ lw_tbl := List.mem_of_getElem? (i := 433) (by decide +kernel)
theorem t_434 : Cond.code yX10_tell cX10_tell 3 (some FieldType.int) ∈ lw_tbl := List.mem_of_getElem? (i := 434) (by decide +kernel)
theorem t_435 : Cond.methodLink RX10 86 yX10_forgetLayings ∈ lw_tbl := List.mem_of_getElem? (i := 435) (by decide +kernel)
theorem t_437 : Cond.instanceMethod yX10_forgetLayings ∈ lw_tbl := List.mem_of_getElem? (i := 437) (by decide +kernel)
theorem t_438 : Cond.code yX10_forgetLayings cX10_forgetLayings 2 none ∈ lw_tbl := List.mem_of_getElem? (i := 438) (by decide +kernel)
theorem t_439 : Cond.methodLink RL 18 yX10_rule ∈ lw_tbl := List.mem_of_getElem? (i := 439) (by decide +kernel)
theorem t_440 : Cond.instanceMethod yX10_rule ∈ lw_tbl := List.mem_of_getElem? (i := 440) (by decide +kernel)
theorem t_441 : Cond.selects RX10 yX10_rule yX10_rule ∈ lw_tbl := List.mem_of_getElem? (i := 441) (by decide +kernel)
theorem t_442 : Cond.code yX10_rule cX10_rule 4 (some FieldType.int) ∈ lw_tbl := List.mem_of_getElem? (i := 442) (by decide +kernel)
theorem t_443 : Cond.fieldLink RX10 89 "PageTurns" "RULE_LEAST" "[I" ∈ lw_tbl := List.mem_of_getElem? (i := 443) (by decide +kernel)
theorem t_445 : Cond.fieldLink RX10 92 "PageTurns" "RULE_MOST" "[I" ∈ lw_tbl := List.mem_of_getElem? (i := 445) (by decide +kernel)
theorem t_447 : Cond.methodLink RX10 98 yX10_forgetAll ∈ lw_tbl := List.mem_of_getElem? (i := 447) (by decide +kernel)
theorem t_449 : Cond.instanceMethod yX10_forgetAll ∈ lw_tbl := List.mem_of_getElem? (i := 449) (by decide +kernel)
theorem t_450 : Cond.code yX10_forgetAll cX10_forgetAll 2 none ∈ lw_tbl := List.mem_of_getElem? (i := 450) (by decide +kernel)
theorem t_451 : Cond.methodLink RX10 137 yX10_forgetPart ∈ lw_tbl := List.mem_of_getElem? (i := 451) (by decide +kernel)
theorem t_453 : Cond.instanceMethod yX10_forgetPart ∈ lw_tbl := List.mem_of_getElem? (i := 453) (by decide +kernel)
theorem t_454 : Cond.code yX10_forgetPart cX10_forgetPart 2 none ∈ lw_tbl := List.mem_of_getElem? (i := 454) (by decide +kernel)
theorem t_455 : Cond.methodLink RL 23 yX10_feed ∈ lw_tbl := List.mem_of_getElem? (i := 455) (by decide +kernel)
theorem t_456 : Cond.instanceMethod yX10_feed ∈ lw_tbl := List.mem_of_getElem? (i := 456) (by decide +kernel)
theorem t_457 : Cond.selects RX10 yX10_feed yX10_feed ∈ lw_tbl := List.mem_of_getElem? (i := 457) (by decide +kernel)
theorem t_458 : Cond.code yX10_feed cX10_feed 5 (some FieldType.int) ∈ lw_tbl := List.mem_of_getElem? (i := 458) (by decide +kernel)
theorem t_459 : Cond.methodLink RX10 105 yX8_hasRoomFor ∈ lw_tbl := List.mem_of_getElem? (i := 459) (by decide +kernel)
theorem t_460 : Cond.instanceMethod yX8_hasRoomFor ∈ lw_tbl := List.mem_of_getElem? (i := 460) (by decide +kernel)
theorem t_461 : Cond.selects RX8 yX8_hasRoomFor yX8_hasRoomFor ∈ lw_tbl := List.mem_of_getElem? (i := 461) (by decide +kernel)
theorem t_462 : Cond.code yX8_hasRoomFor cX8_hasRoomFor 2 (some FieldType.boolean) ∈ lw_tbl := List.mem_of_getElem? (i := 462) (by decide +kernel)
theorem t_463 : Cond.constant RX10 110 (-1000002) ∈ lw_tbl := List.mem_of_getElem? (i := 463) (by decide +kernel)
theorem t_464 : Cond.methodLink RX10 111 yX8_put ∈ lw_tbl := List.mem_of_getElem? (i := 464) (by decide +kernel)
theorem t_465 : Cond.instanceMethod yX8_put ∈ lw_tbl := List.mem_of_getElem? (i := 465) (by decide +kernel)
theorem t_466 : Cond.selects RX8 yX8_put yX8_put ∈ lw_tbl := List.mem_of_getElem? (i := 466) (by decide +kernel)
theorem t_467 : Cond.code yX8_put cX8_put 2 none ∈ lw_tbl := List.mem_of_getElem? (i := 467) (by decide +kernel)
theorem t_468 : Cond.methodLink RX8 29 yX8_hasRoomFor ∈ lw_tbl := List.mem_of_getElem? (i := 468) (by decide +kernel)
theorem t_469 : Cond.methodLink RL 27 yX10_wipe ∈ lw_tbl := List.mem_of_getElem? (i := 469) (by decide +kernel)
theorem t_470 : Cond.instanceMethod yX10_wipe ∈ lw_tbl := List.mem_of_getElem? (i := 470) (by decide +kernel)
theorem t_471 : Cond.selects RX10 yX10_wipe yX10_wipe ∈ lw_tbl := List.mem_of_getElem? (i := 471) (by decide +kernel)
theorem t_472 : Cond.code yX10_wipe cX10_wipe 2 (some FieldType.int) ∈ lw_tbl := List.mem_of_getElem? (i := 472) (by decide +kernel)
theorem t_473 : Cond.methodLink RL 32 yX10_read ∈ lw_tbl := List.mem_of_getElem? (i := 473) (by decide +kernel)
theorem t_474 : Cond.instanceMethod yX10_read ∈ lw_tbl := List.mem_of_getElem? (i := 474) (by decide +kernel)
theorem t_475 : Cond.selects RX10 yX10_read yX10_read ∈ lw_tbl := List.mem_of_getElem? (i := 475) (by decide +kernel)
theorem t_476 : Cond.code yX10_read cX10_read 4 (some FieldType.int) ∈ lw_tbl := List.mem_of_getElem? (i := 476) (by decide +kernel)
theorem t_477 : Cond.methodLink RX10 119 yX9_findFault ∈ lw_tbl := List.mem_of_getElem? (i := 477) (by decide +kernel)
theorem t_478 : Cond.instanceMethod yX9_findFault ∈ lw_tbl := List.mem_of_getElem? (i := 478) (by decide +kernel)
theorem t_479 : Cond.selects RX9 yX9_findFault yX9_findFault ∈ lw_tbl := List.mem_of_getElem? (i := 479) (by decide +kernel)
theorem t_480 : Cond.code yX9_findFault cX9_findFault 5 (some FieldType.int) ∈ lw_tbl := List.mem_of_getElem? (i := 480) (by decide +kernel)
theorem t_481 : Cond.methodLink RX9 28 yX8_split ∈ lw_tbl := List.mem_of_getElem? (i := 481) (by decide +kernel)
theorem t_482 : Cond.instanceMethod yX8_split ∈ lw_tbl := List.mem_of_getElem? (i := 482) (by decide +kernel)
theorem t_483 : Cond.selects RX8 yX8_split yX8_split ∈ lw_tbl := List.mem_of_getElem? (i := 483) (by decide +kernel)
theorem t_484 : Cond.code yX8_split cX8_split 3 none ∈ lw_tbl := List.mem_of_getElem? (i := 484) (by decide +kernel)
theorem t_485 : Cond.methodLink RX8 40 yX8_behindToken ∈ lw_tbl := List.mem_of_getElem? (i := 485) (by decide +kernel)
theorem t_487 : Cond.instanceMethod yX8_behindToken ∈ lw_tbl := List.mem_of_getElem? (i := 487) (by decide +kernel)
theorem t_488 : Cond.code yX8_behindToken cX8_behindToken 3 (some FieldType.int) ∈ lw_tbl := List.mem_of_getElem? (i := 488) (by decide +kernel)
theorem t_489 : Cond.methodLink RX8 47 yX8_isLetter ∈ lw_tbl := List.mem_of_getElem? (i := 489) (by decide +kernel)
theorem t_491 : Cond.instanceMethod yX8_isLetter ∈ lw_tbl := List.mem_of_getElem? (i := 491) (by decide +kernel)
theorem t_492 : Cond.code yX8_isLetter cX8_isLetter 2 (some FieldType.boolean) ∈ lw_tbl := List.mem_of_getElem? (i := 492) (by decide +kernel)
theorem t_493 : Cond.methodLink RX8 50 yX8_isDigit ∈ lw_tbl := List.mem_of_getElem? (i := 493) (by decide +kernel)
theorem t_495 : Cond.instanceMethod yX8_isDigit ∈ lw_tbl := List.mem_of_getElem? (i := 495) (by decide +kernel)
theorem t_496 : Cond.code yX8_isDigit cX8_isDigit 2 (some FieldType.boolean) ∈ lw_tbl := List.mem_of_getElem? (i := 496) (by decide +kernel)
theorem t_497 : Cond.methodLink RX8 43 yX8_addToken ∈ lw_tbl := List.mem_of_getElem? (i := 497) (by decide +kernel)
theorem t_499 : Cond.instanceMethod yX8_addToken ∈ lw_tbl := List.mem_of_getElem? (i := 499) (by decide +kernel)
theorem t_500 : Cond.code yX8_addToken cX8_addToken 3 none ∈ lw_tbl := List.mem_of_getElem? (i := 500) (by decide +kernel)
theorem t_501 : Cond.methodLink RX8 53 yX8_wordNumber ∈ lw_tbl := List.mem_of_getElem? (i := 501) (by decide +kernel)
theorem t_503 : Cond.instanceMethod yX8_wordNumber ∈ lw_tbl := List.mem_of_getElem? (i := 503) (by decide +kernel)
theorem t_504 : Cond.code yX8_wordNumber cX8_wordNumber 3 (some FieldType.int) ∈ lw_tbl := List.mem_of_getElem? (i := 504) (by decide +kernel)
theorem t_506 : Cond.methodLink RX8 67 yX8_spells ∈ lw_tbl := List.mem_of_getElem? (i := 506) (by decide +kernel)
theorem t_508 : Cond.instanceMethod yX8_spells ∈ lw_tbl := List.mem_of_getElem? (i := 508) (by decide +kernel)
theorem t_509 : Cond.code yX8_spells cX8_spells 5 (some FieldType.boolean) ∈ lw_tbl := List.mem_of_getElem? (i := 509) (by decide +kernel)
theorem t_510 : Cond.methodLink RX8 83 yJ0_length_8abf5 ∈ lw_tbl := List.mem_of_getElem? (i := 510) (by decide +kernel)
theorem t_511 : Cond.instanceMethod yJ0_length_8abf5 ∈ lw_tbl := List.mem_of_getElem? (i := 511) (by decide +kernel)
theorem t_512 : Cond.selects RJ0 yJ0_length_8abf5 yJ0_length_8abf5 ∈ lw_tbl := List.mem_of_getElem? (i := 512) (by decide +kernel)
theorem t_513 : Cond.code yJ0_length_8abf5 cJ0_length_8abf5 1 (some FieldType.int) ∈ lw_tbl := List.mem_of_getElem? (i := 513) (by decide +kernel)
theorem t_514 : Cond.methodLink RJ0 335 yJ0_coder_7d493 ∈ lw_tbl := List.mem_of_getElem? (i := 514) (by decide +kernel)
theorem t_515 : Cond.instanceMethod yJ0_coder_7d493 ∈ lw_tbl := List.mem_of_getElem? (i := 515) (by decide +kernel)
theorem t_516 : Cond.selects RJ0 yJ0_coder_7d493 yJ0_coder_7d493 ∈ lw_tbl := List.mem_of_getElem? (i := 516) (by decide +kernel)
theorem t_517 : Cond.code yJ0_coder_7d493 cJ0_coder_7d493 1 (some FieldType.byte) ∈ lw_tbl := List.mem_of_getElem? (i := 517) (by decide +kernel)
theorem t_518 : Cond.fieldLink RJ0 38 "java/lang/String" "COMPACT_STRINGS" "Z" ∈ lw_tbl := List.mem_of_getElem? (i := 518) (by decide +kernel)
theorem t_520 : Cond.methodLink RX8 88 yJ0_charAt_5068e ∈ lw_tbl := List.mem_of_getElem? (i := 520) (by decide +kernel)
theorem t_521 : Cond.instanceMethod yJ0_charAt_5068e ∈ lw_tbl := List.mem_of_getElem? (i := 521) (by decide +kernel)
theorem t_522 : Cond.selects RJ0 yJ0_charAt_5068e yJ0_charAt_5068e ∈ lw_tbl := List.mem_of_getElem? (i := 522) (by decide +kernel)
theorem t_523 : Cond.code yJ0_charAt_5068e cJ0_charAt_5068e 2 (some FieldType.char) ∈ lw_tbl := List.mem_of_getElem? (i := 523) (by decide +kernel)
theorem t_524 : Cond.methodLink RJ0 492 yJ0_isLatin1_aae02 ∈ lw_tbl := List.mem_of_getElem? (i := 524) (by decide +kernel)
theorem t_525 : Cond.instanceMethod yJ0_isLatin1_aae02 ∈ lw_tbl := List.mem_of_getElem? (i := 525) (by decide +kernel)
theorem t_526 : Cond.selects RJ0 yJ0_isLatin1_aae02 yJ0_isLatin1_aae02 ∈ lw_tbl := List.mem_of_getElem? (i := 526) (by decide +kernel)
theorem t_527 : Cond.code yJ0_isLatin1_aae02 cJ0_isLatin1_aae02 1 (some FieldType.boolean) ∈ lw_tbl := List.mem_of_getElem? (i := 527) (by decide +kernel)
theorem t_528 : Cond.methodLink RJ0 495 yJ1_charAt_3b067 ∈ lw_tbl := List.mem_of_getElem? (i := 528) (by decide +kernel)
theorem t_529 : Cond.static yJ1_charAt_3b067 ∈ lw_tbl := List.mem_of_getElem? (i := 529) (by decide +kernel)
theorem t_530 : Cond.code yJ1_charAt_3b067 cJ1_charAt_3b067 2 (some FieldType.char) ∈ lw_tbl := List.mem_of_getElem? (i := 530) (by decide +kernel)
theorem t_531 : Cond.methodLink RJ1 9 yJ0_checkIndex_df160 ∈ lw_tbl := List.mem_of_getElem? (i := 531) (by decide +kernel)
theorem t_532 : Cond.static yJ0_checkIndex_df160 ∈ lw_tbl := List.mem_of_getElem? (i := 532) (by decide +kernel)
theorem t_533 : Cond.code yJ0_checkIndex_df160 cJ0_checkIndex_df160 2 none ∈ lw_tbl := List.mem_of_getElem? (i := 533) (by decide +kernel)
theorem t_534 : Cond.fieldLink RJ0 1053 "jdk/internal/util/Preconditions" "SIOOBE_FORMATTER" "Ljava/util/function/BiFunction;" ∈ lw_tbl := List.mem_of_getElem? (i := 534) (by decide +kernel)
theorem t_536 : Cond.methodLink RJ0 1059 yJ3_checkIndex_8e157 ∈ lw_tbl := List.mem_of_getElem? (i := 536) (by decide +kernel)
theorem t_537 : Cond.static yJ3_checkIndex_8e157 ∈ lw_tbl := List.mem_of_getElem? (i := 537) (by decide +kernel)
theorem t_538 : Cond.code yJ3_checkIndex_8e157 cJ3_checkIndex_8e157 3 (some FieldType.int) ∈ lw_tbl := List.mem_of_getElem? (i := 538) (by decide +kernel)
theorem t_539 : Cond.methodLink RJ0 498 yJ2_charAt_3b067 ∈ lw_tbl := List.mem_of_getElem? (i := 539) (by decide +kernel)
theorem t_540 : Cond.static yJ2_charAt_3b067 ∈ lw_tbl := List.mem_of_getElem? (i := 540) (by decide +kernel)
theorem t_541 : Cond.code yJ2_charAt_3b067 cJ2_charAt_3b067 2 (some FieldType.char) ∈ lw_tbl := List.mem_of_getElem? (i := 541) (by decide +kernel)
theorem t_542 : Cond.methodLink RJ2 67 yJ2_checkIndex_2214a ∈ lw_tbl := List.mem_of_getElem? (i := 542) (by decide +kernel)
theorem t_543 : Cond.static yJ2_checkIndex_2214a ∈ lw_tbl := List.mem_of_getElem? (i := 543) (by decide +kernel)
theorem t_544 : Cond.code yJ2_checkIndex_2214a cJ2_checkIndex_2214a 2 none ∈ lw_tbl := List.mem_of_getElem? (i := 544) (by decide +kernel)
theorem t_545 : Cond.methodLink RJ2 48 yJ2_length_9d52b ∈ lw_tbl := List.mem_of_getElem? (i := 545) (by decide +kernel)
theorem t_546 : Cond.static yJ2_length_9d52b ∈ lw_tbl := List.mem_of_getElem? (i := 546) (by decide +kernel)
theorem t_547 : Cond.code yJ2_length_9d52b cJ2_length_9d52b 1 (some FieldType.int) ∈ lw_tbl := List.mem_of_getElem? (i := 547) (by decide +kernel)
theorem t_548 : Cond.methodLink RJ2 414 yJ0_checkIndex_df160 ∈ lw_tbl := List.mem_of_getElem? (i := 548) (by decide +kernel)
theorem t_549 : Cond.methodLink RJ2 71 yJ2_getChar_3b067 ∈ lw_tbl := List.mem_of_getElem? (i := 549) (by decide +kernel)
theorem t_550 : Cond.static yJ2_getChar_3b067 ∈ lw_tbl := List.mem_of_getElem? (i := 550) (by decide +kernel)
theorem t_551 : Cond.code yJ2_getChar_3b067 cJ2_getChar_3b067 2 (some FieldType.char) ∈ lw_tbl := List.mem_of_getElem? (i := 551) (by decide +kernel)
theorem t_552 : Cond.fieldLink RJ2 44 "java/lang/StringUTF16" "$assertionsDisabled" "Z" ∈ lw_tbl := List.mem_of_getElem? (i := 552) (by decide +kernel)
theorem t_554 : Cond.fieldLink RJ2 59 "java/lang/StringUTF16" "HI_BYTE_SHIFT" "I" ∈ lw_tbl := List.mem_of_getElem? (i := 554) (by decide +kernel)
theorem t_556 : Cond.fieldLink RJ2 63 "java/lang/StringUTF16" "LO_BYTE_SHIFT" "I" ∈ lw_tbl := List.mem_of_getElem? (i := 556) (by decide +kernel)
theorem t_564 : Cond.methodLink RX8 57 yX8_numberValue ∈ lw_tbl := List.mem_of_getElem? (i := 564) (by decide +kernel)
theorem t_566 : Cond.instanceMethod yX8_numberValue ∈ lw_tbl := List.mem_of_getElem? (i := 566) (by decide +kernel)
theorem t_567 : Cond.code yX8_numberValue cX8_numberValue 5 (some FieldType.int) ∈ lw_tbl := List.mem_of_getElem? (i := 567) (by decide +kernel)
theorem t_568 : Cond.methodLink RX8 60 yJ9_min_7cf53 ∈ lw_tbl := List.mem_of_getElem? (i := 568) (by decide +kernel)
theorem t_569 : Cond.static yJ9_min_7cf53 ∈ lw_tbl := List.mem_of_getElem? (i := 569) (by decide +kernel)
theorem t_570 : Cond.code yJ9_min_7cf53 cJ9_min_7cf53 2 (some FieldType.int) ∈ lw_tbl := List.mem_of_getElem? (i := 570) (by decide +kernel)
theorem t_571 : Cond.methodLink RX9 45 yX8_kindOf ∈ lw_tbl := List.mem_of_getElem? (i := 571) (by decide +kernel)
theorem t_572 : Cond.instanceMethod yX8_kindOf ∈ lw_tbl := List.mem_of_getElem? (i := 572) (by decide +kernel)
theorem t_573 : Cond.selects RX8 yX8_kindOf yX8_kindOf ∈ lw_tbl := List.mem_of_getElem? (i := 573) (by decide +kernel)
theorem t_574 : Cond.code yX8_kindOf cX8_kindOf 2 (some FieldType.int) ∈ lw_tbl := List.mem_of_getElem? (i := 574) (by decide +kernel)
theorem t_575 : Cond.methodLink RX8 36 yX8_known ∈ lw_tbl := List.mem_of_getElem? (i := 575) (by decide +kernel)
theorem t_577 : Cond.instanceMethod yX8_known ∈ lw_tbl := List.mem_of_getElem? (i := 577) (by decide +kernel)
theorem t_578 : Cond.code yX8_known cX8_known 2 (some FieldType.int) ∈ lw_tbl := List.mem_of_getElem? (i := 578) (by decide +kernel)
theorem t_579 : Cond.methodLink RX9 49 yX9_takeOpening ∈ lw_tbl := List.mem_of_getElem? (i := 579) (by decide +kernel)
theorem t_581 : Cond.instanceMethod yX9_takeOpening ∈ lw_tbl := List.mem_of_getElem? (i := 581) (by decide +kernel)
theorem t_582 : Cond.code yX9_takeOpening cX9_takeOpening 2 (some FieldType.boolean) ∈ lw_tbl := List.mem_of_getElem? (i := 582) (by decide +kernel)
theorem t_583 : Cond.methodLink RX9 62 yX9_isNumber ∈ lw_tbl := List.mem_of_getElem? (i := 583) (by decide +kernel)
theorem t_585 : Cond.instanceMethod yX9_isNumber ∈ lw_tbl := List.mem_of_getElem? (i := 585) (by decide +kernel)
theorem t_586 : Cond.code yX9_isNumber cX9_isNumber 3 (some FieldType.boolean) ∈ lw_tbl := List.mem_of_getElem? (i := 586) (by decide +kernel)
theorem t_587 : Cond.methodLink RX9 66 yX8_valueOf ∈ lw_tbl := List.mem_of_getElem? (i := 587) (by decide +kernel)
theorem t_588 : Cond.instanceMethod yX8_valueOf ∈ lw_tbl := List.mem_of_getElem? (i := 588) (by decide +kernel)
theorem t_589 : Cond.selects RX8 yX8_valueOf yX8_valueOf ∈ lw_tbl := List.mem_of_getElem? (i := 589) (by decide +kernel)
theorem t_590 : Cond.code yX8_valueOf cX8_valueOf 2 (some FieldType.int) ∈ lw_tbl := List.mem_of_getElem? (i := 590) (by decide +kernel)
theorem t_591 : Cond.methodLinkNest RX9 91 yX10_within RX10 ∈ lw_tbl := List.mem_of_getElem? (i := 591) (by decide +kernel)
theorem t_592 : Cond.methodLink RX9 53 yX9_takeBar ∈ lw_tbl := List.mem_of_getElem? (i := 592) (by decide +kernel)
theorem t_594 : Cond.instanceMethod yX9_takeBar ∈ lw_tbl := List.mem_of_getElem? (i := 594) (by decide +kernel)
theorem t_595 : Cond.code yX9_takeBar cX9_takeBar 4 (some FieldType.boolean) ∈ lw_tbl := List.mem_of_getElem? (i := 595) (by decide +kernel)
theorem t_596 : Cond.methodLink RX9 79 yX9_isWord ∈ lw_tbl := List.mem_of_getElem? (i := 596) (by decide +kernel)
theorem t_598 : Cond.instanceMethod yX9_isWord ∈ lw_tbl := List.mem_of_getElem? (i := 598) (by decide +kernel)
theorem t_599 : Cond.code yX9_isWord cX9_isWord 2 (some FieldType.boolean) ∈ lw_tbl := List.mem_of_getElem? (i := 599) (by decide +kernel)
theorem t_600 : Cond.methodLink RX9 83 yX9_takeMarks ∈ lw_tbl := List.mem_of_getElem? (i := 600) (by decide +kernel)
theorem t_602 : Cond.instanceMethod yX9_takeMarks ∈ lw_tbl := List.mem_of_getElem? (i := 602) (by decide +kernel)
theorem t_603 : Cond.code yX9_takeMarks cX9_takeMarks 3 (some FieldType.int) ∈ lw_tbl := List.mem_of_getElem? (i := 603) (by decide +kernel)
theorem t_604 : Cond.methodLink RX9 87 yX9_addBar ∈ lw_tbl := List.mem_of_getElem? (i := 604) (by decide +kernel)
theorem t_606 : Cond.instanceMethod yX9_addBar ∈ lw_tbl := List.mem_of_getElem? (i := 606) (by decide +kernel)
theorem t_607 : Cond.code yX9_addBar cX9_addBar 6 none ∈ lw_tbl := List.mem_of_getElem? (i := 607) (by decide +kernel)
theorem t_608 : Cond.methodLink RX9 56 yX9_takeClosing ∈ lw_tbl := List.mem_of_getElem? (i := 608) (by decide +kernel)
theorem t_610 : Cond.instanceMethod yX9_takeClosing ∈ lw_tbl := List.mem_of_getElem? (i := 610) (by decide +kernel)
theorem t_611 : Cond.code yX9_takeClosing cX9_takeClosing 3 (some FieldType.boolean) ∈ lw_tbl := List.mem_of_getElem? (i := 611) (by decide +kernel)
theorem t_612 : Cond.methodLink RX9 69 yX9_repeatLast ∈ lw_tbl := List.mem_of_getElem? (i := 612) (by decide +kernel)
theorem t_614 : Cond.instanceMethod yX9_repeatLast ∈ lw_tbl := List.mem_of_getElem? (i := 614) (by decide +kernel)
theorem t_615 : Cond.code yX9_repeatLast cX9_repeatLast 2 none ∈ lw_tbl := List.mem_of_getElem? (i := 615) (by decide +kernel)
theorem t_616 : Cond.methodLink RX9 73 ⟨RJ10, "arraycopy", "(Ljava/lang/Object;ILjava/lang/Object;II)V"⟩ ∈ lw_tbl := List.mem_of_getElem? (i := 616) (by decide +kernel)
theorem t_617 : Cond.static ⟨RJ10, "arraycopy", "(Ljava/lang/Object;ILjava/lang/Object;II)V"⟩ ∈ lw_tbl := List.mem_of_getElem? (i := 617) (by decide +kernel)
theorem t_618 : Cond.native ⟨RJ10, "arraycopy", "(Ljava/lang/Object;ILjava/lang/Object;II)V"⟩ ∈ lw_tbl := List.mem_of_getElem? (i := 618) (by decide +kernel)
theorem t_619 : Cond.methodLink RX9 59 yX8_startOf ∈ lw_tbl := List.mem_of_getElem? (i := 619) (by decide +kernel)
theorem t_620 : Cond.instanceMethod yX8_startOf ∈ lw_tbl := List.mem_of_getElem? (i := 620) (by decide +kernel)
theorem t_621 : Cond.selects RX8 yX8_startOf yX8_startOf ∈ lw_tbl := List.mem_of_getElem? (i := 621) (by decide +kernel)
theorem t_622 : Cond.code yX8_startOf cX8_startOf 2 (some FieldType.int) ∈ lw_tbl := List.mem_of_getElem? (i := 622) (by decide +kernel)
theorem t_623 : Cond.methodLink RX10 133 yX5_append ∈ lw_tbl := List.mem_of_getElem? (i := 623) (by decide +kernel)
theorem t_624 : Cond.instanceMethod yX5_append ∈ lw_tbl := List.mem_of_getElem? (i := 624) (by decide +kernel)
theorem t_625 : Cond.selects RX5 yX5_append yX5_append ∈ lw_tbl := List.mem_of_getElem? (i := 625) (by decide +kernel)
theorem t_626 : Cond.code yX5_append cX5_append 3 (some FieldType.boolean) ∈ lw_tbl := List.mem_of_getElem? (i := 626) (by decide +kernel)
theorem t_627 : Cond.methodLink RX5 22 ⟨RJ10, "arraycopy", "(Ljava/lang/Object;ILjava/lang/Object;II)V"⟩ ∈ lw_tbl := List.mem_of_getElem? (i := 627) (by decide +kernel)
theorem t_628 : Cond.methodLink RL 37 yX10_bar ∈ lw_tbl := List.mem_of_getElem? (i := 628) (by decide +kernel)
theorem t_629 : Cond.instanceMethod yX10_bar ∈ lw_tbl := List.mem_of_getElem? (i := 629) (by decide +kernel)
theorem t_630 : Cond.selects RX10 yX10_bar yX10_bar ∈ lw_tbl := List.mem_of_getElem? (i := 630) (by decide +kernel)
theorem t_631 : Cond.code yX10_bar cX10_bar 4 (some FieldType.int) ∈ lw_tbl := List.mem_of_getElem? (i := 631) (by decide +kernel)
theorem t_632 : Cond.methodLink RX10 141 yX10_isBar ∈ lw_tbl := List.mem_of_getElem? (i := 632) (by decide +kernel)
theorem t_634 : Cond.instanceMethod yX10_isBar ∈ lw_tbl := List.mem_of_getElem? (i := 634) (by decide +kernel)
theorem t_635 : Cond.code yX10_isBar cX10_isBar 3 (some FieldType.boolean) ∈ lw_tbl := List.mem_of_getElem? (i := 635) (by decide +kernel)
theorem t_636 : Cond.methodLink RX10 328 yX5_has ∈ lw_tbl := List.mem_of_getElem? (i := 636) (by decide +kernel)
theorem t_637 : Cond.instanceMethod yX5_has ∈ lw_tbl := List.mem_of_getElem? (i := 637) (by decide +kernel)
theorem t_638 : Cond.selects RX5 yX5_has yX5_has ∈ lw_tbl := List.mem_of_getElem? (i := 638) (by decide +kernel)
theorem t_639 : Cond.code yX5_has cX5_has 2 (some FieldType.boolean) ∈ lw_tbl := List.mem_of_getElem? (i := 639) (by decide +kernel)
theorem t_640 : Cond.methodLink RX10 145 yX5_fact ∈ lw_tbl := List.mem_of_getElem? (i := 640) (by decide +kernel)
theorem t_641 : Cond.instanceMethod yX5_fact ∈ lw_tbl := List.mem_of_getElem? (i := 641) (by decide +kernel)
theorem t_642 : Cond.selects RX5 yX5_fact yX5_fact ∈ lw_tbl := List.mem_of_getElem? (i := 642) (by decide +kernel)
theorem t_643 : Cond.code yX5_fact cX5_fact 3 (some FieldType.int) ∈ lw_tbl := List.mem_of_getElem? (i := 643) (by decide +kernel)
theorem t_644 : Cond.methodLink RL 41 yX10_change ∈ lw_tbl := List.mem_of_getElem? (i := 644) (by decide +kernel)
theorem t_645 : Cond.instanceMethod yX10_change ∈ lw_tbl := List.mem_of_getElem? (i := 645) (by decide +kernel)
theorem t_646 : Cond.selects RX10 yX10_change yX10_change ∈ lw_tbl := List.mem_of_getElem? (i := 646) (by decide +kernel)
theorem t_647 : Cond.code yX10_change cX10_change 9 (some FieldType.int) ∈ lw_tbl := List.mem_of_getElem? (i := 647) (by decide +kernel)
theorem t_648 : Cond.methodLink RX10 149 yX5_put ∈ lw_tbl := List.mem_of_getElem? (i := 648) (by decide +kernel)
theorem t_649 : Cond.instanceMethod yX5_put ∈ lw_tbl := List.mem_of_getElem? (i := 649) (by decide +kernel)
theorem t_650 : Cond.selects RX5 yX5_put yX5_put ∈ lw_tbl := List.mem_of_getElem? (i := 650) (by decide +kernel)
theorem t_651 : Cond.code yX5_put cX5_put 4 none ∈ lw_tbl := List.mem_of_getElem? (i := 651) (by decide +kernel)
theorem t_652 : Cond.methodLink RL 46 yX10_cut ∈ lw_tbl := List.mem_of_getElem? (i := 652) (by decide +kernel)
theorem t_653 : Cond.instanceMethod yX10_cut ∈ lw_tbl := List.mem_of_getElem? (i := 653) (by decide +kernel)
theorem t_654 : Cond.selects RX10 yX10_cut yX10_cut ∈ lw_tbl := List.mem_of_getElem? (i := 654) (by decide +kernel)
theorem t_655 : Cond.code yX10_cut cX10_cut 4 (some FieldType.int) ∈ lw_tbl := List.mem_of_getElem? (i := 655) (by decide +kernel)
theorem t_656 : Cond.methodLink RX10 156 yX0_ofPart ∈ lw_tbl := List.mem_of_getElem? (i := 656) (by decide +kernel)
theorem t_657 : Cond.instanceMethod yX0_ofPart ∈ lw_tbl := List.mem_of_getElem? (i := 657) (by decide +kernel)
theorem t_658 : Cond.selects RX0 yX0_ofPart yX0_ofPart ∈ lw_tbl := List.mem_of_getElem? (i := 658) (by decide +kernel)
theorem t_659 : Cond.code yX0_ofPart cX0_ofPart 4 (some FieldType.int) ∈ lw_tbl := List.mem_of_getElem? (i := 659) (by decide +kernel)
theorem t_660 : Cond.constant RX10 161 (-1000005) ∈ lw_tbl := List.mem_of_getElem? (i := 660) (by decide +kernel)
theorem t_661 : Cond.methodLink RX10 162 yX5_drop ∈ lw_tbl := List.mem_of_getElem? (i := 661) (by decide +kernel)
theorem t_662 : Cond.instanceMethod yX5_drop ∈ lw_tbl := List.mem_of_getElem? (i := 662) (by decide +kernel)
theorem t_663 : Cond.selects RX5 yX5_drop yX5_drop ∈ lw_tbl := List.mem_of_getElem? (i := 663) (by decide +kernel)
theorem t_664 : Cond.code yX5_drop cX5_drop 4 none ∈ lw_tbl := List.mem_of_getElem? (i := 664) (by decide +kernel)
theorem t_665 : Cond.methodLink RL 50 yX10_free ∈ lw_tbl := List.mem_of_getElem? (i := 665) (by decide +kernel)
theorem t_666 : Cond.instanceMethod yX10_free ∈ lw_tbl := List.mem_of_getElem? (i := 666) (by decide +kernel)
theorem t_667 : Cond.selects RX10 yX10_free yX10_free ∈ lw_tbl := List.mem_of_getElem? (i := 667) (by decide +kernel)
theorem t_668 : Cond.code yX10_free cX10_free 5 (some FieldType.int) ∈ lw_tbl := List.mem_of_getElem? (i := 668) (by decide +kernel)
theorem t_669 : Cond.methodLink RX10 166 yX5_freeBehind ∈ lw_tbl := List.mem_of_getElem? (i := 669) (by decide +kernel)
theorem t_670 : Cond.instanceMethod yX5_freeBehind ∈ lw_tbl := List.mem_of_getElem? (i := 670) (by decide +kernel)
theorem t_671 : Cond.selects RX5 yX5_freeBehind yX5_freeBehind ∈ lw_tbl := List.mem_of_getElem? (i := 671) (by decide +kernel)
theorem t_672 : Cond.code yX5_freeBehind cX5_freeBehind 4 (some FieldType.int) ∈ lw_tbl := List.mem_of_getElem? (i := 672) (by decide +kernel)
theorem t_673 : Cond.methodLink RX5 32 yX5_freeBeats ∈ lw_tbl := List.mem_of_getElem? (i := 673) (by decide +kernel)
theorem t_675 : Cond.instanceMethod yX5_freeBeats ∈ lw_tbl := List.mem_of_getElem? (i := 675) (by decide +kernel)
theorem t_676 : Cond.code yX5_freeBeats cX5_freeBeats 8 (some FieldType.int) ∈ lw_tbl := List.mem_of_getElem? (i := 676) (by decide +kernel)
theorem t_677 : Cond.methodLink RX5 41 yX5_has ∈ lw_tbl := List.mem_of_getElem? (i := 677) (by decide +kernel)
theorem t_678 : Cond.methodLink RX5 28 yX5_fact ∈ lw_tbl := List.mem_of_getElem? (i := 678) (by decide +kernel)
theorem t_679 : Cond.methodLink RX5 36 yJ9_max_7cf53 ∈ lw_tbl := List.mem_of_getElem? (i := 679) (by decide +kernel)
theorem t_680 : Cond.static yJ9_max_7cf53 ∈ lw_tbl := List.mem_of_getElem? (i := 680) (by decide +kernel)
theorem t_681 : Cond.code yJ9_max_7cf53 cJ9_max_7cf53 2 (some FieldType.int) ∈ lw_tbl := List.mem_of_getElem? (i := 681) (by decide +kernel)
theorem t_682 : Cond.methodLink RL 54 yX10_room ∈ lw_tbl := List.mem_of_getElem? (i := 682) (by decide +kernel)
theorem t_683 : Cond.instanceMethod yX10_room ∈ lw_tbl := List.mem_of_getElem? (i := 683) (by decide +kernel)
theorem t_684 : Cond.selects RX10 yX10_room yX10_room ∈ lw_tbl := List.mem_of_getElem? (i := 684) (by decide +kernel)
theorem t_685 : Cond.code yX10_room cX10_room 4 (some FieldType.int) ∈ lw_tbl := List.mem_of_getElem? (i := 685) (by decide +kernel)
theorem t_686 : Cond.methodLink RX10 169 yX10_isSize ∈ lw_tbl := List.mem_of_getElem? (i := 686) (by decide +kernel)
theorem t_687 : Cond.static yX10_isSize ∈ lw_tbl := List.mem_of_getElem? (i := 687) (by decide +kernel)
theorem t_688 : Cond.code yX10_isSize cX10_isSize 1 (some FieldType.boolean) ∈ lw_tbl := List.mem_of_getElem? (i := 688) (by decide +kernel)
theorem t_689 : Cond.methodLink RX10 172 yX5_roomAt ∈ lw_tbl := List.mem_of_getElem? (i := 689) (by decide +kernel)
theorem t_690 : Cond.instanceMethod yX5_roomAt ∈ lw_tbl := List.mem_of_getElem? (i := 690) (by decide +kernel)
theorem t_691 : Cond.selects RX5 yX5_roomAt yX5_roomAt ∈ lw_tbl := List.mem_of_getElem? (i := 691) (by decide +kernel)
theorem t_692 : Cond.code yX5_roomAt cX5_roomAt 3 (some FieldType.int) ∈ lw_tbl := List.mem_of_getElem? (i := 692) (by decide +kernel)
theorem t_693 : Cond.methodLink RL 58 yX10_line ∈ lw_tbl := List.mem_of_getElem? (i := 693) (by decide +kernel)
theorem t_694 : Cond.instanceMethod yX10_line ∈ lw_tbl := List.mem_of_getElem? (i := 694) (by decide +kernel)
theorem t_695 : Cond.selects RX10 yX10_line yX10_line ∈ lw_tbl := List.mem_of_getElem? (i := 695) (by decide +kernel)
theorem t_696 : Cond.code yX10_line cX10_line 7 (some FieldType.int) ∈ lw_tbl := List.mem_of_getElem? (i := 696) (by decide +kernel)
theorem t_697 : Cond.methodLink RX10 175 yX10_isStretch ∈ lw_tbl := List.mem_of_getElem? (i := 697) (by decide +kernel)
theorem t_699 : Cond.instanceMethod yX10_isStretch ∈ lw_tbl := List.mem_of_getElem? (i := 699) (by decide +kernel)
theorem t_700 : Cond.code yX10_isStretch cX10_isStretch 4 (some FieldType.boolean) ∈ lw_tbl := List.mem_of_getElem? (i := 700) (by decide +kernel)
theorem t_701 : Cond.methodLink RX10 182 yX3_fillFrom ∈ lw_tbl := List.mem_of_getElem? (i := 701) (by decide +kernel)
theorem t_702 : Cond.instanceMethod yX3_fillFrom ∈ lw_tbl := List.mem_of_getElem? (i := 702) (by decide +kernel)
theorem t_703 : Cond.selects RX3 yX3_fillFrom yX3_fillFrom ∈ lw_tbl := List.mem_of_getElem? (i := 703) (by decide +kernel)
theorem t_704 : Cond.code yX3_fillFrom cX3_fillFrom 11 none ∈ lw_tbl := List.mem_of_getElem? (i := 704) (by decide +kernel)
theorem t_705 : Cond.methodLink RX3 25 yX5_roomAt ∈ lw_tbl := List.mem_of_getElem? (i := 705) (by decide +kernel)
theorem t_706 : Cond.methodLink RX3 31 yX5_isMarked ∈ lw_tbl := List.mem_of_getElem? (i := 706) (by decide +kernel)
theorem t_707 : Cond.instanceMethod yX5_isMarked ∈ lw_tbl := List.mem_of_getElem? (i := 707) (by decide +kernel)
theorem t_708 : Cond.selects RX5 yX5_isMarked yX5_isMarked ∈ lw_tbl := List.mem_of_getElem? (i := 708) (by decide +kernel)
theorem t_709 : Cond.code yX5_isMarked cX5_isMarked 3 (some FieldType.boolean) ∈ lw_tbl := List.mem_of_getElem? (i := 709) (by decide +kernel)
theorem t_710 : Cond.methodLink RX3 39 yX5_mayEndLine ∈ lw_tbl := List.mem_of_getElem? (i := 710) (by decide +kernel)
theorem t_711 : Cond.instanceMethod yX5_mayEndLine ∈ lw_tbl := List.mem_of_getElem? (i := 711) (by decide +kernel)
theorem t_712 : Cond.selects RX5 yX5_mayEndLine yX5_mayEndLine ∈ lw_tbl := List.mem_of_getElem? (i := 712) (by decide +kernel)
theorem t_713 : Cond.code yX5_mayEndLine cX5_mayEndLine 2 (some FieldType.boolean) ∈ lw_tbl := List.mem_of_getElem? (i := 713) (by decide +kernel)
theorem t_714 : Cond.constant RX3 43 (2147483647) ∈ lw_tbl := List.mem_of_getElem? (i := 714) (by decide +kernel)
theorem t_715 : Cond.methodLink RX10 188 yX3_fits ∈ lw_tbl := List.mem_of_getElem? (i := 715) (by decide +kernel)
theorem t_716 : Cond.instanceMethod yX3_fits ∈ lw_tbl := List.mem_of_getElem? (i := 716) (by decide +kernel)
theorem t_717 : Cond.selects RX3 yX3_fits yX3_fits ∈ lw_tbl := List.mem_of_getElem? (i := 717) (by decide +kernel)
theorem t_718 : Cond.code yX3_fits cX3_fits 3 (some FieldType.boolean) ∈ lw_tbl := List.mem_of_getElem? (i := 718) (by decide +kernel)
theorem t_719 : Cond.constant RX10 191 (-1000003) ∈ lw_tbl := List.mem_of_getElem? (i := 719) (by decide +kernel)
theorem t_720 : Cond.methodLink RX10 192 yX3_costOf ∈ lw_tbl := List.mem_of_getElem? (i := 720) (by decide +kernel)
theorem t_721 : Cond.instanceMethod yX3_costOf ∈ lw_tbl := List.mem_of_getElem? (i := 721) (by decide +kernel)
theorem t_722 : Cond.selects RX3 yX3_costOf yX3_costOf ∈ lw_tbl := List.mem_of_getElem? (i := 722) (by decide +kernel)
theorem t_723 : Cond.code yX3_costOf cX3_costOf 3 (some FieldType.int) ∈ lw_tbl := List.mem_of_getElem? (i := 723) (by decide +kernel)
theorem t_724 : Cond.constant RX10 195 (2147483647) ∈ lw_tbl := List.mem_of_getElem? (i := 724) (by decide +kernel)
theorem t_725 : Cond.methodLink RL 62 yX10_page ∈ lw_tbl := List.mem_of_getElem? (i := 725) (by decide +kernel)
theorem t_726 : Cond.instanceMethod yX10_page ∈ lw_tbl := List.mem_of_getElem? (i := 726) (by decide +kernel)
theorem t_727 : Cond.selects RX10 yX10_page yX10_page ∈ lw_tbl := List.mem_of_getElem? (i := 727) (by decide +kernel)
theorem t_728 : Cond.code yX10_page cX10_page 7 (some FieldType.int) ∈ lw_tbl := List.mem_of_getElem? (i := 728) (by decide +kernel)
theorem t_729 : Cond.methodLink RX10 196 yX3_fill ∈ lw_tbl := List.mem_of_getElem? (i := 729) (by decide +kernel)
theorem t_730 : Cond.instanceMethod yX3_fill ∈ lw_tbl := List.mem_of_getElem? (i := 730) (by decide +kernel)
theorem t_731 : Cond.selects RX3 yX3_fill yX3_fill ∈ lw_tbl := List.mem_of_getElem? (i := 731) (by decide +kernel)
theorem t_732 : Cond.code yX3_fill cX3_fill 7 none ∈ lw_tbl := List.mem_of_getElem? (i := 732) (by decide +kernel)
theorem t_733 : Cond.methodLink RX3 21 yX3_fillFrom ∈ lw_tbl := List.mem_of_getElem? (i := 733) (by decide +kernel)
theorem t_734 : Cond.methodLink RX10 199 yX3_fillPages ∈ lw_tbl := List.mem_of_getElem? (i := 734) (by decide +kernel)
theorem t_735 : Cond.instanceMethod yX3_fillPages ∈ lw_tbl := List.mem_of_getElem? (i := 735) (by decide +kernel)
theorem t_736 : Cond.selects RX3 yX3_fillPages yX3_fillPages ∈ lw_tbl := List.mem_of_getElem? (i := 736) (by decide +kernel)
theorem t_737 : Cond.code yX3_fillPages cX3_fillPages 7 none ∈ lw_tbl := List.mem_of_getElem? (i := 737) (by decide +kernel)
theorem t_738 : Cond.methodLink RX3 44 yX3_cheapestFrom ∈ lw_tbl := List.mem_of_getElem? (i := 738) (by decide +kernel)
theorem t_740 : Cond.instanceMethod yX3_cheapestFrom ∈ lw_tbl := List.mem_of_getElem? (i := 740) (by decide +kernel)
theorem t_741 : Cond.code yX3_cheapestFrom cX3_cheapestFrom 9 (some FieldType.int) ∈ lw_tbl := List.mem_of_getElem? (i := 741) (by decide +kernel)
theorem t_742 : Cond.methodLink RX3 48 yJ9_min_7cf53 ∈ lw_tbl := List.mem_of_getElem? (i := 742) (by decide +kernel)
theorem t_743 : Cond.methodLink RX10 202 yX3_pageCost ∈ lw_tbl := List.mem_of_getElem? (i := 743) (by decide +kernel)
theorem t_744 : Cond.instanceMethod yX3_pageCost ∈ lw_tbl := List.mem_of_getElem? (i := 744) (by decide +kernel)
theorem t_745 : Cond.selects RX3 yX3_pageCost yX3_pageCost ∈ lw_tbl := List.mem_of_getElem? (i := 745) (by decide +kernel)
theorem t_746 : Cond.code yX3_pageCost cX3_pageCost 3 (some FieldType.int) ∈ lw_tbl := List.mem_of_getElem? (i := 746) (by decide +kernel)
theorem t_747 : Cond.constant RX10 205 (-1000004) ∈ lw_tbl := List.mem_of_getElem? (i := 747) (by decide +kernel)
theorem t_748 : Cond.methodLink RL 66 yX10_best ∈ lw_tbl := List.mem_of_getElem? (i := 748) (by decide +kernel)
theorem t_749 : Cond.instanceMethod yX10_best ∈ lw_tbl := List.mem_of_getElem? (i := 749) (by decide +kernel)
theorem t_750 : Cond.selects RX10 yX10_best yX10_best ∈ lw_tbl := List.mem_of_getElem? (i := 750) (by decide +kernel)
theorem t_751 : Cond.code yX10_best cX10_best 4 (some FieldType.int) ∈ lw_tbl := List.mem_of_getElem? (i := 751) (by decide +kernel)
theorem t_752 : Cond.methodLink RX10 206 yX10_layingOf ∈ lw_tbl := List.mem_of_getElem? (i := 752) (by decide +kernel)
theorem t_754 : Cond.instanceMethod yX10_layingOf ∈ lw_tbl := List.mem_of_getElem? (i := 754) (by decide +kernel)
theorem t_755 : Cond.code yX10_layingOf cX10_layingOf 5 (some (FieldType.object "PageTurns$Laying")) ∈ lw_tbl := List.mem_of_getElem? (i := 755) (by decide +kernel)
theorem t_756 : Cond.methodLink RX10 237 yX10_tableOf ∈ lw_tbl := List.mem_of_getElem? (i := 756) (by decide +kernel)
theorem t_758 : Cond.instanceMethod yX10_tableOf ∈ lw_tbl := List.mem_of_getElem? (i := 758) (by decide +kernel)
theorem t_759 : Cond.code yX10_tableOf cX10_tableOf 3 (some (FieldType.object "PageTurns$PageTable")) ∈ lw_tbl := List.mem_of_getElem? (i := 759) (by decide +kernel)
theorem t_760 : Cond.methodLink RX10 353 yX4_fill ∈ lw_tbl := List.mem_of_getElem? (i := 760) (by decide +kernel)
theorem t_761 : Cond.instanceMethod yX4_fill ∈ lw_tbl := List.mem_of_getElem? (i := 761) (by decide +kernel)
theorem t_762 : Cond.selects RX4 yX4_fill yX4_fill ∈ lw_tbl := List.mem_of_getElem? (i := 762) (by decide +kernel)
theorem t_763 : Cond.code yX4_fill cX4_fill 6 none ∈ lw_tbl := List.mem_of_getElem? (i := 763) (by decide +kernel)
theorem t_764 : Cond.constant RX4 26 (2147483647) ∈ lw_tbl := List.mem_of_getElem? (i := 764) (by decide +kernel)
theorem t_765 : Cond.methodLink RX4 27 yJ7_fill_53178 ∈ lw_tbl := List.mem_of_getElem? (i := 765) (by decide +kernel)
theorem t_766 : Cond.methodLink RX4 33 yX3_fill ∈ lw_tbl := List.mem_of_getElem? (i := 766) (by decide +kernel)
theorem t_767 : Cond.methodLink RX4 38 yX5_mayEndLine ∈ lw_tbl := List.mem_of_getElem? (i := 767) (by decide +kernel)
theorem t_768 : Cond.methodLink RX4 42 yX3_fillPages ∈ lw_tbl := List.mem_of_getElem? (i := 768) (by decide +kernel)
theorem t_769 : Cond.methodLink RX4 46 yX4_takeCheaper ∈ lw_tbl := List.mem_of_getElem? (i := 769) (by decide +kernel)
theorem t_771 : Cond.instanceMethod yX4_takeCheaper ∈ lw_tbl := List.mem_of_getElem? (i := 771) (by decide +kernel)
theorem t_772 : Cond.code yX4_takeCheaper cX4_takeCheaper 8 none ∈ lw_tbl := List.mem_of_getElem? (i := 772) (by decide +kernel)
theorem t_773 : Cond.methodLink RX4 50 yX3_pageCost ∈ lw_tbl := List.mem_of_getElem? (i := 773) (by decide +kernel)
theorem t_774 : Cond.methodLink RX4 54 yJ9_min_7cf53 ∈ lw_tbl := List.mem_of_getElem? (i := 774) (by decide +kernel)
theorem t_775 : Cond.methodLink RX10 241 yX1_findEase ∈ lw_tbl := List.mem_of_getElem? (i := 775) (by decide +kernel)
theorem t_776 : Cond.instanceMethod yX1_findEase ∈ lw_tbl := List.mem_of_getElem? (i := 776) (by decide +kernel)
theorem t_777 : Cond.selects RX1 yX1_findEase yX1_findEase ∈ lw_tbl := List.mem_of_getElem? (i := 777) (by decide +kernel)
theorem t_778 : Cond.code yX1_findEase cX1_findEase 6 none ∈ lw_tbl := List.mem_of_getElem? (i := 778) (by decide +kernel)
theorem t_779 : Cond.methodLink RX1 45 yX5_freeBehind ∈ lw_tbl := List.mem_of_getElem? (i := 779) (by decide +kernel)
theorem t_780 : Cond.methodLink RX1 49 yX7_neighbourFree ∈ lw_tbl := List.mem_of_getElem? (i := 780) (by decide +kernel)
theorem t_781 : Cond.instanceMethod yX7_neighbourFree ∈ lw_tbl := List.mem_of_getElem? (i := 781) (by decide +kernel)
theorem t_782 : Cond.selects RX7 yX7_neighbourFree yX7_neighbourFree ∈ lw_tbl := List.mem_of_getElem? (i := 782) (by decide +kernel)
theorem t_783 : Cond.code yX7_neighbourFree cX7_neighbourFree 4 (some FieldType.int) ∈ lw_tbl := List.mem_of_getElem? (i := 783) (by decide +kernel)
theorem t_784 : Cond.methodLinkNest RX7 49 yX10_isPart RX10 ∈ lw_tbl := List.mem_of_getElem? (i := 784) (by decide +kernel)
theorem t_785 : Cond.methodLink RX7 53 yX5_has ∈ lw_tbl := List.mem_of_getElem? (i := 785) (by decide +kernel)
theorem t_786 : Cond.methodLink RX7 56 yX5_freeBehind ∈ lw_tbl := List.mem_of_getElem? (i := 786) (by decide +kernel)
theorem t_787 : Cond.methodLink RX1 52 yJ9_max_7cf53 ∈ lw_tbl := List.mem_of_getElem? (i := 787) (by decide +kernel)
theorem t_788 : Cond.methodLink RX10 357 yX1_weigh ∈ lw_tbl := List.mem_of_getElem? (i := 788) (by decide +kernel)
theorem t_789 : Cond.instanceMethod yX1_weigh ∈ lw_tbl := List.mem_of_getElem? (i := 789) (by decide +kernel)
theorem t_790 : Cond.selects RX1 yX1_weigh yX1_weigh ∈ lw_tbl := List.mem_of_getElem? (i := 790) (by decide +kernel)
theorem t_791 : Cond.code yX1_weigh cX1_weigh 7 none ∈ lw_tbl := List.mem_of_getElem? (i := 791) (by decide +kernel)
theorem t_792 : Cond.methodLink RX1 83 yJ7_fill_bad5a ∈ lw_tbl := List.mem_of_getElem? (i := 792) (by decide +kernel)
theorem t_793 : Cond.static yJ7_fill_bad5a ∈ lw_tbl := List.mem_of_getElem? (i := 793) (by decide +kernel)
theorem t_794 : Cond.code yJ7_fill_bad5a cJ7_fill_bad5a 6 none ∈ lw_tbl := List.mem_of_getElem? (i := 794) (by decide +kernel)
theorem t_795 : Cond.methodLink RJ7 13 yJ7_rangeCheck_23922 ∈ lw_tbl := List.mem_of_getElem? (i := 795) (by decide +kernel)
theorem t_796 : Cond.static yJ7_rangeCheck_23922 ∈ lw_tbl := List.mem_of_getElem? (i := 796) (by decide +kernel)
theorem t_797 : Cond.code yJ7_rangeCheck_23922 cJ7_rangeCheck_23922 3 none ∈ lw_tbl := List.mem_of_getElem? (i := 797) (by decide +kernel)
theorem t_798 : Cond.constantLong RX1 86 (9223372036854775807) ∈ lw_tbl := List.mem_of_getElem? (i := 798) (by decide +kernel)
theorem t_799 : Cond.methodLink RX1 66 yX4_hasPage ∈ lw_tbl := List.mem_of_getElem? (i := 799) (by decide +kernel)
theorem t_800 : Cond.instanceMethod yX4_hasPage ∈ lw_tbl := List.mem_of_getElem? (i := 800) (by decide +kernel)
theorem t_801 : Cond.selects RX4 yX4_hasPage yX4_hasPage ∈ lw_tbl := List.mem_of_getElem? (i := 801) (by decide +kernel)
theorem t_802 : Cond.code yX4_hasPage cX4_hasPage 3 (some FieldType.boolean) ∈ lw_tbl := List.mem_of_getElem? (i := 802) (by decide +kernel)
theorem t_803 : Cond.methodLink RX1 88 yX1_takeBetter ∈ lw_tbl := List.mem_of_getElem? (i := 803) (by decide +kernel)
theorem t_805 : Cond.instanceMethod yX1_takeBetter ∈ lw_tbl := List.mem_of_getElem? (i := 805) (by decide +kernel)
theorem t_806 : Cond.code yX1_takeBetter cX1_takeBetter 13 none ∈ lw_tbl := List.mem_of_getElem? (i := 806) (by decide +kernel)
theorem t_807 : Cond.methodLink RX1 92 yX4_costOf ∈ lw_tbl := List.mem_of_getElem? (i := 807) (by decide +kernel)
theorem t_808 : Cond.instanceMethod yX4_costOf ∈ lw_tbl := List.mem_of_getElem? (i := 808) (by decide +kernel)
theorem t_809 : Cond.selects RX4 yX4_costOf yX4_costOf ∈ lw_tbl := List.mem_of_getElem? (i := 809) (by decide +kernel)
theorem t_810 : Cond.code yX4_costOf cX4_costOf 3 (some FieldType.int) ∈ lw_tbl := List.mem_of_getElem? (i := 810) (by decide +kernel)
theorem t_811 : Cond.constantLong RX1 95 (64) ∈ lw_tbl := List.mem_of_getElem? (i := 811) (by decide +kernel)
theorem t_812 : Cond.methodLink RX1 97 yX1_following ∈ lw_tbl := List.mem_of_getElem? (i := 812) (by decide +kernel)
theorem t_813 : Cond.static yX1_following ∈ lw_tbl := List.mem_of_getElem? (i := 813) (by decide +kernel)
theorem t_814 : Cond.code yX1_following cX1_following 1 (some FieldType.int) ∈ lw_tbl := List.mem_of_getElem? (i := 814) (by decide +kernel)
theorem t_815 : Cond.constantLong RX1 100 (1099511627776) ∈ lw_tbl := List.mem_of_getElem? (i := 815) (by decide +kernel)
theorem t_816 : Cond.methodLink RX10 361 yX1_layOut ∈ lw_tbl := List.mem_of_getElem? (i := 816) (by decide +kernel)
theorem t_817 : Cond.instanceMethod yX1_layOut ∈ lw_tbl := List.mem_of_getElem? (i := 817) (by decide +kernel)
theorem t_818 : Cond.selects RX1 yX1_layOut yX1_layOut ∈ lw_tbl := List.mem_of_getElem? (i := 818) (by decide +kernel)
theorem t_819 : Cond.code yX1_layOut cX1_layOut 10 none ∈ lw_tbl := List.mem_of_getElem? (i := 819) (by decide +kernel)
theorem t_820 : Cond.methodLink RX1 102 yX2_begin ∈ lw_tbl := List.mem_of_getElem? (i := 820) (by decide +kernel)
theorem t_821 : Cond.instanceMethod yX2_begin ∈ lw_tbl := List.mem_of_getElem? (i := 821) (by decide +kernel)
theorem t_822 : Cond.selects RX2 yX2_begin yX2_begin ∈ lw_tbl := List.mem_of_getElem? (i := 822) (by decide +kernel)
theorem t_823 : Cond.code yX2_begin cX2_begin 1 none ∈ lw_tbl := List.mem_of_getElem? (i := 823) (by decide +kernel)
theorem t_824 : Cond.methodLink RX2 53 yJ7_fill_53178 ∈ lw_tbl := List.mem_of_getElem? (i := 824) (by decide +kernel)
theorem t_825 : Cond.methodLink RX1 107 yX4_sizeOf ∈ lw_tbl := List.mem_of_getElem? (i := 825) (by decide +kernel)
theorem t_826 : Cond.instanceMethod yX4_sizeOf ∈ lw_tbl := List.mem_of_getElem? (i := 826) (by decide +kernel)
theorem t_827 : Cond.selects RX4 yX4_sizeOf yX4_sizeOf ∈ lw_tbl := List.mem_of_getElem? (i := 827) (by decide +kernel)
theorem t_828 : Cond.code yX4_sizeOf cX4_sizeOf 3 (some FieldType.int) ∈ lw_tbl := List.mem_of_getElem? (i := 828) (by decide +kernel)
theorem t_829 : Cond.methodLink RX1 110 yX2_addPage ∈ lw_tbl := List.mem_of_getElem? (i := 829) (by decide +kernel)
theorem t_830 : Cond.instanceMethod yX2_addPage ∈ lw_tbl := List.mem_of_getElem? (i := 830) (by decide +kernel)
theorem t_831 : Cond.selects RX2 yX2_addPage yX2_addPage ∈ lw_tbl := List.mem_of_getElem? (i := 831) (by decide +kernel)
theorem t_832 : Cond.code yX2_addPage cX2_addPage 6 none ∈ lw_tbl := List.mem_of_getElem? (i := 832) (by decide +kernel)
theorem t_833 : Cond.methodLink RX1 114 yX1_turnOf ∈ lw_tbl := List.mem_of_getElem? (i := 833) (by decide +kernel)
theorem t_835 : Cond.instanceMethod yX1_turnOf ∈ lw_tbl := List.mem_of_getElem? (i := 835) (by decide +kernel)
theorem t_836 : Cond.code yX1_turnOf cX1_turnOf 4 (some FieldType.int) ∈ lw_tbl := List.mem_of_getElem? (i := 836) (by decide +kernel)
theorem t_837 : Cond.methodLink RX1 118 yX2_addTurn ∈ lw_tbl := List.mem_of_getElem? (i := 837) (by decide +kernel)
theorem t_838 : Cond.instanceMethod yX2_addTurn ∈ lw_tbl := List.mem_of_getElem? (i := 838) (by decide +kernel)
theorem t_839 : Cond.selects RX2 yX2_addTurn yX2_addTurn ∈ lw_tbl := List.mem_of_getElem? (i := 839) (by decide +kernel)
theorem t_840 : Cond.code yX2_addTurn cX2_addTurn 3 none ∈ lw_tbl := List.mem_of_getElem? (i := 840) (by decide +kernel)
theorem t_841 : Cond.methodLink RX1 122 yX3_fill ∈ lw_tbl := List.mem_of_getElem? (i := 841) (by decide +kernel)
theorem t_842 : Cond.methodLink RX1 125 yX3_fillPages ∈ lw_tbl := List.mem_of_getElem? (i := 842) (by decide +kernel)
theorem t_843 : Cond.methodLink RX1 129 yX1_addLines ∈ lw_tbl := List.mem_of_getElem? (i := 843) (by decide +kernel)
theorem t_845 : Cond.instanceMethod yX1_addLines ∈ lw_tbl := List.mem_of_getElem? (i := 845) (by decide +kernel)
theorem t_846 : Cond.code yX1_addLines cX1_addLines 8 none ∈ lw_tbl := List.mem_of_getElem? (i := 846) (by decide +kernel)
theorem t_847 : Cond.methodLink RX1 133 yX3_firstLineEnd ∈ lw_tbl := List.mem_of_getElem? (i := 847) (by decide +kernel)
theorem t_848 : Cond.instanceMethod yX3_firstLineEnd ∈ lw_tbl := List.mem_of_getElem? (i := 848) (by decide +kernel)
theorem t_849 : Cond.selects RX3 yX3_firstLineEnd yX3_firstLineEnd ∈ lw_tbl := List.mem_of_getElem? (i := 849) (by decide +kernel)
theorem t_850 : Cond.code yX3_firstLineEnd cX3_firstLineEnd 9 (some FieldType.int) ∈ lw_tbl := List.mem_of_getElem? (i := 850) (by decide +kernel)
theorem t_851 : Cond.methodLink RX3 53 yX3_pageCost ∈ lw_tbl := List.mem_of_getElem? (i := 851) (by decide +kernel)
theorem t_852 : Cond.methodLink RX3 56 yX3_costOf ∈ lw_tbl := List.mem_of_getElem? (i := 852) (by decide +kernel)
theorem t_853 : Cond.methodLink RX1 137 yX2_addLine ∈ lw_tbl := List.mem_of_getElem? (i := 853) (by decide +kernel)
theorem t_854 : Cond.instanceMethod yX2_addLine ∈ lw_tbl := List.mem_of_getElem? (i := 854) (by decide +kernel)
theorem t_855 : Cond.selects RX2 yX2_addLine yX2_addLine ∈ lw_tbl := List.mem_of_getElem? (i := 855) (by decide +kernel)
theorem t_856 : Cond.code yX2_addLine cX2_addLine 2 none ∈ lw_tbl := List.mem_of_getElem? (i := 856) (by decide +kernel)
theorem t_857 : Cond.methodLink RX10 210 yX2_isNone ∈ lw_tbl := List.mem_of_getElem? (i := 857) (by decide +kernel)
theorem t_858 : Cond.instanceMethod yX2_isNone ∈ lw_tbl := List.mem_of_getElem? (i := 858) (by decide +kernel)
theorem t_859 : Cond.selects RX2 yX2_isNone yX2_isNone ∈ lw_tbl := List.mem_of_getElem? (i := 859) (by decide +kernel)
theorem t_860 : Cond.code yX2_isNone cX2_isNone 1 (some FieldType.boolean) ∈ lw_tbl := List.mem_of_getElem? (i := 860) (by decide +kernel)
theorem t_861 : Cond.methodLink RL 70 yX10_laid ∈ lw_tbl := List.mem_of_getElem? (i := 861) (by decide +kernel)
theorem t_862 : Cond.instanceMethod yX10_laid ∈ lw_tbl := List.mem_of_getElem? (i := 862) (by decide +kernel)
theorem t_863 : Cond.selects RX10 yX10_laid yX10_laid ∈ lw_tbl := List.mem_of_getElem? (i := 863) (by decide +kernel)
theorem t_864 : Cond.code yX10_laid cX10_laid 5 (some FieldType.int) ∈ lw_tbl := List.mem_of_getElem? (i := 864) (by decide +kernel)
theorem t_865 : Cond.methodLink RX10 228 yX2_ofPage ∈ lw_tbl := List.mem_of_getElem? (i := 865) (by decide +kernel)
theorem t_866 : Cond.instanceMethod yX2_ofPage ∈ lw_tbl := List.mem_of_getElem? (i := 866) (by decide +kernel)
theorem t_867 : Cond.selects RX2 yX2_ofPage yX2_ofPage ∈ lw_tbl := List.mem_of_getElem? (i := 867) (by decide +kernel)
theorem t_868 : Cond.code yX2_ofPage cX2_ofPage 3 (some FieldType.int) ∈ lw_tbl := List.mem_of_getElem? (i := 868) (by decide +kernel)
theorem t_869 : Cond.methodLink RL 74 yX10_ends ∈ lw_tbl := List.mem_of_getElem? (i := 869) (by decide +kernel)
theorem t_870 : Cond.instanceMethod yX10_ends ∈ lw_tbl := List.mem_of_getElem? (i := 870) (by decide +kernel)
theorem t_871 : Cond.selects RX10 yX10_ends yX10_ends ∈ lw_tbl := List.mem_of_getElem? (i := 871) (by decide +kernel)
theorem t_872 : Cond.code yX10_ends cX10_ends 4 (some FieldType.int) ∈ lw_tbl := List.mem_of_getElem? (i := 872) (by decide +kernel)
theorem t_873 : Cond.methodLink RL 78 yX10_stop ∈ lw_tbl := List.mem_of_getElem? (i := 873) (by decide +kernel)
theorem t_874 : Cond.instanceMethod yX10_stop ∈ lw_tbl := List.mem_of_getElem? (i := 874) (by decide +kernel)
theorem t_875 : Cond.selects RX10 yX10_stop yX10_stop ∈ lw_tbl := List.mem_of_getElem? (i := 875) (by decide +kernel)
theorem t_876 : Cond.code yX10_stop cX10_stop 4 (some FieldType.int) ∈ lw_tbl := List.mem_of_getElem? (i := 876) (by decide +kernel)
theorem t_877 : Cond.methodLink RX10 234 yX2_barOfStop ∈ lw_tbl := List.mem_of_getElem? (i := 877) (by decide +kernel)
theorem t_878 : Cond.instanceMethod yX2_barOfStop ∈ lw_tbl := List.mem_of_getElem? (i := 878) (by decide +kernel)
theorem t_879 : Cond.selects RX2 yX2_barOfStop yX2_barOfStop ∈ lw_tbl := List.mem_of_getElem? (i := 879) (by decide +kernel)
theorem t_880 : Cond.code yX2_barOfStop cX2_barOfStop 4 (some FieldType.int) ∈ lw_tbl := List.mem_of_getElem? (i := 880) (by decide +kernel)
theorem t_881 : Cond.methodLink RL 82 yX10_hearts ∈ lw_tbl := List.mem_of_getElem? (i := 881) (by decide +kernel)
theorem t_882 : Cond.instanceMethod yX10_hearts ∈ lw_tbl := List.mem_of_getElem? (i := 882) (by decide +kernel)
theorem t_883 : Cond.selects RX10 yX10_hearts yX10_hearts ∈ lw_tbl := List.mem_of_getElem? (i := 883) (by decide +kernel)
theorem t_884 : Cond.code yX10_hearts cX10_hearts 5 (some FieldType.int) ∈ lw_tbl := List.mem_of_getElem? (i := 884) (by decide +kernel)
theorem t_885 : Cond.methodLink RX10 245 yX1_flows ∈ lw_tbl := List.mem_of_getElem? (i := 885) (by decide +kernel)
theorem t_886 : Cond.instanceMethod yX1_flows ∈ lw_tbl := List.mem_of_getElem? (i := 886) (by decide +kernel)
theorem t_887 : Cond.selects RX1 yX1_flows yX1_flows ∈ lw_tbl := List.mem_of_getElem? (i := 887) (by decide +kernel)
theorem t_888 : Cond.code yX1_flows cX1_flows 9 (some FieldType.boolean) ∈ lw_tbl := List.mem_of_getElem? (i := 888) (by decide +kernel)
theorem t_889 : Cond.methodLink RX1 60 yJ7_fill_53178 ∈ lw_tbl := List.mem_of_getElem? (i := 889) (by decide +kernel)
theorem t_890 : Cond.methodLink RX1 70 yX1_followingSet ∈ lw_tbl := List.mem_of_getElem? (i := 890) (by decide +kernel)
theorem t_891 : Cond.static yX1_followingSet ∈ lw_tbl := List.mem_of_getElem? (i := 891) (by decide +kernel)
theorem t_892 : Cond.code yX1_followingSet cX1_followingSet 2 (some FieldType.int) ∈ lw_tbl := List.mem_of_getElem? (i := 892) (by decide +kernel)
theorem t_893 : Cond.methodLink RL 86 yX10_folds ∈ lw_tbl := List.mem_of_getElem? (i := 893) (by decide +kernel)
theorem t_894 : Cond.instanceMethod yX10_folds ∈ lw_tbl := List.mem_of_getElem? (i := 894) (by decide +kernel)
theorem t_895 : Cond.selects RX10 yX10_folds yX10_folds ∈ lw_tbl := List.mem_of_getElem? (i := 895) (by decide +kernel)
theorem t_896 : Cond.code yX10_folds cX10_folds 7 (some FieldType.int) ∈ lw_tbl := List.mem_of_getElem? (i := 896) (by decide +kernel)
theorem t_897 : Cond.methodLink RX10 249 yX10_evenPages ∈ lw_tbl := List.mem_of_getElem? (i := 897) (by decide +kernel)
theorem t_898 : Cond.static yX10_evenPages ∈ lw_tbl := List.mem_of_getElem? (i := 898) (by decide +kernel)
theorem t_899 : Cond.code yX10_evenPages cX10_evenPages 3 (some FieldType.int) ∈ lw_tbl := List.mem_of_getElem? (i := 899) (by decide +kernel)
theorem t_900 : Cond.methodLink RX10 252 yJ6_bitCount_0f7a4 ∈ lw_tbl := List.mem_of_getElem? (i := 900) (by decide +kernel)
theorem t_901 : Cond.static yJ6_bitCount_0f7a4 ∈ lw_tbl := List.mem_of_getElem? (i := 901) (by decide +kernel)
theorem t_902 : Cond.code yJ6_bitCount_0f7a4 cJ6_bitCount_0f7a4 1 (some FieldType.int) ∈ lw_tbl := List.mem_of_getElem? (i := 902) (by decide +kernel)
theorem t_903 : Cond.constant RJ6 265 (1431655765) ∈ lw_tbl := List.mem_of_getElem? (i := 903) (by decide +kernel)
theorem t_904 : Cond.constant RJ6 266 (858993459) ∈ lw_tbl := List.mem_of_getElem? (i := 904) (by decide +kernel)
theorem t_905 : Cond.constant RJ6 267 (252645135) ∈ lw_tbl := List.mem_of_getElem? (i := 905) (by decide +kernel)
theorem t_906 : Cond.methodLink RL 90 yX10_needs ∈ lw_tbl := List.mem_of_getElem? (i := 906) (by decide +kernel)
theorem t_907 : Cond.instanceMethod yX10_needs ∈ lw_tbl := List.mem_of_getElem? (i := 907) (by decide +kernel)
theorem t_908 : Cond.selects RX10 yX10_needs yX10_needs ∈ lw_tbl := List.mem_of_getElem? (i := 908) (by decide +kernel)
theorem t_909 : Cond.code yX10_needs cX10_needs 7 (some FieldType.int) ∈ lw_tbl := List.mem_of_getElem? (i := 909) (by decide +kernel)
theorem t_910 : Cond.methodLink RL 94 yX10_together ∈ lw_tbl := List.mem_of_getElem? (i := 910) (by decide +kernel)
theorem t_911 : Cond.instanceMethod yX10_together ∈ lw_tbl := List.mem_of_getElem? (i := 911) (by decide +kernel)
theorem t_912 : Cond.selects RX10 yX10_together yX10_together ∈ lw_tbl := List.mem_of_getElem? (i := 912) (by decide +kernel)
theorem t_913 : Cond.code yX10_together cX10_together 7 (some FieldType.int) ∈ lw_tbl := List.mem_of_getElem? (i := 913) (by decide +kernel)
theorem t_914 : Cond.methodLink RL 98 yX10_all ∈ lw_tbl := List.mem_of_getElem? (i := 914) (by decide +kernel)
theorem t_915 : Cond.instanceMethod yX10_all ∈ lw_tbl := List.mem_of_getElem? (i := 915) (by decide +kernel)
theorem t_916 : Cond.selects RX10 yX10_all yX10_all ∈ lw_tbl := List.mem_of_getElem? (i := 916) (by decide +kernel)
theorem t_917 : Cond.code yX10_all cX10_all 6 (some FieldType.int) ∈ lw_tbl := List.mem_of_getElem? (i := 917) (by decide +kernel)
theorem t_918 : Cond.methodLink RX10 260 yX10_turnsAtOnce ∈ lw_tbl := List.mem_of_getElem? (i := 918) (by decide +kernel)
theorem t_920 : Cond.instanceMethod yX10_turnsAtOnce ∈ lw_tbl := List.mem_of_getElem? (i := 920) (by decide +kernel)
theorem t_921 : Cond.code yX10_turnsAtOnce cX10_turnsAtOnce 7 (some FieldType.int) ∈ lw_tbl := List.mem_of_getElem? (i := 921) (by decide +kernel)
theorem t_922 : Cond.methodLink RX10 345 yJ9_max_7cf53 ∈ lw_tbl := List.mem_of_getElem? (i := 922) (by decide +kernel)
theorem t_923 : Cond.methodLink RL 102 yX10_lay ∈ lw_tbl := List.mem_of_getElem? (i := 923) (by decide +kernel)
theorem t_924 : Cond.instanceMethod yX10_lay ∈ lw_tbl := List.mem_of_getElem? (i := 924) (by decide +kernel)
theorem t_925 : Cond.selects RX10 yX10_lay yX10_lay ∈ lw_tbl := List.mem_of_getElem? (i := 925) (by decide +kernel)
theorem t_926 : Cond.code yX10_lay cX10_lay 5 (some FieldType.int) ∈ lw_tbl := List.mem_of_getElem? (i := 926) (by decide +kernel)
theorem t_927 : Cond.methodLink RX10 264 yX0_add ∈ lw_tbl := List.mem_of_getElem? (i := 927) (by decide +kernel)
theorem t_928 : Cond.instanceMethod yX0_add ∈ lw_tbl := List.mem_of_getElem? (i := 928) (by decide +kernel)
theorem t_929 : Cond.selects RX0 yX0_add yX0_add ∈ lw_tbl := List.mem_of_getElem? (i := 929) (by decide +kernel)
theorem t_930 : Cond.code yX0_add cX0_add 4 (some FieldType.int) ∈ lw_tbl := List.mem_of_getElem? (i := 930) (by decide +kernel)
theorem t_931 : Cond.methodLink RL 106 yX10_breakOf ∈ lw_tbl := List.mem_of_getElem? (i := 931) (by decide +kernel)
theorem t_932 : Cond.instanceMethod yX10_breakOf ∈ lw_tbl := List.mem_of_getElem? (i := 932) (by decide +kernel)
theorem t_933 : Cond.selects RX10 yX10_breakOf yX10_breakOf ∈ lw_tbl := List.mem_of_getElem? (i := 933) (by decide +kernel)
theorem t_934 : Cond.code yX10_breakOf cX10_breakOf 4 (some FieldType.int) ∈ lw_tbl := List.mem_of_getElem? (i := 934) (by decide +kernel)
theorem t_935 : Cond.methodLink RX10 268 yX0_has ∈ lw_tbl := List.mem_of_getElem? (i := 935) (by decide +kernel)
theorem t_936 : Cond.instanceMethod yX0_has ∈ lw_tbl := List.mem_of_getElem? (i := 936) (by decide +kernel)
theorem t_937 : Cond.selects RX0 yX0_has yX0_has ∈ lw_tbl := List.mem_of_getElem? (i := 937) (by decide +kernel)
theorem t_938 : Cond.code yX0_has cX0_has 2 (some FieldType.boolean) ∈ lw_tbl := List.mem_of_getElem? (i := 938) (by decide +kernel)
theorem t_939 : Cond.methodLink RX10 278 yX7_mayBreak ∈ lw_tbl := List.mem_of_getElem? (i := 939) (by decide +kernel)
theorem t_940 : Cond.instanceMethod yX7_mayBreak ∈ lw_tbl := List.mem_of_getElem? (i := 940) (by decide +kernel)
theorem t_941 : Cond.selects RX7 yX7_mayBreak yX7_mayBreak ∈ lw_tbl := List.mem_of_getElem? (i := 941) (by decide +kernel)
theorem t_942 : Cond.code yX7_mayBreak cX7_mayBreak 6 (some FieldType.boolean) ∈ lw_tbl := List.mem_of_getElem? (i := 942) (by decide +kernel)
theorem t_943 : Cond.methodLink RX7 60 yX5_mayEndLine ∈ lw_tbl := List.mem_of_getElem? (i := 943) (by decide +kernel)
theorem t_944 : Cond.methodLink RX7 63 yX7_neighbourFree ∈ lw_tbl := List.mem_of_getElem? (i := 944) (by decide +kernel)
theorem t_945 : Cond.methodLink RX10 281 yX7_priceOf ∈ lw_tbl := List.mem_of_getElem? (i := 945) (by decide +kernel)
theorem t_946 : Cond.instanceMethod yX7_priceOf ∈ lw_tbl := List.mem_of_getElem? (i := 946) (by decide +kernel)
theorem t_947 : Cond.selects RX7 yX7_priceOf yX7_priceOf ∈ lw_tbl := List.mem_of_getElem? (i := 947) (by decide +kernel)
theorem t_948 : Cond.code yX7_priceOf cX7_priceOf 7 (some FieldType.int) ∈ lw_tbl := List.mem_of_getElem? (i := 948) (by decide +kernel)
theorem t_949 : Cond.methodLink RX7 66 yJ9_max_7cf53 ∈ lw_tbl := List.mem_of_getElem? (i := 949) (by decide +kernel)
theorem t_950 : Cond.methodLink RL 110 yX10_clear ∈ lw_tbl := List.mem_of_getElem? (i := 950) (by decide +kernel)
theorem t_951 : Cond.instanceMethod yX10_clear ∈ lw_tbl := List.mem_of_getElem? (i := 951) (by decide +kernel)
theorem t_952 : Cond.selects RX10 yX10_clear yX10_clear ∈ lw_tbl := List.mem_of_getElem? (i := 952) (by decide +kernel)
theorem t_953 : Cond.code yX10_clear cX10_clear 2 (some FieldType.int) ∈ lw_tbl := List.mem_of_getElem? (i := 953) (by decide +kernel)
theorem t_954 : Cond.methodLink RX10 284 yX0_dropPart ∈ lw_tbl := List.mem_of_getElem? (i := 954) (by decide +kernel)
theorem t_955 : Cond.instanceMethod yX0_dropPart ∈ lw_tbl := List.mem_of_getElem? (i := 955) (by decide +kernel)
theorem t_956 : Cond.selects RX0 yX0_dropPart yX0_dropPart ∈ lw_tbl := List.mem_of_getElem? (i := 956) (by decide +kernel)
theorem t_957 : Cond.code yX0_dropPart cX0_dropPart 5 (some FieldType.int) ∈ lw_tbl := List.mem_of_getElem? (i := 957) (by decide +kernel)
theorem t_958 : Cond.methodLink RX0 40 yX0_renumberSpots ∈ lw_tbl := List.mem_of_getElem? (i := 958) (by decide +kernel)
theorem t_960 : Cond.instanceMethod yX0_renumberSpots ∈ lw_tbl := List.mem_of_getElem? (i := 960) (by decide +kernel)
theorem t_961 : Cond.code yX0_renumberSpots cX0_renumberSpots 4 none ∈ lw_tbl := List.mem_of_getElem? (i := 961) (by decide +kernel)
theorem t_962 : Cond.methodLink RL 114 yX10_price ∈ lw_tbl := List.mem_of_getElem? (i := 962) (by decide +kernel)
theorem t_963 : Cond.instanceMethod yX10_price ∈ lw_tbl := List.mem_of_getElem? (i := 963) (by decide +kernel)
theorem t_964 : Cond.selects RX10 yX10_price yX10_price ∈ lw_tbl := List.mem_of_getElem? (i := 964) (by decide +kernel)
theorem t_965 : Cond.code yX10_price cX10_price 5 (some FieldType.int) ∈ lw_tbl := List.mem_of_getElem? (i := 965) (by decide +kernel)
theorem t_966 : Cond.methodLink RL 118 yX10_judge ∈ lw_tbl := List.mem_of_getElem? (i := 966) (by decide +kernel)
theorem t_967 : Cond.instanceMethod yX10_judge ∈ lw_tbl := List.mem_of_getElem? (i := 967) (by decide +kernel)
theorem t_968 : Cond.selects RX10 yX10_judge yX10_judge ∈ lw_tbl := List.mem_of_getElem? (i := 968) (by decide +kernel)
theorem t_969 : Cond.code yX10_judge cX10_judge 2 (some FieldType.int) ∈ lw_tbl := List.mem_of_getElem? (i := 969) (by decide +kernel)
theorem t_970 : Cond.methodLink RX10 290 yX7_firstWrong ∈ lw_tbl := List.mem_of_getElem? (i := 970) (by decide +kernel)
theorem t_971 : Cond.instanceMethod yX7_firstWrong ∈ lw_tbl := List.mem_of_getElem? (i := 971) (by decide +kernel)
theorem t_972 : Cond.selects RX7 yX7_firstWrong yX7_firstWrong ∈ lw_tbl := List.mem_of_getElem? (i := 972) (by decide +kernel)
theorem t_973 : Cond.code yX7_firstWrong cX7_firstWrong 7 (some FieldType.int) ∈ lw_tbl := List.mem_of_getElem? (i := 973) (by decide +kernel)
theorem t_974 : Cond.methodLink RX7 81 yX7_mayBreak ∈ lw_tbl := List.mem_of_getElem? (i := 974) (by decide +kernel)
theorem t_975 : Cond.methodLink RX7 85 yX5_roomFromTo ∈ lw_tbl := List.mem_of_getElem? (i := 975) (by decide +kernel)
theorem t_976 : Cond.instanceMethod yX5_roomFromTo ∈ lw_tbl := List.mem_of_getElem? (i := 976) (by decide +kernel)
theorem t_977 : Cond.selects RX5 yX5_roomFromTo yX5_roomFromTo ∈ lw_tbl := List.mem_of_getElem? (i := 977) (by decide +kernel)
theorem t_978 : Cond.code yX5_roomFromTo cX5_roomFromTo 5 (some FieldType.int) ∈ lw_tbl := List.mem_of_getElem? (i := 978) (by decide +kernel)
theorem t_979 : Cond.methodLink RL 122 yX10_hold ∈ lw_tbl := List.mem_of_getElem? (i := 979) (by decide +kernel)
theorem t_980 : Cond.instanceMethod yX10_hold ∈ lw_tbl := List.mem_of_getElem? (i := 980) (by decide +kernel)
theorem t_981 : Cond.selects RX10 yX10_hold yX10_hold ∈ lw_tbl := List.mem_of_getElem? (i := 981) (by decide +kernel)
theorem t_982 : Cond.code yX10_hold cX10_hold 3 (some FieldType.int) ∈ lw_tbl := List.mem_of_getElem? (i := 982) (by decide +kernel)
theorem t_983 : Cond.methodLink RL 126 yX10_as ∈ lw_tbl := List.mem_of_getElem? (i := 983) (by decide +kernel)
theorem t_984 : Cond.instanceMethod yX10_as ∈ lw_tbl := List.mem_of_getElem? (i := 984) (by decide +kernel)
theorem t_985 : Cond.selects RX10 yX10_as yX10_as ∈ lw_tbl := List.mem_of_getElem? (i := 985) (by decide +kernel)
theorem t_986 : Cond.code yX10_as cX10_as 4 (some FieldType.int) ∈ lw_tbl := List.mem_of_getElem? (i := 986) (by decide +kernel)
theorem t_987 : Cond.constant RX10 296 (-1000006) ∈ lw_tbl := List.mem_of_getElem? (i := 987) (by decide +kernel)
theorem t_988 : Cond.methodLink RX10 297 yX0_isUnder ∈ lw_tbl := List.mem_of_getElem? (i := 988) (by decide +kernel)
theorem t_989 : Cond.static yX0_isUnder ∈ lw_tbl := List.mem_of_getElem? (i := 989) (by decide +kernel)
theorem t_990 : Cond.code yX0_isUnder cX0_isUnder 4 (some FieldType.boolean) ∈ lw_tbl := List.mem_of_getElem? (i := 990) (by decide +kernel)
theorem t_991 : Cond.fieldLinkNest RX0 44 "PageTurns" "KIND_ABOVE" "[I" RX10 ∈ lw_tbl := List.mem_of_getElem? (i := 991) (by decide +kernel)
theorem t_993 : Cond.methodLink RL 130 yX10_sheet ∈ lw_tbl := List.mem_of_getElem? (i := 993) (by decide +kernel)
theorem t_994 : Cond.instanceMethod yX10_sheet ∈ lw_tbl := List.mem_of_getElem? (i := 994) (by decide +kernel)
theorem t_995 : Cond.selects RX10 yX10_sheet yX10_sheet ∈ lw_tbl := List.mem_of_getElem? (i := 995) (by decide +kernel)
theorem t_996 : Cond.code yX10_sheet cX10_sheet 5 (some FieldType.int) ∈ lw_tbl := List.mem_of_getElem? (i := 996) (by decide +kernel)
theorem t_997 : Cond.methodLink RX10 300 yX10_isSheet ∈ lw_tbl := List.mem_of_getElem? (i := 997) (by decide +kernel)
theorem t_998 : Cond.static yX10_isSheet ∈ lw_tbl := List.mem_of_getElem? (i := 998) (by decide +kernel)
theorem t_999 : Cond.code yX10_isSheet cX10_isSheet 1 (some FieldType.boolean) ∈ lw_tbl := List.mem_of_getElem? (i := 999) (by decide +kernel)
theorem t_1000 : Cond.constant RX10 303 (-1000007) ∈ lw_tbl := List.mem_of_getElem? (i := 1000) (by decide +kernel)
theorem t_1001 : Cond.methodLink RX10 304 yX6_renew ∈ lw_tbl := List.mem_of_getElem? (i := 1001) (by decide +kernel)
theorem t_1002 : Cond.instanceMethod yX6_renew ∈ lw_tbl := List.mem_of_getElem? (i := 1002) (by decide +kernel)
theorem t_1003 : Cond.selects RX6 yX6_renew yX6_renew ∈ lw_tbl := List.mem_of_getElem? (i := 1003) (by decide +kernel)
theorem t_1004 : Cond.code yX6_renew cX6_renew 3 (some FieldType.int) ∈ lw_tbl := List.mem_of_getElem? (i := 1004) (by decide +kernel)
theorem t_1005 : Cond.methodLink RX6 22 yJ7_fill_53178 ∈ lw_tbl := List.mem_of_getElem? (i := 1005) (by decide +kernel)
theorem t_1006 : Cond.methodLink RL 134 yX10_write ∈ lw_tbl := List.mem_of_getElem? (i := 1006) (by decide +kernel)
theorem t_1007 : Cond.instanceMethod yX10_write ∈ lw_tbl := List.mem_of_getElem? (i := 1007) (by decide +kernel)
theorem t_1008 : Cond.selects RX10 yX10_write yX10_write ∈ lw_tbl := List.mem_of_getElem? (i := 1008) (by decide +kernel)
theorem t_1009 : Cond.code yX10_write cX10_write 4 (some FieldType.int) ∈ lw_tbl := List.mem_of_getElem? (i := 1009) (by decide +kernel)
theorem t_1010 : Cond.methodLink RX10 307 yX6_isMissing ∈ lw_tbl := List.mem_of_getElem? (i := 1010) (by decide +kernel)
theorem t_1011 : Cond.instanceMethod yX6_isMissing ∈ lw_tbl := List.mem_of_getElem? (i := 1011) (by decide +kernel)
theorem t_1012 : Cond.selects RX6 yX6_isMissing yX6_isMissing ∈ lw_tbl := List.mem_of_getElem? (i := 1012) (by decide +kernel)
theorem t_1013 : Cond.code yX6_isMissing cX6_isMissing 1 (some FieldType.boolean) ∈ lw_tbl := List.mem_of_getElem? (i := 1013) (by decide +kernel)
theorem t_1014 : Cond.methodLink RX10 310 yX6_put ∈ lw_tbl := List.mem_of_getElem? (i := 1014) (by decide +kernel)
theorem t_1015 : Cond.instanceMethod yX6_put ∈ lw_tbl := List.mem_of_getElem? (i := 1015) (by decide +kernel)
theorem t_1016 : Cond.selects RX6 yX6_put yX6_put ∈ lw_tbl := List.mem_of_getElem? (i := 1016) (by decide +kernel)
theorem t_1017 : Cond.code yX6_put cX6_put 3 (some FieldType.boolean) ∈ lw_tbl := List.mem_of_getElem? (i := 1017) (by decide +kernel)
theorem t_1018 : Cond.constant RX6 28 (65535) ∈ lw_tbl := List.mem_of_getElem? (i := 1018) (by decide +kernel)
theorem t_1019 : Cond.methodLink RL 138 yX10_copy ∈ lw_tbl := List.mem_of_getElem? (i := 1019) (by decide +kernel)
theorem t_1020 : Cond.instanceMethod yX10_copy ∈ lw_tbl := List.mem_of_getElem? (i := 1020) (by decide +kernel)
theorem t_1021 : Cond.selects RX10 yX10_copy yX10_copy ∈ lw_tbl := List.mem_of_getElem? (i := 1021) (by decide +kernel)
theorem t_1022 : Cond.code yX10_copy cX10_copy 8 (some FieldType.int) ∈ lw_tbl := List.mem_of_getElem? (i := 1022) (by decide +kernel)
theorem t_1023 : Cond.methodLink RX10 315 yX6_hasStretch ∈ lw_tbl := List.mem_of_getElem? (i := 1023) (by decide +kernel)
theorem t_1024 : Cond.instanceMethod yX6_hasStretch ∈ lw_tbl := List.mem_of_getElem? (i := 1024) (by decide +kernel)
theorem t_1025 : Cond.selects RX6 yX6_hasStretch yX6_hasStretch ∈ lw_tbl := List.mem_of_getElem? (i := 1025) (by decide +kernel)
theorem t_1026 : Cond.code yX6_hasStretch cX6_hasStretch 3 (some FieldType.boolean) ∈ lw_tbl := List.mem_of_getElem? (i := 1026) (by decide +kernel)
theorem t_1027 : Cond.methodLink RX10 321 ⟨RJ10, "arraycopy", "(Ljava/lang/Object;ILjava/lang/Object;II)V"⟩ ∈ lw_tbl := List.mem_of_getElem? (i := 1027) (by decide +kernel)
theorem t_1028 : Cond.methodLink RL 143 yX10_rooms ∈ lw_tbl := List.mem_of_getElem? (i := 1028) (by decide +kernel)
theorem t_1029 : Cond.instanceMethod yX10_rooms ∈ lw_tbl := List.mem_of_getElem? (i := 1029) (by decide +kernel)
theorem t_1030 : Cond.selects RX10 yX10_rooms yX10_rooms ∈ lw_tbl := List.mem_of_getElem? (i := 1030) (by decide +kernel)
theorem t_1031 : Cond.code yX10_rooms cX10_rooms 7 (some FieldType.int) ∈ lw_tbl := List.mem_of_getElem? (i := 1031) (by decide +kernel)
theorem t_1032 : Cond.methodLink RL 147 yX10_pages ∈ lw_tbl := List.mem_of_getElem? (i := 1032) (by decide +kernel)
theorem t_1033 : Cond.instanceMethod yX10_pages ∈ lw_tbl := List.mem_of_getElem? (i := 1033) (by decide +kernel)
theorem t_1034 : Cond.selects RX10 yX10_pages yX10_pages ∈ lw_tbl := List.mem_of_getElem? (i := 1034) (by decide +kernel)
theorem t_1035 : Cond.code yX10_pages cX10_pages 7 (some FieldType.int) ∈ lw_tbl := List.mem_of_getElem? (i := 1035) (by decide +kernel)
theorem t_1036 : Cond.methodLink RL 151 yX10_image ∈ lw_tbl := List.mem_of_getElem? (i := 1036) (by decide +kernel)
theorem t_1037 : Cond.instanceMethod yX10_image ∈ lw_tbl := List.mem_of_getElem? (i := 1037) (by decide +kernel)
theorem t_1038 : Cond.selects RX10 yX10_image yX10_image ∈ lw_tbl := List.mem_of_getElem? (i := 1038) (by decide +kernel)
theorem t_1039 : Cond.code yX10_image cX10_image 1 (some FieldType.int) ∈ lw_tbl := List.mem_of_getElem? (i := 1039) (by decide +kernel)
theorem t_1040 : Cond.methodLink RX10 332 yX7_become ∈ lw_tbl := List.mem_of_getElem? (i := 1040) (by decide +kernel)
theorem t_1041 : Cond.instanceMethod yX7_become ∈ lw_tbl := List.mem_of_getElem? (i := 1041) (by decide +kernel)
theorem t_1042 : Cond.selects RX7 yX7_become yX7_become ∈ lw_tbl := List.mem_of_getElem? (i := 1042) (by decide +kernel)
theorem t_1043 : Cond.code yX7_become cX7_become 3 none ∈ lw_tbl := List.mem_of_getElem? (i := 1043) (by decide +kernel)
theorem t_1044 : Cond.methodLink RX7 29 yX5_become ∈ lw_tbl := List.mem_of_getElem? (i := 1044) (by decide +kernel)
theorem t_1045 : Cond.instanceMethod yX5_become ∈ lw_tbl := List.mem_of_getElem? (i := 1045) (by decide +kernel)
theorem t_1046 : Cond.selects RX5 yX5_become yX5_become ∈ lw_tbl := List.mem_of_getElem? (i := 1046) (by decide +kernel)
theorem t_1047 : Cond.code yX5_become cX5_become 2 none ∈ lw_tbl := List.mem_of_getElem? (i := 1047) (by decide +kernel)
theorem t_1048 : Cond.methodLink RX7 33 ⟨RJ10, "arraycopy", "(Ljava/lang/Object;ILjava/lang/Object;II)V"⟩ ∈ lw_tbl := List.mem_of_getElem? (i := 1048) (by decide +kernel)
theorem t_1049 : Cond.methodLink RX7 39 yX0_become ∈ lw_tbl := List.mem_of_getElem? (i := 1049) (by decide +kernel)
theorem t_1050 : Cond.instanceMethod yX0_become ∈ lw_tbl := List.mem_of_getElem? (i := 1050) (by decide +kernel)
theorem t_1051 : Cond.selects RX0 yX0_become yX0_become ∈ lw_tbl := List.mem_of_getElem? (i := 1051) (by decide +kernel)
theorem t_1052 : Cond.code yX0_become cX0_become 2 none ∈ lw_tbl := List.mem_of_getElem? (i := 1052) (by decide +kernel)
theorem t_1053 : Cond.methodLink RX0 34 ⟨RJ10, "arraycopy", "(Ljava/lang/Object;ILjava/lang/Object;II)V"⟩ ∈ lw_tbl := List.mem_of_getElem? (i := 1053) (by decide +kernel)
theorem t_1054 : Cond.methodLink RL 155 yX10_undo ∈ lw_tbl := List.mem_of_getElem? (i := 1054) (by decide +kernel)
theorem t_1055 : Cond.instanceMethod yX10_undo ∈ lw_tbl := List.mem_of_getElem? (i := 1055) (by decide +kernel)
theorem t_1056 : Cond.selects RX10 yX10_undo yX10_undo ∈ lw_tbl := List.mem_of_getElem? (i := 1056) (by decide +kernel)
theorem t_1057 : Cond.code yX10_undo cX10_undo 1 (some FieldType.int) ∈ lw_tbl := List.mem_of_getElem? (i := 1057) (by decide +kernel)
theorem t_1058 : Cond.methodLink RX10 339 yX7_barsInAll ∈ lw_tbl := List.mem_of_getElem? (i := 1058) (by decide +kernel)
theorem t_1059 : Cond.instanceMethod yX7_barsInAll ∈ lw_tbl := List.mem_of_getElem? (i := 1059) (by decide +kernel)
theorem t_1060 : Cond.selects RX7 yX7_barsInAll yX7_barsInAll ∈ lw_tbl := List.mem_of_getElem? (i := 1060) (by decide +kernel)
theorem t_1061 : Cond.code yX7_barsInAll cX7_barsInAll 3 (some FieldType.int) ∈ lw_tbl := List.mem_of_getElem? (i := 1061) (by decide +kernel)
theorem t_1062 : Cond.methodLink RL 159 yX10_tear ∈ lw_tbl := List.mem_of_getElem? (i := 1062) (by decide +kernel)
theorem t_1063 : Cond.instanceMethod yX10_tear ∈ lw_tbl := List.mem_of_getElem? (i := 1063) (by decide +kernel)
theorem t_1064 : Cond.selects RX10 yX10_tear yX10_tear ∈ lw_tbl := List.mem_of_getElem? (i := 1064) (by decide +kernel)
theorem t_1065 : Cond.code yX10_tear cX10_tear 2 (some FieldType.int) ∈ lw_tbl := List.mem_of_getElem? (i := 1065) (by decide +kernel)
theorem t_1066 : Cond.methodLink RL 163 yX10_count ∈ lw_tbl := List.mem_of_getElem? (i := 1066) (by decide +kernel)
theorem t_1067 : Cond.instanceMethod yX10_count ∈ lw_tbl := List.mem_of_getElem? (i := 1067) (by decide +kernel)
theorem t_1068 : Cond.selects RX10 yX10_count yX10_count ∈ lw_tbl := List.mem_of_getElem? (i := 1068) (by decide +kernel)
theorem t_1069 : Cond.code yX10_count cX10_count 2 (some FieldType.int) ∈ lw_tbl := List.mem_of_getElem? (i := 1069) (by decide +kernel)
theorem t_1070 : Cond.methodLink RX10 342 yX0_heldSpots ∈ lw_tbl := List.mem_of_getElem? (i := 1070) (by decide +kernel)
theorem t_1071 : Cond.instanceMethod yX0_heldSpots ∈ lw_tbl := List.mem_of_getElem? (i := 1071) (by decide +kernel)
theorem t_1072 : Cond.selects RX0 yX0_heldSpots yX0_heldSpots ∈ lw_tbl := List.mem_of_getElem? (i := 1072) (by decide +kernel)
theorem t_1073 : Cond.code yX0_heldSpots cX0_heldSpots 3 (some FieldType.int) ∈ lw_tbl := List.mem_of_getElem? (i := 1073) (by decide +kernel)
theorem t_1074 : Cond.methodLink RL 167 yX10_status ∈ lw_tbl := List.mem_of_getElem? (i := 1074) (by decide +kernel)
theorem t_1075 : Cond.instanceMethod yX10_status ∈ lw_tbl := List.mem_of_getElem? (i := 1075) (by decide +kernel)
theorem t_1076 : Cond.selects RX10 yX10_status yX10_status ∈ lw_tbl := List.mem_of_getElem? (i := 1076) (by decide +kernel)
theorem t_1077 : Cond.code yX10_status cX10_status 4 (some FieldType.int) ∈ lw_tbl := List.mem_of_getElem? (i := 1077) (by decide +kernel)
theorem t_1078 : Cond.classLink RL 10 RX11 ∈ lw_tbl := List.mem_of_getElem? (i := 1078) (by decide +kernel)
theorem t_1079 : Cond.instantiable RX11 37 ∈ lw_tbl := List.mem_of_getElem? (i := 1079) (by decide +kernel)
theorem t_1080 : Cond.methodLink RL 12 yX11_init ∈ lw_tbl := List.mem_of_getElem? (i := 1080) (by decide +kernel)
theorem t_1081 : Cond.instanceMethod yX11_init ∈ lw_tbl := List.mem_of_getElem? (i := 1081) (by decide +kernel)
theorem t_1082 : Cond.code yX11_init cX11_init 2 none ∈ lw_tbl := List.mem_of_getElem? (i := 1082) (by decide +kernel)
theorem t_1083 : Cond.methodLink RX11 3 objectInit ∈ lw_tbl := List.mem_of_getElem? (i := 1083) (by decide +kernel)
theorem t_1084 : Cond.methodLink RX11 86 yX11_part ∈ lw_tbl := List.mem_of_getElem? (i := 1084) (by decide +kernel)
theorem t_1085 : Cond.static yX11_part ∈ lw_tbl := List.mem_of_getElem? (i := 1085) (by decide +kernel)
theorem t_1086 : Cond.code yX11_part cX11_part 1 (some FieldType.int) ∈ lw_tbl := List.mem_of_getElem? (i := 1086) (by decide +kernel)
theorem t_1087 : Cond.fieldLink RX11 9 "PageTurnsModel" "m" "[I" ∈ lw_tbl := List.mem_of_getElem? (i := 1087) (by decide +kernel)
theorem t_1088 : Cond.fieldLink RX11 13 "PageTurnsModel" "kept" "[I" ∈ lw_tbl := List.mem_of_getElem? (i := 1088) (by decide +kernel)
theorem t_1089 : Cond.fieldLink RX11 343 "PageTurnsModel" "isKept" "Z" ∈ lw_tbl := List.mem_of_getElem? (i := 1089) (by decide +kernel)
theorem t_1090 : Cond.fieldLink RX11 16 "PageTurnsModel" "found" "[I" ∈ lw_tbl := List.mem_of_getElem? (i := 1090) (by decide +kernel)
theorem t_1091 : Cond.fieldLink RX11 19 "PageTurnsModel" "tape" "[I" ∈ lw_tbl := List.mem_of_getElem? (i := 1091) (by decide +kernel)
theorem t_1092 : Cond.fieldLink RX11 137 "PageTurnsModel" "taped" "I" ∈ lw_tbl := List.mem_of_getElem? (i := 1092) (by decide +kernel)
theorem t_1093 : Cond.fieldLink RX11 156 "PageTurnsModel" "from" "I" ∈ lw_tbl := List.mem_of_getElem? (i := 1093) (by decide +kernel)
theorem t_1094 : Cond.fieldLink RX11 153 "PageTurnsModel" "to" "I" ∈ lw_tbl := List.mem_of_getElem? (i := 1094) (by decide +kernel)
theorem t_1095 : Cond.fieldLink RX11 159 "PageTurnsModel" "token" "I" ∈ lw_tbl := List.mem_of_getElem? (i := 1095) (by decide +kernel)
theorem t_1096 : Cond.fieldLink RX11 169 "PageTurnsModel" "value" "I" ∈ lw_tbl := List.mem_of_getElem? (i := 1096) (by decide +kernel)
theorem t_1097 : Cond.fieldLink RX11 196 "PageTurnsModel" "opens" "I" ∈ lw_tbl := List.mem_of_getElem? (i := 1097) (by decide +kernel)
theorem t_1098 : Cond.fieldLink RX11 175 "PageTurnsModel" "bad" "Z" ∈ lw_tbl := List.mem_of_getElem? (i := 1098) (by decide +kernel)
theorem t_1099 : Cond.fieldLink RX11 22 "PageTurnsModel" "row" "[I" ∈ lw_tbl := List.mem_of_getElem? (i := 1099) (by decide +kernel)
theorem t_1100 : Cond.fieldLink RX11 182 "PageTurnsModel" "read" "I" ∈ lw_tbl := List.mem_of_getElem? (i := 1100) (by decide +kernel)
theorem t_1101 : Cond.fieldLink RX11 25 "PageTurnsModel" "lines" "[I" ∈ lw_tbl := List.mem_of_getElem? (i := 1101) (by decide +kernel)
theorem t_1102 : Cond.fieldLink RX11 28 "PageTurnsModel" "pages" "[I" ∈ lw_tbl := List.mem_of_getElem? (i := 1102) (by decide +kernel)
theorem t_1103 : Cond.fieldLink RX11 31 "PageTurnsModel" "tails" "[I" ∈ lw_tbl := List.mem_of_getElem? (i := 1103) (by decide +kernel)
theorem t_1104 : Cond.fieldLink RX11 34 "PageTurnsModel" "stops" "[Z" ∈ lw_tbl := List.mem_of_getElem? (i := 1104) (by decide +kernel)
theorem t_1105 : Cond.fieldLink RX11 38 "PageTurnsModel" "bestStops" "[I" ∈ lw_tbl := List.mem_of_getElem? (i := 1105) (by decide +kernel)
theorem t_1106 : Cond.fieldLink RX11 41 "PageTurnsModel" "bestCost" "[I" ∈ lw_tbl := List.mem_of_getElem? (i := 1106) (by decide +kernel)
theorem t_1107 : Cond.fieldLink RX11 44 "PageTurnsModel" "bestPages" "[I" ∈ lw_tbl := List.mem_of_getElem? (i := 1107) (by decide +kernel)
theorem t_1108 : Cond.fieldLink RX11 47 "PageTurnsModel" "bestLast" "[I" ∈ lw_tbl := List.mem_of_getElem? (i := 1108) (by decide +kernel)
theorem t_1109 : Cond.fieldLink RX11 50 "PageTurnsModel" "bestSize" "[I" ∈ lw_tbl := List.mem_of_getElem? (i := 1109) (by decide +kernel)
theorem t_1110 : Cond.fieldLink RX11 289 "PageTurnsModel" "pageMany" "I" ∈ lw_tbl := List.mem_of_getElem? (i := 1110) (by decide +kernel)
theorem t_1111 : Cond.fieldLink RX11 280 "PageTurnsModel" "lineMany" "I" ∈ lw_tbl := List.mem_of_getElem? (i := 1111) (by decide +kernel)
theorem t_1112 : Cond.fieldLink RX11 292 "PageTurnsModel" "turnMany" "I" ∈ lw_tbl := List.mem_of_getElem? (i := 1112) (by decide +kernel)
theorem t_1113 : Cond.fieldLink RX11 53 "PageTurnsModel" "pageFirst" "[I" ∈ lw_tbl := List.mem_of_getElem? (i := 1113) (by decide +kernel)
theorem t_1114 : Cond.fieldLink RX11 56 "PageTurnsModel" "pageLast" "[I" ∈ lw_tbl := List.mem_of_getElem? (i := 1114) (by decide +kernel)
theorem t_1115 : Cond.fieldLink RX11 59 "PageTurnsModel" "pageSize" "[I" ∈ lw_tbl := List.mem_of_getElem? (i := 1115) (by decide +kernel)
theorem t_1116 : Cond.fieldLink RX11 62 "PageTurnsModel" "pageLines" "[I" ∈ lw_tbl := List.mem_of_getElem? (i := 1116) (by decide +kernel)
theorem t_1117 : Cond.fieldLink RX11 65 "PageTurnsModel" "pageCost" "[I" ∈ lw_tbl := List.mem_of_getElem? (i := 1117) (by decide +kernel)
theorem t_1118 : Cond.fieldLink RX11 68 "PageTurnsModel" "pageTurn" "[I" ∈ lw_tbl := List.mem_of_getElem? (i := 1118) (by decide +kernel)
theorem t_1119 : Cond.fieldLink RX11 71 "PageTurnsModel" "lineLast" "[I" ∈ lw_tbl := List.mem_of_getElem? (i := 1119) (by decide +kernel)
theorem t_1120 : Cond.fieldLink RX11 74 "PageTurnsModel" "turnsAt" "[I" ∈ lw_tbl := List.mem_of_getElem? (i := 1120) (by decide +kernel)
theorem t_1121 : Cond.fieldLink RX11 77 "PageTurnsModel" "bits" "[I" ∈ lw_tbl := List.mem_of_getElem? (i := 1121) (by decide +kernel)
theorem t_1122 : Cond.fieldLink RX11 80 "PageTurnsModel" "size" "[I" ∈ lw_tbl := List.mem_of_getElem? (i := 1122) (by decide +kernel)
theorem t_1123 : Cond.fieldLink RX11 83 "PageTurnsModel" "number" "[I" ∈ lw_tbl := List.mem_of_getElem? (i := 1123) (by decide +kernel)
theorem t_1199 : Cond.arrayClass FieldType.boolean ∈ lw_tbl := List.mem_of_getElem? (i := 1199) (by decide +kernel)
theorem t_1200 : Cond.methodLink RL 17 yX11_set ∈ lw_tbl := List.mem_of_getElem? (i := 1200) (by decide +kernel)
theorem t_1201 : Cond.instanceMethod yX11_set ∈ lw_tbl := List.mem_of_getElem? (i := 1201) (by decide +kernel)
theorem t_1202 : Cond.selects RX11 yX11_set yX11_set ∈ lw_tbl := List.mem_of_getElem? (i := 1202) (by decide +kernel)
theorem t_1203 : Cond.code yX11_set cX11_set 5 (some FieldType.int) ∈ lw_tbl := List.mem_of_getElem? (i := 1203) (by decide +kernel)
theorem t_1204 : Cond.methodLink RX11 97 yX11_isPart ∈ lw_tbl := List.mem_of_getElem? (i := 1204) (by decide +kernel)
theorem t_1205 : Cond.static yX11_isPart ∈ lw_tbl := List.mem_of_getElem? (i := 1205) (by decide +kernel)
theorem t_1206 : Cond.code yX11_isPart cX11_isPart 1 (some FieldType.boolean) ∈ lw_tbl := List.mem_of_getElem? (i := 1206) (by decide +kernel)
theorem t_1207 : Cond.constantLong RX11 91 (3) ∈ lw_tbl := List.mem_of_getElem? (i := 1207) (by decide +kernel)
theorem t_1208 : Cond.methodLink RX11 93 yX11_in ∈ lw_tbl := List.mem_of_getElem? (i := 1208) (by decide +kernel)
theorem t_1209 : Cond.static yX11_in ∈ lw_tbl := List.mem_of_getElem? (i := 1209) (by decide +kernel)
theorem t_1210 : Cond.code yX11_in cX11_in 6 (some FieldType.boolean) ∈ lw_tbl := List.mem_of_getElem? (i := 1210) (by decide +kernel)
theorem t_1211 : Cond.methodLink RX11 118 yX11_maySet ∈ lw_tbl := List.mem_of_getElem? (i := 1211) (by decide +kernel)
theorem t_1212 : Cond.static yX11_maySet ∈ lw_tbl := List.mem_of_getElem? (i := 1212) (by decide +kernel)
theorem t_1213 : Cond.code yX11_maySet cX11_maySet 3 (some FieldType.boolean) ∈ lw_tbl := List.mem_of_getElem? (i := 1213) (by decide +kernel)
theorem t_1214 : Cond.constantLong RX11 108 (30) ∈ lw_tbl := List.mem_of_getElem? (i := 1214) (by decide +kernel)
theorem t_1215 : Cond.constantLong RX11 110 (240) ∈ lw_tbl := List.mem_of_getElem? (i := 1215) (by decide +kernel)
theorem t_1216 : Cond.constantLong RX11 112 (8) ∈ lw_tbl := List.mem_of_getElem? (i := 1216) (by decide +kernel)
theorem t_1217 : Cond.constantLong RX11 114 (-1) ∈ lw_tbl := List.mem_of_getElem? (i := 1217) (by decide +kernel)
theorem t_1218 : Cond.constantLong RX11 116 (1023) ∈ lw_tbl := List.mem_of_getElem? (i := 1218) (by decide +kernel)
theorem t_1219 : Cond.methodLink RX11 122 yX11_finds ∈ lw_tbl := List.mem_of_getElem? (i := 1219) (by decide +kernel)
theorem t_1221 : Cond.instanceMethod yX11_finds ∈ lw_tbl := List.mem_of_getElem? (i := 1221) (by decide +kernel)
theorem t_1222 : Cond.code yX11_finds cX11_finds 2 (some FieldType.int) ∈ lw_tbl := List.mem_of_getElem? (i := 1222) (by decide +kernel)
theorem t_1223 : Cond.constant RX11 90 (-1000001) ∈ lw_tbl := List.mem_of_getElem? (i := 1223) (by decide +kernel)
theorem t_1224 : Cond.methodLink RL 22 yX11_rule ∈ lw_tbl := List.mem_of_getElem? (i := 1224) (by decide +kernel)
theorem t_1225 : Cond.instanceMethod yX11_rule ∈ lw_tbl := List.mem_of_getElem? (i := 1225) (by decide +kernel)
theorem t_1226 : Cond.selects RX11 yX11_rule yX11_rule ∈ lw_tbl := List.mem_of_getElem? (i := 1226) (by decide +kernel)
theorem t_1227 : Cond.code yX11_rule cX11_rule 5 (some FieldType.int) ∈ lw_tbl := List.mem_of_getElem? (i := 1227) (by decide +kernel)
theorem t_1228 : Cond.constantLong RX11 125 (20) ∈ lw_tbl := List.mem_of_getElem? (i := 1228) (by decide +kernel)
theorem t_1229 : Cond.constantLong RX11 127 (200) ∈ lw_tbl := List.mem_of_getElem? (i := 1229) (by decide +kernel)
theorem t_1230 : Cond.constantLong RX11 129 (6) ∈ lw_tbl := List.mem_of_getElem? (i := 1230) (by decide +kernel)
theorem t_1231 : Cond.constantLong RX11 131 (999) ∈ lw_tbl := List.mem_of_getElem? (i := 1231) (by decide +kernel)
theorem t_1232 : Cond.constantLong RX11 133 (99) ∈ lw_tbl := List.mem_of_getElem? (i := 1232) (by decide +kernel)
theorem t_1233 : Cond.methodLink RL 26 yX11_feed ∈ lw_tbl := List.mem_of_getElem? (i := 1233) (by decide +kernel)
theorem t_1234 : Cond.instanceMethod yX11_feed ∈ lw_tbl := List.mem_of_getElem? (i := 1234) (by decide +kernel)
theorem t_1235 : Cond.selects RX11 yX11_feed yX11_feed ∈ lw_tbl := List.mem_of_getElem? (i := 1235) (by decide +kernel)
theorem t_1236 : Cond.code yX11_feed cX11_feed 4 (some FieldType.int) ∈ lw_tbl := List.mem_of_getElem? (i := 1236) (by decide +kernel)
theorem t_1237 : Cond.constantLong RX11 135 (4) ∈ lw_tbl := List.mem_of_getElem? (i := 1237) (by decide +kernel)
theorem t_1238 : Cond.methodLink RL 31 yX11_wipe ∈ lw_tbl := List.mem_of_getElem? (i := 1238) (by decide +kernel)
theorem t_1239 : Cond.instanceMethod yX11_wipe ∈ lw_tbl := List.mem_of_getElem? (i := 1239) (by decide +kernel)
theorem t_1240 : Cond.selects RX11 yX11_wipe yX11_wipe ∈ lw_tbl := List.mem_of_getElem? (i := 1240) (by decide +kernel)
theorem t_1241 : Cond.code yX11_wipe cX11_wipe 2 (some FieldType.int) ∈ lw_tbl := List.mem_of_getElem? (i := 1241) (by decide +kernel)
theorem t_1242 : Cond.methodLink RL 36 yX11_read ∈ lw_tbl := List.mem_of_getElem? (i := 1242) (by decide +kernel)
theorem t_1243 : Cond.instanceMethod yX11_read ∈ lw_tbl := List.mem_of_getElem? (i := 1243) (by decide +kernel)
theorem t_1244 : Cond.selects RX11 yX11_read yX11_read ∈ lw_tbl := List.mem_of_getElem? (i := 1244) (by decide +kernel)
theorem t_1245 : Cond.code yX11_read cX11_read 5 (some FieldType.int) ∈ lw_tbl := List.mem_of_getElem? (i := 1245) (by decide +kernel)
theorem t_1246 : Cond.methodLink RX11 179 yX11_step ∈ lw_tbl := List.mem_of_getElem? (i := 1246) (by decide +kernel)
theorem t_1248 : Cond.instanceMethod yX11_step ∈ lw_tbl := List.mem_of_getElem? (i := 1248) (by decide +kernel)
theorem t_1249 : Cond.code yX11_step cX11_step 3 none ∈ lw_tbl := List.mem_of_getElem? (i := 1249) (by decide +kernel)
theorem t_1250 : Cond.methodLink RX11 162 yX11_isLetter ∈ lw_tbl := List.mem_of_getElem? (i := 1250) (by decide +kernel)
theorem t_1252 : Cond.instanceMethod yX11_isLetter ∈ lw_tbl := List.mem_of_getElem? (i := 1252) (by decide +kernel)
theorem t_1253 : Cond.code yX11_isLetter cX11_isLetter 2 (some FieldType.boolean) ∈ lw_tbl := List.mem_of_getElem? (i := 1253) (by decide +kernel)
theorem t_1254 : Cond.constantLong RX11 141 (97) ∈ lw_tbl := List.mem_of_getElem? (i := 1254) (by decide +kernel)
theorem t_1255 : Cond.constantLong RX11 143 (122) ∈ lw_tbl := List.mem_of_getElem? (i := 1255) (by decide +kernel)
theorem t_1256 : Cond.methodLink RX11 165 yX11_wordOf ∈ lw_tbl := List.mem_of_getElem? (i := 1256) (by decide +kernel)
theorem t_1257 : Cond.static yX11_wordOf ∈ lw_tbl := List.mem_of_getElem? (i := 1257) (by decide +kernel)
theorem t_1258 : Cond.code yX11_wordOf cX11_wordOf 2 (some FieldType.int) ∈ lw_tbl := List.mem_of_getElem? (i := 1258) (by decide +kernel)
theorem t_1259 : Cond.methodLink RX11 149 yX11_spelt ∈ lw_tbl := List.mem_of_getElem? (i := 1259) (by decide +kernel)
theorem t_1260 : Cond.static yX11_spelt ∈ lw_tbl := List.mem_of_getElem? (i := 1260) (by decide +kernel)
theorem t_1261 : Cond.code yX11_spelt cX11_spelt 6 (some FieldType.long) ∈ lw_tbl := List.mem_of_getElem? (i := 1261) (by decide +kernel)
theorem t_1262 : Cond.methodLink RX11 172 yX11_isDigit ∈ lw_tbl := List.mem_of_getElem? (i := 1262) (by decide +kernel)
theorem t_1264 : Cond.instanceMethod yX11_isDigit ∈ lw_tbl := List.mem_of_getElem? (i := 1264) (by decide +kernel)
theorem t_1265 : Cond.code yX11_isDigit cX11_isDigit 2 (some FieldType.boolean) ∈ lw_tbl := List.mem_of_getElem? (i := 1265) (by decide +kernel)
theorem t_1266 : Cond.constantLong RX11 145 (48) ∈ lw_tbl := List.mem_of_getElem? (i := 1266) (by decide +kernel)
theorem t_1267 : Cond.constantLong RX11 147 (57) ∈ lw_tbl := List.mem_of_getElem? (i := 1267) (by decide +kernel)
theorem t_1268 : Cond.methodLink RX11 199 yX11_readText ∈ lw_tbl := List.mem_of_getElem? (i := 1268) (by decide +kernel)
theorem t_1270 : Cond.instanceMethod yX11_readText ∈ lw_tbl := List.mem_of_getElem? (i := 1270) (by decide +kernel)
theorem t_1271 : Cond.code yX11_readText cX11_readText 1 none ∈ lw_tbl := List.mem_of_getElem? (i := 1271) (by decide +kernel)
theorem t_1272 : Cond.methodLink RX11 208 yX11_readItem ∈ lw_tbl := List.mem_of_getElem? (i := 1272) (by decide +kernel)
theorem t_1274 : Cond.instanceMethod yX11_readItem ∈ lw_tbl := List.mem_of_getElem? (i := 1274) (by decide +kernel)
theorem t_1275 : Cond.code yX11_readItem cX11_readItem 1 none ∈ lw_tbl := List.mem_of_getElem? (i := 1275) (by decide +kernel)
theorem t_1276 : Cond.methodLink RX11 193 yX11_isWord ∈ lw_tbl := List.mem_of_getElem? (i := 1276) (by decide +kernel)
theorem t_1278 : Cond.instanceMethod yX11_isWord ∈ lw_tbl := List.mem_of_getElem? (i := 1278) (by decide +kernel)
theorem t_1279 : Cond.code yX11_isWord cX11_isWord 3 (some FieldType.boolean) ∈ lw_tbl := List.mem_of_getElem? (i := 1279) (by decide +kernel)
theorem t_1280 : Cond.methodLink RX11 202 yX11_readBar ∈ lw_tbl := List.mem_of_getElem? (i := 1280) (by decide +kernel)
theorem t_1282 : Cond.instanceMethod yX11_readBar ∈ lw_tbl := List.mem_of_getElem? (i := 1282) (by decide +kernel)
theorem t_1283 : Cond.code yX11_readBar cX11_readBar 2 none ∈ lw_tbl := List.mem_of_getElem? (i := 1283) (by decide +kernel)
theorem t_1284 : Cond.methodLink RX11 185 yX11_isNumber ∈ lw_tbl := List.mem_of_getElem? (i := 1284) (by decide +kernel)
theorem t_1286 : Cond.instanceMethod yX11_isNumber ∈ lw_tbl := List.mem_of_getElem? (i := 1286) (by decide +kernel)
theorem t_1287 : Cond.code yX11_isNumber cX11_isNumber 3 (some FieldType.boolean) ∈ lw_tbl := List.mem_of_getElem? (i := 1287) (by decide +kernel)
theorem t_1288 : Cond.methodLink RX11 189 yX11_need ∈ lw_tbl := List.mem_of_getElem? (i := 1288) (by decide +kernel)
theorem t_1290 : Cond.instanceMethod yX11_need ∈ lw_tbl := List.mem_of_getElem? (i := 1290) (by decide +kernel)
theorem t_1291 : Cond.code yX11_need cX11_need 2 none ∈ lw_tbl := List.mem_of_getElem? (i := 1291) (by decide +kernel)
theorem t_1292 : Cond.methodLink RX11 205 yX11_readTimes ∈ lw_tbl := List.mem_of_getElem? (i := 1292) (by decide +kernel)
theorem t_1294 : Cond.instanceMethod yX11_readTimes ∈ lw_tbl := List.mem_of_getElem? (i := 1294) (by decide +kernel)
theorem t_1295 : Cond.code yX11_readTimes cX11_readTimes 6 none ∈ lw_tbl := List.mem_of_getElem? (i := 1295) (by decide +kernel)
theorem t_1296 : Cond.methodLink RX11 101 yX11_bars ∈ lw_tbl := List.mem_of_getElem? (i := 1296) (by decide +kernel)
theorem t_1298 : Cond.instanceMethod yX11_bars ∈ lw_tbl := List.mem_of_getElem? (i := 1298) (by decide +kernel)
theorem t_1299 : Cond.code yX11_bars cX11_bars 2 (some FieldType.int) ∈ lw_tbl := List.mem_of_getElem? (i := 1299) (by decide +kernel)
theorem t_1300 : Cond.methodLink RX11 104 yX11_at ∈ lw_tbl := List.mem_of_getElem? (i := 1300) (by decide +kernel)
theorem t_1301 : Cond.static yX11_at ∈ lw_tbl := List.mem_of_getElem? (i := 1301) (by decide +kernel)
theorem t_1302 : Cond.code yX11_at cX11_at 3 (some FieldType.int) ∈ lw_tbl := List.mem_of_getElem? (i := 1302) (by decide +kernel)
theorem t_1303 : Cond.methodLink RL 40 yX11_bar ∈ lw_tbl := List.mem_of_getElem? (i := 1303) (by decide +kernel)
theorem t_1304 : Cond.instanceMethod yX11_bar ∈ lw_tbl := List.mem_of_getElem? (i := 1304) (by decide +kernel)
theorem t_1305 : Cond.selects RX11 yX11_bar yX11_bar ∈ lw_tbl := List.mem_of_getElem? (i := 1305) (by decide +kernel)
theorem t_1306 : Cond.code yX11_bar cX11_bar 4 (some FieldType.int) ∈ lw_tbl := List.mem_of_getElem? (i := 1306) (by decide +kernel)
theorem t_1307 : Cond.methodLink RX11 211 yX11_isBar ∈ lw_tbl := List.mem_of_getElem? (i := 1307) (by decide +kernel)
theorem t_1309 : Cond.instanceMethod yX11_isBar ∈ lw_tbl := List.mem_of_getElem? (i := 1309) (by decide +kernel)
theorem t_1310 : Cond.code yX11_isBar cX11_isBar 3 (some FieldType.boolean) ∈ lw_tbl := List.mem_of_getElem? (i := 1310) (by decide +kernel)
theorem t_1311 : Cond.methodLink RL 45 yX11_change ∈ lw_tbl := List.mem_of_getElem? (i := 1311) (by decide +kernel)
theorem t_1312 : Cond.instanceMethod yX11_change ∈ lw_tbl := List.mem_of_getElem? (i := 1312) (by decide +kernel)
theorem t_1313 : Cond.selects RX11 yX11_change yX11_change ∈ lw_tbl := List.mem_of_getElem? (i := 1313) (by decide +kernel)
theorem t_1314 : Cond.code yX11_change cX11_change 6 (some FieldType.int) ∈ lw_tbl := List.mem_of_getElem? (i := 1314) (by decide +kernel)
theorem t_1315 : Cond.constantLong RX11 214 (2) ∈ lw_tbl := List.mem_of_getElem? (i := 1315) (by decide +kernel)
theorem t_1316 : Cond.constantLong RX11 216 (7) ∈ lw_tbl := List.mem_of_getElem? (i := 1316) (by decide +kernel)
theorem t_1317 : Cond.methodLink RL 49 yX11_cut ∈ lw_tbl := List.mem_of_getElem? (i := 1317) (by decide +kernel)
theorem t_1318 : Cond.instanceMethod yX11_cut ∈ lw_tbl := List.mem_of_getElem? (i := 1318) (by decide +kernel)
theorem t_1319 : Cond.selects RX11 yX11_cut yX11_cut ∈ lw_tbl := List.mem_of_getElem? (i := 1319) (by decide +kernel)
theorem t_1320 : Cond.code yX11_cut cX11_cut 7 (some FieldType.int) ∈ lw_tbl := List.mem_of_getElem? (i := 1320) (by decide +kernel)
theorem t_1321 : Cond.methodLink RL 53 yX11_free_ ∈ lw_tbl := List.mem_of_getElem? (i := 1321) (by decide +kernel)
theorem t_1322 : Cond.instanceMethod yX11_free_ ∈ lw_tbl := List.mem_of_getElem? (i := 1322) (by decide +kernel)
theorem t_1323 : Cond.selects RX11 yX11_free_ yX11_free_ ∈ lw_tbl := List.mem_of_getElem? (i := 1323) (by decide +kernel)
theorem t_1324 : Cond.code yX11_free_ cX11_free_ 4 (some FieldType.int) ∈ lw_tbl := List.mem_of_getElem? (i := 1324) (by decide +kernel)
theorem t_1325 : Cond.methodLink RX11 229 yX11_free ∈ lw_tbl := List.mem_of_getElem? (i := 1325) (by decide +kernel)
theorem t_1327 : Cond.instanceMethod yX11_free ∈ lw_tbl := List.mem_of_getElem? (i := 1327) (by decide +kernel)
theorem t_1328 : Cond.code yX11_free cX11_free 5 (some FieldType.int) ∈ lw_tbl := List.mem_of_getElem? (i := 1328) (by decide +kernel)
theorem t_1329 : Cond.methodLink RX11 225 yX11_beatsFree ∈ lw_tbl := List.mem_of_getElem? (i := 1329) (by decide +kernel)
theorem t_1331 : Cond.instanceMethod yX11_beatsFree ∈ lw_tbl := List.mem_of_getElem? (i := 1331) (by decide +kernel)
theorem t_1332 : Cond.code yX11_beatsFree cX11_beatsFree 9 (some FieldType.int) ∈ lw_tbl := List.mem_of_getElem? (i := 1332) (by decide +kernel)
theorem t_1333 : Cond.methodLink RX11 218 yX11_hand ∈ lw_tbl := List.mem_of_getElem? (i := 1333) (by decide +kernel)
theorem t_1335 : Cond.instanceMethod yX11_hand ∈ lw_tbl := List.mem_of_getElem? (i := 1335) (by decide +kernel)
theorem t_1336 : Cond.code yX11_hand cX11_hand 3 (some FieldType.int) ∈ lw_tbl := List.mem_of_getElem? (i := 1336) (by decide +kernel)
theorem t_1337 : Cond.methodLink RX11 222 yX11_beats ∈ lw_tbl := List.mem_of_getElem? (i := 1337) (by decide +kernel)
theorem t_1339 : Cond.instanceMethod yX11_beats ∈ lw_tbl := List.mem_of_getElem? (i := 1339) (by decide +kernel)
theorem t_1340 : Cond.code yX11_beats cX11_beats 3 (some FieldType.int) ∈ lw_tbl := List.mem_of_getElem? (i := 1340) (by decide +kernel)
theorem t_1341 : Cond.methodLink RL 57 yX11_room_ ∈ lw_tbl := List.mem_of_getElem? (i := 1341) (by decide +kernel)
theorem t_1342 : Cond.instanceMethod yX11_room_ ∈ lw_tbl := List.mem_of_getElem? (i := 1342) (by decide +kernel)
theorem t_1343 : Cond.selects RX11 yX11_room_ yX11_room_ ∈ lw_tbl := List.mem_of_getElem? (i := 1343) (by decide +kernel)
theorem t_1344 : Cond.code yX11_room_ cX11_room_ 4 (some FieldType.int) ∈ lw_tbl := List.mem_of_getElem? (i := 1344) (by decide +kernel)
theorem t_1345 : Cond.methodLink RX11 233 yX11_room ∈ lw_tbl := List.mem_of_getElem? (i := 1345) (by decide +kernel)
theorem t_1347 : Cond.instanceMethod yX11_room ∈ lw_tbl := List.mem_of_getElem? (i := 1347) (by decide +kernel)
theorem t_1348 : Cond.code yX11_room cX11_room 5 (some FieldType.int) ∈ lw_tbl := List.mem_of_getElem? (i := 1348) (by decide +kernel)
theorem t_1349 : Cond.methodLink RL 61 yX11_line ∈ lw_tbl := List.mem_of_getElem? (i := 1349) (by decide +kernel)
theorem t_1350 : Cond.instanceMethod yX11_line ∈ lw_tbl := List.mem_of_getElem? (i := 1350) (by decide +kernel)
theorem t_1351 : Cond.selects RX11 yX11_line yX11_line ∈ lw_tbl := List.mem_of_getElem? (i := 1351) (by decide +kernel)
theorem t_1352 : Cond.code yX11_line cX11_line 6 (some FieldType.int) ∈ lw_tbl := List.mem_of_getElem? (i := 1352) (by decide +kernel)
theorem t_1353 : Cond.methodLink RX11 240 yX11_isSpan ∈ lw_tbl := List.mem_of_getElem? (i := 1353) (by decide +kernel)
theorem t_1355 : Cond.instanceMethod yX11_isSpan ∈ lw_tbl := List.mem_of_getElem? (i := 1355) (by decide +kernel)
theorem t_1356 : Cond.code yX11_isSpan cX11_isSpan 5 (some FieldType.boolean) ∈ lw_tbl := List.mem_of_getElem? (i := 1356) (by decide +kernel)
theorem t_1357 : Cond.methodLink RX11 244 yX11_rooms ∈ lw_tbl := List.mem_of_getElem? (i := 1357) (by decide +kernel)
theorem t_1359 : Cond.instanceMethod yX11_rooms ∈ lw_tbl := List.mem_of_getElem? (i := 1359) (by decide +kernel)
theorem t_1360 : Cond.code yX11_rooms cX11_rooms 8 (some FieldType.int) ∈ lw_tbl := List.mem_of_getElem? (i := 1360) (by decide +kernel)
theorem t_1361 : Cond.methodLink RX11 248 yX11_mayEnd ∈ lw_tbl := List.mem_of_getElem? (i := 1361) (by decide +kernel)
theorem t_1363 : Cond.instanceMethod yX11_mayEnd ∈ lw_tbl := List.mem_of_getElem? (i := 1363) (by decide +kernel)
theorem t_1364 : Cond.code yX11_mayEnd cX11_mayEnd 3 (some FieldType.boolean) ∈ lw_tbl := List.mem_of_getElem? (i := 1364) (by decide +kernel)
theorem t_1365 : Cond.methodLink RX11 237 yX11_hasMark ∈ lw_tbl := List.mem_of_getElem? (i := 1365) (by decide +kernel)
theorem t_1367 : Cond.instanceMethod yX11_hasMark ∈ lw_tbl := List.mem_of_getElem? (i := 1367) (by decide +kernel)
theorem t_1368 : Cond.code yX11_hasMark cX11_hasMark 4 (some FieldType.boolean) ∈ lw_tbl := List.mem_of_getElem? (i := 1368) (by decide +kernel)
theorem t_1369 : Cond.methodLink RX11 251 yX11_lineCost ∈ lw_tbl := List.mem_of_getElem? (i := 1369) (by decide +kernel)
theorem t_1371 : Cond.instanceMethod yX11_lineCost ∈ lw_tbl := List.mem_of_getElem? (i := 1371) (by decide +kernel)
theorem t_1372 : Cond.code yX11_lineCost cX11_lineCost 9 (some FieldType.int) ∈ lw_tbl := List.mem_of_getElem? (i := 1372) (by decide +kernel)
theorem t_1373 : Cond.methodLink RL 65 yX11_page ∈ lw_tbl := List.mem_of_getElem? (i := 1373) (by decide +kernel)
theorem t_1374 : Cond.instanceMethod yX11_page ∈ lw_tbl := List.mem_of_getElem? (i := 1374) (by decide +kernel)
theorem t_1375 : Cond.selects RX11 yX11_page yX11_page ∈ lw_tbl := List.mem_of_getElem? (i := 1375) (by decide +kernel)
theorem t_1376 : Cond.code yX11_page cX11_page 6 (some FieldType.int) ∈ lw_tbl := List.mem_of_getElem? (i := 1376) (by decide +kernel)
theorem t_1377 : Cond.methodLink RX11 259 yX11_findLines ∈ lw_tbl := List.mem_of_getElem? (i := 1377) (by decide +kernel)
theorem t_1379 : Cond.instanceMethod yX11_findLines ∈ lw_tbl := List.mem_of_getElem? (i := 1379) (by decide +kernel)
theorem t_1380 : Cond.code yX11_findLines cX11_findLines 7 none ∈ lw_tbl := List.mem_of_getElem? (i := 1380) (by decide +kernel)
theorem t_1381 : Cond.methodLink RX11 255 yX11_cell ∈ lw_tbl := List.mem_of_getElem? (i := 1381) (by decide +kernel)
theorem t_1382 : Cond.static yX11_cell ∈ lw_tbl := List.mem_of_getElem? (i := 1382) (by decide +kernel)
theorem t_1383 : Cond.code yX11_cell cX11_cell 3 (some FieldType.int) ∈ lw_tbl := List.mem_of_getElem? (i := 1383) (by decide +kernel)
theorem t_1384 : Cond.constant RX11 258 (1000000000) ∈ lw_tbl := List.mem_of_getElem? (i := 1384) (by decide +kernel)
theorem t_1385 : Cond.methodLink RX11 263 yX11_findTails ∈ lw_tbl := List.mem_of_getElem? (i := 1385) (by decide +kernel)
theorem t_1387 : Cond.instanceMethod yX11_findTails ∈ lw_tbl := List.mem_of_getElem? (i := 1387) (by decide +kernel)
theorem t_1388 : Cond.code yX11_findTails cX11_findTails 9 none ∈ lw_tbl := List.mem_of_getElem? (i := 1388) (by decide +kernel)
theorem t_1389 : Cond.methodLink RL 69 yX11_best ∈ lw_tbl := List.mem_of_getElem? (i := 1389) (by decide +kernel)
theorem t_1390 : Cond.instanceMethod yX11_best ∈ lw_tbl := List.mem_of_getElem? (i := 1390) (by decide +kernel)
theorem t_1391 : Cond.selects RX11 yX11_best yX11_best ∈ lw_tbl := List.mem_of_getElem? (i := 1391) (by decide +kernel)
theorem t_1392 : Cond.code yX11_best cX11_best 3 (some FieldType.int) ∈ lw_tbl := List.mem_of_getElem? (i := 1392) (by decide +kernel)
theorem t_1393 : Cond.methodLink RX11 298 yX11_laysOut ∈ lw_tbl := List.mem_of_getElem? (i := 1393) (by decide +kernel)
theorem t_1395 : Cond.instanceMethod yX11_laysOut ∈ lw_tbl := List.mem_of_getElem? (i := 1395) (by decide +kernel)
theorem t_1396 : Cond.code yX11_laysOut cX11_laysOut 6 (some FieldType.boolean) ∈ lw_tbl := List.mem_of_getElem? (i := 1396) (by decide +kernel)
theorem t_1397 : Cond.methodLink RX11 283 yX11_findPages ∈ lw_tbl := List.mem_of_getElem? (i := 1397) (by decide +kernel)
theorem t_1399 : Cond.instanceMethod yX11_findPages ∈ lw_tbl := List.mem_of_getElem? (i := 1399) (by decide +kernel)
theorem t_1400 : Cond.code yX11_findPages cX11_findPages 6 none ∈ lw_tbl := List.mem_of_getElem? (i := 1400) (by decide +kernel)
theorem t_1401 : Cond.methodLink RX11 286 yX11_lays ∈ lw_tbl := List.mem_of_getElem? (i := 1401) (by decide +kernel)
theorem t_1403 : Cond.instanceMethod yX11_lays ∈ lw_tbl := List.mem_of_getElem? (i := 1403) (by decide +kernel)
theorem t_1404 : Cond.code yX11_lays cX11_lays 5 (some FieldType.boolean) ∈ lw_tbl := List.mem_of_getElem? (i := 1404) (by decide +kernel)
theorem t_1405 : Cond.methodLink RX11 272 yX11_findStops ∈ lw_tbl := List.mem_of_getElem? (i := 1405) (by decide +kernel)
theorem t_1407 : Cond.instanceMethod yX11_findStops ∈ lw_tbl := List.mem_of_getElem? (i := 1407) (by decide +kernel)
theorem t_1408 : Cond.code yX11_findStops cX11_findStops 3 none ∈ lw_tbl := List.mem_of_getElem? (i := 1408) (by decide +kernel)
theorem t_1409 : Cond.methodLink RX11 266 yX11_hasHelp ∈ lw_tbl := List.mem_of_getElem? (i := 1409) (by decide +kernel)
theorem t_1411 : Cond.instanceMethod yX11_hasHelp ∈ lw_tbl := List.mem_of_getElem? (i := 1411) (by decide +kernel)
theorem t_1412 : Cond.code yX11_hasHelp cX11_hasHelp 4 (some FieldType.boolean) ∈ lw_tbl := List.mem_of_getElem? (i := 1412) (by decide +kernel)
theorem t_1413 : Cond.methodLink RX11 276 yX11_findFrom ∈ lw_tbl := List.mem_of_getElem? (i := 1413) (by decide +kernel)
theorem t_1415 : Cond.instanceMethod yX11_findFrom ∈ lw_tbl := List.mem_of_getElem? (i := 1415) (by decide +kernel)
theorem t_1416 : Cond.code yX11_findFrom cX11_findFrom 15 none ∈ lw_tbl := List.mem_of_getElem? (i := 1416) (by decide +kernel)
theorem t_1417 : Cond.methodLink RX11 269 yX11_isTurn ∈ lw_tbl := List.mem_of_getElem? (i := 1417) (by decide +kernel)
theorem t_1419 : Cond.instanceMethod yX11_isTurn ∈ lw_tbl := List.mem_of_getElem? (i := 1419) (by decide +kernel)
theorem t_1420 : Cond.code yX11_isTurn cX11_isTurn 3 (some FieldType.boolean) ∈ lw_tbl := List.mem_of_getElem? (i := 1420) (by decide +kernel)
theorem t_1421 : Cond.methodLink RX11 295 yX11_layLines ∈ lw_tbl := List.mem_of_getElem? (i := 1421) (by decide +kernel)
theorem t_1423 : Cond.instanceMethod yX11_layLines ∈ lw_tbl := List.mem_of_getElem? (i := 1423) (by decide +kernel)
theorem t_1424 : Cond.code yX11_layLines cX11_layLines 8 none ∈ lw_tbl := List.mem_of_getElem? (i := 1424) (by decide +kernel)
theorem t_1425 : Cond.methodLink RL 73 yX11_laid ∈ lw_tbl := List.mem_of_getElem? (i := 1425) (by decide +kernel)
theorem t_1426 : Cond.instanceMethod yX11_laid ∈ lw_tbl := List.mem_of_getElem? (i := 1426) (by decide +kernel)
theorem t_1427 : Cond.selects RX11 yX11_laid yX11_laid ∈ lw_tbl := List.mem_of_getElem? (i := 1427) (by decide +kernel)
theorem t_1428 : Cond.code yX11_laid cX11_laid 4 (some FieldType.int) ∈ lw_tbl := List.mem_of_getElem? (i := 1428) (by decide +kernel)
theorem t_1429 : Cond.constantLong RX11 301 (5) ∈ lw_tbl := List.mem_of_getElem? (i := 1429) (by decide +kernel)
theorem t_1430 : Cond.methodLink RL 77 yX11_ends ∈ lw_tbl := List.mem_of_getElem? (i := 1430) (by decide +kernel)
theorem t_1431 : Cond.instanceMethod yX11_ends ∈ lw_tbl := List.mem_of_getElem? (i := 1431) (by decide +kernel)
theorem t_1432 : Cond.selects RX11 yX11_ends yX11_ends ∈ lw_tbl := List.mem_of_getElem? (i := 1432) (by decide +kernel)
theorem t_1433 : Cond.code yX11_ends cX11_ends 3 (some FieldType.int) ∈ lw_tbl := List.mem_of_getElem? (i := 1433) (by decide +kernel)
theorem t_1434 : Cond.methodLink RL 81 yX11_stop ∈ lw_tbl := List.mem_of_getElem? (i := 1434) (by decide +kernel)
theorem t_1435 : Cond.instanceMethod yX11_stop ∈ lw_tbl := List.mem_of_getElem? (i := 1435) (by decide +kernel)
theorem t_1436 : Cond.selects RX11 yX11_stop yX11_stop ∈ lw_tbl := List.mem_of_getElem? (i := 1436) (by decide +kernel)
theorem t_1437 : Cond.code yX11_stop cX11_stop 6 (some FieldType.int) ∈ lw_tbl := List.mem_of_getElem? (i := 1437) (by decide +kernel)
theorem t_1438 : Cond.methodLink RL 85 yX11_hearts ∈ lw_tbl := List.mem_of_getElem? (i := 1438) (by decide +kernel)
theorem t_1439 : Cond.instanceMethod yX11_hearts ∈ lw_tbl := List.mem_of_getElem? (i := 1439) (by decide +kernel)
theorem t_1440 : Cond.selects RX11 yX11_hearts yX11_hearts ∈ lw_tbl := List.mem_of_getElem? (i := 1440) (by decide +kernel)
theorem t_1441 : Cond.code yX11_hearts cX11_hearts 6 (some FieldType.int) ∈ lw_tbl := List.mem_of_getElem? (i := 1441) (by decide +kernel)
theorem t_1442 : Cond.methodLink RX11 303 yX11_stopsOf ∈ lw_tbl := List.mem_of_getElem? (i := 1442) (by decide +kernel)
theorem t_1444 : Cond.instanceMethod yX11_stopsOf ∈ lw_tbl := List.mem_of_getElem? (i := 1444) (by decide +kernel)
theorem t_1445 : Cond.code yX11_stopsOf cX11_stopsOf 2 (some FieldType.int) ∈ lw_tbl := List.mem_of_getElem? (i := 1445) (by decide +kernel)
theorem t_1446 : Cond.methodLink RL 89 yX11_folds ∈ lw_tbl := List.mem_of_getElem? (i := 1446) (by decide +kernel)
theorem t_1447 : Cond.instanceMethod yX11_folds ∈ lw_tbl := List.mem_of_getElem? (i := 1447) (by decide +kernel)
theorem t_1448 : Cond.selects RX11 yX11_folds yX11_folds ∈ lw_tbl := List.mem_of_getElem? (i := 1448) (by decide +kernel)
theorem t_1449 : Cond.code yX11_folds cX11_folds 6 (some FieldType.int) ∈ lw_tbl := List.mem_of_getElem? (i := 1449) (by decide +kernel)
theorem t_1450 : Cond.methodLink RX11 306 yX11_ones ∈ lw_tbl := List.mem_of_getElem? (i := 1450) (by decide +kernel)
theorem t_1451 : Cond.static yX11_ones ∈ lw_tbl := List.mem_of_getElem? (i := 1451) (by decide +kernel)
theorem t_1452 : Cond.code yX11_ones cX11_ones 3 (some FieldType.int) ∈ lw_tbl := List.mem_of_getElem? (i := 1452) (by decide +kernel)
theorem t_1453 : Cond.methodLink RL 93 yX11_needs ∈ lw_tbl := List.mem_of_getElem? (i := 1453) (by decide +kernel)
theorem t_1454 : Cond.instanceMethod yX11_needs ∈ lw_tbl := List.mem_of_getElem? (i := 1454) (by decide +kernel)
theorem t_1455 : Cond.selects RX11 yX11_needs yX11_needs ∈ lw_tbl := List.mem_of_getElem? (i := 1455) (by decide +kernel)
theorem t_1456 : Cond.code yX11_needs cX11_needs 6 (some FieldType.int) ∈ lw_tbl := List.mem_of_getElem? (i := 1456) (by decide +kernel)
theorem t_1457 : Cond.methodLink RL 97 yX11_together ∈ lw_tbl := List.mem_of_getElem? (i := 1457) (by decide +kernel)
theorem t_1458 : Cond.instanceMethod yX11_together ∈ lw_tbl := List.mem_of_getElem? (i := 1458) (by decide +kernel)
theorem t_1459 : Cond.selects RX11 yX11_together yX11_together ∈ lw_tbl := List.mem_of_getElem? (i := 1459) (by decide +kernel)
theorem t_1460 : Cond.code yX11_together cX11_together 3 (some FieldType.int) ∈ lw_tbl := List.mem_of_getElem? (i := 1460) (by decide +kernel)
theorem t_1461 : Cond.methodLink RX11 309 yX11_noTurns ∈ lw_tbl := List.mem_of_getElem? (i := 1461) (by decide +kernel)
theorem t_1463 : Cond.instanceMethod yX11_noTurns ∈ lw_tbl := List.mem_of_getElem? (i := 1463) (by decide +kernel)
theorem t_1464 : Cond.code yX11_noTurns cX11_noTurns 2 none ∈ lw_tbl := List.mem_of_getElem? (i := 1464) (by decide +kernel)
theorem t_1465 : Cond.methodLink RX11 312 yX11_countsTurns ∈ lw_tbl := List.mem_of_getElem? (i := 1465) (by decide +kernel)
theorem t_1467 : Cond.instanceMethod yX11_countsTurns ∈ lw_tbl := List.mem_of_getElem? (i := 1467) (by decide +kernel)
theorem t_1468 : Cond.code yX11_countsTurns cX11_countsTurns 3 (some FieldType.boolean) ∈ lw_tbl := List.mem_of_getElem? (i := 1468) (by decide +kernel)
theorem t_1469 : Cond.methodLink RX11 315 yX11_turnsFrom ∈ lw_tbl := List.mem_of_getElem? (i := 1469) (by decide +kernel)
theorem t_1471 : Cond.instanceMethod yX11_turnsFrom ∈ lw_tbl := List.mem_of_getElem? (i := 1471) (by decide +kernel)
theorem t_1472 : Cond.code yX11_turnsFrom cX11_turnsFrom 4 (some FieldType.int) ∈ lw_tbl := List.mem_of_getElem? (i := 1472) (by decide +kernel)
theorem t_1473 : Cond.methodLink RL 101 yX11_all ∈ lw_tbl := List.mem_of_getElem? (i := 1473) (by decide +kernel)
theorem t_1474 : Cond.instanceMethod yX11_all ∈ lw_tbl := List.mem_of_getElem? (i := 1474) (by decide +kernel)
theorem t_1475 : Cond.selects RX11 yX11_all yX11_all ∈ lw_tbl := List.mem_of_getElem? (i := 1475) (by decide +kernel)
theorem t_1476 : Cond.code yX11_all cX11_all 6 (some FieldType.int) ∈ lw_tbl := List.mem_of_getElem? (i := 1476) (by decide +kernel)
theorem t_1477 : Cond.methodLink RL 105 yX11_lay ∈ lw_tbl := List.mem_of_getElem? (i := 1477) (by decide +kernel)
theorem t_1478 : Cond.instanceMethod yX11_lay ∈ lw_tbl := List.mem_of_getElem? (i := 1478) (by decide +kernel)
theorem t_1479 : Cond.selects RX11 yX11_lay yX11_lay ∈ lw_tbl := List.mem_of_getElem? (i := 1479) (by decide +kernel)
theorem t_1480 : Cond.code yX11_lay cX11_lay 5 (some FieldType.int) ∈ lw_tbl := List.mem_of_getElem? (i := 1480) (by decide +kernel)
theorem t_1481 : Cond.methodLink RL 109 yX11_breakOf ∈ lw_tbl := List.mem_of_getElem? (i := 1481) (by decide +kernel)
theorem t_1482 : Cond.instanceMethod yX11_breakOf ∈ lw_tbl := List.mem_of_getElem? (i := 1482) (by decide +kernel)
theorem t_1483 : Cond.selects RX11 yX11_breakOf yX11_breakOf ∈ lw_tbl := List.mem_of_getElem? (i := 1483) (by decide +kernel)
theorem t_1484 : Cond.code yX11_breakOf cX11_breakOf 3 (some FieldType.int) ∈ lw_tbl := List.mem_of_getElem? (i := 1484) (by decide +kernel)
theorem t_1485 : Cond.methodLink RX11 324 yX11_isBreak ∈ lw_tbl := List.mem_of_getElem? (i := 1485) (by decide +kernel)
theorem t_1487 : Cond.instanceMethod yX11_isBreak ∈ lw_tbl := List.mem_of_getElem? (i := 1487) (by decide +kernel)
theorem t_1488 : Cond.code yX11_isBreak cX11_isBreak 2 (some FieldType.boolean) ∈ lw_tbl := List.mem_of_getElem? (i := 1488) (by decide +kernel)
theorem t_1489 : Cond.methodLink RX11 321 yX11_of ∈ lw_tbl := List.mem_of_getElem? (i := 1489) (by decide +kernel)
theorem t_1491 : Cond.instanceMethod yX11_of ∈ lw_tbl := List.mem_of_getElem? (i := 1491) (by decide +kernel)
theorem t_1492 : Cond.code yX11_of cX11_of 3 (some FieldType.int) ∈ lw_tbl := List.mem_of_getElem? (i := 1492) (by decide +kernel)
theorem t_1493 : Cond.methodLink RX11 327 yX11_mayBe ∈ lw_tbl := List.mem_of_getElem? (i := 1493) (by decide +kernel)
theorem t_1495 : Cond.instanceMethod yX11_mayBe ∈ lw_tbl := List.mem_of_getElem? (i := 1495) (by decide +kernel)
theorem t_1496 : Cond.code yX11_mayBe cX11_mayBe 5 (some FieldType.boolean) ∈ lw_tbl := List.mem_of_getElem? (i := 1496) (by decide +kernel)
theorem t_1497 : Cond.methodLink RX11 330 yX11_priceOf ∈ lw_tbl := List.mem_of_getElem? (i := 1497) (by decide +kernel)
theorem t_1499 : Cond.instanceMethod yX11_priceOf ∈ lw_tbl := List.mem_of_getElem? (i := 1499) (by decide +kernel)
theorem t_1500 : Cond.code yX11_priceOf cX11_priceOf 5 (some FieldType.int) ∈ lw_tbl := List.mem_of_getElem? (i := 1500) (by decide +kernel)
theorem t_1501 : Cond.methodLink RL 113 yX11_clear ∈ lw_tbl := List.mem_of_getElem? (i := 1501) (by decide +kernel)
theorem t_1502 : Cond.instanceMethod yX11_clear ∈ lw_tbl := List.mem_of_getElem? (i := 1502) (by decide +kernel)
theorem t_1503 : Cond.selects RX11 yX11_clear yX11_clear ∈ lw_tbl := List.mem_of_getElem? (i := 1503) (by decide +kernel)
theorem t_1504 : Cond.code yX11_clear cX11_clear 7 (some FieldType.int) ∈ lw_tbl := List.mem_of_getElem? (i := 1504) (by decide +kernel)
theorem t_1505 : Cond.methodLink RL 117 yX11_price ∈ lw_tbl := List.mem_of_getElem? (i := 1505) (by decide +kernel)
theorem t_1506 : Cond.instanceMethod yX11_price ∈ lw_tbl := List.mem_of_getElem? (i := 1506) (by decide +kernel)
theorem t_1507 : Cond.selects RX11 yX11_price yX11_price ∈ lw_tbl := List.mem_of_getElem? (i := 1507) (by decide +kernel)
theorem t_1508 : Cond.code yX11_price cX11_price 4 (some FieldType.int) ∈ lw_tbl := List.mem_of_getElem? (i := 1508) (by decide +kernel)
theorem t_1509 : Cond.methodLink RL 121 yX11_judge ∈ lw_tbl := List.mem_of_getElem? (i := 1509) (by decide +kernel)
theorem t_1510 : Cond.instanceMethod yX11_judge ∈ lw_tbl := List.mem_of_getElem? (i := 1510) (by decide +kernel)
theorem t_1511 : Cond.selects RX11 yX11_judge yX11_judge ∈ lw_tbl := List.mem_of_getElem? (i := 1511) (by decide +kernel)
theorem t_1512 : Cond.code yX11_judge cX11_judge 6 (some FieldType.int) ∈ lw_tbl := List.mem_of_getElem? (i := 1512) (by decide +kernel)
theorem t_1513 : Cond.methodLink RL 125 yX11_hold ∈ lw_tbl := List.mem_of_getElem? (i := 1513) (by decide +kernel)
theorem t_1514 : Cond.instanceMethod yX11_hold ∈ lw_tbl := List.mem_of_getElem? (i := 1514) (by decide +kernel)
theorem t_1515 : Cond.selects RX11 yX11_hold yX11_hold ∈ lw_tbl := List.mem_of_getElem? (i := 1515) (by decide +kernel)
theorem t_1516 : Cond.code yX11_hold cX11_hold 3 (some FieldType.int) ∈ lw_tbl := List.mem_of_getElem? (i := 1516) (by decide +kernel)
theorem t_1517 : Cond.constantLong RX11 333 (9) ∈ lw_tbl := List.mem_of_getElem? (i := 1517) (by decide +kernel)
theorem t_1518 : Cond.methodLink RL 129 yX11_as ∈ lw_tbl := List.mem_of_getElem? (i := 1518) (by decide +kernel)
theorem t_1519 : Cond.instanceMethod yX11_as ∈ lw_tbl := List.mem_of_getElem? (i := 1519) (by decide +kernel)
theorem t_1520 : Cond.selects RX11 yX11_as yX11_as ∈ lw_tbl := List.mem_of_getElem? (i := 1520) (by decide +kernel)
theorem t_1521 : Cond.code yX11_as cX11_as 4 (some FieldType.int) ∈ lw_tbl := List.mem_of_getElem? (i := 1521) (by decide +kernel)
theorem t_1522 : Cond.methodLink RX11 335 yX11_isUnder ∈ lw_tbl := List.mem_of_getElem? (i := 1522) (by decide +kernel)
theorem t_1523 : Cond.static yX11_isUnder ∈ lw_tbl := List.mem_of_getElem? (i := 1523) (by decide +kernel)
theorem t_1524 : Cond.code yX11_isUnder cX11_isUnder 3 (some FieldType.boolean) ∈ lw_tbl := List.mem_of_getElem? (i := 1524) (by decide +kernel)
theorem t_1525 : Cond.methodLink RX11 318 yX11_above ∈ lw_tbl := List.mem_of_getElem? (i := 1525) (by decide +kernel)
theorem t_1526 : Cond.static yX11_above ∈ lw_tbl := List.mem_of_getElem? (i := 1526) (by decide +kernel)
theorem t_1527 : Cond.code yX11_above cX11_above 1 (some FieldType.int) ∈ lw_tbl := List.mem_of_getElem? (i := 1527) (by decide +kernel)
theorem t_1528 : Cond.methodLink RL 133 yX11_sheet ∈ lw_tbl := List.mem_of_getElem? (i := 1528) (by decide +kernel)
theorem t_1529 : Cond.instanceMethod yX11_sheet ∈ lw_tbl := List.mem_of_getElem? (i := 1529) (by decide +kernel)
theorem t_1530 : Cond.selects RX11 yX11_sheet yX11_sheet ∈ lw_tbl := List.mem_of_getElem? (i := 1530) (by decide +kernel)
theorem t_1531 : Cond.code yX11_sheet cX11_sheet 5 (some FieldType.int) ∈ lw_tbl := List.mem_of_getElem? (i := 1531) (by decide +kernel)
theorem t_1532 : Cond.methodLink RX11 338 yX11_isSheet ∈ lw_tbl := List.mem_of_getElem? (i := 1532) (by decide +kernel)
theorem t_1533 : Cond.static yX11_isSheet ∈ lw_tbl := List.mem_of_getElem? (i := 1533) (by decide +kernel)
theorem t_1534 : Cond.code yX11_isSheet cX11_isSheet 1 (some FieldType.boolean) ∈ lw_tbl := List.mem_of_getElem? (i := 1534) (by decide +kernel)
theorem t_1535 : Cond.methodLink RL 137 yX11_write ∈ lw_tbl := List.mem_of_getElem? (i := 1535) (by decide +kernel)
theorem t_1536 : Cond.instanceMethod yX11_write ∈ lw_tbl := List.mem_of_getElem? (i := 1536) (by decide +kernel)
theorem t_1537 : Cond.selects RX11 yX11_write yX11_write ∈ lw_tbl := List.mem_of_getElem? (i := 1537) (by decide +kernel)
theorem t_1538 : Cond.code yX11_write cX11_write 4 (some FieldType.int) ∈ lw_tbl := List.mem_of_getElem? (i := 1538) (by decide +kernel)
theorem t_1539 : Cond.methodLink RL 142 yX11_copy ∈ lw_tbl := List.mem_of_getElem? (i := 1539) (by decide +kernel)
theorem t_1540 : Cond.instanceMethod yX11_copy ∈ lw_tbl := List.mem_of_getElem? (i := 1540) (by decide +kernel)
theorem t_1541 : Cond.selects RX11 yX11_copy yX11_copy ∈ lw_tbl := List.mem_of_getElem? (i := 1541) (by decide +kernel)
theorem t_1542 : Cond.code yX11_copy cX11_copy 9 (some FieldType.int) ∈ lw_tbl := List.mem_of_getElem? (i := 1542) (by decide +kernel)
theorem t_1543 : Cond.methodLink RL 146 yX11_rooms_ ∈ lw_tbl := List.mem_of_getElem? (i := 1543) (by decide +kernel)
theorem t_1544 : Cond.instanceMethod yX11_rooms_ ∈ lw_tbl := List.mem_of_getElem? (i := 1544) (by decide +kernel)
theorem t_1545 : Cond.selects RX11 yX11_rooms_ yX11_rooms_ ∈ lw_tbl := List.mem_of_getElem? (i := 1545) (by decide +kernel)
theorem t_1546 : Cond.code yX11_rooms_ cX11_rooms_ 6 (some FieldType.int) ∈ lw_tbl := List.mem_of_getElem? (i := 1546) (by decide +kernel)
theorem t_1547 : Cond.constantLong RX11 341 (60) ∈ lw_tbl := List.mem_of_getElem? (i := 1547) (by decide +kernel)
theorem t_1548 : Cond.methodLink RL 150 yX11_pages ∈ lw_tbl := List.mem_of_getElem? (i := 1548) (by decide +kernel)
theorem t_1549 : Cond.instanceMethod yX11_pages ∈ lw_tbl := List.mem_of_getElem? (i := 1549) (by decide +kernel)
theorem t_1550 : Cond.selects RX11 yX11_pages yX11_pages ∈ lw_tbl := List.mem_of_getElem? (i := 1550) (by decide +kernel)
theorem t_1551 : Cond.code yX11_pages cX11_pages 4 (some FieldType.int) ∈ lw_tbl := List.mem_of_getElem? (i := 1551) (by decide +kernel)
theorem t_1552 : Cond.methodLink RL 154 yX11_image ∈ lw_tbl := List.mem_of_getElem? (i := 1552) (by decide +kernel)
theorem t_1553 : Cond.instanceMethod yX11_image ∈ lw_tbl := List.mem_of_getElem? (i := 1553) (by decide +kernel)
theorem t_1554 : Cond.selects RX11 yX11_image yX11_image ∈ lw_tbl := List.mem_of_getElem? (i := 1554) (by decide +kernel)
theorem t_1555 : Cond.code yX11_image cX11_image 2 (some FieldType.int) ∈ lw_tbl := List.mem_of_getElem? (i := 1555) (by decide +kernel)
theorem t_1556 : Cond.methodLink RL 158 yX11_undo ∈ lw_tbl := List.mem_of_getElem? (i := 1556) (by decide +kernel)
theorem t_1557 : Cond.instanceMethod yX11_undo ∈ lw_tbl := List.mem_of_getElem? (i := 1557) (by decide +kernel)
theorem t_1558 : Cond.selects RX11 yX11_undo yX11_undo ∈ lw_tbl := List.mem_of_getElem? (i := 1558) (by decide +kernel)
theorem t_1559 : Cond.code yX11_undo cX11_undo 2 (some FieldType.int) ∈ lw_tbl := List.mem_of_getElem? (i := 1559) (by decide +kernel)
theorem t_1560 : Cond.methodLink RX11 346 yX11_barsInAll ∈ lw_tbl := List.mem_of_getElem? (i := 1560) (by decide +kernel)
theorem t_1562 : Cond.instanceMethod yX11_barsInAll ∈ lw_tbl := List.mem_of_getElem? (i := 1562) (by decide +kernel)
theorem t_1563 : Cond.code yX11_barsInAll cX11_barsInAll 3 (some FieldType.int) ∈ lw_tbl := List.mem_of_getElem? (i := 1563) (by decide +kernel)
theorem t_1564 : Cond.methodLink RL 162 yX11_tear ∈ lw_tbl := List.mem_of_getElem? (i := 1564) (by decide +kernel)
theorem t_1565 : Cond.instanceMethod yX11_tear ∈ lw_tbl := List.mem_of_getElem? (i := 1565) (by decide +kernel)
theorem t_1566 : Cond.selects RX11 yX11_tear yX11_tear ∈ lw_tbl := List.mem_of_getElem? (i := 1566) (by decide +kernel)
theorem t_1567 : Cond.code yX11_tear cX11_tear 2 (some FieldType.int) ∈ lw_tbl := List.mem_of_getElem? (i := 1567) (by decide +kernel)
theorem t_1568 : Cond.methodLink RL 166 yX11_count ∈ lw_tbl := List.mem_of_getElem? (i := 1568) (by decide +kernel)
theorem t_1569 : Cond.instanceMethod yX11_count ∈ lw_tbl := List.mem_of_getElem? (i := 1569) (by decide +kernel)
theorem t_1570 : Cond.selects RX11 yX11_count yX11_count ∈ lw_tbl := List.mem_of_getElem? (i := 1570) (by decide +kernel)
theorem t_1571 : Cond.code yX11_count cX11_count 4 (some FieldType.int) ∈ lw_tbl := List.mem_of_getElem? (i := 1571) (by decide +kernel)
theorem t_1572 : Cond.methodLink RL 170 yX11_status ∈ lw_tbl := List.mem_of_getElem? (i := 1572) (by decide +kernel)
theorem t_1573 : Cond.instanceMethod yX11_status ∈ lw_tbl := List.mem_of_getElem? (i := 1573) (by decide +kernel)
theorem t_1574 : Cond.selects RX11 yX11_status yX11_status ∈ lw_tbl := List.mem_of_getElem? (i := 1574) (by decide +kernel)
theorem t_1575 : Cond.code yX11_status cX11_status 4 (some FieldType.int) ∈ lw_tbl := List.mem_of_getElem? (i := 1575) (by decide +kernel)
theorem t_1576 : Cond.fieldLink RJ0 9 "java/lang/String" "value" "[B" ∈ lw_tbl := List.mem_of_getElem? (i := 1576) (by decide +kernel)
theorem t_1577 : Cond.fieldLink RJ0 15 "java/lang/String" "coder" "B" ∈ lw_tbl := List.mem_of_getElem? (i := 1577) (by decide +kernel)
