section
def RX0 : String := "Galleyforge$Block"
def TX0 : u_T := fun k => match k with
  | 0 => ("Galleyforge$Block", "kind", "I", true)
  | 1 => ("Galleyforge$Block", "styles", "[I", true)
  | 2 => ("Galleyforge$Block", "words", "Ljava/util/ArrayList;", true)
  | _ => ("Galleyforge$Block", "table", "LGalleyforge$Table;", true)
def tyX0 : Nat → FieldType := fun k => match k with
  | 0 => .int
  | 1 => .array .int
  | 2 => .object "java/util/ArrayList"
  | _ => .object "Galleyforge$Table"
abbrev wsX00 : List Cond := u_ws RX0 TX0 4
theorem nmX0 : ∀ a, a < 4 → ∀ b, b < 4 → a ≠ b → (TX0 a).2.1 ≠ (TX0 b).2.1 := by decide +kernel
theorem tyX0_ok : ∀ k, k < 4 → parseFieldDescriptor (TX0 k).2.2.1 = some (tyX0 k) := by decide +kernel
abbrev cX0_init : ByteArray := prog_2_method_1_code
def yX0_init : MethodName := ⟨RX0, "<init>", "(I)V"⟩
abbrev cX0_isThere : ByteArray := prog_2_method_2_code
def yX0_isThere : MethodName := ⟨RX0, "isThere", "(I)Z"⟩
abbrev cX0_hasLines : ByteArray := prog_2_method_3_code
def yX0_hasLines : MethodName := ⟨RX0, "hasLines", "()Z"⟩
abbrev cX0_hasWords : ByteArray := prog_2_method_4_code
def yX0_hasWords : MethodName := ⟨RX0, "hasWords", "()Z"⟩
abbrev cX0_isNumbered : ByteArray := prog_2_method_5_code
def yX0_isNumbered : MethodName := ⟨RX0, "isNumbered", "()Z"⟩
def RX1 : String := "Galleyforge$Layout"
def TX1 : u_T := fun k => match k with
  | 0 => ("Galleyforge$Layout", "text", "LGalleyforge$Text;", true)
  | 1 => ("Galleyforge$Layout", "variant", "I", true)
  | 2 => ("Galleyforge$Layout", "lines", "LGalleyforge$Lines;", true)
  | 3 => ("Galleyforge$Layout", "rows", "LGalleyforge$Rows;", true)
  | 4 => ("Galleyforge$Layout", "pages", "LGalleyforge$Pages;", true)
  | 5 => ("Galleyforge$Layout", "goesOn", "Z", false)
  | 6 => ("Galleyforge$Layout", "isLastRound", "Z", false)
  | 7 => ("Galleyforge$Layout", "lineCounts", "[I", true)
  | 8 => ("Galleyforge$Layout", "lineEnds", "[I", true)
  | 9 => ("Galleyforge$Layout", "lineClasses", "[I", true)
  | 10 => ("Galleyforge$Layout", "lineDemerits", "[J", true)
  | 11 => ("Galleyforge$Layout", "wordLines", "[I", true)
  | 12 => ("Galleyforge$Layout", "onPages", "[Z", true)
  | 13 => ("Galleyforge$Layout", "rounds", "I", false)
  | 14 => ("Galleyforge$Layout", "settled", "Z", false)
  | 15 => ("Galleyforge$Layout", "digits", "I", false)
  | _ => ("Galleyforge$Layout", "digitsOfRounds", "[I", true)
def tyX1 : Nat → FieldType := fun k => match k with
  | 0 => .object "Galleyforge$Text"
  | 1 => .int
  | 2 => .object "Galleyforge$Lines"
  | 3 => .object "Galleyforge$Rows"
  | 4 => .object "Galleyforge$Pages"
  | 5 => .boolean
  | 6 => .boolean
  | 7 => .array .int
  | 8 => .array .int
  | 9 => .array .int
  | 10 => .array .long
  | 11 => .array .int
  | 12 => .array .boolean
  | 13 => .int
  | 14 => .boolean
  | 15 => .int
  | _ => .array .int
abbrev wsX10 : List Cond := u_ws RX1 TX1 17
theorem nmX1 : ∀ a, a < 17 → ∀ b, b < 17 → a ≠ b → (TX1 a).2.1 ≠ (TX1 b).2.1 := by decide +kernel
theorem tyX1_ok : ∀ k, k < 17 → parseFieldDescriptor (TX1 k).2.2.1 = some (tyX1 k) := by decide +kernel
abbrev cX1_init : ByteArray := prog_3_method_1_code
def yX1_init : MethodName := ⟨RX1, "<init>", "(LGalleyforge$Text;ILGalleyforge$Lines;LGalleyforge$States;)V"⟩
abbrev cX1_forget : ByteArray := prog_3_method_2_code
def yX1_forget : MethodName := ⟨RX1, "forget", "()V"⟩
abbrev cX1_makeRound : ByteArray := prog_3_method_3_code
def yX1_makeRound : MethodName := ⟨RX1, "makeRound", "()V"⟩
abbrev cX1_compareDigits : ByteArray := prog_3_method_4_code
def yX1_compareDigits : MethodName := ⟨RX1, "compareDigits", "(I)V"⟩
abbrev cX1_breakBlock : ByteArray := prog_3_method_5_code
def yX1_breakBlock : MethodName := ⟨RX1, "breakBlock", "(I)V"⟩
abbrev cX1_placeWords : ByteArray := prog_3_method_6_code
def yX1_placeWords : MethodName := ⟨RX1, "placeWords", "(IIII)V"⟩
abbrev cX1_digitsOfPages : ByteArray := prog_3_method_7_code
def yX1_digitsOfPages : MethodName := ⟨RX1, "digitsOfPages", "()I"⟩
abbrev cX1_roundWith : ByteArray := prog_3_method_8_code
def yX1_roundWith : MethodName := ⟨RX1, "roundWith", "(I)I"⟩
abbrev cX1_mostDigitsFrom : ByteArray := prog_3_method_9_code
def yX1_mostDigitsFrom : MethodName := ⟨RX1, "mostDigitsFrom", "(I)I"⟩
abbrev cX1_demeritsByAllWays : ByteArray := prog_3_method_10_code
def yX1_demeritsByAllWays : MethodName := ⟨RX1, "demeritsByAllWays", "(I)J"⟩
abbrev cX1_headOf : ByteArray := prog_3_method_11_code
def yX1_headOf : MethodName := ⟨RX1, "headOf", "(I)I"⟩
abbrev cX1_isHeading : ByteArray := prog_3_method_12_code
def yX1_isHeading : MethodName := ⟨RX1, "isHeading", "(I)Z"⟩
abbrev cX1_pageOfLabel : ByteArray := prog_3_method_13_code
def yX1_pageOfLabel : MethodName := ⟨RX1, "pageOfLabel", "(I)I"⟩
abbrev cX1_headingAt : ByteArray := prog_3_method_14_code
def yX1_headingAt : MethodName := ⟨RX1, "headingAt", "(I)I"⟩
abbrev cX1_termAt : ByteArray := prog_3_method_15_code
def yX1_termAt : MethodName := ⟨RX1, "termAt", "(I)I"⟩
abbrev cX1_termsAhead : ByteArray := prog_3_method_16_code
def yX1_termsAhead : MethodName := ⟨RX1, "termsAhead", "(I)I"⟩
abbrev cX1_rangeOf : ByteArray := prog_3_method_17_code
def yX1_rangeOf : MethodName := ⟨RX1, "rangeOf", "(II)I"⟩
abbrev cX1_findPagesOf : ByteArray := prog_3_method_18_code
def yX1_findPagesOf : MethodName := ⟨RX1, "findPagesOf", "(I)V"⟩
def RX2 : String := "Galleyforge$Lines"
def TX2 : u_T := fun k => match k with
  | 0 => ("Galleyforge$Lines", "places", "I", false)
  | 1 => ("Galleyforge$Lines", "wordAt", "[I", true)
  | 2 => ("Galleyforge$Lines", "gapAt", "[I", true)
  | 3 => ("Galleyforge$Lines", "widthTo", "[I", true)
  | 4 => ("Galleyforge$Lines", "wordsTo", "[I", true)
  | 5 => ("Galleyforge$Lines", "width", "I", false)
  | 6 => ("Galleyforge$Lines", "narrowWidth", "I", false)
  | 7 => ("Galleyforge$Lines", "depth", "I", false)
  | 8 => ("Galleyforge$Lines", "spread", "I", false)
  | 9 => ("Galleyforge$Lines", "lineClass", "I", false)
  | 10 => ("Galleyforge$Lines", "bestDemerits", "[J", true)
  | 11 => ("Galleyforge$Lines", "bestLines", "[I", true)
  | _ => ("Galleyforge$Lines", "bestEnds", "[I", true)
def tyX2 : Nat → FieldType := fun k => match k with
  | 0 => .int
  | 1 => .array .int
  | 2 => .array .int
  | 3 => .array .int
  | 4 => .array .int
  | 5 => .int
  | 6 => .int
  | 7 => .int
  | 8 => .int
  | 9 => .int
  | 10 => .array .long
  | 11 => .array .int
  | _ => .array .int
abbrev wsX20 : List Cond := u_ws RX2 TX2 13
theorem nmX2 : ∀ a, a < 13 → ∀ b, b < 13 → a ≠ b → (TX2 a).2.1 ≠ (TX2 b).2.1 := by decide +kernel
theorem tyX2_ok : ∀ k, k < 13 → parseFieldDescriptor (TX2 k).2.2.1 = some (tyX2 k) := by decide +kernel
abbrev cX2_init : ByteArray := prog_4_method_1_code
def yX2_init : MethodName := ⟨RX2, "<init>", "()V"⟩
abbrev cX2_takeUp : ByteArray := prog_4_method_2_code
def yX2_takeUp : MethodName := ⟨RX2, "takeUp", "(LGalleyforge$Block;III)V"⟩
abbrev cX2_setWidths : ByteArray := prog_4_method_3_code
def yX2_setWidths : MethodName := ⟨RX2, "setWidths", "(LGalleyforge$Block;I)V"⟩
abbrev cX2_addWord : ByteArray := prog_4_method_4_code
def yX2_addWord : MethodName := ⟨RX2, "addWord", "(LGalleyforge$Word;II)V"⟩
abbrev cX2_addPlace : ByteArray := prog_4_method_5_code
def yX2_addPlace : MethodName := ⟨RX2, "addPlace", "(IIII)V"⟩
abbrev cX2_widthOf : ByteArray := prog_4_method_6_code
def yX2_widthOf : MethodName := ⟨RX2, "widthOf", "(I)I"⟩
abbrev cX2_judge : ByteArray := prog_4_method_7_code
def yX2_judge : MethodName := ⟨RX2, "judge", "(III)Z"⟩
abbrev cX2_ownDemerits : ByteArray := prog_4_method_8_code
def yX2_ownDemerits : MethodName := ⟨RX2, "ownDemerits", "(I)J"⟩
abbrev cX2_demeritsForAhead : ByteArray := prog_4_method_9_code
def yX2_demeritsForAhead : MethodName := ⟨RX2, "demeritsForAhead", "(III)I"⟩
abbrev cX2_wayIndex : ByteArray := prog_4_method_10_code
def yX2_wayIndex : MethodName := ⟨RX2, "wayIndex", "(III)I"⟩
abbrev cX2_findBestWays : ByteArray := prog_4_method_11_code
def yX2_findBestWays : MethodName := ⟨RX2, "findBestWays", "()V"⟩
abbrev cX2_tryLines : ByteArray := prog_4_method_12_code
def yX2_tryLines : MethodName := ⟨RX2, "tryLines", "(II)V"⟩
abbrev cX2_clearWaysFrom : ByteArray := prog_4_method_13_code
def yX2_clearWaysFrom : MethodName := ⟨RX2, "clearWaysFrom", "(II)V"⟩
abbrev cX2_clearWays : ByteArray := prog_4_method_14_code
def yX2_clearWays : MethodName := ⟨RX2, "clearWays", "(III)V"⟩
abbrev cX2_tryLine : ByteArray := prog_4_method_15_code
def yX2_tryLine : MethodName := ⟨RX2, "tryLine", "(III)V"⟩
abbrev cX2_leastDemerits : ByteArray := prog_4_method_16_code
def yX2_leastDemerits : MethodName := ⟨RX2, "leastDemerits", "()J"⟩
abbrev cX2_bestEnd : ByteArray := prog_4_method_17_code
def yX2_bestEnd : MethodName := ⟨RX2, "bestEnd", "(III)I"⟩
abbrev cX2_leastByAllWays : ByteArray := prog_4_method_18_code
def yX2_leastByAllWays : MethodName := ⟨RX2, "leastByAllWays", "()J"⟩
abbrev cX2_demeritsOf : ByteArray := prog_4_method_19_code
def yX2_demeritsOf : MethodName := ⟨RX2, "demeritsOf", "(I)J"⟩
def RX3 : String := "Galleyforge$Page"
def TX3 : u_T := fun k => match k with
  | 0 => ("Galleyforge$Page", "text", "LGalleyforge$Text;", true)
  | 1 => ("Galleyforge$Page", "rows", "LGalleyforge$Rows;", true)
  | 2 => ("Galleyforge$Page", "row", "I", false)
  | 3 => ("Galleyforge$Page", "count", "I", false)
  | 4 => ("Galleyforge$Page", "wait", "I", false)
  | 5 => ("Galleyforge$Page", "left", "I", false)
  | 6 => ("Galleyforge$Page", "height", "I", false)
  | 7 => ("Galleyforge$Page", "notes", "I", false)
  | 8 => ("Galleyforge$Page", "lastNote", "I", false)
  | 9 => ("Galleyforge$Page", "topSet", "I", false)
  | 10 => ("Galleyforge$Page", "bottomSet", "I", false)
  | 11 => ("Galleyforge$Page", "waitNext", "I", false)
  | 12 => ("Galleyforge$Page", "leftNext", "I", false)
  | 13 => ("Galleyforge$Page", "noteLines", "I", false)
  | _ => ("Galleyforge$Page", "used", "I", false)
def tyX3 : Nat → FieldType := fun k => match k with
  | 0 => .object "Galleyforge$Text"
  | 1 => .object "Galleyforge$Rows"
  | 2 => .int
  | 3 => .int
  | 4 => .int
  | 5 => .int
  | 6 => .int
  | 7 => .int
  | 8 => .int
  | 9 => .int
  | 10 => .int
  | 11 => .int
  | 12 => .int
  | 13 => .int
  | _ => .int
abbrev wsX30 : List Cond := u_ws RX3 TX3 15
theorem nmX3 : ∀ a, a < 15 → ∀ b, b < 15 → a ≠ b → (TX3 a).2.1 ≠ (TX3 b).2.1 := by decide +kernel
theorem tyX3_ok : ∀ k, k < 15 → parseFieldDescriptor (TX3 k).2.2.1 = some (tyX3 k) := by decide +kernel
abbrev cX3_init : ByteArray := prog_5_method_1_code
def yX3_init : MethodName := ⟨RX3, "<init>", "(LGalleyforge$Text;LGalleyforge$Rows;)V"⟩
abbrev cX3_open : ByteArray := prog_5_method_2_code
def yX3_open : MethodName := ⟨RX3, "open", "(III)V"⟩
abbrev cX3_standAtTop : ByteArray := prog_5_method_3_code
def yX3_standAtTop : MethodName := ⟨RX3, "standAtTop", "()V"⟩
abbrev cX3_addRow : ByteArray := prog_5_method_4_code
def yX3_addRow : MethodName := ⟨RX3, "addRow", "()Z"⟩
abbrev cX3_isTooHigh : ByteArray := prog_5_method_5_code
def yX3_isTooHigh : MethodName := ⟨RX3, "isTooHigh", "()Z"⟩
abbrev cX3_mayEnd : ByteArray := prog_5_method_6_code
def yX3_mayEnd : MethodName := ⟨RX3, "mayEnd", "()Z"⟩
abbrev cX3_close : ByteArray := prog_5_method_7_code
def yX3_close : MethodName := ⟨RX3, "close", "()V"⟩
abbrev cX3_standAtBottom : ByteArray := prog_5_method_8_code
def yX3_standAtBottom : MethodName := ⟨RX3, "standAtBottom", "()V"⟩
abbrev cX3_costs : ByteArray := prog_5_method_9_code
def yX3_costs : MethodName := ⟨RX3, "costs", "()I"⟩
abbrev cX3_costsOfParting : ByteArray := prog_5_method_10_code
def yX3_costsOfParting : MethodName := ⟨RX3, "costsOfParting", "(I)I"⟩
def RX4 : String := "Galleyforge$Pages"
def TX4 : u_T := fun k => match k with
  | 0 => ("Galleyforge$Pages", "text", "LGalleyforge$Text;", true)
  | 1 => ("Galleyforge$Pages", "rows", "LGalleyforge$Rows;", true)
  | 2 => ("Galleyforge$Pages", "page", "LGalleyforge$Page;", true)
  | 3 => ("Galleyforge$Pages", "states", "LGalleyforge$States;", true)
  | 4 => ("Galleyforge$Pages", "count", "I", false)
  | 5 => ("Galleyforge$Pages", "costs", "I", false)
  | 6 => ("Galleyforge$Pages", "firstRows", "[I", true)
  | 7 => ("Galleyforge$Pages", "rowCounts", "[I", true)
  | 8 => ("Galleyforge$Pages", "noteLines", "[I", true)
  | 9 => ("Galleyforge$Pages", "used", "[I", true)
  | 10 => ("Galleyforge$Pages", "pagesOfRows", "[I", true)
  | _ => ("Galleyforge$Pages", "figuresAt", "[I", true)
def tyX4 : Nat → FieldType := fun k => match k with
  | 0 => .object "Galleyforge$Text"
  | 1 => .object "Galleyforge$Rows"
  | 2 => .object "Galleyforge$Page"
  | 3 => .object "Galleyforge$States"
  | 4 => .int
  | 5 => .int
  | 6 => .array .int
  | 7 => .array .int
  | 8 => .array .int
  | 9 => .array .int
  | 10 => .array .int
  | _ => .array .int
abbrev wsX40 : List Cond := u_ws RX4 TX4 12
theorem nmX4 : ∀ a, a < 12 → ∀ b, b < 12 → a ≠ b → (TX4 a).2.1 ≠ (TX4 b).2.1 := by decide +kernel
theorem tyX4_ok : ∀ k, k < 12 → parseFieldDescriptor (TX4 k).2.2.1 = some (tyX4 k) := by decide +kernel
abbrev cX4_init : ByteArray := prog_6_method_1_code
def yX4_init : MethodName := ⟨RX4, "<init>", "(LGalleyforge$Text;LGalleyforge$Rows;LGalleyforge$States;)V"⟩
abbrev cX4_pageOf : ByteArray := prog_6_method_2_code
def yX4_pageOf : MethodName := ⟨RX4, "pageOf", "(I)I"⟩
abbrev cX4_make : ByteArray := prog_6_method_3_code
def yX4_make : MethodName := ⟨RX4, "make", "()V"⟩
abbrev cX4_reachFrom : ByteArray := prog_6_method_4_code
def yX4_reachFrom : MethodName := ⟨RX4, "reachFrom", "(II)V"⟩
abbrev cX4_choose : ByteArray := prog_6_method_5_code
def yX4_choose : MethodName := ⟨RX4, "choose", "(II)V"⟩
abbrev cX4_weigh : ByteArray := prog_6_method_6_code
def yX4_weigh : MethodName := ⟨RX4, "weigh", "(IIII)V"⟩
abbrev cX4_withoutAlone : ByteArray := prog_6_method_7_code
def yX4_withoutAlone : MethodName := ⟨RX4, "withoutAlone", "(I)I"⟩
abbrev cX4_pagesBehind : ByteArray := prog_6_method_8_code
def yX4_pagesBehind : MethodName := ⟨RX4, "pagesBehind", "(II)I"⟩
abbrev cX4_figuresBehind : ByteArray := prog_6_method_9_code
def yX4_figuresBehind : MethodName := ⟨RX4, "figuresBehind", "(I)I"⟩
abbrev cX4_layOut : ByteArray := prog_6_method_10_code
def yX4_layOut : MethodName := ⟨RX4, "layOut", "()V"⟩
abbrev cX4_putPage : ByteArray := prog_6_method_11_code
def yX4_putPage : MethodName := ⟨RX4, "putPage", "(II)V"⟩
abbrev cX4_put : ByteArray := prog_6_method_12_code
def yX4_put : MethodName := ⟨RX4, "put", "(IIII)V"⟩
abbrev cX4_placeFigures : ByteArray := prog_6_method_13_code
def yX4_placeFigures : MethodName := ⟨RX4, "placeFigures", "(II)I"⟩
abbrev cX4_putAlone : ByteArray := prog_6_method_14_code
def yX4_putAlone : MethodName := ⟨RX4, "putAlone", "(I)V"⟩
abbrev cX4_putFiguresBehind : ByteArray := prog_6_method_15_code
def yX4_putFiguresBehind : MethodName := ⟨RX4, "putFiguresBehind", "(I)V"⟩
abbrev cX4_putFigures : ByteArray := prog_6_method_16_code
def yX4_putFigures : MethodName := ⟨RX4, "putFigures", "(I)V"⟩
abbrev cX4_putNotesBehind : ByteArray := prog_6_method_17_code
def yX4_putNotesBehind : MethodName := ⟨RX4, "putNotesBehind", "(I)V"⟩
def RX5 : String := "Galleyforge$Pattern"
def TX5 : u_T := fun k => match k with
  | 0 => ("Galleyforge$Pattern", "letters", "[I", true)
  | 1 => ("Galleyforge$Pattern", "gap", "I", true)
  | _ => ("Galleyforge$Pattern", "level", "I", true)
def tyX5 : Nat → FieldType := fun k => match k with
  | 0 => .array .int
  | 1 => .int
  | _ => .int
abbrev wsX50 : List Cond := u_ws RX5 TX5 3
theorem nmX5 : ∀ a, a < 3 → ∀ b, b < 3 → a ≠ b → (TX5 a).2.1 ≠ (TX5 b).2.1 := by decide +kernel
theorem tyX5_ok : ∀ k, k < 3 → parseFieldDescriptor (TX5 k).2.2.1 = some (tyX5 k) := by decide +kernel
abbrev cX5_init : ByteArray := prog_7_method_1_code
def yX5_init : MethodName := ⟨RX5, "<init>", "([III)V"⟩
abbrev cX5_standsAt : ByteArray := prog_7_method_2_code
def yX5_standsAt : MethodName := ⟨RX5, "standsAt", "([II)Z"⟩
def RX6 : String := "Galleyforge$Rows"
def TX6 : u_T := fun k => match k with
  | 0 => ("Galleyforge$Rows", "count", "I", false)
  | 1 => ("Galleyforge$Rows", "heights", "[I", true)
  | 2 => ("Galleyforge$Rows", "blocks", "[I", true)
  | 3 => ("Galleyforge$Rows", "indexes", "[I", true)
  | 4 => ("Galleyforge$Rows", "noteLines", "[I", true)
  | 5 => ("Galleyforge$Rows", "lastNotes", "[I", true)
  | 6 => ("Galleyforge$Rows", "breakBehind", "[Z", true)
  | 7 => ("Galleyforge$Rows", "firstRows", "[I", true)
  | 8 => ("Galleyforge$Rows", "rowCounts", "[I", true)
  | 9 => ("Galleyforge$Rows", "wordRows", "[I", true)
  | 10 => ("Galleyforge$Rows", "labelRows", "[I", true)
  | 11 => ("Galleyforge$Rows", "termThere", "[Z", true)
  | 12 => ("Galleyforge$Rows", "headings", "I", false)
  | 13 => ("Galleyforge$Rows", "terms", "I", false)
  | 14 => ("Galleyforge$Rows", "figureRows", "[I", true)
  | 15 => ("Galleyforge$Rows", "figureWords", "[I", true)
  | 16 => ("Galleyforge$Rows", "figuresInOrder", "[I", true)
  | _ => ("Galleyforge$Rows", "figureCount", "I", false)
def tyX6 : Nat → FieldType := fun k => match k with
  | 0 => .int
  | 1 => .array .int
  | 2 => .array .int
  | 3 => .array .int
  | 4 => .array .int
  | 5 => .array .int
  | 6 => .array .boolean
  | 7 => .array .int
  | 8 => .array .int
  | 9 => .array .int
  | 10 => .array .int
  | 11 => .array .boolean
  | 12 => .int
  | 13 => .int
  | 14 => .array .int
  | 15 => .array .int
  | 16 => .array .int
  | _ => .int
abbrev wsX60 : List Cond := u_ws RX6 TX6 18
theorem nmX6 : ∀ a, a < 18 → ∀ b, b < 18 → a ≠ b → (TX6 a).2.1 ≠ (TX6 b).2.1 := by decide +kernel
theorem tyX6_ok : ∀ k, k < 18 → parseFieldDescriptor (TX6 k).2.2.1 = some (tyX6 k) := by decide +kernel
abbrev cX6_init : ByteArray := prog_8_method_1_code
def yX6_init : MethodName := ⟨RX6, "<init>", "()V"⟩
abbrev cX6_make : ByteArray := prog_8_method_2_code
def yX6_make : MethodName := ⟨RX6, "make", "(LGalleyforge$Text;I[I[I)V"⟩
abbrev cX6_countHeadingsAndTerms : ByteArray := prog_8_method_3_code
def yX6_countHeadingsAndTerms : MethodName := ⟨RX6, "countHeadingsAndTerms", "(LGalleyforge$Text;I)V"⟩
abbrev cX6_forgetTerms : ByteArray := prog_8_method_4_code
def yX6_forgetTerms : MethodName := ⟨RX6, "forgetTerms", "()V"⟩
abbrev cX6_countTerm : ByteArray := prog_8_method_5_code
def yX6_countTerm : MethodName := ⟨RX6, "countTerm", "(I)V"⟩
abbrev cX6_addRowsOf : ByteArray := prog_8_method_6_code
def yX6_addRowsOf : MethodName := ⟨RX6, "addRowsOf", "(LGalleyforge$Block;II)V"⟩
abbrev cX6_halfOf : ByteArray := prog_8_method_7_code
def yX6_halfOf : MethodName := ⟨RX6, "halfOf", "(I)I"⟩
abbrev cX6_addTableRows : ByteArray := prog_8_method_8_code
def yX6_addTableRows : MethodName := ⟨RX6, "addTableRows", "(LGalleyforge$Table;I)V"⟩
abbrev cX6_addRows : ByteArray := prog_8_method_9_code
def yX6_addRows : MethodName := ⟨RX6, "addRows", "(III)V"⟩
abbrev cX6_addRow : ByteArray := prog_8_method_10_code
def yX6_addRow : MethodName := ⟨RX6, "addRow", "(III)V"⟩
abbrev cX6_placeWords : ByteArray := prog_8_method_11_code
def yX6_placeWords : MethodName := ⟨RX6, "placeWords", "(LGalleyforge$Text;I[I)V"⟩
abbrev cX6_markRow : ByteArray := prog_8_method_12_code
def yX6_markRow : MethodName := ⟨RX6, "markRow", "(IILGalleyforge$Word;)V"⟩
abbrev cX6_orderFigures : ByteArray := prog_8_method_13_code
def yX6_orderFigures : MethodName := ⟨RX6, "orderFigures", "(I)V"⟩
abbrev cX6_isAhead : ByteArray := prog_8_method_14_code
def yX6_isAhead : MethodName := ⟨RX6, "isAhead", "(II)Z"⟩
def RX7 : String := "Galleyforge$States"
def TX7 : u_T := fun k => match k with
  | 0 => ("Galleyforge$States", "firsts", "[I", true)
  | 1 => ("Galleyforge$States", "nexts", "[I", false)
  | 2 => ("Galleyforge$States", "waits", "[I", false)
  | 3 => ("Galleyforge$States", "lefts", "[I", false)
  | 4 => ("Galleyforge$States", "costs", "[I", false)
  | 5 => ("Galleyforge$States", "pages", "[I", false)
  | 6 => ("Galleyforge$States", "rows", "[I", false)
  | _ => ("Galleyforge$States", "count", "I", false)
def tyX7 : Nat → FieldType := fun k => match k with
  | 0 => .array .int
  | 1 => .array .int
  | 2 => .array .int
  | 3 => .array .int
  | 4 => .array .int
  | 5 => .array .int
  | 6 => .array .int
  | _ => .int
abbrev wsX70 : List Cond := u_ws RX7 TX7 8
theorem nmX7 : ∀ a, a < 8 → ∀ b, b < 8 → a ≠ b → (TX7 a).2.1 ≠ (TX7 b).2.1 := by decide +kernel
theorem tyX7_ok : ∀ k, k < 8 → parseFieldDescriptor (TX7 k).2.2.1 = some (tyX7 k) := by decide +kernel
abbrev cX7_init : ByteArray := prog_9_method_1_code
def yX7_init : MethodName := ⟨RX7, "<init>", "()V"⟩
abbrev cX7_clear : ByteArray := prog_9_method_2_code
def yX7_clear : MethodName := ⟨RX7, "clear", "()V"⟩
abbrev cX7_find : ByteArray := prog_9_method_3_code
def yX7_find : MethodName := ⟨RX7, "find", "(III)I"⟩
abbrev cX7_reach : ByteArray := prog_9_method_4_code
def yX7_reach : MethodName := ⟨RX7, "reach", "(III)V"⟩
abbrev cX7_makeRoom : ByteArray := prog_9_method_5_code
def yX7_makeRoom : MethodName := ⟨RX7, "makeRoom", "()V"⟩
def RX8 : String := "Galleyforge$Table"
def TX8 : u_T := fun k => match k with
  | 0 => ("Galleyforge$Table", "spans", "[I", true)
  | 1 => ("Galleyforge$Table", "leasts", "[I", true)
  | 2 => ("Galleyforge$Table", "bests", "[I", true)
  | 3 => ("Galleyforge$Table", "leastWidths", "[I", true)
  | 4 => ("Galleyforge$Table", "bestWidths", "[I", true)
  | 5 => ("Galleyforge$Table", "wishes", "[I", true)
  | _ => ("Galleyforge$Table", "widths", "[I", true)
def tyX8 : Nat → FieldType := fun k => match k with
  | 0 => .array .int
  | 1 => .array .int
  | 2 => .array .int
  | 3 => .array .int
  | 4 => .array .int
  | 5 => .array .int
  | _ => .array .int
abbrev wsX80 : List Cond := u_ws RX8 TX8 7
theorem nmX8 : ∀ a, a < 7 → ∀ b, b < 7 → a ≠ b → (TX8 a).2.1 ≠ (TX8 b).2.1 := by decide +kernel
theorem tyX8_ok : ∀ k, k < 7 → parseFieldDescriptor (TX8 k).2.2.1 = some (tyX8 k) := by decide +kernel
abbrev cX8_init : ByteArray := prog_10_method_1_code
def yX8_init : MethodName := ⟨RX8, "<init>", "()V"⟩
abbrev cX8_tell : ByteArray := prog_10_method_2_code
def yX8_tell : MethodName := ⟨RX8, "tell", "(IIIII)V"⟩
abbrev cX8_rowCount : ByteArray := prog_10_method_3_code
def yX8_rowCount : MethodName := ⟨RX8, "rowCount", "()I"⟩
abbrev cX8_columnCount : ByteArray := prog_10_method_4_code
def yX8_columnCount : MethodName := ⟨RX8, "columnCount", "()I"⟩
abbrev cX8_measure : ByteArray := prog_10_method_5_code
def yX8_measure : MethodName := ⟨RX8, "measure", "(I)V"⟩
abbrev cX8_shareOut : ByteArray := prog_10_method_6_code
def yX8_shareOut : MethodName := ⟨RX8, "shareOut", "([III)V"⟩
abbrev cX8_sumOf : ByteArray := prog_10_method_7_code
def yX8_sumOf : MethodName := ⟨RX8, "sumOf", "([II)I"⟩
abbrev cX8_fit : ByteArray := prog_10_method_8_code
def yX8_fit : MethodName := ⟨RX8, "fit", "(I)V"⟩
abbrev cX8_shareByWishes : ByteArray := prog_10_method_9_code
def yX8_shareByWishes : MethodName := ⟨RX8, "shareByWishes", "(II)V"⟩
abbrev cX8_heightOf : ByteArray := prog_10_method_10_code
def yX8_heightOf : MethodName := ⟨RX8, "heightOf", "(I)I"⟩
def RX9 : String := "Galleyforge$Text"
def TX9 : u_T := fun k => match k with
  | 0 => ("Galleyforge$Text", "blocks", "Ljava/util/ArrayList;", true)
  | 1 => ("Galleyforge$Text", "patterns", "Ljava/util/ArrayList;", true)
  | 2 => ("Galleyforge$Text", "figureKinds", "[I", true)
  | 3 => ("Galleyforge$Text", "figureHeights", "[I", true)
  | 4 => ("Galleyforge$Text", "figureCount", "I", false)
  | 5 => ("Galleyforge$Text", "keys", "[I", true)
  | 6 => ("Galleyforge$Text", "width", "I", false)
  | _ => ("Galleyforge$Text", "height", "I", false)
def tyX9 : Nat → FieldType := fun k => match k with
  | 0 => .object "java/util/ArrayList"
  | 1 => .object "java/util/ArrayList"
  | 2 => .array .int
  | 3 => .array .int
  | 4 => .int
  | 5 => .array .int
  | 6 => .int
  | _ => .int
abbrev wsX90 : List Cond := u_ws RX9 TX9 8
theorem nmX9 : ∀ a, a < 8 → ∀ b, b < 8 → a ≠ b → (TX9 a).2.1 ≠ (TX9 b).2.1 := by decide +kernel
theorem tyX9_ok : ∀ k, k < 8 → parseFieldDescriptor (TX9 k).2.2.1 = some (tyX9 k) := by decide +kernel
abbrev cX9_init : ByteArray := prog_11_method_1_code
def yX9_init : MethodName := ⟨RX9, "<init>", "()V"⟩
abbrev cX9_addPattern : ByteArray := prog_11_method_2_code
def yX9_addPattern : MethodName := ⟨RX9, "addPattern", "(LGalleyforge$Pattern;)V"⟩
abbrev cX9_gapsOf : ByteArray := prog_11_method_3_code
def yX9_gapsOf : MethodName := ⟨RX9, "gapsOf", "([I)I"⟩
abbrev cX9_levelAt : ByteArray := prog_11_method_4_code
def yX9_levelAt : MethodName := ⟨RX9, "levelAt", "([II)I"⟩
abbrev cX9_headingNumber : ByteArray := prog_11_method_5_code
def yX9_headingNumber : MethodName := ⟨RX9, "headingNumber", "(II)I"⟩
abbrev cX9_paragraphNumber : ByteArray := prog_11_method_6_code
def yX9_paragraphNumber : MethodName := ⟨RX9, "paragraphNumber", "(II)I"⟩
def RX10 : String := "Galleyforge$Word"
def TX10 : u_T := fun k => match k with
  | 0 => ("Galleyforge$Word", "letters", "[I", true)
  | 1 => ("Galleyforge$Word", "label", "I", true)
  | 2 => ("Galleyforge$Word", "marks", "[I", true)
  | _ => ("Galleyforge$Word", "gapSet", "I", false)
def tyX10 : Nat → FieldType := fun k => match k with
  | 0 => .array .int
  | 1 => .int
  | 2 => .array .int
  | _ => .int
abbrev wsX100 : List Cond := u_ws RX10 TX10 4
theorem nmX10 : ∀ a, a < 4 → ∀ b, b < 4 → a ≠ b → (TX10 a).2.1 ≠ (TX10 b).2.1 := by decide +kernel
theorem tyX10_ok : ∀ k, k < 4 → parseFieldDescriptor (TX10 k).2.2.1 = some (tyX10 k) := by decide +kernel
abbrev cX10_init : ByteArray := prog_12_method_1_code
def yX10_init : MethodName := ⟨RX10, "<init>", "([II[I)V"⟩
abbrev cX10_isThere : ByteArray := prog_12_method_2_code
def yX10_isThere : MethodName := ⟨RX10, "isThere", "(I)Z"⟩
def RX11 : String := "Galleyforge"
def TX11 : u_T := fun k => match k with
  | 0 => ("Galleyforge", "text", "LGalleyforge$Text;", true)
  | 1 => ("Galleyforge", "layouts", "[LGalleyforge$Layout;", true)
  | 2 => ("Galleyforge", "spelled", "[I", true)
  | 3 => ("Galleyforge", "spelledCount", "I", false)
  | _ => ("Galleyforge", "drafted", "[I", true)
def tyX11 : Nat → FieldType := fun k => match k with
  | 0 => .object "Galleyforge$Text"
  | 1 => .array (.object "Galleyforge$Layout")
  | 2 => .array .int
  | 3 => .int
  | _ => .array .int
abbrev wsX110 : List Cond := u_ws RX11 TX11 5
theorem nmX11 : ∀ a, a < 5 → ∀ b, b < 5 → a ≠ b → (TX11 a).2.1 ≠ (TX11 b).2.1 := by decide +kernel
theorem tyX11_ok : ∀ k, k < 5 → parseFieldDescriptor (TX11 k).2.2.1 = some (tyX11 k) := by decide +kernel
abbrev cX11_init : ByteArray := prog_1_method_1_code
def yX11_init : MethodName := ⟨RX11, "<init>", "()V"⟩
abbrev cX11_spell : ByteArray := prog_1_method_2_code
def yX11_spell : MethodName := ⟨RX11, "spell", "(I)I"⟩
abbrev cX11_unspell : ByteArray := prog_1_method_3_code
def yX11_unspell : MethodName := ⟨RX11, "unspell", "()I"⟩
abbrev cX11_mark : ByteArray := prog_1_method_4_code
def yX11_mark : MethodName := ⟨RX11, "mark", "(II)I"⟩
abbrev cX11_pattern : ByteArray := prog_1_method_5_code
def yX11_pattern : MethodName := ⟨RX11, "pattern", "(II)I"⟩
abbrev cX11_word : ByteArray := prog_1_method_6_code
def yX11_word : MethodName := ⟨RX11, "word", "(II)I"⟩
abbrev cX11_reference : ByteArray := prog_1_method_7_code
def yX11_reference : MethodName := ⟨RX11, "reference", "(III)I"⟩
abbrev cX11_take : ByteArray := prog_1_method_8_code
def yX11_take : MethodName := ⟨RX11, "take", "(II)I"⟩
abbrev cX11_block : ByteArray := prog_1_method_9_code
def yX11_block : MethodName := ⟨RX11, "block", "(II)I"⟩
abbrev cX11_remove : ByteArray := prog_1_method_10_code
def yX11_remove : MethodName := ⟨RX11, "remove", "(I)I"⟩
abbrev cX11_style : ByteArray := prog_1_method_11_code
def yX11_style : MethodName := ⟨RX11, "style", "(III)I"⟩
abbrev cX11_cell : ByteArray := prog_1_method_12_code
def yX11_cell : MethodName := ⟨RX11, "cell", "(IIIIII)I"⟩
abbrev cX11_figure : ByteArray := prog_1_method_13_code
def yX11_figure : MethodName := ⟨RX11, "figure", "(II)I"⟩
abbrev cX11_paper : ByteArray := prog_1_method_14_code
def yX11_paper : MethodName := ⟨RX11, "paper", "(II)I"⟩
abbrev cX11_key : ByteArray := prog_1_method_15_code
def yX11_key : MethodName := ⟨RX11, "key", "(II)I"⟩
abbrev cX11_blocks : ByteArray := prog_1_method_16_code
def yX11_blocks : MethodName := ⟨RX11, "blocks", "()I"⟩
abbrev cX11_words : ByteArray := prog_1_method_17_code
def yX11_words : MethodName := ⟨RX11, "words", "(I)I"⟩
abbrev cX11_gaps : ByteArray := prog_1_method_18_code
def yX11_gaps : MethodName := ⟨RX11, "gaps", "(II)I"⟩
abbrev cX11_number : ByteArray := prog_1_method_19_code
def yX11_number : MethodName := ⟨RX11, "number", "(II)I"⟩
abbrev cX11_columnWidth : ByteArray := prog_1_method_20_code
def yX11_columnWidth : MethodName := ⟨RX11, "columnWidth", "(II)I"⟩
abbrev cX11_rowHeight : ByteArray := prog_1_method_21_code
def yX11_rowHeight : MethodName := ⟨RX11, "rowHeight", "(II)I"⟩
abbrev cX11_lines : ByteArray := prog_1_method_22_code
def yX11_lines : MethodName := ⟨RX11, "lines", "(II)I"⟩
abbrev cX11_lineEnd : ByteArray := prog_1_method_23_code
def yX11_lineEnd : MethodName := ⟨RX11, "lineEnd", "(III)I"⟩
abbrev cX11_tightness : ByteArray := prog_1_method_24_code
def yX11_tightness : MethodName := ⟨RX11, "tightness", "(III)I"⟩
abbrev cX11_demerits : ByteArray := prog_1_method_25_code
def yX11_demerits : MethodName := ⟨RX11, "demerits", "(II)J"⟩
abbrev cX11_demeritsByAll : ByteArray := prog_1_method_26_code
def yX11_demeritsByAll : MethodName := ⟨RX11, "demeritsByAll", "(II)J"⟩
abbrev cX11_pages : ByteArray := prog_1_method_27_code
def yX11_pages : MethodName := ⟨RX11, "pages", "(I)I"⟩
abbrev cX11_cost : ByteArray := prog_1_method_28_code
def yX11_cost : MethodName := ⟨RX11, "cost", "(I)I"⟩
abbrev cX11_costAnew : ByteArray := prog_1_method_29_code
def yX11_costAnew : MethodName := ⟨RX11, "costAnew", "(I)I"⟩
abbrev cX11_rounds : ByteArray := prog_1_method_30_code
def yX11_rounds : MethodName := ⟨RX11, "rounds", "(I)I"⟩
abbrev cX11_isSettled : ByteArray := prog_1_method_31_code
def yX11_isSettled : MethodName := ⟨RX11, "isSettled", "(I)Z"⟩
abbrev cX11_on : ByteArray := prog_1_method_32_code
def yX11_on : MethodName := ⟨RX11, "on", "(III)I"⟩
abbrev cX11_head : ByteArray := prog_1_method_33_code
def yX11_head : MethodName := ⟨RX11, "head", "(II)I"⟩
abbrev cX11_textAt : ByteArray := prog_1_method_34_code
def yX11_textAt : MethodName := ⟨RX11, "textAt", "(III)I"⟩
abbrev cX11_whereIs : ByteArray := prog_1_method_35_code
def yX11_whereIs : MethodName := ⟨RX11, "whereIs", "(III)I"⟩
abbrev cX11_figureAt : ByteArray := prog_1_method_36_code
def yX11_figureAt : MethodName := ⟨RX11, "figureAt", "(II)I"⟩
abbrev cX11_labelPage : ByteArray := prog_1_method_37_code
def yX11_labelPage : MethodName := ⟨RX11, "labelPage", "(II)I"⟩
abbrev cX11_contentsAt : ByteArray := prog_1_method_38_code
def yX11_contentsAt : MethodName := ⟨RX11, "contentsAt", "(II)I"⟩
abbrev cX11_indexAt : ByteArray := prog_1_method_39_code
def yX11_indexAt : MethodName := ⟨RX11, "indexAt", "(II)I"⟩
abbrev cX11_range : ByteArray := prog_1_method_40_code
def yX11_range : MethodName := ⟨RX11, "range", "(III)I"⟩
abbrev cX11_checkVariant : ByteArray := prog_1_method_41_code
def yX11_checkVariant : MethodName := ⟨RX11, "checkVariant", "(I)V"⟩
abbrev cX11_checkLabel : ByteArray := prog_1_method_42_code
def yX11_checkLabel : MethodName := ⟨RX11, "checkLabel", "(I)V"⟩
abbrev cX11_checkTerm : ByteArray := prog_1_method_43_code
def yX11_checkTerm : MethodName := ⟨RX11, "checkTerm", "(I)V"⟩
abbrev cX11_checkPage : ByteArray := prog_1_method_44_code
def yX11_checkPage : MethodName := ⟨RX11, "checkPage", "(LGalleyforge$Pages;I)V"⟩
abbrev cX11_checkWord : ByteArray := prog_1_method_45_code
def yX11_checkWord : MethodName := ⟨RX11, "checkWord", "(LGalleyforge$Block;I)V"⟩
abbrev cX11_checkGapBetweenWords : ByteArray := prog_1_method_46_code
def yX11_checkGapBetweenWords : MethodName := ⟨RX11, "checkGapBetweenWords", "(LGalleyforge$Block;I)V"⟩
abbrev cX11_checkRoomForWord : ByteArray := prog_1_method_47_code
def yX11_checkRoomForWord : MethodName := ⟨RX11, "checkRoomForWord", "(LGalleyforge$Block;)V"⟩
abbrev cX11_checkBlock : ByteArray := prog_1_method_48_code
def yX11_checkBlock : MethodName := ⟨RX11, "checkBlock", "(I)V"⟩
abbrev cX11_blockAt : ByteArray := prog_1_method_49_code
def yX11_blockAt : MethodName := ⟨RX11, "blockAt", "(I)LGalleyforge$Block;"⟩
abbrev cX11_tableAt : ByteArray := prog_1_method_50_code
def yX11_tableAt : MethodName := ⟨RX11, "tableAt", "(I)LGalleyforge$Table;"⟩
abbrev cX11_layoutOf : ByteArray := prog_1_method_51_code
def yX11_layoutOf : MethodName := ⟨RX11, "layoutOf", "(I)LGalleyforge$Layout;"⟩
abbrev cX11_checkLine : ByteArray := prog_1_method_52_code
def yX11_checkLine : MethodName := ⟨RX11, "checkLine", "(LGalleyforge$Layout;II)V"⟩
abbrev cX11_putIn : ByteArray := prog_1_method_53_code
def yX11_putIn : MethodName := ⟨RX11, "putIn", "(LGalleyforge$Block;ILGalleyforge$Word;)I"⟩
abbrev cX11_forgetLayouts : ByteArray := prog_1_method_54_code
def yX11_forgetLayouts : MethodName := ⟨RX11, "forgetLayouts", "()V"⟩
abbrev cX11_leastMark : ByteArray := prog_1_method_55_code
def yX11_leastMark : MethodName := ⟨RX11, "leastMark", "(I)I"⟩
abbrev cX11_mostMark : ByteArray := prog_1_method_56_code
def yX11_mostMark : MethodName := ⟨RX11, "mostMark", "(I)I"⟩
abbrev cX11_leastStyle : ByteArray := prog_1_method_57_code
def yX11_leastStyle : MethodName := ⟨RX11, "leastStyle", "(I)I"⟩
abbrev cX11_mostStyle : ByteArray := prog_1_method_58_code
def yX11_mostStyle : MethodName := ⟨RX11, "mostStyle", "(I)I"⟩
def RX12 : String := "GalleyforgeModel"
def TX12 : u_T := fun k => match k with
  | _ => ("", "", "", false)
def tyX12 : Nat → FieldType := fun k => match k with
  | _ => .int
abbrev wsX120 : List Cond := u_ws RX12 TX12 0
theorem nmX12 : ∀ a, a < 0 → ∀ b, b < 0 → a ≠ b → (TX12 a).2.1 ≠ (TX12 b).2.1 := by decide +kernel
theorem tyX12_ok : ∀ k, k < 0 → parseFieldDescriptor (TX12 k).2.2.1 = some (tyX12 k) := by decide +kernel
def RJx145de : String := "java/io/Serializable"
def TJx145de : u_T := fun k => match k with
  | _ => ("", "", "", false)
def tyJx145de : Nat → FieldType := fun k => match k with
  | _ => .int
abbrev wsJx145de0 : List Cond := u_ws RJx145de TJx145de 0
theorem nmJx145de : ∀ a, a < 0 → ∀ b, b < 0 → a ≠ b → (TJx145de a).2.1 ≠ (TJx145de b).2.1 := by decide +kernel
theorem tyJx145de_ok : ∀ k, k < 0 → parseFieldDescriptor (TJx145de k).2.2.1 = some (tyJx145de k) := by decide +kernel
def RJ5 : String := "java/lang/AbstractStringBuilder"
def TJ5 : u_T := fun k => match k with
  | _ => ("", "", "", false)
def tyJ5 : Nat → FieldType := fun k => match k with
  | _ => .int
abbrev wsJ50 : List Cond := u_ws RJ5 TJ5 0
theorem nmJ5 : ∀ a, a < 0 → ∀ b, b < 0 → a ≠ b → (TJ5 a).2.1 ≠ (TJ5 b).2.1 := by decide +kernel
theorem tyJ5_ok : ∀ k, k < 0 → parseFieldDescriptor (TJ5 k).2.2.1 = some (tyJ5 k) := by decide +kernel
abbrev cJ5_init_d00df : ByteArray := prog_16_method_2_code
def yJ5_init_d00df : MethodName := ⟨RJ5, "<init>", "(I)V"⟩
abbrev cJ5_length_8abf5 : ByteArray := prog_16_method_6_code
def yJ5_length_8abf5 : MethodName := ⟨RJ5, "length", "()I"⟩
abbrev cJ5_ensureCapacityInternal_d00df : ByteArray := prog_16_method_9_code
def yJ5_ensureCapacityInternal_d00df : MethodName := ⟨RJ5, "ensureCapacityInternal", "(I)V"⟩
abbrev cJ5_newCapacity_0f7a4 : ByteArray := prog_16_method_10_code
def yJ5_newCapacity_0f7a4 : MethodName := ⟨RJ5, "newCapacity", "(I)I"⟩
abbrev cJ5_inflate_da8c8 : ByteArray := prog_16_method_11_code
def yJ5_inflate_da8c8 : MethodName := ⟨RJ5, "inflate", "()V"⟩
abbrev cJ5_append_cf1ce : ByteArray := prog_16_method_22_code
def yJ5_append_cf1ce : MethodName := ⟨RJ5, "append", "(Ljava/lang/String;)Ljava/lang/AbstractStringBuilder;"⟩
abbrev cJ5_appendNull_278bc : ByteArray := prog_16_method_26_code
def yJ5_appendNull_278bc : MethodName := ⟨RJ5, "appendNull", "()Ljava/lang/AbstractStringBuilder;"⟩
abbrev cJ5_append_c97b9 : ByteArray := prog_16_method_32_code
def yJ5_append_c97b9 : MethodName := ⟨RJ5, "append", "(I)Ljava/lang/AbstractStringBuilder;"⟩
abbrev cJ5_getValue_6d5f1 : ByteArray := prog_16_method_64_code
def yJ5_getValue_6d5f1 : MethodName := ⟨RJ5, "getValue", "()[B"⟩
abbrev cJ5_isLatin1_aae02 : ByteArray := prog_16_method_68_code
def yJ5_isLatin1_aae02 : MethodName := ⟨RJ5, "isLatin1", "()Z"⟩
abbrev cJ5_inflateIfNeededFor_a7421 : ByteArray := prog_16_method_71_code
def yJ5_inflateIfNeededFor_a7421 : MethodName := ⟨RJ5, "inflateIfNeededFor", "(Ljava/lang/String;)V"⟩
abbrev cJ5_putStringAt_47b60 : ByteArray := prog_16_method_73_code
def yJ5_putStringAt_47b60 : MethodName := ⟨RJ5, "putStringAt", "(ILjava/lang/String;)V"⟩
def RJx2cfe8 : String := "java/lang/Appendable"
def TJx2cfe8 : u_T := fun k => match k with
  | _ => ("", "", "", false)
def tyJx2cfe8 : Nat → FieldType := fun k => match k with
  | _ => .int
abbrev wsJx2cfe80 : List Cond := u_ws RJx2cfe8 TJx2cfe8 0
theorem nmJx2cfe8 : ∀ a, a < 0 → ∀ b, b < 0 → a ≠ b → (TJx2cfe8 a).2.1 ≠ (TJx2cfe8 b).2.1 := by decide +kernel
theorem tyJx2cfe8_ok : ∀ k, k < 0 → parseFieldDescriptor (TJx2cfe8 k).2.2.1 = some (tyJx2cfe8 k) := by decide +kernel
def RJx9f9b0 : String := "java/lang/CharSequence"
def TJx9f9b0 : u_T := fun k => match k with
  | _ => ("", "", "", false)
def tyJx9f9b0 : Nat → FieldType := fun k => match k with
  | _ => .int
abbrev wsJx9f9b00 : List Cond := u_ws RJx9f9b0 TJx9f9b0 0
theorem nmJx9f9b0 : ∀ a, a < 0 → ∀ b, b < 0 → a ≠ b → (TJx9f9b0 a).2.1 ≠ (TJx9f9b0 b).2.1 := by decide +kernel
theorem tyJx9f9b0_ok : ∀ k, k < 0 → parseFieldDescriptor (TJx9f9b0 k).2.2.1 = some (tyJx9f9b0 k) := by decide +kernel
def RJx8e188 : String := "java/lang/Cloneable"
def TJx8e188 : u_T := fun k => match k with
  | _ => ("", "", "", false)
def tyJx8e188 : Nat → FieldType := fun k => match k with
  | _ => .int
abbrev wsJx8e1880 : List Cond := u_ws RJx8e188 TJx8e188 0
theorem nmJx8e188 : ∀ a, a < 0 → ∀ b, b < 0 → a ≠ b → (TJx8e188 a).2.1 ≠ (TJx8e188 b).2.1 := by decide +kernel
theorem tyJx8e188_ok : ∀ k, k < 0 → parseFieldDescriptor (TJx8e188 k).2.2.1 = some (tyJx8e188 k) := by decide +kernel
def RJxb160c : String := "java/lang/Comparable"
def TJxb160c : u_T := fun k => match k with
  | _ => ("", "", "", false)
def tyJxb160c : Nat → FieldType := fun k => match k with
  | _ => .int
abbrev wsJxb160c0 : List Cond := u_ws RJxb160c TJxb160c 0
theorem nmJxb160c : ∀ a, a < 0 → ∀ b, b < 0 → a ≠ b → (TJxb160c a).2.1 ≠ (TJxb160c b).2.1 := by decide +kernel
theorem tyJxb160c_ok : ∀ k, k < 0 → parseFieldDescriptor (TJxb160c k).2.2.1 = some (tyJxb160c k) := by decide +kernel
def RJ6 : String := "java/lang/Integer"
def TJ6 : u_T := fun k => match k with
  | _ => ("", "", "", false)
def tyJ6 : Nat → FieldType := fun k => match k with
  | _ => .int
abbrev wsJ60 : List Cond := u_ws RJ6 TJ6 0
theorem nmJ6 : ∀ a, a < 0 → ∀ b, b < 0 → a ≠ b → (TJ6 a).2.1 ≠ (TJ6 b).2.1 := by decide +kernel
theorem tyJ6_ok : ∀ k, k < 0 → parseFieldDescriptor (TJ6 k).2.2.1 = some (tyJ6 k) := by decide +kernel
abbrev cJ6_getChars_ba4f3 : ByteArray := prog_25_method_12_code
def yJ6_getChars_ba4f3 : MethodName := ⟨RJ6, "getChars", "(II[B)I"⟩
abbrev cJ6_stringSize_0f7a4 : ByteArray := prog_25_method_13_code
def yJ6_stringSize_0f7a4 : MethodName := ⟨RJ6, "stringSize", "(I)I"⟩
abbrev cJ6_bitCount_0f7a4 : ByteArray := prog_25_method_49_code
def yJ6_bitCount_0f7a4 : MethodName := ⟨RJ6, "bitCount", "(I)I"⟩
def RJxab1ab : String := "java/lang/Iterable"
def TJxab1ab : u_T := fun k => match k with
  | _ => ("", "", "", false)
def tyJxab1ab : Nat → FieldType := fun k => match k with
  | _ => .int
abbrev wsJxab1ab0 : List Cond := u_ws RJxab1ab TJxab1ab 0
theorem nmJxab1ab : ∀ a, a < 0 → ∀ b, b < 0 → a ≠ b → (TJxab1ab a).2.1 ≠ (TJxab1ab b).2.1 := by decide +kernel
theorem tyJxab1ab_ok : ∀ k, k < 0 → parseFieldDescriptor (TJxab1ab k).2.2.1 = some (tyJxab1ab k) := by decide +kernel
def RJ9 : String := "java/lang/Math"
def TJ9 : u_T := fun k => match k with
  | _ => ("", "", "", false)
def tyJ9 : Nat → FieldType := fun k => match k with
  | _ => .int
abbrev wsJ90 : List Cond := u_ws RJ9 TJ9 0
theorem nmJ9 : ∀ a, a < 0 → ∀ b, b < 0 → a ≠ b → (TJ9 a).2.1 ≠ (TJ9 b).2.1 := by decide +kernel
theorem tyJ9_ok : ∀ k, k < 0 → parseFieldDescriptor (TJ9 k).2.2.1 = some (tyJ9 k) := by decide +kernel
abbrev cJ9_max_7cf53 : ByteArray := prog_27_method_65_code
def yJ9_max_7cf53 : MethodName := ⟨RJ9, "max", "(II)I"⟩
abbrev cJ9_min_7cf53 : ByteArray := prog_27_method_69_code
def yJ9_min_7cf53 : MethodName := ⟨RJ9, "min", "(II)I"⟩
def RJxd2413 : String := "java/lang/Number"
def TJxd2413 : u_T := fun k => match k with
  | _ => ("", "", "", false)
def tyJxd2413 : Nat → FieldType := fun k => match k with
  | _ => .int
abbrev wsJxd24130 : List Cond := u_ws RJxd2413 TJxd2413 0
theorem nmJxd2413 : ∀ a, a < 0 → ∀ b, b < 0 → a ≠ b → (TJxd2413 a).2.1 ≠ (TJxd2413 b).2.1 := by decide +kernel
theorem tyJxd2413_ok : ∀ k, k < 0 → parseFieldDescriptor (TJxd2413 k).2.2.1 = some (tyJxd2413 k) := by decide +kernel
def RJ0 : String := "java/lang/String"
def TJ0 : u_T := fun k => match k with
  | 0 => ("java/lang/String", "value", "[B", true)
  | 1 => ("java/lang/String", "coder", "B", true)
  | 2 => ("java/lang/String", "hash", "I", false)
  | _ => ("java/lang/String", "hashIsZero", "Z", false)
def tyJ0 : Nat → FieldType := fun k => match k with
  | 0 => .array .byte
  | 1 => .byte
  | 2 => .int
  | _ => .boolean
abbrev wsJ00 : List Cond := u_ws RJ0 TJ0 4
theorem nmJ0 : ∀ a, a < 4 → ∀ b, b < 4 → a ≠ b → (TJ0 a).2.1 ≠ (TJ0 b).2.1 := by decide +kernel
theorem tyJ0_ok : ∀ k, k < 4 → parseFieldDescriptor (TJ0 k).2.2.1 = some (tyJ0 k) := by decide +kernel
abbrev cJ0_init_81219 : ByteArray := prog_30_method_53_code
def yJ0_init_81219 : MethodName := ⟨RJ0, "<init>", "(Ljava/lang/StringBuilder;)V"⟩
abbrev cJ0_length_8abf5 : ByteArray := prog_30_method_54_code
def yJ0_length_8abf5 : MethodName := ⟨RJ0, "length", "()I"⟩
abbrev cJ0_getBytes_840e7 : ByteArray := prog_30_method_147_code
def yJ0_getBytes_840e7 : MethodName := ⟨RJ0, "getBytes", "([BIB)V"⟩
abbrev cJ0_init_db425 : ByteArray := prog_30_method_150_code
def yJ0_init_db425 : MethodName := ⟨RJ0, "<init>", "(Ljava/lang/AbstractStringBuilder;Ljava/lang/Void;)V"⟩
abbrev cJ0_coder_7d493 : ByteArray := prog_30_method_152_code
def yJ0_coder_7d493 : MethodName := ⟨RJ0, "coder", "()B"⟩
abbrev cJ0_checkBoundsOffCount_cabcc : ByteArray := prog_30_method_157_code
def yJ0_checkBoundsOffCount_cabcc : MethodName := ⟨RJ0, "checkBoundsOffCount", "(III)I"⟩
abbrev cJ0_checkBoundsBeginEnd_23922 : ByteArray := prog_30_method_158_code
def yJ0_checkBoundsBeginEnd_23922 : MethodName := ⟨RJ0, "checkBoundsBeginEnd", "(III)V"⟩
def RJ4 : String := "java/lang/StringBuilder"
def TJ4 : u_T := fun k => match k with
  | 0 => ("java/lang/AbstractStringBuilder", "value", "[B", false)
  | 1 => ("java/lang/AbstractStringBuilder", "coder", "B", false)
  | 2 => ("java/lang/AbstractStringBuilder", "maybeLatin1", "Z", false)
  | _ => ("java/lang/AbstractStringBuilder", "count", "I", false)
def tyJ4 : Nat → FieldType := fun k => match k with
  | 0 => .array .byte
  | 1 => .byte
  | 2 => .boolean
  | _ => .int
abbrev wsJ40 : List Cond := u_ws RJ4 TJ4 4
theorem nmJ4 : ∀ a, a < 4 → ∀ b, b < 4 → a ≠ b → (TJ4 a).2.1 ≠ (TJ4 b).2.1 := by decide +kernel
theorem tyJ4_ok : ∀ k, k < 4 → parseFieldDescriptor (TJ4 k).2.2.1 = some (tyJ4 k) := by decide +kernel
abbrev cJ4_init_da8c8 : ByteArray := prog_31_method_1_code
def yJ4_init_da8c8 : MethodName := ⟨RJ4, "<init>", "()V"⟩
abbrev cJ4_append_15ec4 : ByteArray := prog_31_method_7_code
def yJ4_append_15ec4 : MethodName := ⟨RJ4, "append", "(Ljava/lang/String;)Ljava/lang/StringBuilder;"⟩
abbrev cJ4_append_bf812 : ByteArray := prog_31_method_15_code
def yJ4_append_bf812 : MethodName := ⟨RJ4, "append", "(I)Ljava/lang/StringBuilder;"⟩
abbrev cJ4_toString_0e30d : ByteArray := prog_31_method_42_code
def yJ4_toString_0e30d : MethodName := ⟨RJ4, "toString", "()Ljava/lang/String;"⟩
abbrev cJ4_length_8abf5 : ByteArray := prog_31_method_93_code
def yJ4_length_8abf5 : MethodName := ⟨RJ4, "length", "()I"⟩
def RJ1 : String := "java/lang/StringLatin1"
def TJ1 : u_T := fun k => match k with
  | _ => ("", "", "", false)
def tyJ1 : Nat → FieldType := fun k => match k with
  | _ => .int
abbrev wsJ10 : List Cond := u_ws RJ1 TJ1 0
theorem nmJ1 : ∀ a, a < 0 → ∀ b, b < 0 → a ≠ b → (TJ1 a).2.1 ≠ (TJ1 b).2.1 := by decide +kernel
theorem tyJ1_ok : ∀ k, k < 0 → parseFieldDescriptor (TJ1 k).2.2.1 = some (tyJ1 k) := by decide +kernel
abbrev cJ1_inflate_0e8fd : ByteArray := prog_32_method_50_code
def yJ1_inflate_0e8fd : MethodName := ⟨RJ1, "inflate", "([BI[BII)V"⟩
def RJ2 : String := "java/lang/StringUTF16"
def TJ2 : u_T := fun k => match k with
  | _ => ("", "", "", false)
def tyJ2 : Nat → FieldType := fun k => match k with
  | _ => .int
abbrev wsJ20 : List Cond := u_ws RJ2 TJ2 0
theorem nmJ2 : ∀ a, a < 0 → ∀ b, b < 0 → a ≠ b → (TJ2 a).2.1 ≠ (TJ2 b).2.1 := by decide +kernel
theorem tyJ2_ok : ∀ k, k < 0 → parseFieldDescriptor (TJ2 k).2.2.1 = some (tyJ2 k) := by decide +kernel
abbrev cJ2_newBytesFor_77867 : ByteArray := prog_33_method_2_code
def yJ2_newBytesFor_77867 : MethodName := ⟨RJ2, "newBytesFor", "(I)[B"⟩
abbrev cJ2_newBytesLength_0f7a4 : ByteArray := prog_33_method_3_code
def yJ2_newBytesLength_0f7a4 : MethodName := ⟨RJ2, "newBytesLength", "(I)I"⟩
abbrev cJ2_putChar_b72d1 : ByteArray := prog_33_method_4_code
def yJ2_putChar_b72d1 : MethodName := ⟨RJ2, "putChar", "([BII)V"⟩
abbrev cJ2_getChar_3b067 : ByteArray := prog_33_method_5_code
def yJ2_getChar_3b067 : MethodName := ⟨RJ2, "getChar", "([BI)C"⟩
abbrev cJ2_length_9d52b : ByteArray := prog_33_method_6_code
def yJ2_length_9d52b : MethodName := ⟨RJ2, "length", "([B)I"⟩
abbrev cJ2_coderFromArrayLen_85cad : ByteArray := prog_33_method_15_code
def yJ2_coderFromArrayLen_85cad : MethodName := ⟨RJ2, "coderFromArrayLen", "([BI)B"⟩
abbrev cJ2_compress_39247 : ByteArray := prog_33_method_17_code
def yJ2_compress_39247 : MethodName := ⟨RJ2, "compress", "([BII)[B"⟩
abbrev cJ2_compress_5af95 : ByteArray := prog_33_method_22_code
def yJ2_compress_5af95 : MethodName := ⟨RJ2, "compress", "([BI[BII)I"⟩
abbrev cJ2_getChars_46870 : ByteArray := prog_33_method_77_code
def yJ2_getChars_46870 : MethodName := ⟨RJ2, "getChars", "(III[B)I"⟩
abbrev cJ2_putCharsAt_cd4e5 : ByteArray := prog_33_method_81_code
def yJ2_putCharsAt_cd4e5 : MethodName := ⟨RJ2, "putCharsAt", "([BICCCC)I"⟩
abbrev cJ2_inflate_0e8fd : ByteArray := prog_33_method_86_code
def yJ2_inflate_0e8fd : MethodName := ⟨RJ2, "inflate", "([BI[BII)V"⟩
abbrev cJ2_getChars_ba4f3 : ByteArray := prog_33_method_89_code
def yJ2_getChars_ba4f3 : MethodName := ⟨RJ2, "getChars", "(II[B)I"⟩
abbrev cJ2_checkBoundsBeginEnd_d044e : ByteArray := prog_33_method_93_code
def yJ2_checkBoundsBeginEnd_d044e : MethodName := ⟨RJ2, "checkBoundsBeginEnd", "(II[B)V"⟩
abbrev cJ2_checkBoundsOffCount_d044e : ByteArray := prog_33_method_94_code
def yJ2_checkBoundsOffCount_d044e : MethodName := ⟨RJ2, "checkBoundsOffCount", "(II[B)V"⟩
def RJ10 : String := "java/lang/System"
def TJ10 : u_T := fun k => match k with
  | _ => ("", "", "", false)
def tyJ10 : Nat → FieldType := fun k => match k with
  | _ => .int
abbrev wsJ100 : List Cond := u_ws RJ10 TJ10 0
theorem nmJ10 : ∀ a, a < 0 → ∀ b, b < 0 → a ≠ b → (TJ10 a).2.1 ≠ (TJ10 b).2.1 := by decide +kernel
theorem tyJ10_ok : ∀ k, k < 0 → parseFieldDescriptor (TJ10 k).2.2.1 = some (tyJ10 k) := by decide +kernel
def RJxfd54e : String := "java/lang/constant/Constable"
def TJxfd54e : u_T := fun k => match k with
  | _ => ("", "", "", false)
def tyJxfd54e : Nat → FieldType := fun k => match k with
  | _ => .int
abbrev wsJxfd54e0 : List Cond := u_ws RJxfd54e TJxfd54e 0
theorem nmJxfd54e : ∀ a, a < 0 → ∀ b, b < 0 → a ≠ b → (TJxfd54e a).2.1 ≠ (TJxfd54e b).2.1 := by decide +kernel
theorem tyJxfd54e_ok : ∀ k, k < 0 → parseFieldDescriptor (TJxfd54e k).2.2.1 = some (tyJxfd54e k) := by decide +kernel
def RJx3cf43 : String := "java/lang/constant/ConstantDesc"
def TJx3cf43 : u_T := fun k => match k with
  | _ => ("", "", "", false)
def tyJx3cf43 : Nat → FieldType := fun k => match k with
  | _ => .int
abbrev wsJx3cf430 : List Cond := u_ws RJx3cf43 TJx3cf43 0
theorem nmJx3cf43 : ∀ a, a < 0 → ∀ b, b < 0 → a ≠ b → (TJx3cf43 a).2.1 ≠ (TJx3cf43 b).2.1 := by decide +kernel
theorem tyJx3cf43_ok : ∀ k, k < 0 → parseFieldDescriptor (TJx3cf43 k).2.2.1 = some (tyJx3cf43 k) := by decide +kernel
def RJxa1e45 : String := "java/util/AbstractCollection"
def TJxa1e45 : u_T := fun k => match k with
  | _ => ("", "", "", false)
def tyJxa1e45 : Nat → FieldType := fun k => match k with
  | _ => .int
abbrev wsJxa1e450 : List Cond := u_ws RJxa1e45 TJxa1e45 0
theorem nmJxa1e45 : ∀ a, a < 0 → ∀ b, b < 0 → a ≠ b → (TJxa1e45 a).2.1 ≠ (TJxa1e45 b).2.1 := by decide +kernel
theorem tyJxa1e45_ok : ∀ k, k < 0 → parseFieldDescriptor (TJxa1e45 k).2.2.1 = some (tyJxa1e45 k) := by decide +kernel
abbrev cJxa1e45_init_da8c8 : ByteArray := prog_38_method_1_code
def yJxa1e45_init_da8c8 : MethodName := ⟨RJxa1e45, "<init>", "()V"⟩
def RJxc12de : String := "java/util/AbstractList"
def TJxc12de : u_T := fun k => match k with
  | _ => ("", "", "", false)
def tyJxc12de : Nat → FieldType := fun k => match k with
  | _ => .int
abbrev wsJxc12de0 : List Cond := u_ws RJxc12de TJxc12de 0
theorem nmJxc12de : ∀ a, a < 0 → ∀ b, b < 0 → a ≠ b → (TJxc12de a).2.1 ≠ (TJxc12de b).2.1 := by decide +kernel
theorem tyJxc12de_ok : ∀ k, k < 0 → parseFieldDescriptor (TJxc12de k).2.2.1 = some (tyJxc12de k) := by decide +kernel
abbrev cJxc12de_init_da8c8 : ByteArray := prog_39_method_1_code
def yJxc12de_init_da8c8 : MethodName := ⟨RJxc12de, "<init>", "()V"⟩
def RJx4a65c : String := "java/util/ArrayList"
def TJx4a65c : u_T := fun k => match k with
  | 0 => ("java/util/AbstractList", "modCount", "I", false)
  | 1 => ("java/util/ArrayList", "elementData", "[Ljava/lang/Object;", false)
  | _ => ("java/util/ArrayList", "size", "I", false)
def tyJx4a65c : Nat → FieldType := fun k => match k with
  | 0 => .int
  | 1 => .array (.object "java/lang/Object")
  | _ => .int
abbrev wsJx4a65c0 : List Cond := u_ws RJx4a65c TJx4a65c 3
theorem nmJx4a65c : ∀ a, a < 3 → ∀ b, b < 3 → a ≠ b → (TJx4a65c a).2.1 ≠ (TJx4a65c b).2.1 := by decide +kernel
theorem tyJx4a65c_ok : ∀ k, k < 3 → parseFieldDescriptor (TJx4a65c k).2.2.1 = some (tyJx4a65c k) := by decide +kernel
abbrev cJx4a65c_init_da8c8 : ByteArray := prog_40_method_2_code
def yJx4a65c_init_da8c8 : MethodName := ⟨RJx4a65c, "<init>", "()V"⟩
abbrev cJx4a65c_grow_92f84 : ByteArray := prog_40_method_6_code
def yJx4a65c_grow_92f84 : MethodName := ⟨RJx4a65c, "grow", "(I)[Ljava/lang/Object;"⟩
abbrev cJx4a65c_grow_d5877 : ByteArray := prog_40_method_7_code
def yJx4a65c_grow_d5877 : MethodName := ⟨RJx4a65c, "grow", "()[Ljava/lang/Object;"⟩
abbrev cJx4a65c_size_8abf5 : ByteArray := prog_40_method_8_code
def yJx4a65c_size_8abf5 : MethodName := ⟨RJx4a65c, "size", "()I"⟩
abbrev cJx4a65c_elementData_915e3 : ByteArray := prog_40_method_18_code
def yJx4a65c_elementData_915e3 : MethodName := ⟨RJx4a65c, "elementData", "(I)Ljava/lang/Object;"⟩
abbrev cJx4a65c_get_915e3 : ByteArray := prog_40_method_20_code
def yJx4a65c_get_915e3 : MethodName := ⟨RJx4a65c, "get", "(I)Ljava/lang/Object;"⟩
abbrev cJx4a65c_add_72be8 : ByteArray := prog_40_method_24_code
def yJx4a65c_add_72be8 : MethodName := ⟨RJx4a65c, "add", "(Ljava/lang/Object;[Ljava/lang/Object;I)V"⟩
abbrev cJx4a65c_add_9ea2d : ByteArray := prog_40_method_25_code
def yJx4a65c_add_9ea2d : MethodName := ⟨RJx4a65c, "add", "(Ljava/lang/Object;)Z"⟩
abbrev cJx4a65c_add_7a177 : ByteArray := prog_40_method_26_code
def yJx4a65c_add_7a177 : MethodName := ⟨RJx4a65c, "add", "(ILjava/lang/Object;)V"⟩
abbrev cJx4a65c_remove_915e3 : ByteArray := prog_40_method_29_code
def yJx4a65c_remove_915e3 : MethodName := ⟨RJx4a65c, "remove", "(I)Ljava/lang/Object;"⟩
abbrev cJx4a65c_fastRemove_b59b0 : ByteArray := prog_40_method_39_code
def yJx4a65c_fastRemove_b59b0 : MethodName := ⟨RJx4a65c, "fastRemove", "([Ljava/lang/Object;I)V"⟩
abbrev cJx4a65c_rangeCheckForAdd_d00df : ByteArray := prog_40_method_45_code
def yJx4a65c_rangeCheckForAdd_d00df : MethodName := ⟨RJx4a65c, "rangeCheckForAdd", "(I)V"⟩
abbrev cJx4a65c_outOfBoundsMsg_b52d3 : ByteArray := prog_40_method_46_code
def yJx4a65c_outOfBoundsMsg_b52d3 : MethodName := ⟨RJx4a65c, "outOfBoundsMsg", "(I)Ljava/lang/String;"⟩
def RJ7 : String := "java/util/Arrays"
def TJ7 : u_T := fun k => match k with
  | _ => ("", "", "", false)
def tyJ7 : Nat → FieldType := fun k => match k with
  | _ => .int
abbrev wsJ70 : List Cond := u_ws RJ7 TJ7 0
theorem nmJ7 : ∀ a, a < 0 → ∀ b, b < 0 → a ≠ b → (TJ7 a).2.1 ≠ (TJ7 b).2.1 := by decide +kernel
theorem tyJ7_ok : ∀ k, k < 0 → parseFieldDescriptor (TJ7 k).2.2.1 = some (tyJ7 k) := by decide +kernel
abbrev cJ7_fill_53178 : ByteArray := prog_41_method_103_code
def yJ7_fill_53178 : MethodName := ⟨RJ7, "fill", "([II)V"⟩
abbrev cJ7_copyOf_1904c : ByteArray := prog_41_method_119_code
def yJ7_copyOf_1904c : MethodName := ⟨RJ7, "copyOf", "([Ljava/lang/Object;I)[Ljava/lang/Object;"⟩
abbrev cJ7_copyOf_6403c : ByteArray := prog_41_method_120_code
def yJ7_copyOf_6403c : MethodName := ⟨RJ7, "copyOf", "([Ljava/lang/Object;ILjava/lang/Class;)[Ljava/lang/Object;"⟩
abbrev cJ7_copyOf_9075b : ByteArray := prog_41_method_121_code
def yJ7_copyOf_9075b : MethodName := ⟨RJ7, "copyOf", "([BI)[B"⟩
abbrev cJ7_copyOf_59c91 : ByteArray := prog_41_method_123_code
def yJ7_copyOf_59c91 : MethodName := ⟨RJ7, "copyOf", "([II)[I"⟩
abbrev cJ7_checkLength_df160 : ByteArray := prog_41_method_131_code
def yJ7_checkLength_df160 : MethodName := ⟨RJ7, "checkLength", "(II)V"⟩
abbrev cJ7_copyOfRange_39247 : ByteArray := prog_41_method_132_code
def yJ7_copyOfRange_39247 : MethodName := ⟨RJ7, "copyOfRange", "([BII)[B"⟩
abbrev cJ7_copyOfRangeByte_39247 : ByteArray := prog_41_method_133_code
def yJ7_copyOfRangeByte_39247 : MethodName := ⟨RJ7, "copyOfRangeByte", "([BII)[B"⟩
def RJx5ef63 : String := "java/util/Collection"
def TJx5ef63 : u_T := fun k => match k with
  | _ => ("", "", "", false)
def tyJx5ef63 : Nat → FieldType := fun k => match k with
  | _ => .int
abbrev wsJx5ef630 : List Cond := u_ws RJx5ef63 TJx5ef63 0
theorem nmJx5ef63 : ∀ a, a < 0 → ∀ b, b < 0 → a ≠ b → (TJx5ef63 a).2.1 ≠ (TJx5ef63 b).2.1 := by decide +kernel
theorem tyJx5ef63_ok : ∀ k, k < 0 → parseFieldDescriptor (TJx5ef63 k).2.2.1 = some (tyJx5ef63 k) := by decide +kernel
def RJxbd725 : String := "java/util/List"
def TJxbd725 : u_T := fun k => match k with
  | _ => ("", "", "", false)
def tyJxbd725 : Nat → FieldType := fun k => match k with
  | _ => .int
abbrev wsJxbd7250 : List Cond := u_ws RJxbd725 TJxbd725 0
theorem nmJxbd725 : ∀ a, a < 0 → ∀ b, b < 0 → a ≠ b → (TJxbd725 a).2.1 ≠ (TJxbd725 b).2.1 := by decide +kernel
theorem tyJxbd725_ok : ∀ k, k < 0 → parseFieldDescriptor (TJxbd725 k).2.2.1 = some (tyJxbd725 k) := by decide +kernel
def RJ15 : String := "java/util/Objects"
def TJ15 : u_T := fun k => match k with
  | _ => ("", "", "", false)
def tyJ15 : Nat → FieldType := fun k => match k with
  | _ => .int
abbrev wsJ150 : List Cond := u_ws RJ15 TJ15 0
theorem nmJ15 : ∀ a, a < 0 → ∀ b, b < 0 → a ≠ b → (TJ15 a).2.1 ≠ (TJ15 b).2.1 := by decide +kernel
theorem tyJ15_ok : ∀ k, k < 0 → parseFieldDescriptor (TJ15 k).2.2.1 = some (tyJ15 k) := by decide +kernel
abbrev cJ15_checkIndex_7cf53 : ByteArray := prog_44_method_17_code
def yJ15_checkIndex_7cf53 : MethodName := ⟨RJ15, "checkIndex", "(II)I"⟩
def RJxf0a74 : String := "java/util/RandomAccess"
def TJxf0a74 : u_T := fun k => match k with
  | _ => ("", "", "", false)
def tyJxf0a74 : Nat → FieldType := fun k => match k with
  | _ => .int
abbrev wsJxf0a740 : List Cond := u_ws RJxf0a74 TJxf0a74 0
theorem nmJxf0a74 : ∀ a, a < 0 → ∀ b, b < 0 → a ≠ b → (TJxf0a74 a).2.1 ≠ (TJxf0a74 b).2.1 := by decide +kernel
theorem tyJxf0a74_ok : ∀ k, k < 0 → parseFieldDescriptor (TJxf0a74 k).2.2.1 = some (tyJxf0a74 k) := by decide +kernel
def RJxa66e6 : String := "java/util/SequencedCollection"
def TJxa66e6 : u_T := fun k => match k with
  | _ => ("", "", "", false)
def tyJxa66e6 : Nat → FieldType := fun k => match k with
  | _ => .int
abbrev wsJxa66e60 : List Cond := u_ws RJxa66e6 TJxa66e6 0
theorem nmJxa66e6 : ∀ a, a < 0 → ∀ b, b < 0 → a ≠ b → (TJxa66e6 a).2.1 ≠ (TJxa66e6 b).2.1 := by decide +kernel
theorem tyJxa66e6_ok : ∀ k, k < 0 → parseFieldDescriptor (TJxa66e6 k).2.2.1 = some (tyJxa66e6 k) := by decide +kernel
def RJ8 : String := "jdk/internal/util/ArraysSupport"
def TJ8 : u_T := fun k => match k with
  | _ => ("", "", "", false)
def tyJ8 : Nat → FieldType := fun k => match k with
  | _ => .int
abbrev wsJ80 : List Cond := u_ws RJ8 TJ8 0
theorem nmJ8 : ∀ a, a < 0 → ∀ b, b < 0 → a ≠ b → (TJ8 a).2.1 ≠ (TJ8 b).2.1 := by decide +kernel
theorem tyJ8_ok : ∀ k, k < 0 → parseFieldDescriptor (TJ8 k).2.2.1 = some (tyJ8 k) := by decide +kernel
abbrev cJ8_newLength_cabcc : ByteArray := prog_47_method_27_code
def yJ8_newLength_cabcc : MethodName := ⟨RJ8, "newLength", "(III)I"⟩
abbrev cJ8_hugeLength_7cf53 : ByteArray := prog_47_method_28_code
def yJ8_hugeLength_7cf53 : MethodName := ⟨RJ8, "hugeLength", "(II)I"⟩
def RJ3 : String := "jdk/internal/util/Preconditions"
def TJ3 : u_T := fun k => match k with
  | _ => ("", "", "", false)
def tyJ3 : Nat → FieldType := fun k => match k with
  | _ => .int
abbrev wsJ30 : List Cond := u_ws RJ3 TJ3 0
theorem nmJ3 : ∀ a, a < 0 → ∀ b, b < 0 → a ≠ b → (TJ3 a).2.1 ≠ (TJ3 b).2.1 := by decide +kernel
theorem tyJ3_ok : ∀ k, k < 0 → parseFieldDescriptor (TJ3 k).2.2.1 = some (tyJ3 k) := by decide +kernel
abbrev cJ3_checkIndex_8e157 : ByteArray := prog_48_method_11_code
def yJ3_checkIndex_8e157 : MethodName := ⟨RJ3, "checkIndex", "(IILjava/util/function/BiFunction;)I"⟩
abbrev cJ3_checkFromToIndex_8c36e : ByteArray := prog_48_method_12_code
def yJ3_checkFromToIndex_8c36e : MethodName := ⟨RJ3, "checkFromToIndex", "(IIILjava/util/function/BiFunction;)I"⟩
abbrev cJ3_checkFromIndexSize_8c36e : ByteArray := prog_48_method_13_code
def yJ3_checkFromIndexSize_8c36e : MethodName := ⟨RJ3, "checkFromIndexSize", "(IIILjava/util/function/BiFunction;)I"⟩
def RL : String := "GalleyforgeLaw"
abbrev cL_spells : ByteArray := method_2_code
def yL_spells : MethodName := ⟨RL, "spells", "(LGalleyforge;I)I"⟩
abbrev cL_marks : ByteArray := method_3_code
def yL_marks : MethodName := ⟨RL, "marks", "(LGalleyforge;II)I"⟩
abbrev cL_patterns : ByteArray := method_4_code
def yL_patterns : MethodName := ⟨RL, "patterns", "(LGalleyforge;II)I"⟩
abbrev cL_words : ByteArray := method_5_code
def yL_words : MethodName := ⟨RL, "words", "(LGalleyforge;II)I"⟩
abbrev cL_refers : ByteArray := method_6_code
def yL_refers : MethodName := ⟨RL, "refers", "(LGalleyforge;III)I"⟩
abbrev cL_takes : ByteArray := method_7_code
def yL_takes : MethodName := ⟨RL, "takes", "(LGalleyforge;II)I"⟩
abbrev cL_blocks : ByteArray := method_8_code
def yL_blocks : MethodName := ⟨RL, "blocks", "(LGalleyforge;II)I"⟩
abbrev cL_removes : ByteArray := method_9_code
def yL_removes : MethodName := ⟨RL, "removes", "(LGalleyforge;I)I"⟩
abbrev cL_styles : ByteArray := method_10_code
def yL_styles : MethodName := ⟨RL, "styles", "(LGalleyforge;III)I"⟩
abbrev cL_cells : ByteArray := method_11_code
def yL_cells : MethodName := ⟨RL, "cells", "(LGalleyforge;IIIIII)I"⟩
abbrev cL_figures : ByteArray := method_12_code
def yL_figures : MethodName := ⟨RL, "figures", "(LGalleyforge;II)I"⟩
abbrev cL_papers : ByteArray := method_13_code
def yL_papers : MethodName := ⟨RL, "papers", "(LGalleyforge;II)I"⟩
abbrev cL_keys : ByteArray := method_14_code
def yL_keys : MethodName := ⟨RL, "keys", "(LGalleyforge;II)I"⟩
abbrev cL_count : ByteArray := method_15_code
def yL_count : MethodName := ⟨RL, "count", "(LGalleyforge;I)I"⟩
abbrev cL_gaps : ByteArray := method_16_code
def yL_gaps : MethodName := ⟨RL, "gaps", "(LGalleyforge;II)I"⟩
abbrev cL_number : ByteArray := method_17_code
def yL_number : MethodName := ⟨RL, "number", "(LGalleyforge;II)I"⟩
abbrev cL_wide : ByteArray := method_18_code
def yL_wide : MethodName := ⟨RL, "wide", "(LGalleyforge;II)I"⟩
abbrev cL_high : ByteArray := method_19_code
def yL_high : MethodName := ⟨RL, "high", "(LGalleyforge;II)I"⟩
abbrev cL_lines : ByteArray := method_20_code
def yL_lines : MethodName := ⟨RL, "lines", "(LGalleyforge;II)I"⟩
abbrev cL_lineEnd : ByteArray := method_21_code
def yL_lineEnd : MethodName := ⟨RL, "lineEnd", "(LGalleyforge;III)I"⟩
abbrev cL_tight : ByteArray := method_22_code
def yL_tight : MethodName := ⟨RL, "tight", "(LGalleyforge;III)I"⟩
abbrev cL_demerits : ByteArray := method_23_code
def yL_demerits : MethodName := ⟨RL, "demerits", "(LGalleyforge;II)J"⟩
abbrev cL_byAll : ByteArray := method_24_code
def yL_byAll : MethodName := ⟨RL, "byAll", "(LGalleyforge;II)J"⟩
abbrev cL_pages : ByteArray := method_25_code
def yL_pages : MethodName := ⟨RL, "pages", "(LGalleyforge;I)I"⟩
abbrev cL_cost : ByteArray := method_26_code
def yL_cost : MethodName := ⟨RL, "cost", "(LGalleyforge;I)I"⟩
abbrev cL_costAnew : ByteArray := method_27_code
def yL_costAnew : MethodName := ⟨RL, "costAnew", "(LGalleyforge;I)I"⟩
abbrev cL_rounds : ByteArray := method_28_code
def yL_rounds : MethodName := ⟨RL, "rounds", "(LGalleyforge;I)I"⟩
abbrev cL_settled : ByteArray := method_29_code
def yL_settled : MethodName := ⟨RL, "settled", "(LGalleyforge;I)I"⟩
abbrev cL_on : ByteArray := method_30_code
def yL_on : MethodName := ⟨RL, "on", "(LGalleyforge;III)I"⟩
abbrev cL_head : ByteArray := method_31_code
def yL_head : MethodName := ⟨RL, "head", "(LGalleyforge;II)I"⟩
abbrev cL_textAt : ByteArray := method_32_code
def yL_textAt : MethodName := ⟨RL, "textAt", "(LGalleyforge;III)I"⟩
abbrev cL_whereIs : ByteArray := method_33_code
def yL_whereIs : MethodName := ⟨RL, "whereIs", "(LGalleyforge;III)I"⟩
abbrev cL_figureAt : ByteArray := method_34_code
def yL_figureAt : MethodName := ⟨RL, "figureAt", "(LGalleyforge;II)I"⟩
abbrev cL_label : ByteArray := method_35_code
def yL_label : MethodName := ⟨RL, "label", "(LGalleyforge;II)I"⟩
abbrev cL_contents : ByteArray := method_36_code
def yL_contents : MethodName := ⟨RL, "contents", "(LGalleyforge;II)I"⟩
abbrev cL_term : ByteArray := method_37_code
def yL_term : MethodName := ⟨RL, "term", "(LGalleyforge;II)I"⟩
abbrev cL_range : ByteArray := method_38_code
def yL_range : MethodName := ⟨RL, "range", "(LGalleyforge;III)I"⟩
abbrev cL_drawn : ByteArray := method_39_code
def yL_drawn : MethodName := ⟨RL, "drawn", "([II)I"⟩
abbrev cL_refuses : ByteArray := method_40_code
def yL_refuses : MethodName := ⟨RL, "refuses", "(LGalleyforge;[II)Z"⟩
abbrev cL_act : ByteArray := method_41_code
def yL_act : MethodName := ⟨RL, "act", "(LGalleyforge;[II)I"⟩
abbrev cL_keep : ByteArray := method_42_code
def yL_keep : MethodName := ⟨RL, "keep", "(LGalleyforge;[III)V"⟩
abbrev cL_alike : ByteArray := method_43_code
def yL_alike : MethodName := ⟨RL, "alike", "(LGalleyforge;LGalleyforge;I)Z"⟩
abbrev cL_isLaid : ByteArray := method_44_code
def yL_isLaid : MethodName := ⟨RL, "isLaid", "(LGalleyforge;I)Z"⟩
abbrev cL_isTold : ByteArray := method_45_code
def yL_isTold : MethodName := ⟨RL, "isTold", "(LGalleyforge;II)Z"⟩
abbrev cL_law : ByteArray := code
def yL_law : MethodName := ⟨RL, "law", "([I)Z"⟩
end
