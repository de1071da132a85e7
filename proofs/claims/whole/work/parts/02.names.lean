def RX0 : String := "NamesInRow$Arrangement"
def TX0 : u_T := fun k => match k with
  | 0 => ("NamesInRow$Arrangement", "sorted", "LNamesInRow$Ranking;", true)
  | _ => ("NamesInRow$Arrangement", "result", "LNamesInRow$Row;", true)
def tyX0 : Nat → FieldType := fun k => match k with
  | 0 => .object "NamesInRow$Ranking"
  | _ => .object "NamesInRow$Row"
theorem nmX0 : ∀ a, a < 2 → ∀ b, b < 2 → a ≠ b → (TX0 a).2.1 ≠ (TX0 b).2.1 := by decide +kernel
theorem tyX0_ok : ∀ k, k < 2 → parseFieldDescriptor (TX0 k).2.2.1 = some (tyX0 k) := by decide +kernel
def RX1 : String := "NamesInRow$Division"
def TX1 : u_T := fun k => match k with
  | 0 => ("NamesInRow$Division", "uppers", "[I", true)
  | 1 => ("NamesInRow$Division", "lower", "I", false)
  | _ => ("NamesInRow$Division", "falling", "[I", true)
def tyX1 : Nat → FieldType := fun k => match k with
  | 0 => .array .int
  | 1 => .int
  | _ => .array .int
theorem nmX1 : ∀ a, a < 3 → ∀ b, b < 3 → a ≠ b → (TX1 a).2.1 ≠ (TX1 b).2.1 := by decide +kernel
theorem tyX1_ok : ∀ k, k < 3 → parseFieldDescriptor (TX1 k).2.2.1 = some (tyX1 k) := by decide +kernel
def RX2 : String := "NamesInRow$Paper"
def TX2 : u_T := fun k => match k with
  | 0 => ("NamesInRow$Paper", "tradeNumber", "I", false)
  | 1 => ("NamesInRow$Paper", "weights", "[I", true)
  | 2 => ("NamesInRow$Paper", "costs", "[I", true)
  | 3 => ("NamesInRow$Paper", "worked", "[[I", true)
  | 4 => ("NamesInRow$Paper", "claims", "[I", true)
  | 5 => ("NamesInRow$Paper", "row", "LNamesInRow$Row;", true)
  | 6 => ("NamesInRow$Paper", "doneTasks", "I", false)
  | 7 => ("NamesInRow$Paper", "doneWeight", "I", false)
  | 8 => ("NamesInRow$Paper", "parts", "[J", true)
  | _ => ("NamesInRow$Paper", "whole", "J", false)
def tyX2 : Nat → FieldType := fun k => match k with
  | 0 => .int
  | 1 => .array .int
  | 2 => .array .int
  | 3 => .array (.array .int)
  | 4 => .array .int
  | 5 => .object "NamesInRow$Row"
  | 6 => .int
  | 7 => .int
  | 8 => .array .long
  | _ => .long
theorem nmX2 : ∀ a, a < 10 → ∀ b, b < 10 → a ≠ b → (TX2 a).2.1 ≠ (TX2 b).2.1 := by decide +kernel
theorem tyX2_ok : ∀ k, k < 10 → parseFieldDescriptor (TX2 k).2.2.1 = some (tyX2 k) := by decide +kernel
def RX3 : String := "NamesInRow$Quarrels"
def TX3 : u_T := fun k => match k with
  | 0 => ("NamesInRow$Quarrels", "minded", "[[I", true)
  | 1 => ("NamesInRow$Quarrels", "borne", "[I", true)
  | 2 => ("NamesInRow$Quarrels", "calm", "LNamesInRow$Row;", true)
  | _ => ("NamesInRow$Quarrels", "stillMinded", "[I", true)
def tyX3 : Nat → FieldType := fun k => match k with
  | 0 => .array (.array .int)
  | 1 => .array .int
  | 2 => .object "NamesInRow$Row"
  | _ => .array .int
theorem nmX3 : ∀ a, a < 4 → ∀ b, b < 4 → a ≠ b → (TX3 a).2.1 ≠ (TX3 b).2.1 := by decide +kernel
theorem tyX3_ok : ∀ k, k < 4 → parseFieldDescriptor (TX3 k).2.2.1 = some (tyX3 k) := by decide +kernel
def RX4 : String := "NamesInRow$Ranking"
def TX4 : u_T := fun k => match k with
  | 0 => ("NamesInRow$Ranking", "row", "LNamesInRow$Row;", true)
  | _ => ("NamesInRow$Ranking", "numbers", "[J", true)
def tyX4 : Nat → FieldType := fun k => match k with
  | 0 => .object "NamesInRow$Row"
  | _ => .array .long
theorem nmX4 : ∀ a, a < 2 → ∀ b, b < 2 → a ≠ b → (TX4 a).2.1 ≠ (TX4 b).2.1 := by decide +kernel
theorem tyX4_ok : ∀ k, k < 2 → parseFieldDescriptor (TX4 k).2.2.1 = some (tyX4 k) := by decide +kernel
def RX5 : String := "NamesInRow$Row"
def TX5 : u_T := fun k => match k with
  | 0 => ("NamesInRow$Row", "people", "[I", true)
  | _ => ("NamesInRow$Row", "size", "I", false)
def tyX5 : Nat → FieldType := fun k => match k with
  | 0 => .array .int
  | _ => .int
theorem nmX5 : ∀ a, a < 2 → ∀ b, b < 2 → a ≠ b → (TX5 a).2.1 ≠ (TX5 b).2.1 := by decide +kernel
theorem tyX5_ok : ∀ k, k < 2 → parseFieldDescriptor (TX5 k).2.2.1 = some (tyX5 k) := by decide +kernel
def RX6 : String := "NamesInRow"
def TX6 : u_T := fun k => match k with
  | 0 => ("NamesInRow", "papers", "[LNamesInRow$Paper;", true)
  | 1 => ("NamesInRow", "roomHolders", "[I", true)
  | 2 => ("NamesInRow", "dues", "[I", true)
  | 3 => ("NamesInRow", "arrangement", "LNamesInRow$Arrangement;", true)
  | 4 => ("NamesInRow", "division", "LNamesInRow$Division;", true)
  | 5 => ("NamesInRow", "quarrels", "LNamesInRow$Quarrels;", true)
  | _ => ("NamesInRow", "ranking", "LNamesInRow$Ranking;", true)
def tyX6 : Nat → FieldType := fun k => match k with
  | 0 => .array (.object "NamesInRow$Paper")
  | 1 => .array .int
  | 2 => .array .int
  | 3 => .object "NamesInRow$Arrangement"
  | 4 => .object "NamesInRow$Division"
  | 5 => .object "NamesInRow$Quarrels"
  | _ => .object "NamesInRow$Ranking"
theorem nmX6 : ∀ a, a < 7 → ∀ b, b < 7 → a ≠ b → (TX6 a).2.1 ≠ (TX6 b).2.1 := by decide +kernel
theorem tyX6_ok : ∀ k, k < 7 → parseFieldDescriptor (TX6 k).2.2.1 = some (tyX6 k) := by decide +kernel
def RX7 : String := "NamesInRowModel"
def TX7 : u_T := fun k => match k with
  | 0 => ("NamesInRowModel", "trades", "[I", true)
  | 1 => ("NamesInRowModel", "weight", "[I", true)
  | 2 => ("NamesInRowModel", "price", "[I", true)
  | 3 => ("NamesInRowModel", "hour", "[I", true)
  | 4 => ("NamesInRowModel", "rowMany", "[I", true)
  | 5 => ("NamesInRowModel", "row", "[I", true)
  | 6 => ("NamesInRowModel", "above", "[J", true)
  | 7 => ("NamesInRowModel", "below", "J", false)
  | 8 => ("NamesInRowModel", "rooms", "[I", true)
  | 9 => ("NamesInRowModel", "sorted", "[I", true)
  | 10 => ("NamesInRowModel", "due", "[I", true)
  | 11 => ("NamesInRowModel", "worthUp", "J", false)
  | 12 => ("NamesInRowModel", "worthDown", "J", false)
  | 13 => ("NamesInRowModel", "scoreUp", "[J", true)
  | 14 => ("NamesInRowModel", "scoreDown", "[J", true)
  | 15 => ("NamesInRowModel", "claims", "[I", true)
  | 16 => ("NamesInRowModel", "gets", "[J", true)
  | 17 => ("NamesInRowModel", "getsBy", "J", false)
  | 18 => ("NamesInRowModel", "unfairUp", "J", false)
  | 19 => ("NamesInRowModel", "unfairDown", "J", false)
  | 20 => ("NamesInRowModel", "minds", "[I", true)
  | 21 => ("NamesInRowModel", "bears", "[I", true)
  | 22 => ("NamesInRowModel", "order", "[I", true)
  | 23 => ("NamesInRowModel", "best", "[I", true)
  | 24 => ("NamesInRowModel", "bestSum", "I", false)
  | 25 => ("NamesInRowModel", "members", "I", false)
  | _ => ("NamesInRowModel", "owes", "[I", true)
def tyX7 : Nat → FieldType := fun k => match k with
  | 0 => .array .int
  | 1 => .array .int
  | 2 => .array .int
  | 3 => .array .int
  | 4 => .array .int
  | 5 => .array .int
  | 6 => .array .long
  | 7 => .long
  | 8 => .array .int
  | 9 => .array .int
  | 10 => .array .int
  | 11 => .long
  | 12 => .long
  | 13 => .array .long
  | 14 => .array .long
  | 15 => .array .int
  | 16 => .array .long
  | 17 => .long
  | 18 => .long
  | 19 => .long
  | 20 => .array .int
  | 21 => .array .int
  | 22 => .array .int
  | 23 => .array .int
  | 24 => .int
  | 25 => .int
  | _ => .array .int
theorem nmX7 : ∀ a, a < 27 → ∀ b, b < 27 → a ≠ b → (TX7 a).2.1 ≠ (TX7 b).2.1 := by decide +kernel
theorem tyX7_ok : ∀ k, k < 27 → parseFieldDescriptor (TX7 k).2.2.1 = some (tyX7 k) := by decide +kernel
abbrev vwCl : List vw_C := [(RX0, TX0, 2), (RX1, TX1, 3), (RX2, TX2, 10), (RX3, TX3, 4), (RX4, TX4, 2), (RX5, TX5, 2), (RX6, TX6, 7), (RX7, TX7, 27)]
/-- method number M: name, bytes, locals, return type, class number, parameters, static, frames, locals below -/
abbrev mRow : Type := MethodName × ByteArray × Nat × Option FieldType × Nat × Nat × Bool × Nat × Nat
def mT_0 : List mRow := [(⟨"NamesInRow$Arrangement", "arrange", "(LNamesInRow$Paper;II)LNamesInRow$Row;"⟩, prog_2_method_2_code, 4, some (.object "NamesInRow$Row"), 0, 3, false, 3, 71),
  (⟨"NamesInRow$Arrangement", "sort", "(LNamesInRow$Paper;Z)V"⟩, prog_2_method_3_code, 5, none, 0, 2, false, 2, 47),
  (⟨"NamesInRow$Arrangement", "putLast", "(I)V"⟩, prog_2_method_4_code, 4, none, 0, 1, false, 1, 22),
  (⟨"NamesInRow$Arrangement", "spreadToEnds", "()V"⟩, prog_2_method_5_code, 4, none, 0, 0, false, 0, 0),
  (⟨"NamesInRow$Division", "divide", "([II)V"⟩, prog_3_method_2_code, 4, none, 1, 2, false, 3, 70),
  (⟨"NamesInRow$Division", "unfairUpper", "(LNamesInRow$Paper;)J"⟩, prog_3_method_3_code, 9, some .long, 1, 1, false, 1, 21),
  (⟨"NamesInRow$Division", "takeAsSaid", "([I)V"⟩, prog_3_method_4_code, 3, none, 1, 1, false, 0, 0),
  (⟨"NamesInRow$Division", "takeParts", "([II)V"⟩, prog_3_method_5_code, 4, none, 1, 2, false, 0, 0),
  (⟨"NamesInRow$Division", "takeCapped", "([II)V"⟩, prog_3_method_6_code, 6, none, 1, 2, false, 2, 45),
  (⟨"NamesInRow$Division", "leftBelow", "(II)I"⟩, prog_3_method_7_code, 3, some .int, 1, 2, false, 1, 23),
  (⟨"NamesInRow$Division", "takeLess", "([I)V"⟩, prog_3_method_8_code, 5, none, 1, 1, false, 1, 23),
  (⟨"NamesInRow$Division", "sumOfFirst", "(I)I"⟩, prog_3_method_9_code, 4, some .int, 1, 1, false, 0, 0),
  (⟨"NamesInRow$Division", "sortFalling", "([I)V"⟩, prog_3_method_10_code, 4, none, 1, 1, false, 0, 0),
  (⟨"NamesInRow$Paper", "reckonShares", "()V"⟩, prog_4_method_2_code, 5, none, 2, 0, false, 2, 48),
  (⟨"NamesInRow$Paper", "fillParts", "(J)V"⟩, prog_4_method_3_code, 5, none, 2, 1, false, 1, 24),
  (⟨"NamesInRow$Paper", "addParts", "([IJ)V"⟩, prog_4_method_4_code, 5, none, 2, 2, false, 0, 0),
  (⟨"NamesInRow$Paper", "hoursIn", "(I)I"⟩, prog_4_method_5_code, 4, some .int, 2, 1, false, 0, 0),
  (⟨"NamesInRow$Paper", "thousandths", "(I)J"⟩, prog_4_method_6_code, 2, some .long, 2, 1, false, 1, 20),
  (⟨"NamesInRow$Paper", "isGiftAt", "(I)Z"⟩, prog_4_method_7_code, 3, some .boolean, 2, 1, false, 1, 21),
  (⟨"NamesInRow$Paper", "isGhost", "(I)Z"⟩, prog_4_method_8_code, 2, some .boolean, 2, 1, false, 2, 43)]
def mT_1 : List mRow := [(⟨"NamesInRow$Paper", "claimedOver", "()I"⟩, prog_4_method_9_code, 3, some .int, 2, 0, false, 0, 0),
  (⟨"NamesInRow$Paper", "isKnown", "(II)Z"⟩, prog_4_method_10_code, 5, some .boolean, 2, 2, false, 1, 21),
  (⟨"NamesInRow$Paper", "costOf", "(I)I"⟩, prog_4_method_11_code, 4, some .int, 2, 1, false, 1, 21),
  (⟨"NamesInRow$Paper", "tasksToKeep", "(I)I"⟩, prog_4_method_12_code, 4, some .int, 2, 1, false, 3, 68),
  (⟨"NamesInRow$Paper", "isDearer", "(II)Z"⟩, prog_4_method_13_code, 5, some .boolean, 2, 2, false, 2, 44),
  (⟨"NamesInRow$Quarrels", "mindedBehind", "(II)I"⟩, prog_5_method_2_code, 5, some .int, 3, 2, false, 1, 21),
  (⟨"NamesInRow$Quarrels", "mindedIn", "(LNamesInRow$Row;)I"⟩, prog_5_method_3_code, 6, some .int, 3, 1, false, 2, 45),
  (⟨"NamesInRow$Quarrels", "unborneIn", "(LNamesInRow$Row;)I"⟩, prog_5_method_4_code, 6, some .int, 3, 1, false, 2, 45),
  (⟨"NamesInRow$Quarrels", "makePeace", "(I)Z"⟩, prog_5_method_5_code, 3, some .boolean, 3, 1, false, 5, 116),
  (⟨"NamesInRow$Quarrels", "leastBehind", "(II)I"⟩, prog_5_method_6_code, 5, some .int, 3, 2, false, 3, 68),
  (⟨"NamesInRow$Quarrels", "mindedFrom", "(II)I"⟩, prog_5_method_7_code, 4, some .int, 3, 2, false, 2, 45),
  (⟨"NamesInRow$Quarrels", "lineUp", "(I)V"⟩, prog_5_method_8_code, 5, none, 3, 1, false, 4, 92),
  (⟨"NamesInRow$Quarrels", "firstOfLeast", "(II)I"⟩, prog_5_method_9_code, 5, some .int, 3, 2, false, 3, 68),
  (⟨"NamesInRow$Ranking", "put", "(IJ)V"⟩, prog_6_method_2_code, 5, none, 4, 2, false, 1, 23),
  (⟨"NamesInRow$Ranking", "isLess", "(II)Z"⟩, prog_6_method_3_code, 4, some .boolean, 4, 2, false, 0, 0),
  (⟨"NamesInRow$Row", "personAt", "(I)I"⟩, prog_7_method_2_code, 2, some .int, 5, 1, false, 0, 0),
  (⟨"NamesInRow$Row", "placeOf", "(I)I"⟩, prog_7_method_3_code, 3, some .int, 5, 1, false, 0, 0),
  (⟨"NamesInRow$Row", "holds", "(I)Z"⟩, prog_7_method_4_code, 2, some .boolean, 5, 1, false, 1, 22),
  (⟨"NamesInRow$Row", "append", "(I)V"⟩, prog_7_method_5_code, 2, none, 5, 1, false, 0, 0),
  (⟨"NamesInRow$Row", "changeAbout", "(I)V"⟩, prog_7_method_6_code, 3, none, 5, 1, false, 0, 0)]
def mT_2 : List mRow := [(⟨"NamesInRow$Row", "copyFrom", "(LNamesInRow$Row;)V"⟩, prog_7_method_7_code, 3, none, 5, 1, false, 0, 0),
  (⟨"NamesInRow$Row", "members", "()I"⟩, prog_7_method_8_code, 3, some .int, 5, 0, false, 0, 0),
  (⟨"NamesInRow$Row", "placesUnlike", "(LNamesInRow$Row;)I"⟩, prog_7_method_9_code, 4, some .int, 5, 1, false, 1, 21),
  (⟨"NamesInRow$Row", "pairsUnlike", "(LNamesInRow$Row;)I"⟩, prog_7_method_10_code, 5, some .int, 5, 1, false, 1, 22),
  (⟨"NamesInRow", "trade", "(II)I"⟩, prog_1_method_2_code, 4, some .int, 6, 2, false, 1, 20),
  (⟨"NamesInRow", "task", "(IIII)I"⟩, prog_1_method_3_code, 7, some .int, 6, 4, false, 3, 72),
  (⟨"NamesInRow", "hours", "(IIII)I"⟩, prog_1_method_4_code, 7, some .int, 6, 4, false, 3, 72),
  (⟨"NamesInRow", "name", "(II)I"⟩, prog_1_method_5_code, 4, some .int, 6, 2, false, 2, 43),
  (⟨"NamesInRow", "unname", "(I)I"⟩, prog_1_method_6_code, 4, some .int, 6, 1, false, 1, 20),
  (⟨"NamesInRow", "at", "(II)I"⟩, prog_1_method_7_code, 3, some .int, 6, 2, false, 1, 21),
  (⟨"NamesInRow", "swap", "(II)I"⟩, prog_1_method_8_code, 4, some .int, 6, 2, false, 1, 22),
  (⟨"NamesInRow", "share", "(IIZ)J"⟩, prog_1_method_9_code, 4, some .long, 6, 3, false, 2, 58),
  (⟨"NamesInRow", "gifts", "(IZ)I"⟩, prog_1_method_10_code, 5, some .int, 6, 2, false, 4, 86),
  (⟨"NamesInRow", "gift", "(IZI)I"⟩, prog_1_method_11_code, 6, some .int, 6, 3, false, 4, 86),
  (⟨"NamesInRow", "isFound", "(LNamesInRow$Paper;ZI)Z"⟩, prog_1_method_12_code, 3, some .boolean, 6, 3, true, 3, 64),
  (⟨"NamesInRow", "room", "(II)I"⟩, prog_1_method_13_code, 4, some .int, 6, 2, false, 1, 20),
  (⟨"NamesInRow", "due", "(III)I"⟩, prog_1_method_14_code, 4, some .int, 6, 3, false, 5, 116),
  (⟨"NamesInRow", "fits", "(I)I"⟩, prog_1_method_15_code, 2, some .int, 6, 1, false, 6, 139),
  (⟨"NamesInRow", "learn", "(I)I"⟩, prog_1_method_16_code, 4, some .int, 6, 1, false, 6, 139),
  (⟨"NamesInRow", "off", "(II)I"⟩, prog_1_method_17_code, 3, some .int, 6, 2, false, 5, 116)]
def mT_3 : List mRow := [(⟨"NamesInRow", "arranged", "(LNamesInRow$Paper;I)LNamesInRow$Row;"⟩, prog_1_method_18_code, 3, some (.object "NamesInRow$Row"), 6, 2, false, 4, 94),
  (⟨"NamesInRow", "fittingCustoms", "(LNamesInRow$Paper;)I"⟩, prog_1_method_19_code, 4, some .int, 6, 1, false, 5, 116),
  (⟨"NamesInRow", "worth", "(IIIZ)J"⟩, prog_1_method_20_code, 5, some .long, 6, 4, false, 3, 64),
  (⟨"NamesInRow", "score", "(IIZ)J"⟩, prog_1_method_21_code, 4, some .long, 6, 3, false, 4, 89),
  (⟨"NamesInRow", "ahead", "(II)I"⟩, prog_1_method_22_code, 5, some .int, 6, 2, false, 4, 89),
  (⟨"NamesInRow", "rank", "(II)I"⟩, prog_1_method_23_code, 4, some .int, 6, 2, false, 4, 89),
  (⟨"NamesInRow", "scoreUnits", "(II)J"⟩, prog_1_method_24_code, 6, some .long, 6, 2, false, 3, 64),
  (⟨"NamesInRow", "placeUnits", "(LNamesInRow$Paper;II)J"⟩, prog_1_method_25_code, 4, some .long, 6, 3, true, 2, 41),
  (⟨"NamesInRow", "firstUnits", "(II)J"⟩, prog_1_method_26_code, 4, some .long, 6, 2, true, 0, 0),
  (⟨"NamesInRow", "fallingUnits", "(II)J"⟩, prog_1_method_27_code, 6, some .long, 6, 2, true, 0, 0),
  (⟨"NamesInRow", "claim", "(III)I"⟩, prog_1_method_28_code, 6, some .int, 6, 3, false, 1, 21),
  (⟨"NamesInRow", "over", "(I)I"⟩, prog_1_method_29_code, 2, some .int, 6, 1, false, 1, 22),
  (⟨"NamesInRow", "gets", "(IIIZ)J"⟩, prog_1_method_30_code, 5, some .long, 6, 4, false, 4, 93),
  (⟨"NamesInRow", "unfair", "(IIZ)J"⟩, prog_1_method_31_code, 6, some .long, 6, 3, false, 4, 93),
  (⟨"NamesInRow", "fairest", "(I)I"⟩, prog_1_method_32_code, 10, some .int, 6, 1, false, 4, 93),
  (⟨"NamesInRow", "mind", "(III)I"⟩, prog_1_method_33_code, 5, some .int, 6, 3, false, 1, 21),
  (⟨"NamesInRow", "bear", "(II)I"⟩, prog_1_method_34_code, 4, some .int, 6, 2, false, 1, 21),
  (⟨"NamesInRow", "quarrel", "(IZ)I"⟩, prog_1_method_35_code, 4, some .int, 6, 2, false, 3, 70),
  (⟨"NamesInRow", "peace", "(I)I"⟩, prog_1_method_36_code, 2, some .int, 6, 1, false, 6, 138),
  (⟨"NamesInRow", "peaceAt", "(II)I"⟩, prog_1_method_37_code, 3, some .int, 6, 2, false, 6, 138)]
def mT_4 : List mRow := [(⟨"NamesInRow", "settle", "(I)I"⟩, prog_1_method_38_code, 4, some .int, 6, 1, false, 6, 138),
  (⟨"NamesInRow", "owed", "(II)I"⟩, prog_1_method_39_code, 3, some .int, 6, 2, false, 6, 139),
  (⟨"NamesInRow", "next", "(III)I"⟩, prog_1_method_40_code, 5, some .int, 6, 3, false, 6, 139),
  (⟨"NamesInRow", "keep", "(II)I"⟩, prog_1_method_41_code, 3, some .int, 6, 2, false, 4, 91),
  (⟨"NamesInRow", "cost", "(II)I"⟩, prog_1_method_42_code, 3, some .int, 6, 2, false, 4, 91),
  (⟨"NamesInRow", "count", "(I)I"⟩, prog_1_method_43_code, 4, some .int, 6, 1, false, 2, 43),
  (⟨"NamesInRow", "counted", "(LNamesInRow$Paper;I)I"⟩, prog_1_method_44_code, 2, some .int, 6, 2, true, 1, 22),
  (⟨"NamesInRow", "addUpDues", "(I)V"⟩, prog_1_method_45_code, 3, none, 6, 1, false, 5, 117),
  (⟨"NamesInRow", "addDuesOf", "(LNamesInRow$Paper;)V"⟩, prog_1_method_46_code, 4, none, 6, 1, false, 4, 94),
  (⟨"NamesInRow", "isWithin", "(II)Z"⟩, prog_1_method_47_code, 2, some .boolean, 6, 2, true, 0, 0),
  (⟨"NamesInRow", "isPerson", "(I)Z"⟩, prog_1_method_48_code, 1, some .boolean, 6, 1, true, 0, 0),
  (⟨"NamesInRow", "isPaper", "(I)Z"⟩, prog_1_method_49_code, 1, some .boolean, 6, 1, true, 0, 0),
  (⟨"NamesInRow", "isTask", "(I)Z"⟩, prog_1_method_50_code, 1, some .boolean, 6, 1, true, 0, 0),
  (⟨"NamesInRow", "isTrade", "(I)Z"⟩, prog_1_method_51_code, 1, some .boolean, 6, 1, true, 0, 0),
  (⟨"NamesInRow", "isCustom", "(I)Z"⟩, prog_1_method_52_code, 1, some .boolean, 6, 1, true, 0, 0),
  (⟨"NamesInRow", "isWay", "(I)Z"⟩, prog_1_method_53_code, 1, some .boolean, 6, 1, true, 0, 0),
  (⟨"NamesInRow", "isRule", "(I)Z"⟩, prog_1_method_54_code, 1, some .boolean, 6, 1, true, 0, 0),
  (⟨"NamesInRow", "isSet", "(I)Z"⟩, prog_1_method_55_code, 1, some .boolean, 6, 1, true, 0, 0),
  (⟨"NamesInRow", "isIn", "(II)Z"⟩, prog_1_method_56_code, 2, some .boolean, 6, 2, true, 0, 0),
  (⟨"NamesInRow", "inLeastTerms", "(JJZ)J"⟩, prog_1_method_57_code, 9, some .long, 6, 3, true, 1, 30)]
def mT_5 : List mRow := [(⟨"NamesInRow", "commonDivisor", "(JJ)J"⟩, prog_1_method_58_code, 11, some .long, 6, 2, true, 0, 0),
  (⟨"NamesInRowModel", "in", "(JJJ)Z"⟩, prog_9_method_3_code, 6, some .boolean, 7, 3, true, 0, 0),
  (⟨"NamesInRowModel", "common", "(JJ)J"⟩, prog_9_method_4_code, 10, some .long, 7, 2, true, 0, 0),
  (⟨"NamesInRowModel", "told", "(JJZ)J"⟩, prog_9_method_5_code, 7, some .long, 7, 3, true, 1, 29),
  (⟨"NamesInRowModel", "isPaper", "(I)Z"⟩, prog_9_method_6_code, 1, some .boolean, 7, 1, true, 1, 25),
  (⟨"NamesInRowModel", "isPerson", "(I)Z"⟩, prog_9_method_7_code, 1, some .boolean, 7, 1, true, 1, 25),
  (⟨"NamesInRowModel", "isTask", "(I)Z"⟩, prog_9_method_8_code, 1, some .boolean, 7, 1, true, 1, 25),
  (⟨"NamesInRowModel", "isTrade", "(I)Z"⟩, prog_9_method_9_code, 1, some .boolean, 7, 1, true, 1, 25),
  (⟨"NamesInRowModel", "trade", "(II)I"⟩, prog_9_method_10_code, 4, some .int, 7, 2, false, 2, 45),
  (⟨"NamesInRowModel", "task", "(IIII)I"⟩, prog_9_method_11_code, 7, some .int, 7, 4, false, 2, 45),
  (⟨"NamesInRowModel", "hours", "(IIII)I"⟩, prog_9_method_12_code, 7, some .int, 7, 4, false, 2, 45),
  (⟨"NamesInRowModel", "placeOf", "(II)I"⟩, prog_9_method_13_code, 4, some .int, 7, 2, false, 0, 0),
  (⟨"NamesInRowModel", "name", "(II)I"⟩, prog_9_method_14_code, 3, some .int, 7, 2, false, 2, 45),
  (⟨"NamesInRowModel", "unname", "(I)I"⟩, prog_9_method_15_code, 3, some .int, 7, 1, false, 2, 45),
  (⟨"NamesInRowModel", "at", "(II)I"⟩, prog_9_method_16_code, 3, some .int, 7, 2, false, 2, 45),
  (⟨"NamesInRowModel", "swap", "(II)I"⟩, prog_9_method_17_code, 5, some .int, 7, 2, false, 2, 45),
  (⟨"NamesInRowModel", "allHours", "(I)I"⟩, prog_9_method_18_code, 4, some .int, 7, 1, false, 0, 0),
  (⟨"NamesInRowModel", "isDone", "(I)Z"⟩, prog_9_method_19_code, 2, some .boolean, 7, 1, false, 1, 23),
  (⟨"NamesInRowModel", "layShares", "(I)V"⟩, prog_9_method_20_code, 7, none, 7, 1, false, 2, 44),
  (⟨"NamesInRowModel", "share", "(IIZ)J"⟩, prog_9_method_21_code, 4, some .long, 7, 3, false, 3, 70)]
def mT_6 : List mRow := [(⟨"NamesInRowModel", "isGift", "(IIZ)Z"⟩, prog_9_method_22_code, 5, some .boolean, 7, 3, false, 1, 23),
  (⟨"NamesInRowModel", "gifts", "(IZ)I"⟩, prog_9_method_23_code, 5, some .int, 7, 2, false, 3, 70),
  (⟨"NamesInRowModel", "gift", "(IZI)I"⟩, prog_9_method_24_code, 7, some .int, 7, 3, false, 3, 70),
  (⟨"NamesInRowModel", "room", "(II)I"⟩, prog_9_method_25_code, 4, some .int, 7, 2, false, 2, 45),
  (⟨"NamesInRowModel", "comesAhead", "(IIZ)Z"⟩, prog_9_method_26_code, 4, some .boolean, 7, 3, false, 0, 0),
  (⟨"NamesInRowModel", "laySorted", "(IZ)V"⟩, prog_9_method_27_code, 6, none, 7, 2, false, 3, 70),
  (⟨"NamesInRowModel", "layDue", "(II)V"⟩, prog_9_method_28_code, 9, none, 7, 2, false, 4, 95),
  (⟨"NamesInRowModel", "due", "(III)I"⟩, prog_9_method_29_code, 4, some .int, 7, 3, false, 5, 123),
  (⟨"NamesInRowModel", "fitsOf", "(I)I"⟩, prog_9_method_30_code, 6, some .int, 7, 1, false, 5, 123),
  (⟨"NamesInRowModel", "fits", "(I)I"⟩, prog_9_method_31_code, 2, some .int, 7, 1, false, 6, 148),
  (⟨"NamesInRowModel", "learn", "(I)I"⟩, prog_9_method_32_code, 4, some .int, 7, 1, false, 6, 148),
  (⟨"NamesInRowModel", "off", "(II)I"⟩, prog_9_method_33_code, 6, some .int, 7, 2, false, 5, 123),
  (⟨"NamesInRowModel", "falling", "(I)J"⟩, prog_9_method_34_code, 4, some .long, 7, 1, true, 0, 0),
  (⟨"NamesInRowModel", "layWorth", "(III)V"⟩, prog_9_method_35_code, 5, none, 7, 3, false, 3, 70),
  (⟨"NamesInRowModel", "worth", "(IIIZ)J"⟩, prog_9_method_36_code, 5, some .long, 7, 4, false, 4, 94),
  (⟨"NamesInRowModel", "layScores", "(I)V"⟩, prog_9_method_37_code, 11, none, 7, 1, false, 4, 94),
  (⟨"NamesInRowModel", "score", "(IIZ)J"⟩, prog_9_method_38_code, 4, some .long, 7, 3, false, 5, 124),
  (⟨"NamesInRowModel", "isAhead", "(II)Z"⟩, prog_9_method_39_code, 3, some .boolean, 7, 2, false, 0, 0),
  (⟨"NamesInRowModel", "ahead", "(II)I"⟩, prog_9_method_40_code, 5, some .int, 7, 2, false, 5, 124),
  (⟨"NamesInRowModel", "rank", "(II)I"⟩, prog_9_method_41_code, 6, some .int, 7, 2, false, 5, 124)]
def mT_7 : List mRow := [(⟨"NamesInRowModel", "claim", "(III)I"⟩, prog_9_method_42_code, 5, some .int, 7, 3, false, 2, 45),
  (⟨"NamesInRowModel", "allClaims", "(I)I"⟩, prog_9_method_43_code, 4, some .int, 7, 1, false, 0, 0),
  (⟨"NamesInRowModel", "over", "(I)I"⟩, prog_9_method_44_code, 2, some .int, 7, 1, false, 2, 45),
  (⟨"NamesInRowModel", "layGets", "(II)V"⟩, prog_9_method_45_code, 5, none, 7, 2, false, 4, 101),
  (⟨"NamesInRowModel", "rankOf", "(II)I"⟩, prog_9_method_46_code, 6, some .int, 7, 2, false, 0, 0),
  (⟨"NamesInRowModel", "claimAt", "(II)I"⟩, prog_9_method_47_code, 4, some .int, 7, 2, false, 1, 25),
  (⟨"NamesInRowModel", "sumOfFirst", "(II)I"⟩, prog_9_method_48_code, 5, some .int, 7, 2, false, 2, 48),
  (⟨"NamesInRowModel", "isCap", "(II)Z"⟩, prog_9_method_49_code, 4, some .boolean, 7, 2, false, 3, 72),
  (⟨"NamesInRowModel", "isLoss", "(II)Z"⟩, prog_9_method_50_code, 4, some .boolean, 7, 2, false, 3, 72),
  (⟨"NamesInRowModel", "layCut", "(III)V"⟩, prog_9_method_51_code, 10, none, 7, 3, false, 3, 72),
  (⟨"NamesInRowModel", "gets", "(IIIZ)J"⟩, prog_9_method_52_code, 5, some .long, 7, 4, false, 5, 125),
  (⟨"NamesInRowModel", "layUnfair", "(II)V"⟩, prog_9_method_53_code, 6, none, 7, 2, false, 5, 125),
  (⟨"NamesInRowModel", "unfair", "(IIZ)J"⟩, prog_9_method_54_code, 4, some .long, 7, 3, false, 6, 150),
  (⟨"NamesInRowModel", "isLess", "(JJJJ)Z"⟩, prog_9_method_55_code, 23, some .boolean, 7, 4, true, 0, 0),
  (⟨"NamesInRowModel", "fairest", "(I)I"⟩, prog_9_method_56_code, 8, some .int, 7, 1, false, 6, 150),
  (⟨"NamesInRowModel", "mind", "(III)I"⟩, prog_9_method_57_code, 5, some .int, 7, 3, false, 2, 45),
  (⟨"NamesInRowModel", "bear", "(II)I"⟩, prog_9_method_58_code, 4, some .int, 7, 2, false, 2, 45),
  (⟨"NamesInRowModel", "mindAt", "(I)I"⟩, prog_9_method_59_code, 4, some .int, 7, 1, false, 0, 0),
  (⟨"NamesInRowModel", "quarrel", "(IZ)I"⟩, prog_9_method_60_code, 6, some .int, 7, 2, false, 2, 45),
  (⟨"NamesInRowModel", "layPeace", "(I)V"⟩, prog_9_method_61_code, 4, none, 7, 1, false, 2, 47)]
def mT_8 : List mRow := [(⟨"NamesInRowModel", "weighOrder", "()V"⟩, prog_9_method_62_code, 5, none, 7, 0, false, 1, 23),
  (⟨"NamesInRowModel", "peace", "(I)I"⟩, prog_9_method_63_code, 2, some .int, 7, 1, false, 3, 70),
  (⟨"NamesInRowModel", "peaceAt", "(II)I"⟩, prog_9_method_64_code, 3, some .int, 7, 2, false, 3, 70),
  (⟨"NamesInRowModel", "settle", "(I)I"⟩, prog_9_method_65_code, 5, some .int, 7, 1, false, 3, 70),
  (⟨"NamesInRowModel", "owedOf", "(II)I"⟩, prog_9_method_66_code, 7, some .int, 7, 2, false, 4, 95),
  (⟨"NamesInRowModel", "owed", "(II)I"⟩, prog_9_method_67_code, 3, some .int, 7, 2, false, 5, 121),
  (⟨"NamesInRowModel", "next", "(III)I"⟩, prog_9_method_68_code, 8, some .int, 7, 3, false, 5, 121),
  (⟨"NamesInRowModel", "costOf", "(II)I"⟩, prog_9_method_69_code, 5, some .int, 7, 2, false, 0, 0),
  (⟨"NamesInRowModel", "ones", "(I)I"⟩, prog_9_method_70_code, 1, some .int, 7, 1, true, 0, 0),
  (⟨"NamesInRowModel", "keptOf", "(II)I"⟩, prog_9_method_71_code, 9, some .int, 7, 2, false, 2, 44),
  (⟨"NamesInRowModel", "keep", "(II)I"⟩, prog_9_method_72_code, 3, some .int, 7, 2, false, 3, 72),
  (⟨"NamesInRowModel", "cost", "(II)I"⟩, prog_9_method_73_code, 3, some .int, 7, 2, false, 3, 72),
  (⟨"NamesInRowModel", "count", "(I)I"⟩, prog_9_method_74_code, 7, some .int, 7, 1, false, 2, 44),
  (⟨"java/lang/Integer", "bitCount", "(I)I"⟩, prog_10_method_49_code, 1, some .int, 9, 1, true, 0, 0),
  (⟨"java/lang/Math", "abs", "(J)J"⟩, prog_11_method_61_code, 2, some .long, 10, 1, true, 0, 0),
  (⟨"java/lang/Math", "max", "(II)I"⟩, prog_11_method_65_code, 2, some .int, 10, 2, true, 0, 0),
  (⟨"java/lang/Math", "min", "(II)I"⟩, prog_11_method_69_code, 2, some .int, 10, 2, true, 0, 0),
  (⟨"NamesInRowLaw", "law", "([I)Z"⟩, code, 4, some .boolean, 8, 1, true, 7, 177)]
def mT : List mRow := mT_0 ++ (mT_1 ++ (mT_2 ++ (mT_3 ++ (mT_4 ++ (mT_5 ++ (mT_6 ++ (mT_7 ++ (mT_8))))))))
def fTb : List ((Nat × Nat) × Nat × Nat) := [((5, 9), 5, 0), ((4, 41), 5, 0), ((3, 38), 5, 0), ((0, 50), 5, 0), ((5, 15), 5, 1), ((4, 30), 5, 1), ((0, 43), 5, 1), ((3, 34), 5, 1), ((6, 98), 5, 1), ((4, 12), 4, 0), ((0, 29), 4, 0), ((6, 170), 4, 0), ((4, 18), 4, 1), ((0, 12), 0, 0), ((0, 21), 0, 1), ((1, 9), 1, 0), ((6, 204), 1, 0), ((1, 15), 1, 1), ((6, 207), 1, 1), ((1, 19), 1, 2), ((3, 11), 3, 0), ((6, 214), 3, 0), ((3, 16), 3, 1), ((6, 217), 3, 1), ((3, 23), 3, 2), ((6, 232), 3, 2), ((3, 27), 3, 3), ((6, 58), 2, 0), ((2, 9), 2, 1), ((6, 69), 2, 1), ((2, 15), 2, 2), ((6, 72), 2, 2), ((2, 20), 2, 3), ((6, 81), 2, 3), ((2, 23), 2, 4), ((6, 190), 2, 4), ((2, 29), 2, 5), ((0, 47), 2, 5), ((6, 85), 2, 5), ((2, 41), 2, 6), ((6, 258), 2, 6), ((2, 45), 2, 7), ((2, 33), 2, 8), ((1, 49), 2, 8), ((0, 54), 2, 8), ((6, 110), 2, 8), ((2, 37), 2, 9), ((1, 43), 2, 9), ((6, 114), 2, 9), ((6, 11), 6, 0), ((6, 15), 6, 1), ((6, 19), 6, 2), ((6, 25), 6, 3), ((6, 32), 6, 4), ((6, 39), 6, 5), ((6, 46), 6, 6), ((7, 7), 7, 0), ((7, 13), 7, 1), ((7, 16), 7, 2), ((7, 19), 7, 3), ((7, 22), 7, 4), ((7, 25), 7, 5), ((7, 28), 7, 6), ((7, 112), 7, 7), ((7, 32), 7, 8), ((7, 35), 7, 9), ((7, 38), 7, 10), ((7, 146), 7, 11), ((7, 149), 7, 12), ((7, 41), 7, 13), ((7, 44), 7, 14), ((7, 47), 7, 15), ((7, 50), 7, 16), ((7, 178), 7, 17), ((7, 202), 7, 18), ((7, 205), 7, 19), ((7, 53), 7, 20), ((7, 56), 7, 21), ((7, 59), 7, 22), ((7, 62), 7, 23), ((7, 224), 7, 24), ((7, 220), 7, 25), ((7, 65), 7, 26)]
def mTb : List ((Nat × Nat) × Nat × Bool) := [((8, 13), 44, false), ((6, 51), 91, false), ((6, 55), 93, false), ((8, 18), 45, false), ((6, 62), 92, false), ((6, 65), 89, false), ((6, 75), 13, false), ((2, 48), 16, false), ((2, 52), 14, false), ((2, 56), 98, true), ((2, 60), 15, false), ((8, 23), 46, false), ((6, 78), 90, false), ((8, 27), 47, false), ((6, 89), 37, false), ((5, 19), 36, false), ((6, 94), 38, false), ((8, 31), 48, false), ((8, 36), 49, false), ((6, 101), 35, false), ((8, 40), 50, false), ((6, 105), 39, false), ((8, 44), 51, false), ((6, 118), 99, false), ((6, 270), 100, false), ((8, 49), 52, false), ((6, 122), 54, false), ((6, 126), 19, false), ((2, 64), 90, true), ((2, 73), 37, false), ((6, 129), 18, false), ((2, 70), 35, false), ((8, 54), 53, false), ((8, 59), 55, false), ((8, 63), 56, false), ((6, 132), 94, false), ((6, 135), 60, false), ((6, 147), 0, false), ((0, 25), 1, false), ((0, 58), 33, false), ((4, 22), 90, true), ((4, 26), 38, false), ((4, 34), 34, false), ((4, 38), 39, false), ((0, 32), 40, false), ((0, 36), 2, false), ((0, 62), 36, false), ((0, 66), 39, false), ((0, 40), 3, false), ((8, 68), 57, false), ((6, 139), 61, false), ((6, 151), 42, false), ((5, 23), 35, false), ((8, 72), 58, false), ((8, 76), 59, false), ((6, 143), 43, false), ((8, 80), 62, false), ((6, 154), 95, false), ((6, 159), 67, false), ((6, 178), 68, false), ((6, 181), 69, false), ((6, 184), 17, false), ((8, 85), 63, false), ((6, 166), 66, false), ((6, 175), 36, false), ((8, 89), 64, false), ((8, 93), 65, false), ((6, 171), 33, false), ((8, 97), 70, false), ((8, 101), 71, false), ((6, 193), 20, false), ((8, 105), 72, false), ((6, 197), 96, false), ((6, 200), 4, false), ((1, 22), 12, false), ((1, 26), 11, false), ((1, 30), 6, false), ((1, 33), 7, false), ((1, 37), 8, false), ((1, 61), 9, false), ((1, 65), 176, false), ((1, 40), 10, false), ((1, 68), 175, false), ((8, 109), 73, false), ((6, 210), 5, false), ((1, 55), 174, false), ((8, 113), 74, false), ((8, 117), 75, false), ((8, 121), 76, false), ((8, 125), 77, false), ((6, 220), 26, false), ((3, 41), 25, false), ((3, 30), 98, true), ((6, 223), 27, false), ((8, 129), 78, false), ((6, 226), 97, false), ((6, 229), 28, false), ((3, 45), 97, true), ((3, 49), 29, false), ((3, 56), 30, false), ((3, 59), 176, false), ((3, 52), 31, false), ((3, 64), 32, false), ((3, 67), 90, true), ((3, 70), 38, false), ((8, 133), 79, false), ((8, 137), 80, false), ((6, 235), 41, false), ((6, 238), 40, false), ((8, 141), 81, false), ((6, 242), 87, false), ((6, 266), 88, false), ((8, 145), 82, false), ((6, 245), 98, false), ((8, 149), 83, false), ((6, 248), 23, false), ((2, 76), 21, false), ((2, 79), 24, false), ((2, 82), 22, false), ((2, 85), 173, false), ((8, 153), 84, false), ((6, 251), 22, false), ((8, 157), 85, false), ((6, 254), 86, false), ((6, 261), 173, false), ((8, 17), 108, false), ((7, 84), 104, false), ((7, 74), 101, false), ((7, 88), 107, false), ((8, 22), 109, false), ((7, 91), 106, false), ((8, 26), 110, false), ((7, 98), 105, false), ((8, 30), 112, false), ((7, 101), 111, false), ((8, 35), 113, false), ((8, 39), 114, false), ((8, 43), 115, false), ((8, 48), 119, false), ((7, 118), 118, false), ((7, 109), 117, false), ((7, 105), 116, false), ((7, 122), 103, false), ((7, 68), 102, false), ((8, 53), 121, false), ((7, 126), 120, false), ((8, 58), 122, false), ((8, 62), 123, false), ((8, 67), 127, false), ((7, 137), 126, false), ((7, 133), 125, false), ((7, 130), 124, false), ((8, 71), 129, false), ((7, 141), 128, false), ((8, 75), 130, false), ((8, 79), 131, false), ((8, 84), 134, false), ((7, 162), 133, false), ((7, 152), 132, false), ((8, 88), 136, false), ((7, 166), 135, false), ((8, 92), 138, false), ((7, 169), 137, false), ((8, 96), 139, false), ((8, 100), 140, false), ((8, 104), 142, false), ((7, 175), 141, false), ((8, 108), 150, false), ((7, 199), 143, false), ((7, 181), 147, false), ((7, 196), 146, false), ((7, 193), 145, false), ((7, 190), 144, false), ((7, 184), 148, false), ((7, 187), 149, false), ((8, 112), 152, false), ((7, 208), 151, false), ((8, 116), 154, false), ((7, 211), 153, false), ((8, 120), 155, false), ((8, 124), 156, false), ((8, 128), 158, false), ((7, 217), 157, false), ((8, 132), 161, false), ((7, 232), 159, false), ((7, 227), 160, false), ((8, 136), 162, false), ((8, 140), 163, false), ((8, 144), 165, false), ((7, 235), 164, false), ((8, 148), 166, false), ((8, 152), 170, false), ((7, 244), 169, false), ((7, 238), 167, false), ((7, 241), 168, false), ((8, 156), 171, false), ((8, 160), 172, false)]
def cIb : List ((Nat × Nat) × Int32) := [((9, 265), 1431655765), ((9, 266), 858993459), ((9, 267), 252645135)]
def cLb : List ((Nat × Nat) × Int64) := [((6, 108), -1), ((6, 157), -2), ((6, 188), 2), ((2, 68), 1000), ((1, 53), 100), ((7, 72), 7), ((7, 82), 2), ((7, 80), 3), ((7, 94), 9), ((7, 96), 50), ((7, 78), 6), ((7, 116), -1), ((7, 158), 4), ((7, 160), -2), ((7, 144), 420), ((7, 156), 1000), ((7, 173), 100), ((7, 215), 60), ((7, 230), 127)]
