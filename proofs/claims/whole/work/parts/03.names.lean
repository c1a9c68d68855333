/-! ===== BEGIN printed: names, fields, word lists, decode rows ===== -/
def RX0 : String := "GoodsKeeper$Hunt"
def TX0 : u_T := fun k => match k with
  | 0 => ("GoodsKeeper$Hunt", "rows", "[[J", true)
  | 1 => ("GoodsKeeper$Hunt", "rowNames", "[I", true)
  | 2 => ("GoodsKeeper$Hunt", "columnNames", "[I", true)
  | 3 => ("GoodsKeeper$Hunt", "columns", "I", false)
  | _ => ("GoodsKeeper$Hunt", "scale", "J", false)
def tyX0 : Nat → FieldType := fun k => match k with
  | 0 => .array (.array .long)
  | 1 => .array .int
  | 2 => .array .int
  | 3 => .int
  | _ => .long
abbrev wsX00 : List Cond := u_ws RX0 TX0 5
theorem nmX0 : ∀ a, a < 5 → ∀ b, b < 5 → a ≠ b → (TX0 a).2.1 ≠ (TX0 b).2.1 := by decide +kernel
theorem tyX0_ok : ∀ k, k < 5 → parseFieldDescriptor (TX0 k).2.2.1 = some (tyX0 k) := by decide +kernel
abbrev cX0_init : ByteArray := prog_2_method_1_code
def yX0_init : MethodName := ⟨RX0, "<init>", "()V"⟩
abbrev cX0_begin : ByteArray := prog_2_method_2_code
def yX0_begin : MethodName := ⟨RX0, "begin", "()V"⟩
abbrev cX0_enter : ByteArray := prog_2_method_3_code
def yX0_enter : MethodName := ⟨RX0, "enter", "(LGoodsKeeper$Rule;)V"⟩
abbrev cX0_findsGain : ByteArray := prog_2_method_4_code
def yX0_findsGain : MethodName := ⟨RX0, "findsGain", "()Z"⟩
abbrev cX0_risingColumn : ByteArray := prog_2_method_5_code
def yX0_risingColumn : MethodName := ⟨RX0, "risingColumn", "()I"⟩
abbrev cX0_hinderingRow : ByteArray := prog_2_method_6_code
def yX0_hinderingRow : MethodName := ⟨RX0, "hinderingRow", "(I)I"⟩
abbrev cX0_exchange : ByteArray := prog_2_method_7_code
def yX0_exchange : MethodName := ⟨RX0, "exchange", "(II)V"⟩
abbrev cX0_replaceIn : ByteArray := prog_2_method_8_code
def yX0_replaceIn : MethodName := ⟨RX0, "replaceIn", "(IIIJ)V"⟩
def RX1 : String := "GoodsKeeper$Offer"
def TX1 : u_T := fun k => match k with
  | 0 => ("GoodsKeeper$Offer", "first", "LGoodsKeeper$Side;", true)
  | 1 => ("GoodsKeeper$Offer", "second", "LGoodsKeeper$Side;", true)
  | _ => ("GoodsKeeper$Offer", "open", "Z", false)
def tyX1 : Nat → FieldType := fun k => match k with
  | 0 => .object "GoodsKeeper$Side"
  | 1 => .object "GoodsKeeper$Side"
  | _ => .boolean
abbrev wsX10 : List Cond := u_ws RX1 TX1 3
theorem nmX1 : ∀ a, a < 3 → ∀ b, b < 3 → a ≠ b → (TX1 a).2.1 ≠ (TX1 b).2.1 := by decide +kernel
theorem tyX1_ok : ∀ k, k < 3 → parseFieldDescriptor (TX1 k).2.2.1 = some (tyX1 k) := by decide +kernel
abbrev cX1_init : ByteArray := prog_3_method_1_code
def yX1_init : MethodName := ⟨RX1, "<init>", "(LGoodsKeeper$Side;LGoodsKeeper$Side;)V"⟩
def RX2 : String := "GoodsKeeper$Player"
def TX2 : u_T := fun k => match k with
  | 0 => ("GoodsKeeper$Player", "number", "I", true)
  | 1 => ("GoodsKeeper$Player", "goods", "[I", true)
  | 2 => ("GoodsKeeper$Player", "latestDeed", "I", false)
  | _ => ("GoodsKeeper$Player", "latestAnswer", "I", false)
def tyX2 : Nat → FieldType := fun k => match k with
  | 0 => .int
  | 1 => .array .int
  | 2 => .int
  | _ => .int
abbrev wsX20 : List Cond := u_ws RX2 TX2 4
theorem nmX2 : ∀ a, a < 4 → ∀ b, b < 4 → a ≠ b → (TX2 a).2.1 ≠ (TX2 b).2.1 := by decide +kernel
theorem tyX2_ok : ∀ k, k < 4 → parseFieldDescriptor (TX2 k).2.2.1 = some (tyX2 k) := by decide +kernel
abbrev cX2_init : ByteArray := prog_4_method_1_code
def yX2_init : MethodName := ⟨RX2, "<init>", "(I)V"⟩
abbrev cX2_answerTo : ByteArray := prog_4_method_2_code
def yX2_answerTo : MethodName := ⟨RX2, "answerTo", "(LGoodsKeeper$Rule;I)I"⟩
def RX3 : String := "GoodsKeeper$Rule"
def TX3 : u_T := fun k => match k with
  | 0 => ("GoodsKeeper$Rule", "source", "Z", true)
  | 1 => ("GoodsKeeper$Rule", "in", "[I", true)
  | 2 => ("GoodsKeeper$Rule", "out", "[I", true)
  | _ => ("GoodsKeeper$Rule", "times", "I", false)
def tyX3 : Nat → FieldType := fun k => match k with
  | 0 => .boolean
  | 1 => .array .int
  | 2 => .array .int
  | _ => .int
abbrev wsX30 : List Cond := u_ws RX3 TX3 4
theorem nmX3 : ∀ a, a < 4 → ∀ b, b < 4 → a ≠ b → (TX3 a).2.1 ≠ (TX3 b).2.1 := by decide +kernel
theorem tyX3_ok : ∀ k, k < 4 → parseFieldDescriptor (TX3 k).2.2.1 = some (tyX3 k) := by decide +kernel
abbrev cX3_init : ByteArray := prog_5_method_1_code
def yX3_init : MethodName := ⟨RX3, "<init>", "(Z)V"⟩
abbrev cX3_won : ByteArray := prog_5_method_2_code
def yX3_won : MethodName := ⟨RX3, "won", "(I)I"⟩
def RX4 : String := "GoodsKeeper$Side"
def TX4 : u_T := fun k => match k with
  | 0 => ("GoodsKeeper$Side", "giver", "LGoodsKeeper$Player;", true)
  | 1 => ("GoodsKeeper$Side", "many", "I", true)
  | 2 => ("GoodsKeeper$Side", "kind", "I", true)
  | 3 => ("GoodsKeeper$Side", "thing", "LGoodsKeeper$Single;", true)
  | _ => ("GoodsKeeper$Side", "notedWear", "I", true)
def tyX4 : Nat → FieldType := fun k => match k with
  | 0 => .object "GoodsKeeper$Player"
  | 1 => .int
  | 2 => .int
  | 3 => .object "GoodsKeeper$Single"
  | _ => .int
abbrev wsX40 : List Cond := u_ws RX4 TX4 5
theorem nmX4 : ∀ a, a < 5 → ∀ b, b < 5 → a ≠ b → (TX4 a).2.1 ≠ (TX4 b).2.1 := by decide +kernel
theorem tyX4_ok : ∀ k, k < 5 → parseFieldDescriptor (TX4 k).2.2.1 = some (tyX4 k) := by decide +kernel
abbrev cX4_init : ByteArray := prog_6_method_1_code
def yX4_init : MethodName := ⟨RX4, "<init>", "(LGoodsKeeper$Player;IILGoodsKeeper$Single;)V"⟩
abbrev cX4_hasTooFew : ByteArray := prog_6_method_2_code
def yX4_hasTooFew : MethodName := ⟨RX4, "hasTooFew", "()Z"⟩
abbrev cX4_wouldHaveTooMany : ByteArray := prog_6_method_3_code
def yX4_wouldHaveTooMany : MethodName := ⟨RX4, "wouldHaveTooMany", "(LGoodsKeeper$Side;)Z"⟩
abbrev cX4_isWornSince : ByteArray := prog_6_method_4_code
def yX4_isWornSince : MethodName := ⟨RX4, "isWornSince", "()Z"⟩
def RX5 : String := "GoodsKeeper$Single"
def TX5 : u_T := fun k => match k with
  | 0 => ("GoodsKeeper$Single", "number", "I", true)
  | 1 => ("GoodsKeeper$Single", "bound", "Z", true)
  | 2 => ("GoodsKeeper$Single", "room", "I", true)
  | 3 => ("GoodsKeeper$Single", "linePlayers", "[I", true)
  | 4 => ("GoodsKeeper$Single", "lineDays", "[I", true)
  | 5 => ("GoodsKeeper$Single", "lineLength", "I", false)
  | 6 => ("GoodsKeeper$Single", "wear", "I", false)
  | 7 => ("GoodsKeeper$Single", "lentUntil", "I", false)
  | 8 => ("GoodsKeeper$Single", "lender", "LGoodsKeeper$Player;", false)
  | 9 => ("GoodsKeeper$Single", "owner", "LGoodsKeeper$Player;", false)
  | _ => ("GoodsKeeper$Single", "holder", "LGoodsKeeper$Single;", false)
def tyX5 : Nat → FieldType := fun k => match k with
  | 0 => .int
  | 1 => .boolean
  | 2 => .int
  | 3 => .array .int
  | 4 => .array .int
  | 5 => .int
  | 6 => .int
  | 7 => .int
  | 8 => .object "GoodsKeeper$Player"
  | 9 => .object "GoodsKeeper$Player"
  | _ => .object "GoodsKeeper$Single"
abbrev wsX50 : List Cond := u_ws RX5 TX5 11
theorem nmX5 : ∀ a, a < 11 → ∀ b, b < 11 → a ≠ b → (TX5 a).2.1 ≠ (TX5 b).2.1 := by decide +kernel
theorem tyX5_ok : ∀ k, k < 11 → parseFieldDescriptor (TX5 k).2.2.1 = some (tyX5 k) := by decide +kernel
abbrev cX5_init : ByteArray := prog_7_method_1_code
def yX5_init : MethodName := ⟨RX5, "<init>", "(IZI)V"⟩
abbrev cX5_isBroken : ByteArray := prog_7_method_2_code
def yX5_isBroken : MethodName := ⟨RX5, "isBroken", "()Z"⟩
abbrev cX5_isLent : ByteArray := prog_7_method_3_code
def yX5_isLent : MethodName := ⟨RX5, "isLent", "()Z"⟩
abbrev cX5_passTo : ByteArray := prog_7_method_4_code
def yX5_passTo : MethodName := ⟨RX5, "passTo", "(LGoodsKeeper$Player;I)V"⟩
abbrev cX5_endLoan : ByteArray := prog_7_method_5_code
def yX5_endLoan : MethodName := ⟨RX5, "endLoan", "()V"⟩
abbrev cX5_liesWithin : ByteArray := prog_7_method_6_code
def yX5_liesWithin : MethodName := ⟨RX5, "liesWithin", "(LGoodsKeeper$Single;)Z"⟩
def RX6 : String := "GoodsKeeper$Things"
def TX6 : u_T := fun k => match k with
  | _ => ("GoodsKeeper$Things", "singles", "Ljava/util/ArrayList;", true)
def tyX6 : Nat → FieldType := fun k => match k with
  | _ => .object "java/util/ArrayList"
abbrev wsX60 : List Cond := u_ws RX6 TX6 1
theorem nmX6 : ∀ a, a < 1 → ∀ b, b < 1 → a ≠ b → (TX6 a).2.1 ≠ (TX6 b).2.1 := by decide +kernel
theorem tyX6_ok : ∀ k, k < 1 → parseFieldDescriptor (TX6 k).2.2.1 = some (tyX6 k) := by decide +kernel
abbrev cX6_init : ByteArray := prog_8_method_1_code
def yX6_init : MethodName := ⟨RX6, "<init>", "()V"⟩
abbrev cX6_size : ByteArray := prog_8_method_2_code
def yX6_size : MethodName := ⟨RX6, "size", "()I"⟩
abbrev cX6_add : ByteArray := prog_8_method_3_code
def yX6_add : MethodName := ⟨RX6, "add", "(LGoodsKeeper$Single;)V"⟩
abbrev cX6_at : ByteArray := prog_8_method_4_code
def yX6_at : MethodName := ⟨RX6, "at", "(I)LGoodsKeeper$Single;"⟩
abbrev cX6_mayLieIn : ByteArray := prog_8_method_5_code
def yX6_mayLieIn : MethodName := ⟨RX6, "mayLieIn", "(LGoodsKeeper$Single;LGoodsKeeper$Single;)Z"⟩
abbrev cX6_mayLeave : ByteArray := prog_8_method_6_code
def yX6_mayLeave : MethodName := ⟨RX6, "mayLeave", "(LGoodsKeeper$Single;)Z"⟩
abbrev cX6_passOn : ByteArray := prog_8_method_7_code
def yX6_passOn : MethodName := ⟨RX6, "passOn", "(LGoodsKeeper$Single;LGoodsKeeper$Player;I)V"⟩
abbrev cX6_breakUp : ByteArray := prog_8_method_8_code
def yX6_breakUp : MethodName := ⟨RX6, "breakUp", "(LGoodsKeeper$Single;)V"⟩
abbrev cX6_bringBack : ByteArray := prog_8_method_9_code
def yX6_bringBack : MethodName := ⟨RX6, "bringBack", "(I)V"⟩
abbrev cX6_nextDue : ByteArray := prog_8_method_10_code
def yX6_nextDue : MethodName := ⟨RX6, "nextDue", "(I)LGoodsKeeper$Single;"⟩
abbrev cX6_rightWithin : ByteArray := prog_8_method_11_code
def yX6_rightWithin : MethodName := ⟨RX6, "rightWithin", "(LGoodsKeeper$Single;)I"⟩
abbrev cX6_allWithin : ByteArray := prog_8_method_12_code
def yX6_allWithin : MethodName := ⟨RX6, "allWithin", "(LGoodsKeeper$Single;)I"⟩
abbrev cX6_countBroken : ByteArray := prog_8_method_13_code
def yX6_countBroken : MethodName := ⟨RX6, "countBroken", "()I"⟩
abbrev cX6_countLent : ByteArray := prog_8_method_14_code
def yX6_countLent : MethodName := ⟨RX6, "countLent", "()I"⟩
abbrev cX6_goesWith : ByteArray := prog_8_method_15_code
def yX6_goesWith : MethodName := ⟨RX6, "goesWith", "(LGoodsKeeper$Single;LGoodsKeeper$Single;)Z"⟩
def RX7 : String := "GoodsKeeper"
def TX7 : u_T := fun k => match k with
  | 0 => ("GoodsKeeper", "players", "Ljava/util/ArrayList;", true)
  | 1 => ("GoodsKeeper", "rules", "Ljava/util/ArrayList;", true)
  | 2 => ("GoodsKeeper", "offers", "Ljava/util/ArrayList;", true)
  | 3 => ("GoodsKeeper", "things", "LGoodsKeeper$Things;", true)
  | 4 => ("GoodsKeeper", "hunt", "LGoodsKeeper$Hunt;", true)
  | 5 => ("GoodsKeeper", "weights", "[I", true)
  | 6 => ("GoodsKeeper", "allMade", "[J", true)
  | 7 => ("GoodsKeeper", "allBroken", "[J", true)
  | 8 => ("GoodsKeeper", "deedsDone", "I", false)
  | _ => ("GoodsKeeper", "today", "I", false)
def tyX7 : Nat → FieldType := fun k => match k with
  | 0 => .object "java/util/ArrayList"
  | 1 => .object "java/util/ArrayList"
  | 2 => .object "java/util/ArrayList"
  | 3 => .object "GoodsKeeper$Things"
  | 4 => .object "GoodsKeeper$Hunt"
  | 5 => .array .int
  | 6 => .array .long
  | 7 => .array .long
  | 8 => .int
  | _ => .int
abbrev wsX70 : List Cond := u_ws RX7 TX7 10
theorem nmX7 : ∀ a, a < 10 → ∀ b, b < 10 → a ≠ b → (TX7 a).2.1 ≠ (TX7 b).2.1 := by decide +kernel
theorem tyX7_ok : ∀ k, k < 10 → parseFieldDescriptor (TX7 k).2.2.1 = some (tyX7 k) := by decide +kernel
abbrev cX7_init : ByteArray := prog_1_method_1_code
def yX7_init : MethodName := ⟨RX7, "<init>", "()V"⟩
abbrev cX7_player : ByteArray := prog_1_method_2_code
def yX7_player : MethodName := ⟨RX7, "player", "()I"⟩
abbrev cX7_rule : ByteArray := prog_1_method_3_code
def yX7_rule : MethodName := ⟨RX7, "rule", "(Z)I"⟩
abbrev cX7_part : ByteArray := prog_1_method_4_code
def yX7_part : MethodName := ⟨RX7, "part", "(IIZI)V"⟩
abbrev cX7_deed : ByteArray := prog_1_method_5_code
def yX7_deed : MethodName := ⟨RX7, "deed", "(IIII)I"⟩
abbrev cX7_has : ByteArray := prog_1_method_6_code
def yX7_has : MethodName := ⟨RX7, "has", "(II)I"⟩
abbrev cX7_sum : ByteArray := prog_1_method_7_code
def yX7_sum : MethodName := ⟨RX7, "sum", "(IZ)J"⟩
abbrev cX7_carryOut : ByteArray := prog_1_method_8_code
def yX7_carryOut : MethodName := ⟨RX7, "carryOut", "(LGoodsKeeper$Player;LGoodsKeeper$Rule;I)V"⟩
abbrev cX7_single : ByteArray := prog_1_method_9_code
def yX7_single : MethodName := ⟨RX7, "single", "(IZI)I"⟩
abbrev cX7_put : ByteArray := prog_1_method_10_code
def yX7_put : MethodName := ⟨RX7, "put", "(II)Z"⟩
abbrev cX7_take : ByteArray := prog_1_method_11_code
def yX7_take : MethodName := ⟨RX7, "take", "(I)Z"⟩
abbrev cX7_give : ByteArray := prog_1_method_12_code
def yX7_give : MethodName := ⟨RX7, "give", "(II)Z"⟩
abbrev cX7_lend : ByteArray := prog_1_method_13_code
def yX7_lend : MethodName := ⟨RX7, "lend", "(III)Z"⟩
abbrev cX7_wear : ByteArray := prog_1_method_14_code
def yX7_wear : MethodName := ⟨RX7, "wear", "(II)I"⟩
abbrev cX7_days : ByteArray := prog_1_method_15_code
def yX7_days : MethodName := ⟨RX7, "days", "(I)I"⟩
abbrev cX7_look : ByteArray := prog_1_method_16_code
def yX7_look : MethodName := ⟨RX7, "look", "(II)I"⟩
abbrev cX7_line : ByteArray := prog_1_method_17_code
def yX7_line : MethodName := ⟨RX7, "line", "(IIZ)I"⟩
abbrev cX7_offer : ByteArray := prog_1_method_18_code
def yX7_offer : MethodName := ⟨RX7, "offer", "(IIIIIIII)I"⟩
abbrev cX7_agree : ByteArray := prog_1_method_19_code
def yX7_agree : MethodName := ⟨RX7, "agree", "(I)I"⟩
abbrev cX7_withdraw : ByteArray := prog_1_method_20_code
def yX7_withdraw : MethodName := ⟨RX7, "withdraw", "(I)Z"⟩
abbrev cX7_sideOf : ByteArray := prog_1_method_21_code
def yX7_sideOf : MethodName := ⟨RX7, "sideOf", "(IIII)LGoodsKeeper$Side;"⟩
abbrev cX7_answerTo : ByteArray := prog_1_method_22_code
def yX7_answerTo : MethodName := ⟨RX7, "answerTo", "(LGoodsKeeper$Offer;)I"⟩
abbrev cX7_mayHandOver : ByteArray := prog_1_method_23_code
def yX7_mayHandOver : MethodName := ⟨RX7, "mayHandOver", "(LGoodsKeeper$Side;)Z"⟩
abbrev cX7_trade : ByteArray := prog_1_method_24_code
def yX7_trade : MethodName := ⟨RX7, "trade", "(LGoodsKeeper$Side;LGoodsKeeper$Side;)V"⟩
abbrev cX7_gains : ByteArray := prog_1_method_25_code
def yX7_gains : MethodName := ⟨RX7, "gains", "()Z"⟩
abbrev cX7_times : ByteArray := prog_1_method_26_code
def yX7_times : MethodName := ⟨RX7, "times", "(II)V"⟩
abbrev cX7_earns : ByteArray := prog_1_method_27_code
def yX7_earns : MethodName := ⟨RX7, "earns", "()Z"⟩
abbrev cX7_weigh : ByteArray := prog_1_method_28_code
def yX7_weigh : MethodName := ⟨RX7, "weigh", "(II)V"⟩
abbrev cX7_bars : ByteArray := prog_1_method_29_code
def yX7_bars : MethodName := ⟨RX7, "bars", "()Z"⟩
abbrev cX7_wonByTimes : ByteArray := prog_1_method_30_code
def yX7_wonByTimes : MethodName := ⟨RX7, "wonByTimes", "(I)I"⟩
abbrev cX7_weightWonBy : ByteArray := prog_1_method_31_code
def yX7_weightWonBy : MethodName := ⟨RX7, "weightWonBy", "(LGoodsKeeper$Rule;)I"⟩
abbrev cX7_count : ByteArray := prog_1_method_32_code
def yX7_count : MethodName := ⟨RX7, "count", "(I)I"⟩
abbrev cX7_countOpen : ByteArray := prog_1_method_33_code
def yX7_countOpen : MethodName := ⟨RX7, "countOpen", "()I"⟩
abbrev cX7_playerAt : ByteArray := prog_1_method_34_code
def yX7_playerAt : MethodName := ⟨RX7, "playerAt", "(I)LGoodsKeeper$Player;"⟩
abbrev cX7_ruleAt : ByteArray := prog_1_method_35_code
def yX7_ruleAt : MethodName := ⟨RX7, "ruleAt", "(I)LGoodsKeeper$Rule;"⟩
abbrev cX7_offerAt : ByteArray := prog_1_method_36_code
def yX7_offerAt : MethodName := ⟨RX7, "offerAt", "(I)LGoodsKeeper$Offer;"⟩
abbrev cX7_checkKind : ByteArray := prog_1_method_37_code
def yX7_checkKind : MethodName := ⟨RX7, "checkKind", "(I)V"⟩
abbrev cX7_checkRange : ByteArray := prog_1_method_38_code
def yX7_checkRange : MethodName := ⟨RX7, "checkRange", "(III)V"⟩
abbrev cX7_numberOf : ByteArray := prog_1_method_39_code
def yX7_numberOf : MethodName := ⟨RX7, "numberOf", "(LGoodsKeeper$Player;)I"⟩
def RX8 : String := "GoodsKeeperModel"
def TX8 : u_T := fun k => match k with
  | 0 => ("GoodsKeeperModel", "thrown", "I", false)
  | 1 => ("GoodsKeeperModel", "today", "I", false)
  | 2 => ("GoodsKeeperModel", "goods", "[I", true)
  | 3 => ("GoodsKeeperModel", "latest", "[I", true)
  | 4 => ("GoodsKeeperModel", "answer", "[I", true)
  | 5 => ("GoodsKeeperModel", "players", "I", false)
  | 6 => ("GoodsKeeperModel", "done", "I", false)
  | 7 => ("GoodsKeeperModel", "takes", "[I", true)
  | 8 => ("GoodsKeeperModel", "gives", "[I", true)
  | 9 => ("GoodsKeeperModel", "isSource", "[Z", true)
  | 10 => ("GoodsKeeperModel", "times", "[I", true)
  | 11 => ("GoodsKeeperModel", "weight", "[I", true)
  | 12 => ("GoodsKeeperModel", "rules", "I", false)
  | 13 => ("GoodsKeeperModel", "made", "[J", true)
  | 14 => ("GoodsKeeperModel", "broke", "[J", true)
  | 15 => ("GoodsKeeperModel", "wear", "[I", true)
  | 16 => ("GoodsKeeperModel", "isBound", "[Z", true)
  | 17 => ("GoodsKeeperModel", "room", "[I", true)
  | 18 => ("GoodsKeeperModel", "holder", "[I", true)
  | 19 => ("GoodsKeeperModel", "owner", "[I", true)
  | 20 => ("GoodsKeeperModel", "until", "[I", true)
  | 21 => ("GoodsKeeperModel", "lender", "[I", true)
  | 22 => ("GoodsKeeperModel", "lineWho", "[I", true)
  | 23 => ("GoodsKeeperModel", "lineDay", "[I", true)
  | 24 => ("GoodsKeeperModel", "lineMany", "[I", true)
  | 25 => ("GoodsKeeperModel", "singles", "I", false)
  | 26 => ("GoodsKeeperModel", "offer", "[I", true)
  | 27 => ("GoodsKeeperModel", "isOpen", "[Z", true)
  | 28 => ("GoodsKeeperModel", "offers", "I", false)
  | 29 => ("GoodsKeeperModel", "some", "[I", true)
  | 30 => ("GoodsKeeperModel", "someMany", "I", false)
  | 31 => ("GoodsKeeperModel", "bound", "[I", true)
  | _ => ("GoodsKeeperModel", "ray", "[J", true)
def tyX8 : Nat → FieldType := fun k => match k with
  | 0 => .int
  | 1 => .int
  | 2 => .array .int
  | 3 => .array .int
  | 4 => .array .int
  | 5 => .int
  | 6 => .int
  | 7 => .array .int
  | 8 => .array .int
  | 9 => .array .boolean
  | 10 => .array .int
  | 11 => .array .int
  | 12 => .int
  | 13 => .array .long
  | 14 => .array .long
  | 15 => .array .int
  | 16 => .array .boolean
  | 17 => .array .int
  | 18 => .array .int
  | 19 => .array .int
  | 20 => .array .int
  | 21 => .array .int
  | 22 => .array .int
  | 23 => .array .int
  | 24 => .array .int
  | 25 => .int
  | 26 => .array .int
  | 27 => .array .boolean
  | 28 => .int
  | 29 => .array .int
  | 30 => .int
  | 31 => .array .int
  | _ => .array .long
abbrev wsX80 : List Cond := u_ws RX8 TX8 33
theorem nmX8 : ∀ a, a < 33 → ∀ b, b < 33 → a ≠ b → (TX8 a).2.1 ≠ (TX8 b).2.1 := by decide +kernel
theorem tyX8_ok : ∀ k, k < 33 → parseFieldDescriptor (TX8 k).2.2.1 = some (tyX8 k) := by decide +kernel
abbrev cX8_init : ByteArray := prog_10_method_1_code
def yX8_init : MethodName := ⟨RX8, "<init>", "()V"⟩
abbrev cX8_thrown : ByteArray := prog_10_method_2_code
def yX8_thrown : MethodName := ⟨RX8, "thrown", "()I"⟩
abbrev cX8_throwsIf : ByteArray := prog_10_method_3_code
def yX8_throwsIf : MethodName := ⟨RX8, "throwsIf", "(ZI)Z"⟩
abbrev cX8_in : ByteArray := prog_10_method_4_code
def yX8_in : MethodName := ⟨RX8, "in", "(JJJ)Z"⟩
abbrev cX8_noPlayer : ByteArray := prog_10_method_5_code
def yX8_noPlayer : MethodName := ⟨RX8, "noPlayer", "(I)Z"⟩
abbrev cX8_noRule : ByteArray := prog_10_method_6_code
def yX8_noRule : MethodName := ⟨RX8, "noRule", "(I)Z"⟩
abbrev cX8_noSingle : ByteArray := prog_10_method_7_code
def yX8_noSingle : MethodName := ⟨RX8, "noSingle", "(I)Z"⟩
abbrev cX8_noKind : ByteArray := prog_10_method_8_code
def yX8_noKind : MethodName := ⟨RX8, "noKind", "(I)Z"⟩
abbrev cX8_player : ByteArray := prog_10_method_9_code
def yX8_player : MethodName := ⟨RX8, "player", "()I"⟩
abbrev cX8_rule : ByteArray := prog_10_method_10_code
def yX8_rule : MethodName := ⟨RX8, "rule", "(Z)I"⟩
abbrev cX8_part : ByteArray := prog_10_method_11_code
def yX8_part : MethodName := ⟨RX8, "part", "(IIZI)V"⟩
abbrev cX8_does : ByteArray := prog_10_method_12_code
def yX8_does : MethodName := ⟨RX8, "does", "(III)I"⟩
abbrev cX8_deed : ByteArray := prog_10_method_13_code
def yX8_deed : MethodName := ⟨RX8, "deed", "(IIII)I"⟩
abbrev cX8_has : ByteArray := prog_10_method_14_code
def yX8_has : MethodName := ⟨RX8, "has", "(II)I"⟩
abbrev cX8_sum : ByteArray := prog_10_method_15_code
def yX8_sum : MethodName := ⟨RX8, "sum", "(IZ)J"⟩
abbrev cX8_isWithin : ByteArray := prog_10_method_16_code
def yX8_isWithin : MethodName := ⟨RX8, "isWithin", "(II)Z"⟩
abbrev cX8_right : ByteArray := prog_10_method_17_code
def yX8_right : MethodName := ⟨RX8, "right", "(I)I"⟩
abbrev cX8_isBroken : ByteArray := prog_10_method_18_code
def yX8_isBroken : MethodName := ⟨RX8, "isBroken", "(I)Z"⟩
abbrev cX8_isLent : ByteArray := prog_10_method_19_code
def yX8_isLent : MethodName := ⟨RX8, "isLent", "(I)Z"⟩
abbrev cX8_lines : ByteArray := prog_10_method_20_code
def yX8_lines : MethodName := ⟨RX8, "lines", "(II)V"⟩
abbrev cX8_single : ByteArray := prog_10_method_21_code
def yX8_single : MethodName := ⟨RX8, "single", "(IZI)I"⟩
abbrev cX8_put : ByteArray := prog_10_method_22_code
def yX8_put : MethodName := ⟨RX8, "put", "(II)Z"⟩
abbrev cX8_take : ByteArray := prog_10_method_23_code
def yX8_take : MethodName := ⟨RX8, "take", "(I)Z"⟩
abbrev cX8_mayGo : ByteArray := prog_10_method_24_code
def yX8_mayGo : MethodName := ⟨RX8, "mayGo", "(I)Z"⟩
abbrev cX8_goes : ByteArray := prog_10_method_25_code
def yX8_goes : MethodName := ⟨RX8, "goes", "(II)V"⟩
abbrev cX8_give : ByteArray := prog_10_method_26_code
def yX8_give : MethodName := ⟨RX8, "give", "(II)Z"⟩
abbrev cX8_lend : ByteArray := prog_10_method_27_code
def yX8_lend : MethodName := ⟨RX8, "lend", "(III)Z"⟩
abbrev cX8_wear : ByteArray := prog_10_method_28_code
def yX8_wear : MethodName := ⟨RX8, "wear", "(II)I"⟩
abbrev cX8_days : ByteArray := prog_10_method_29_code
def yX8_days : MethodName := ⟨RX8, "days", "(I)I"⟩
abbrev cX8_look : ByteArray := prog_10_method_30_code
def yX8_look : MethodName := ⟨RX8, "look", "(II)I"⟩
abbrev cX8_line : ByteArray := prog_10_method_31_code
def yX8_line : MethodName := ⟨RX8, "line", "(IIZ)I"⟩
abbrev cX8_offer : ByteArray := prog_10_method_32_code
def yX8_offer : MethodName := ⟨RX8, "offer", "(IIIIIIII)I"⟩
abbrev cX8_after : ByteArray := prog_10_method_33_code
def yX8_after : MethodName := ⟨RX8, "after", "(IIIII)I"⟩
abbrev cX8_against : ByteArray := prog_10_method_34_code
def yX8_against : MethodName := ⟨RX8, "against", "(I)I"⟩
abbrev cX8_agree : ByteArray := prog_10_method_35_code
def yX8_agree : MethodName := ⟨RX8, "agree", "(I)I"⟩
abbrev cX8_withdraw : ByteArray := prog_10_method_36_code
def yX8_withdraw : MethodName := ⟨RX8, "withdraw", "(I)Z"⟩
abbrev cX8_leaves : ByteArray := prog_10_method_37_code
def yX8_leaves : MethodName := ⟨RX8, "leaves", "(II)I"⟩
abbrev cX8_bounds : ByteArray := prog_10_method_38_code
def yX8_bounds : MethodName := ⟨RX8, "bounds", "()V"⟩
abbrev cX8_two : ByteArray := prog_10_method_39_code
def yX8_two : MethodName := ⟨RX8, "two", "(IIII)J"⟩
abbrev cX8_three : ByteArray := prog_10_method_40_code
def yX8_three : MethodName := ⟨RX8, "three", "(IIIIII)J"⟩
abbrev cX8_isGain : ByteArray := prog_10_method_41_code
def yX8_isGain : MethodName := ⟨RX8, "isGain", "()Z"⟩
abbrev cX8_isGain_ : ByteArray := prog_10_method_42_code
def yX8_isGain_ : MethodName := ⟨RX8, "isGain", "(J)Z"⟩
abbrev cX8_gainsWithSome : ByteArray := prog_10_method_43_code
def yX8_gainsWithSome : MethodName := ⟨RX8, "gainsWithSome", "()Z"⟩
abbrev cX8_tries : ByteArray := prog_10_method_44_code
def yX8_tries : MethodName := ⟨RX8, "tries", "(II)Z"⟩
abbrev cX8_gains : ByteArray := prog_10_method_45_code
def yX8_gains : MethodName := ⟨RX8, "gains", "()Z"⟩
abbrev cX8_times : ByteArray := prog_10_method_46_code
def yX8_times : MethodName := ⟨RX8, "times", "(II)V"⟩
abbrev cX8_earns : ByteArray := prog_10_method_47_code
def yX8_earns : MethodName := ⟨RX8, "earns", "()Z"⟩
abbrev cX8_weigh : ByteArray := prog_10_method_48_code
def yX8_weigh : MethodName := ⟨RX8, "weigh", "(II)V"⟩
abbrev cX8_bars : ByteArray := prog_10_method_49_code
def yX8_bars : MethodName := ⟨RX8, "bars", "()Z"⟩
abbrev cX8_count : ByteArray := prog_10_method_50_code
def yX8_count : MethodName := ⟨RX8, "count", "(I)I"⟩
def RJx145de : String := "java/io/Serializable"
def TJx145de : u_T := fun k => match k with
  | _ => ("", "", "", false)
def tyJx145de : Nat → FieldType := fun k => match k with
  | _ => .int
abbrev wsJx145de0 : List Cond := u_ws RJx145de TJx145de 0
theorem nmJx145de : ∀ a, a < 0 → ∀ b, b < 0 → a ≠ b → (TJx145de a).2.1 ≠ (TJx145de b).2.1 := by decide +kernel
theorem tyJx145de_ok : ∀ k, k < 0 → parseFieldDescriptor (TJx145de k).2.2.1 = some (tyJx145de k) := by decide +kernel
def RJx8e188 : String := "java/lang/Cloneable"
def TJx8e188 : u_T := fun k => match k with
  | _ => ("", "", "", false)
def tyJx8e188 : Nat → FieldType := fun k => match k with
  | _ => .int
abbrev wsJx8e1880 : List Cond := u_ws RJx8e188 TJx8e188 0
theorem nmJx8e188 : ∀ a, a < 0 → ∀ b, b < 0 → a ≠ b → (TJx8e188 a).2.1 ≠ (TJx8e188 b).2.1 := by decide +kernel
theorem tyJx8e188_ok : ∀ k, k < 0 → parseFieldDescriptor (TJx8e188 k).2.2.1 = some (tyJx8e188 k) := by decide +kernel
def RJxab1ab : String := "java/lang/Iterable"
def TJxab1ab : u_T := fun k => match k with
  | _ => ("", "", "", false)
def tyJxab1ab : Nat → FieldType := fun k => match k with
  | _ => .int
abbrev wsJxab1ab0 : List Cond := u_ws RJxab1ab TJxab1ab 0
theorem nmJxab1ab : ∀ a, a < 0 → ∀ b, b < 0 → a ≠ b → (TJxab1ab a).2.1 ≠ (TJxab1ab b).2.1 := by decide +kernel
theorem tyJxab1ab_ok : ∀ k, k < 0 → parseFieldDescriptor (TJxab1ab k).2.2.1 = some (tyJxab1ab k) := by decide +kernel
def RJ9 : String := "java/lang/Math"
def TJ9 : u_T := fun k => match k with
  | _ => ("", "", "", false)
def tyJ9 : Nat → FieldType := fun k => match k with
  | _ => .int
abbrev wsJ90 : List Cond := u_ws RJ9 TJ9 0
theorem nmJ9 : ∀ a, a < 0 → ∀ b, b < 0 → a ≠ b → (TJ9 a).2.1 ≠ (TJ9 b).2.1 := by decide +kernel
theorem tyJ9_ok : ∀ k, k < 0 → parseFieldDescriptor (TJ9 k).2.2.1 = some (tyJ9 k) := by decide +kernel
abbrev cJ9_max_7cf53 : ByteArray := prog_17_method_65_code
def yJ9_max_7cf53 : MethodName := ⟨RJ9, "max", "(II)I"⟩
abbrev cJ9_min_7cf53 : ByteArray := prog_17_method_69_code
def yJ9_min_7cf53 : MethodName := ⟨RJ9, "min", "(II)I"⟩
def RJ0 : String := "java/lang/String"
def TJ0 : u_T := fun k => match k with
  | _ => ("", "", "", false)
def tyJ0 : Nat → FieldType := fun k => match k with
  | _ => .int
abbrev wsJ00 : List Cond := u_ws RJ0 TJ0 0
theorem nmJ0 : ∀ a, a < 0 → ∀ b, b < 0 → a ≠ b → (TJ0 a).2.1 ≠ (TJ0 b).2.1 := by decide +kernel
theorem tyJ0_ok : ∀ k, k < 0 → parseFieldDescriptor (TJ0 k).2.2.1 = some (tyJ0 k) := by decide +kernel
def RJ10 : String := "java/lang/System"
def TJ10 : u_T := fun k => match k with
  | _ => ("", "", "", false)
def tyJ10 : Nat → FieldType := fun k => match k with
  | _ => .int
abbrev wsJ100 : List Cond := u_ws RJ10 TJ10 0
theorem nmJ10 : ∀ a, a < 0 → ∀ b, b < 0 → a ≠ b → (TJ10 a).2.1 ≠ (TJ10 b).2.1 := by decide +kernel
theorem tyJ10_ok : ∀ k, k < 0 → parseFieldDescriptor (TJ10 k).2.2.1 = some (tyJ10 k) := by decide +kernel
def RJxa1e45 : String := "java/util/AbstractCollection"
def TJxa1e45 : u_T := fun k => match k with
  | _ => ("", "", "", false)
def tyJxa1e45 : Nat → FieldType := fun k => match k with
  | _ => .int
abbrev wsJxa1e450 : List Cond := u_ws RJxa1e45 TJxa1e45 0
theorem nmJxa1e45 : ∀ a, a < 0 → ∀ b, b < 0 → a ≠ b → (TJxa1e45 a).2.1 ≠ (TJxa1e45 b).2.1 := by decide +kernel
theorem tyJxa1e45_ok : ∀ k, k < 0 → parseFieldDescriptor (TJxa1e45 k).2.2.1 = some (tyJxa1e45 k) := by decide +kernel
abbrev cJxa1e45_init_da8c8 : ByteArray := prog_23_method_1_code
def yJxa1e45_init_da8c8 : MethodName := ⟨RJxa1e45, "<init>", "()V"⟩
def RJxc12de : String := "java/util/AbstractList"
def TJxc12de : u_T := fun k => match k with
  | _ => ("", "", "", false)
def tyJxc12de : Nat → FieldType := fun k => match k with
  | _ => .int
abbrev wsJxc12de0 : List Cond := u_ws RJxc12de TJxc12de 0
theorem nmJxc12de : ∀ a, a < 0 → ∀ b, b < 0 → a ≠ b → (TJxc12de a).2.1 ≠ (TJxc12de b).2.1 := by decide +kernel
theorem tyJxc12de_ok : ∀ k, k < 0 → parseFieldDescriptor (TJxc12de k).2.2.1 = some (tyJxc12de k) := by decide +kernel
abbrev cJxc12de_init_da8c8 : ByteArray := prog_24_method_1_code
def yJxc12de_init_da8c8 : MethodName := ⟨RJxc12de, "<init>", "()V"⟩
def RJx4a65c : String := "java/util/ArrayList"
def TJx4a65c : u_T := fun k => match k with
  | 0 => ("java/util/AbstractList", "modCount", "I", false)
  | 1 => ("java/util/ArrayList", "elementData", "[Ljava/lang/Object;", false)
  | _ => ("java/util/ArrayList", "size", "I", false)
def tyJx4a65c : Nat → FieldType := fun k => match k with
  | 0 => .int
  | 1 => .array (.object "java/lang/Object")
  | _ => .int
abbrev wsJx4a65c0 : List Cond := u_ws RJx4a65c TJx4a65c 3
theorem nmJx4a65c : ∀ a, a < 3 → ∀ b, b < 3 → a ≠ b → (TJx4a65c a).2.1 ≠ (TJx4a65c b).2.1 := by decide +kernel
theorem tyJx4a65c_ok : ∀ k, k < 3 → parseFieldDescriptor (TJx4a65c k).2.2.1 = some (tyJx4a65c k) := by decide +kernel
abbrev cJx4a65c_init_da8c8 : ByteArray := prog_25_method_2_code
def yJx4a65c_init_da8c8 : MethodName := ⟨RJx4a65c, "<init>", "()V"⟩
abbrev cJx4a65c_grow_92f84 : ByteArray := prog_25_method_6_code
def yJx4a65c_grow_92f84 : MethodName := ⟨RJx4a65c, "grow", "(I)[Ljava/lang/Object;"⟩
abbrev cJx4a65c_grow_d5877 : ByteArray := prog_25_method_7_code
def yJx4a65c_grow_d5877 : MethodName := ⟨RJx4a65c, "grow", "()[Ljava/lang/Object;"⟩
abbrev cJx4a65c_size_8abf5 : ByteArray := prog_25_method_8_code
def yJx4a65c_size_8abf5 : MethodName := ⟨RJx4a65c, "size", "()I"⟩
abbrev cJx4a65c_elementData_915e3 : ByteArray := prog_25_method_18_code
def yJx4a65c_elementData_915e3 : MethodName := ⟨RJx4a65c, "elementData", "(I)Ljava/lang/Object;"⟩
abbrev cJx4a65c_get_915e3 : ByteArray := prog_25_method_20_code
def yJx4a65c_get_915e3 : MethodName := ⟨RJx4a65c, "get", "(I)Ljava/lang/Object;"⟩
abbrev cJx4a65c_add_72be8 : ByteArray := prog_25_method_24_code
def yJx4a65c_add_72be8 : MethodName := ⟨RJx4a65c, "add", "(Ljava/lang/Object;[Ljava/lang/Object;I)V"⟩
abbrev cJx4a65c_add_9ea2d : ByteArray := prog_25_method_25_code
def yJx4a65c_add_9ea2d : MethodName := ⟨RJx4a65c, "add", "(Ljava/lang/Object;)Z"⟩
def RJ7 : String := "java/util/Arrays"
def TJ7 : u_T := fun k => match k with
  | _ => ("", "", "", false)
def tyJ7 : Nat → FieldType := fun k => match k with
  | _ => .int
abbrev wsJ70 : List Cond := u_ws RJ7 TJ7 0
theorem nmJ7 : ∀ a, a < 0 → ∀ b, b < 0 → a ≠ b → (TJ7 a).2.1 ≠ (TJ7 b).2.1 := by decide +kernel
theorem tyJ7_ok : ∀ k, k < 0 → parseFieldDescriptor (TJ7 k).2.2.1 = some (tyJ7 k) := by decide +kernel
abbrev cJ7_copyOf_1904c : ByteArray := prog_26_method_119_code
def yJ7_copyOf_1904c : MethodName := ⟨RJ7, "copyOf", "([Ljava/lang/Object;I)[Ljava/lang/Object;"⟩
abbrev cJ7_copyOf_6403c : ByteArray := prog_26_method_120_code
def yJ7_copyOf_6403c : MethodName := ⟨RJ7, "copyOf", "([Ljava/lang/Object;ILjava/lang/Class;)[Ljava/lang/Object;"⟩
def RJx5ef63 : String := "java/util/Collection"
def TJx5ef63 : u_T := fun k => match k with
  | _ => ("", "", "", false)
def tyJx5ef63 : Nat → FieldType := fun k => match k with
  | _ => .int
abbrev wsJx5ef630 : List Cond := u_ws RJx5ef63 TJx5ef63 0
theorem nmJx5ef63 : ∀ a, a < 0 → ∀ b, b < 0 → a ≠ b → (TJx5ef63 a).2.1 ≠ (TJx5ef63 b).2.1 := by decide +kernel
theorem tyJx5ef63_ok : ∀ k, k < 0 → parseFieldDescriptor (TJx5ef63 k).2.2.1 = some (tyJx5ef63 k) := by decide +kernel
def RJxbd725 : String := "java/util/List"
def TJxbd725 : u_T := fun k => match k with
  | _ => ("", "", "", false)
def tyJxbd725 : Nat → FieldType := fun k => match k with
  | _ => .int
abbrev wsJxbd7250 : List Cond := u_ws RJxbd725 TJxbd725 0
theorem nmJxbd725 : ∀ a, a < 0 → ∀ b, b < 0 → a ≠ b → (TJxbd725 a).2.1 ≠ (TJxbd725 b).2.1 := by decide +kernel
theorem tyJxbd725_ok : ∀ k, k < 0 → parseFieldDescriptor (TJxbd725 k).2.2.1 = some (tyJxbd725 k) := by decide +kernel
def RJ15 : String := "java/util/Objects"
def TJ15 : u_T := fun k => match k with
  | _ => ("", "", "", false)
def tyJ15 : Nat → FieldType := fun k => match k with
  | _ => .int
abbrev wsJ150 : List Cond := u_ws RJ15 TJ15 0
theorem nmJ15 : ∀ a, a < 0 → ∀ b, b < 0 → a ≠ b → (TJ15 a).2.1 ≠ (TJ15 b).2.1 := by decide +kernel
theorem tyJ15_ok : ∀ k, k < 0 → parseFieldDescriptor (TJ15 k).2.2.1 = some (tyJ15 k) := by decide +kernel
abbrev cJ15_checkIndex_7cf53 : ByteArray := prog_30_method_17_code
def yJ15_checkIndex_7cf53 : MethodName := ⟨RJ15, "checkIndex", "(II)I"⟩
def RJxf0a74 : String := "java/util/RandomAccess"
def TJxf0a74 : u_T := fun k => match k with
  | _ => ("", "", "", false)
def tyJxf0a74 : Nat → FieldType := fun k => match k with
  | _ => .int
abbrev wsJxf0a740 : List Cond := u_ws RJxf0a74 TJxf0a74 0
theorem nmJxf0a74 : ∀ a, a < 0 → ∀ b, b < 0 → a ≠ b → (TJxf0a74 a).2.1 ≠ (TJxf0a74 b).2.1 := by decide +kernel
theorem tyJxf0a74_ok : ∀ k, k < 0 → parseFieldDescriptor (TJxf0a74 k).2.2.1 = some (tyJxf0a74 k) := by decide +kernel
def RJxa66e6 : String := "java/util/SequencedCollection"
def TJxa66e6 : u_T := fun k => match k with
  | _ => ("", "", "", false)
def tyJxa66e6 : Nat → FieldType := fun k => match k with
  | _ => .int
abbrev wsJxa66e60 : List Cond := u_ws RJxa66e6 TJxa66e6 0
theorem nmJxa66e6 : ∀ a, a < 0 → ∀ b, b < 0 → a ≠ b → (TJxa66e6 a).2.1 ≠ (TJxa66e6 b).2.1 := by decide +kernel
theorem tyJxa66e6_ok : ∀ k, k < 0 → parseFieldDescriptor (TJxa66e6 k).2.2.1 = some (tyJxa66e6 k) := by decide +kernel
def RJ8 : String := "jdk/internal/util/ArraysSupport"
def TJ8 : u_T := fun k => match k with
  | _ => ("", "", "", false)
def tyJ8 : Nat → FieldType := fun k => match k with
  | _ => .int
abbrev wsJ80 : List Cond := u_ws RJ8 TJ8 0
theorem nmJ8 : ∀ a, a < 0 → ∀ b, b < 0 → a ≠ b → (TJ8 a).2.1 ≠ (TJ8 b).2.1 := by decide +kernel
theorem tyJ8_ok : ∀ k, k < 0 → parseFieldDescriptor (TJ8 k).2.2.1 = some (tyJ8 k) := by decide +kernel
abbrev cJ8_newLength_cabcc : ByteArray := prog_33_method_27_code
def yJ8_newLength_cabcc : MethodName := ⟨RJ8, "newLength", "(III)I"⟩
abbrev cJ8_hugeLength_7cf53 : ByteArray := prog_33_method_28_code
def yJ8_hugeLength_7cf53 : MethodName := ⟨RJ8, "hugeLength", "(II)I"⟩
def RJ3 : String := "jdk/internal/util/Preconditions"
def TJ3 : u_T := fun k => match k with
  | _ => ("", "", "", false)
def tyJ3 : Nat → FieldType := fun k => match k with
  | _ => .int
abbrev wsJ30 : List Cond := u_ws RJ3 TJ3 0
theorem nmJ3 : ∀ a, a < 0 → ∀ b, b < 0 → a ≠ b → (TJ3 a).2.1 ≠ (TJ3 b).2.1 := by decide +kernel
theorem tyJ3_ok : ∀ k, k < 0 → parseFieldDescriptor (TJ3 k).2.2.1 = some (tyJ3 k) := by decide +kernel
abbrev cJ3_checkIndex_8e157 : ByteArray := prog_34_method_11_code
def yJ3_checkIndex_8e157 : MethodName := ⟨RJ3, "checkIndex", "(IILjava/util/function/BiFunction;)I"⟩
def RL : String := "GoodsKeeperLaw"
abbrev cL_player : ByteArray := method_3_code
def yL_player : MethodName := ⟨RL, "player", "(LGoodsKeeper;[J)I"⟩
abbrev cL_rule : ByteArray := method_4_code
def yL_rule : MethodName := ⟨RL, "rule", "(LGoodsKeeper;Z[J)I"⟩
abbrev cL_part : ByteArray := method_5_code
def yL_part : MethodName := ⟨RL, "part", "(LGoodsKeeper;IIZI)I"⟩
abbrev cL_deed : ByteArray := method_6_code
def yL_deed : MethodName := ⟨RL, "deed", "(LGoodsKeeper;IIII[J)I"⟩
abbrev cL_has : ByteArray := method_7_code
def yL_has : MethodName := ⟨RL, "has", "(LGoodsKeeper;II[J)I"⟩
abbrev cL_sum : ByteArray := method_8_code
def yL_sum : MethodName := ⟨RL, "sum", "(LGoodsKeeper;IZ[J)I"⟩
abbrev cL_single : ByteArray := method_9_code
def yL_single : MethodName := ⟨RL, "single", "(LGoodsKeeper;IZI[J)I"⟩
abbrev cL_put : ByteArray := method_10_code
def yL_put : MethodName := ⟨RL, "put", "(LGoodsKeeper;II[J)I"⟩
abbrev cL_take : ByteArray := method_11_code
def yL_take : MethodName := ⟨RL, "take", "(LGoodsKeeper;I[J)I"⟩
abbrev cL_give : ByteArray := method_12_code
def yL_give : MethodName := ⟨RL, "give", "(LGoodsKeeper;II[J)I"⟩
abbrev cL_lend : ByteArray := method_13_code
def yL_lend : MethodName := ⟨RL, "lend", "(LGoodsKeeper;III[J)I"⟩
abbrev cL_wear : ByteArray := method_14_code
def yL_wear : MethodName := ⟨RL, "wear", "(LGoodsKeeper;II[J)I"⟩
abbrev cL_days : ByteArray := method_15_code
def yL_days : MethodName := ⟨RL, "days", "(LGoodsKeeper;I[J)I"⟩
abbrev cL_look : ByteArray := method_16_code
def yL_look : MethodName := ⟨RL, "look", "(LGoodsKeeper;II[J)I"⟩
abbrev cL_line : ByteArray := method_17_code
def yL_line : MethodName := ⟨RL, "line", "(LGoodsKeeper;IIZ[J)I"⟩
abbrev cL_offer : ByteArray := method_18_code
def yL_offer : MethodName := ⟨RL, "offer", "(LGoodsKeeper;IIIIIIII[J)I"⟩
abbrev cL_agree : ByteArray := method_19_code
def yL_agree : MethodName := ⟨RL, "agree", "(LGoodsKeeper;I[J)I"⟩
abbrev cL_withdraw : ByteArray := method_20_code
def yL_withdraw : MethodName := ⟨RL, "withdraw", "(LGoodsKeeper;I[J)I"⟩
abbrev cL_times : ByteArray := method_21_code
def yL_times : MethodName := ⟨RL, "times", "(LGoodsKeeper;II)I"⟩
abbrev cL_weigh : ByteArray := method_22_code
def yL_weigh : MethodName := ⟨RL, "weigh", "(LGoodsKeeper;II)I"⟩
abbrev cL_law : ByteArray := code
def yL_law : MethodName := ⟨RL, "law", "([I)Z"⟩
abbrev vwCl : List vw_C := [(RJx4a65c, TJx4a65c, 3), (RX0, TX0, 5), (RX1, TX1, 3), (RX2, TX2, 4), (RX3, TX3, 4), (RX4, TX4, 5), (RX5, TX5, 11), (RX6, TX6, 1), (RX7, TX7, 10), (RX8, TX8, 33)]
