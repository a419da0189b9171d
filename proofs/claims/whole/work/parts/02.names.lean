def RX0 : String := "StationPasses$Chain"
def TX0 : u_T := fun k => match k with
  | 0 => ("StationPasses$Chain", "volume", "[I", true)
  | 1 => ("StationPasses$Chain", "length", "[I", true)
  | 2 => ("StationPasses$Chain", "head", "[I", true)
  | _ => ("StationPasses$Chain", "rest", "[I", true)
def tyX0 : Nat → FieldType := fun k => match k with
  | 0 => .array .int
  | 1 => .array .int
  | 2 => .array .int
  | _ => .array .int
theorem nmX0 : ∀ a, a < 4 → ∀ b, b < 4 → a ≠ b → (TX0 a).2.1 ≠ (TX0 b).2.1 := by decide +kernel
theorem tyX0_ok : ∀ k, k < 4 → parseFieldDescriptor (TX0 k).2.2.1 = some (tyX0 k) := by decide +kernel
abbrev cX0_init : ByteArray := prog_2_method_1_code
def yX0_init : MethodName := ⟨RX0, "<init>", "()V"⟩
abbrev cX0_find : ByteArray := prog_2_method_2_code
def yX0_find : MethodName := ⟨RX0, "find", "(LStationPasses$Network;I)V"⟩
abbrev cX0_tryHead : ByteArray := prog_2_method_3_code
def yX0_tryHead : MethodName := ⟨RX0, "tryHead", "(LStationPasses$Network;II)V"⟩
abbrev cX0_member : ByteArray := prog_2_method_4_code
def yX0_member : MethodName := ⟨RX0, "member", "(I)I"⟩
def RX1 : String := "StationPasses$History"
def TX1 : u_T := fun k => match k with
  | 0 => ("StationPasses$History", "states", "[LStationPasses$State;", true)
  | 1 => ("StationPasses$History", "next", "I", false)
  | _ => ("StationPasses$History", "kept", "I", false)
def tyX1 : Nat → FieldType := fun k => match k with
  | 0 => .array (.object "StationPasses$State")
  | 1 => .int
  | _ => .int
theorem nmX1 : ∀ a, a < 3 → ∀ b, b < 3 → a ≠ b → (TX1 a).2.1 ≠ (TX1 b).2.1 := by decide +kernel
theorem tyX1_ok : ∀ k, k < 3 → parseFieldDescriptor (TX1 k).2.2.1 = some (tyX1 k) := by decide +kernel
abbrev cX1_init : ByteArray := prog_3_method_1_code
def yX1_init : MethodName := ⟨RX1, "<init>", "()V"⟩
abbrev cX1_clear : ByteArray := prog_3_method_2_code
def yX1_clear : MethodName := ⟨RX1, "clear", "()V"⟩
abbrev cX1_keep : ByteArray := prog_3_method_3_code
def yX1_keep : MethodName := ⟨RX1, "keep", "(LStationPasses$State;)V"⟩
abbrev cX1_bringBack : ByteArray := prog_3_method_4_code
def yX1_bringBack : MethodName := ⟨RX1, "bringBack", "(LStationPasses$State;)V"⟩
def RX2 : String := "StationPasses$Items"
def TX2 : u_T := fun k => match k with
  | 0 => ("StationPasses$Items", "lows", "[I", true)
  | 1 => ("StationPasses$Items", "highs", "[I", true)
  | 2 => ("StationPasses$Items", "numbers", "[[I", true)
  | _ => ("StationPasses$Items", "told", "I", false)
def tyX2 : Nat → FieldType := fun k => match k with
  | 0 => .array .int
  | 1 => .array .int
  | 2 => .array (.array .int)
  | _ => .int
theorem nmX2 : ∀ a, a < 4 → ∀ b, b < 4 → a ≠ b → (TX2 a).2.1 ≠ (TX2 b).2.1 := by decide +kernel
theorem tyX2_ok : ∀ k, k < 4 → parseFieldDescriptor (TX2 k).2.2.1 = some (tyX2 k) := by decide +kernel
abbrev cX2_init : ByteArray := prog_4_method_1_code
def yX2_init : MethodName := ⟨RX2, "<init>", "(I[I[I)V"⟩
abbrev cX2_has : ByteArray := prog_4_method_2_code
def yX2_has : MethodName := ⟨RX2, "has", "(I)Z"⟩
abbrev cX2_number : ByteArray := prog_4_method_3_code
def yX2_number : MethodName := ⟨RX2, "number", "(II)I"⟩
abbrev cX2_isFull : ByteArray := prog_4_method_4_code
def yX2_isFull : MethodName := ⟨RX2, "isFull", "()Z"⟩
abbrev cX2_allows : ByteArray := prog_4_method_5_code
def yX2_allows : MethodName := ⟨RX2, "allows", "(II)Z"⟩
def RX3 : String := "StationPasses$Letters"
def TX3 : u_T := fun k => match k with
  | 0 => ("StationPasses$Letters", "row", "[C", true)
  | _ => ("StationPasses$Letters", "length", "I", false)
def tyX3 : Nat → FieldType := fun k => match k with
  | 0 => .array .char
  | _ => .int
theorem nmX3 : ∀ a, a < 2 → ∀ b, b < 2 → a ≠ b → (TX3 a).2.1 ≠ (TX3 b).2.1 := by decide +kernel
theorem tyX3_ok : ∀ k, k < 2 → parseFieldDescriptor (TX3 k).2.2.1 = some (tyX3 k) := by decide +kernel
abbrev cX3_init : ByteArray := prog_5_method_1_code
def yX3_init : MethodName := ⟨RX3, "<init>", "()V"⟩
abbrev cX3_append : ByteArray := prog_5_method_2_code
def yX3_append : MethodName := ⟨RX3, "append", "(C)V"⟩
abbrev cX3_clear : ByteArray := prog_5_method_3_code
def yX3_clear : MethodName := ⟨RX3, "clear", "()V"⟩
abbrev cX3_letterAt : ByteArray := prog_5_method_4_code
def yX3_letterAt : MethodName := ⟨RX3, "letterAt", "(I)C"⟩
abbrev cX3_figuresAt : ByteArray := prog_5_method_5_code
def yX3_figuresAt : MethodName := ⟨RX3, "figuresAt", "(I)I"⟩
abbrev cX3_numberAt : ByteArray := prog_5_method_6_code
def yX3_numberAt : MethodName := ⟨RX3, "numberAt", "(II)I"⟩
abbrev cX3_isFigure : ByteArray := prog_5_method_7_code
def yX3_isFigure : MethodName := ⟨RX3, "isFigure", "(C)Z"⟩
def RX4 : String := "StationPasses$Network"
def TX4 : u_T := fun k => match k with
  | 0 => ("StationPasses$Network", "setting", "LStationPasses$Setting;", false)
  | 1 => ("StationPasses$Network", "passes", "LStationPasses$Passes;", true)
  | _ => ("StationPasses$Network", "now", "LStationPasses$State;", true)
def tyX4 : Nat → FieldType := fun k => match k with
  | 0 => .object "StationPasses$Setting"
  | 1 => .object "StationPasses$Passes"
  | _ => .object "StationPasses$State"
theorem nmX4 : ∀ a, a < 3 → ∀ b, b < 3 → a ≠ b → (TX4 a).2.1 ≠ (TX4 b).2.1 := by decide +kernel
theorem tyX4_ok : ∀ k, k < 3 → parseFieldDescriptor (TX4 k).2.2.1 = some (tyX4 k) := by decide +kernel
abbrev cX4_init : ByteArray := prog_6_method_1_code
def yX4_init : MethodName := ⟨RX4, "<init>", "()V"⟩
abbrev cX4_layOut : ByteArray := prog_6_method_2_code
def yX4_layOut : MethodName := ⟨RX4, "layOut", "(LStationPasses$Setting;)V"⟩
abbrev cX4_windowSize : ByteArray := prog_6_method_3_code
def yX4_windowSize : MethodName := ⟨RX4, "windowSize", "(I)I"⟩
abbrev cX4_contactBits : ByteArray := prog_6_method_4_code
def yX4_contactBits : MethodName := ⟨RX4, "contactBits", "()I"⟩
abbrev cX4_volumeOf : ByteArray := prog_6_method_5_code
def yX4_volumeOf : MethodName := ⟨RX4, "volumeOf", "(I)I"⟩
abbrev cX4_passesOfSat : ByteArray := prog_6_method_6_code
def yX4_passesOfSat : MethodName := ⟨RX4, "passesOfSat", "(I)I"⟩
abbrev cX4_contactsOfSat : ByteArray := prog_6_method_7_code
def yX4_contactsOfSat : MethodName := ⟨RX4, "contactsOfSat", "(I)I"⟩
abbrev cX4_contactsOfAntenna : ByteArray := prog_6_method_8_code
def yX4_contactsOfAntenna : MethodName := ⟨RX4, "contactsOfAntenna", "(I)I"⟩
abbrev cX4_busySlotsOfAntenna : ByteArray := prog_6_method_9_code
def yX4_busySlotsOfAntenna : MethodName := ⟨RX4, "busySlotsOfAntenna", "(I)I"⟩
abbrev cX4_fits : ByteArray := prog_6_method_10_code
def yX4_fits : MethodName := ⟨RX4, "fits", "(II)Z"⟩
abbrev cX4_fittingAntennas : ByteArray := prog_6_method_11_code
def yX4_fittingAntennas : MethodName := ⟨RX4, "fittingAntennas", "(I)I"⟩
abbrev cX4_goTogether : ByteArray := prog_6_method_12_code
def yX4_goTogether : MethodName := ⟨RX4, "goTogether", "(III)Z"⟩
abbrev cX4_clash : ByteArray := prog_6_method_13_code
def yX4_clash : MethodName := ⟨RX4, "clash", "(IIII)I"⟩
abbrev cX4_shareSatAndSlot : ByteArray := prog_6_method_14_code
def yX4_shareSatAndSlot : MethodName := ⟨RX4, "shareSatAndSlot", "(II)Z"⟩
abbrev cX4_whyNot : ByteArray := prog_6_method_15_code
def yX4_whyNot : MethodName := ⟨RX4, "whyNot", "(II)I"⟩
abbrev cX4_clashWith : ByteArray := prog_6_method_16_code
def yX4_clashWith : MethodName := ⟨RX4, "clashWith", "(III)I"⟩
abbrev cX4_dropContactsThatDoNotFit : ByteArray := prog_6_method_17_code
def yX4_dropContactsThatDoNotFit : MethodName := ⟨RX4, "dropContactsThatDoNotFit", "(I)I"⟩
def RX5 : String := "StationPasses$Passes"
def TX5 : u_T := fun k => match k with
  | 0 => ("StationPasses$Passes", "first", "[I", true)
  | 1 => ("StationPasses$Passes", "last", "[I", true)
  | 2 => ("StationPasses$Passes", "satOf", "[I", true)
  | 3 => ("StationPasses$Passes", "stationOf", "[I", true)
  | 4 => ("StationPasses$Passes", "volume", "[I", true)
  | 5 => ("StationPasses$Passes", "step", "[I", true)
  | _ => ("StationPasses$Passes", "known", "I", false)
def tyX5 : Nat → FieldType := fun k => match k with
  | 0 => .array .int
  | 1 => .array .int
  | 2 => .array .int
  | 3 => .array .int
  | 4 => .array .int
  | 5 => .array .int
  | _ => .int
theorem nmX5 : ∀ a, a < 7 → ∀ b, b < 7 → a ≠ b → (TX5 a).2.1 ≠ (TX5 b).2.1 := by decide +kernel
theorem tyX5_ok : ∀ k, k < 7 → parseFieldDescriptor (TX5 k).2.2.1 = some (tyX5 k) := by decide +kernel
abbrev cX5_init : ByteArray := prog_7_method_1_code
def yX5_init : MethodName := ⟨RX5, "<init>", "()V"⟩
abbrev cX5_find : ByteArray := prog_7_method_2_code
def yX5_find : MethodName := ⟨RX5, "find", "(LStationPasses$Setting;)V"⟩
abbrev cX5_append : ByteArray := prog_7_method_3_code
def yX5_append : MethodName := ⟨RX5, "append", "(LStationPasses$Setting;III)V"⟩
abbrev cX5_has : ByteArray := prog_7_method_4_code
def yX5_has : MethodName := ⟨RX5, "has", "(I)Z"⟩
abbrev cX5_covers : ByteArray := prog_7_method_5_code
def yX5_covers : MethodName := ⟨RX5, "covers", "(II)Z"⟩
abbrev cX5_rateIn : ByteArray := prog_7_method_6_code
def yX5_rateIn : MethodName := ⟨RX5, "rateIn", "(II)I"⟩
def RX6 : String := "StationPasses$Planner"
def TX6 : u_T := fun k => match k with
  | 0 => ("StationPasses$Planner", "open", "[I", true)
  | 1 => ("StationPasses$Planner", "apart", "[I", true)
  | 2 => ("StationPasses$Planner", "rivals", "[I", true)
  | 3 => ("StationPasses$Planner", "outlook", "[I", true)
  | 4 => ("StationPasses$Planner", "lossOfOne", "[I", true)
  | 5 => ("StationPasses$Planner", "way", "[I", true)
  | 6 => ("StationPasses$Planner", "outside", "I", false)
  | 7 => ("StationPasses$Planner", "maskNow", "I", false)
  | 8 => ("StationPasses$Planner", "size", "I", false)
  | 9 => ("StationPasses$Planner", "isFound", "Z", false)
  | 10 => ("StationPasses$Planner", "law", "I", false)
  | 11 => ("StationPasses$Planner", "first", "I", false)
  | 12 => ("StationPasses$Planner", "mostChanges", "I", false)
  | 13 => ("StationPasses$Planner", "bestRank", "I", false)
  | 14 => ("StationPasses$Planner", "bestWay", "[I", true)
  | 15 => ("StationPasses$Planner", "bestMask", "I", false)
  | _ => ("StationPasses$Planner", "bestChanges", "I", false)
def tyX6 : Nat → FieldType := fun k => match k with
  | 0 => .array .int
  | 1 => .array .int
  | 2 => .array .int
  | 3 => .array .int
  | 4 => .array .int
  | 5 => .array .int
  | 6 => .int
  | 7 => .int
  | 8 => .int
  | 9 => .boolean
  | 10 => .int
  | 11 => .int
  | 12 => .int
  | 13 => .int
  | 14 => .array .int
  | 15 => .int
  | _ => .int
theorem nmX6 : ∀ a, a < 17 → ∀ b, b < 17 → a ≠ b → (TX6 a).2.1 ≠ (TX6 b).2.1 := by decide +kernel
theorem tyX6_ok : ∀ k, k < 17 → parseFieldDescriptor (TX6 k).2.2.1 = some (tyX6 k) := by decide +kernel
abbrev cX6_init : ByteArray := prog_8_method_1_code
def yX6_init : MethodName := ⟨RX6, "<init>", "()V"⟩
abbrev cX6_forget : ByteArray := prog_8_method_2_code
def yX6_forget : MethodName := ⟨RX6, "forget", "()V"⟩
abbrev cX6_find : ByteArray := prog_8_method_3_code
def yX6_find : MethodName := ⟨RX6, "find", "(LStationPasses$Network;LStationPasses$Stores;III)V"⟩
abbrev cX6_contactBits : ByteArray := prog_8_method_4_code
def yX6_contactBits : MethodName := ⟨RX6, "contactBits", "(I)I"⟩
abbrev cX6_findOpen : ByteArray := prog_8_method_5_code
def yX6_findOpen : MethodName := ⟨RX6, "findOpen", "(LStationPasses$Network;)V"⟩
abbrev cX6_findApart : ByteArray := prog_8_method_6_code
def yX6_findApart : MethodName := ⟨RX6, "findApart", "(LStationPasses$Network;)V"⟩
abbrev cX6_weighVolumes : ByteArray := prog_8_method_7_code
def yX6_weighVolumes : MethodName := ⟨RX6, "weighVolumes", "(LStationPasses$Network;)V"⟩
abbrev cX6_weighLosses : ByteArray := prog_8_method_8_code
def yX6_weighLosses : MethodName := ⟨RX6, "weighLosses", "(LStationPasses$Network;LStationPasses$Stores;)V"⟩
abbrev cX6_passesOf : ByteArray := prog_8_method_9_code
def yX6_passesOf : MethodName := ⟨RX6, "passesOf", "(LStationPasses$Network;I)I"⟩
abbrev cX6_rankMasks : ByteArray := prog_8_method_10_code
def yX6_rankMasks : MethodName := ⟨RX6, "rankMasks", "()V"⟩
abbrev cX6_lookOut : ByteArray := prog_8_method_11_code
def yX6_lookOut : MethodName := ⟨RX6, "lookOut", "()V"⟩
abbrev cX6_startFromNow : ByteArray := prog_8_method_12_code
def yX6_startFromNow : MethodName := ⟨RX6, "startFromNow", "(LStationPasses$Network;)V"⟩
abbrev cX6_tryPass : ByteArray := prog_8_method_13_code
def yX6_tryPass : MethodName := ⟨RX6, "tryPass", "(LStationPasses$Planner;LStationPasses$Network;III)V"⟩
abbrev cX6_changesAhead : ByteArray := prog_8_method_14_code
def yX6_changesAhead : MethodName := ⟨RX6, "changesAhead", "(II)I"⟩
abbrev cX6_keepWay : ByteArray := prog_8_method_15_code
def yX6_keepWay : MethodName := ⟨RX6, "keepWay", "(II)V"⟩
abbrev cX6_freeAntennas : ByteArray := prog_8_method_16_code
def yX6_freeAntennas : MethodName := ⟨RX6, "freeAntennas", "(II)I"⟩
def RX7 : String := "StationPasses$Setting"
def TX7 : u_T := fun k => match k with
  | 0 => ("StationPasses$Setting", "sats", "LStationPasses$Items;", true)
  | 1 => ("StationPasses$Setting", "stations", "LStationPasses$Items;", true)
  | _ => ("StationPasses$Setting", "antennas", "LStationPasses$Items;", true)
def tyX7 : Nat → FieldType := fun k => match k with
  | 0 => .object "StationPasses$Items"
  | 1 => .object "StationPasses$Items"
  | _ => .object "StationPasses$Items"
theorem nmX7 : ∀ a, a < 3 → ∀ b, b < 3 → a ≠ b → (TX7 a).2.1 ≠ (TX7 b).2.1 := by decide +kernel
theorem tyX7_ok : ∀ k, k < 3 → parseFieldDescriptor (TX7 k).2.2.1 = some (tyX7 k) := by decide +kernel
abbrev cX7_init : ByteArray := prog_9_method_1_code
def yX7_init : MethodName := ⟨RX7, "<init>", "()V"⟩
abbrev cX7_readAll : ByteArray := prog_9_method_2_code
def yX7_readAll : MethodName := ⟨RX7, "readAll", "(LStationPasses$Letters;)I"⟩
abbrev cX7_readItem : ByteArray := prog_9_method_3_code
def yX7_readItem : MethodName := ⟨RX7, "readItem", "(LStationPasses$Letters;I)I"⟩
abbrev cX7_itemsOf : ByteArray := prog_9_method_4_code
def yX7_itemsOf : MethodName := ⟨RX7, "itemsOf", "(C)LStationPasses$Items;"⟩
abbrev cX7_readNumbers : ByteArray := prog_9_method_5_code
def yX7_readNumbers : MethodName := ⟨RX7, "readNumbers", "(LStationPasses$Letters;ILStationPasses$Items;[I)I"⟩
abbrev cX7_sees : ByteArray := prog_9_method_6_code
def yX7_sees : MethodName := ⟨RX7, "sees", "(III)Z"⟩
abbrev cX7_takes : ByteArray := prog_9_method_7_code
def yX7_takes : MethodName := ⟨RX7, "takes", "(II)Z"⟩
def RX8 : String := "StationPasses$State"
def TX8 : u_T := fun k => match k with
  | 0 => ("StationPasses$State", "antennaOf", "[I", true)
  | 1 => ("StationPasses$State", "outFrom", "[I", true)
  | _ => ("StationPasses$State", "outTo", "[I", true)
def tyX8 : Nat → FieldType := fun k => match k with
  | 0 => .array .int
  | 1 => .array .int
  | _ => .array .int
theorem nmX8 : ∀ a, a < 3 → ∀ b, b < 3 → a ≠ b → (TX8 a).2.1 ≠ (TX8 b).2.1 := by decide +kernel
theorem tyX8_ok : ∀ k, k < 3 → parseFieldDescriptor (TX8 k).2.2.1 = some (tyX8 k) := by decide +kernel
abbrev cX8_init : ByteArray := prog_10_method_1_code
def yX8_init : MethodName := ⟨RX8, "<init>", "()V"⟩
abbrev cX8_clear : ByteArray := prog_10_method_2_code
def yX8_clear : MethodName := ⟨RX8, "clear", "()V"⟩
abbrev cX8_copyFrom : ByteArray := prog_10_method_3_code
def yX8_copyFrom : MethodName := ⟨RX8, "copyFrom", "(LStationPasses$State;)V"⟩
abbrev cX8_isOut : ByteArray := prog_10_method_4_code
def yX8_isOut : MethodName := ⟨RX8, "isOut", "(I)Z"⟩
def RX9 : String := "StationPasses$Stores"
def TX9 : u_T := fun k => match k with
  | 0 => ("StationPasses$Stores", "flow", "[I", true)
  | 1 => ("StationPasses$Stores", "content", "I", false)
  | 2 => ("StationPasses$Stores", "lost", "I", false)
  | 3 => ("StationPasses$Stores", "got", "I", false)
  | _ => ("StationPasses$Stores", "firstLoss", "I", false)
def tyX9 : Nat → FieldType := fun k => match k with
  | 0 => .array .int
  | 1 => .int
  | 2 => .int
  | 3 => .int
  | _ => .int
theorem nmX9 : ∀ a, a < 5 → ∀ b, b < 5 → a ≠ b → (TX9 a).2.1 ≠ (TX9 b).2.1 := by decide +kernel
theorem tyX9_ok : ∀ k, k < 5 → parseFieldDescriptor (TX9 k).2.2.1 = some (tyX9 k) := by decide +kernel
abbrev cX9_init : ByteArray := prog_11_method_1_code
def yX9_init : MethodName := ⟨RX9, "<init>", "()V"⟩
abbrev cX9_follow : ByteArray := prog_11_method_2_code
def yX9_follow : MethodName := ⟨RX9, "follow", "(LStationPasses$Network;III)V"⟩
abbrev cX9_gatherFlow : ByteArray := prog_11_method_3_code
def yX9_gatherFlow : MethodName := ⟨RX9, "gatherFlow", "(LStationPasses$Passes;II)V"⟩
abbrev cX9_lostByAll : ByteArray := prog_11_method_4_code
def yX9_lostByAll : MethodName := ⟨RX9, "lostByAll", "(LStationPasses$Network;I)I"⟩
abbrev cX9_gotByAll : ByteArray := prog_11_method_5_code
def yX9_gotByAll : MethodName := ⟨RX9, "gotByAll", "(LStationPasses$Network;I)I"⟩
def RX10 : String := "StationPasses"
def TX10 : u_T := fun k => match k with
  | 0 => ("StationPasses", "text", "LStationPasses$Letters;", true)
  | 1 => ("StationPasses", "net", "LStationPasses$Network;", true)
  | 2 => ("StationPasses", "history", "LStationPasses$History;", true)
  | 3 => ("StationPasses", "stores", "LStationPasses$Stores;", true)
  | 4 => ("StationPasses", "chain", "LStationPasses$Chain;", true)
  | 5 => ("StationPasses", "planner", "LStationPasses$Planner;", true)
  | _ => ("StationPasses", "draft", "LStationPasses$Setting;", false)
def tyX10 : Nat → FieldType := fun k => match k with
  | 0 => .object "StationPasses$Letters"
  | 1 => .object "StationPasses$Network"
  | 2 => .object "StationPasses$History"
  | 3 => .object "StationPasses$Stores"
  | 4 => .object "StationPasses$Chain"
  | 5 => .object "StationPasses$Planner"
  | _ => .object "StationPasses$Setting"
theorem nmX10 : ∀ a, a < 7 → ∀ b, b < 7 → a ≠ b → (TX10 a).2.1 ≠ (TX10 b).2.1 := by decide +kernel
theorem tyX10_ok : ∀ k, k < 7 → parseFieldDescriptor (TX10 k).2.2.1 = some (tyX10 k) := by decide +kernel
abbrev cX10_init : ByteArray := prog_1_method_1_code
def yX10_init : MethodName := ⟨RX10, "<init>", "()V"⟩
abbrev cX10_write : ByteArray := prog_1_method_2_code
def yX10_write : MethodName := ⟨RX10, "write", "(I)I"⟩
abbrev cX10_wipe : ByteArray := prog_1_method_3_code
def yX10_wipe : MethodName := ⟨RX10, "wipe", "()I"⟩
abbrev cX10_fault : ByteArray := prog_1_method_4_code
def yX10_fault : MethodName := ⟨RX10, "fault", "()I"⟩
abbrev cX10_lay : ByteArray := prog_1_method_5_code
def yX10_lay : MethodName := ⟨RX10, "lay", "()I"⟩
abbrev cX10_sat : ByteArray := prog_1_method_6_code
def yX10_sat : MethodName := ⟨RX10, "sat", "(II)I"⟩
abbrev cX10_antenna : ByteArray := prog_1_method_7_code
def yX10_antenna : MethodName := ⟨RX10, "antenna", "(II)I"⟩
abbrev cX10_seen : ByteArray := prog_1_method_8_code
def yX10_seen : MethodName := ⟨RX10, "seen", "(III)I"⟩
abbrev cX10_pass : ByteArray := prog_1_method_9_code
def yX10_pass : MethodName := ⟨RX10, "pass", "(II)I"⟩
abbrev cX10_rate : ByteArray := prog_1_method_10_code
def yX10_rate : MethodName := ⟨RX10, "rate", "(II)I"⟩
abbrev cX10_give : ByteArray := prog_1_method_11_code
def yX10_give : MethodName := ⟨RX10, "give", "(II)I"⟩
abbrev cX10_why : ByteArray := prog_1_method_12_code
def yX10_why : MethodName := ⟨RX10, "why", "(II)I"⟩
abbrev cX10_take : ByteArray := prog_1_method_13_code
def yX10_take : MethodName := ⟨RX10, "take", "(I)I"⟩
abbrev cX10_out : ByteArray := prog_1_method_14_code
def yX10_out : MethodName := ⟨RX10, "out", "(III)I"⟩
abbrev cX10_undo : ByteArray := prog_1_method_15_code
def yX10_undo : MethodName := ⟨RX10, "undo", "()I"⟩
abbrev cX10_best : ByteArray := prog_1_method_16_code
def yX10_best : MethodName := ⟨RX10, "best", "(II)I"⟩
abbrev cX10_plan : ByteArray := prog_1_method_17_code
def yX10_plan : MethodName := ⟨RX10, "plan", "(IIII)I"⟩
abbrev cX10_adopt : ByteArray := prog_1_method_18_code
def yX10_adopt : MethodName := ⟨RX10, "adopt", "(III)I"⟩
abbrev cX10_bound : ByteArray := prog_1_method_19_code
def yX10_bound : MethodName := ⟨RX10, "bound", "(I)I"⟩
abbrev cX10_store : ByteArray := prog_1_method_20_code
def yX10_store : MethodName := ⟨RX10, "store", "(III)I"⟩
abbrev cX10_over : ByteArray := prog_1_method_21_code
def yX10_over : MethodName := ⟨RX10, "over", "(I)I"⟩
abbrev cX10_count : ByteArray := prog_1_method_22_code
def yX10_count : MethodName := ⟨RX10, "count", "(I)I"⟩
abbrev cX10_layText : ByteArray := prog_1_method_23_code
def yX10_layText : MethodName := ⟨RX10, "layText", "()I"⟩
abbrev cX10_prepareChange : ByteArray := prog_1_method_24_code
def yX10_prepareChange : MethodName := ⟨RX10, "prepareChange", "()V"⟩
abbrev cX10_isBadPlan : ByteArray := prog_1_method_25_code
def yX10_isBadPlan : MethodName := ⟨RX10, "isBadPlan", "(III)Z"⟩
abbrev cX10_isSlot : ByteArray := prog_1_method_26_code
def yX10_isSlot : MethodName := ⟨RX10, "isSlot", "(I)Z"⟩
abbrev cX10_antennaOrNone : ByteArray := prog_1_method_27_code
def yX10_antennaOrNone : MethodName := ⟨RX10, "antennaOrNone", "(I)I"⟩
def RX11 : String := "StationPassesModel"
def TX11 : u_T := fun k => match k with
  | 0 => ("StationPassesModel", "length", "I", false)
  | 1 => ("StationPassesModel", "text", "[I", true)
  | 2 => ("StationPassesModel", "spot", "I", false)
  | 3 => ("StationPassesModel", "sats", "[I", true)
  | 4 => ("StationPassesModel", "stations", "[I", true)
  | 5 => ("StationPassesModel", "antennas", "[I", true)
  | 6 => ("StationPassesModel", "many", "[I", true)
  | 7 => ("StationPassesModel", "readSats", "[I", true)
  | 8 => ("StationPassesModel", "readStations", "[I", true)
  | 9 => ("StationPassesModel", "readAntennas", "[I", true)
  | 10 => ("StationPassesModel", "readMany", "[I", true)
  | 11 => ("StationPassesModel", "first", "[I", true)
  | 12 => ("StationPassesModel", "last", "[I", true)
  | 13 => ("StationPassesModel", "whose", "[I", true)
  | 14 => ("StationPassesModel", "where", "[I", true)
  | 15 => ("StationPassesModel", "volume", "[I", true)
  | 16 => ("StationPassesModel", "passMany", "I", false)
  | 17 => ("StationPassesModel", "now", "[I", true)
  | 18 => ("StationPassesModel", "before", "[I", true)
  | 19 => ("StationPassesModel", "undoMany", "I", false)
  | 20 => ("StationPassesModel", "most", "[I", true)
  | 21 => ("StationPassesModel", "rowMany", "[I", true)
  | 22 => ("StationPassesModel", "next", "[I", true)
  | 23 => ("StationPassesModel", "way", "[I", true)
  | 24 => ("StationPassesModel", "bestWay", "[I", true)
  | 25 => ("StationPassesModel", "found", "[I", true)
  | 26 => ("StationPassesModel", "held", "[I", true)
  | _ => ("StationPassesModel", "rates", "[I", true)
def tyX11 : Nat → FieldType := fun k => match k with
  | 0 => .int
  | 1 => .array .int
  | 2 => .int
  | 3 => .array .int
  | 4 => .array .int
  | 5 => .array .int
  | 6 => .array .int
  | 7 => .array .int
  | 8 => .array .int
  | 9 => .array .int
  | 10 => .array .int
  | 11 => .array .int
  | 12 => .array .int
  | 13 => .array .int
  | 14 => .array .int
  | 15 => .array .int
  | 16 => .int
  | 17 => .array .int
  | 18 => .array .int
  | 19 => .int
  | 20 => .array .int
  | 21 => .array .int
  | 22 => .array .int
  | 23 => .array .int
  | 24 => .array .int
  | 25 => .array .int
  | 26 => .array .int
  | _ => .array .int
theorem nmX11 : ∀ a, a < 28 → ∀ b, b < 28 → a ≠ b → (TX11 a).2.1 ≠ (TX11 b).2.1 := by decide +kernel
theorem tyX11_ok : ∀ k, k < 28 → parseFieldDescriptor (TX11 k).2.2.1 = some (tyX11 k) := by decide +kernel
abbrev cX11_init : ByteArray := prog_13_method_1_code
def yX11_init : MethodName := ⟨RX11, "<init>", "()V"⟩
abbrev cX11_satNow : ByteArray := prog_13_method_2_code
def yX11_satNow : MethodName := ⟨RX11, "satNow", "(IIIIII)V"⟩
abbrev cX11_in : ByteArray := prog_13_method_3_code
def yX11_in : MethodName := ⟨RX11, "in", "(JJJ)Z"⟩
abbrev cX11_write : ByteArray := prog_13_method_4_code
def yX11_write : MethodName := ⟨RX11, "write", "(I)I"⟩
abbrev cX11_wipe : ByteArray := prog_13_method_5_code
def yX11_wipe : MethodName := ⟨RX11, "wipe", "()I"⟩
abbrev cX11_byteAt : ByteArray := prog_13_method_6_code
def yX11_byteAt : MethodName := ⟨RX11, "byteAt", "(I)I"⟩
abbrev cX11_number : ByteArray := prog_13_method_7_code
def yX11_number : MethodName := ⟨RX11, "number", "(III[II)Z"⟩
abbrev cX11_item : ByteArray := prog_13_method_8_code
def yX11_item : MethodName := ⟨RX11, "item", "(I)Z"⟩
abbrev cX11_fault : ByteArray := prog_13_method_9_code
def yX11_fault : MethodName := ⟨RX11, "fault", "()I"⟩
abbrev cX11_lay : ByteArray := prog_13_method_10_code
def yX11_lay : MethodName := ⟨RX11, "lay", "()I"⟩
abbrev cX11_sees : ByteArray := prog_13_method_11_code
def yX11_sees : MethodName := ⟨RX11, "sees", "(III)Z"⟩
abbrev cX11_rateOf : ByteArray := prog_13_method_12_code
def yX11_rateOf : MethodName := ⟨RX11, "rateOf", "(III)I"⟩
abbrev cX11_lays : ByteArray := prog_13_method_13_code
def yX11_lays : MethodName := ⟨RX11, "lays", "()V"⟩
abbrev cX11_isPass : ByteArray := prog_13_method_14_code
def yX11_isPass : MethodName := ⟨RX11, "isPass", "(I)Z"⟩
abbrev cX11_isAntenna : ByteArray := prog_13_method_15_code
def yX11_isAntenna : MethodName := ⟨RX11, "isAntenna", "(I)Z"⟩
abbrev cX11_fits : ByteArray := prog_13_method_16_code
def yX11_fits : MethodName := ⟨RX11, "fits", "(II)Z"⟩
abbrev cX11_together : ByteArray := prog_13_method_17_code
def yX11_together : MethodName := ⟨RX11, "together", "(III)Z"⟩
abbrev cX11_overlap : ByteArray := prog_13_method_18_code
def yX11_overlap : MethodName := ⟨RX11, "overlap", "(II)Z"⟩
abbrev cX11_sumOf : ByteArray := prog_13_method_19_code
def yX11_sumOf : MethodName := ⟨RX11, "sumOf", "(II)I"⟩
abbrev cX11_sat : ByteArray := prog_13_method_20_code
def yX11_sat : MethodName := ⟨RX11, "sat", "(II)I"⟩
abbrev cX11_antenna : ByteArray := prog_13_method_21_code
def yX11_antenna : MethodName := ⟨RX11, "antenna", "(II)I"⟩
abbrev cX11_seen : ByteArray := prog_13_method_22_code
def yX11_seen : MethodName := ⟨RX11, "seen", "(III)I"⟩
abbrev cX11_pass : ByteArray := prog_13_method_23_code
def yX11_pass : MethodName := ⟨RX11, "pass", "(II)I"⟩
abbrev cX11_rateAt : ByteArray := prog_13_method_24_code
def yX11_rateAt : MethodName := ⟨RX11, "rateAt", "(II)I"⟩
abbrev cX11_rate : ByteArray := prog_13_method_25_code
def yX11_rate : MethodName := ⟨RX11, "rate", "(II)I"⟩
abbrev cX11_whyNot : ByteArray := prog_13_method_26_code
def yX11_whyNot : MethodName := ⟨RX11, "whyNot", "(II)I"⟩
abbrev cX11_why : ByteArray := prog_13_method_27_code
def yX11_why : MethodName := ⟨RX11, "why", "(II)I"⟩
abbrev cX11_note : ByteArray := prog_13_method_28_code
def yX11_note : MethodName := ⟨RX11, "note", "()V"⟩
abbrev cX11_undo : ByteArray := prog_13_method_29_code
def yX11_undo : MethodName := ⟨RX11, "undo", "()I"⟩
abbrev cX11_contacts : ByteArray := prog_13_method_30_code
def yX11_contacts : MethodName := ⟨RX11, "contacts", "()I"⟩
abbrev cX11_give : ByteArray := prog_13_method_31_code
def yX11_give : MethodName := ⟨RX11, "give", "(II)I"⟩
abbrev cX11_take : ByteArray := prog_13_method_32_code
def yX11_take : MethodName := ⟨RX11, "take", "(I)I"⟩
abbrev cX11_out : ByteArray := prog_13_method_33_code
def yX11_out : MethodName := ⟨RX11, "out", "(III)I"⟩
abbrev cX11_bestBehind : ByteArray := prog_13_method_34_code
def yX11_bestBehind : MethodName := ⟨RX11, "bestBehind", "(II)I"⟩
abbrev cX11_bests : ByteArray := prog_13_method_35_code
def yX11_bests : MethodName := ⟨RX11, "bests", "(I)V"⟩
abbrev cX11_best : ByteArray := prog_13_method_36_code
def yX11_best : MethodName := ⟨RX11, "best", "(II)I"⟩
abbrev cX11_wide : ByteArray := prog_13_method_37_code
def yX11_wide : MethodName := ⟨RX11, "wide", "(I)I"⟩
abbrev cX11_isWay : ByteArray := prog_13_method_38_code
def yX11_isWay : MethodName := ⟨RX11, "isWay", "(II)Z"⟩
abbrev cX11_fills : ByteArray := prog_13_method_39_code
def yX11_fills : MethodName := ⟨RX11, "fills", "([I)V"⟩
abbrev cX11_flows : ByteArray := prog_13_method_40_code
def yX11_flows : MethodName := ⟨RX11, "flows", "(II)V"⟩
abbrev cX11_lost : ByteArray := prog_13_method_41_code
def yX11_lost : MethodName := ⟨RX11, "lost", "([I)I"⟩
abbrev cX11_volumeOf : ByteArray := prog_13_method_42_code
def yX11_volumeOf : MethodName := ⟨RX11, "volumeOf", "([III)I"⟩
abbrev cX11_isLess : ByteArray := prog_13_method_43_code
def yX11_isLess : MethodName := ⟨RX11, "isLess", "(III)Z"⟩
abbrev cX11_plans : ByteArray := prog_13_method_44_code
def yX11_plans : MethodName := ⟨RX11, "plans", "(III)V"⟩
abbrev cX11_plan : ByteArray := prog_13_method_45_code
def yX11_plan : MethodName := ⟨RX11, "plan", "(IIII)I"⟩
abbrev cX11_adopt : ByteArray := prog_13_method_46_code
def yX11_adopt : MethodName := ⟨RX11, "adopt", "(III)I"⟩
abbrev cX11_bound : ByteArray := prog_13_method_47_code
def yX11_bound : MethodName := ⟨RX11, "bound", "(I)I"⟩
abbrev cX11_store : ByteArray := prog_13_method_48_code
def yX11_store : MethodName := ⟨RX11, "store", "(III)I"⟩
abbrev cX11_over : ByteArray := prog_13_method_49_code
def yX11_over : MethodName := ⟨RX11, "over", "(I)I"⟩
abbrev cX11_count : ByteArray := prog_13_method_50_code
def yX11_count : MethodName := ⟨RX11, "count", "(I)I"⟩
def RJx145de : String := "java/io/Serializable"
def TJx145de : u_T := fun k => match k with
  | _ => ("", "", "", false)
def tyJx145de : Nat → FieldType := fun k => match k with
  | _ => .int
theorem nmJx145de : ∀ a, a < 0 → ∀ b, b < 0 → a ≠ b → (TJx145de a).2.1 ≠ (TJx145de b).2.1 := by decide +kernel
theorem tyJx145de_ok : ∀ k, k < 0 → parseFieldDescriptor (TJx145de k).2.2.1 = some (tyJx145de k) := by decide +kernel
def RJx9f9b0 : String := "java/lang/CharSequence"
def TJx9f9b0 : u_T := fun k => match k with
  | _ => ("", "", "", false)
def tyJx9f9b0 : Nat → FieldType := fun k => match k with
  | _ => .int
theorem nmJx9f9b0 : ∀ a, a < 0 → ∀ b, b < 0 → a ≠ b → (TJx9f9b0 a).2.1 ≠ (TJx9f9b0 b).2.1 := by decide +kernel
theorem tyJx9f9b0_ok : ∀ k, k < 0 → parseFieldDescriptor (TJx9f9b0 k).2.2.1 = some (tyJx9f9b0 k) := by decide +kernel
def RJxb160c : String := "java/lang/Comparable"
def TJxb160c : u_T := fun k => match k with
  | _ => ("", "", "", false)
def tyJxb160c : Nat → FieldType := fun k => match k with
  | _ => .int
theorem nmJxb160c : ∀ a, a < 0 → ∀ b, b < 0 → a ≠ b → (TJxb160c a).2.1 ≠ (TJxb160c b).2.1 := by decide +kernel
theorem tyJxb160c_ok : ∀ k, k < 0 → parseFieldDescriptor (TJxb160c k).2.2.1 = some (tyJxb160c k) := by decide +kernel
def RJ6 : String := "java/lang/Integer"
def TJ6 : u_T := fun k => match k with
  | _ => ("", "", "", false)
def tyJ6 : Nat → FieldType := fun k => match k with
  | _ => .int
theorem nmJ6 : ∀ a, a < 0 → ∀ b, b < 0 → a ≠ b → (TJ6 a).2.1 ≠ (TJ6 b).2.1 := by decide +kernel
theorem tyJ6_ok : ∀ k, k < 0 → parseFieldDescriptor (TJ6 k).2.2.1 = some (tyJ6 k) := by decide +kernel
abbrev cJ6_bitCount_0f7a4 : ByteArray := prog_14_method_49_code
def yJ6_bitCount_0f7a4 : MethodName := ⟨RJ6, "bitCount", "(I)I"⟩
def RJ9 : String := "java/lang/Math"
def TJ9 : u_T := fun k => match k with
  | _ => ("", "", "", false)
def tyJ9 : Nat → FieldType := fun k => match k with
  | _ => .int
theorem nmJ9 : ∀ a, a < 0 → ∀ b, b < 0 → a ≠ b → (TJ9 a).2.1 ≠ (TJ9 b).2.1 := by decide +kernel
theorem tyJ9_ok : ∀ k, k < 0 → parseFieldDescriptor (TJ9 k).2.2.1 = some (tyJ9 k) := by decide +kernel
abbrev cJ9_floorMod_7cf53 : ByteArray := prog_15_method_50_code
def yJ9_floorMod_7cf53 : MethodName := ⟨RJ9, "floorMod", "(II)I"⟩
abbrev cJ9_max_7cf53 : ByteArray := prog_15_method_65_code
def yJ9_max_7cf53 : MethodName := ⟨RJ9, "max", "(II)I"⟩
abbrev cJ9_min_7cf53 : ByteArray := prog_15_method_69_code
def yJ9_min_7cf53 : MethodName := ⟨RJ9, "min", "(II)I"⟩
def RJ0 : String := "java/lang/String"
def TJ0 : u_T := fun k => match k with
  | _ => ("", "", "", false)
def tyJ0 : Nat → FieldType := fun k => match k with
  | _ => .int
theorem nmJ0 : ∀ a, a < 0 → ∀ b, b < 0 → a ≠ b → (TJ0 a).2.1 ≠ (TJ0 b).2.1 := by decide +kernel
theorem tyJ0_ok : ∀ k, k < 0 → parseFieldDescriptor (TJ0 k).2.2.1 = some (tyJ0 k) := by decide +kernel
abbrev cJ0_length_8abf5 : ByteArray := prog_16_method_54_code
def yJ0_length_8abf5 : MethodName := ⟨RJ0, "length", "()I"⟩
abbrev cJ0_charAt_5068e : ByteArray := prog_16_method_56_code
def yJ0_charAt_5068e : MethodName := ⟨RJ0, "charAt", "(I)C"⟩
abbrev cJ0_coder_7d493 : ByteArray := prog_16_method_152_code
def yJ0_coder_7d493 : MethodName := ⟨RJ0, "coder", "()B"⟩
abbrev cJ0_isLatin1_aae02 : ByteArray := prog_16_method_154_code
def yJ0_isLatin1_aae02 : MethodName := ⟨RJ0, "isLatin1", "()Z"⟩
abbrev cJ0_checkIndex_df160 : ByteArray := prog_16_method_155_code
def yJ0_checkIndex_df160 : MethodName := ⟨RJ0, "checkIndex", "(II)V"⟩
def RJ1 : String := "java/lang/StringLatin1"
def TJ1 : u_T := fun k => match k with
  | _ => ("", "", "", false)
def tyJ1 : Nat → FieldType := fun k => match k with
  | _ => .int
theorem nmJ1 : ∀ a, a < 0 → ∀ b, b < 0 → a ≠ b → (TJ1 a).2.1 ≠ (TJ1 b).2.1 := by decide +kernel
theorem tyJ1_ok : ∀ k, k < 0 → parseFieldDescriptor (TJ1 k).2.2.1 = some (tyJ1 k) := by decide +kernel
abbrev cJ1_charAt_3b067 : ByteArray := prog_17_method_2_code
def yJ1_charAt_3b067 : MethodName := ⟨RJ1, "charAt", "([BI)C"⟩
def RJ2 : String := "java/lang/StringUTF16"
def TJ2 : u_T := fun k => match k with
  | _ => ("", "", "", false)
def tyJ2 : Nat → FieldType := fun k => match k with
  | _ => .int
theorem nmJ2 : ∀ a, a < 0 → ∀ b, b < 0 → a ≠ b → (TJ2 a).2.1 ≠ (TJ2 b).2.1 := by decide +kernel
theorem tyJ2_ok : ∀ k, k < 0 → parseFieldDescriptor (TJ2 k).2.2.1 = some (tyJ2 k) := by decide +kernel
abbrev cJ2_getChar_3b067 : ByteArray := prog_18_method_5_code
def yJ2_getChar_3b067 : MethodName := ⟨RJ2, "getChar", "([BI)C"⟩
abbrev cJ2_length_9d52b : ByteArray := prog_18_method_6_code
def yJ2_length_9d52b : MethodName := ⟨RJ2, "length", "([B)I"⟩
abbrev cJ2_charAt_3b067 : ByteArray := prog_18_method_83_code
def yJ2_charAt_3b067 : MethodName := ⟨RJ2, "charAt", "([BI)C"⟩
abbrev cJ2_checkIndex_2214a : ByteArray := prog_18_method_91_code
def yJ2_checkIndex_2214a : MethodName := ⟨RJ2, "checkIndex", "(I[B)V"⟩
def RJ10 : String := "java/lang/System"
def TJ10 : u_T := fun k => match k with
  | _ => ("", "", "", false)
def tyJ10 : Nat → FieldType := fun k => match k with
  | _ => .int
theorem nmJ10 : ∀ a, a < 0 → ∀ b, b < 0 → a ≠ b → (TJ10 a).2.1 ≠ (TJ10 b).2.1 := by decide +kernel
theorem tyJ10_ok : ∀ k, k < 0 → parseFieldDescriptor (TJ10 k).2.2.1 = some (tyJ10 k) := by decide +kernel
def RJxfd54e : String := "java/lang/constant/Constable"
def TJxfd54e : u_T := fun k => match k with
  | _ => ("", "", "", false)
def tyJxfd54e : Nat → FieldType := fun k => match k with
  | _ => .int
theorem nmJxfd54e : ∀ a, a < 0 → ∀ b, b < 0 → a ≠ b → (TJxfd54e a).2.1 ≠ (TJxfd54e b).2.1 := by decide +kernel
theorem tyJxfd54e_ok : ∀ k, k < 0 → parseFieldDescriptor (TJxfd54e k).2.2.1 = some (tyJxfd54e k) := by decide +kernel
def RJx3cf43 : String := "java/lang/constant/ConstantDesc"
def TJx3cf43 : u_T := fun k => match k with
  | _ => ("", "", "", false)
def tyJx3cf43 : Nat → FieldType := fun k => match k with
  | _ => .int
theorem nmJx3cf43 : ∀ a, a < 0 → ∀ b, b < 0 → a ≠ b → (TJx3cf43 a).2.1 ≠ (TJx3cf43 b).2.1 := by decide +kernel
theorem tyJx3cf43_ok : ∀ k, k < 0 → parseFieldDescriptor (TJx3cf43 k).2.2.1 = some (tyJx3cf43 k) := by decide +kernel
def RJ7 : String := "java/util/Arrays"
def TJ7 : u_T := fun k => match k with
  | _ => ("", "", "", false)
def tyJ7 : Nat → FieldType := fun k => match k with
  | _ => .int
theorem nmJ7 : ∀ a, a < 0 → ∀ b, b < 0 → a ≠ b → (TJ7 a).2.1 ≠ (TJ7 b).2.1 := by decide +kernel
theorem tyJ7_ok : ∀ k, k < 0 → parseFieldDescriptor (TJ7 k).2.2.1 = some (tyJ7 k) := by decide +kernel
abbrev cJ7_fill_53178 : ByteArray := prog_20_method_103_code
def yJ7_fill_53178 : MethodName := ⟨RJ7, "fill", "([II)V"⟩
def RJ3 : String := "jdk/internal/util/Preconditions"
def TJ3 : u_T := fun k => match k with
  | _ => ("", "", "", false)
def tyJ3 : Nat → FieldType := fun k => match k with
  | _ => .int
theorem nmJ3 : ∀ a, a < 0 → ∀ b, b < 0 → a ≠ b → (TJ3 a).2.1 ≠ (TJ3 b).2.1 := by decide +kernel
theorem tyJ3_ok : ∀ k, k < 0 → parseFieldDescriptor (TJ3 k).2.2.1 = some (tyJ3 k) := by decide +kernel
abbrev cJ3_checkIndex_8e157 : ByteArray := prog_21_method_11_code
def yJ3_checkIndex_8e157 : MethodName := ⟨RJ3, "checkIndex", "(IILjava/util/function/BiFunction;)I"⟩
def RL : String := "StationPassesLaw"
abbrev cL_law : ByteArray := code
def yL_law : MethodName := ⟨RL, "law", "([I)Z"⟩
abbrev vwCl : List vw_C := [(RX0, TX0, 4), (RX1, TX1, 3), (RX2, TX2, 4), (RX3, TX3, 2), (RX4, TX4, 3), (RX5, TX5, 7), (RX6, TX6, 17), (RX7, TX7, 3), (RX8, TX8, 3), (RX9, TX9, 5), (RX10, TX10, 7), (RX11, TX11, 28)]
