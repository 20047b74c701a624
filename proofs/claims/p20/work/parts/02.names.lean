def RX0 : String := "WindowMatches$History"
def TX0 : u_T := fun k => match k with
  | 0 => ("WindowMatches$History", "states", "[LWindowMatches$State;", true)
  | 1 => ("WindowMatches$History", "oldest", "I", false)
  | _ => ("WindowMatches$History", "size", "I", false)
def tyX0 : Nat → FieldType := fun k => match k with
  | 0 => .array (.object "WindowMatches$State")
  | 1 => .int
  | _ => .int
abbrev wsX00 : List Cond := u_ws RX0 TX0 3
theorem nmX0 : ∀ a, a < 3 → ∀ b, b < 3 → a ≠ b → (TX0 a).2.1 ≠ (TX0 b).2.1 := by decide +kernel
theorem tyX0_ok : ∀ k, k < 3 → parseFieldDescriptor (TX0 k).2.2.1 = some (tyX0 k) := by decide +kernel
abbrev cX0_init : ByteArray := prog_2_method_1_code
def yX0_init : MethodName := ⟨RX0, "<init>", "()V"⟩
abbrev cX0_record : ByteArray := prog_2_method_2_code
def yX0_record : MethodName := ⟨RX0, "record", "(LWindowMatches$State;)V"⟩
abbrev cX0_removeLatestInto : ByteArray := prog_2_method_3_code
def yX0_removeLatestInto : MethodName := ⟨RX0, "removeLatestInto", "(LWindowMatches$State;)V"⟩
def RX1 : String := "WindowMatches$Line"
def TX1 : u_T := fun k => match k with
  | 0 => ("WindowMatches$Line", "size", "I", false)
  | 1 => ("WindowMatches$Line", "numbers", "[I", true)
  | 2 => ("WindowMatches$Line", "kinds", "[C", true)
  | 3 => ("WindowMatches$Line", "values", "[I", true)
  | _ => ("WindowMatches$Line", "times", "[I", true)
def tyX1 : Nat → FieldType := fun k => match k with
  | 0 => .int
  | 1 => .array .int
  | 2 => .array .char
  | 3 => .array .int
  | _ => .array .int
abbrev wsX10 : List Cond := u_ws RX1 TX1 5
theorem nmX1 : ∀ a, a < 5 → ∀ b, b < 5 → a ≠ b → (TX1 a).2.1 ≠ (TX1 b).2.1 := by decide +kernel
theorem tyX1_ok : ∀ k, k < 5 → parseFieldDescriptor (TX1 k).2.2.1 = some (tyX1 k) := by decide +kernel
abbrev cX1_init : ByteArray := prog_3_method_1_code
def yX1_init : MethodName := ⟨RX1, "<init>", "()V"⟩
abbrev cX1_fillFrom : ByteArray := prog_3_method_2_code
def yX1_fillFrom : MethodName := ⟨RX1, "fillFrom", "(LWindowMatches$State;)V"⟩
abbrev cX1_insert : ByteArray := prog_3_method_3_code
def yX1_insert : MethodName := ⟨RX1, "insert", "(ICII)V"⟩
abbrev cX1_put : ByteArray := prog_3_method_4_code
def yX1_put : MethodName := ⟨RX1, "put", "(IICII)V"⟩
abbrev cX1_placeOf : ByteArray := prog_3_method_5_code
def yX1_placeOf : MethodName := ⟨RX1, "placeOf", "(I)I"⟩
def RX2 : String := "WindowMatches$Pattern"
def TX2 : u_T := fun k => match k with
  | 0 => ("WindowMatches$Pattern", "window", "I", false)
  | 1 => ("WindowMatches$Pattern", "rule", "I", false)
  | 2 => ("WindowMatches$Pattern", "steps", "I", false)
  | 3 => ("WindowMatches$Pattern", "plainSteps", "I", false)
  | 4 => ("WindowMatches$Pattern", "kinds", "[C", true)
  | _ => ("WindowMatches$Pattern", "absent", "[Z", true)
def tyX2 : Nat → FieldType := fun k => match k with
  | 0 => .int
  | 1 => .int
  | 2 => .int
  | 3 => .int
  | 4 => .array .char
  | _ => .array .boolean
abbrev wsX20 : List Cond := u_ws RX2 TX2 6
theorem nmX2 : ∀ a, a < 6 → ∀ b, b < 6 → a ≠ b → (TX2 a).2.1 ≠ (TX2 b).2.1 := by decide +kernel
theorem tyX2_ok : ∀ k, k < 6 → parseFieldDescriptor (TX2 k).2.2.1 = some (tyX2 k) := by decide +kernel
abbrev cX2_init : ByteArray := prog_4_method_1_code
def yX2_init : MethodName := ⟨RX2, "<init>", "()V"⟩
abbrev cX2_clearSteps : ByteArray := prog_4_method_2_code
def yX2_clearSteps : MethodName := ⟨RX2, "clearSteps", "()V"⟩
abbrev cX2_hasRoomForStep : ByteArray := prog_4_method_3_code
def yX2_hasRoomForStep : MethodName := ⟨RX2, "hasRoomForStep", "()Z"⟩
abbrev cX2_endsWithPlainStep : ByteArray := prog_4_method_4_code
def yX2_endsWithPlainStep : MethodName := ⟨RX2, "endsWithPlainStep", "()Z"⟩
abbrev cX2_addStep : ByteArray := prog_4_method_5_code
def yX2_addStep : MethodName := ⟨RX2, "addStep", "(CZ)V"⟩
abbrev cX2_copyFrom : ByteArray := prog_4_method_6_code
def yX2_copyFrom : MethodName := ⟨RX2, "copyFrom", "(LWindowMatches$Pattern;)V"⟩
def RX3 : String := "WindowMatches$Search"
def TX3 : u_T := fun k => match k with
  | 0 => ("WindowMatches$Search", "line", "LWindowMatches$Line;", true)
  | 1 => ("WindowMatches$Search", "newestTime", "I", false)
  | 2 => ("WindowMatches$Search", "watermark", "I", false)
  | 3 => ("WindowMatches$Search", "wantedRank", "I", false)
  | 4 => ("WindowMatches$Search", "wantedPlace", "I", false)
  | 5 => ("WindowMatches$Search", "wantedEvent", "I", false)
  | 6 => ("WindowMatches$Search", "window", "I", false)
  | 7 => ("WindowMatches$Search", "rule", "I", false)
  | 8 => ("WindowMatches$Search", "plainSteps", "I", false)
  | 9 => ("WindowMatches$Search", "kinds", "[C", true)
  | 10 => ("WindowMatches$Search", "barsAhead", "[C", true)
  | 11 => ("WindowMatches$Search", "chosen", "[I", true)
  | 12 => ("WindowMatches$Search", "matches", "I", false)
  | 13 => ("WindowMatches$Search", "sureMatches", "I", false)
  | 14 => ("WindowMatches$Search", "branches", "I", false)
  | _ => ("WindowMatches$Search", "shares", "[I", true)
def tyX3 : Nat → FieldType := fun k => match k with
  | 0 => .object "WindowMatches$Line"
  | 1 => .int
  | 2 => .int
  | 3 => .int
  | 4 => .int
  | 5 => .int
  | 6 => .int
  | 7 => .int
  | 8 => .int
  | 9 => .array .char
  | 10 => .array .char
  | 11 => .array .int
  | 12 => .int
  | 13 => .int
  | 14 => .int
  | _ => .array .int
abbrev wsX30 : List Cond := u_ws RX3 TX3 16
theorem nmX3 : ∀ a, a < 16 → ∀ b, b < 16 → a ≠ b → (TX3 a).2.1 ≠ (TX3 b).2.1 := by decide +kernel
theorem tyX3_ok : ∀ k, k < 16 → parseFieldDescriptor (TX3 k).2.2.1 = some (tyX3 k) := by decide +kernel
abbrev cX3_init : ByteArray := prog_5_method_1_code
def yX3_init : MethodName := ⟨RX3, "<init>", "()V"⟩
abbrev cX3_begin : ByteArray := prog_5_method_2_code
def yX3_begin : MethodName := ⟨RX3, "begin", "(LWindowMatches$State;)V"⟩
abbrev cX3_want : ByteArray := prog_5_method_3_code
def yX3_want : MethodName := ⟨RX3, "want", "(II)V"⟩
abbrev cX3_runAll : ByteArray := prog_5_method_4_code
def yX3_runAll : MethodName := ⟨RX3, "runAll", "(LWindowMatches$State;)I"⟩
abbrev cX3_run : ByteArray := prog_5_method_5_code
def yX3_run : MethodName := ⟨RX3, "run", "(LWindowMatches$Pattern;)V"⟩
abbrev cX3_takePlainSteps : ByteArray := prog_5_method_6_code
def yX3_takePlainSteps : MethodName := ⟨RX3, "takePlainSteps", "(LWindowMatches$Pattern;)V"⟩
abbrev cX3_walkFrom : ByteArray := prog_5_method_7_code
def yX3_walkFrom : MethodName := ⟨RX3, "walkFrom", "(LWindowMatches$Search;I)I"⟩
abbrev cX3_isInWindow : ByteArray := prog_5_method_8_code
def yX3_isInWindow : MethodName := ⟨RX3, "isInWindow", "(II)Z"⟩
abbrev cX3_suits : ByteArray := prog_5_method_9_code
def yX3_suits : MethodName := ⟨RX3, "suits", "(II)Z"⟩
abbrev cX3_tellBranch : ByteArray := prog_5_method_10_code
def yX3_tellBranch : MethodName := ⟨RX3, "tellBranch", "(I)V"⟩
abbrev cX3_tellMatch : ByteArray := prog_5_method_11_code
def yX3_tellMatch : MethodName := ⟨RX3, "tellMatch", "()V"⟩
abbrev cX3_shareOf : ByteArray := prog_5_method_12_code
def yX3_shareOf : MethodName := ⟨RX3, "shareOf", "(I)I"⟩
abbrev cX3_placesWithoutShare : ByteArray := prog_5_method_13_code
def yX3_placesWithoutShare : MethodName := ⟨RX3, "placesWithoutShare", "()I"⟩
def RX4 : String := "WindowMatches$State"
def TX4 : u_T := fun k => match k with
  | 0 => ("WindowMatches$State", "events", "I", false)
  | 1 => ("WindowMatches$State", "kinds", "[C", true)
  | 2 => ("WindowMatches$State", "values", "[I", true)
  | 3 => ("WindowMatches$State", "times", "[I", true)
  | 4 => ("WindowMatches$State", "newestTime", "I", false)
  | 5 => ("WindowMatches$State", "lateness", "I", false)
  | 6 => ("WindowMatches$State", "patternCount", "I", false)
  | _ => ("WindowMatches$State", "patterns", "[LWindowMatches$Pattern;", true)
def tyX4 : Nat → FieldType := fun k => match k with
  | 0 => .int
  | 1 => .array .char
  | 2 => .array .int
  | 3 => .array .int
  | 4 => .int
  | 5 => .int
  | 6 => .int
  | _ => .array (.object "WindowMatches$Pattern")
abbrev wsX40 : List Cond := u_ws RX4 TX4 8
theorem nmX4 : ∀ a, a < 8 → ∀ b, b < 8 → a ≠ b → (TX4 a).2.1 ≠ (TX4 b).2.1 := by decide +kernel
theorem tyX4_ok : ∀ k, k < 8 → parseFieldDescriptor (TX4 k).2.2.1 = some (tyX4 k) := by decide +kernel
abbrev cX4_init : ByteArray := prog_6_method_1_code
def yX4_init : MethodName := ⟨RX4, "<init>", "()V"⟩
abbrev cX4_copyFrom : ByteArray := prog_6_method_2_code
def yX4_copyFrom : MethodName := ⟨RX4, "copyFrom", "(LWindowMatches$State;)V"⟩
abbrev cX4_watermark : ByteArray := prog_6_method_3_code
def yX4_watermark : MethodName := ⟨RX4, "watermark", "()I"⟩
abbrev cX4_addEvent : ByteArray := prog_6_method_4_code
def yX4_addEvent : MethodName := ⟨RX4, "addEvent", "(CII)I"⟩
abbrev cX4_putEvent : ByteArray := prog_6_method_5_code
def yX4_putEvent : MethodName := ⟨RX4, "putEvent", "(ICII)V"⟩
abbrev cX4_eventsAheadOf : ByteArray := prog_6_method_6_code
def yX4_eventsAheadOf : MethodName := ⟨RX4, "eventsAheadOf", "(I)I"⟩
abbrev cX4_removeEventsAheadOf : ByteArray := prog_6_method_7_code
def yX4_removeEventsAheadOf : MethodName := ⟨RX4, "removeEventsAheadOf", "(I)V"⟩
abbrev cX4_addCopyOf : ByteArray := prog_6_method_8_code
def yX4_addCopyOf : MethodName := ⟨RX4, "addCopyOf", "(LWindowMatches$Pattern;)I"⟩
abbrev cX4_removePattern : ByteArray := prog_6_method_9_code
def yX4_removePattern : MethodName := ⟨RX4, "removePattern", "(I)I"⟩
def RX5 : String := "WindowMatches$Words"
def TX5 : u_T := fun k => match k with
  | 0 => ("WindowMatches$Words", "characters", "[C", true)
  | 1 => ("WindowMatches$Words", "length", "I", false)
  | _ => ("WindowMatches$Words", "at", "I", false)
def tyX5 : Nat → FieldType := fun k => match k with
  | 0 => .array .char
  | 1 => .int
  | _ => .int
abbrev wsX50 : List Cond := u_ws RX5 TX5 3
theorem nmX5 : ∀ a, a < 3 → ∀ b, b < 3 → a ≠ b → (TX5 a).2.1 ≠ (TX5 b).2.1 := by decide +kernel
theorem tyX5_ok : ∀ k, k < 3 → parseFieldDescriptor (TX5 k).2.2.1 = some (tyX5 k) := by decide +kernel
abbrev cX5_init : ByteArray := prog_7_method_1_code
def yX5_init : MethodName := ⟨RX5, "<init>", "()V"⟩
abbrev cX5_append : ByteArray := prog_7_method_2_code
def yX5_append : MethodName := ⟨RX5, "append", "(C)I"⟩
abbrev cX5_readInto : ByteArray := prog_7_method_3_code
def yX5_readInto : MethodName := ⟨RX5, "readInto", "(LWindowMatches$Pattern;)I"⟩
abbrev cX5_next : ByteArray := prog_7_method_4_code
def yX5_next : MethodName := ⟨RX5, "next", "()C"⟩
abbrev cX5_takesWord : ByteArray := prog_7_method_5_code
def yX5_takesWord : MethodName := ⟨RX5, "takesWord", "(Ljava/lang/String;)Z"⟩
abbrev cX5_takesWindow : ByteArray := prog_7_method_6_code
def yX5_takesWindow : MethodName := ⟨RX5, "takesWindow", "(LWindowMatches$Pattern;)Z"⟩
abbrev cX5_takesRule : ByteArray := prog_7_method_7_code
def yX5_takesRule : MethodName := ⟨RX5, "takesRule", "(LWindowMatches$Pattern;)Z"⟩
abbrev cX5_takesSteps : ByteArray := prog_7_method_8_code
def yX5_takesSteps : MethodName := ⟨RX5, "takesSteps", "(LWindowMatches$Pattern;)Z"⟩
abbrev cX5_takesStep : ByteArray := prog_7_method_9_code
def yX5_takesStep : MethodName := ⟨RX5, "takesStep", "(LWindowMatches$Pattern;)Z"⟩
def RX6 : String := "WindowMatches"
def TX6 : u_T := fun k => match k with
  | 0 => ("WindowMatches", "now", "LWindowMatches$State;", true)
  | 1 => ("WindowMatches", "snapshot", "LWindowMatches$State;", true)
  | 2 => ("WindowMatches", "hasSnapshot", "Z", false)
  | 3 => ("WindowMatches", "history", "LWindowMatches$History;", true)
  | 4 => ("WindowMatches", "text", "LWindowMatches$Words;", true)
  | 5 => ("WindowMatches", "readPattern", "LWindowMatches$Pattern;", true)
  | _ => ("WindowMatches", "search", "LWindowMatches$Search;", true)
def tyX6 : Nat → FieldType := fun k => match k with
  | 0 => .object "WindowMatches$State"
  | 1 => .object "WindowMatches$State"
  | 2 => .boolean
  | 3 => .object "WindowMatches$History"
  | 4 => .object "WindowMatches$Words"
  | 5 => .object "WindowMatches$Pattern"
  | _ => .object "WindowMatches$Search"
abbrev wsX60 : List Cond := u_ws RX6 TX6 7
theorem nmX6 : ∀ a, a < 7 → ∀ b, b < 7 → a ≠ b → (TX6 a).2.1 ≠ (TX6 b).2.1 := by decide +kernel
theorem tyX6_ok : ∀ k, k < 7 → parseFieldDescriptor (TX6 k).2.2.1 = some (tyX6 k) := by decide +kernel
abbrev cX6_init : ByteArray := prog_1_method_1_code
def yX6_init : MethodName := ⟨RX6, "<init>", "()V"⟩
abbrev cX6_event : ByteArray := prog_1_method_2_code
def yX6_event : MethodName := ⟨RX6, "event", "(CII)I"⟩
abbrev cX6_forget : ByteArray := prog_1_method_3_code
def yX6_forget : MethodName := ⟨RX6, "forget", "(I)I"⟩
abbrev cX6_setLateness : ByteArray := prog_1_method_4_code
def yX6_setLateness : MethodName := ⟨RX6, "setLateness", "(I)I"⟩
abbrev cX6_addPattern : ByteArray := prog_1_method_5_code
def yX6_addPattern : MethodName := ⟨RX6, "addPattern", "()I"⟩
abbrev cX6_dropPattern : ByteArray := prog_1_method_6_code
def yX6_dropPattern : MethodName := ⟨RX6, "dropPattern", "(I)I"⟩
abbrev cX6_setWindow : ByteArray := prog_1_method_7_code
def yX6_setWindow : MethodName := ⟨RX6, "setWindow", "(II)I"⟩
abbrev cX6_type : ByteArray := prog_1_method_8_code
def yX6_type : MethodName := ⟨RX6, "type", "(C)I"⟩
abbrev cX6_clearText : ByteArray := prog_1_method_9_code
def yX6_clearText : MethodName := ⟨RX6, "clearText", "()I"⟩
abbrev cX6_undo : ByteArray := prog_1_method_10_code
def yX6_undo : MethodName := ⟨RX6, "undo", "()I"⟩
abbrev cX6_eventOf : ByteArray := prog_1_method_13_code
def yX6_eventOf : MethodName := ⟨RX6, "eventOf", "(II)I"⟩
abbrev cX6_pattern : ByteArray := prog_1_method_14_code
def yX6_pattern : MethodName := ⟨RX6, "pattern", "(II)I"⟩
abbrev cX6_step : ByteArray := prog_1_method_15_code
def yX6_step : MethodName := ⟨RX6, "step", "(III)I"⟩
abbrev cX6_match : ByteArray := prog_1_method_16_code
def yX6_match : MethodName := ⟨RX6, "match", "(III)I"⟩
abbrev cX6_ifEvent : ByteArray := prog_1_method_17_code
def yX6_ifEvent : MethodName := ⟨RX6, "ifEvent", "(CII)I"⟩
abbrev cX6_count : ByteArray := prog_1_method_18_code
def yX6_count : MethodName := ⟨RX6, "count", "(I)I"⟩
abbrev cX6_isWithin : ByteArray := prog_1_method_19_code
def yX6_isWithin : MethodName := ⟨RX6, "isWithin", "(III)Z"⟩
abbrev cX6_isKind : ByteArray := prog_1_method_20_code
def yX6_isKind : MethodName := ⟨RX6, "isKind", "(C)Z"⟩
abbrev cX6_isPattern : ByteArray := prog_1_method_21_code
def yX6_isPattern : MethodName := ⟨RX6, "isPattern", "(I)Z"⟩
abbrev cX6_errorOfEvent : ByteArray := prog_1_method_22_code
def yX6_errorOfEvent : MethodName := ⟨RX6, "errorOfEvent", "(CII)I"⟩
abbrev cX6_searchFor : ByteArray := prog_1_method_23_code
def yX6_searchFor : MethodName := ⟨RX6, "searchFor", "(LWindowMatches$Pattern;)V"⟩
def RX7 : String := "WindowMatchesModel"
def TX7 : u_T := fun k => match k with
  | _ => ("", "", "", false)
def tyX7 : Nat → FieldType := fun k => match k with
  | _ => .int
abbrev wsX70 : List Cond := u_ws RX7 TX7 0
theorem nmX7 : ∀ a, a < 0 → ∀ b, b < 0 → a ≠ b → (TX7 a).2.1 ≠ (TX7 b).2.1 := by decide +kernel
theorem tyX7_ok : ∀ k, k < 0 → parseFieldDescriptor (TX7 k).2.2.1 = some (tyX7 k) := by decide +kernel
def RJ9 : String := "java/lang/Math"
def TJ9 : u_T := fun k => match k with
  | _ => ("", "", "", false)
def tyJ9 : Nat → FieldType := fun k => match k with
  | _ => .int
abbrev wsJ90 : List Cond := u_ws RJ9 TJ9 0
theorem nmJ9 : ∀ a, a < 0 → ∀ b, b < 0 → a ≠ b → (TJ9 a).2.1 ≠ (TJ9 b).2.1 := by decide +kernel
theorem tyJ9_ok : ∀ k, k < 0 → parseFieldDescriptor (TJ9 k).2.2.1 = some (tyJ9 k) := by decide +kernel
abbrev cJ9_max_7cf53 : ByteArray := prog_10_method_65_code
def yJ9_max_7cf53 : MethodName := ⟨RJ9, "max", "(II)I"⟩
def RJ0 : String := "java/lang/String"
def TJ0 : u_T := fun k => match k with
  | _ => ("", "", "", false)
def tyJ0 : Nat → FieldType := fun k => match k with
  | _ => .int
abbrev wsJ00 : List Cond := u_ws RJ0 TJ0 0
theorem nmJ0 : ∀ a, a < 0 → ∀ b, b < 0 → a ≠ b → (TJ0 a).2.1 ≠ (TJ0 b).2.1 := by decide +kernel
theorem tyJ0_ok : ∀ k, k < 0 → parseFieldDescriptor (TJ0 k).2.2.1 = some (tyJ0 k) := by decide +kernel
abbrev cJ0_length_8abf5 : ByteArray := prog_11_method_54_code
def yJ0_length_8abf5 : MethodName := ⟨RJ0, "length", "()I"⟩
abbrev cJ0_charAt_5068e : ByteArray := prog_11_method_56_code
def yJ0_charAt_5068e : MethodName := ⟨RJ0, "charAt", "(I)C"⟩
abbrev cJ0_coder_7d493 : ByteArray := prog_11_method_152_code
def yJ0_coder_7d493 : MethodName := ⟨RJ0, "coder", "()B"⟩
abbrev cJ0_isLatin1_aae02 : ByteArray := prog_11_method_154_code
def yJ0_isLatin1_aae02 : MethodName := ⟨RJ0, "isLatin1", "()Z"⟩
abbrev cJ0_checkIndex_df160 : ByteArray := prog_11_method_155_code
def yJ0_checkIndex_df160 : MethodName := ⟨RJ0, "checkIndex", "(II)V"⟩
def RJ1 : String := "java/lang/StringLatin1"
def TJ1 : u_T := fun k => match k with
  | _ => ("", "", "", false)
def tyJ1 : Nat → FieldType := fun k => match k with
  | _ => .int
abbrev wsJ10 : List Cond := u_ws RJ1 TJ1 0
theorem nmJ1 : ∀ a, a < 0 → ∀ b, b < 0 → a ≠ b → (TJ1 a).2.1 ≠ (TJ1 b).2.1 := by decide +kernel
theorem tyJ1_ok : ∀ k, k < 0 → parseFieldDescriptor (TJ1 k).2.2.1 = some (tyJ1 k) := by decide +kernel
abbrev cJ1_charAt_3b067 : ByteArray := prog_12_method_2_code
def yJ1_charAt_3b067 : MethodName := ⟨RJ1, "charAt", "([BI)C"⟩
def RJ2 : String := "java/lang/StringUTF16"
def TJ2 : u_T := fun k => match k with
  | _ => ("", "", "", false)
def tyJ2 : Nat → FieldType := fun k => match k with
  | _ => .int
abbrev wsJ20 : List Cond := u_ws RJ2 TJ2 0
theorem nmJ2 : ∀ a, a < 0 → ∀ b, b < 0 → a ≠ b → (TJ2 a).2.1 ≠ (TJ2 b).2.1 := by decide +kernel
theorem tyJ2_ok : ∀ k, k < 0 → parseFieldDescriptor (TJ2 k).2.2.1 = some (tyJ2 k) := by decide +kernel
abbrev cJ2_getChar_3b067 : ByteArray := prog_13_method_5_code
def yJ2_getChar_3b067 : MethodName := ⟨RJ2, "getChar", "([BI)C"⟩
abbrev cJ2_length_9d52b : ByteArray := prog_13_method_6_code
def yJ2_length_9d52b : MethodName := ⟨RJ2, "length", "([B)I"⟩
abbrev cJ2_charAt_3b067 : ByteArray := prog_13_method_83_code
def yJ2_charAt_3b067 : MethodName := ⟨RJ2, "charAt", "([BI)C"⟩
abbrev cJ2_checkIndex_2214a : ByteArray := prog_13_method_91_code
def yJ2_checkIndex_2214a : MethodName := ⟨RJ2, "checkIndex", "(I[B)V"⟩
def RJ3 : String := "jdk/internal/util/Preconditions"
def TJ3 : u_T := fun k => match k with
  | _ => ("", "", "", false)
def tyJ3 : Nat → FieldType := fun k => match k with
  | _ => .int
abbrev wsJ30 : List Cond := u_ws RJ3 TJ3 0
theorem nmJ3 : ∀ a, a < 0 → ∀ b, b < 0 → a ≠ b → (TJ3 a).2.1 ≠ (TJ3 b).2.1 := by decide +kernel
theorem tyJ3_ok : ∀ k, k < 0 → parseFieldDescriptor (TJ3 k).2.2.1 = some (tyJ3 k) := by decide +kernel
abbrev cJ3_checkIndex_8e157 : ByteArray := prog_14_method_11_code
def yJ3_checkIndex_8e157 : MethodName := ⟨RJ3, "checkIndex", "(IILjava/util/function/BiFunction;)I"⟩
def RL : String := "WindowMatchesLaw"
abbrev cL_cell : ByteArray := method_2_code
def yL_cell : MethodName := ⟨RL, "cell", "([II)I"⟩
abbrev cL_up : ByteArray := method_3_code
def yL_up : MethodName := ⟨RL, "up", "(II)I"⟩
abbrev cL_there : ByteArray := method_4_code
def yL_there : MethodName := ⟨RL, "there", "(I)C"⟩
abbrev cL_types : ByteArray := method_5_code
def yL_types : MethodName := ⟨RL, "types", "(LWindowMatches;LWindowMatches;J)Z"⟩
abbrev cL_isPattern : ByteArray := method_6_code
def yL_isPattern : MethodName := ⟨RL, "isPattern", "(LWindowMatches;LWindowMatches;II)Z"⟩
abbrev cL_isStep : ByteArray := method_7_code
def yL_isStep : MethodName := ⟨RL, "isStep", "(LWindowMatches;LWindowMatches;II)Z"⟩
abbrev cL_areAlike : ByteArray := method_8_code
def yL_areAlike : MethodName := ⟨RL, "areAlike", "(LWindowMatches;LWindowMatches;)Z"⟩
abbrev cL_isWell : ByteArray := method_9_code
def yL_isWell : MethodName := ⟨RL, "isWell", "(LWindowMatches;)Z"⟩
abbrev cL_law : ByteArray := code
def yL_law : MethodName := ⟨RL, "law", "([I)Z"⟩
abbrev vwCl : List vw_C := [(RX0, TX0, 3), (RX1, TX1, 5), (RX2, TX2, 6), (RX3, TX3, 16), (RX4, TX4, 8), (RX5, TX5, 3), (RX6, TX6, 7)]
