def RX0 : String := "OldWorks$Big"
def TX0 : u_T := fun k => match k with
  | 0 => ("OldWorks$Big", "digits", "[I", true)
  | _ => ("OldWorks$Big", "many", "I", false)
def tyX0 : Nat → FieldType := fun k => match k with
  | 0 => .array .int
  | _ => .int
abbrev wsX00 : List Cond := u_ws RX0 TX0 2
theorem nmX0 : ∀ a, a < 2 → ∀ b, b < 2 → a ≠ b → (TX0 a).2.1 ≠ (TX0 b).2.1 := by decide +kernel
theorem tyX0_ok : ∀ k, k < 2 → parseFieldDescriptor (TX0 k).2.2.1 = some (tyX0 k) := by decide +kernel
abbrev cX0_init : ByteArray := prog_2_method_1_code
def yX0_init : MethodName := ⟨RX0, "<init>", "()V"⟩
abbrev cX0_set : ByteArray := prog_2_method_2_code
def yX0_set : MethodName := ⟨RX0, "set", "(I)V"⟩
abbrev cX0_copy : ByteArray := prog_2_method_3_code
def yX0_copy : MethodName := ⟨RX0, "copy", "(LOldWorks$Big;)V"⟩
abbrev cX0_times : ByteArray := prog_2_method_4_code
def yX0_times : MethodName := ⟨RX0, "times", "(I)V"⟩
abbrev cX0_above : ByteArray := prog_2_method_5_code
def yX0_above : MethodName := ⟨RX0, "above", "(LOldWorks$Big;)Z"⟩
abbrev cX0_rows : ByteArray := prog_2_method_6_code
def yX0_rows : MethodName := ⟨RX0, "rows", "()I"⟩
abbrev cX0_at : ByteArray := prog_2_method_7_code
def yX0_at : MethodName := ⟨RX0, "at", "(I)I"⟩
def RX1 : String := "OldWorks$Breaks"
def TX1 : u_T := fun k => match k with
  | 0 => ("OldWorks$Breaks", "shop", "LOldWorks$Shop;", true)
  | 1 => ("OldWorks$Breaks", "above", "LOldWorks$Big;", true)
  | 2 => ("OldWorks$Breaks", "below", "LOldWorks$Big;", true)
  | 3 => ("OldWorks$Breaks", "left", "LOldWorks$Big;", true)
  | 4 => ("OldWorks$Breaks", "right", "LOldWorks$Big;", true)
  | 5 => ("OldWorks$Breaks", "keeps", "I", false)
  | _ => ("OldWorks$Breaks", "outOf", "I", false)
def tyX1 : Nat → FieldType := fun k => match k with
  | 0 => .object "OldWorks$Shop"
  | 1 => .object "OldWorks$Big"
  | 2 => .object "OldWorks$Big"
  | 3 => .object "OldWorks$Big"
  | 4 => .object "OldWorks$Big"
  | 5 => .int
  | _ => .int
abbrev wsX10 : List Cond := u_ws RX1 TX1 7
theorem nmX1 : ∀ a, a < 7 → ∀ b, b < 7 → a ≠ b → (TX1 a).2.1 ≠ (TX1 b).2.1 := by decide +kernel
theorem tyX1_ok : ∀ k, k < 7 → parseFieldDescriptor (TX1 k).2.2.1 = some (tyX1 k) := by decide +kernel
abbrev cX1_init : ByteArray := prog_3_method_1_code
def yX1_init : MethodName := ⟨RX1, "<init>", "(LOldWorks$Shop;)V"⟩
abbrev cX1_side : ByteArray := prog_3_method_2_code
def yX1_side : MethodName := ⟨RX1, "side", "(I)LOldWorks$Big;"⟩
abbrev cX1_last : ByteArray := prog_3_method_3_code
def yX1_last : MethodName := ⟨RX1, "last", "(II)V"⟩
abbrev cX1_halved : ByteArray := prog_3_method_4_code
def yX1_halved : MethodName := ⟨RX1, "halved", "(I)I"⟩
abbrev cX1_chooseYear : ByteArray := prog_3_method_5_code
def yX1_chooseYear : MethodName := ⟨RX1, "chooseYear", "(I)V"⟩
abbrev cX1_shorten : ByteArray := prog_3_method_6_code
def yX1_shorten : MethodName := ⟨RX1, "shorten", "(I)V"⟩
abbrev cX1_oddsOf : ByteArray := prog_3_method_7_code
def yX1_oddsOf : MethodName := ⟨RX1, "oddsOf", "(III)I"⟩
abbrev cX1_fit : ByteArray := prog_3_method_8_code
def yX1_fit : MethodName := ⟨RX1, "fit", "()I"⟩
abbrev cX1_weigh : ByteArray := prog_3_method_9_code
def yX1_weigh : MethodName := ⟨RX1, "weigh", "(II)Z"⟩
abbrev cX1_reached : ByteArray := prog_3_method_10_code
def yX1_reached : MethodName := ⟨RX1, "reached", "(I)I"⟩
def RX2 : String := "OldWorks$Fits"
def TX2 : u_T := fun k => match k with
  | 0 => ("OldWorks$Fits", "shop", "LOldWorks$Shop;", true)
  | 1 => ("OldWorks$Fits", "law", "LOldWorks$Law;", true)
  | 2 => ("OldWorks$Fits", "sizes", "LOldWorks$Sizes;", true)
  | 3 => ("OldWorks$Fits", "parts", "[I", true)
  | 4 => ("OldWorks$Fits", "leasts", "[I", true)
  | 5 => ("OldWorks$Fits", "greatests", "[I", true)
  | 6 => ("OldWorks$Fits", "chain", "I", false)
  | 7 => ("OldWorks$Fits", "sized", "Z", false)
  | 8 => ("OldWorks$Fits", "least", "I", false)
  | _ => ("OldWorks$Fits", "greatest", "I", false)
def tyX2 : Nat → FieldType := fun k => match k with
  | 0 => .object "OldWorks$Shop"
  | 1 => .object "OldWorks$Law"
  | 2 => .object "OldWorks$Sizes"
  | 3 => .array .int
  | 4 => .array .int
  | 5 => .array .int
  | 6 => .int
  | 7 => .boolean
  | 8 => .int
  | _ => .int
abbrev wsX20 : List Cond := u_ws RX2 TX2 10
theorem nmX2 : ∀ a, a < 10 → ∀ b, b < 10 → a ≠ b → (TX2 a).2.1 ≠ (TX2 b).2.1 := by decide +kernel
theorem tyX2_ok : ∀ k, k < 10 → parseFieldDescriptor (TX2 k).2.2.1 = some (tyX2 k) := by decide +kernel
abbrev cX2_init : ByteArray := prog_4_method_1_code
def yX2_init : MethodName := ⟨RX2, "<init>", "(LOldWorks$Shop;LOldWorks$Law;LOldWorks$Sizes;)V"⟩
abbrev cX2_take : ByteArray := prog_4_method_2_code
def yX2_take : MethodName := ⟨RX2, "take", "(III)V"⟩
abbrev cX2_addUp : ByteArray := prog_4_method_3_code
def yX2_addUp : MethodName := ⟨RX2, "addUp", "(I)V"⟩
abbrev cX2_holdIn : ByteArray := prog_4_method_4_code
def yX2_holdIn : MethodName := ⟨RX2, "holdIn", "(I)Z"⟩
def RX3 : String := "OldWorks$Givings"
def TX3 : u_T := fun k => match k with
  | 0 => ("OldWorks$Givings", "shop", "LOldWorks$Shop;", true)
  | 1 => ("OldWorks$Givings", "most", "[[I", true)
  | 2 => ("OldWorks$Givings", "years", "[I", true)
  | 3 => ("OldWorks$Givings", "kinds", "[I", true)
  | 4 => ("OldWorks$Givings", "pairs", "[I", true)
  | _ => ("OldWorks$Givings", "spares", "I", false)
def tyX3 : Nat → FieldType := fun k => match k with
  | 0 => .object "OldWorks$Shop"
  | 1 => .array (.array .int)
  | 2 => .array .int
  | 3 => .array .int
  | 4 => .array .int
  | _ => .int
abbrev wsX30 : List Cond := u_ws RX3 TX3 6
theorem nmX3 : ∀ a, a < 6 → ∀ b, b < 6 → a ≠ b → (TX3 a).2.1 ≠ (TX3 b).2.1 := by decide +kernel
theorem tyX3_ok : ∀ k, k < 6 → parseFieldDescriptor (TX3 k).2.2.1 = some (tyX3 k) := by decide +kernel
abbrev cX3_init : ByteArray := prog_5_method_1_code
def yX3_init : MethodName := ⟨RX3, "<init>", "(LOldWorks$Shop;)V"⟩
abbrev cX3_find : ByteArray := prog_5_method_2_code
def yX3_find : MethodName := ⟨RX3, "find", "()V"⟩
abbrev cX3_gatherSpares : ByteArray := prog_5_method_3_code
def yX3_gatherSpares : MethodName := ⟨RX3, "gatherSpares", "()V"⟩
abbrev cX3_parts : ByteArray := prog_5_method_4_code
def yX3_parts : MethodName := ⟨RX3, "parts", "(I)Z"⟩
abbrev cX3_open : ByteArray := prog_5_method_5_code
def yX3_open : MethodName := ⟨RX3, "open", "(II)I"⟩
abbrev cX3_mostOf : ByteArray := prog_5_method_6_code
def yX3_mostOf : MethodName := ⟨RX3, "mostOf", "(II)I"⟩
abbrev cX3_after : ByteArray := prog_5_method_7_code
def yX3_after : MethodName := ⟨RX3, "after", "(II)I"⟩
abbrev cX3_mostYears : ByteArray := prog_5_method_8_code
def yX3_mostYears : MethodName := ⟨RX3, "mostYears", "()I"⟩
abbrev cX3_spareOf : ByteArray := prog_5_method_9_code
def yX3_spareOf : MethodName := ⟨RX3, "spareOf", "(I)I"⟩
abbrev cX3_givenTo : ByteArray := prog_5_method_10_code
def yX3_givenTo : MethodName := ⟨RX3, "givenTo", "(II)I"⟩
def RX4 : String := "OldWorks$Law"
def TX4 : u_T := fun k => match k with
  | 0 => ("OldWorks$Law", "shop", "LOldWorks$Shop;", true)
  | 1 => ("OldWorks$Law", "steps", "[I", true)
  | 2 => ("OldWorks$Law", "waiting", "[I", true)
  | 3 => ("OldWorks$Law", "pile", "[J", true)
  | 4 => ("OldWorks$Law", "written", "I", false)
  | 5 => ("OldWorks$Law", "waits", "I", false)
  | 6 => ("OldWorks$Law", "open", "I", false)
  | 7 => ("OldWorks$Law", "digits", "I", false)
  | 8 => ("OldWorks$Law", "unitDue", "Z", false)
  | _ => ("OldWorks$Law", "flaw", "I", false)
def tyX4 : Nat → FieldType := fun k => match k with
  | 0 => .object "OldWorks$Shop"
  | 1 => .array .int
  | 2 => .array .int
  | 3 => .array .long
  | 4 => .int
  | 5 => .int
  | 6 => .int
  | 7 => .int
  | 8 => .boolean
  | _ => .int
abbrev wsX40 : List Cond := u_ws RX4 TX4 10
theorem nmX4 : ∀ a, a < 10 → ∀ b, b < 10 → a ≠ b → (TX4 a).2.1 ≠ (TX4 b).2.1 := by decide +kernel
theorem tyX4_ok : ∀ k, k < 10 → parseFieldDescriptor (TX4 k).2.2.1 = some (tyX4 k) := by decide +kernel
abbrev cX4_init : ByteArray := prog_6_method_1_code
def yX4_init : MethodName := ⟨RX4, "<init>", "(LOldWorks$Shop;)V"⟩
abbrev cX4_flaw : ByteArray := prog_6_method_2_code
def yX4_flaw : MethodName := ⟨RX4, "flaw", "()I"⟩
abbrev cX4_read : ByteArray := prog_6_method_3_code
def yX4_read : MethodName := ⟨RX4, "read", "()V"⟩
abbrev cX4_readDigit : ByteArray := prog_6_method_4_code
def yX4_readDigit : MethodName := ⟨RX4, "readDigit", "(II)V"⟩
abbrev cX4_readSign : ByteArray := prog_6_method_5_code
def yX4_readSign : MethodName := ⟨RX4, "readSign", "(II)V"⟩
abbrev cX4_startsUnit : ByteArray := prog_6_method_6_code
def yX4_startsUnit : MethodName := ⟨RX4, "startsUnit", "(I)Z"⟩
abbrev cX4_followsUnit : ByteArray := prog_6_method_7_code
def yX4_followsUnit : MethodName := ⟨RX4, "followsUnit", "(I)Z"⟩
abbrev cX4_rank : ByteArray := prog_6_method_8_code
def yX4_rank : MethodName := ⟨RX4, "rank", "(I)I"⟩
abbrev cX4_lastRank : ByteArray := prog_6_method_9_code
def yX4_lastRank : MethodName := ⟨RX4, "lastRank", "()I"⟩
abbrev cX4_settle : ByteArray := prog_6_method_10_code
def yX4_settle : MethodName := ⟨RX4, "settle", "(I)V"⟩
abbrev cX4_put : ByteArray := prog_6_method_11_code
def yX4_put : MethodName := ⟨RX4, "put", "(I)V"⟩
abbrev cX4_await : ByteArray := prog_6_method_12_code
def yX4_await : MethodName := ⟨RX4, "await", "(I)V"⟩
abbrev cX4_wornOf : ByteArray := prog_6_method_13_code
def yX4_wornOf : MethodName := ⟨RX4, "wornOf", "(II)I"⟩
abbrev cX4_tells : ByteArray := prog_6_method_14_code
def yX4_tells : MethodName := ⟨RX4, "tells", "(III)J"⟩
abbrev cX4_joined : ByteArray := prog_6_method_15_code
def yX4_joined : MethodName := ⟨RX4, "joined", "(IJJ)J"⟩
def RX5 : String := "OldWorks$Plans"
def TX5 : u_T := fun k => match k with
  | 0 => ("OldWorks$Plans", "shop", "LOldWorks$Shop;", true)
  | 1 => ("OldWorks$Plans", "lessons", "[I", true)
  | 2 => ("OldWorks$Plans", "learns", "[I", true)
  | 3 => ("OldWorks$Plans", "bits", "[I", true)
  | 4 => ("OldWorks$Plans", "skilled", "[I", true)
  | 5 => ("OldWorks$Plans", "runsOf", "[I", true)
  | 6 => ("OldWorks$Plans", "there", "[I", true)
  | 7 => ("OldWorks$Plans", "most", "[[I", true)
  | 8 => ("OldWorks$Plans", "many", "I", false)
  | 9 => ("OldWorks$Plans", "learned", "I", false)
  | _ => ("OldWorks$Plans", "years", "I", false)
def tyX5 : Nat → FieldType := fun k => match k with
  | 0 => .object "OldWorks$Shop"
  | 1 => .array .int
  | 2 => .array .int
  | 3 => .array .int
  | 4 => .array .int
  | 5 => .array .int
  | 6 => .array .int
  | 7 => .array (.array .int)
  | 8 => .int
  | 9 => .int
  | _ => .int
abbrev wsX50 : List Cond := u_ws RX5 TX5 11
theorem nmX5 : ∀ a, a < 11 → ∀ b, b < 11 → a ≠ b → (TX5 a).2.1 ≠ (TX5 b).2.1 := by decide +kernel
theorem tyX5_ok : ∀ k, k < 11 → parseFieldDescriptor (TX5 k).2.2.1 = some (tyX5 k) := by decide +kernel
abbrev cX5_init : ByteArray := prog_7_method_1_code
def yX5_init : MethodName := ⟨RX5, "<init>", "(LOldWorks$Shop;)V"⟩
abbrev cX5_find : ByteArray := prog_7_method_2_code
def yX5_find : MethodName := ⟨RX5, "find", "(I)V"⟩
abbrev cX5_knows : ByteArray := prog_7_method_3_code
def yX5_knows : MethodName := ⟨RX5, "knows", "(III)Z"⟩
abbrev cX5_chooseBits : ByteArray := prog_7_method_4_code
def yX5_chooseBits : MethodName := ⟨RX5, "chooseBits", "()V"⟩
abbrev cX5_chooseLessons : ByteArray := prog_7_method_5_code
def yX5_chooseLessons : MethodName := ⟨RX5, "chooseLessons", "()V"⟩
abbrev cX5_chooseRuns : ByteArray := prog_7_method_6_code
def yX5_chooseRuns : MethodName := ⟨RX5, "chooseRuns", "()V"⟩
abbrev cX5_chooseYears : ByteArray := prog_7_method_7_code
def yX5_chooseYears : MethodName := ⟨RX5, "chooseYears", "()V"⟩
abbrev cX5_mostOf : ByteArray := prog_7_method_8_code
def yX5_mostOf : MethodName := ⟨RX5, "mostOf", "(II)I"⟩
abbrev cX5_idle : ByteArray := prog_7_method_9_code
def yX5_idle : MethodName := ⟨RX5, "idle", "(II)I"⟩
abbrev cX5_taught : ByteArray := prog_7_method_10_code
def yX5_taught : MethodName := ⟨RX5, "taught", "(III)I"⟩
abbrev cX5_runsBy : ByteArray := prog_7_method_11_code
def yX5_runsBy : MethodName := ⟨RX5, "runsBy", "(II)I"⟩
abbrev cX5_mostRuns : ByteArray := prog_7_method_12_code
def yX5_mostRuns : MethodName := ⟨RX5, "mostRuns", "()I"⟩
abbrev cX5_lessonIn : ByteArray := prog_7_method_13_code
def yX5_lessonIn : MethodName := ⟨RX5, "lessonIn", "(I)I"⟩
abbrev cX5_bestIn : ByteArray := prog_7_method_14_code
def yX5_bestIn : MethodName := ⟨RX5, "bestIn", "(II)I"⟩
def RX6 : String := "OldWorks$Shop"
def TX6 : u_T := fun k => match k with
  | 0 => ("OldWorks$Shop", "parts", "LOldWorks$Table;", true)
  | 1 => ("OldWorks$Shop", "families", "LOldWorks$Table;", true)
  | 2 => ("OldWorks$Shop", "sayings", "LOldWorks$Table;", true)
  | 3 => ("OldWorks$Shop", "chains", "LOldWorks$Table;", true)
  | 4 => ("OldWorks$Shop", "works", "LOldWorks$Table;", true)
  | 5 => ("OldWorks$Shop", "machines", "LOldWorks$Table;", true)
  | 6 => ("OldWorks$Shop", "spares", "LOldWorks$Table;", true)
  | 7 => ("OldWorks$Shop", "odds", "LOldWorks$Table;", true)
  | 8 => ("OldWorks$Shop", "loads", "LOldWorks$Table;", true)
  | 9 => ("OldWorks$Shop", "hands", "LOldWorks$Table;", true)
  | 10 => ("OldWorks$Shop", "runs", "LOldWorks$Table;", true)
  | _ => ("OldWorks$Shop", "signs", "LOldWorks$Table;", true)
def tyX6 : Nat → FieldType := fun k => match k with
  | 0 => .object "OldWorks$Table"
  | 1 => .object "OldWorks$Table"
  | 2 => .object "OldWorks$Table"
  | 3 => .object "OldWorks$Table"
  | 4 => .object "OldWorks$Table"
  | 5 => .object "OldWorks$Table"
  | 6 => .object "OldWorks$Table"
  | 7 => .object "OldWorks$Table"
  | 8 => .object "OldWorks$Table"
  | 9 => .object "OldWorks$Table"
  | 10 => .object "OldWorks$Table"
  | _ => .object "OldWorks$Table"
abbrev wsX60 : List Cond := u_ws RX6 TX6 12
theorem nmX6 : ∀ a, a < 12 → ∀ b, b < 12 → a ≠ b → (TX6 a).2.1 ≠ (TX6 b).2.1 := by decide +kernel
theorem tyX6_ok : ∀ k, k < 12 → parseFieldDescriptor (TX6 k).2.2.1 = some (tyX6 k) := by decide +kernel
abbrev cX6_init : ByteArray := prog_8_method_1_code
def yX6_init : MethodName := ⟨RX6, "<init>", "()V"⟩
abbrev cX6_copy : ByteArray := prog_8_method_2_code
def yX6_copy : MethodName := ⟨RX6, "copy", "(LOldWorks$Shop;)V"⟩
abbrev cX6_deniedSayings : ByteArray := prog_8_method_3_code
def yX6_deniedSayings : MethodName := ⟨RX6, "deniedSayings", "()I"⟩
abbrev cX6_isIn : ByteArray := prog_8_method_4_code
def yX6_isIn : MethodName := ⟨RX6, "isIn", "(II)Z"⟩
def RX7 : String := "OldWorks$Sizes"
def TX7 : u_T := fun k => match k with
  | 0 => ("OldWorks$Sizes", "shop", "LOldWorks$Shop;", true)
  | 1 => ("OldWorks$Sizes", "law", "LOldWorks$Law;", true)
  | 2 => ("OldWorks$Sizes", "lows", "[I", true)
  | 3 => ("OldWorks$Sizes", "highs", "[I", true)
  | 4 => ("OldWorks$Sizes", "sayings", "[I", true)
  | 5 => ("OldWorks$Sizes", "said", "I", false)
  | 6 => ("OldWorks$Sizes", "base", "I", false)
  | 7 => ("OldWorks$Sizes", "step", "I", false)
  | 8 => ("OldWorks$Sizes", "last", "I", false)
  | 9 => ("OldWorks$Sizes", "least", "I", false)
  | 10 => ("OldWorks$Sizes", "greatest", "I", false)
  | _ => ("OldWorks$Sizes", "many", "I", false)
def tyX7 : Nat → FieldType := fun k => match k with
  | 0 => .object "OldWorks$Shop"
  | 1 => .object "OldWorks$Law"
  | 2 => .array .int
  | 3 => .array .int
  | 4 => .array .int
  | 5 => .int
  | 6 => .int
  | 7 => .int
  | 8 => .int
  | 9 => .int
  | 10 => .int
  | _ => .int
abbrev wsX70 : List Cond := u_ws RX7 TX7 12
theorem nmX7 : ∀ a, a < 12 → ∀ b, b < 12 → a ≠ b → (TX7 a).2.1 ≠ (TX7 b).2.1 := by decide +kernel
theorem tyX7_ok : ∀ k, k < 12 → parseFieldDescriptor (TX7 k).2.2.1 = some (tyX7 k) := by decide +kernel
abbrev cX7_init : ByteArray := prog_9_method_1_code
def yX7_init : MethodName := ⟨RX7, "<init>", "(LOldWorks$Shop;LOldWorks$Law;)V"⟩
abbrev cX7_find : ByteArray := prog_9_method_2_code
def yX7_find : MethodName := ⟨RX7, "find", "(I)V"⟩
abbrev cX7_chooseFamily : ByteArray := prog_9_method_3_code
def yX7_chooseFamily : MethodName := ⟨RX7, "chooseFamily", "(I)V"⟩
abbrev cX7_allow : ByteArray := prog_9_method_4_code
def yX7_allow : MethodName := ⟨RX7, "allow", "(III)V"⟩
abbrev cX7_chooseSizes : ByteArray := prog_9_method_5_code
def yX7_chooseSizes : MethodName := ⟨RX7, "chooseSizes", "()V"⟩
abbrev cX7_placeFrom : ByteArray := prog_9_method_6_code
def yX7_placeFrom : MethodName := ⟨RX7, "placeFrom", "(I)I"⟩
abbrev cX7_answer : ByteArray := prog_9_method_7_code
def yX7_answer : MethodName := ⟨RX7, "answer", "(I)I"⟩
abbrev cX7_leastDisputed : ByteArray := prog_9_method_8_code
def yX7_leastDisputed : MethodName := ⟨RX7, "leastDisputed", "()I"⟩
abbrev cX7_against : ByteArray := prog_9_method_9_code
def yX7_against : MethodName := ⟨RX7, "against", "(I)I"⟩
abbrev cX7_objector : ByteArray := prog_9_method_10_code
def yX7_objector : MethodName := ⟨RX7, "objector", "(II)I"⟩
abbrev cX7_denies : ByteArray := prog_9_method_11_code
def yX7_denies : MethodName := ⟨RX7, "denies", "(II)Z"⟩
def RX8 : String := "OldWorks$Table"
def TX8 : u_T := fun k => match k with
  | 0 => ("OldWorks$Table", "cells", "[I", true)
  | 1 => ("OldWorks$Table", "width", "I", true)
  | 2 => ("OldWorks$Table", "most", "I", true)
  | _ => ("OldWorks$Table", "many", "I", false)
def tyX8 : Nat → FieldType := fun k => match k with
  | 0 => .array .int
  | 1 => .int
  | 2 => .int
  | _ => .int
abbrev wsX80 : List Cond := u_ws RX8 TX8 4
theorem nmX8 : ∀ a, a < 4 → ∀ b, b < 4 → a ≠ b → (TX8 a).2.1 ≠ (TX8 b).2.1 := by decide +kernel
theorem tyX8_ok : ∀ k, k < 4 → parseFieldDescriptor (TX8 k).2.2.1 = some (tyX8 k) := by decide +kernel
abbrev cX8_init : ByteArray := prog_10_method_1_code
def yX8_init : MethodName := ⟨RX8, "<init>", "(II)V"⟩
abbrev cX8_rows : ByteArray := prog_10_method_2_code
def yX8_rows : MethodName := ⟨RX8, "rows", "()I"⟩
abbrev cX8_has : ByteArray := prog_10_method_3_code
def yX8_has : MethodName := ⟨RX8, "has", "(I)Z"⟩
abbrev cX8_empty : ByteArray := prog_10_method_4_code
def yX8_empty : MethodName := ⟨RX8, "empty", "()V"⟩
abbrev cX8_add : ByteArray := prog_10_method_5_code
def yX8_add : MethodName := ⟨RX8, "add", "(IIII)I"⟩
abbrev cX8_at : ByteArray := prog_10_method_6_code
def yX8_at : MethodName := ⟨RX8, "at", "(II)I"⟩
abbrev cX8_put : ByteArray := prog_10_method_7_code
def yX8_put : MethodName := ⟨RX8, "put", "(III)V"⟩
abbrev cX8_copy : ByteArray := prog_10_method_8_code
def yX8_copy : MethodName := ⟨RX8, "copy", "(LOldWorks$Table;)V"⟩
def RX9 : String := "OldWorks$Ways"
def TX9 : u_T := fun k => match k with
  | 0 => ("OldWorks$Ways", "shop", "LOldWorks$Shop;", true)
  | 1 => ("OldWorks$Ways", "best", "[[I", true)
  | 2 => ("OldWorks$Ways", "reached", "[[I", true)
  | 3 => ("OldWorks$Ways", "many", "[I", true)
  | 4 => ("OldWorks$Ways", "row", "I", false)
  | 5 => ("OldWorks$Ways", "price", "I", false)
  | _ => ("OldWorks$Ways", "steps", "I", false)
def tyX9 : Nat → FieldType := fun k => match k with
  | 0 => .object "OldWorks$Shop"
  | 1 => .array (.array .int)
  | 2 => .array (.array .int)
  | 3 => .array .int
  | 4 => .int
  | 5 => .int
  | _ => .int
abbrev wsX90 : List Cond := u_ws RX9 TX9 7
theorem nmX9 : ∀ a, a < 7 → ∀ b, b < 7 → a ≠ b → (TX9 a).2.1 ≠ (TX9 b).2.1 := by decide +kernel
theorem tyX9_ok : ∀ k, k < 7 → parseFieldDescriptor (TX9 k).2.2.1 = some (tyX9 k) := by decide +kernel
abbrev cX9_init : ByteArray := prog_11_method_1_code
def yX9_init : MethodName := ⟨RX9, "<init>", "(LOldWorks$Shop;)V"⟩
abbrev cX9_find : ByteArray := prog_11_method_2_code
def yX9_find : MethodName := ⟨RX9, "find", "(III)V"⟩
abbrev cX9_look : ByteArray := prog_11_method_3_code
def yX9_look : MethodName := ⟨RX9, "look", "(IIII)V"⟩
abbrev cX9_spread : ByteArray := prog_11_method_4_code
def yX9_spread : MethodName := ⟨RX9, "spread", "(I)V"⟩
abbrev cX9_reach : ByteArray := prog_11_method_5_code
def yX9_reach : MethodName := ⟨RX9, "reach", "(III)V"⟩
abbrev cX9_forget : ByteArray := prog_11_method_6_code
def yX9_forget : MethodName := ⟨RX9, "forget", "(I)V"⟩
abbrev cX9_stepAt : ByteArray := prog_11_method_7_code
def yX9_stepAt : MethodName := ⟨RX9, "stepAt", "(I)I"⟩
def RX10 : String := "OldWorks"
def TX10 : u_T := fun k => match k with
  | 0 => ("OldWorks", "shop", "LOldWorks$Shop;", true)
  | 1 => ("OldWorks", "firstImage", "LOldWorks$Shop;", true)
  | 2 => ("OldWorks", "secondImage", "LOldWorks$Shop;", true)
  | 3 => ("OldWorks", "kept", "[Z", true)
  | 4 => ("OldWorks", "law", "LOldWorks$Law;", true)
  | 5 => ("OldWorks", "sizes", "LOldWorks$Sizes;", true)
  | 6 => ("OldWorks", "fits", "LOldWorks$Fits;", true)
  | 7 => ("OldWorks", "ways", "LOldWorks$Ways;", true)
  | 8 => ("OldWorks", "givings", "LOldWorks$Givings;", true)
  | 9 => ("OldWorks", "breaks", "LOldWorks$Breaks;", true)
  | _ => ("OldWorks", "plans", "LOldWorks$Plans;", true)
def tyX10 : Nat → FieldType := fun k => match k with
  | 0 => .object "OldWorks$Shop"
  | 1 => .object "OldWorks$Shop"
  | 2 => .object "OldWorks$Shop"
  | 3 => .array .boolean
  | 4 => .object "OldWorks$Law"
  | 5 => .object "OldWorks$Sizes"
  | 6 => .object "OldWorks$Fits"
  | 7 => .object "OldWorks$Ways"
  | 8 => .object "OldWorks$Givings"
  | 9 => .object "OldWorks$Breaks"
  | _ => .object "OldWorks$Plans"
abbrev wsX100 : List Cond := u_ws RX10 TX10 11
theorem nmX10 : ∀ a, a < 11 → ∀ b, b < 11 → a ≠ b → (TX10 a).2.1 ≠ (TX10 b).2.1 := by decide +kernel
theorem tyX10_ok : ∀ k, k < 11 → parseFieldDescriptor (TX10 k).2.2.1 = some (tyX10 k) := by decide +kernel
abbrev cX10_init : ByteArray := prog_1_method_1_code
def yX10_init : MethodName := ⟨RX10, "<init>", "()V"⟩
abbrev cX10_part : ByteArray := prog_1_method_2_code
def yX10_part : MethodName := ⟨RX10, "part", "(IIII)I"⟩
abbrev cX10_family : ByteArray := prog_1_method_3_code
def yX10_family : MethodName := ⟨RX10, "family", "(IIII)I"⟩
abbrev cX10_write : ByteArray := prog_1_method_4_code
def yX10_write : MethodName := ⟨RX10, "write", "(I)I"⟩
abbrev cX10_erase : ByteArray := prog_1_method_5_code
def yX10_erase : MethodName := ⟨RX10, "erase", "()I"⟩
abbrev cX10_fault : ByteArray := prog_1_method_6_code
def yX10_fault : MethodName := ⟨RX10, "fault", "()I"⟩
abbrev cX10_worn : ByteArray := prog_1_method_7_code
def yX10_worn : MethodName := ⟨RX10, "worn", "(II)I"⟩
abbrev cX10_say : ByteArray := prog_1_method_8_code
def yX10_say : MethodName := ⟨RX10, "say", "(IIIII)I"⟩
abbrev cX10_deny : ByteArray := prog_1_method_9_code
def yX10_deny : MethodName := ⟨RX10, "deny", "(IZ)I"⟩
abbrev cX10_first : ByteArray := prog_1_method_10_code
def yX10_first : MethodName := ⟨RX10, "first", "(II)I"⟩
abbrev cX10_quarrel : ByteArray := prog_1_method_11_code
def yX10_quarrel : MethodName := ⟨RX10, "quarrel", "(II)I"⟩
abbrev cX10_chain : ByteArray := prog_1_method_12_code
def yX10_chain : MethodName := ⟨RX10, "chain", "(II)I"⟩
abbrev cX10_link : ByteArray := prog_1_method_13_code
def yX10_link : MethodName := ⟨RX10, "link", "(IIZ)I"⟩
abbrev cX10_sum : ByteArray := prog_1_method_14_code
def yX10_sum : MethodName := ⟨RX10, "sum", "(III)I"⟩
abbrev cX10_stands : ByteArray := prog_1_method_15_code
def yX10_stands : MethodName := ⟨RX10, "stands", "(III)I"⟩
abbrev cX10_life : ByteArray := prog_1_method_16_code
def yX10_life : MethodName := ⟨RX10, "life", "(II)I"⟩
abbrev cX10_work : ByteArray := prog_1_method_17_code
def yX10_work : MethodName := ⟨RX10, "work", "(IIII)I"⟩
abbrev cX10_way : ByteArray := prog_1_method_18_code
def yX10_way : MethodName := ⟨RX10, "way", "(IIII)I"⟩
abbrev cX10_machine : ByteArray := prog_1_method_19_code
def yX10_machine : MethodName := ⟨RX10, "machine", "(I)I"⟩
abbrev cX10_spare : ByteArray := prog_1_method_20_code
def yX10_spare : MethodName := ⟨RX10, "spare", "(III)I"⟩
abbrev cX10_scrap : ByteArray := prog_1_method_21_code
def yX10_scrap : MethodName := ⟨RX10, "scrap", "()I"⟩
abbrev cX10_taking : ByteArray := prog_1_method_22_code
def yX10_taking : MethodName := ⟨RX10, "taking", "(I)I"⟩
abbrev cX10_odds : ByteArray := prog_1_method_23_code
def yX10_odds : MethodName := ⟨RX10, "odds", "(II)I"⟩
abbrev cX10_lasts : ByteArray := prog_1_method_24_code
def yX10_lasts : MethodName := ⟨RX10, "lasts", "(II)I"⟩
abbrev cX10_half : ByteArray := prog_1_method_25_code
def yX10_half : MethodName := ⟨RX10, "half", "(I)I"⟩
abbrev cX10_limbs : ByteArray := prog_1_method_26_code
def yX10_limbs : MethodName := ⟨RX10, "limbs", "(I)I"⟩
abbrev cX10_limb : ByteArray := prog_1_method_27_code
def yX10_limb : MethodName := ⟨RX10, "limb", "(II)I"⟩
abbrev cX10_told : ByteArray := prog_1_method_28_code
def yX10_told : MethodName := ⟨RX10, "told", "(IZ)I"⟩
abbrev cX10_fitted : ByteArray := prog_1_method_29_code
def yX10_fitted : MethodName := ⟨RX10, "fitted", "()I"⟩
abbrev cX10_bear : ByteArray := prog_1_method_30_code
def yX10_bear : MethodName := ⟨RX10, "bear", "(IIZ)I"⟩
abbrev cX10_along : ByteArray := prog_1_method_31_code
def yX10_along : MethodName := ⟨RX10, "along", "(I)I"⟩
abbrev cX10_hand : ByteArray := prog_1_method_32_code
def yX10_hand : MethodName := ⟨RX10, "hand", "(II)I"⟩
abbrev cX10_need : ByteArray := prog_1_method_33_code
def yX10_need : MethodName := ⟨RX10, "need", "(II)I"⟩
abbrev cX10_plan : ByteArray := prog_1_method_34_code
def yX10_plan : MethodName := ⟨RX10, "plan", "(II)I"⟩
abbrev cX10_image : ByteArray := prog_1_method_35_code
def yX10_image : MethodName := ⟨RX10, "image", "(I)I"⟩
abbrev cX10_from : ByteArray := prog_1_method_36_code
def yX10_from : MethodName := ⟨RX10, "from", "(I)I"⟩
abbrev cX10_imageAt : ByteArray := prog_1_method_37_code
def yX10_imageAt : MethodName := ⟨RX10, "imageAt", "(I)LOldWorks$Shop;"⟩
abbrev cX10_count : ByteArray := prog_1_method_38_code
def yX10_count : MethodName := ⟨RX10, "count", "(I)I"⟩
abbrev cX10_digest : ByteArray := prog_1_method_39_code
def yX10_digest : MethodName := ⟨RX10, "digest", "()J"⟩
abbrev cX10_withParts : ByteArray := prog_1_method_40_code
def yX10_withParts : MethodName := ⟨RX10, "withParts", "(J)J"⟩
abbrev cX10_withChains : ByteArray := prog_1_method_41_code
def yX10_withChains : MethodName := ⟨RX10, "withChains", "(J)J"⟩
abbrev cX10_withTable : ByteArray := prog_1_method_42_code
def yX10_withTable : MethodName := ⟨RX10, "withTable", "(JLOldWorks$Table;I)J"⟩
abbrev cX10_withRow : ByteArray := prog_1_method_43_code
def yX10_withRow : MethodName := ⟨RX10, "withRow", "(JLOldWorks$Table;II)J"⟩
abbrev cX10_within : ByteArray := prog_1_method_44_code
def yX10_within : MethodName := ⟨RX10, "within", "(III)Z"⟩
def RX11 : String := "OldWorksModel"
def TX11 : u_T := fun k => match k with
  | 0 => ("OldWorksModel", "st", "[I", true)
  | 1 => ("OldWorksModel", "images", "[I", true)
  | 2 => ("OldWorksModel", "isKept", "[Z", true)
  | 3 => ("OldWorksModel", "steps", "I", false)
  | 4 => ("OldWorksModel", "step", "[I", true)
  | 5 => ("OldWorksModel", "with", "[I", true)
  | 6 => ("OldWorksModel", "waiting", "I", false)
  | 7 => ("OldWorksModel", "waits", "[I", true)
  | 8 => ("OldWorksModel", "value", "[J", true)
  | 9 => ("OldWorksModel", "low", "I", false)
  | 10 => ("OldWorksModel", "high", "I", false)
  | 11 => ("OldWorksModel", "least", "I", false)
  | 12 => ("OldWorksModel", "stride", "I", false)
  | 13 => ("OldWorksModel", "many", "I", false)
  | 14 => ("OldWorksModel", "firstNumber", "I", false)
  | 15 => ("OldWorksModel", "firstMany", "I", false)
  | 16 => ("OldWorksModel", "bestSize", "I", false)
  | 17 => ("OldWorksModel", "bestMany", "I", false)
  | 18 => ("OldWorksModel", "sumLow", "I", false)
  | 19 => ("OldWorksModel", "sumHigh", "I", false)
  | 20 => ("OldWorksModel", "price", "[I", true)
  | 21 => ("OldWorksModel", "gets", "[I", true)
  | 22 => ("OldWorksModel", "bestGets", "[I", true)
  | 23 => ("OldWorksModel", "limbs", "[I", true)
  | 24 => ("OldWorksModel", "wide", "[I", true)
  | _ => ("OldWorksModel", "most", "[I", true)
def tyX11 : Nat → FieldType := fun k => match k with
  | 0 => .array .int
  | 1 => .array .int
  | 2 => .array .boolean
  | 3 => .int
  | 4 => .array .int
  | 5 => .array .int
  | 6 => .int
  | 7 => .array .int
  | 8 => .array .long
  | 9 => .int
  | 10 => .int
  | 11 => .int
  | 12 => .int
  | 13 => .int
  | 14 => .int
  | 15 => .int
  | 16 => .int
  | 17 => .int
  | 18 => .int
  | 19 => .int
  | 20 => .array .int
  | 21 => .array .int
  | 22 => .array .int
  | 23 => .array .int
  | 24 => .array .int
  | _ => .array .int
abbrev wsX110 : List Cond := u_ws RX11 TX11 26
theorem nmX11 : ∀ a, a < 26 → ∀ b, b < 26 → a ≠ b → (TX11 a).2.1 ≠ (TX11 b).2.1 := by decide +kernel
theorem tyX11_ok : ∀ k, k < 26 → parseFieldDescriptor (TX11 k).2.2.1 = some (tyX11 k) := by decide +kernel
abbrev cX11_in : ByteArray := prog_13_method_2_code
def yX11_in : MethodName := ⟨RX11, "in", "(JJJ)Z"⟩
abbrev cX11_init : ByteArray := prog_13_method_3_code
def yX11_init : MethodName := ⟨RX11, "<init>", "()V"⟩
abbrev cX11_is : ByteArray := prog_13_method_4_code
def yX11_is : MethodName := ⟨RX11, "is", "(II)Z"⟩
abbrev cX11_one : ByteArray := prog_13_method_5_code
def yX11_one : MethodName := ⟨RX11, "one", "(I)I"⟩
abbrev cX11_puts : ByteArray := prog_13_method_6_code
def yX11_puts : MethodName := ⟨RX11, "puts", "(II)I"⟩
abbrev cX11_isYear : ByteArray := prog_13_method_7_code
def yX11_isYear : MethodName := ⟨RX11, "isYear", "(I)Z"⟩
abbrev cX11_partOf : ByteArray := prog_13_method_8_code
def yX11_partOf : MethodName := ⟨RX11, "partOf", "(II)I"⟩
abbrev cX11_part : ByteArray := prog_13_method_9_code
def yX11_part : MethodName := ⟨RX11, "part", "(IIII)I"⟩
abbrev cX11_isSize : ByteArray := prog_13_method_10_code
def yX11_isSize : MethodName := ⟨RX11, "isSize", "(I)Z"⟩
abbrev cX11_family : ByteArray := prog_13_method_11_code
def yX11_family : MethodName := ⟨RX11, "family", "(IIII)I"⟩
abbrev cX11_emits : ByteArray := prog_13_method_12_code
def yX11_emits : MethodName := ⟨RX11, "emits", "(II)V"⟩
abbrev cX11_holds : ByteArray := prog_13_method_13_code
def yX11_holds : MethodName := ⟨RX11, "holds", "(I)I"⟩
abbrev cX11_settles : ByteArray := prog_13_method_14_code
def yX11_settles : MethodName := ⟨RX11, "settles", "(I)V"⟩
abbrev cX11_waitsWith : ByteArray := prog_13_method_15_code
def yX11_waitsWith : MethodName := ⟨RX11, "waitsWith", "(I)V"⟩
abbrev cX11_nameOf : ByteArray := prog_13_method_16_code
def yX11_nameOf : MethodName := ⟨RX11, "nameOf", "(I)I"⟩
abbrev cX11_signOf : ByteArray := prog_13_method_17_code
def yX11_signOf : MethodName := ⟨RX11, "signOf", "(I)I"⟩
abbrev cX11_goesOn : ByteArray := prog_13_method_18_code
def yX11_goesOn : MethodName := ⟨RX11, "goesOn", "(I)Z"⟩
abbrev cX11_reads : ByteArray := prog_13_method_19_code
def yX11_reads : MethodName := ⟨RX11, "reads", "()I"⟩
abbrev cX11_twoOf : ByteArray := prog_13_method_20_code
def yX11_twoOf : MethodName := ⟨RX11, "twoOf", "(IJJ)J"⟩
abbrev cX11_tells : ByteArray := prog_13_method_21_code
def yX11_tells : MethodName := ⟨RX11, "tells", "(II)J"⟩
abbrev cX11_wornOf : ByteArray := prog_13_method_22_code
def yX11_wornOf : MethodName := ⟨RX11, "wornOf", "(II)I"⟩
abbrev cX11_write : ByteArray := prog_13_method_23_code
def yX11_write : MethodName := ⟨RX11, "write", "(I)I"⟩
abbrev cX11_erase : ByteArray := prog_13_method_24_code
def yX11_erase : MethodName := ⟨RX11, "erase", "()I"⟩
abbrev cX11_fault : ByteArray := prog_13_method_25_code
def yX11_fault : MethodName := ⟨RX11, "fault", "()I"⟩
abbrev cX11_worn : ByteArray := prog_13_method_26_code
def yX11_worn : MethodName := ⟨RX11, "worn", "(II)I"⟩
abbrev cX11_sayOf : ByteArray := prog_13_method_27_code
def yX11_sayOf : MethodName := ⟨RX11, "sayOf", "(II)I"⟩
abbrev cX11_say : ByteArray := prog_13_method_28_code
def yX11_say : MethodName := ⟨RX11, "say", "(IIIII)I"⟩
abbrev cX11_deny : ByteArray := prog_13_method_29_code
def yX11_deny : MethodName := ⟨RX11, "deny", "(IZ)I"⟩
abbrev cX11_lets : ByteArray := prog_13_method_30_code
def yX11_lets : MethodName := ⟨RX11, "lets", "(I)V"⟩
abbrev cX11_isOf : ByteArray := prog_13_method_31_code
def yX11_isOf : MethodName := ⟨RX11, "isOf", "(II)Z"⟩
abbrev cX11_findFamily : ByteArray := prog_13_method_32_code
def yX11_findFamily : MethodName := ⟨RX11, "findFamily", "(I)V"⟩
abbrev cX11_numberFrom : ByteArray := prog_13_method_33_code
def yX11_numberFrom : MethodName := ⟨RX11, "numberFrom", "(I)I"⟩
abbrev cX11_findFirst : ByteArray := prog_13_method_34_code
def yX11_findFirst : MethodName := ⟨RX11, "findFirst", "(I)V"⟩
abbrev cX11_firstOf : ByteArray := prog_13_method_35_code
def yX11_firstOf : MethodName := ⟨RX11, "firstOf", "(II)I"⟩
abbrev cX11_first : ByteArray := prog_13_method_36_code
def yX11_first : MethodName := ⟨RX11, "first", "(II)I"⟩
abbrev cX11_quarrels : ByteArray := prog_13_method_37_code
def yX11_quarrels : MethodName := ⟨RX11, "quarrels", "(III)Z"⟩
abbrev cX11_tries : ByteArray := prog_13_method_38_code
def yX11_tries : MethodName := ⟨RX11, "tries", "(II)V"⟩
abbrev cX11_quarrel : ByteArray := prog_13_method_39_code
def yX11_quarrel : MethodName := ⟨RX11, "quarrel", "(II)I"⟩
abbrev cX11_chainOf : ByteArray := prog_13_method_40_code
def yX11_chainOf : MethodName := ⟨RX11, "chainOf", "(II)I"⟩
abbrev cX11_chain : ByteArray := prog_13_method_41_code
def yX11_chain : MethodName := ⟨RX11, "chain", "(II)I"⟩
abbrev cX11_has : ByteArray := prog_13_method_42_code
def yX11_has : MethodName := ⟨RX11, "has", "(II)Z"⟩
abbrev cX11_link : ByteArray := prog_13_method_43_code
def yX11_link : MethodName := ⟨RX11, "link", "(IIZ)I"⟩
abbrev cX11_sums : ByteArray := prog_13_method_44_code
def yX11_sums : MethodName := ⟨RX11, "sums", "(IIII)Z"⟩
abbrev cX11_holds0 : ByteArray := prog_13_method_45_code
def yX11_holds0 : MethodName := ⟨RX11, "holds0", "(IIII)Z"⟩
abbrev cX11_sum : ByteArray := prog_13_method_46_code
def yX11_sum : MethodName := ⟨RX11, "sum", "(III)I"⟩
abbrev cX11_stands : ByteArray := prog_13_method_47_code
def yX11_stands : MethodName := ⟨RX11, "stands", "(III)I"⟩
abbrev cX11_life : ByteArray := prog_13_method_48_code
def yX11_life : MethodName := ⟨RX11, "life", "(II)I"⟩
abbrev cX11_work : ByteArray := prog_13_method_49_code
def yX11_work : MethodName := ⟨RX11, "work", "(IIII)I"⟩
abbrev cX11_by : ByteArray := prog_13_method_50_code
def yX11_by : MethodName := ⟨RX11, "by", "(III)I"⟩
abbrev cX11_findPrices : ByteArray := prog_13_method_51_code
def yX11_findPrices : MethodName := ⟨RX11, "findPrices", "(II)V"⟩
abbrev cX11_way : ByteArray := prog_13_method_52_code
def yX11_way : MethodName := ⟨RX11, "way", "(IIII)I"⟩
abbrev cX11_machine : ByteArray := prog_13_method_53_code
def yX11_machine : MethodName := ⟨RX11, "machine", "(I)I"⟩
abbrev cX11_spare : ByteArray := prog_13_method_54_code
def yX11_spare : MethodName := ⟨RX11, "spare", "(III)I"⟩
abbrev cX11_scrap : ByteArray := prog_13_method_55_code
def yX11_scrap : MethodName := ⟨RX11, "scrap", "()I"⟩
abbrev cX11_mayGet : ByteArray := prog_13_method_56_code
def yX11_mayGet : MethodName := ⟨RX11, "mayGet", "(II)Z"⟩
abbrev cX11_givenTo : ByteArray := prog_13_method_57_code
def yX11_givenTo : MethodName := ⟨RX11, "givenTo", "(I)I"⟩
abbrev cX11_yearsOf : ByteArray := prog_13_method_58_code
def yX11_yearsOf : MethodName := ⟨RX11, "yearsOf", "(I)I"⟩
abbrev cX11_findTaking : ByteArray := prog_13_method_59_code
def yX11_findTaking : MethodName := ⟨RX11, "findTaking", "()I"⟩
abbrev cX11_taking : ByteArray := prog_13_method_60_code
def yX11_taking : MethodName := ⟨RX11, "taking", "(I)I"⟩
abbrev cX11_sets : ByteArray := prog_13_method_61_code
def yX11_sets : MethodName := ⟨RX11, "sets", "(II)V"⟩
abbrev cX11_times : ByteArray := prog_13_method_62_code
def yX11_times : MethodName := ⟨RX11, "times", "(II)V"⟩
abbrev cX11_against : ByteArray := prog_13_method_63_code
def yX11_against : MethodName := ⟨RX11, "against", "(II)I"⟩
abbrev cX11_divisor : ByteArray := prog_13_method_64_code
def yX11_divisor : MethodName := ⟨RX11, "divisor", "(II)I"⟩
abbrev cX11_isDigit : ByteArray := prog_13_method_65_code
def yX11_isDigit : MethodName := ⟨RX11, "isDigit", "(I)Z"⟩
abbrev cX11_odds : ByteArray := prog_13_method_66_code
def yX11_odds : MethodName := ⟨RX11, "odds", "(II)I"⟩
abbrev cX11_whole : ByteArray := prog_13_method_67_code
def yX11_whole : MethodName := ⟨RX11, "whole", "(I)I"⟩
abbrev cX11_powers : ByteArray := prog_13_method_68_code
def yX11_powers : MethodName := ⟨RX11, "powers", "(III)V"⟩
abbrev cX11_lasts : ByteArray := prog_13_method_69_code
def yX11_lasts : MethodName := ⟨RX11, "lasts", "(II)I"⟩
abbrev cX11_half : ByteArray := prog_13_method_70_code
def yX11_half : MethodName := ⟨RX11, "half", "(I)I"⟩
abbrev cX11_limbs : ByteArray := prog_13_method_71_code
def yX11_limbs : MethodName := ⟨RX11, "limbs", "(I)I"⟩
abbrev cX11_limb : ByteArray := prog_13_method_72_code
def yX11_limb : MethodName := ⟨RX11, "limb", "(II)I"⟩
abbrev cX11_told : ByteArray := prog_13_method_73_code
def yX11_told : MethodName := ⟨RX11, "told", "(IZ)I"⟩
abbrev cX11_likes : ByteArray := prog_13_method_74_code
def yX11_likes : MethodName := ⟨RX11, "likes", "(II)Z"⟩
abbrev cX11_fitted : ByteArray := prog_13_method_75_code
def yX11_fitted : MethodName := ⟨RX11, "fitted", "()I"⟩
abbrev cX11_bear : ByteArray := prog_13_method_76_code
def yX11_bear : MethodName := ⟨RX11, "bear", "(IIZ)I"⟩
abbrev cX11_alongOf : ByteArray := prog_13_method_77_code
def yX11_alongOf : MethodName := ⟨RX11, "alongOf", "(I)I"⟩
abbrev cX11_along : ByteArray := prog_13_method_78_code
def yX11_along : MethodName := ⟨RX11, "along", "(I)I"⟩
abbrev cX11_hand : ByteArray := prog_13_method_79_code
def yX11_hand : MethodName := ⟨RX11, "hand", "(II)I"⟩
abbrev cX11_need : ByteArray := prog_13_method_80_code
def yX11_need : MethodName := ⟨RX11, "need", "(II)I"⟩
abbrev cX11_isThere : ByteArray := prog_13_method_81_code
def yX11_isThere : MethodName := ⟨RX11, "isThere", "(II)Z"⟩
abbrev cX11_canOf : ByteArray := prog_13_method_82_code
def yX11_canOf : MethodName := ⟨RX11, "canOf", "(II)I"⟩
abbrev cX11_mayTeach : ByteArray := prog_13_method_83_code
def yX11_mayTeach : MethodName := ⟨RX11, "mayTeach", "(III)Z"⟩
abbrev cX11_worth : ByteArray := prog_13_method_84_code
def yX11_worth : MethodName := ⟨RX11, "worth", "(III)I"⟩
abbrev cX11_choice : ByteArray := prog_13_method_85_code
def yX11_choice : MethodName := ⟨RX11, "choice", "(II)I"⟩
abbrev cX11_plan : ByteArray := prog_13_method_86_code
def yX11_plan : MethodName := ⟨RX11, "plan", "(II)I"⟩
abbrev cX11_image : ByteArray := prog_13_method_87_code
def yX11_image : MethodName := ⟨RX11, "image", "(I)I"⟩
abbrev cX11_from : ByteArray := prog_13_method_88_code
def yX11_from : MethodName := ⟨RX11, "from", "(I)I"⟩
abbrev cX11_denied : ByteArray := prog_13_method_89_code
def yX11_denied : MethodName := ⟨RX11, "denied", "()I"⟩
abbrev cX11_countOf : ByteArray := prog_13_method_90_code
def yX11_countOf : MethodName := ⟨RX11, "countOf", "(I)I"⟩
abbrev cX11_count : ByteArray := prog_13_method_91_code
def yX11_count : MethodName := ⟨RX11, "count", "(I)I"⟩
abbrev cX11_mixed : ByteArray := prog_13_method_92_code
def yX11_mixed : MethodName := ⟨RX11, "mixed", "(JII)J"⟩
abbrev cX11_digest : ByteArray := prog_13_method_93_code
def yX11_digest : MethodName := ⟨RX11, "digest", "()J"⟩
def RJ6 : String := "java/lang/Integer"
def TJ6 : u_T := fun k => match k with
  | _ => ("", "", "", false)
def tyJ6 : Nat → FieldType := fun k => match k with
  | _ => .int
abbrev wsJ60 : List Cond := u_ws RJ6 TJ6 0
theorem nmJ6 : ∀ a, a < 0 → ∀ b, b < 0 → a ≠ b → (TJ6 a).2.1 ≠ (TJ6 b).2.1 := by decide +kernel
theorem tyJ6_ok : ∀ k, k < 0 → parseFieldDescriptor (TJ6 k).2.2.1 = some (tyJ6 k) := by decide +kernel
abbrev cJ6_bitCount_0f7a4 : ByteArray := prog_14_method_49_code
def yJ6_bitCount_0f7a4 : MethodName := ⟨RJ6, "bitCount", "(I)I"⟩
def RJ9 : String := "java/lang/Math"
def TJ9 : u_T := fun k => match k with
  | _ => ("", "", "", false)
def tyJ9 : Nat → FieldType := fun k => match k with
  | _ => .int
abbrev wsJ90 : List Cond := u_ws RJ9 TJ9 0
theorem nmJ9 : ∀ a, a < 0 → ∀ b, b < 0 → a ≠ b → (TJ9 a).2.1 ≠ (TJ9 b).2.1 := by decide +kernel
theorem tyJ9_ok : ∀ k, k < 0 → parseFieldDescriptor (TJ9 k).2.2.1 = some (tyJ9 k) := by decide +kernel
abbrev cJ9_max_7cf53 : ByteArray := prog_15_method_65_code
def yJ9_max_7cf53 : MethodName := ⟨RJ9, "max", "(II)I"⟩
abbrev cJ9_max_f86c9 : ByteArray := prog_15_method_66_code
def yJ9_max_f86c9 : MethodName := ⟨RJ9, "max", "(JJ)J"⟩
abbrev cJ9_min_7cf53 : ByteArray := prog_15_method_69_code
def yJ9_min_7cf53 : MethodName := ⟨RJ9, "min", "(II)I"⟩
abbrev cJ9_min_f86c9 : ByteArray := prog_15_method_70_code
def yJ9_min_f86c9 : MethodName := ⟨RJ9, "min", "(JJ)J"⟩
def RJ10 : String := "java/lang/System"
def TJ10 : u_T := fun k => match k with
  | _ => ("", "", "", false)
def tyJ10 : Nat → FieldType := fun k => match k with
  | _ => .int
abbrev wsJ100 : List Cond := u_ws RJ10 TJ10 0
theorem nmJ10 : ∀ a, a < 0 → ∀ b, b < 0 → a ≠ b → (TJ10 a).2.1 ≠ (TJ10 b).2.1 := by decide +kernel
theorem tyJ10_ok : ∀ k, k < 0 → parseFieldDescriptor (TJ10 k).2.2.1 = some (tyJ10 k) := by decide +kernel
def RJ7 : String := "java/util/Arrays"
def TJ7 : u_T := fun k => match k with
  | _ => ("", "", "", false)
def tyJ7 : Nat → FieldType := fun k => match k with
  | _ => .int
abbrev wsJ70 : List Cond := u_ws RJ7 TJ7 0
theorem nmJ7 : ∀ a, a < 0 → ∀ b, b < 0 → a ≠ b → (TJ7 a).2.1 ≠ (TJ7 b).2.1 := by decide +kernel
theorem tyJ7_ok : ∀ k, k < 0 → parseFieldDescriptor (TJ7 k).2.2.1 = some (tyJ7 k) := by decide +kernel
abbrev cJ7_fill_53178 : ByteArray := prog_17_method_103_code
def yJ7_fill_53178 : MethodName := ⟨RJ7, "fill", "([II)V"⟩
def RL : String := "OldWorksLaw"
abbrev cL_law : ByteArray := code
def yL_law : MethodName := ⟨RL, "law", "([I)Z"⟩
abbrev vwCl : List vw_C := [(RX0, TX0, 2), (RX1, TX1, 7), (RX2, TX2, 10), (RX3, TX3, 6), (RX4, TX4, 10), (RX5, TX5, 11), (RX6, TX6, 12), (RX7, TX7, 12), (RX8, TX8, 4), (RX9, TX9, 7), (RX10, TX10, 11), (RX11, TX11, 26)]
/-- all words that a method may pass on -/
def wsG : List Cond := lw_tbl.filter goodWord
theorem wsG_in : ∀ w ∈ wsG, w ∈ lw_tbl := fun _ h => (List.mem_filter.mp h).1
theorem wsG_good : ∀ w ∈ wsG, goodWord w = true := fun _ h => (List.mem_filter.mp h).2
/-- a method's words: its own code, and all -/
def wa (y : MethodName) (b : ByteArray) (mx : Nat) (rt : Option FieldType) : List Cond := Cond.code y b mx rt :: wsG
theorem wa_hw {y : MethodName} {b : ByteArray} {mx : Nat} {rt : Option FieldType} {args : Array Value} {s : State} (h : ∀ w ∈ wa y b mx rt, w.before args s = true) : ∀ w ∈ wsG, w.before args s = true := fun w hw => h w (List.mem_cons_of_mem _ hw)
theorem wm1 {w : Cond} (i : Nat) (h : tables_1_1[i]? = some w) (hg : goodWord w = true) : w ∈ wsG := List.mem_filter.mpr ⟨List.mem_append_right _ ((fun h => List.mem_append_left _ h : w ∈ tables_1_1 → w ∈ tables_1) (List.mem_of_getElem? h)), hg⟩
theorem wm2 {w : Cond} (i : Nat) (h : tables_1_2[i]? = some w) (hg : goodWord w = true) : w ∈ wsG := List.mem_filter.mpr ⟨List.mem_append_right _ ((fun h => List.mem_append_right _ (List.mem_append_left _ h) : w ∈ tables_1_2 → w ∈ tables_1) (List.mem_of_getElem? h)), hg⟩
theorem wm3 {w : Cond} (i : Nat) (h : tables_1_3[i]? = some w) (hg : goodWord w = true) : w ∈ wsG := List.mem_filter.mpr ⟨List.mem_append_right _ ((fun h => List.mem_append_right _ (List.mem_append_right _ (List.mem_append_left _ h)) : w ∈ tables_1_3 → w ∈ tables_1) (List.mem_of_getElem? h)), hg⟩
theorem wm4 {w : Cond} (i : Nat) (h : tables_1_4[i]? = some w) (hg : goodWord w = true) : w ∈ wsG := List.mem_filter.mpr ⟨List.mem_append_right _ ((fun h => List.mem_append_right _ (List.mem_append_right _ (List.mem_append_right _ (List.mem_append_left _ h))) : w ∈ tables_1_4 → w ∈ tables_1) (List.mem_of_getElem? h)), hg⟩
theorem wm5 {w : Cond} (i : Nat) (h : tables_1_5[i]? = some w) (hg : goodWord w = true) : w ∈ wsG := List.mem_filter.mpr ⟨List.mem_append_right _ ((fun h => List.mem_append_right _ (List.mem_append_right _ (List.mem_append_right _ (List.mem_append_right _ (List.mem_append_left _ h)))) : w ∈ tables_1_5 → w ∈ tables_1) (List.mem_of_getElem? h)), hg⟩
theorem wm6 {w : Cond} (i : Nat) (h : tables_1_6[i]? = some w) (hg : goodWord w = true) : w ∈ wsG := List.mem_filter.mpr ⟨List.mem_append_right _ ((fun h => List.mem_append_right _ (List.mem_append_right _ (List.mem_append_right _ (List.mem_append_right _ (List.mem_append_right _ (List.mem_append_left _ h))))) : w ∈ tables_1_6 → w ∈ tables_1) (List.mem_of_getElem? h)), hg⟩
theorem wm7 {w : Cond} (i : Nat) (h : tables_1_7[i]? = some w) (hg : goodWord w = true) : w ∈ wsG := List.mem_filter.mpr ⟨List.mem_append_right _ ((fun h => List.mem_append_right _ (List.mem_append_right _ (List.mem_append_right _ (List.mem_append_right _ (List.mem_append_right _ (List.mem_append_right _ (h)))))) : w ∈ tables_1_7 → w ∈ tables_1) (List.mem_of_getElem? h)), hg⟩
theorem wmp1 {q : MethodName × Nat} (i : Nat) (h : lw_privs_1[i]? = some q) : Cond.selects q.1.cls q.1 q.1 ∈ wsG := List.mem_filter.mpr ⟨List.mem_append_left _ (List.mem_map.mpr ⟨q, (fun h => List.mem_append_left _ h : q ∈ lw_privs_1 → q ∈ lw_privs) (List.mem_of_getElem? h), rfl⟩), rfl⟩
theorem wmp2 {q : MethodName × Nat} (i : Nat) (h : lw_privs_2[i]? = some q) : Cond.selects q.1.cls q.1 q.1 ∈ wsG := List.mem_filter.mpr ⟨List.mem_append_left _ (List.mem_map.mpr ⟨q, (fun h => List.mem_append_right _ (List.mem_append_left _ h) : q ∈ lw_privs_2 → q ∈ lw_privs) (List.mem_of_getElem? h), rfl⟩), rfl⟩
theorem wmp3 {q : MethodName × Nat} (i : Nat) (h : lw_privs_3[i]? = some q) : Cond.selects q.1.cls q.1 q.1 ∈ wsG := List.mem_filter.mpr ⟨List.mem_append_left _ (List.mem_map.mpr ⟨q, (fun h => List.mem_append_right _ (List.mem_append_right _ (List.mem_append_left _ h)) : q ∈ lw_privs_3 → q ∈ lw_privs) (List.mem_of_getElem? h), rfl⟩), rfl⟩
theorem wmp4 {q : MethodName × Nat} (i : Nat) (h : lw_privs_4[i]? = some q) : Cond.selects q.1.cls q.1 q.1 ∈ wsG := List.mem_filter.mpr ⟨List.mem_append_left _ (List.mem_map.mpr ⟨q, (fun h => List.mem_append_right _ (List.mem_append_right _ (List.mem_append_right _ (List.mem_append_left _ h))) : q ∈ lw_privs_4 → q ∈ lw_privs) (List.mem_of_getElem? h), rfl⟩), rfl⟩
theorem wmp5 {q : MethodName × Nat} (i : Nat) (h : lw_privs_5[i]? = some q) : Cond.selects q.1.cls q.1 q.1 ∈ wsG := List.mem_filter.mpr ⟨List.mem_append_left _ (List.mem_map.mpr ⟨q, (fun h => List.mem_append_right _ (List.mem_append_right _ (List.mem_append_right _ (List.mem_append_right _ (List.mem_append_left _ h)))) : q ∈ lw_privs_5 → q ∈ lw_privs) (List.mem_of_getElem? h), rfl⟩), rfl⟩
theorem wmp6 {q : MethodName × Nat} (i : Nat) (h : lw_privs_6[i]? = some q) : Cond.selects q.1.cls q.1 q.1 ∈ wsG := List.mem_filter.mpr ⟨List.mem_append_left _ (List.mem_map.mpr ⟨q, (fun h => List.mem_append_right _ (List.mem_append_right _ (List.mem_append_right _ (List.mem_append_right _ (List.mem_append_right _ (h))))) : q ∈ lw_privs_6 → q ∈ lw_privs) (List.mem_of_getElem? h), rfl⟩), rfl⟩
theorem gd_c {own : String} {idx : Nat} {C : String} {y y0 : MethodName} {b b0 : ByteArray} {mx mx0 : Nat} {rt rt0 : Option FieldType} {w : Cond} (h : w ∈ wsG) : w ∈ wa y0 b0 mx0 rt0 ∧ ((w.onTables && w.keeps) = true ∨ ∃ ty, w = .arrayClass ty) := ⟨List.mem_cons_of_mem _ h, good_of_word (wsG_good w h)⟩
theorem gd_w {y y0 : MethodName} {b b0 : ByteArray} {mx mx0 : Nat} {rt rt0 : Option FieldType} (hc : Cond.code y b mx rt ∈ wsG) : GoodIn (wa y0 b0 mx0 rt0) (wa y b mx rt) := by
  intro w hw
  rcases List.mem_cons.mp hw with rfl | hw
  · exact gd_c (own := "") (idx := 0) (C := "") (y := y) (b := b) (mx := mx) (rt := rt) hc
  · exact gd_c (own := "") (idx := 0) (C := "") (y := y) (b := b) (mx := mx) (rt := rt) hw
theorem gd_V {own : String} {idx : Nat} {C : String} {y y0 : MethodName} {b b0 : ByteArray} {mx mx0 : Nat} {rt rt0 : Option FieldType} (h1 : Cond.methodLink own idx y ∈ wsG) (h2 : Cond.instanceMethod y ∈ wsG) (h3 : Cond.selects C y y ∈ wsG) (h4 : Cond.initialized C ∈ wsG) (hc : Cond.code y b mx rt ∈ wsG) : GoodIn (wa y0 b0 mx0 rt0) (wsV own idx C y (wa y b mx rt)) := by
  intro w hw
  rcases List.mem_append.mp hw with hw | hw
  · have hm : w ∈ wsG := by
      simp only [List.mem_cons, List.not_mem_nil, or_false] at hw
      rcases hw with rfl | rfl | rfl | rfl <;> assumption
    exact gd_c (own := "") (idx := 0) (C := "") (y := y) (b := b) (mx := mx) (rt := rt) hm
  · exact gd_w hc w hw
theorem gd_S {own : String} {idx : Nat} {y y0 : MethodName} {b b0 : ByteArray} {mx mx0 : Nat} {rt rt0 : Option FieldType} (h1 : Cond.methodLink own idx y ∈ wsG) (h2 : Cond.static y ∈ wsG) (h4 : Cond.initialized y.cls ∈ wsG) (hc : Cond.code y b mx rt ∈ wsG) : GoodIn (wa y0 b0 mx0 rt0) (va_wsS own idx y (wa y b mx rt)) := by
  intro w hw
  rcases List.mem_append.mp hw with hw | hw
  · have hm : w ∈ wsG := by
      simp only [List.mem_cons, List.not_mem_nil, or_false] at hw
      rcases hw with rfl | rfl | rfl <;> assumption
    exact gd_c (own := "") (idx := 0) (C := "") (y := y) (b := b) (mx := mx) (rt := rt) hm
  · exact gd_w hc w hw
theorem inG0 : ∀ w ∈ wsX00, w ∈ wsG := by
  intro w hw
  obtain ⟨k, hk, rfl⟩ := List.mem_map.mp hw
  have hk := List.mem_range.mp hk
  match k, hk with
    | 0, _ => exact wm2 83 rfl rfl
    | 1, _ => exact wm2 85 rfl rfl
    | n + 2, h => exact absurd h (by omega)
theorem inG1 : ∀ w ∈ wsX10, w ∈ wsG := by
  intro w hw
  obtain ⟨k, hk, rfl⟩ := List.mem_map.mp hw
  have hk := List.mem_range.mp hk
  match k, hk with
    | 0, _ => exact wm2 99 rfl rfl
    | 1, _ => exact wm2 101 rfl rfl
    | 2, _ => exact wm2 103 rfl rfl
    | 3, _ => exact wm2 105 rfl rfl
    | 4, _ => exact wm2 107 rfl rfl
    | 5, _ => exact wm2 109 rfl rfl
    | 6, _ => exact wm2 111 rfl rfl
    | n + 7, h => exact absurd h (by omega)
theorem inG2 : ∀ w ∈ wsX20, w ∈ wsG := by
  intro w hw
  obtain ⟨k, hk, rfl⟩ := List.mem_map.mp hw
  have hk := List.mem_range.mp hk
  match k, hk with
    | 0, _ => exact wm1 227 rfl rfl
    | 1, _ => exact wm1 229 rfl rfl
    | 2, _ => exact wm1 231 rfl rfl
    | 3, _ => exact wm1 233 rfl rfl
    | 4, _ => exact wm1 235 rfl rfl
    | 5, _ => exact wm1 237 rfl rfl
    | 6, _ => exact wm1 239 rfl rfl
    | 7, _ => exact wm2 1 rfl rfl
    | 8, _ => exact wm2 3 rfl rfl
    | 9, _ => exact wm2 5 rfl rfl
    | n + 10, h => exact absurd h (by omega)
theorem inG3 : ∀ w ∈ wsX30, w ∈ wsG := by
  intro w hw
  obtain ⟨k, hk, rfl⟩ := List.mem_map.mp hw
  have hk := List.mem_range.mp hk
  match k, hk with
    | 0, _ => exact wm2 56 rfl rfl
    | 1, _ => exact wm2 58 rfl rfl
    | 2, _ => exact wm2 60 rfl rfl
    | 3, _ => exact wm2 62 rfl rfl
    | 4, _ => exact wm2 64 rfl rfl
    | 5, _ => exact wm2 66 rfl rfl
    | n + 6, h => exact absurd h (by omega)
theorem inG4 : ∀ w ∈ wsX40, w ∈ wsG := by
  intro w hw
  obtain ⟨k, hk, rfl⟩ := List.mem_map.mp hw
  have hk := List.mem_range.mp hk
  match k, hk with
    | 0, _ => exact wm1 139 rfl rfl
    | 1, _ => exact wm1 141 rfl rfl
    | 2, _ => exact wm1 143 rfl rfl
    | 3, _ => exact wm1 145 rfl rfl
    | 4, _ => exact wm1 147 rfl rfl
    | 5, _ => exact wm1 149 rfl rfl
    | 6, _ => exact wm1 151 rfl rfl
    | 7, _ => exact wm1 153 rfl rfl
    | 8, _ => exact wm1 155 rfl rfl
    | 9, _ => exact wm1 157 rfl rfl
    | n + 10, h => exact absurd h (by omega)
theorem inG5 : ∀ w ∈ wsX50, w ∈ wsG := by
  intro w hw
  obtain ⟨k, hk, rfl⟩ := List.mem_map.mp hw
  have hk := List.mem_range.mp hk
  match k, hk with
    | 0, _ => exact wm2 132 rfl rfl
    | 1, _ => exact wm2 134 rfl rfl
    | 2, _ => exact wm2 136 rfl rfl
    | 3, _ => exact wm2 138 rfl rfl
    | 4, _ => exact wm2 140 rfl rfl
    | 5, _ => exact wm2 142 rfl rfl
    | 6, _ => exact wm2 144 rfl rfl
    | 7, _ => exact wm2 146 rfl rfl
    | 8, _ => exact wm2 148 rfl rfl
    | 9, _ => exact wm2 150 rfl rfl
    | 10, _ => exact wm2 152 rfl rfl
    | n + 11, h => exact absurd h (by omega)
theorem inG6 : ∀ w ∈ wsX60, w ∈ wsG := by
  intro w hw
  obtain ⟨k, hk, rfl⟩ := List.mem_map.mp hw
  have hk := List.mem_range.mp hk
  match k, hk with
    | 0, _ => exact wm1 98 rfl rfl
    | 1, _ => exact wm1 100 rfl rfl
    | 2, _ => exact wm1 102 rfl rfl
    | 3, _ => exact wm1 104 rfl rfl
    | 4, _ => exact wm1 106 rfl rfl
    | 5, _ => exact wm1 108 rfl rfl
    | 6, _ => exact wm1 110 rfl rfl
    | 7, _ => exact wm1 112 rfl rfl
    | 8, _ => exact wm1 114 rfl rfl
    | 9, _ => exact wm1 116 rfl rfl
    | 10, _ => exact wm1 118 rfl rfl
    | 11, _ => exact wm1 120 rfl rfl
    | n + 12, h => exact absurd h (by omega)
theorem inG7 : ∀ w ∈ wsX70, w ∈ wsG := by
  intro w hw
  obtain ⟨k, hk, rfl⟩ := List.mem_map.mp hw
  have hk := List.mem_range.mp hk
  match k, hk with
    | 0, _ => exact wm1 183 rfl rfl
    | 1, _ => exact wm1 185 rfl rfl
    | 2, _ => exact wm1 187 rfl rfl
    | 3, _ => exact wm1 189 rfl rfl
    | 4, _ => exact wm1 191 rfl rfl
    | 5, _ => exact wm1 193 rfl rfl
    | 6, _ => exact wm1 195 rfl rfl
    | 7, _ => exact wm1 197 rfl rfl
    | 8, _ => exact wm1 199 rfl rfl
    | 9, _ => exact wm1 201 rfl rfl
    | 10, _ => exact wm1 203 rfl rfl
    | 11, _ => exact wm1 205 rfl rfl
    | n + 12, h => exact absurd h (by omega)
theorem inG8 : ∀ w ∈ wsX80, w ∈ wsG := by
  intro w hw
  obtain ⟨k, hk, rfl⟩ := List.mem_map.mp hw
  have hk := List.mem_range.mp hk
  match k, hk with
    | 0, _ => exact wm1 41 rfl rfl
    | 1, _ => exact wm1 43 rfl rfl
    | 2, _ => exact wm1 45 rfl rfl
    | 3, _ => exact wm1 47 rfl rfl
    | n + 4, h => exact absurd h (by omega)
theorem inG9 : ∀ w ∈ wsX90, w ∈ wsG := by
  intro w hw
  obtain ⟨k, hk, rfl⟩ := List.mem_map.mp hw
  have hk := List.mem_range.mp hk
  match k, hk with
    | 0, _ => exact wm2 28 rfl rfl
    | 1, _ => exact wm2 30 rfl rfl
    | 2, _ => exact wm2 32 rfl rfl
    | 3, _ => exact wm2 34 rfl rfl
    | 4, _ => exact wm2 36 rfl rfl
    | 5, _ => exact wm2 38 rfl rfl
    | 6, _ => exact wm2 40 rfl rfl
    | n + 7, h => exact absurd h (by omega)
theorem inG10 : ∀ w ∈ wsX100, w ∈ wsG := by
  intro w hw
  obtain ⟨k, hk, rfl⟩ := List.mem_map.mp hw
  have hk := List.mem_range.mp hk
  match k, hk with
    | 0, _ => exact wm2 166 rfl rfl
    | 1, _ => exact wm2 168 rfl rfl
    | 2, _ => exact wm2 170 rfl rfl
    | 3, _ => exact wm2 172 rfl rfl
    | 4, _ => exact wm2 174 rfl rfl
    | 5, _ => exact wm2 176 rfl rfl
    | 6, _ => exact wm2 178 rfl rfl
    | 7, _ => exact wm2 180 rfl rfl
    | 8, _ => exact wm2 182 rfl rfl
    | 9, _ => exact wm2 184 rfl rfl
    | 10, _ => exact wm2 186 rfl rfl
    | n + 11, h => exact absurd h (by omega)
theorem inG11 : ∀ w ∈ wsX110, w ∈ wsG := by
  intro w hw
  obtain ⟨k, hk, rfl⟩ := List.mem_map.mp hw
  have hk := List.mem_range.mp hk
  match k, hk with
    | 0, _ => exact wm5 53 rfl rfl
    | 1, _ => exact wm5 55 rfl rfl
    | 2, _ => exact wm5 57 rfl rfl
    | 3, _ => exact wm5 59 rfl rfl
    | 4, _ => exact wm5 61 rfl rfl
    | 5, _ => exact wm5 63 rfl rfl
    | 6, _ => exact wm5 65 rfl rfl
    | 7, _ => exact wm5 67 rfl rfl
    | 8, _ => exact wm5 69 rfl rfl
    | 9, _ => exact wm5 71 rfl rfl
    | 10, _ => exact wm5 73 rfl rfl
    | 11, _ => exact wm5 75 rfl rfl
    | 12, _ => exact wm5 77 rfl rfl
    | 13, _ => exact wm5 79 rfl rfl
    | 14, _ => exact wm5 81 rfl rfl
    | 15, _ => exact wm5 83 rfl rfl
    | 16, _ => exact wm5 85 rfl rfl
    | 17, _ => exact wm5 87 rfl rfl
    | 18, _ => exact wm5 89 rfl rfl
    | 19, _ => exact wm5 91 rfl rfl
    | 20, _ => exact wm5 93 rfl rfl
    | 21, _ => exact wm5 95 rfl rfl
    | 22, _ => exact wm5 97 rfl rfl
    | 23, _ => exact wm5 99 rfl rfl
    | 24, _ => exact wm5 101 rfl rfl
    | 25, _ => exact wm5 103 rfl rfl
    | n + 26, h => exact absurd h (by omega)
