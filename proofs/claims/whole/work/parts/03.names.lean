def RX0 : String := "Termreckonry$Added"
def TX0 : u_T := fun k => match k with
  | 0 => ("Termreckonry$Added", "day", "I", true)
  | 1 => ("Termreckonry$Added", "left", "I", false)
  | _ => ("Termreckonry$Added", "next", "LTermreckonry$Added;", false)
def tyX0 : Nat → FieldType := fun k => match k with
  | 0 => .int
  | 1 => .int
  | _ => .object "Termreckonry$Added"
theorem nmX0 : ∀ a, a < 3 → ∀ b, b < 3 → a ≠ b → (TX0 a).2.1 ≠ (TX0 b).2.1 := by decide +kernel
theorem tyX0_ok : ∀ k, k < 3 → parseFieldDescriptor (TX0 k).2.2.1 = some (tyX0 k) := by decide +kernel
abbrev cX0_init : ByteArray := prog_2_method_1_code
def yX0_init : MethodName := ⟨RX0, "<init>", "(II)V"⟩
def RX1 : String := "Termreckonry$Calendar"
def TX1 : u_T := fun k => match k with
  | _ => ("", "", "", false)
def tyX1 : Nat → FieldType := fun k => match k with
  | _ => .int
theorem nmX1 : ∀ a, a < 0 → ∀ b, b < 0 → a ≠ b → (TX1 a).2.1 ≠ (TX1 b).2.1 := by decide +kernel
theorem tyX1_ok : ∀ k, k < 0 → parseFieldDescriptor (TX1 k).2.2.1 = some (tyX1 k) := by decide +kernel
abbrev cX1_isLeap : ByteArray := prog_3_method_2_code
def yX1_isLeap : MethodName := ⟨RX1, "isLeap", "(I)Z"⟩
abbrev cX1_daysOfMonth : ByteArray := prog_3_method_3_code
def yX1_daysOfMonth : MethodName := ⟨RX1, "daysOfMonth", "(ZI)I"⟩
abbrev cX1_numberOf : ByteArray := prog_3_method_4_code
def yX1_numberOf : MethodName := ⟨RX1, "numberOf", "(III)I"⟩
abbrev cX1_dateAt : ByteArray := prog_3_method_5_code
def yX1_dateAt : MethodName := ⟨RX1, "dateAt", "(I)I"⟩
def RX2 : String := "Termreckonry$Clerk"
def TX2 : u_T := fun k => match k with
  | _ => ("", "", "", false)
def tyX2 : Nat → FieldType := fun k => match k with
  | _ => .int
theorem nmX2 : ∀ a, a < 0 → ∀ b, b < 0 → a ≠ b → (TX2 a).2.1 ≠ (TX2 b).2.1 := by decide +kernel
theorem tyX2_ok : ∀ k, k < 0 → parseFieldDescriptor (TX2 k).2.2.1 = some (tyX2 k) := by decide +kernel
abbrev cX2_stateAfterDays : ByteArray := prog_4_method_2_code
def yX2_stateAfterDays : MethodName := ⟨RX2, "stateAfterDays", "(LTermreckonry$Person;I)C"⟩
abbrev cX2_agrees : ByteArray := prog_4_method_3_code
def yX2_agrees : MethodName := ⟨RX2, "agrees", "(LTermreckonry$Person;)Z"⟩
abbrev cX2_open : ByteArray := prog_4_method_4_code
def yX2_open : MethodName := ⟨RX2, "open", "(LTermreckonry$Person;)V"⟩
abbrev cX2_passDay : ByteArray := prog_4_method_5_code
def yX2_passDay : MethodName := ⟨RX2, "passDay", "(LTermreckonry$Person;I)C"⟩
abbrev cX2_readAdded : ByteArray := prog_4_method_6_code
def yX2_readAdded : MethodName := ⟨RX2, "readAdded", "(LTermreckonry$Person;I)V"⟩
abbrev cX2_passRecalls : ByteArray := prog_4_method_7_code
def yX2_passRecalls : MethodName := ⟨RX2, "passRecalls", "(LTermreckonry$Person;IZ)Z"⟩
abbrev cX2_endsOn : ByteArray := prog_4_method_8_code
def yX2_endsOn : MethodName := ⟨RX2, "endsOn", "(LTermreckonry$Recall;LTermreckonry$Person;I)Z"⟩
def RX3 : String := "Termreckonry$Days"
def TX3 : u_T := fun k => match k with
  | _ => ("Termreckonry$Days", "words", "[J", true)
def tyX3 : Nat → FieldType := fun k => match k with
  | _ => .array .long
theorem nmX3 : ∀ a, a < 1 → ∀ b, b < 1 → a ≠ b → (TX3 a).2.1 ≠ (TX3 b).2.1 := by decide +kernel
theorem tyX3_ok : ∀ k, k < 1 → parseFieldDescriptor (TX3 k).2.2.1 = some (tyX3 k) := by decide +kernel
abbrev cX3_init : ByteArray := prog_5_method_1_code
def yX3_init : MethodName := ⟨RX3, "<init>", "()V"⟩
abbrev cX3_clear : ByteArray := prog_5_method_2_code
def yX3_clear : MethodName := ⟨RX3, "clear", "()V"⟩
abbrev cX3_put : ByteArray := prog_5_method_3_code
def yX3_put : MethodName := ⟨RX3, "put", "(II)V"⟩
abbrev cX3_remove : ByteArray := prog_5_method_4_code
def yX3_remove : MethodName := ⟨RX3, "remove", "(LTermreckonry$Days;)V"⟩
abbrev cX3_has : ByteArray := prog_5_method_5_code
def yX3_has : MethodName := ⟨RX3, "has", "(I)Z"⟩
abbrev cX3_within : ByteArray := prog_5_method_6_code
def yX3_within : MethodName := ⟨RX3, "within", "(II)I"⟩
abbrev cX3_outside : ByteArray := prog_5_method_7_code
def yX3_outside : MethodName := ⟨RX3, "outside", "(LTermreckonry$Days;I)I"⟩
abbrev cX3_dayBehind : ByteArray := prog_5_method_8_code
def yX3_dayBehind : MethodName := ⟨RX3, "dayBehind", "(II)I"⟩
abbrev cX3_bitBehind : ByteArray := prog_5_method_9_code
def yX3_bitBehind : MethodName := ⟨RX3, "bitBehind", "(JI)I"⟩
abbrev cX3_bitsOf : ByteArray := prog_5_method_10_code
def yX3_bitsOf : MethodName := ⟨RX3, "bitsOf", "(III)J"⟩
def RX4 : String := "Termreckonry$Law"
def TX4 : u_T := fun k => match k with
  | 0 => ("Termreckonry$Law", "number", "I", true)
  | 1 => ("Termreckonry$Law", "byOffence", "Z", true)
  | 2 => ("Termreckonry$Law", "from", "I", true)
  | 3 => ("Termreckonry$Law", "eighths", "I", true)
  | _ => ("Termreckonry$Law", "needsBoard", "Z", true)
def tyX4 : Nat → FieldType := fun k => match k with
  | 0 => .int
  | 1 => .boolean
  | 2 => .int
  | 3 => .int
  | _ => .boolean
theorem nmX4 : ∀ a, a < 5 → ∀ b, b < 5 → a ≠ b → (TX4 a).2.1 ≠ (TX4 b).2.1 := by decide +kernel
theorem tyX4_ok : ∀ k, k < 5 → parseFieldDescriptor (TX4 k).2.2.1 = some (tyX4 k) := by decide +kernel
abbrev cX4_init : ByteArray := prog_6_method_1_code
def yX4_init : MethodName := ⟨RX4, "<init>", "(IZIIZ)V"⟩
def RX5 : String := "Termreckonry$Person"
def TX5 : u_T := fun k => match k with
  | 0 => ("Termreckonry$Person", "daysAtLarge", "LTermreckonry$Days;", true)
  | 1 => ("Termreckonry$Person", "daysHeld", "LTermreckonry$Days;", true)
  | 2 => ("Termreckonry$Person", "firstWarrant", "LTermreckonry$Warrant;", false)
  | 3 => ("Termreckonry$Person", "lastWarrant", "LTermreckonry$Warrant;", false)
  | 4 => ("Termreckonry$Person", "firstAdded", "LTermreckonry$Added;", false)
  | 5 => ("Termreckonry$Person", "unreadAdded", "LTermreckonry$Added;", false)
  | 6 => ("Termreckonry$Person", "firstRecall", "LTermreckonry$Recall;", false)
  | 7 => ("Termreckonry$Person", "lastRecall", "LTermreckonry$Recall;", false)
  | _ => ("Termreckonry$Person", "recalls", "I", false)
def tyX5 : Nat → FieldType := fun k => match k with
  | 0 => .object "Termreckonry$Days"
  | 1 => .object "Termreckonry$Days"
  | 2 => .object "Termreckonry$Warrant"
  | 3 => .object "Termreckonry$Warrant"
  | 4 => .object "Termreckonry$Added"
  | 5 => .object "Termreckonry$Added"
  | 6 => .object "Termreckonry$Recall"
  | 7 => .object "Termreckonry$Recall"
  | _ => .int
theorem nmX5 : ∀ a, a < 9 → ∀ b, b < 9 → a ≠ b → (TX5 a).2.1 ≠ (TX5 b).2.1 := by decide +kernel
theorem tyX5_ok : ∀ k, k < 9 → parseFieldDescriptor (TX5 k).2.2.1 = some (tyX5 k) := by decide +kernel
abbrev cX5_init : ByteArray := prog_7_method_1_code
def yX5_init : MethodName := ⟨RX5, "<init>", "()V"⟩
abbrev cX5_takeWarrant : ByteArray := prog_7_method_2_code
def yX5_takeWarrant : MethodName := ⟨RX5, "takeWarrant", "(LTermreckonry$Warrant;)V"⟩
abbrev cX5_takeRecall : ByteArray := prog_7_method_3_code
def yX5_takeRecall : MethodName := ⟨RX5, "takeRecall", "(LTermreckonry$Recall;)I"⟩
abbrev cX5_takeAdded : ByteArray := prog_7_method_4_code
def yX5_takeAdded : MethodName := ⟨RX5, "takeAdded", "(LTermreckonry$Added;)V"⟩
abbrev cX5_waitingWarrants : ByteArray := prog_7_method_5_code
def yX5_waitingWarrants : MethodName := ⟨RX5, "waitingWarrants", "()I"⟩
abbrev cX5_reckon : ByteArray := prog_7_method_6_code
def yX5_reckon : MethodName := ⟨RX5, "reckon", "()V"⟩
abbrev cX5_stateAt : ByteArray := prog_7_method_7_code
def yX5_stateAt : MethodName := ⟨RX5, "stateAt", "(I)C"⟩
abbrev cX5_keeperAt : ByteArray := prog_7_method_8_code
def yX5_keeperAt : MethodName := ⟨RX5, "keeperAt", "(I)LTermreckonry$Warrant;"⟩
abbrev cX5_recallAt : ByteArray := prog_7_method_9_code
def yX5_recallAt : MethodName := ⟨RX5, "recallAt", "(I)LTermreckonry$Recall;"⟩
abbrev cX5_isLicensed : ByteArray := prog_7_method_10_code
def yX5_isLicensed : MethodName := ⟨RX5, "isLicensed", "(I)Z"⟩
abbrev cX5_putDue : ByteArray := prog_7_method_11_code
def yX5_putDue : MethodName := ⟨RX5, "putDue", "(LTermreckonry$Days;)V"⟩
abbrev cX5_letter : ByteArray := prog_7_method_12_code
def yX5_letter : MethodName := ⟨RX5, "letter", "(ZZ)C"⟩
def RX6 : String := "Termreckonry$Recall"
def TX6 : u_T := fun k => match k with
  | 0 => ("Termreckonry$Recall", "owner", "LTermreckonry$Person;", true)
  | 1 => ("Termreckonry$Recall", "day", "I", true)
  | 2 => ("Termreckonry$Recall", "isFixed", "Z", true)
  | 3 => ("Termreckonry$Recall", "warrantsThen", "I", true)
  | 4 => ("Termreckonry$Recall", "letGoDay", "I", false)
  | 5 => ("Termreckonry$Recall", "until", "I", false)
  | 6 => ("Termreckonry$Recall", "clerksDays", "I", false)
  | 7 => ("Termreckonry$Recall", "clerksEnd", "Z", false)
  | _ => ("Termreckonry$Recall", "next", "LTermreckonry$Recall;", false)
def tyX6 : Nat → FieldType := fun k => match k with
  | 0 => .object "Termreckonry$Person"
  | 1 => .int
  | 2 => .boolean
  | 3 => .int
  | 4 => .int
  | 5 => .int
  | 6 => .int
  | 7 => .boolean
  | _ => .object "Termreckonry$Recall"
theorem nmX6 : ∀ a, a < 9 → ∀ b, b < 9 → a ≠ b → (TX6 a).2.1 ≠ (TX6 b).2.1 := by decide +kernel
theorem tyX6_ok : ∀ k, k < 9 → parseFieldDescriptor (TX6 k).2.2.1 = some (tyX6 k) := by decide +kernel
abbrev cX6_init : ByteArray := prog_8_method_1_code
def yX6_init : MethodName := ⟨RX6, "<init>", "(LTermreckonry$Person;IZI)V"⟩
abbrev cX6_reckon : ByteArray := prog_8_method_2_code
def yX6_reckon : MethodName := ⟨RX6, "reckon", "()V"⟩
abbrev cX6_firstDayUnlicensed : ByteArray := prog_8_method_3_code
def yX6_firstDayUnlicensed : MethodName := ⟨RX6, "firstDayUnlicensed", "()I"⟩
abbrev cX6_latestLicenceEnd : ByteArray := prog_8_method_4_code
def yX6_latestLicenceEnd : MethodName := ⟨RX6, "latestLicenceEnd", "(I)I"⟩
def RX7 : String := "Termreckonry$Tally"
def TX7 : u_T := fun k => match k with
  | 0 => ("Termreckonry$Tally", "begun", "I", false)
  | 1 => ("Termreckonry$Tally", "span", "I", false)
  | 2 => ("Termreckonry$Tally", "needs", "I", false)
  | 3 => ("Termreckonry$Tally", "served", "I", false)
  | 4 => ("Termreckonry$Tally", "missed", "I", false)
  | 5 => ("Termreckonry$Tally", "freed", "I", false)
  | _ => ("Termreckonry$Tally", "licenceEnd", "I", false)
def tyX7 : Nat → FieldType := fun k => match k with
  | 0 => .int
  | 1 => .int
  | 2 => .int
  | 3 => .int
  | 4 => .int
  | 5 => .int
  | _ => .int
theorem nmX7 : ∀ a, a < 7 → ∀ b, b < 7 → a ≠ b → (TX7 a).2.1 ≠ (TX7 b).2.1 := by decide +kernel
theorem tyX7_ok : ∀ k, k < 7 → parseFieldDescriptor (TX7 k).2.2.1 = some (tyX7 k) := by decide +kernel
abbrev cX7_init : ByteArray := prog_9_method_1_code
def yX7_init : MethodName := ⟨RX7, "<init>", "()V"⟩
abbrev cX7_open : ByteArray := prog_9_method_2_code
def yX7_open : MethodName := ⟨RX7, "open", "()V"⟩
abbrev cX7_runs : ByteArray := prog_9_method_3_code
def yX7_runs : MethodName := ⟨RX7, "runs", "()Z"⟩
abbrev cX7_licenses : ByteArray := prog_9_method_4_code
def yX7_licenses : MethodName := ⟨RX7, "licenses", "(I)Z"⟩
abbrev cX7_passDay : ByteArray := prog_9_method_5_code
def yX7_passDay : MethodName := ⟨RX7, "passDay", "(LTermreckonry$Warrant;IZ)V"⟩
abbrev cX7_putAdded : ByteArray := prog_9_method_6_code
def yX7_putAdded : MethodName := ⟨RX7, "putAdded", "(LTermreckonry$Warrant;LTermreckonry$Added;)V"⟩
abbrev cX7_mayBegin : ByteArray := prog_9_method_7_code
def yX7_mayBegin : MethodName := ⟨RX7, "mayBegin", "(LTermreckonry$Warrant;I)Z"⟩
abbrev cX7_mayLeave : ByteArray := prog_9_method_8_code
def yX7_mayLeave : MethodName := ⟨RX7, "mayLeave", "(LTermreckonry$Warrant;I)Z"⟩
abbrev cX7_endOfLicence : ByteArray := prog_9_method_9_code
def yX7_endOfLicence : MethodName := ⟨RX7, "endOfLicence", "(LTermreckonry$Warrant;)I"⟩
def RX8 : String := "Termreckonry$Term"
def TX8 : u_T := fun k => match k with
  | 0 => ("Termreckonry$Term", "years", "I", true)
  | 1 => ("Termreckonry$Term", "months", "I", true)
  | _ => ("Termreckonry$Term", "days", "I", true)
def tyX8 : Nat → FieldType := fun k => match k with
  | 0 => .int
  | 1 => .int
  | _ => .int
theorem nmX8 : ∀ a, a < 3 → ∀ b, b < 3 → a ≠ b → (TX8 a).2.1 ≠ (TX8 b).2.1 := by decide +kernel
theorem tyX8_ok : ∀ k, k < 3 → parseFieldDescriptor (TX8 k).2.2.1 = some (tyX8 k) := by decide +kernel
abbrev cX8_init : ByteArray := prog_10_method_1_code
def yX8_init : MethodName := ⟨RX8, "<init>", "(III)V"⟩
abbrev cX8_spanFrom : ByteArray := prog_10_method_2_code
def yX8_spanFrom : MethodName := ⟨RX8, "spanFrom", "(I)I"⟩
def RX9 : String := "Termreckonry$Warrant"
def TX9 : u_T := fun k => match k with
  | 0 => ("Termreckonry$Warrant", "number", "I", true)
  | 1 => ("Termreckonry$Warrant", "owner", "LTermreckonry$Person;", true)
  | 2 => ("Termreckonry$Warrant", "kind", "C", true)
  | 3 => ("Termreckonry$Warrant", "offence", "I", true)
  | 4 => ("Termreckonry$Warrant", "passed", "I", true)
  | 5 => ("Termreckonry$Warrant", "ahead", "LTermreckonry$Warrant;", true)
  | 6 => ("Termreckonry$Warrant", "tally", "LTermreckonry$Tally;", true)
  | 7 => ("Termreckonry$Warrant", "law", "LTermreckonry$Law;", false)
  | 8 => ("Termreckonry$Warrant", "term", "LTermreckonry$Term;", false)
  | 9 => ("Termreckonry$Warrant", "runsFrom", "I", false)
  | 10 => ("Termreckonry$Warrant", "yesDay", "I", false)
  | 11 => ("Termreckonry$Warrant", "countedWhole", "I", false)
  | 12 => ("Termreckonry$Warrant", "countedUnderTag", "I", false)
  | 13 => ("Termreckonry$Warrant", "quashed", "Z", false)
  | 14 => ("Termreckonry$Warrant", "begin", "I", false)
  | 15 => ("Termreckonry$Warrant", "neededDays", "I", false)
  | 16 => ("Termreckonry$Warrant", "releaseDay", "I", false)
  | 17 => ("Termreckonry$Warrant", "licenceEnd", "I", false)
  | _ => ("Termreckonry$Warrant", "next", "LTermreckonry$Warrant;", false)
def tyX9 : Nat → FieldType := fun k => match k with
  | 0 => .int
  | 1 => .object "Termreckonry$Person"
  | 2 => .char
  | 3 => .int
  | 4 => .int
  | 5 => .object "Termreckonry$Warrant"
  | 6 => .object "Termreckonry$Tally"
  | 7 => .object "Termreckonry$Law"
  | 8 => .object "Termreckonry$Term"
  | 9 => .int
  | 10 => .int
  | 11 => .int
  | 12 => .int
  | 13 => .boolean
  | 14 => .int
  | 15 => .int
  | 16 => .int
  | 17 => .int
  | _ => .object "Termreckonry$Warrant"
theorem nmX9 : ∀ a, a < 19 → ∀ b, b < 19 → a ≠ b → (TX9 a).2.1 ≠ (TX9 b).2.1 := by decide +kernel
theorem tyX9_ok : ∀ k, k < 19 → parseFieldDescriptor (TX9 k).2.2.1 = some (tyX9 k) := by decide +kernel
abbrev cX9_init : ByteArray := prog_11_method_1_code
def yX9_init : MethodName := ⟨RX9, "<init>", "(ILTermreckonry$Person;CIILTermreckonry$Warrant;LTermreckonry$Term;)V"⟩
abbrev cX9_apply : ByteArray := prog_11_method_2_code
def yX9_apply : MethodName := ⟨RX9, "apply", "(LTermreckonry$Law;)V"⟩
abbrev cX9_isLikeFixed : ByteArray := prog_11_method_3_code
def yX9_isLikeFixed : MethodName := ⟨RX9, "isLikeFixed", "()Z"⟩
abbrev cX9_waits : ByteArray := prog_11_method_4_code
def yX9_waits : MethodName := ⟨RX9, "waits", "()Z"⟩
abbrev cX9_counts : ByteArray := prog_11_method_5_code
def yX9_counts : MethodName := ⟨RX9, "counts", "()Z"⟩
abbrev cX9_ownDay : ByteArray := prog_11_method_6_code
def yX9_ownDay : MethodName := ⟨RX9, "ownDay", "()I"⟩
abbrev cX9_needsYes : ByteArray := prog_11_method_7_code
def yX9_needsYes : MethodName := ⟨RX9, "needsYes", "()Z"⟩
abbrev cX9_countedDays : ByteArray := prog_11_method_8_code
def yX9_countedDays : MethodName := ⟨RX9, "countedDays", "()I"⟩
abbrev cX9_neededOf : ByteArray := prog_11_method_9_code
def yX9_neededOf : MethodName := ⟨RX9, "neededOf", "(I)I"⟩
abbrev cX9_mostNeededOf : ByteArray := prog_11_method_10_code
def yX9_mostNeededOf : MethodName := ⟨RX9, "mostNeededOf", "(I)I"⟩
abbrev cX9_keepsOn : ByteArray := prog_11_method_11_code
def yX9_keepsOn : MethodName := ⟨RX9, "keepsOn", "(I)Z"⟩
abbrev cX9_licensesOn : ByteArray := prog_11_method_12_code
def yX9_licensesOn : MethodName := ⟨RX9, "licensesOn", "(I)Z"⟩
abbrev cX9_reckon : ByteArray := prog_11_method_13_code
def yX9_reckon : MethodName := ⟨RX9, "reckon", "()V"⟩
abbrev cX9_reckonBegin : ByteArray := prog_11_method_14_code
def yX9_reckonBegin : MethodName := ⟨RX9, "reckonBegin", "()I"⟩
abbrev cX9_releaseAfter : ByteArray := prog_11_method_15_code
def yX9_releaseAfter : MethodName := ⟨RX9, "releaseAfter", "(I)I"⟩
abbrev cX9_endAfter : ByteArray := prog_11_method_16_code
def yX9_endAfter : MethodName := ⟨RX9, "endAfter", "(I)I"⟩
def RX10 : String := "Termreckonry"
def TX10 : u_T := fun k => match k with
  | 0 => ("Termreckonry", "laws", "[LTermreckonry$Law;", true)
  | 1 => ("Termreckonry", "persons", "[LTermreckonry$Person;", true)
  | 2 => ("Termreckonry", "warrants", "[LTermreckonry$Warrant;", true)
  | 3 => ("Termreckonry", "additions", "[LTermreckonry$Added;", true)
  | 4 => ("Termreckonry", "due", "LTermreckonry$Days;", true)
  | 5 => ("Termreckonry", "lawCount", "I", false)
  | 6 => ("Termreckonry", "personCount", "I", false)
  | 7 => ("Termreckonry", "warrantCount", "I", false)
  | 8 => ("Termreckonry", "additionCount", "I", false)
  | _ => ("Termreckonry", "recallCount", "I", false)
def tyX10 : Nat → FieldType := fun k => match k with
  | 0 => .array (.object "Termreckonry$Law")
  | 1 => .array (.object "Termreckonry$Person")
  | 2 => .array (.object "Termreckonry$Warrant")
  | 3 => .array (.object "Termreckonry$Added")
  | 4 => .object "Termreckonry$Days"
  | 5 => .int
  | 6 => .int
  | 7 => .int
  | 8 => .int
  | _ => .int
theorem nmX10 : ∀ a, a < 10 → ∀ b, b < 10 → a ≠ b → (TX10 a).2.1 ≠ (TX10 b).2.1 := by decide +kernel
theorem tyX10_ok : ∀ k, k < 10 → parseFieldDescriptor (TX10 k).2.2.1 = some (tyX10 k) := by decide +kernel
abbrev cX10_init : ByteArray := prog_1_method_1_code
def yX10_init : MethodName := ⟨RX10, "<init>", "()V"⟩
abbrev cX10_dayOf : ByteArray := prog_1_method_2_code
def yX10_dayOf : MethodName := ⟨RX10, "dayOf", "(III)I"⟩
abbrev cX10_dateOf : ByteArray := prog_1_method_3_code
def yX10_dateOf : MethodName := ⟨RX10, "dateOf", "(I)I"⟩
abbrev cX10_length : ByteArray := prog_1_method_4_code
def yX10_length : MethodName := ⟨RX10, "length", "(IIII)I"⟩
abbrev cX10_law : ByteArray := prog_1_method_5_code
def yX10_law : MethodName := ⟨RX10, "law", "(CIIZ)I"⟩
abbrev cX10_lawOf : ByteArray := prog_1_method_6_code
def yX10_lawOf : MethodName := ⟨RX10, "lawOf", "(I)I"⟩
abbrev cX10_person : ByteArray := prog_1_method_7_code
def yX10_person : MethodName := ⟨RX10, "person", "()I"⟩
abbrev cX10_warrant : ByteArray := prog_1_method_8_code
def yX10_warrant : MethodName := ⟨RX10, "warrant", "(ICIIIIII)I"⟩
abbrev cX10_count : ByteArray := prog_1_method_9_code
def yX10_count : MethodName := ⟨RX10, "count", "(IIZ)I"⟩
abbrev cX10_activate : ByteArray := prog_1_method_10_code
def yX10_activate : MethodName := ⟨RX10, "activate", "(II)I"⟩
abbrev cX10_vary : ByteArray := prog_1_method_11_code
def yX10_vary : MethodName := ⟨RX10, "vary", "(IIII)I"⟩
abbrev cX10_quash : ByteArray := prog_1_method_12_code
def yX10_quash : MethodName := ⟨RX10, "quash", "(I)Z"⟩
abbrev cX10_approve : ByteArray := prog_1_method_13_code
def yX10_approve : MethodName := ⟨RX10, "approve", "(II)I"⟩
abbrev cX10_add : ByteArray := prog_1_method_14_code
def yX10_add : MethodName := ⟨RX10, "add", "(III)I"⟩
abbrev cX10_giveBack : ByteArray := prog_1_method_15_code
def yX10_giveBack : MethodName := ⟨RX10, "giveBack", "(II)I"⟩
abbrev cX10_atLarge : ByteArray := prog_1_method_16_code
def yX10_atLarge : MethodName := ⟨RX10, "atLarge", "(III)I"⟩
abbrev cX10_recall : ByteArray := prog_1_method_17_code
def yX10_recall : MethodName := ⟨RX10, "recall", "(IIC)I"⟩
abbrev cX10_letGo : ByteArray := prog_1_method_18_code
def yX10_letGo : MethodName := ⟨RX10, "letGo", "(II)I"⟩
abbrev cX10_begins : ByteArray := prog_1_method_19_code
def yX10_begins : MethodName := ⟨RX10, "begins", "(I)I"⟩
abbrev cX10_needed : ByteArray := prog_1_method_20_code
def yX10_needed : MethodName := ⟨RX10, "needed", "(I)I"⟩
abbrev cX10_release : ByteArray := prog_1_method_21_code
def yX10_release : MethodName := ⟨RX10, "release", "(I)I"⟩
abbrev cX10_end : ByteArray := prog_1_method_22_code
def yX10_end : MethodName := ⟨RX10, "end", "(I)I"⟩
abbrev cX10_stateOn : ByteArray := prog_1_method_23_code
def yX10_stateOn : MethodName := ⟨RX10, "stateOn", "(II)C"⟩
abbrev cX10_byClerk : ByteArray := prog_1_method_24_code
def yX10_byClerk : MethodName := ⟨RX10, "byClerk", "(II)C"⟩
abbrev cX10_keeper : ByteArray := prog_1_method_25_code
def yX10_keeper : MethodName := ⟨RX10, "keeper", "(II)I"⟩
abbrev cX10_held : ByteArray := prog_1_method_26_code
def yX10_held : MethodName := ⟨RX10, "held", "(III)I"⟩
abbrev cX10_tooLong : ByteArray := prog_1_method_27_code
def yX10_tooLong : MethodName := ⟨RX10, "tooLong", "(II)I"⟩
abbrev cX10_tooShort : ByteArray := prog_1_method_28_code
def yX10_tooShort : MethodName := ⟨RX10, "tooShort", "(II)I"⟩
abbrev cX10_warrants : ByteArray := prog_1_method_29_code
def yX10_warrants : MethodName := ⟨RX10, "warrants", "()I"⟩
abbrev cX10_owed : ByteArray := prog_1_method_30_code
def yX10_owed : MethodName := ⟨RX10, "owed", "()J"⟩
abbrev cX10_prisonShare : ByteArray := prog_1_method_31_code
def yX10_prisonShare : MethodName := ⟨RX10, "prisonShare", "(I)F"⟩
abbrev cX10_meanNeeded : ByteArray := prog_1_method_32_code
def yX10_meanNeeded : MethodName := ⟨RX10, "meanNeeded", "()D"⟩
abbrev cX10_isTrue : ByteArray := prog_1_method_33_code
def yX10_isTrue : MethodName := ⟨RX10, "isTrue", "()Z"⟩
abbrev cX10_knownPerson : ByteArray := prog_1_method_34_code
def yX10_knownPerson : MethodName := ⟨RX10, "knownPerson", "(I)LTermreckonry$Person;"⟩
abbrev cX10_knownWarrant : ByteArray := prog_1_method_35_code
def yX10_knownWarrant : MethodName := ⟨RX10, "knownWarrant", "(I)LTermreckonry$Warrant;"⟩
abbrev cX10_knownAdded : ByteArray := prog_1_method_36_code
def yX10_knownAdded : MethodName := ⟨RX10, "knownAdded", "(I)LTermreckonry$Added;"⟩
abbrev cX10_begunWarrant : ByteArray := prog_1_method_37_code
def yX10_begunWarrant : MethodName := ⟨RX10, "begunWarrant", "(I)LTermreckonry$Warrant;"⟩
abbrev cX10_sumNeeded : ByteArray := prog_1_method_38_code
def yX10_sumNeeded : MethodName := ⟨RX10, "sumNeeded", "()J"⟩
abbrev cX10_reckonAll : ByteArray := prog_1_method_39_code
def yX10_reckonAll : MethodName := ⟨RX10, "reckonAll", "()V"⟩
abbrev cX10_requireRange : ByteArray := prog_1_method_40_code
def yX10_requireRange : MethodName := ⟨RX10, "requireRange", "(III)V"⟩
abbrev cX10_requireDay : ByteArray := prog_1_method_41_code
def yX10_requireDay : MethodName := ⟨RX10, "requireDay", "(I)V"⟩
abbrev cX10_requireSpan : ByteArray := prog_1_method_42_code
def yX10_requireSpan : MethodName := ⟨RX10, "requireSpan", "(II)V"⟩
abbrev cX10_requireTerm : ByteArray := prog_1_method_43_code
def yX10_requireTerm : MethodName := ⟨RX10, "requireTerm", "(III)V"⟩
abbrev cX10_requireSomeTerm : ByteArray := prog_1_method_44_code
def yX10_requireSomeTerm : MethodName := ⟨RX10, "requireSomeTerm", "(III)V"⟩
abbrev cX10_requireKind : ByteArray := prog_1_method_45_code
def yX10_requireKind : MethodName := ⟨RX10, "requireKind", "(C)V"⟩
def RX11 : String := "TermreckonryModel$Added"
def TX11 : u_T := fun k => match k with
  | 0 => ("TermreckonryModel$Added", "person", "I", true)
  | 1 => ("TermreckonryModel$Added", "day", "I", true)
  | _ => ("TermreckonryModel$Added", "left", "I", false)
def tyX11 : Nat → FieldType := fun k => match k with
  | 0 => .int
  | 1 => .int
  | _ => .int
theorem nmX11 : ∀ a, a < 3 → ∀ b, b < 3 → a ≠ b → (TX11 a).2.1 ≠ (TX11 b).2.1 := by decide +kernel
theorem tyX11_ok : ∀ k, k < 3 → parseFieldDescriptor (TX11 k).2.2.1 = some (tyX11 k) := by decide +kernel
abbrev cX11_init : ByteArray := prog_14_method_1_code
def yX11_init : MethodName := ⟨RX11, "<init>", "(III)V"⟩
def RX12 : String := "TermreckonryModel$Fact"
def TX12 : u_T := fun k => match k with
  | 0 => ("TermreckonryModel$Fact", "begins", "Z", false)
  | 1 => ("TermreckonryModel$Fact", "begin", "I", false)
  | 2 => ("TermreckonryModel$Fact", "length", "I", false)
  | 3 => ("TermreckonryModel$Fact", "needed", "I", false)
  | 4 => ("TermreckonryModel$Fact", "release", "I", false)
  | _ => ("TermreckonryModel$Fact", "end", "I", false)
def tyX12 : Nat → FieldType := fun k => match k with
  | 0 => .boolean
  | 1 => .int
  | 2 => .int
  | 3 => .int
  | 4 => .int
  | _ => .int
theorem nmX12 : ∀ a, a < 6 → ∀ b, b < 6 → a ≠ b → (TX12 a).2.1 ≠ (TX12 b).2.1 := by decide +kernel
theorem tyX12_ok : ∀ k, k < 6 → parseFieldDescriptor (TX12 k).2.2.1 = some (tyX12 k) := by decide +kernel
abbrev cX12_init : ByteArray := prog_15_method_1_code
def yX12_init : MethodName := ⟨RX12, "<init>", "()V"⟩
def RX13 : String := "TermreckonryModel$Law"
def TX13 : u_T := fun k => match k with
  | 0 => ("TermreckonryModel$Law", "by", "C", true)
  | 1 => ("TermreckonryModel$Law", "from", "I", true)
  | 2 => ("TermreckonryModel$Law", "eighths", "I", true)
  | _ => ("TermreckonryModel$Law", "needsBoard", "Z", true)
def tyX13 : Nat → FieldType := fun k => match k with
  | 0 => .char
  | 1 => .int
  | 2 => .int
  | _ => .boolean
theorem nmX13 : ∀ a, a < 4 → ∀ b, b < 4 → a ≠ b → (TX13 a).2.1 ≠ (TX13 b).2.1 := by decide +kernel
theorem tyX13_ok : ∀ k, k < 4 → parseFieldDescriptor (TX13 k).2.2.1 = some (tyX13 k) := by decide +kernel
abbrev cX13_init : ByteArray := prog_16_method_1_code
def yX13_init : MethodName := ⟨RX13, "<init>", "(CIIZ)V"⟩
def RX14 : String := "TermreckonryModel$Person"
def TX14 : u_T := fun k => match k with
  | 0 => ("TermreckonryModel$Person", "free", "[I", true)
  | 1 => ("TermreckonryModel$Person", "isAway", "[Z", true)
  | _ => ("TermreckonryModel$Person", "isHeld", "[Z", true)
def tyX14 : Nat → FieldType := fun k => match k with
  | 0 => .array .int
  | 1 => .array .boolean
  | _ => .array .boolean
theorem nmX14 : ∀ a, a < 3 → ∀ b, b < 3 → a ≠ b → (TX14 a).2.1 ≠ (TX14 b).2.1 := by decide +kernel
theorem tyX14_ok : ∀ k, k < 3 → parseFieldDescriptor (TX14 k).2.2.1 = some (tyX14 k) := by decide +kernel
abbrev cX14_init : ByteArray := prog_17_method_1_code
def yX14_init : MethodName := ⟨RX14, "<init>", "()V"⟩
abbrev cX14_sums : ByteArray := prog_17_method_2_code
def yX14_sums : MethodName := ⟨RX14, "sums", "()V"⟩
abbrev cX14_behind : ByteArray := prog_17_method_3_code
def yX14_behind : MethodName := ⟨RX14, "behind", "(II)I"⟩
def RX15 : String := "TermreckonryModel$Recall"
def TX15 : u_T := fun k => match k with
  | 0 => ("TermreckonryModel$Recall", "person", "I", true)
  | 1 => ("TermreckonryModel$Recall", "day", "I", true)
  | 2 => ("TermreckonryModel$Recall", "kind", "C", true)
  | 3 => ("TermreckonryModel$Recall", "warrants", "I", true)
  | _ => ("TermreckonryModel$Recall", "letGo", "I", false)
def tyX15 : Nat → FieldType := fun k => match k with
  | 0 => .int
  | 1 => .int
  | 2 => .char
  | 3 => .int
  | _ => .int
theorem nmX15 : ∀ a, a < 5 → ∀ b, b < 5 → a ≠ b → (TX15 a).2.1 ≠ (TX15 b).2.1 := by decide +kernel
theorem tyX15_ok : ∀ k, k < 5 → parseFieldDescriptor (TX15 k).2.2.1 = some (tyX15 k) := by decide +kernel
abbrev cX15_init : ByteArray := prog_18_method_1_code
def yX15_init : MethodName := ⟨RX15, "<init>", "(IICI)V"⟩
def RX16 : String := "TermreckonryModel$Warrant"
def TX16 : u_T := fun k => match k with
  | 0 => ("TermreckonryModel$Warrant", "person", "I", true)
  | 1 => ("TermreckonryModel$Warrant", "kind", "C", true)
  | 2 => ("TermreckonryModel$Warrant", "offence", "I", true)
  | 3 => ("TermreckonryModel$Warrant", "passed", "I", true)
  | 4 => ("TermreckonryModel$Warrant", "behind", "I", true)
  | 5 => ("TermreckonryModel$Warrant", "years", "I", false)
  | 6 => ("TermreckonryModel$Warrant", "months", "I", false)
  | 7 => ("TermreckonryModel$Warrant", "days", "I", false)
  | 8 => ("TermreckonryModel$Warrant", "plain", "I", false)
  | 9 => ("TermreckonryModel$Warrant", "tagged", "I", false)
  | 10 => ("TermreckonryModel$Warrant", "runs", "I", false)
  | 11 => ("TermreckonryModel$Warrant", "isQuashed", "Z", false)
  | _ => ("TermreckonryModel$Warrant", "yes", "I", false)
def tyX16 : Nat → FieldType := fun k => match k with
  | 0 => .int
  | 1 => .char
  | 2 => .int
  | 3 => .int
  | 4 => .int
  | 5 => .int
  | 6 => .int
  | 7 => .int
  | 8 => .int
  | 9 => .int
  | 10 => .int
  | 11 => .boolean
  | _ => .int
theorem nmX16 : ∀ a, a < 13 → ∀ b, b < 13 → a ≠ b → (TX16 a).2.1 ≠ (TX16 b).2.1 := by decide +kernel
theorem tyX16_ok : ∀ k, k < 13 → parseFieldDescriptor (TX16 k).2.2.1 = some (tyX16 k) := by decide +kernel
abbrev cX16_init : ByteArray := prog_19_method_1_code
def yX16_init : MethodName := ⟨RX16, "<init>", "(ICIII)V"⟩
abbrev cX16_counted : ByteArray := prog_19_method_2_code
def yX16_counted : MethodName := ⟨RX16, "counted", "()I"⟩
abbrev cX16_counts : ByteArray := prog_19_method_3_code
def yX16_counts : MethodName := ⟨RX16, "counts", "()Z"⟩
abbrev cX16_isFixed : ByteArray := prog_19_method_4_code
def yX16_isFixed : MethodName := ⟨RX16, "isFixed", "()Z"⟩
abbrev cX16_length : ByteArray := prog_19_method_5_code
def yX16_length : MethodName := ⟨RX16, "length", "(I)I"⟩
def RX17 : String := "TermreckonryModel"
def TX17 : u_T := fun k => match k with
  | 0 => ("TermreckonryModel", "thrown", "I", false)
  | 1 => ("TermreckonryModel", "laws", "Ljava/util/ArrayList;", true)
  | 2 => ("TermreckonryModel", "persons", "Ljava/util/ArrayList;", true)
  | 3 => ("TermreckonryModel", "warrants", "Ljava/util/ArrayList;", true)
  | 4 => ("TermreckonryModel", "added", "Ljava/util/ArrayList;", true)
  | _ => ("TermreckonryModel", "recalls", "Ljava/util/ArrayList;", true)
def tyX17 : Nat → FieldType := fun k => match k with
  | 0 => .int
  | 1 => .object "java/util/ArrayList"
  | 2 => .object "java/util/ArrayList"
  | 3 => .object "java/util/ArrayList"
  | 4 => .object "java/util/ArrayList"
  | _ => .object "java/util/ArrayList"
theorem nmX17 : ∀ a, a < 6 → ∀ b, b < 6 → a ≠ b → (TX17 a).2.1 ≠ (TX17 b).2.1 := by decide +kernel
theorem tyX17_ok : ∀ k, k < 6 → parseFieldDescriptor (TX17 k).2.2.1 = some (tyX17 k) := by decide +kernel
abbrev cX17_in : ByteArray := prog_13_method_1_code
def yX17_in : MethodName := ⟨RX17, "in", "(III)Z"⟩
abbrev cX17_init : ByteArray := prog_13_method_2_code
def yX17_init : MethodName := ⟨RX17, "<init>", "()V"⟩
abbrev cX17_thrown : ByteArray := prog_13_method_3_code
def yX17_thrown : MethodName := ⟨RX17, "thrown", "()I"⟩
abbrev cX17_raises : ByteArray := prog_13_method_4_code
def yX17_raises : MethodName := ⟨RX17, "raises", "(I)I"⟩
abbrev cX17_isLeap : ByteArray := prog_13_method_5_code
def yX17_isLeap : MethodName := ⟨RX17, "isLeap", "(I)Z"⟩
abbrev cX17_daysOf : ByteArray := prog_13_method_6_code
def yX17_daysOf : MethodName := ⟨RX17, "daysOf", "(II)I"⟩
abbrev cX17_firstOf : ByteArray := prog_13_method_7_code
def yX17_firstOf : MethodName := ⟨RX17, "firstOf", "(I)I"⟩
abbrev cX17_monthOf : ByteArray := prog_13_method_8_code
def yX17_monthOf : MethodName := ⟨RX17, "monthOf", "(I)I"⟩
abbrev cX17_lengthOf : ByteArray := prog_13_method_9_code
def yX17_lengthOf : MethodName := ⟨RX17, "lengthOf", "(IIII)I"⟩
abbrev cX17_dayOf : ByteArray := prog_13_method_10_code
def yX17_dayOf : MethodName := ⟨RX17, "dayOf", "(III)I"⟩
abbrev cX17_noDay : ByteArray := prog_13_method_11_code
def yX17_noDay : MethodName := ⟨RX17, "noDay", "(I)Z"⟩
abbrev cX17_dateOf : ByteArray := prog_13_method_12_code
def yX17_dateOf : MethodName := ⟨RX17, "dateOf", "(I)I"⟩
abbrev cX17_areTerm : ByteArray := prog_13_method_13_code
def yX17_areTerm : MethodName := ⟨RX17, "areTerm", "(III)Z"⟩
abbrev cX17_length : ByteArray := prog_13_method_14_code
def yX17_length : MethodName := ⟨RX17, "length", "(IIII)I"⟩
abbrev cX17_law : ByteArray := prog_13_method_15_code
def yX17_law : MethodName := ⟨RX17, "law", "(CIIZ)I"⟩
abbrev cX17_lawFor : ByteArray := prog_13_method_16_code
def yX17_lawFor : MethodName := ⟨RX17, "lawFor", "(LTermreckonryModel$Warrant;)I"⟩
abbrev cX17_isWarrant : ByteArray := prog_13_method_17_code
def yX17_isWarrant : MethodName := ⟨RX17, "isWarrant", "(I)Z"⟩
abbrev cX17_noWarrant : ByteArray := prog_13_method_18_code
def yX17_noWarrant : MethodName := ⟨RX17, "noWarrant", "(I)Z"⟩
abbrev cX17_lawOf : ByteArray := prog_13_method_19_code
def yX17_lawOf : MethodName := ⟨RX17, "lawOf", "(I)I"⟩
abbrev cX17_person : ByteArray := prog_13_method_20_code
def yX17_person : MethodName := ⟨RX17, "person", "()I"⟩
abbrev cX17_isPerson : ByteArray := prog_13_method_21_code
def yX17_isPerson : MethodName := ⟨RX17, "isPerson", "(I)Z"⟩
abbrev cX17_warrant : ByteArray := prog_13_method_22_code
def yX17_warrant : MethodName := ⟨RX17, "warrant", "(ICIIIIII)I"⟩
abbrev cX17_count : ByteArray := prog_13_method_23_code
def yX17_count : MethodName := ⟨RX17, "count", "(IIZ)I"⟩
abbrev cX17_activate : ByteArray := prog_13_method_24_code
def yX17_activate : MethodName := ⟨RX17, "activate", "(II)I"⟩
abbrev cX17_vary : ByteArray := prog_13_method_25_code
def yX17_vary : MethodName := ⟨RX17, "vary", "(IIII)I"⟩
abbrev cX17_quash : ByteArray := prog_13_method_26_code
def yX17_quash : MethodName := ⟨RX17, "quash", "(I)Z"⟩
abbrev cX17_approve : ByteArray := prog_13_method_27_code
def yX17_approve : MethodName := ⟨RX17, "approve", "(II)I"⟩
abbrev cX17_noPerson : ByteArray := prog_13_method_28_code
def yX17_noPerson : MethodName := ⟨RX17, "noPerson", "(IZ)Z"⟩
abbrev cX17_add : ByteArray := prog_13_method_29_code
def yX17_add : MethodName := ⟨RX17, "add", "(III)I"⟩
abbrev cX17_giveBack : ByteArray := prog_13_method_30_code
def yX17_giveBack : MethodName := ⟨RX17, "giveBack", "(II)I"⟩
abbrev cX17_marks : ByteArray := prog_13_method_31_code
def yX17_marks : MethodName := ⟨RX17, "marks", "([ZII)I"⟩
abbrev cX17_areSpan : ByteArray := prog_13_method_32_code
def yX17_areSpan : MethodName := ⟨RX17, "areSpan", "(II)Z"⟩
abbrev cX17_atLarge : ByteArray := prog_13_method_33_code
def yX17_atLarge : MethodName := ⟨RX17, "atLarge", "(III)I"⟩
abbrev cX17_releaseBy : ByteArray := prog_13_method_34_code
def yX17_releaseBy : MethodName := ⟨RX17, "releaseBy", "(LTermreckonryModel$Warrant;II)I"⟩
abbrev cX17_addedOf : ByteArray := prog_13_method_35_code
def yX17_addedOf : MethodName := ⟨RX17, "addedOf", "(I)Ljava/util/ArrayList;"⟩
abbrev cX17_factOf : ByteArray := prog_13_method_36_code
def yX17_factOf : MethodName := ⟨RX17, "factOf", "(LTermreckonryModel$Warrant;[LTermreckonryModel$Fact;)LTermreckonryModel$Fact;"⟩
abbrev cX17_facts : ByteArray := prog_13_method_37_code
def yX17_facts : MethodName := ⟨RX17, "facts", "()[LTermreckonryModel$Fact;"⟩
abbrev cX17_hasLicence : ByteArray := prog_13_method_38_code
def yX17_hasLicence : MethodName := ⟨RX17, "hasLicence", "(LTermreckonryModel$Warrant;LTermreckonryModel$Fact;I)Z"⟩
abbrev cX17_isLicensed : ByteArray := prog_13_method_39_code
def yX17_isLicensed : MethodName := ⟨RX17, "isLicensed", "(II[LTermreckonryModel$Fact;I)Z"⟩
abbrev cX17_goesOn : ByteArray := prog_13_method_40_code
def yX17_goesOn : MethodName := ⟨RX17, "goesOn", "(LTermreckonryModel$Recall;I[LTermreckonryModel$Fact;)Z"⟩
abbrev cX17_isIn : ByteArray := prog_13_method_41_code
def yX17_isIn : MethodName := ⟨RX17, "isIn", "(II[LTermreckonryModel$Fact;)Z"⟩
abbrev cX17_stateOf : ByteArray := prog_13_method_42_code
def yX17_stateOf : MethodName := ⟨RX17, "stateOf", "(II[LTermreckonryModel$Fact;)C"⟩
abbrev cX17_recall : ByteArray := prog_13_method_43_code
def yX17_recall : MethodName := ⟨RX17, "recall", "(IIC)I"⟩
abbrev cX17_letGo : ByteArray := prog_13_method_44_code
def yX17_letGo : MethodName := ⟨RX17, "letGo", "(II)I"⟩
abbrev cX17_begun : ByteArray := prog_13_method_45_code
def yX17_begun : MethodName := ⟨RX17, "begun", "(I)LTermreckonryModel$Fact;"⟩
abbrev cX17_begins : ByteArray := prog_13_method_46_code
def yX17_begins : MethodName := ⟨RX17, "begins", "(I)I"⟩
abbrev cX17_needed : ByteArray := prog_13_method_47_code
def yX17_needed : MethodName := ⟨RX17, "needed", "(I)I"⟩
abbrev cX17_release : ByteArray := prog_13_method_48_code
def yX17_release : MethodName := ⟨RX17, "release", "(I)I"⟩
abbrev cX17_end : ByteArray := prog_13_method_49_code
def yX17_end : MethodName := ⟨RX17, "end", "(I)I"⟩
abbrev cX17_stateOn : ByteArray := prog_13_method_50_code
def yX17_stateOn : MethodName := ⟨RX17, "stateOn", "(II)C"⟩
abbrev cX17_byClerk : ByteArray := prog_13_method_51_code
def yX17_byClerk : MethodName := ⟨RX17, "byClerk", "(II)C"⟩
abbrev cX17_keeper : ByteArray := prog_13_method_52_code
def yX17_keeper : MethodName := ⟨RX17, "keeper", "(II)I"⟩
abbrev cX17_held : ByteArray := prog_13_method_53_code
def yX17_held : MethodName := ⟨RX17, "held", "(III)I"⟩
abbrev cX17_counted : ByteArray := prog_13_method_54_code
def yX17_counted : MethodName := ⟨RX17, "counted", "(IIZLjava/lang/String;)I"⟩
abbrev cX17_endOf : ByteArray := prog_13_method_55_code
def yX17_endOf : MethodName := ⟨RX17, "endOf", "(LTermreckonryModel$Recall;[LTermreckonryModel$Fact;)I"⟩
abbrev cX17_fast : ByteArray := prog_13_method_56_code
def yX17_fast : MethodName := ⟨RX17, "fast", "(II[LTermreckonryModel$Fact;[I)C"⟩
abbrev cX17_tooLong : ByteArray := prog_13_method_57_code
def yX17_tooLong : MethodName := ⟨RX17, "tooLong", "(II)I"⟩
abbrev cX17_tooShort : ByteArray := prog_13_method_58_code
def yX17_tooShort : MethodName := ⟨RX17, "tooShort", "(II)I"⟩
abbrev cX17_warrants : ByteArray := prog_13_method_59_code
def yX17_warrants : MethodName := ⟨RX17, "warrants", "()I"⟩
abbrev cX17_owed : ByteArray := prog_13_method_60_code
def yX17_owed : MethodName := ⟨RX17, "owed", "()J"⟩
abbrev cX17_prisonShare : ByteArray := prog_13_method_61_code
def yX17_prisonShare : MethodName := ⟨RX17, "prisonShare", "(I)F"⟩
abbrev cX17_meanNeeded : ByteArray := prog_13_method_62_code
def yX17_meanNeeded : MethodName := ⟨RX17, "meanNeeded", "()D"⟩
abbrev cX17_isTrue : ByteArray := prog_13_method_63_code
def yX17_isTrue : MethodName := ⟨RX17, "isTrue", "()Z"⟩
def RJx145de : String := "java/io/Serializable"
def TJx145de : u_T := fun k => match k with
  | _ => ("", "", "", false)
def tyJx145de : Nat → FieldType := fun k => match k with
  | _ => .int
theorem nmJx145de : ∀ a, a < 0 → ∀ b, b < 0 → a ≠ b → (TJx145de a).2.1 ≠ (TJx145de b).2.1 := by decide +kernel
theorem tyJx145de_ok : ∀ k, k < 0 → parseFieldDescriptor (TJx145de k).2.2.1 = some (tyJx145de k) := by decide +kernel
def RJ5 : String := "java/lang/AbstractStringBuilder"
def TJ5 : u_T := fun k => match k with
  | _ => ("", "", "", false)
def tyJ5 : Nat → FieldType := fun k => match k with
  | _ => .int
theorem nmJ5 : ∀ a, a < 0 → ∀ b, b < 0 → a ≠ b → (TJ5 a).2.1 ≠ (TJ5 b).2.1 := by decide +kernel
theorem tyJ5_ok : ∀ k, k < 0 → parseFieldDescriptor (TJ5 k).2.2.1 = some (tyJ5 k) := by decide +kernel
abbrev cJ5_init_d00df : ByteArray := prog_21_method_2_code
def yJ5_init_d00df : MethodName := ⟨RJ5, "<init>", "(I)V"⟩
abbrev cJ5_length_8abf5 : ByteArray := prog_21_method_6_code
def yJ5_length_8abf5 : MethodName := ⟨RJ5, "length", "()I"⟩
abbrev cJ5_ensureCapacityInternal_d00df : ByteArray := prog_21_method_9_code
def yJ5_ensureCapacityInternal_d00df : MethodName := ⟨RJ5, "ensureCapacityInternal", "(I)V"⟩
abbrev cJ5_newCapacity_0f7a4 : ByteArray := prog_21_method_10_code
def yJ5_newCapacity_0f7a4 : MethodName := ⟨RJ5, "newCapacity", "(I)I"⟩
abbrev cJ5_inflate_da8c8 : ByteArray := prog_21_method_11_code
def yJ5_inflate_da8c8 : MethodName := ⟨RJ5, "inflate", "()V"⟩
abbrev cJ5_append_cf1ce : ByteArray := prog_21_method_22_code
def yJ5_append_cf1ce : MethodName := ⟨RJ5, "append", "(Ljava/lang/String;)Ljava/lang/AbstractStringBuilder;"⟩
abbrev cJ5_appendNull_278bc : ByteArray := prog_21_method_26_code
def yJ5_appendNull_278bc : MethodName := ⟨RJ5, "appendNull", "()Ljava/lang/AbstractStringBuilder;"⟩
abbrev cJ5_append_c97b9 : ByteArray := prog_21_method_32_code
def yJ5_append_c97b9 : MethodName := ⟨RJ5, "append", "(I)Ljava/lang/AbstractStringBuilder;"⟩
abbrev cJ5_getValue_6d5f1 : ByteArray := prog_21_method_64_code
def yJ5_getValue_6d5f1 : MethodName := ⟨RJ5, "getValue", "()[B"⟩
abbrev cJ5_isLatin1_aae02 : ByteArray := prog_21_method_68_code
def yJ5_isLatin1_aae02 : MethodName := ⟨RJ5, "isLatin1", "()Z"⟩
abbrev cJ5_inflateIfNeededFor_a7421 : ByteArray := prog_21_method_71_code
def yJ5_inflateIfNeededFor_a7421 : MethodName := ⟨RJ5, "inflateIfNeededFor", "(Ljava/lang/String;)V"⟩
abbrev cJ5_putStringAt_47b60 : ByteArray := prog_21_method_73_code
def yJ5_putStringAt_47b60 : MethodName := ⟨RJ5, "putStringAt", "(ILjava/lang/String;)V"⟩
def RJx2cfe8 : String := "java/lang/Appendable"
def TJx2cfe8 : u_T := fun k => match k with
  | _ => ("", "", "", false)
def tyJx2cfe8 : Nat → FieldType := fun k => match k with
  | _ => .int
theorem nmJx2cfe8 : ∀ a, a < 0 → ∀ b, b < 0 → a ≠ b → (TJx2cfe8 a).2.1 ≠ (TJx2cfe8 b).2.1 := by decide +kernel
theorem tyJx2cfe8_ok : ∀ k, k < 0 → parseFieldDescriptor (TJx2cfe8 k).2.2.1 = some (tyJx2cfe8 k) := by decide +kernel
def RJx00060 : String := "java/lang/ArrayIndexOutOfBoundsException"
def TJx00060 : u_T := fun k => match k with
  | 0 => ("java/lang/Throwable", "backtrace", "Ljava/lang/Object;", false)
  | 1 => ("java/lang/Throwable", "detailMessage", "Ljava/lang/String;", false)
  | 2 => ("java/lang/Throwable", "cause", "Ljava/lang/Throwable;", false)
  | 3 => ("java/lang/Throwable", "stackTrace", "[Ljava/lang/StackTraceElement;", false)
  | 4 => ("java/lang/Throwable", "depth", "I", false)
  | _ => ("java/lang/Throwable", "suppressedExceptions", "Ljava/util/List;", false)
def tyJx00060 : Nat → FieldType := fun k => match k with
  | 0 => .object "java/lang/Object"
  | 1 => .object "java/lang/String"
  | 2 => .object "java/lang/Throwable"
  | 3 => .array (.object "java/lang/StackTraceElement")
  | 4 => .int
  | _ => .object "java/util/List"
theorem nmJx00060 : ∀ a, a < 6 → ∀ b, b < 6 → a ≠ b → (TJx00060 a).2.1 ≠ (TJx00060 b).2.1 := by decide +kernel
theorem tyJx00060_ok : ∀ k, k < 6 → parseFieldDescriptor (TJx00060 k).2.2.1 = some (tyJx00060 k) := by decide +kernel
abbrev cJx00060_init_a7421 : ByteArray := prog_24_method_2_code
def yJx00060_init_a7421 : MethodName := ⟨RJx00060, "<init>", "(Ljava/lang/String;)V"⟩
def RJx9f9b0 : String := "java/lang/CharSequence"
def TJx9f9b0 : u_T := fun k => match k with
  | _ => ("", "", "", false)
def tyJx9f9b0 : Nat → FieldType := fun k => match k with
  | _ => .int
theorem nmJx9f9b0 : ∀ a, a < 0 → ∀ b, b < 0 → a ≠ b → (TJx9f9b0 a).2.1 ≠ (TJx9f9b0 b).2.1 := by decide +kernel
theorem tyJx9f9b0_ok : ∀ k, k < 0 → parseFieldDescriptor (TJx9f9b0 k).2.2.1 = some (tyJx9f9b0 k) := by decide +kernel
def RJ11 : String := "java/lang/Character"
def TJ11 : u_T := fun k => match k with
  | _ => ("", "", "", false)
def tyJ11 : Nat → FieldType := fun k => match k with
  | _ => .int
theorem nmJ11 : ∀ a, a < 0 → ∀ b, b < 0 → a ≠ b → (TJ11 a).2.1 ≠ (TJ11 b).2.1 := by decide +kernel
theorem tyJ11_ok : ∀ k, k < 0 → parseFieldDescriptor (TJ11 k).2.2.1 = some (tyJ11 k) := by decide +kernel
abbrev cJ11_isValidCodePoint_9a6ad : ByteArray := prog_26_method_11_code
def yJ11_isValidCodePoint_9a6ad : MethodName := ⟨RJ11, "isValidCodePoint", "(I)Z"⟩
abbrev cJ11_highSurrogate_5068e : ByteArray := prog_26_method_28_code
def yJ11_highSurrogate_5068e : MethodName := ⟨RJ11, "highSurrogate", "(I)C"⟩
abbrev cJ11_lowSurrogate_5068e : ByteArray := prog_26_method_29_code
def yJ11_lowSurrogate_5068e : MethodName := ⟨RJ11, "lowSurrogate", "(I)C"⟩
def RJx8e188 : String := "java/lang/Cloneable"
def TJx8e188 : u_T := fun k => match k with
  | _ => ("", "", "", false)
def tyJx8e188 : Nat → FieldType := fun k => match k with
  | _ => .int
theorem nmJx8e188 : ∀ a, a < 0 → ∀ b, b < 0 → a ≠ b → (TJx8e188 a).2.1 ≠ (TJx8e188 b).2.1 := by decide +kernel
theorem tyJx8e188_ok : ∀ k, k < 0 → parseFieldDescriptor (TJx8e188 k).2.2.1 = some (tyJx8e188 k) := by decide +kernel
def RJxb160c : String := "java/lang/Comparable"
def TJxb160c : u_T := fun k => match k with
  | _ => ("", "", "", false)
def tyJxb160c : Nat → FieldType := fun k => match k with
  | _ => .int
theorem nmJxb160c : ∀ a, a < 0 → ∀ b, b < 0 → a ≠ b → (TJxb160c a).2.1 ≠ (TJxb160c b).2.1 := by decide +kernel
theorem tyJxb160c_ok : ∀ k, k < 0 → parseFieldDescriptor (TJxb160c k).2.2.1 = some (tyJxb160c k) := by decide +kernel
def RJ6 : String := "java/lang/Integer"
def TJ6 : u_T := fun k => match k with
  | _ => ("", "", "", false)
def tyJ6 : Nat → FieldType := fun k => match k with
  | _ => .int
theorem nmJ6 : ∀ a, a < 0 → ∀ b, b < 0 → a ≠ b → (TJ6 a).2.1 ≠ (TJ6 b).2.1 := by decide +kernel
theorem tyJ6_ok : ∀ k, k < 0 → parseFieldDescriptor (TJ6 k).2.2.1 = some (tyJ6 k) := by decide +kernel
abbrev cJ6_getChars_ba4f3 : ByteArray := prog_33_method_12_code
def yJ6_getChars_ba4f3 : MethodName := ⟨RJ6, "getChars", "(II[B)I"⟩
abbrev cJ6_stringSize_0f7a4 : ByteArray := prog_33_method_13_code
def yJ6_stringSize_0f7a4 : MethodName := ⟨RJ6, "stringSize", "(I)I"⟩
def RJxab1ab : String := "java/lang/Iterable"
def TJxab1ab : u_T := fun k => match k with
  | _ => ("", "", "", false)
def tyJxab1ab : Nat → FieldType := fun k => match k with
  | _ => .int
theorem nmJxab1ab : ∀ a, a < 0 → ∀ b, b < 0 → a ≠ b → (TJxab1ab a).2.1 ≠ (TJxab1ab b).2.1 := by decide +kernel
theorem tyJxab1ab_ok : ∀ k, k < 0 → parseFieldDescriptor (TJxab1ab k).2.2.1 = some (tyJxab1ab k) := by decide +kernel
def RJ13 : String := "java/lang/Long"
def TJ13 : u_T := fun k => match k with
  | _ => ("", "", "", false)
def tyJ13 : Nat → FieldType := fun k => match k with
  | _ => .int
theorem nmJ13 : ∀ a, a < 0 → ∀ b, b < 0 → a ≠ b → (TJ13 a).2.1 ≠ (TJ13 b).2.1 := by decide +kernel
theorem tyJ13_ok : ∀ k, k < 0 → parseFieldDescriptor (TJ13 k).2.2.1 = some (tyJ13 k) := by decide +kernel
abbrev cJ13_bitCount_95d88 : ByteArray := prog_35_method_50_code
def yJ13_bitCount_95d88 : MethodName := ⟨RJ13, "bitCount", "(J)I"⟩
def RJ9 : String := "java/lang/Math"
def TJ9 : u_T := fun k => match k with
  | _ => ("", "", "", false)
def tyJ9 : Nat → FieldType := fun k => match k with
  | _ => .int
theorem nmJ9 : ∀ a, a < 0 → ∀ b, b < 0 → a ≠ b → (TJ9 a).2.1 ≠ (TJ9 b).2.1 := by decide +kernel
theorem tyJ9_ok : ∀ k, k < 0 → parseFieldDescriptor (TJ9 k).2.2.1 = some (tyJ9 k) := by decide +kernel
abbrev cJ9_max_7cf53 : ByteArray := prog_36_method_65_code
def yJ9_max_7cf53 : MethodName := ⟨RJ9, "max", "(II)I"⟩
abbrev cJ9_min_7cf53 : ByteArray := prog_36_method_69_code
def yJ9_min_7cf53 : MethodName := ⟨RJ9, "min", "(II)I"⟩
def RJxd2413 : String := "java/lang/Number"
def TJxd2413 : u_T := fun k => match k with
  | _ => ("", "", "", false)
def tyJxd2413 : Nat → FieldType := fun k => match k with
  | _ => .int
theorem nmJxd2413 : ∀ a, a < 0 → ∀ b, b < 0 → a ≠ b → (TJxd2413 a).2.1 ≠ (TJxd2413 b).2.1 := by decide +kernel
theorem tyJxd2413_ok : ∀ k, k < 0 → parseFieldDescriptor (TJxd2413 k).2.2.1 = some (tyJxd2413 k) := by decide +kernel
def RJ0 : String := "java/lang/String"
def TJ0 : u_T := fun k => match k with
  | 0 => ("java/lang/String", "value", "[B", true)
  | 1 => ("java/lang/String", "coder", "B", true)
  | 2 => ("java/lang/String", "hash", "I", false)
  | _ => ("java/lang/String", "hashIsZero", "Z", false)
def tyJ0 : Nat → FieldType := fun k => match k with
  | 0 => .array .byte
  | 1 => .byte
  | 2 => .int
  | _ => .boolean
theorem nmJ0 : ∀ a, a < 4 → ∀ b, b < 4 → a ≠ b → (TJ0 a).2.1 ≠ (TJ0 b).2.1 := by decide +kernel
theorem tyJ0_ok : ∀ k, k < 4 → parseFieldDescriptor (TJ0 k).2.2.1 = some (tyJ0 k) := by decide +kernel
abbrev cJ0_init_81219 : ByteArray := prog_39_method_53_code
def yJ0_init_81219 : MethodName := ⟨RJ0, "<init>", "(Ljava/lang/StringBuilder;)V"⟩
abbrev cJ0_length_8abf5 : ByteArray := prog_39_method_54_code
def yJ0_length_8abf5 : MethodName := ⟨RJ0, "length", "()I"⟩
abbrev cJ0_indexOf_0f7a4 : ByteArray := prog_39_method_79_code
def yJ0_indexOf_0f7a4 : MethodName := ⟨RJ0, "indexOf", "(I)I"⟩
abbrev cJ0_indexOf_7cf53 : ByteArray := prog_39_method_80_code
def yJ0_indexOf_7cf53 : MethodName := ⟨RJ0, "indexOf", "(II)I"⟩
abbrev cJ0_getBytes_840e7 : ByteArray := prog_39_method_147_code
def yJ0_getBytes_840e7 : MethodName := ⟨RJ0, "getBytes", "([BIB)V"⟩
abbrev cJ0_init_db425 : ByteArray := prog_39_method_150_code
def yJ0_init_db425 : MethodName := ⟨RJ0, "<init>", "(Ljava/lang/AbstractStringBuilder;Ljava/lang/Void;)V"⟩
abbrev cJ0_coder_7d493 : ByteArray := prog_39_method_152_code
def yJ0_coder_7d493 : MethodName := ⟨RJ0, "coder", "()B"⟩
abbrev cJ0_isLatin1_aae02 : ByteArray := prog_39_method_154_code
def yJ0_isLatin1_aae02 : MethodName := ⟨RJ0, "isLatin1", "()Z"⟩
abbrev cJ0_checkBoundsOffCount_cabcc : ByteArray := prog_39_method_157_code
def yJ0_checkBoundsOffCount_cabcc : MethodName := ⟨RJ0, "checkBoundsOffCount", "(III)I"⟩
abbrev cJ0_checkBoundsBeginEnd_23922 : ByteArray := prog_39_method_158_code
def yJ0_checkBoundsBeginEnd_23922 : MethodName := ⟨RJ0, "checkBoundsBeginEnd", "(III)V"⟩
def RJ4 : String := "java/lang/StringBuilder"
def TJ4 : u_T := fun k => match k with
  | 0 => ("java/lang/AbstractStringBuilder", "value", "[B", false)
  | 1 => ("java/lang/AbstractStringBuilder", "coder", "B", false)
  | 2 => ("java/lang/AbstractStringBuilder", "maybeLatin1", "Z", false)
  | _ => ("java/lang/AbstractStringBuilder", "count", "I", false)
def tyJ4 : Nat → FieldType := fun k => match k with
  | 0 => .array .byte
  | 1 => .byte
  | 2 => .boolean
  | _ => .int
theorem nmJ4 : ∀ a, a < 4 → ∀ b, b < 4 → a ≠ b → (TJ4 a).2.1 ≠ (TJ4 b).2.1 := by decide +kernel
theorem tyJ4_ok : ∀ k, k < 4 → parseFieldDescriptor (TJ4 k).2.2.1 = some (tyJ4 k) := by decide +kernel
abbrev cJ4_init_da8c8 : ByteArray := prog_40_method_1_code
def yJ4_init_da8c8 : MethodName := ⟨RJ4, "<init>", "()V"⟩
abbrev cJ4_append_15ec4 : ByteArray := prog_40_method_7_code
def yJ4_append_15ec4 : MethodName := ⟨RJ4, "append", "(Ljava/lang/String;)Ljava/lang/StringBuilder;"⟩
abbrev cJ4_append_bf812 : ByteArray := prog_40_method_15_code
def yJ4_append_bf812 : MethodName := ⟨RJ4, "append", "(I)Ljava/lang/StringBuilder;"⟩
abbrev cJ4_toString_0e30d : ByteArray := prog_40_method_42_code
def yJ4_toString_0e30d : MethodName := ⟨RJ4, "toString", "()Ljava/lang/String;"⟩
abbrev cJ4_length_8abf5 : ByteArray := prog_40_method_93_code
def yJ4_length_8abf5 : MethodName := ⟨RJ4, "length", "()I"⟩
def RJ1 : String := "java/lang/StringLatin1"
def TJ1 : u_T := fun k => match k with
  | _ => ("", "", "", false)
def tyJ1 : Nat → FieldType := fun k => match k with
  | _ => .int
theorem nmJ1 : ∀ a, a < 0 → ∀ b, b < 0 → a ≠ b → (TJ1 a).2.1 ≠ (TJ1 b).2.1 := by decide +kernel
theorem tyJ1_ok : ∀ k, k < 0 → parseFieldDescriptor (TJ1 k).2.2.1 = some (tyJ1 k) := by decide +kernel
abbrev cJ1_canEncode_9a6ad : ByteArray := prog_41_method_4_code
def yJ1_canEncode_9a6ad : MethodName := ⟨RJ1, "canEncode", "(I)Z"⟩
abbrev cJ1_indexOf_4cfef : ByteArray := prog_41_method_22_code
def yJ1_indexOf_4cfef : MethodName := ⟨RJ1, "indexOf", "([BIII)I"⟩
abbrev cJ1_indexOfChar_4cfef : ByteArray := prog_41_method_23_code
def yJ1_indexOfChar_4cfef : MethodName := ⟨RJ1, "indexOfChar", "([BIII)I"⟩
abbrev cJ1_inflate_0e8fd : ByteArray := prog_41_method_50_code
def yJ1_inflate_0e8fd : MethodName := ⟨RJ1, "inflate", "([BI[BII)V"⟩
def RJ2 : String := "java/lang/StringUTF16"
def TJ2 : u_T := fun k => match k with
  | _ => ("", "", "", false)
def tyJ2 : Nat → FieldType := fun k => match k with
  | _ => .int
theorem nmJ2 : ∀ a, a < 0 → ∀ b, b < 0 → a ≠ b → (TJ2 a).2.1 ≠ (TJ2 b).2.1 := by decide +kernel
theorem tyJ2_ok : ∀ k, k < 0 → parseFieldDescriptor (TJ2 k).2.2.1 = some (tyJ2 k) := by decide +kernel
abbrev cJ2_newBytesFor_77867 : ByteArray := prog_42_method_2_code
def yJ2_newBytesFor_77867 : MethodName := ⟨RJ2, "newBytesFor", "(I)[B"⟩
abbrev cJ2_newBytesLength_0f7a4 : ByteArray := prog_42_method_3_code
def yJ2_newBytesLength_0f7a4 : MethodName := ⟨RJ2, "newBytesLength", "(I)I"⟩
abbrev cJ2_putChar_b72d1 : ByteArray := prog_42_method_4_code
def yJ2_putChar_b72d1 : MethodName := ⟨RJ2, "putChar", "([BII)V"⟩
abbrev cJ2_getChar_3b067 : ByteArray := prog_42_method_5_code
def yJ2_getChar_3b067 : MethodName := ⟨RJ2, "getChar", "([BI)C"⟩
abbrev cJ2_length_9d52b : ByteArray := prog_42_method_6_code
def yJ2_length_9d52b : MethodName := ⟨RJ2, "length", "([B)I"⟩
abbrev cJ2_coderFromArrayLen_85cad : ByteArray := prog_42_method_15_code
def yJ2_coderFromArrayLen_85cad : MethodName := ⟨RJ2, "coderFromArrayLen", "([BI)B"⟩
abbrev cJ2_compress_39247 : ByteArray := prog_42_method_17_code
def yJ2_compress_39247 : MethodName := ⟨RJ2, "compress", "([BII)[B"⟩
abbrev cJ2_compress_5af95 : ByteArray := prog_42_method_22_code
def yJ2_compress_5af95 : MethodName := ⟨RJ2, "compress", "([BI[BII)I"⟩
abbrev cJ2_indexOf_4cfef : ByteArray := prog_42_method_40_code
def yJ2_indexOf_4cfef : MethodName := ⟨RJ2, "indexOf", "([BIII)I"⟩
abbrev cJ2_indexOfChar_4cfef : ByteArray := prog_42_method_47_code
def yJ2_indexOfChar_4cfef : MethodName := ⟨RJ2, "indexOfChar", "([BIII)I"⟩
abbrev cJ2_indexOfCharUnsafe_4cfef : ByteArray := prog_42_method_48_code
def yJ2_indexOfCharUnsafe_4cfef : MethodName := ⟨RJ2, "indexOfCharUnsafe", "([BIII)I"⟩
abbrev cJ2_indexOfSupplementary_4cfef : ByteArray := prog_42_method_49_code
def yJ2_indexOfSupplementary_4cfef : MethodName := ⟨RJ2, "indexOfSupplementary", "([BIII)I"⟩
abbrev cJ2_getChars_46870 : ByteArray := prog_42_method_77_code
def yJ2_getChars_46870 : MethodName := ⟨RJ2, "getChars", "(III[B)I"⟩
abbrev cJ2_putCharsAt_cd4e5 : ByteArray := prog_42_method_81_code
def yJ2_putCharsAt_cd4e5 : MethodName := ⟨RJ2, "putCharsAt", "([BICCCC)I"⟩
abbrev cJ2_inflate_0e8fd : ByteArray := prog_42_method_86_code
def yJ2_inflate_0e8fd : MethodName := ⟨RJ2, "inflate", "([BI[BII)V"⟩
abbrev cJ2_getChars_ba4f3 : ByteArray := prog_42_method_89_code
def yJ2_getChars_ba4f3 : MethodName := ⟨RJ2, "getChars", "(II[B)I"⟩
abbrev cJ2_checkBoundsBeginEnd_d044e : ByteArray := prog_42_method_93_code
def yJ2_checkBoundsBeginEnd_d044e : MethodName := ⟨RJ2, "checkBoundsBeginEnd", "(II[B)V"⟩
abbrev cJ2_checkBoundsOffCount_d044e : ByteArray := prog_42_method_94_code
def yJ2_checkBoundsOffCount_d044e : MethodName := ⟨RJ2, "checkBoundsOffCount", "(II[B)V"⟩
def RJ10 : String := "java/lang/System"
def TJ10 : u_T := fun k => match k with
  | _ => ("", "", "", false)
def tyJ10 : Nat → FieldType := fun k => match k with
  | _ => .int
theorem nmJ10 : ∀ a, a < 0 → ∀ b, b < 0 → a ≠ b → (TJ10 a).2.1 ≠ (TJ10 b).2.1 := by decide +kernel
theorem tyJ10_ok : ∀ k, k < 0 → parseFieldDescriptor (TJ10 k).2.2.1 = some (tyJ10 k) := by decide +kernel
def RJxfd54e : String := "java/lang/constant/Constable"
def TJxfd54e : u_T := fun k => match k with
  | _ => ("", "", "", false)
def tyJxfd54e : Nat → FieldType := fun k => match k with
  | _ => .int
theorem nmJxfd54e : ∀ a, a < 0 → ∀ b, b < 0 → a ≠ b → (TJxfd54e a).2.1 ≠ (TJxfd54e b).2.1 := by decide +kernel
theorem tyJxfd54e_ok : ∀ k, k < 0 → parseFieldDescriptor (TJxfd54e k).2.2.1 = some (tyJxfd54e k) := by decide +kernel
def RJx3cf43 : String := "java/lang/constant/ConstantDesc"
def TJx3cf43 : u_T := fun k => match k with
  | _ => ("", "", "", false)
def tyJx3cf43 : Nat → FieldType := fun k => match k with
  | _ => .int
theorem nmJx3cf43 : ∀ a, a < 0 → ∀ b, b < 0 → a ≠ b → (TJx3cf43 a).2.1 ≠ (TJx3cf43 b).2.1 := by decide +kernel
theorem tyJx3cf43_ok : ∀ k, k < 0 → parseFieldDescriptor (TJx3cf43 k).2.2.1 = some (tyJx3cf43 k) := by decide +kernel
def RJxa1e45 : String := "java/util/AbstractCollection"
def TJxa1e45 : u_T := fun k => match k with
  | _ => ("", "", "", false)
def tyJxa1e45 : Nat → FieldType := fun k => match k with
  | _ => .int
theorem nmJxa1e45 : ∀ a, a < 0 → ∀ b, b < 0 → a ≠ b → (TJxa1e45 a).2.1 ≠ (TJxa1e45 b).2.1 := by decide +kernel
theorem tyJxa1e45_ok : ∀ k, k < 0 → parseFieldDescriptor (TJxa1e45 k).2.2.1 = some (tyJxa1e45 k) := by decide +kernel
abbrev cJxa1e45_init_da8c8 : ByteArray := prog_48_method_1_code
def yJxa1e45_init_da8c8 : MethodName := ⟨RJxa1e45, "<init>", "()V"⟩
def RJxc12de : String := "java/util/AbstractList"
def TJxc12de : u_T := fun k => match k with
  | _ => ("", "", "", false)
def tyJxc12de : Nat → FieldType := fun k => match k with
  | _ => .int
theorem nmJxc12de : ∀ a, a < 0 → ∀ b, b < 0 → a ≠ b → (TJxc12de a).2.1 ≠ (TJxc12de b).2.1 := by decide +kernel
theorem tyJxc12de_ok : ∀ k, k < 0 → parseFieldDescriptor (TJxc12de k).2.2.1 = some (tyJxc12de k) := by decide +kernel
abbrev cJxc12de_init_da8c8 : ByteArray := prog_49_method_1_code
def yJxc12de_init_da8c8 : MethodName := ⟨RJxc12de, "<init>", "()V"⟩
def RJx35411 : String := "java/util/ArrayList$Itr"
def TJx35411 : u_T := fun k => match k with
  | 0 => ("java/util/ArrayList$Itr", "cursor", "I", false)
  | 1 => ("java/util/ArrayList$Itr", "lastRet", "I", false)
  | 2 => ("java/util/ArrayList$Itr", "expectedModCount", "I", false)
  | _ => ("java/util/ArrayList$Itr", "this$0", "Ljava/util/ArrayList;", true)
def tyJx35411 : Nat → FieldType := fun k => match k with
  | 0 => .int
  | 1 => .int
  | 2 => .int
  | _ => .object "java/util/ArrayList"
theorem nmJx35411 : ∀ a, a < 4 → ∀ b, b < 4 → a ≠ b → (TJx35411 a).2.1 ≠ (TJx35411 b).2.1 := by decide +kernel
theorem tyJx35411_ok : ∀ k, k < 4 → parseFieldDescriptor (TJx35411 k).2.2.1 = some (tyJx35411 k) := by decide +kernel
abbrev cJx35411_init_45d68 : ByteArray := prog_51_method_1_code
def yJx35411_init_45d68 : MethodName := ⟨RJx35411, "<init>", "(Ljava/util/ArrayList;)V"⟩
abbrev cJx35411_hasNext_aae02 : ByteArray := prog_51_method_2_code
def yJx35411_hasNext_aae02 : MethodName := ⟨RJx35411, "hasNext", "()Z"⟩
abbrev cJx35411_next_0502b : ByteArray := prog_51_method_3_code
def yJx35411_next_0502b : MethodName := ⟨RJx35411, "next", "()Ljava/lang/Object;"⟩
abbrev cJx35411_checkForComodification_da8c8 : ByteArray := prog_51_method_6_code
def yJx35411_checkForComodification_da8c8 : MethodName := ⟨RJx35411, "checkForComodification", "()V"⟩
def RJx4a65c : String := "java/util/ArrayList"
def TJx4a65c : u_T := fun k => match k with
  | 0 => ("java/util/AbstractList", "modCount", "I", false)
  | 1 => ("java/util/ArrayList", "elementData", "[Ljava/lang/Object;", false)
  | _ => ("java/util/ArrayList", "size", "I", false)
def tyJx4a65c : Nat → FieldType := fun k => match k with
  | 0 => .int
  | 1 => .array (.object "java/lang/Object")
  | _ => .int
theorem nmJx4a65c : ∀ a, a < 3 → ∀ b, b < 3 → a ≠ b → (TJx4a65c a).2.1 ≠ (TJx4a65c b).2.1 := by decide +kernel
theorem tyJx4a65c_ok : ∀ k, k < 3 → parseFieldDescriptor (TJx4a65c k).2.2.1 = some (tyJx4a65c k) := by decide +kernel
abbrev cJx4a65c_init_da8c8 : ByteArray := prog_50_method_2_code
def yJx4a65c_init_da8c8 : MethodName := ⟨RJx4a65c, "<init>", "()V"⟩
abbrev cJx4a65c_grow_92f84 : ByteArray := prog_50_method_6_code
def yJx4a65c_grow_92f84 : MethodName := ⟨RJx4a65c, "grow", "(I)[Ljava/lang/Object;"⟩
abbrev cJx4a65c_grow_d5877 : ByteArray := prog_50_method_7_code
def yJx4a65c_grow_d5877 : MethodName := ⟨RJx4a65c, "grow", "()[Ljava/lang/Object;"⟩
abbrev cJx4a65c_size_8abf5 : ByteArray := prog_50_method_8_code
def yJx4a65c_size_8abf5 : MethodName := ⟨RJx4a65c, "size", "()I"⟩
abbrev cJx4a65c_isEmpty_aae02 : ByteArray := prog_50_method_9_code
def yJx4a65c_isEmpty_aae02 : MethodName := ⟨RJx4a65c, "isEmpty", "()Z"⟩
abbrev cJx4a65c_elementData_915e3 : ByteArray := prog_50_method_18_code
def yJx4a65c_elementData_915e3 : MethodName := ⟨RJx4a65c, "elementData", "(I)Ljava/lang/Object;"⟩
abbrev cJx4a65c_get_915e3 : ByteArray := prog_50_method_20_code
def yJx4a65c_get_915e3 : MethodName := ⟨RJx4a65c, "get", "(I)Ljava/lang/Object;"⟩
abbrev cJx4a65c_add_72be8 : ByteArray := prog_50_method_24_code
def yJx4a65c_add_72be8 : MethodName := ⟨RJx4a65c, "add", "(Ljava/lang/Object;[Ljava/lang/Object;I)V"⟩
abbrev cJx4a65c_add_9ea2d : ByteArray := prog_50_method_25_code
def yJx4a65c_add_9ea2d : MethodName := ⟨RJx4a65c, "add", "(Ljava/lang/Object;)Z"⟩
abbrev cJx4a65c_add_7a177 : ByteArray := prog_50_method_26_code
def yJx4a65c_add_7a177 : MethodName := ⟨RJx4a65c, "add", "(ILjava/lang/Object;)V"⟩
abbrev cJx4a65c_rangeCheckForAdd_d00df : ByteArray := prog_50_method_45_code
def yJx4a65c_rangeCheckForAdd_d00df : MethodName := ⟨RJx4a65c, "rangeCheckForAdd", "(I)V"⟩
abbrev cJx4a65c_outOfBoundsMsg_b52d3 : ByteArray := prog_50_method_46_code
def yJx4a65c_outOfBoundsMsg_b52d3 : MethodName := ⟨RJx4a65c, "outOfBoundsMsg", "(I)Ljava/lang/String;"⟩
abbrev cJx4a65c_iterator_32c93 : ByteArray := prog_50_method_55_code
def yJx4a65c_iterator_32c93 : MethodName := ⟨RJx4a65c, "iterator", "()Ljava/util/Iterator;"⟩
def RJ7 : String := "java/util/Arrays"
def TJ7 : u_T := fun k => match k with
  | _ => ("", "", "", false)
def tyJ7 : Nat → FieldType := fun k => match k with
  | _ => .int
theorem nmJ7 : ∀ a, a < 0 → ∀ b, b < 0 → a ≠ b → (TJ7 a).2.1 ≠ (TJ7 b).2.1 := by decide +kernel
theorem tyJ7_ok : ∀ k, k < 0 → parseFieldDescriptor (TJ7 k).2.2.1 = some (tyJ7 k) := by decide +kernel
abbrev cJ7_copyOf_1904c : ByteArray := prog_52_method_119_code
def yJ7_copyOf_1904c : MethodName := ⟨RJ7, "copyOf", "([Ljava/lang/Object;I)[Ljava/lang/Object;"⟩
abbrev cJ7_copyOf_6403c : ByteArray := prog_52_method_120_code
def yJ7_copyOf_6403c : MethodName := ⟨RJ7, "copyOf", "([Ljava/lang/Object;ILjava/lang/Class;)[Ljava/lang/Object;"⟩
abbrev cJ7_copyOf_9075b : ByteArray := prog_52_method_121_code
def yJ7_copyOf_9075b : MethodName := ⟨RJ7, "copyOf", "([BI)[B"⟩
abbrev cJ7_checkLength_df160 : ByteArray := prog_52_method_131_code
def yJ7_checkLength_df160 : MethodName := ⟨RJ7, "checkLength", "(II)V"⟩
abbrev cJ7_copyOfRange_39247 : ByteArray := prog_52_method_132_code
def yJ7_copyOfRange_39247 : MethodName := ⟨RJ7, "copyOfRange", "([BII)[B"⟩
abbrev cJ7_copyOfRangeByte_39247 : ByteArray := prog_52_method_133_code
def yJ7_copyOfRangeByte_39247 : MethodName := ⟨RJ7, "copyOfRangeByte", "([BII)[B"⟩
def RJx5ef63 : String := "java/util/Collection"
def TJx5ef63 : u_T := fun k => match k with
  | _ => ("", "", "", false)
def tyJx5ef63 : Nat → FieldType := fun k => match k with
  | _ => .int
theorem nmJx5ef63 : ∀ a, a < 0 → ∀ b, b < 0 → a ≠ b → (TJx5ef63 a).2.1 ≠ (TJx5ef63 b).2.1 := by decide +kernel
theorem tyJx5ef63_ok : ∀ k, k < 0 → parseFieldDescriptor (TJx5ef63 k).2.2.1 = some (tyJx5ef63 k) := by decide +kernel
def RJx4d0d8 : String := "java/util/Iterator"
def TJx4d0d8 : u_T := fun k => match k with
  | _ => ("", "", "", false)
def tyJx4d0d8 : Nat → FieldType := fun k => match k with
  | _ => .int
theorem nmJx4d0d8 : ∀ a, a < 0 → ∀ b, b < 0 → a ≠ b → (TJx4d0d8 a).2.1 ≠ (TJx4d0d8 b).2.1 := by decide +kernel
theorem tyJx4d0d8_ok : ∀ k, k < 0 → parseFieldDescriptor (TJx4d0d8 k).2.2.1 = some (tyJx4d0d8 k) := by decide +kernel
def RJxbd725 : String := "java/util/List"
def TJxbd725 : u_T := fun k => match k with
  | _ => ("", "", "", false)
def tyJxbd725 : Nat → FieldType := fun k => match k with
  | _ => .int
theorem nmJxbd725 : ∀ a, a < 0 → ∀ b, b < 0 → a ≠ b → (TJxbd725 a).2.1 ≠ (TJxbd725 b).2.1 := by decide +kernel
theorem tyJxbd725_ok : ∀ k, k < 0 → parseFieldDescriptor (TJxbd725 k).2.2.1 = some (tyJxbd725 k) := by decide +kernel
def RJ15 : String := "java/util/Objects"
def TJ15 : u_T := fun k => match k with
  | _ => ("", "", "", false)
def tyJ15 : Nat → FieldType := fun k => match k with
  | _ => .int
theorem nmJ15 : ∀ a, a < 0 → ∀ b, b < 0 → a ≠ b → (TJ15 a).2.1 ≠ (TJ15 b).2.1 := by decide +kernel
theorem tyJ15_ok : ∀ k, k < 0 → parseFieldDescriptor (TJ15 k).2.2.1 = some (tyJ15 k) := by decide +kernel
abbrev cJ15_checkIndex_7cf53 : ByteArray := prog_57_method_17_code
def yJ15_checkIndex_7cf53 : MethodName := ⟨RJ15, "checkIndex", "(II)I"⟩
def RJxf0a74 : String := "java/util/RandomAccess"
def TJxf0a74 : u_T := fun k => match k with
  | _ => ("", "", "", false)
def tyJxf0a74 : Nat → FieldType := fun k => match k with
  | _ => .int
theorem nmJxf0a74 : ∀ a, a < 0 → ∀ b, b < 0 → a ≠ b → (TJxf0a74 a).2.1 ≠ (TJxf0a74 b).2.1 := by decide +kernel
theorem tyJxf0a74_ok : ∀ k, k < 0 → parseFieldDescriptor (TJxf0a74 k).2.2.1 = some (tyJxf0a74 k) := by decide +kernel
def RJxa66e6 : String := "java/util/SequencedCollection"
def TJxa66e6 : u_T := fun k => match k with
  | _ => ("", "", "", false)
def tyJxa66e6 : Nat → FieldType := fun k => match k with
  | _ => .int
theorem nmJxa66e6 : ∀ a, a < 0 → ∀ b, b < 0 → a ≠ b → (TJxa66e6 a).2.1 ≠ (TJxa66e6 b).2.1 := by decide +kernel
theorem tyJxa66e6_ok : ∀ k, k < 0 → parseFieldDescriptor (TJxa66e6 k).2.2.1 = some (tyJxa66e6 k) := by decide +kernel
def RJ8 : String := "jdk/internal/util/ArraysSupport"
def TJ8 : u_T := fun k => match k with
  | _ => ("", "", "", false)
def tyJ8 : Nat → FieldType := fun k => match k with
  | _ => .int
theorem nmJ8 : ∀ a, a < 0 → ∀ b, b < 0 → a ≠ b → (TJ8 a).2.1 ≠ (TJ8 b).2.1 := by decide +kernel
theorem tyJ8_ok : ∀ k, k < 0 → parseFieldDescriptor (TJ8 k).2.2.1 = some (tyJ8 k) := by decide +kernel
abbrev cJ8_newLength_cabcc : ByteArray := prog_60_method_27_code
def yJ8_newLength_cabcc : MethodName := ⟨RJ8, "newLength", "(III)I"⟩
abbrev cJ8_hugeLength_7cf53 : ByteArray := prog_60_method_28_code
def yJ8_hugeLength_7cf53 : MethodName := ⟨RJ8, "hugeLength", "(II)I"⟩
def RJ3 : String := "jdk/internal/util/Preconditions"
def TJ3 : u_T := fun k => match k with
  | _ => ("", "", "", false)
def tyJ3 : Nat → FieldType := fun k => match k with
  | _ => .int
theorem nmJ3 : ∀ a, a < 0 → ∀ b, b < 0 → a ≠ b → (TJ3 a).2.1 ≠ (TJ3 b).2.1 := by decide +kernel
theorem tyJ3_ok : ∀ k, k < 0 → parseFieldDescriptor (TJ3 k).2.2.1 = some (tyJ3 k) := by decide +kernel
abbrev cJ3_checkIndex_8e157 : ByteArray := prog_61_method_11_code
def yJ3_checkIndex_8e157 : MethodName := ⟨RJ3, "checkIndex", "(IILjava/util/function/BiFunction;)I"⟩
abbrev cJ3_checkFromToIndex_8c36e : ByteArray := prog_61_method_12_code
def yJ3_checkFromToIndex_8c36e : MethodName := ⟨RJ3, "checkFromToIndex", "(IIILjava/util/function/BiFunction;)I"⟩
abbrev cJ3_checkFromIndexSize_8c36e : ByteArray := prog_61_method_13_code
def yJ3_checkFromIndexSize_8c36e : MethodName := ⟨RJ3, "checkFromIndexSize", "(IIILjava/util/function/BiFunction;)I"⟩
def RL : String := "TermreckonryLaw"
abbrev cL_dayOf : ByteArray := method_3_code
def yL_dayOf : MethodName := ⟨RL, "dayOf", "(LTermreckonry;III[J)I"⟩
abbrev cL_dateOf : ByteArray := method_4_code
def yL_dateOf : MethodName := ⟨RL, "dateOf", "(LTermreckonry;I[J)I"⟩
abbrev cL_length : ByteArray := method_5_code
def yL_length : MethodName := ⟨RL, "length", "(LTermreckonry;IIII[J)I"⟩
abbrev cL_law : ByteArray := method_6_code
def yL_law : MethodName := ⟨RL, "law", "(LTermreckonry;CIIZ[J)I"⟩
abbrev cL_lawOf : ByteArray := method_7_code
def yL_lawOf : MethodName := ⟨RL, "lawOf", "(LTermreckonry;I[J)I"⟩
abbrev cL_person : ByteArray := method_8_code
def yL_person : MethodName := ⟨RL, "person", "(LTermreckonry;[J)I"⟩
abbrev cL_warrant : ByteArray := method_9_code
def yL_warrant : MethodName := ⟨RL, "warrant", "(LTermreckonry;ICIIIIII[J)I"⟩
abbrev cL_count : ByteArray := method_10_code
def yL_count : MethodName := ⟨RL, "count", "(LTermreckonry;IIZ[J)I"⟩
abbrev cL_activate : ByteArray := method_11_code
def yL_activate : MethodName := ⟨RL, "activate", "(LTermreckonry;II[J)I"⟩
abbrev cL_vary : ByteArray := method_12_code
def yL_vary : MethodName := ⟨RL, "vary", "(LTermreckonry;IIII[J)I"⟩
abbrev cL_quash : ByteArray := method_13_code
def yL_quash : MethodName := ⟨RL, "quash", "(LTermreckonry;I[J)I"⟩
abbrev cL_approve : ByteArray := method_14_code
def yL_approve : MethodName := ⟨RL, "approve", "(LTermreckonry;II[J)I"⟩
abbrev cL_add : ByteArray := method_15_code
def yL_add : MethodName := ⟨RL, "add", "(LTermreckonry;III[J)I"⟩
abbrev cL_giveBack : ByteArray := method_16_code
def yL_giveBack : MethodName := ⟨RL, "giveBack", "(LTermreckonry;II[J)I"⟩
abbrev cL_atLarge : ByteArray := method_17_code
def yL_atLarge : MethodName := ⟨RL, "atLarge", "(LTermreckonry;III[J)I"⟩
abbrev cL_recall : ByteArray := method_18_code
def yL_recall : MethodName := ⟨RL, "recall", "(LTermreckonry;IIC[J)I"⟩
abbrev cL_letGo : ByteArray := method_19_code
def yL_letGo : MethodName := ⟨RL, "letGo", "(LTermreckonry;II[J)I"⟩
abbrev cL_begins : ByteArray := method_20_code
def yL_begins : MethodName := ⟨RL, "begins", "(LTermreckonry;I[J)I"⟩
abbrev cL_needed : ByteArray := method_21_code
def yL_needed : MethodName := ⟨RL, "needed", "(LTermreckonry;I[J)I"⟩
abbrev cL_release : ByteArray := method_22_code
def yL_release : MethodName := ⟨RL, "release", "(LTermreckonry;I[J)I"⟩
abbrev cL_end : ByteArray := method_23_code
def yL_end : MethodName := ⟨RL, "end", "(LTermreckonry;I[J)I"⟩
abbrev cL_stateOn : ByteArray := method_24_code
def yL_stateOn : MethodName := ⟨RL, "stateOn", "(LTermreckonry;II[J)I"⟩
abbrev cL_byClerk : ByteArray := method_25_code
def yL_byClerk : MethodName := ⟨RL, "byClerk", "(LTermreckonry;II[J)I"⟩
abbrev cL_keeper : ByteArray := method_26_code
def yL_keeper : MethodName := ⟨RL, "keeper", "(LTermreckonry;II[J)I"⟩
abbrev cL_held : ByteArray := method_27_code
def yL_held : MethodName := ⟨RL, "held", "(LTermreckonry;III[J)I"⟩
abbrev cL_tooLong : ByteArray := method_28_code
def yL_tooLong : MethodName := ⟨RL, "tooLong", "(LTermreckonry;II[J)I"⟩
abbrev cL_tooShort : ByteArray := method_29_code
def yL_tooShort : MethodName := ⟨RL, "tooShort", "(LTermreckonry;II[J)I"⟩
abbrev cL_prisonShare : ByteArray := method_30_code
def yL_prisonShare : MethodName := ⟨RL, "prisonShare", "(LTermreckonry;I[D)I"⟩
abbrev cL_meanNeeded : ByteArray := method_31_code
def yL_meanNeeded : MethodName := ⟨RL, "meanNeeded", "(LTermreckonry;[D)I"⟩
abbrev cL_law_ : ByteArray := code
def yL_law_ : MethodName := ⟨RL, "law", "([I)Z"⟩
abbrev vwCl : List vw_C := [(RJ0, TJ0, 4), (RJ4, TJ4, 4), (RJx00060, TJx00060, 6), (RJx35411, TJx35411, 4), (RJx4a65c, TJx4a65c, 3), (RX0, TX0, 3), (RX3, TX3, 1), (RX4, TX4, 5), (RX5, TX5, 9), (RX6, TX6, 9), (RX7, TX7, 7), (RX8, TX8, 3), (RX9, TX9, 19), (RX10, TX10, 10), (RX11, TX11, 3), (RX12, TX12, 6), (RX13, TX13, 4), (RX14, TX14, 3), (RX15, TX15, 5), (RX16, TX16, 13), (RX17, TX17, 6)]
