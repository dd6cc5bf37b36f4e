def RX0 : String := "CinemaChain$1"
def TX0 : u_T := fun k => match k with
  | _ => ("", "", "", false)
def tyX0 : Nat → FieldType := fun k => match k with
  | _ => .int
abbrev wsX00 : List Cond := u_ws RX0 TX0 0
theorem nmX0 : ∀ a, a < 0 → ∀ b, b < 0 → a ≠ b → (TX0 a).2.1 ≠ (TX0 b).2.1 := by decide +kernel
theorem tyX0_ok : ∀ k, k < 0 → parseFieldDescriptor (TX0 k).2.2.1 = some (tyX0 k) := by decide +kernel
def RX1 : String := "CinemaChain$Chain"
def TX1 : u_T := fun k => match k with
  | 0 => ("CinemaChain$Chain", "houses", "I", false)
  | 1 => ("CinemaChain$Chain", "price", "[I", true)
  | 2 => ("CinemaChain$Chain", "screensIn", "[I", true)
  | 3 => ("CinemaChain$Chain", "screens", "I", false)
  | 4 => ("CinemaChain$Chain", "houseOf", "[I", true)
  | 5 => ("CinemaChain$Chain", "seats", "[I", true)
  | 6 => ("CinemaChain$Chain", "shows", "[I", true)
  | 7 => ("CinemaChain$Chain", "films", "I", false)
  | 8 => ("CinemaChain$Chain", "demand", "[I", true)
  | 9 => ("CinemaChain$Chain", "kept", "[I", true)
  | 10 => ("CinemaChain$Chain", "guarantee", "[I", true)
  | 11 => ("CinemaChain$Chain", "termCount", "[I", true)
  | _ => ("CinemaChain$Chain", "terms", "[I", true)
def tyX1 : Nat → FieldType := fun k => match k with
  | 0 => .int
  | 1 => .array .int
  | 2 => .array .int
  | 3 => .int
  | 4 => .array .int
  | 5 => .array .int
  | 6 => .array .int
  | 7 => .int
  | 8 => .array .int
  | 9 => .array .int
  | 10 => .array .int
  | 11 => .array .int
  | _ => .array .int
abbrev wsX10 : List Cond := u_ws RX1 TX1 13
theorem nmX1 : ∀ a, a < 13 → ∀ b, b < 13 → a ≠ b → (TX1 a).2.1 ≠ (TX1 b).2.1 := by decide +kernel
theorem tyX1_ok : ∀ k, k < 13 → parseFieldDescriptor (TX1 k).2.2.1 = some (tyX1 k) := by decide +kernel
abbrev cX1_init : ByteArray := prog_3_method_1_code
def yX1_init : MethodName := ⟨RX1, "<init>", "()V"⟩
abbrev cX1_clear : ByteArray := prog_3_method_2_code
def yX1_clear : MethodName := ⟨RX1, "clear", "()V"⟩
abbrev cX1_copyFrom : ByteArray := prog_3_method_3_code
def yX1_copyFrom : MethodName := ⟨RX1, "copyFrom", "(LCinemaChain$Chain;)V"⟩
abbrev cX1_capacityOf : ByteArray := prog_3_method_4_code
def yX1_capacityOf : MethodName := ⟨RX1, "capacityOf", "(I)I"⟩
abbrev cX1_priceAt : ByteArray := prog_3_method_5_code
def yX1_priceAt : MethodName := ⟨RX1, "priceAt", "(I)I"⟩
def RX2 : String := "CinemaChain$ChainText"
def TX2 : u_T := fun k => match k with
  | 0 => ("CinemaChain$ChainText", "tokens", "LCinemaChain$Tokens;", true)
  | 1 => ("CinemaChain$ChainText", "chain", "LCinemaChain$Chain;", true)
  | _ => ("CinemaChain$ChainText", "state", "LCinemaChain$State;", true)
def tyX2 : Nat → FieldType := fun k => match k with
  | 0 => .object "CinemaChain$Tokens"
  | 1 => .object "CinemaChain$Chain"
  | _ => .object "CinemaChain$State"
abbrev wsX20 : List Cond := u_ws RX2 TX2 3
theorem nmX2 : ∀ a, a < 3 → ∀ b, b < 3 → a ≠ b → (TX2 a).2.1 ≠ (TX2 b).2.1 := by decide +kernel
theorem tyX2_ok : ∀ k, k < 3 → parseFieldDescriptor (TX2 k).2.2.1 = some (tyX2 k) := by decide +kernel
abbrev cX2_init : ByteArray := prog_4_method_1_code
def yX2_init : MethodName := ⟨RX2, "<init>", "(LCinemaChain$Tokens;)V"⟩
abbrev cX2_read : ByteArray := prog_4_method_2_code
def yX2_read : MethodName := ⟨RX2, "read", "(I)V"⟩
abbrev cX2_readClause : ByteArray := prog_4_method_3_code
def yX2_readClause : MethodName := ⟨RX2, "readClause", "()V"⟩
abbrev cX2_readHouse : ByteArray := prog_4_method_4_code
def yX2_readHouse : MethodName := ⟨RX2, "readHouse", "()V"⟩
abbrev cX2_readScreen : ByteArray := prog_4_method_5_code
def yX2_readScreen : MethodName := ⟨RX2, "readScreen", "()V"⟩
abbrev cX2_refuseFullHouse : ByteArray := prog_4_method_6_code
def yX2_refuseFullHouse : MethodName := ⟨RX2, "refuseFullHouse", "()V"⟩
abbrev cX2_readFilm : ByteArray := prog_4_method_7_code
def yX2_readFilm : MethodName := ⟨RX2, "readFilm", "()V"⟩
abbrev cX2_readTerms : ByteArray := prog_4_method_8_code
def yX2_readTerms : MethodName := ⟨RX2, "readTerms", "(I)V"⟩
abbrev cX2_readPrints : ByteArray := prog_4_method_9_code
def yX2_readPrints : MethodName := ⟨RX2, "readPrints", "()V"⟩
abbrev cX2_readFee : ByteArray := prog_4_method_10_code
def yX2_readFee : MethodName := ⟨RX2, "readFee", "()V"⟩
def RX3 : String := "CinemaChain$Closing"
def TX3 : u_T := fun k => match k with
  | 0 => ("CinemaChain$Closing", "chain", "LCinemaChain$Chain;", true)
  | 1 => ("CinemaChain$Closing", "state", "LCinemaChain$State;", true)
  | 2 => ("CinemaChain$Closing", "week", "LCinemaChain$Week;", true)
  | _ => ("CinemaChain$Closing", "heldFilm", "[I", true)
def tyX3 : Nat → FieldType := fun k => match k with
  | 0 => .object "CinemaChain$Chain"
  | 1 => .object "CinemaChain$State"
  | 2 => .object "CinemaChain$Week"
  | _ => .array .int
abbrev wsX30 : List Cond := u_ws RX3 TX3 4
theorem nmX3 : ∀ a, a < 4 → ∀ b, b < 4 → a ≠ b → (TX3 a).2.1 ≠ (TX3 b).2.1 := by decide +kernel
theorem tyX3_ok : ∀ k, k < 4 → parseFieldDescriptor (TX3 k).2.2.1 = some (tyX3 k) := by decide +kernel
abbrev cX3_init : ByteArray := prog_5_method_1_code
def yX3_init : MethodName := ⟨RX3, "<init>", "(LCinemaChain$Chain;LCinemaChain$State;LCinemaChain$Week;)V"⟩
abbrev cX3_closeWeek : ByteArray := prog_5_method_2_code
def yX3_closeWeek : MethodName := ⟨RX3, "closeWeek", "()I"⟩
abbrev cX3_addAmounts : ByteArray := prog_5_method_3_code
def yX3_addAmounts : MethodName := ⟨RX3, "addAmounts", "(I)V"⟩
abbrev cX3_addAmount : ByteArray := prog_5_method_4_code
def yX3_addAmount : MethodName := ⟨RX3, "addAmount", "(II)V"⟩
abbrev cX3_addFilmTakings : ByteArray := prog_5_method_5_code
def yX3_addFilmTakings : MethodName := ⟨RX3, "addFilmTakings", "()V"⟩
abbrev cX3_addRuns : ByteArray := prog_5_method_6_code
def yX3_addRuns : MethodName := ⟨RX3, "addRuns", "()V"⟩
abbrev cX3_addRun : ByteArray := prog_5_method_7_code
def yX3_addRun : MethodName := ⟨RX3, "addRun", "(II)V"⟩
abbrev cX3_holdScreens : ByteArray := prog_5_method_8_code
def yX3_holdScreens : MethodName := ⟨RX3, "holdScreens", "()V"⟩
abbrev cX3_ageFilms : ByteArray := prog_5_method_9_code
def yX3_ageFilms : MethodName := ⟨RX3, "ageFilms", "()V"⟩
def RX4 : String := "CinemaChain$History"
def TX4 : u_T := fun k => match k with
  | 0 => ("CinemaChain$History", "slots", "[LCinemaChain$State;", true)
  | 1 => ("CinemaChain$History", "next", "I", false)
  | 2 => ("CinemaChain$History", "count", "I", false)
  | 3 => ("CinemaChain$History", "snapshot", "LCinemaChain$State;", true)
  | _ => ("CinemaChain$History", "hasSnapshot", "Z", false)
def tyX4 : Nat → FieldType := fun k => match k with
  | 0 => .array (.object "CinemaChain$State")
  | 1 => .int
  | 2 => .int
  | 3 => .object "CinemaChain$State"
  | _ => .boolean
abbrev wsX40 : List Cond := u_ws RX4 TX4 5
theorem nmX4 : ∀ a, a < 5 → ∀ b, b < 5 → a ≠ b → (TX4 a).2.1 ≠ (TX4 b).2.1 := by decide +kernel
theorem tyX4_ok : ∀ k, k < 5 → parseFieldDescriptor (TX4 k).2.2.1 = some (tyX4 k) := by decide +kernel
abbrev cX4_init : ByteArray := prog_6_method_1_code
def yX4_init : MethodName := ⟨RX4, "<init>", "()V"⟩
abbrev cX4_record : ByteArray := prog_6_method_2_code
def yX4_record : MethodName := ⟨RX4, "record", "(LCinemaChain$State;)V"⟩
abbrev cX4_takeBack : ByteArray := prog_6_method_3_code
def yX4_takeBack : MethodName := ⟨RX4, "takeBack", "(LCinemaChain$State;)V"⟩
abbrev cX4_discardAll : ByteArray := prog_6_method_4_code
def yX4_discardAll : MethodName := ⟨RX4, "discardAll", "()V"⟩
def RX5 : String := "CinemaChain$Programs"
def TX5 : u_T := fun k => match k with
  | 0 => ("CinemaChain$Programs", "chain", "LCinemaChain$Chain;", true)
  | 1 => ("CinemaChain$Programs", "state", "LCinemaChain$State;", true)
  | 2 => ("CinemaChain$Programs", "week", "LCinemaChain$Week;", true)
  | 3 => ("CinemaChain$Programs", "house", "I", false)
  | 4 => ("CinemaChain$Programs", "count", "I", false)
  | 5 => ("CinemaChain$Programs", "screens", "[I", true)
  | 6 => ("CinemaChain$Programs", "choice", "[I", true)
  | 7 => ("CinemaChain$Programs", "limit", "[I", true)
  | 8 => ("CinemaChain$Programs", "room", "[I", true)
  | 9 => ("CinemaChain$Programs", "filmGain", "[I", true)
  | 10 => ("CinemaChain$Programs", "best", "[I", true)
  | 11 => ("CinemaChain$Programs", "gainNow", "[I", true)
  | 12 => ("CinemaChain$Programs", "oneLess", "[I", true)
  | _ => ("CinemaChain$Programs", "oneMore", "[I", true)
def tyX5 : Nat → FieldType := fun k => match k with
  | 0 => .object "CinemaChain$Chain"
  | 1 => .object "CinemaChain$State"
  | 2 => .object "CinemaChain$Week"
  | 3 => .int
  | 4 => .int
  | 5 => .array .int
  | 6 => .array .int
  | 7 => .array .int
  | 8 => .array .int
  | 9 => .array .int
  | 10 => .array .int
  | 11 => .array .int
  | 12 => .array .int
  | _ => .array .int
abbrev wsX50 : List Cond := u_ws RX5 TX5 14
theorem nmX5 : ∀ a, a < 14 → ∀ b, b < 14 → a ≠ b → (TX5 a).2.1 ≠ (TX5 b).2.1 := by decide +kernel
theorem tyX5_ok : ∀ k, k < 14 → parseFieldDescriptor (TX5 k).2.2.1 = some (tyX5 k) := by decide +kernel
abbrev cX5_init : ByteArray := prog_7_method_1_code
def yX5_init : MethodName := ⟨RX5, "<init>", "(LCinemaChain$Chain;LCinemaChain$State;LCinemaChain$Week;)V"⟩
abbrev cX5_greatestGain : ByteArray := prog_7_method_2_code
def yX5_greatestGain : MethodName := ⟨RX5, "greatestGain", "(I)I"⟩
abbrev cX5_findBest : ByteArray := prog_7_method_3_code
def yX5_findBest : MethodName := ⟨RX5, "findBest", "(I)V"⟩
abbrev cX5_settle : ByteArray := prog_7_method_4_code
def yX5_settle : MethodName := ⟨RX5, "settle", "(II)V"⟩
abbrev cX5_filmFor : ByteArray := prog_7_method_5_code
def yX5_filmFor : MethodName := ⟨RX5, "filmFor", "(I)I"⟩
abbrev cX5_bookFound : ByteArray := prog_7_method_6_code
def yX5_bookFound : MethodName := ⟨RX5, "bookFound", "()I"⟩
abbrev cX5_prepare : ByteArray := prog_7_method_7_code
def yX5_prepare : MethodName := ⟨RX5, "prepare", "(I)V"⟩
abbrev cX5_addRoom : ByteArray := prog_7_method_8_code
def yX5_addRoom : MethodName := ⟨RX5, "addRoom", "(II)V"⟩
abbrev cX5_search : ByteArray := prog_7_method_9_code
def yX5_search : MethodName := ⟨RX5, "search", "()I"⟩
abbrev cX5_placesWith : ByteArray := prog_7_method_10_code
def yX5_placesWith : MethodName := ⟨RX5, "placesWith", "(I)I"⟩
abbrev cX5_findFilmGains : ByteArray := prog_7_method_11_code
def yX5_findFilmGains : MethodName := ⟨RX5, "findFilmGains", "(II)V"⟩
abbrev cX5_addFilm : ByteArray := prog_7_method_12_code
def yX5_addFilm : MethodName := ⟨RX5, "addFilm", "(I)V"⟩
abbrev cX5_bestParting : ByteArray := prog_7_method_13_code
def yX5_bestParting : MethodName := ⟨RX5, "bestParting", "(I)I"⟩
def RX6 : String := "CinemaChain$Property"
def TX6 : u_T := fun k => match k with
  | _ => ("", "", "", false)
def tyX6 : Nat → FieldType := fun k => match k with
  | _ => .int
abbrev wsX60 : List Cond := u_ws RX6 TX6 0
theorem nmX6 : ∀ a, a < 0 → ∀ b, b < 0 → a ≠ b → (TX6 a).2.1 ≠ (TX6 b).2.1 := by decide +kernel
theorem tyX6_ok : ∀ k, k < 0 → parseFieldDescriptor (TX6 k).2.2.1 = some (tyX6 k) := by decide +kernel
def RX7 : String := "CinemaChain$QueryText"
def TX7 : u_T := fun k => match k with
  | 0 => ("CinemaChain$QueryText", "tokens", "LCinemaChain$Tokens;", true)
  | 1 => ("CinemaChain$QueryText", "chain", "LCinemaChain$Chain;", true)
  | 2 => ("CinemaChain$QueryText", "state", "LCinemaChain$State;", true)
  | _ => ("CinemaChain$QueryText", "week", "LCinemaChain$Week;", true)
def tyX7 : Nat → FieldType := fun k => match k with
  | 0 => .object "CinemaChain$Tokens"
  | 1 => .object "CinemaChain$Chain"
  | 2 => .object "CinemaChain$State"
  | _ => .object "CinemaChain$Week"
abbrev wsX70 : List Cond := u_ws RX7 TX7 4
theorem nmX7 : ∀ a, a < 4 → ∀ b, b < 4 → a ≠ b → (TX7 a).2.1 ≠ (TX7 b).2.1 := by decide +kernel
theorem tyX7_ok : ∀ k, k < 4 → parseFieldDescriptor (TX7 k).2.2.1 = some (tyX7 k) := by decide +kernel
abbrev cX7_init : ByteArray := prog_9_method_1_code
def yX7_init : MethodName := ⟨RX7, "<init>", "(LCinemaChain$Tokens;LCinemaChain$Chain;LCinemaChain$State;LCinemaChain$Week;)V"⟩
def RX8 : String := "CinemaChain$State"
def TX8 : u_T := fun k => match k with
  | 0 => ("CinemaChain$State", "weeks", "I", false)
  | 1 => ("CinemaChain$State", "moves", "I", false)
  | 2 => ("CinemaChain$State", "fee", "I", false)
  | 3 => ("CinemaChain$State", "holdover", "[I", true)
  | 4 => ("CinemaChain$State", "rent", "[I", true)
  | 5 => ("CinemaChain$State", "prints", "[I", true)
  | 6 => ("CinemaChain$State", "firstFilm", "[I", true)
  | 7 => ("CinemaChain$State", "secondFilm", "[I", true)
  | 8 => ("CinemaChain$State", "splitDay", "[I", true)
  | 9 => ("CinemaChain$State", "held", "[I", true)
  | 10 => ("CinemaChain$State", "firstWeek", "[I", true)
  | 11 => ("CinemaChain$State", "dailyDemand", "[I", true)
  | 12 => ("CinemaChain$State", "filmTakings", "[I", true)
  | 13 => ("CinemaChain$State", "runs", "[I", true)
  | 14 => ("CinemaChain$State", "totals", "[I", true)
  | _ => ("CinemaChain$State", "log", "[I", true)
def tyX8 : Nat → FieldType := fun k => match k with
  | 0 => .int
  | 1 => .int
  | 2 => .int
  | 3 => .array .int
  | 4 => .array .int
  | 5 => .array .int
  | 6 => .array .int
  | 7 => .array .int
  | 8 => .array .int
  | 9 => .array .int
  | 10 => .array .int
  | 11 => .array .int
  | 12 => .array .int
  | 13 => .array .int
  | 14 => .array .int
  | _ => .array .int
abbrev wsX80 : List Cond := u_ws RX8 TX8 16
theorem nmX8 : ∀ a, a < 16 → ∀ b, b < 16 → a ≠ b → (TX8 a).2.1 ≠ (TX8 b).2.1 := by decide +kernel
theorem tyX8_ok : ∀ k, k < 16 → parseFieldDescriptor (TX8 k).2.2.1 = some (tyX8 k) := by decide +kernel
abbrev cX8_init : ByteArray := prog_10_method_1_code
def yX8_init : MethodName := ⟨RX8, "<init>", "()V"⟩
abbrev cX8_clear : ByteArray := prog_10_method_2_code
def yX8_clear : MethodName := ⟨RX8, "clear", "()V"⟩
abbrev cX8_copyFrom : ByteArray := prog_10_method_3_code
def yX8_copyFrom : MethodName := ⟨RX8, "copyFrom", "(LCinemaChain$State;)V"⟩
abbrev cX8_filmOn : ByteArray := prog_10_method_4_code
def yX8_filmOn : MethodName := ⟨RX8, "filmOn", "(II)I"⟩
abbrev cX8_setBooking : ByteArray := prog_10_method_5_code
def yX8_setBooking : MethodName := ⟨RX8, "setBooking", "(IIII)V"⟩
abbrev cX8_isBookedWhole : ByteArray := prog_10_method_6_code
def yX8_isBookedWhole : MethodName := ⟨RX8, "isBookedWhole", "(II)Z"⟩
abbrev cX8_printsAt : ByteArray := prog_10_method_7_code
def yX8_printsAt : MethodName := ⟨RX8, "printsAt", "(II)I"⟩
abbrev cX8_addPrints : ByteArray := prog_10_method_8_code
def yX8_addPrints : MethodName := ⟨RX8, "addPrints", "(III)V"⟩
abbrev cX8_ageOf : ByteArray := prog_10_method_9_code
def yX8_ageOf : MethodName := ⟨RX8, "ageOf", "(I)I"⟩
abbrev cX8_runOf : ByteArray := prog_10_method_10_code
def yX8_runOf : MethodName := ⟨RX8, "runOf", "(II)I"⟩
abbrev cX8_logged : ByteArray := prog_10_method_11_code
def yX8_logged : MethodName := ⟨RX8, "logged", "(II)I"⟩
abbrev cX8_writeLog : ByteArray := prog_10_method_12_code
def yX8_writeLog : MethodName := ⟨RX8, "writeLog", "(III)V"⟩
abbrev cX8_countBooked : ByteArray := prog_10_method_13_code
def yX8_countBooked : MethodName := ⟨RX8, "countBooked", "(I)I"⟩
abbrev cX8_countHeld : ByteArray := prog_10_method_14_code
def yX8_countHeld : MethodName := ⟨RX8, "countHeld", "(I)I"⟩
def RX9 : String := "CinemaChain$Tokens"
def TX9 : u_T := fun k => match k with
  | 0 => ("CinemaChain$Tokens", "text", "[B", true)
  | 1 => ("CinemaChain$Tokens", "length", "I", false)
  | 2 => ("CinemaChain$Tokens", "next", "I", false)
  | 3 => ("CinemaChain$Tokens", "start", "I", false)
  | 4 => ("CinemaChain$Tokens", "kind", "I", false)
  | 5 => ("CinemaChain$Tokens", "value", "I", false)
  | 6 => ("CinemaChain$Tokens", "error", "I", false)
  | _ => ("CinemaChain$Tokens", "errorAt", "I", false)
def tyX9 : Nat → FieldType := fun k => match k with
  | 0 => .array .byte
  | 1 => .int
  | 2 => .int
  | 3 => .int
  | 4 => .int
  | 5 => .int
  | 6 => .int
  | _ => .int
abbrev wsX90 : List Cond := u_ws RX9 TX9 8
theorem nmX9 : ∀ a, a < 8 → ∀ b, b < 8 → a ≠ b → (TX9 a).2.1 ≠ (TX9 b).2.1 := by decide +kernel
theorem tyX9_ok : ∀ k, k < 8 → parseFieldDescriptor (TX9 k).2.2.1 = some (tyX9 k) := by decide +kernel
abbrev cX9_init : ByteArray := prog_11_method_1_code
def yX9_init : MethodName := ⟨RX9, "<init>", "([B)V"⟩
abbrev cX9_begin : ByteArray := prog_11_method_2_code
def yX9_begin : MethodName := ⟨RX9, "begin", "(I)V"⟩
abbrev cX9_failed : ByteArray := prog_11_method_3_code
def yX9_failed : MethodName := ⟨RX9, "failed", "()Z"⟩
abbrev cX9_fail : ByteArray := prog_11_method_4_code
def yX9_fail : MethodName := ⟨RX9, "fail", "(I)V"⟩
abbrev cX9_advance : ByteArray := prog_11_method_5_code
def yX9_advance : MethodName := ⟨RX9, "advance", "()V"⟩
abbrev cX9_isWord : ByteArray := prog_11_method_6_code
def yX9_isWord : MethodName := ⟨RX9, "isWord", "(Ljava/lang/String;)Z"⟩
abbrev cX9_isSign : ByteArray := prog_11_method_7_code
def yX9_isSign : MethodName := ⟨RX9, "isSign", "(C)Z"⟩
abbrev cX9_takeWord : ByteArray := prog_11_method_8_code
def yX9_takeWord : MethodName := ⟨RX9, "takeWord", "(Ljava/lang/String;)Z"⟩
abbrev cX9_takeSign : ByteArray := prog_11_method_9_code
def yX9_takeSign : MethodName := ⟨RX9, "takeSign", "(C)V"⟩
abbrev cX9_takeNumber : ByteArray := prog_11_method_10_code
def yX9_takeNumber : MethodName := ⟨RX9, "takeNumber", "(II)I"⟩
def RX10 : String := "CinemaChain$Week"
def TX10 : u_T := fun k => match k with
  | 0 => ("CinemaChain$Week", "chain", "LCinemaChain$Chain;", true)
  | 1 => ("CinemaChain$Week", "state", "LCinemaChain$State;", true)
  | 2 => ("CinemaChain$Week", "table", "[I", true)
  | _ => ("CinemaChain$Week", "ranking", "[I", true)
def tyX10 : Nat → FieldType := fun k => match k with
  | 0 => .object "CinemaChain$Chain"
  | 1 => .object "CinemaChain$State"
  | 2 => .array .int
  | _ => .array .int
abbrev wsX100 : List Cond := u_ws RX10 TX10 4
theorem nmX10 : ∀ a, a < 4 → ∀ b, b < 4 → a ≠ b → (TX10 a).2.1 ≠ (TX10 b).2.1 := by decide +kernel
theorem tyX10_ok : ∀ k, k < 4 → parseFieldDescriptor (TX10 k).2.2.1 = some (tyX10 k) := by decide +kernel
abbrev cX10_init : ByteArray := prog_12_method_1_code
def yX10_init : MethodName := ⟨RX10, "<init>", "(LCinemaChain$Chain;LCinemaChain$State;)V"⟩
abbrev cX10_refresh : ByteArray := prog_12_method_2_code
def yX10_refresh : MethodName := ⟨RX10, "refresh", "()V"⟩
abbrev cX10_expectedVisitors : ByteArray := prog_12_method_3_code
def yX10_expectedVisitors : MethodName := ⟨RX10, "expectedVisitors", "(III)I"⟩
abbrev cX10_isServedBefore : ByteArray := prog_12_method_4_code
def yX10_isServedBefore : MethodName := ⟨RX10, "isServedBefore", "(II)Z"⟩
abbrev cX10_visitorsOn : ByteArray := prog_12_method_6_code
def yX10_visitorsOn : MethodName := ⟨RX10, "visitorsOn", "(II)I"⟩
abbrev cX10_visitorsSince : ByteArray := prog_12_method_7_code
def yX10_visitorsSince : MethodName := ⟨RX10, "visitorsSince", "(II)I"⟩
abbrev cX10_screenTakings : ByteArray := prog_12_method_8_code
def yX10_screenTakings : MethodName := ⟨RX10, "screenTakings", "(I)I"⟩
abbrev cX10_allTakings : ByteArray := prog_12_method_9_code
def yX10_allTakings : MethodName := ⟨RX10, "allTakings", "()I"⟩
abbrev cX10_houseTakings : ByteArray := prog_12_method_12_code
def yX10_houseTakings : MethodName := ⟨RX10, "houseTakings", "(I)I"⟩
abbrev cX10_houseRents : ByteArray := prog_12_method_13_code
def yX10_houseRents : MethodName := ⟨RX10, "houseRents", "(I)I"⟩
abbrev cX10_filmTakingsIn : ByteArray := prog_12_method_14_code
def yX10_filmTakingsIn : MethodName := ⟨RX10, "filmTakingsIn", "(II)I"⟩
abbrev cX10_filmVisitorsOn : ByteArray := prog_12_method_15_code
def yX10_filmVisitorsOn : MethodName := ⟨RX10, "filmVisitorsOn", "(II)I"⟩
abbrev cX10_filmTakings : ByteArray := prog_12_method_16_code
def yX10_filmTakings : MethodName := ⟨RX10, "filmTakings", "(I)I"⟩
abbrev cX10_shareOf : ByteArray := prog_12_method_17_code
def yX10_shareOf : MethodName := ⟨RX10, "shareOf", "(III)I"⟩
abbrev cX10_shareIn : ByteArray := prog_12_method_18_code
def yX10_shareIn : MethodName := ⟨RX10, "shareIn", "(II)I"⟩
abbrev cX10_houseShares : ByteArray := prog_12_method_19_code
def yX10_houseShares : MethodName := ⟨RX10, "houseShares", "(I)I"⟩
abbrev cX10_fillsWell : ByteArray := prog_12_method_20_code
def yX10_fillsWell : MethodName := ⟨RX10, "fillsWell", "(I)Z"⟩
abbrev cX10_screensShowing : ByteArray := prog_12_method_21_code
def yX10_screensShowing : MethodName := ⟨RX10, "screensShowing", "(III)I"⟩
abbrev cX10_printsNeeded : ByteArray := prog_12_method_22_code
def yX10_printsNeeded : MethodName := ⟨RX10, "printsNeeded", "(II)I"⟩
abbrev cX10_hasPrintsFor : ByteArray := prog_12_method_23_code
def yX10_hasPrintsFor : MethodName := ⟨RX10, "hasPrintsFor", "(IIII)Z"⟩
abbrev cX10_isShownIn : ByteArray := prog_12_method_24_code
def yX10_isShownIn : MethodName := ⟨RX10, "isShownIn", "(II)Z"⟩
abbrev cX10_filmAtPlace : ByteArray := prog_12_method_25_code
def yX10_filmAtPlace : MethodName := ⟨RX10, "filmAtPlace", "(I)I"⟩
abbrev cX10_filmsAhead : ByteArray := prog_12_method_26_code
def yX10_filmsAhead : MethodName := ⟨RX10, "filmsAhead", "(I)I"⟩
def RX11 : String := "CinemaChain"
def TX11 : u_T := fun k => match k with
  | 0 => ("CinemaChain", "buffer", "[B", true)
  | 1 => ("CinemaChain", "buffered", "I", false)
  | 2 => ("CinemaChain", "errorAt", "I", false)
  | 3 => ("CinemaChain", "formatted", "Ljava/lang/StringBuilder;", true)
  | 4 => ("CinemaChain", "chain", "LCinemaChain$Chain;", true)
  | 5 => ("CinemaChain", "state", "LCinemaChain$State;", true)
  | 6 => ("CinemaChain", "week", "LCinemaChain$Week;", true)
  | 7 => ("CinemaChain", "programs", "LCinemaChain$Programs;", true)
  | 8 => ("CinemaChain", "closing", "LCinemaChain$Closing;", true)
  | 9 => ("CinemaChain", "history", "LCinemaChain$History;", true)
  | 10 => ("CinemaChain", "tokens", "LCinemaChain$Tokens;", true)
  | 11 => ("CinemaChain", "chainText", "LCinemaChain$ChainText;", true)
  | _ => ("CinemaChain", "queryText", "LCinemaChain$QueryText;", true)
def tyX11 : Nat → FieldType := fun k => match k with
  | 0 => .array .byte
  | 1 => .int
  | 2 => .int
  | 3 => .object "java/lang/StringBuilder"
  | 4 => .object "CinemaChain$Chain"
  | 5 => .object "CinemaChain$State"
  | 6 => .object "CinemaChain$Week"
  | 7 => .object "CinemaChain$Programs"
  | 8 => .object "CinemaChain$Closing"
  | 9 => .object "CinemaChain$History"
  | 10 => .object "CinemaChain$Tokens"
  | 11 => .object "CinemaChain$ChainText"
  | _ => .object "CinemaChain$QueryText"
abbrev wsX110 : List Cond := u_ws RX11 TX11 13
theorem nmX11 : ∀ a, a < 13 → ∀ b, b < 13 → a ≠ b → (TX11 a).2.1 ≠ (TX11 b).2.1 := by decide +kernel
theorem tyX11_ok : ∀ k, k < 13 → parseFieldDescriptor (TX11 k).2.2.1 = some (tyX11 k) := by decide +kernel
abbrev cX11_init : ByteArray := prog_1_method_1_code
def yX11_init : MethodName := ⟨RX11, "<init>", "()V"⟩
abbrev cX11_feed : ByteArray := prog_1_method_2_code
def yX11_feed : MethodName := ⟨RX11, "feed", "(IIIII)I"⟩
abbrev cX11_append : ByteArray := prog_1_method_3_code
def yX11_append : MethodName := ⟨RX11, "append", "(I)V"⟩
abbrev cX11_load : ByteArray := prog_1_method_4_code
def yX11_load : MethodName := ⟨RX11, "load", "(I)I"⟩
abbrev cX11_checkLength : ByteArray := prog_1_method_6_code
def yX11_checkLength : MethodName := ⟨RX11, "checkLength", "(II)V"⟩
abbrev cX11_finishReading : ByteArray := prog_1_method_7_code
def yX11_finishReading : MethodName := ⟨RX11, "finishReading", "()V"⟩
abbrev cX11_size : ByteArray := prog_1_method_9_code
def yX11_size : MethodName := ⟨RX11, "size", "(I)I"⟩
abbrev cX11_house : ByteArray := prog_1_method_10_code
def yX11_house : MethodName := ⟨RX11, "house", "(II)I"⟩
abbrev cX11_screen : ByteArray := prog_1_method_11_code
def yX11_screen : MethodName := ⟨RX11, "screen", "(II)I"⟩
abbrev cX11_film : ByteArray := prog_1_method_12_code
def yX11_film : MethodName := ⟨RX11, "film", "(II)I"⟩
abbrev cX11_prints : ByteArray := prog_1_method_14_code
def yX11_prints : MethodName := ⟨RX11, "prints", "(II)I"⟩
abbrev cX11_shown : ByteArray := prog_1_method_15_code
def yX11_shown : MethodName := ⟨RX11, "shown", "(II)I"⟩
abbrev cX11_visitors : ByteArray := prog_1_method_16_code
def yX11_visitors : MethodName := ⟨RX11, "visitors", "(II)I"⟩
abbrev cX11_share : ByteArray := prog_1_method_17_code
def yX11_share : MethodName := ⟨RX11, "share", "(II)I"⟩
abbrev cX11_run : ByteArray := prog_1_method_18_code
def yX11_run : MethodName := ⟨RX11, "run", "(II)I"⟩
abbrev cX11_wouldHold : ByteArray := prog_1_method_19_code
def yX11_wouldHold : MethodName := ⟨RX11, "wouldHold", "(I)Z"⟩
abbrev cX11_chart : ByteArray := prog_1_method_21_code
def yX11_chart : MethodName := ⟨RX11, "chart", "(I)I"⟩
abbrev cX11_bestGain : ByteArray := prog_1_method_22_code
def yX11_bestGain : MethodName := ⟨RX11, "bestGain", "(I)I"⟩
abbrev cX11_bestFilm : ByteArray := prog_1_method_23_code
def yX11_bestFilm : MethodName := ⟨RX11, "bestFilm", "(I)I"⟩
abbrev cX11_total : ByteArray := prog_1_method_25_code
def yX11_total : MethodName := ⟨RX11, "total", "(I)I"⟩
abbrev cX11_closed : ByteArray := prog_1_method_26_code
def yX11_closed : MethodName := ⟨RX11, "closed", "(II)I"⟩
abbrev cX11_book : ByteArray := prog_1_method_29_code
def yX11_book : MethodName := ⟨RX11, "book", "(II)I"⟩
abbrev cX11_split : ByteArray := prog_1_method_30_code
def yX11_split : MethodName := ⟨RX11, "split", "(IIII)I"⟩
abbrev cX11_takeBooking : ByteArray := prog_1_method_31_code
def yX11_takeBooking : MethodName := ⟨RX11, "takeBooking", "(IIII)I"⟩
abbrev cX11_empty : ByteArray := prog_1_method_32_code
def yX11_empty : MethodName := ⟨RX11, "empty", "(I)I"⟩
abbrev cX11_move : ByteArray := prog_1_method_33_code
def yX11_move : MethodName := ⟨RX11, "move", "(III)I"⟩
abbrev cX11_close : ByteArray := prog_1_method_34_code
def yX11_close : MethodName := ⟨RX11, "close", "()I"⟩
abbrev cX11_program : ByteArray := prog_1_method_35_code
def yX11_program : MethodName := ⟨RX11, "program", "(I)I"⟩
abbrev cX11_setHoldover : ByteArray := prog_1_method_36_code
def yX11_setHoldover : MethodName := ⟨RX11, "setHoldover", "(II)I"⟩
abbrev cX11_setRent : ByteArray := prog_1_method_37_code
def yX11_setRent : MethodName := ⟨RX11, "setRent", "(II)I"⟩
abbrev cX11_setFee : ByteArray := prog_1_method_38_code
def yX11_setFee : MethodName := ⟨RX11, "setFee", "(I)I"⟩
abbrev cX11_undoCount : ByteArray := prog_1_method_42_code
def yX11_undoCount : MethodName := ⟨RX11, "undoCount", "()I"⟩
abbrev cX11_undo : ByteArray := prog_1_method_43_code
def yX11_undo : MethodName := ⟨RX11, "undo", "()I"⟩
abbrev cX11_saveSnapshot : ByteArray := prog_1_method_44_code
def yX11_saveSnapshot : MethodName := ⟨RX11, "saveSnapshot", "()V"⟩
abbrev cX11_restoreSnapshot : ByteArray := prog_1_method_45_code
def yX11_restoreSnapshot : MethodName := ⟨RX11, "restoreSnapshot", "()Z"⟩
abbrev cX11_checkHouse : ByteArray := prog_1_method_46_code
def yX11_checkHouse : MethodName := ⟨RX11, "checkHouse", "(I)V"⟩
abbrev cX11_checkScreen : ByteArray := prog_1_method_47_code
def yX11_checkScreen : MethodName := ⟨RX11, "checkScreen", "(I)V"⟩
abbrev cX11_checkFilm : ByteArray := prog_1_method_48_code
def yX11_checkFilm : MethodName := ⟨RX11, "checkFilm", "(I)V"⟩
abbrev cX11_checkPlace : ByteArray := prog_1_method_49_code
def yX11_checkPlace : MethodName := ⟨RX11, "checkPlace", "(I)V"⟩
abbrev cX11_checkDay : ByteArray := prog_1_method_50_code
def yX11_checkDay : MethodName := ⟨RX11, "checkDay", "(I)V"⟩
abbrev cX11_copyRow : ByteArray := prog_1_method_51_code
def yX11_copyRow : MethodName := ⟨RX11, "copyRow", "([I[I)V"⟩
def RX12 : String := "CinemaChainLaw$Own"
def TX12 : u_T := fun k => match k with
  | 0 => ("CinemaChainLaw$Own", "houses", "I", false)
  | 1 => ("CinemaChainLaw$Own", "screens", "I", false)
  | 2 => ("CinemaChainLaw$Own", "films", "I", false)
  | 3 => ("CinemaChainLaw$Own", "closed", "I", false)
  | 4 => ("CinemaChainLaw$Own", "fee", "I", false)
  | 5 => ("CinemaChainLaw$Own", "moves", "I", false)
  | 6 => ("CinemaChainLaw$Own", "house", "[[I", false)
  | 7 => ("CinemaChainLaw$Own", "screen", "[[I", false)
  | 8 => ("CinemaChainLaw$Own", "film", "[[I", false)
  | 9 => ("CinemaChainLaw$Own", "print", "[[I", false)
  | 10 => ("CinemaChainLaw$Own", "run", "[[I", false)
  | 11 => ("CinemaChainLaw$Own", "total", "[I", false)
  | _ => ("CinemaChainLaw$Own", "week", "[[I", false)
def tyX12 : Nat → FieldType := fun k => match k with
  | 0 => .int
  | 1 => .int
  | 2 => .int
  | 3 => .int
  | 4 => .int
  | 5 => .int
  | 6 => .array (.array .int)
  | 7 => .array (.array .int)
  | 8 => .array (.array .int)
  | 9 => .array (.array .int)
  | 10 => .array (.array .int)
  | 11 => .array .int
  | _ => .array (.array .int)
abbrev wsX120 : List Cond := u_ws RX12 TX12 13
theorem nmX12 : ∀ a, a < 13 → ∀ b, b < 13 → a ≠ b → (TX12 a).2.1 ≠ (TX12 b).2.1 := by decide +kernel
theorem tyX12_ok : ∀ k, k < 13 → parseFieldDescriptor (TX12 k).2.2.1 = some (tyX12 k) := by decide +kernel
abbrev cX12_init : ByteArray := prog_14_method_1_code
def yX12_init : MethodName := ⟨RX12, "<init>", "()V"⟩
abbrev cX12_shown : ByteArray := prog_14_method_3_code
def yX12_shown : MethodName := ⟨RX12, "shown", "(II)I"⟩
abbrev cX12_room : ByteArray := prog_14_method_4_code
def yX12_room : MethodName := ⟨RX12, "room", "(I)I"⟩
abbrev cX12_price : ByteArray := prog_14_method_5_code
def yX12_price : MethodName := ⟨RX12, "price", "(I)I"⟩
abbrev cX12_age : ByteArray := prog_14_method_6_code
def yX12_age : MethodName := ⟨RX12, "age", "(I)I"⟩
abbrev cX12_daily : ByteArray := prog_14_method_7_code
def yX12_daily : MethodName := ⟨RX12, "daily", "(I)I"⟩
abbrev cX12_guests : ByteArray := prog_14_method_8_code
def yX12_guests : MethodName := ⟨RX12, "guests", "(II)I"⟩
abbrev cX12_took : ByteArray := prog_14_method_9_code
def yX12_took : MethodName := ⟨RX12, "took", "(II)I"⟩
abbrev cX12_takings : ByteArray := prog_14_method_10_code
def yX12_takings : MethodName := ⟨RX12, "takings", "(II)I"⟩
abbrev cX12_isIn : ByteArray := prog_14_method_11_code
def yX12_isIn : MethodName := ⟨RX12, "isIn", "(II)Z"⟩
abbrev cX12_share : ByteArray := prog_14_method_12_code
def yX12_share : MethodName := ⟨RX12, "share", "(II)I"⟩
abbrev cX12_part : ByteArray := prog_14_method_13_code
def yX12_part : MethodName := ⟨RX12, "part", "(III)I"⟩
abbrev cX12_shares : ByteArray := prog_14_method_14_code
def yX12_shares : MethodName := ⟨RX12, "shares", "(I)I"⟩
abbrev cX12_rents : ByteArray := prog_14_method_15_code
def yX12_rents : MethodName := ⟨RX12, "rents", "(I)I"⟩
abbrev cX12_need : ByteArray := prog_14_method_16_code
def yX12_need : MethodName := ⟨RX12, "need", "(II)I"⟩
abbrev cX12_holds : ByteArray := prog_14_method_17_code
def yX12_holds : MethodName := ⟨RX12, "holds", "(I)Z"⟩
abbrev cX12_roster : ByteArray := prog_14_method_18_code
def yX12_roster : MethodName := ⟨RX12, "roster", "(I)[I"⟩
abbrev cX12_best : ByteArray := prog_14_method_19_code
def yX12_best : MethodName := ⟨RX12, "best", "(I)[I"⟩
abbrev cX12_gain : ByteArray := prog_14_method_20_code
def yX12_gain : MethodName := ⟨RX12, "gain", "(I[I[I)I"⟩
abbrev cX12_book : ByteArray := prog_14_method_24_code
def yX12_book : MethodName := ⟨RX12, "book", "(IIIII)V"⟩
abbrev cX12_close : ByteArray := prog_14_method_25_code
def yX12_close : MethodName := ⟨RX12, "close", "()I"⟩
def RX13 : String := "CinemaChainModel"
def TX13 : u_T := fun k => match k with
  | _ => ("", "", "", false)
def tyX13 : Nat → FieldType := fun k => match k with
  | _ => .int
abbrev wsX130 : List Cond := u_ws RX13 TX13 0
theorem nmX13 : ∀ a, a < 0 → ∀ b, b < 0 → a ≠ b → (TX13 a).2.1 ≠ (TX13 b).2.1 := by decide +kernel
theorem tyX13_ok : ∀ k, k < 0 → parseFieldDescriptor (TX13 k).2.2.1 = some (tyX13 k) := by decide +kernel
def RJx145de : String := "java/io/Serializable"
def TJx145de : u_T := fun k => match k with
  | _ => ("", "", "", false)
def tyJx145de : Nat → FieldType := fun k => match k with
  | _ => .int
abbrev wsJx145de0 : List Cond := u_ws RJx145de TJx145de 0
theorem nmJx145de : ∀ a, a < 0 → ∀ b, b < 0 → a ≠ b → (TJx145de a).2.1 ≠ (TJx145de b).2.1 := by decide +kernel
theorem tyJx145de_ok : ∀ k, k < 0 → parseFieldDescriptor (TJx145de k).2.2.1 = some (tyJx145de k) := by decide +kernel
def RJ5 : String := "java/lang/AbstractStringBuilder"
def TJ5 : u_T := fun k => match k with
  | _ => ("", "", "", false)
def tyJ5 : Nat → FieldType := fun k => match k with
  | _ => .int
abbrev wsJ50 : List Cond := u_ws RJ5 TJ5 0
theorem nmJ5 : ∀ a, a < 0 → ∀ b, b < 0 → a ≠ b → (TJ5 a).2.1 ≠ (TJ5 b).2.1 := by decide +kernel
theorem tyJ5_ok : ∀ k, k < 0 → parseFieldDescriptor (TJ5 k).2.2.1 = some (tyJ5 k) := by decide +kernel
abbrev cJ5_init_d00df : ByteArray := prog_17_method_2_code
def yJ5_init_d00df : MethodName := ⟨RJ5, "<init>", "(I)V"⟩
def RJx2cfe8 : String := "java/lang/Appendable"
def TJx2cfe8 : u_T := fun k => match k with
  | _ => ("", "", "", false)
def tyJx2cfe8 : Nat → FieldType := fun k => match k with
  | _ => .int
abbrev wsJx2cfe80 : List Cond := u_ws RJx2cfe8 TJx2cfe8 0
theorem nmJx2cfe8 : ∀ a, a < 0 → ∀ b, b < 0 → a ≠ b → (TJx2cfe8 a).2.1 ≠ (TJx2cfe8 b).2.1 := by decide +kernel
theorem tyJx2cfe8_ok : ∀ k, k < 0 → parseFieldDescriptor (TJx2cfe8 k).2.2.1 = some (tyJx2cfe8 k) := by decide +kernel
def RJx9f9b0 : String := "java/lang/CharSequence"
def TJx9f9b0 : u_T := fun k => match k with
  | _ => ("", "", "", false)
def tyJx9f9b0 : Nat → FieldType := fun k => match k with
  | _ => .int
abbrev wsJx9f9b00 : List Cond := u_ws RJx9f9b0 TJx9f9b0 0
theorem nmJx9f9b0 : ∀ a, a < 0 → ∀ b, b < 0 → a ≠ b → (TJx9f9b0 a).2.1 ≠ (TJx9f9b0 b).2.1 := by decide +kernel
theorem tyJx9f9b0_ok : ∀ k, k < 0 → parseFieldDescriptor (TJx9f9b0 k).2.2.1 = some (tyJx9f9b0 k) := by decide +kernel
def RJx8e188 : String := "java/lang/Cloneable"
def TJx8e188 : u_T := fun k => match k with
  | _ => ("", "", "", false)
def tyJx8e188 : Nat → FieldType := fun k => match k with
  | _ => .int
abbrev wsJx8e1880 : List Cond := u_ws RJx8e188 TJx8e188 0
theorem nmJx8e188 : ∀ a, a < 0 → ∀ b, b < 0 → a ≠ b → (TJx8e188 a).2.1 ≠ (TJx8e188 b).2.1 := by decide +kernel
theorem tyJx8e188_ok : ∀ k, k < 0 → parseFieldDescriptor (TJx8e188 k).2.2.1 = some (tyJx8e188 k) := by decide +kernel
def RJxb160c : String := "java/lang/Comparable"
def TJxb160c : u_T := fun k => match k with
  | _ => ("", "", "", false)
def tyJxb160c : Nat → FieldType := fun k => match k with
  | _ => .int
abbrev wsJxb160c0 : List Cond := u_ws RJxb160c TJxb160c 0
theorem nmJxb160c : ∀ a, a < 0 → ∀ b, b < 0 → a ≠ b → (TJxb160c a).2.1 ≠ (TJxb160c b).2.1 := by decide +kernel
theorem tyJxb160c_ok : ∀ k, k < 0 → parseFieldDescriptor (TJxb160c k).2.2.1 = some (tyJxb160c k) := by decide +kernel
def RJ6 : String := "java/lang/Integer"
def TJ6 : u_T := fun k => match k with
  | _ => ("", "", "", false)
def tyJ6 : Nat → FieldType := fun k => match k with
  | _ => .int
abbrev wsJ60 : List Cond := u_ws RJ6 TJ6 0
theorem nmJ6 : ∀ a, a < 0 → ∀ b, b < 0 → a ≠ b → (TJ6 a).2.1 ≠ (TJ6 b).2.1 := by decide +kernel
theorem tyJ6_ok : ∀ k, k < 0 → parseFieldDescriptor (TJ6 k).2.2.1 = some (tyJ6 k) := by decide +kernel
abbrev cJ6_bitCount_0f7a4 : ByteArray := prog_24_method_49_code
def yJ6_bitCount_0f7a4 : MethodName := ⟨RJ6, "bitCount", "(I)I"⟩
def RJ9 : String := "java/lang/Math"
def TJ9 : u_T := fun k => match k with
  | _ => ("", "", "", false)
def tyJ9 : Nat → FieldType := fun k => match k with
  | _ => .int
abbrev wsJ90 : List Cond := u_ws RJ9 TJ9 0
theorem nmJ9 : ∀ a, a < 0 → ∀ b, b < 0 → a ≠ b → (TJ9 a).2.1 ≠ (TJ9 b).2.1 := by decide +kernel
theorem tyJ9_ok : ∀ k, k < 0 → parseFieldDescriptor (TJ9 k).2.2.1 = some (tyJ9 k) := by decide +kernel
abbrev cJ9_max_7cf53 : ByteArray := prog_25_method_65_code
def yJ9_max_7cf53 : MethodName := ⟨RJ9, "max", "(II)I"⟩
abbrev cJ9_min_7cf53 : ByteArray := prog_25_method_69_code
def yJ9_min_7cf53 : MethodName := ⟨RJ9, "min", "(II)I"⟩
def RJ0 : String := "java/lang/String"
def TJ0 : u_T := fun k => match k with
  | _ => ("", "", "", false)
def tyJ0 : Nat → FieldType := fun k => match k with
  | _ => .int
abbrev wsJ00 : List Cond := u_ws RJ0 TJ0 0
theorem nmJ0 : ∀ a, a < 0 → ∀ b, b < 0 → a ≠ b → (TJ0 a).2.1 ≠ (TJ0 b).2.1 := by decide +kernel
theorem tyJ0_ok : ∀ k, k < 0 → parseFieldDescriptor (TJ0 k).2.2.1 = some (tyJ0 k) := by decide +kernel
abbrev cJ0_length_8abf5 : ByteArray := prog_27_method_54_code
def yJ0_length_8abf5 : MethodName := ⟨RJ0, "length", "()I"⟩
abbrev cJ0_charAt_5068e : ByteArray := prog_27_method_56_code
def yJ0_charAt_5068e : MethodName := ⟨RJ0, "charAt", "(I)C"⟩
abbrev cJ0_coder_7d493 : ByteArray := prog_27_method_152_code
def yJ0_coder_7d493 : MethodName := ⟨RJ0, "coder", "()B"⟩
abbrev cJ0_isLatin1_aae02 : ByteArray := prog_27_method_154_code
def yJ0_isLatin1_aae02 : MethodName := ⟨RJ0, "isLatin1", "()Z"⟩
abbrev cJ0_checkIndex_df160 : ByteArray := prog_27_method_155_code
def yJ0_checkIndex_df160 : MethodName := ⟨RJ0, "checkIndex", "(II)V"⟩
def RJ4 : String := "java/lang/StringBuilder"
def TJ4 : u_T := fun k => match k with
  | 0 => ("java/lang/AbstractStringBuilder", "value", "[B", false)
  | 1 => ("java/lang/AbstractStringBuilder", "coder", "B", false)
  | 2 => ("java/lang/AbstractStringBuilder", "maybeLatin1", "Z", false)
  | _ => ("java/lang/AbstractStringBuilder", "count", "I", false)
def tyJ4 : Nat → FieldType := fun k => match k with
  | 0 => .array .byte
  | 1 => .byte
  | 2 => .boolean
  | _ => .int
abbrev wsJ40 : List Cond := u_ws RJ4 TJ4 4
theorem nmJ4 : ∀ a, a < 4 → ∀ b, b < 4 → a ≠ b → (TJ4 a).2.1 ≠ (TJ4 b).2.1 := by decide +kernel
theorem tyJ4_ok : ∀ k, k < 4 → parseFieldDescriptor (TJ4 k).2.2.1 = some (tyJ4 k) := by decide +kernel
abbrev cJ4_init_da8c8 : ByteArray := prog_28_method_1_code
def yJ4_init_da8c8 : MethodName := ⟨RJ4, "<init>", "()V"⟩
def RJ1 : String := "java/lang/StringLatin1"
def TJ1 : u_T := fun k => match k with
  | _ => ("", "", "", false)
def tyJ1 : Nat → FieldType := fun k => match k with
  | _ => .int
abbrev wsJ10 : List Cond := u_ws RJ1 TJ1 0
theorem nmJ1 : ∀ a, a < 0 → ∀ b, b < 0 → a ≠ b → (TJ1 a).2.1 ≠ (TJ1 b).2.1 := by decide +kernel
theorem tyJ1_ok : ∀ k, k < 0 → parseFieldDescriptor (TJ1 k).2.2.1 = some (tyJ1 k) := by decide +kernel
abbrev cJ1_charAt_3b067 : ByteArray := prog_29_method_2_code
def yJ1_charAt_3b067 : MethodName := ⟨RJ1, "charAt", "([BI)C"⟩
def RJ2 : String := "java/lang/StringUTF16"
def TJ2 : u_T := fun k => match k with
  | _ => ("", "", "", false)
def tyJ2 : Nat → FieldType := fun k => match k with
  | _ => .int
abbrev wsJ20 : List Cond := u_ws RJ2 TJ2 0
theorem nmJ2 : ∀ a, a < 0 → ∀ b, b < 0 → a ≠ b → (TJ2 a).2.1 ≠ (TJ2 b).2.1 := by decide +kernel
theorem tyJ2_ok : ∀ k, k < 0 → parseFieldDescriptor (TJ2 k).2.2.1 = some (tyJ2 k) := by decide +kernel
abbrev cJ2_newBytesFor_77867 : ByteArray := prog_30_method_2_code
def yJ2_newBytesFor_77867 : MethodName := ⟨RJ2, "newBytesFor", "(I)[B"⟩
abbrev cJ2_newBytesLength_0f7a4 : ByteArray := prog_30_method_3_code
def yJ2_newBytesLength_0f7a4 : MethodName := ⟨RJ2, "newBytesLength", "(I)I"⟩
abbrev cJ2_getChar_3b067 : ByteArray := prog_30_method_5_code
def yJ2_getChar_3b067 : MethodName := ⟨RJ2, "getChar", "([BI)C"⟩
abbrev cJ2_length_9d52b : ByteArray := prog_30_method_6_code
def yJ2_length_9d52b : MethodName := ⟨RJ2, "length", "([B)I"⟩
abbrev cJ2_charAt_3b067 : ByteArray := prog_30_method_83_code
def yJ2_charAt_3b067 : MethodName := ⟨RJ2, "charAt", "([BI)C"⟩
abbrev cJ2_checkIndex_2214a : ByteArray := prog_30_method_91_code
def yJ2_checkIndex_2214a : MethodName := ⟨RJ2, "checkIndex", "(I[B)V"⟩
def RJ10 : String := "java/lang/System"
def TJ10 : u_T := fun k => match k with
  | _ => ("", "", "", false)
def tyJ10 : Nat → FieldType := fun k => match k with
  | _ => .int
abbrev wsJ100 : List Cond := u_ws RJ10 TJ10 0
theorem nmJ10 : ∀ a, a < 0 → ∀ b, b < 0 → a ≠ b → (TJ10 a).2.1 ≠ (TJ10 b).2.1 := by decide +kernel
theorem tyJ10_ok : ∀ k, k < 0 → parseFieldDescriptor (TJ10 k).2.2.1 = some (tyJ10 k) := by decide +kernel
def RJxfd54e : String := "java/lang/constant/Constable"
def TJxfd54e : u_T := fun k => match k with
  | _ => ("", "", "", false)
def tyJxfd54e : Nat → FieldType := fun k => match k with
  | _ => .int
abbrev wsJxfd54e0 : List Cond := u_ws RJxfd54e TJxfd54e 0
theorem nmJxfd54e : ∀ a, a < 0 → ∀ b, b < 0 → a ≠ b → (TJxfd54e a).2.1 ≠ (TJxfd54e b).2.1 := by decide +kernel
theorem tyJxfd54e_ok : ∀ k, k < 0 → parseFieldDescriptor (TJxfd54e k).2.2.1 = some (tyJxfd54e k) := by decide +kernel
def RJx3cf43 : String := "java/lang/constant/ConstantDesc"
def TJx3cf43 : u_T := fun k => match k with
  | _ => ("", "", "", false)
def tyJx3cf43 : Nat → FieldType := fun k => match k with
  | _ => .int
abbrev wsJx3cf430 : List Cond := u_ws RJx3cf43 TJx3cf43 0
theorem nmJx3cf43 : ∀ a, a < 0 → ∀ b, b < 0 → a ≠ b → (TJx3cf43 a).2.1 ≠ (TJx3cf43 b).2.1 := by decide +kernel
theorem tyJx3cf43_ok : ∀ k, k < 0 → parseFieldDescriptor (TJx3cf43 k).2.2.1 = some (tyJx3cf43 k) := by decide +kernel
def RJ7 : String := "java/util/Arrays"
def TJ7 : u_T := fun k => match k with
  | _ => ("", "", "", false)
def tyJ7 : Nat → FieldType := fun k => match k with
  | _ => .int
abbrev wsJ70 : List Cond := u_ws RJ7 TJ7 0
theorem nmJ7 : ∀ a, a < 0 → ∀ b, b < 0 → a ≠ b → (TJ7 a).2.1 ≠ (TJ7 b).2.1 := by decide +kernel
theorem tyJ7_ok : ∀ k, k < 0 → parseFieldDescriptor (TJ7 k).2.2.1 = some (tyJ7 k) := by decide +kernel
abbrev cJ7_fill_53178 : ByteArray := prog_35_method_103_code
def yJ7_fill_53178 : MethodName := ⟨RJ7, "fill", "([II)V"⟩
def RJ3 : String := "jdk/internal/util/Preconditions"
def TJ3 : u_T := fun k => match k with
  | _ => ("", "", "", false)
def tyJ3 : Nat → FieldType := fun k => match k with
  | _ => .int
abbrev wsJ30 : List Cond := u_ws RJ3 TJ3 0
theorem nmJ3 : ∀ a, a < 0 → ∀ b, b < 0 → a ≠ b → (TJ3 a).2.1 ≠ (TJ3 b).2.1 := by decide +kernel
theorem tyJ3_ok : ∀ k, k < 0 → parseFieldDescriptor (TJ3 k).2.2.1 = some (tyJ3 k) := by decide +kernel
abbrev cJ3_checkIndex_8e157 : ByteArray := prog_37_method_11_code
def yJ3_checkIndex_8e157 : MethodName := ⟨RJ3, "checkIndex", "(IILjava/util/function/BiFunction;)I"⟩
def RL : String := "CinemaChainLaw"
abbrev cL_most : ByteArray := method_2_code
def yL_most : MethodName := ⟨RL, "most", "(II)I"⟩
abbrev cL_cell : ByteArray := method_3_code
def yL_cell : MethodName := ⟨RL, "cell", "([II)I"⟩
abbrev cL_add : ByteArray := method_4_code
def yL_add : MethodName := ⟨RL, "add", "(LCinemaChain;[II)V"⟩
abbrev cL_number : ByteArray := method_6_code
def yL_number : MethodName := ⟨RL, "number", "(LCinemaChain;[II)V"⟩
abbrev cL_end : ByteArray := method_7_code
def yL_end : MethodName := ⟨RL, "end", "(LCinemaChain;[I)I"⟩
abbrev cL_drawn : ByteArray := method_8_code
def yL_drawn : MethodName := ⟨RL, "drawn", "([II)LCinemaChainLaw$Own;"⟩
abbrev cL_word : ByteArray := method_9_code
def yL_word : MethodName := ⟨RL, "word", "(LCinemaChain;[ILjava/lang/String;)V"⟩
abbrev cL_with : ByteArray := method_10_code
def yL_with : MethodName := ⟨RL, "with", "(LCinemaChain;[ILjava/lang/String;I)V"⟩
abbrev cL_tell : ByteArray := method_11_code
def yL_tell : MethodName := ⟨RL, "tell", "(LCinemaChain;[ILCinemaChainLaw$Own;)I"⟩
abbrev cL_act : ByteArray := method_13_code
def yL_act : MethodName := ⟨RL, "act", "(LCinemaChain;LCinemaChainLaw$Own;I)I"⟩
abbrev cL_all : ByteArray := method_14_code
def yL_all : MethodName := ⟨RL, "all", "(LCinemaChain;)J"⟩
abbrev cL_isSound : ByteArray := method_15_code
def yL_isSound : MethodName := ⟨RL, "isSound", "(LCinemaChain;)Z"⟩
abbrev cL_areRanked : ByteArray := method_16_code
def yL_areRanked : MethodName := ⟨RL, "areRanked", "(LCinemaChain;)Z"⟩
abbrev cL_isBest : ByteArray := method_17_code
def yL_isBest : MethodName := ⟨RL, "isBest", "(LCinemaChain;I)Z"⟩
abbrev cL_isClosed : ByteArray := method_18_code
def yL_isClosed : MethodName := ⟨RL, "isClosed", "(LCinemaChain;)Z"⟩
abbrev cL_law : ByteArray := code
def yL_law : MethodName := ⟨RL, "law", "([I)Z"⟩
