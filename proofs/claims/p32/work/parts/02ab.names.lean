/-! ===== BEGIN printed: names, fields, word lists, decode rows ===== -/
def RX0 : String := "FirstdanceAgency$Band"
def TX0 : u_T := fun k => match k with
  | 0 => ("FirstdanceAgency$Band", "needs", "[I", true)
  | 1 => ("FirstdanceAgency$Band", "places", "[I", true)
  | _ => ("FirstdanceAgency$Band", "size", "I", false)
def tyX0 : Nat → FieldType := fun k => match k with
  | 0 => .array .int
  | 1 => .array .int
  | _ => .int
abbrev wsX00 : List Cond := u_ws RX0 TX0 3
theorem nmX0 : ∀ a, a < 3 → ∀ b, b < 3 → a ≠ b → (TX0 a).2.1 ≠ (TX0 b).2.1 := by decide +kernel
theorem tyX0_ok : ∀ k, k < 3 → parseFieldDescriptor (TX0 k).2.2.1 = some (tyX0 k) := by decide +kernel
abbrev cX0_init : ByteArray := prog_2_method_1_code
def yX0_init : MethodName := ⟨RX0, "<init>", "()V"⟩
abbrev cX0_take : ByteArray := prog_2_method_2_code
def yX0_take : MethodName := ⟨RX0, "take", "(I)V"⟩
def RX1 : String := "FirstdanceAgency$BestSet"
def TX1 : u_T := fun k => match k with
  | 0 => ("FirstdanceAgency$BestSet", "row", "[I", true)
  | 1 => ("FirstdanceAgency$BestSet", "length", "I", false)
  | 2 => ("FirstdanceAgency$BestSet", "minutes", "I", false)
  | 3 => ("FirstdanceAgency$BestSet", "order", "[I", true)
  | 4 => ("FirstdanceAgency$BestSet", "longest", "[I", true)
  | 5 => ("FirstdanceAgency$BestSet", "next", "[I", true)
  | _ => ("FirstdanceAgency$BestSet", "orderLength", "I", false)
def tyX1 : Nat → FieldType := fun k => match k with
  | 0 => .array .int
  | 1 => .int
  | 2 => .int
  | 3 => .array .int
  | 4 => .array .int
  | 5 => .array .int
  | _ => .int
abbrev wsX10 : List Cond := u_ws RX1 TX1 7
theorem nmX1 : ∀ a, a < 7 → ∀ b, b < 7 → a ≠ b → (TX1 a).2.1 ≠ (TX1 b).2.1 := by decide +kernel
theorem tyX1_ok : ∀ k, k < 7 → parseFieldDescriptor (TX1 k).2.2.1 = some (tyX1 k) := by decide +kernel
abbrev cX1_init : ByteArray := prog_3_method_1_code
def yX1_init : MethodName := ⟨RX1, "<init>", "()V"⟩
abbrev cX1_choose : ByteArray := prog_3_method_2_code
def yX1_choose : MethodName := ⟨RX1, "choose", "([LFirstdanceAgency$Song;I)V"⟩
abbrev cX1_sort : ByteArray := prog_3_method_3_code
def yX1_sort : MethodName := ⟨RX1, "sort", "([LFirstdanceAgency$Song;I)V"⟩
abbrev cX1_betterStart : ByteArray := prog_3_method_4_code
def yX1_betterStart : MethodName := ⟨RX1, "betterStart", "(II)I"⟩
abbrev cX1_follow : ByteArray := prog_3_method_5_code
def yX1_follow : MethodName := ⟨RX1, "follow", "(I)V"⟩
def RX2 : String := "FirstdanceAgency$Fillings"
def TX2 : u_T := fun k => match k with
  | 0 => ("FirstdanceAgency$Fillings", "best", "I", false)
  | 1 => ("FirstdanceAgency$Fillings", "cost", "I", false)
  | 2 => ("FirstdanceAgency$Fillings", "kept", "I", false)
  | 3 => ("FirstdanceAgency$Fillings", "count", "I", false)
  | 4 => ("FirstdanceAgency$Fillings", "inAll", "I", false)
  | _ => ("FirstdanceAgency$Fillings", "why", "I", false)
def tyX2 : Nat → FieldType := fun k => match k with
  | 0 => .int
  | 1 => .int
  | 2 => .int
  | 3 => .int
  | 4 => .int
  | _ => .int
abbrev wsX20 : List Cond := u_ws RX2 TX2 6
theorem nmX2 : ∀ a, a < 6 → ∀ b, b < 6 → a ≠ b → (TX2 a).2.1 ≠ (TX2 b).2.1 := by decide +kernel
theorem tyX2_ok : ∀ k, k < 6 → parseFieldDescriptor (TX2 k).2.2.1 = some (tyX2 k) := by decide +kernel
abbrev cX2_init : ByteArray := prog_4_method_1_code
def yX2_init : MethodName := ⟨RX2, "<init>", "()V"⟩
abbrev cX2_clear : ByteArray := prog_4_method_2_code
def yX2_clear : MethodName := ⟨RX2, "clear", "()V"⟩
abbrev cX2_add : ByteArray := prog_4_method_3_code
def yX2_add : MethodName := ⟨RX2, "add", "(III)V"⟩
def RX3 : String := "FirstdanceAgency$Player"
def TX3 : u_T := fun k => match k with
  | 0 => ("FirstdanceAgency$Player", "instruments", "I", false)
  | 1 => ("FirstdanceAgency$Player", "known", "I", false)
  | 2 => ("FirstdanceAgency$Player", "home", "I", false)
  | 3 => ("FirstdanceAgency$Player", "fee", "I", false)
  | 4 => ("FirstdanceAgency$Player", "feuds", "I", false)
  | 5 => ("FirstdanceAgency$Player", "earned", "I", false)
  | 6 => ("FirstdanceAgency$Player", "played", "I", false)
  | _ => ("FirstdanceAgency$Player", "hours", "I", false)
def tyX3 : Nat → FieldType := fun k => match k with
  | 0 => .int
  | 1 => .int
  | 2 => .int
  | 3 => .int
  | 4 => .int
  | 5 => .int
  | 6 => .int
  | _ => .int
abbrev wsX30 : List Cond := u_ws RX3 TX3 8
theorem nmX3 : ∀ a, a < 8 → ∀ b, b < 8 → a ≠ b → (TX3 a).2.1 ≠ (TX3 b).2.1 := by decide +kernel
theorem tyX3_ok : ∀ k, k < 8 → parseFieldDescriptor (TX3 k).2.2.1 = some (tyX3 k) := by decide +kernel
abbrev cX3_init : ByteArray := prog_5_method_1_code
def yX3_init : MethodName := ⟨RX3, "<init>", "()V"⟩
def RX4 : String := "FirstdanceAgency$Roads"
def TX4 : u_T := fun k => match k with
  | 0 => ("FirstdanceAgency$Roads", "hours", "[[I", true)
  | _ => ("FirstdanceAgency$Roads", "ways", "[[I", true)
def tyX4 : Nat → FieldType := fun k => match k with
  | 0 => .array (.array .int)
  | _ => .array (.array .int)
abbrev wsX40 : List Cond := u_ws RX4 TX4 2
theorem nmX4 : ∀ a, a < 2 → ∀ b, b < 2 → a ≠ b → (TX4 a).2.1 ≠ (TX4 b).2.1 := by decide +kernel
theorem tyX4_ok : ∀ k, k < 2 → parseFieldDescriptor (TX4 k).2.2.1 = some (tyX4 k) := by decide +kernel
abbrev cX4_init : ByteArray := prog_6_method_1_code
def yX4_init : MethodName := ⟨RX4, "<init>", "()V"⟩
abbrev cX4_between : ByteArray := prog_6_method_2_code
def yX4_between : MethodName := ⟨RX4, "between", "(II)I"⟩
abbrev cX4_lay : ByteArray := prog_6_method_3_code
def yX4_lay : MethodName := ⟨RX4, "lay", "(III)V"⟩
abbrev cX4_shortenOver : ByteArray := prog_6_method_4_code
def yX4_shortenOver : MethodName := ⟨RX4, "shortenOver", "(I)V"⟩
def RX5 : String := "FirstdanceAgency$Song"
def TX5 : u_T := fun k => match k with
  | 0 => ("FirstdanceAgency$Song", "key", "I", false)
  | 1 => ("FirstdanceAgency$Song", "energy", "I", false)
  | 2 => ("FirstdanceAgency$Song", "minutes", "I", false)
  | _ => ("FirstdanceAgency$Song", "played", "I", false)
def tyX5 : Nat → FieldType := fun k => match k with
  | 0 => .int
  | 1 => .int
  | 2 => .int
  | _ => .int
abbrev wsX50 : List Cond := u_ws RX5 TX5 4
theorem nmX5 : ∀ a, a < 4 → ∀ b, b < 4 → a ≠ b → (TX5 a).2.1 ≠ (TX5 b).2.1 := by decide +kernel
theorem tyX5_ok : ∀ k, k < 4 → parseFieldDescriptor (TX5 k).2.2.1 = some (tyX5 k) := by decide +kernel
abbrev cX5_init : ByteArray := prog_7_method_1_code
def yX5_init : MethodName := ⟨RX5, "<init>", "(I)V"⟩
abbrev cX5_fitsBeside : ByteArray := prog_7_method_2_code
def yX5_fitsBeside : MethodName := ⟨RX5, "fitsBeside", "(LFirstdanceAgency$Song;)Z"⟩
def RX6 : String := "FirstdanceAgency$Wedding"
def TX6 : u_T := fun k => match k with
  | 0 => ("FirstdanceAgency$Wedding", "band", "I", false)
  | 1 => ("FirstdanceAgency$Wedding", "day", "I", false)
  | 2 => ("FirstdanceAgency$Wedding", "town", "I", false)
  | 3 => ("FirstdanceAgency$Wedding", "start", "I", false)
  | 4 => ("FirstdanceAgency$Wedding", "length", "I", false)
  | 5 => ("FirstdanceAgency$Wedding", "promised", "I", false)
  | 6 => ("FirstdanceAgency$Wedding", "told", "I", false)
  | 7 => ("FirstdanceAgency$Wedding", "state", "I", false)
  | 8 => ("FirstdanceAgency$Wedding", "players", "I", false)
  | 9 => ("FirstdanceAgency$Wedding", "price", "I", false)
  | 10 => ("FirstdanceAgency$Wedding", "late", "I", false)
  | _ => ("FirstdanceAgency$Wedding", "paid", "I", false)
def tyX6 : Nat → FieldType := fun k => match k with
  | 0 => .int
  | 1 => .int
  | 2 => .int
  | 3 => .int
  | 4 => .int
  | 5 => .int
  | 6 => .int
  | 7 => .int
  | 8 => .int
  | 9 => .int
  | 10 => .int
  | _ => .int
abbrev wsX60 : List Cond := u_ws RX6 TX6 12
theorem nmX6 : ∀ a, a < 12 → ∀ b, b < 12 → a ≠ b → (TX6 a).2.1 ≠ (TX6 b).2.1 := by decide +kernel
theorem tyX6_ok : ∀ k, k < 12 → parseFieldDescriptor (TX6 k).2.2.1 = some (tyX6 k) := by decide +kernel
abbrev cX6_init : ByteArray := prog_8_method_1_code
def yX6_init : MethodName := ⟨RX6, "<init>", "()V"⟩
abbrev cX6_isFixedWith : ByteArray := prog_8_method_2_code
def yX6_isFixedWith : MethodName := ⟨RX6, "isFixedWith", "(I)Z"⟩
abbrev cX6_quarters : ByteArray := prog_8_method_3_code
def yX6_quarters : MethodName := ⟨RX6, "quarters", "()I"⟩
def RX7 : String := "FirstdanceAgency"
def TX7 : u_T := fun k => match k with
  | 0 => ("FirstdanceAgency", "players", "[LFirstdanceAgency$Player;", true)
  | 1 => ("FirstdanceAgency", "allSongs", "[LFirstdanceAgency$Song;", true)
  | 2 => ("FirstdanceAgency", "bands", "[LFirstdanceAgency$Band;", true)
  | 3 => ("FirstdanceAgency", "weddings", "[LFirstdanceAgency$Wedding;", true)
  | 4 => ("FirstdanceAgency", "roads", "LFirstdanceAgency$Roads;", true)
  | 5 => ("FirstdanceAgency", "offOn", "[I", true)
  | 6 => ("FirstdanceAgency", "playerCount", "I", false)
  | 7 => ("FirstdanceAgency", "bandCount", "I", false)
  | 8 => ("FirstdanceAgency", "weddingCount", "I", false)
  | 9 => ("FirstdanceAgency", "today", "I", false)
  | 10 => ("FirstdanceAgency", "cash", "I", false)
  | 11 => ("FirstdanceAgency", "stage", "[I", true)
  | 12 => ("FirstdanceAgency", "seated", "[Z", true)
  | 13 => ("FirstdanceAgency", "found", "LFirstdanceAgency$Fillings;", true)
  | _ => ("FirstdanceAgency", "bestSet", "LFirstdanceAgency$BestSet;", true)
def tyX7 : Nat → FieldType := fun k => match k with
  | 0 => .array (.object "FirstdanceAgency$Player")
  | 1 => .array (.object "FirstdanceAgency$Song")
  | 2 => .array (.object "FirstdanceAgency$Band")
  | 3 => .array (.object "FirstdanceAgency$Wedding")
  | 4 => .object "FirstdanceAgency$Roads"
  | 5 => .array .int
  | 6 => .int
  | 7 => .int
  | 8 => .int
  | 9 => .int
  | 10 => .int
  | 11 => .array .int
  | 12 => .array .boolean
  | 13 => .object "FirstdanceAgency$Fillings"
  | _ => .object "FirstdanceAgency$BestSet"
abbrev wsX70 : List Cond := u_ws RX7 TX7 15
theorem nmX7 : ∀ a, a < 15 → ∀ b, b < 15 → a ≠ b → (TX7 a).2.1 ≠ (TX7 b).2.1 := by decide +kernel
theorem tyX7_ok : ∀ k, k < 15 → parseFieldDescriptor (TX7 k).2.2.1 = some (tyX7 k) := by decide +kernel
abbrev cX7_init : ByteArray := prog_1_method_1_code
def yX7_init : MethodName := ⟨RX7, "<init>", "()V"⟩
abbrev cX7_player : ByteArray := prog_1_method_2_code
def yX7_player : MethodName := ⟨RX7, "player", "(IIII)I"⟩
abbrev cX7_learn : ByteArray := prog_1_method_3_code
def yX7_learn : MethodName := ⟨RX7, "learn", "(II)I"⟩
abbrev cX7_song : ByteArray := prog_1_method_4_code
def yX7_song : MethodName := ⟨RX7, "song", "(IIII)I"⟩
abbrev cX7_feud : ByteArray := prog_1_method_5_code
def yX7_feud : MethodName := ⟨RX7, "feud", "(IIZ)Z"⟩
abbrev cX7_road : ByteArray := prog_1_method_6_code
def yX7_road : MethodName := ⟨RX7, "road", "(III)I"⟩
abbrev cX7_band : ByteArray := prog_1_method_7_code
def yX7_band : MethodName := ⟨RX7, "band", "(I)I"⟩
abbrev cX7_ask : ByteArray := prog_1_method_8_code
def yX7_ask : MethodName := ⟨RX7, "ask", "(IIIIII)I"⟩
abbrev cX7_fix : ByteArray := prog_1_method_9_code
def yX7_fix : MethodName := ⟨RX7, "fix", "(I)I"⟩
abbrev cX7_cancel : ByteArray := prog_1_method_10_code
def yX7_cancel : MethodName := ⟨RX7, "cancel", "(I)I"⟩
abbrev cX7_ill : ByteArray := prog_1_method_11_code
def yX7_ill : MethodName := ⟨RX7, "ill", "(II)I"⟩
abbrev cX7_late : ByteArray := prog_1_method_12_code
def yX7_late : MethodName := ⟨RX7, "late", "(II)I"⟩
abbrev cX7_pass : ByteArray := prog_1_method_13_code
def yX7_pass : MethodName := ⟨RX7, "pass", "(I)I"⟩
abbrev cX7_ofPlayer : ByteArray := prog_1_method_14_code
def yX7_ofPlayer : MethodName := ⟨RX7, "ofPlayer", "(II)I"⟩
abbrev cX7_ofSong : ByteArray := prog_1_method_15_code
def yX7_ofSong : MethodName := ⟨RX7, "ofSong", "(II)I"⟩
abbrev cX7_ofBand : ByteArray := prog_1_method_16_code
def yX7_ofBand : MethodName := ⟨RX7, "ofBand", "(II)I"⟩
abbrev cX7_ofWedding : ByteArray := prog_1_method_17_code
def yX7_ofWedding : MethodName := ⟨RX7, "ofWedding", "(II)I"⟩
abbrev cX7_drive : ByteArray := prog_1_method_18_code
def yX7_drive : MethodName := ⟨RX7, "drive", "(II)I"⟩
abbrev cX7_set : ByteArray := prog_1_method_21_code
def yX7_set : MethodName := ⟨RX7, "set", "(IZ)I"⟩
abbrev cX7_desk : ByteArray := prog_1_method_23_code
def yX7_desk : MethodName := ⟨RX7, "desk", "(I)I"⟩
abbrev cX7_isSound : ByteArray := prog_1_method_29_code
def yX7_isSound : MethodName := ⟨RX7, "isSound", "()Z"⟩
abbrev cX7_digest : ByteArray := prog_1_method_30_code
def yX7_digest : MethodName := ⟨RX7, "digest", "()J"⟩
abbrev cX7_digestWedding : ByteArray := prog_1_method_31_code
def yX7_digestWedding : MethodName := ⟨RX7, "digestWedding", "(JI)J"⟩
abbrev cX7_has : ByteArray := prog_1_method_32_code
def yX7_has : MethodName := ⟨RX7, "has", "(II)Z"⟩
abbrev cX7_isTown : ByteArray := prog_1_method_33_code
def yX7_isTown : MethodName := ⟨RX7, "isTown", "(I)Z"⟩
abbrev cX7_isSetOfSongs : ByteArray := prog_1_method_34_code
def yX7_isSetOfSongs : MethodName := ⟨RX7, "isSetOfSongs", "(I)Z"⟩
abbrev cX7_areHours : ByteArray := prog_1_method_35_code
def yX7_areHours : MethodName := ⟨RX7, "areHours", "(II)Z"⟩
abbrev cX7_checkTown : ByteArray := prog_1_method_36_code
def yX7_checkTown : MethodName := ⟨RX7, "checkTown", "(I)V"⟩
abbrev cX7_checkSong : ByteArray := prog_1_method_37_code
def yX7_checkSong : MethodName := ⟨RX7, "checkSong", "(I)V"⟩
abbrev cX7_checkPlayer : ByteArray := prog_1_method_38_code
def yX7_checkPlayer : MethodName := ⟨RX7, "checkPlayer", "(I)V"⟩
abbrev cX7_checkBand : ByteArray := prog_1_method_39_code
def yX7_checkBand : MethodName := ⟨RX7, "checkBand", "(I)V"⟩
abbrev cX7_checkWedding : ByteArray := prog_1_method_40_code
def yX7_checkWedding : MethodName := ⟨RX7, "checkWedding", "(I)V"⟩
abbrev cX7_checkDayToCome : ByteArray := prog_1_method_41_code
def yX7_checkDayToCome : MethodName := ⟨RX7, "checkDayToCome", "(I)V"⟩
abbrev cX7_sizeOf : ByteArray := prog_1_method_42_code
def yX7_sizeOf : MethodName := ⟨RX7, "sizeOf", "(I)I"⟩
abbrev cX7_isTaken : ByteArray := prog_1_method_43_code
def yX7_isTaken : MethodName := ⟨RX7, "isTaken", "(II)Z"⟩
abbrev cX7_areInOneQueue : ByteArray := prog_1_method_44_code
def yX7_areInOneQueue : MethodName := ⟨RX7, "areInOneQueue", "(II)Z"⟩
abbrev cX7_placeInQueue : ByteArray := prog_1_method_45_code
def yX7_placeInQueue : MethodName := ⟨RX7, "placeInQueue", "(I)I"⟩
abbrev cX7_isFirst : ByteArray := prog_1_method_46_code
def yX7_isFirst : MethodName := ⟨RX7, "isFirst", "(I)Z"⟩
abbrev cX7_loseQueueOf : ByteArray := prog_1_method_47_code
def yX7_loseQueueOf : MethodName := ⟨RX7, "loseQueueOf", "(I)V"⟩
abbrev cX7_endToday : ByteArray := prog_1_method_50_code
def yX7_endToday : MethodName := ⟨RX7, "endToday", "()V"⟩
abbrev cX7_loseThoseWhoWaited : ByteArray := prog_1_method_51_code
def yX7_loseThoseWhoWaited : MethodName := ⟨RX7, "loseThoseWhoWaited", "()V"⟩
abbrev cX7_playOut : ByteArray := prog_1_method_52_code
def yX7_playOut : MethodName := ⟨RX7, "playOut", "(LFirstdanceAgency$Wedding;)V"⟩
abbrev cX7_priceOf : ByteArray := prog_1_method_53_code
def yX7_priceOf : MethodName := ⟨RX7, "priceOf", "(I)I"⟩
abbrev cX7_getPaid : ByteArray := prog_1_method_54_code
def yX7_getPaid : MethodName := ⟨RX7, "getPaid", "(LFirstdanceAgency$Wedding;I)V"⟩
abbrev cX7_owedFor : ByteArray := prog_1_method_55_code
def yX7_owedFor : MethodName := ⟨RX7, "owedFor", "(LFirstdanceAgency$Wedding;)I"⟩
abbrev cX7_extraOf : ByteArray := prog_1_method_56_code
def yX7_extraOf : MethodName := ⟨RX7, "extraOf", "(LFirstdanceAgency$Wedding;)I"⟩
abbrev cX7_costAt : ByteArray := prog_1_method_57_code
def yX7_costAt : MethodName := ⟨RX7, "costAt", "(LFirstdanceAgency$Player;LFirstdanceAgency$Wedding;)I"⟩
abbrev cX7_wageAt : ByteArray := prog_1_method_58_code
def yX7_wageAt : MethodName := ⟨RX7, "wageAt", "(LFirstdanceAgency$Player;LFirstdanceAgency$Wedding;)I"⟩
abbrev cX7_stageAsFixed : ByteArray := prog_1_method_60_code
def yX7_stageAsFixed : MethodName := ⟨RX7, "stageAsFixed", "()V"⟩
abbrev cX7_stageWithout : ByteArray := prog_1_method_61_code
def yX7_stageWithout : MethodName := ⟨RX7, "stageWithout", "(II)I"⟩
abbrev cX7_putOnStage : ByteArray := prog_1_method_63_code
def yX7_putOnStage : MethodName := ⟨RX7, "putOnStage", "(LFirstdanceAgency$Wedding;I)V"⟩
abbrev cX7_freeFor : ByteArray := prog_1_method_64_code
def yX7_freeFor : MethodName := ⟨RX7, "freeFor", "(I)I"⟩
abbrev cX7_isFreeFor : ByteArray := prog_1_method_65_code
def yX7_isFreeFor : MethodName := ⟨RX7, "isFreeFor", "(II)Z"⟩
abbrev cX7_leaveTime : ByteArray := prog_1_method_66_code
def yX7_leaveTime : MethodName := ⟨RX7, "leaveTime", "(II)Z"⟩
abbrev cX7_surveyNow : ByteArray := prog_1_method_67_code
def yX7_surveyNow : MethodName := ⟨RX7, "surveyNow", "(I)V"⟩
abbrev cX7_survey : ByteArray := prog_1_method_68_code
def yX7_survey : MethodName := ⟨RX7, "survey", "(III)V"⟩
abbrev cX7_seatAll : ByteArray := prog_1_method_69_code
def yX7_seatAll : MethodName := ⟨RX7, "seatAll", "(LFirstdanceAgency$Band;)V"⟩
abbrev cX7_canBeSeated : ByteArray := prog_1_method_70_code
def yX7_canBeSeated : MethodName := ⟨RX7, "canBeSeated", "(ILFirstdanceAgency$Band;)Z"⟩
abbrev cX7_hasFeud : ByteArray := prog_1_method_71_code
def yX7_hasFeud : MethodName := ⟨RX7, "hasFeud", "(I)Z"⟩
abbrev cX7_costOfAll : ByteArray := prog_1_method_72_code
def yX7_costOfAll : MethodName := ⟨RX7, "costOfAll", "(ILFirstdanceAgency$Wedding;)I"⟩
abbrev cX7_playableFor : ByteArray := prog_1_method_73_code
def yX7_playableFor : MethodName := ⟨RX7, "playableFor", "(I)I"⟩
abbrev cX7_countFixedWith : ByteArray := prog_1_method_74_code
def yX7_countFixedWith : MethodName := ⟨RX7, "countFixedWith", "(I)I"⟩
abbrev cX7_countKnowing : ByteArray := prog_1_method_75_code
def yX7_countKnowing : MethodName := ⟨RX7, "countKnowing", "(I)I"⟩
abbrev cX7_countOfBand : ByteArray := prog_1_method_76_code
def yX7_countOfBand : MethodName := ⟨RX7, "countOfBand", "(IZ)I"⟩
abbrev cX7_countInState : ByteArray := prog_1_method_77_code
def yX7_countInState : MethodName := ⟨RX7, "countInState", "(I)I"⟩
abbrev cX7_countFeuds : ByteArray := prog_1_method_78_code
def yX7_countFeuds : MethodName := ⟨RX7, "countFeuds", "()I"⟩
abbrev cX7_countDaysOff : ByteArray := prog_1_method_79_code
def yX7_countDaysOff : MethodName := ⟨RX7, "countDaysOff", "()I"⟩
abbrev cX7_allEarned : ByteArray := prog_1_method_80_code
def yX7_allEarned : MethodName := ⟨RX7, "allEarned", "()I"⟩
abbrev cX7_gapOfHours : ByteArray := prog_1_method_81_code
def yX7_gapOfHours : MethodName := ⟨RX7, "gapOfHours", "()I"⟩
abbrev cX7_shareOf : ByteArray := prog_1_method_82_code
def yX7_shareOf : MethodName := ⟨RX7, "shareOf", "(LFirstdanceAgency$Song;)I"⟩
abbrev cX7_areFixedOnesSound : ByteArray := prog_1_method_85_code
def yX7_areFixedOnesSound : MethodName := ⟨RX7, "areFixedOnesSound", "()Z"⟩
abbrev cX7_isFixedOneSound : ByteArray := prog_1_method_86_code
def yX7_isFixedOneSound : MethodName := ⟨RX7, "isFixedOneSound", "(I)Z"⟩
abbrev cX7_isCashSound : ByteArray := prog_1_method_87_code
def yX7_isCashSound : MethodName := ⟨RX7, "isCashSound", "()Z"⟩
abbrev cX7_areHoursSound : ByteArray := prog_1_method_88_code
def yX7_areHoursSound : MethodName := ⟨RX7, "areHoursSound", "()Z"⟩
abbrev cX7_areSharesSound : ByteArray := prog_1_method_89_code
def yX7_areSharesSound : MethodName := ⟨RX7, "areSharesSound", "()Z"⟩
def RX8 : String := "FirstdanceAgencyModel$Player"
def TX8 : u_T := fun k => match k with
  | _ => ("", "", "", false)
def tyX8 : Nat → FieldType := fun k => match k with
  | _ => .int
abbrev wsX80 : List Cond := u_ws RX8 TX8 0
theorem nmX8 : ∀ a, a < 0 → ∀ b, b < 0 → a ≠ b → (TX8 a).2.1 ≠ (TX8 b).2.1 := by decide +kernel
theorem tyX8_ok : ∀ k, k < 0 → parseFieldDescriptor (TX8 k).2.2.1 = some (tyX8 k) := by decide +kernel
def RX9 : String := "FirstdanceAgencyModel$Wedding"
def TX9 : u_T := fun k => match k with
  | _ => ("", "", "", false)
def tyX9 : Nat → FieldType := fun k => match k with
  | _ => .int
abbrev wsX90 : List Cond := u_ws RX9 TX9 0
theorem nmX9 : ∀ a, a < 0 → ∀ b, b < 0 → a ≠ b → (TX9 a).2.1 ≠ (TX9 b).2.1 := by decide +kernel
theorem tyX9_ok : ∀ k, k < 0 → parseFieldDescriptor (TX9 k).2.2.1 = some (tyX9 k) := by decide +kernel
def RX10 : String := "FirstdanceAgencyModel"
def TX10 : u_T := fun k => match k with
  | _ => ("", "", "", false)
def tyX10 : Nat → FieldType := fun k => match k with
  | _ => .int
abbrev wsX100 : List Cond := u_ws RX10 TX10 0
theorem nmX10 : ∀ a, a < 0 → ∀ b, b < 0 → a ≠ b → (TX10 a).2.1 ≠ (TX10 b).2.1 := by decide +kernel
theorem tyX10_ok : ∀ k, k < 0 → parseFieldDescriptor (TX10 k).2.2.1 = some (tyX10 k) := by decide +kernel
def RJx145de : String := "java/io/Serializable"
def TJx145de : u_T := fun k => match k with
  | _ => ("", "", "", false)
def tyJx145de : Nat → FieldType := fun k => match k with
  | _ => .int
abbrev wsJx145de0 : List Cond := u_ws RJx145de TJx145de 0
theorem nmJx145de : ∀ a, a < 0 → ∀ b, b < 0 → a ≠ b → (TJx145de a).2.1 ≠ (TJx145de b).2.1 := by decide +kernel
theorem tyJx145de_ok : ∀ k, k < 0 → parseFieldDescriptor (TJx145de k).2.2.1 = some (tyJx145de k) := by decide +kernel
def RJ6 : String := "java/lang/Integer"
def TJ6 : u_T := fun k => match k with
  | _ => ("", "", "", false)
def tyJ6 : Nat → FieldType := fun k => match k with
  | _ => .int
abbrev wsJ60 : List Cond := u_ws RJ6 TJ6 0
theorem nmJ6 : ∀ a, a < 0 → ∀ b, b < 0 → a ≠ b → (TJ6 a).2.1 ≠ (TJ6 b).2.1 := by decide +kernel
theorem tyJ6_ok : ∀ k, k < 0 → parseFieldDescriptor (TJ6 k).2.2.1 = some (tyJ6 k) := by decide +kernel
abbrev cJ6_bitCount_0f7a4 : ByteArray := prog_17_method_49_code
def yJ6_bitCount_0f7a4 : MethodName := ⟨RJ6, "bitCount", "(I)I"⟩
def RJ9 : String := "java/lang/Math"
def TJ9 : u_T := fun k => match k with
  | _ => ("", "", "", false)
def tyJ9 : Nat → FieldType := fun k => match k with
  | _ => .int
abbrev wsJ90 : List Cond := u_ws RJ9 TJ9 0
theorem nmJ9 : ∀ a, a < 0 → ∀ b, b < 0 → a ≠ b → (TJ9 a).2.1 ≠ (TJ9 b).2.1 := by decide +kernel
theorem tyJ9_ok : ∀ k, k < 0 → parseFieldDescriptor (TJ9 k).2.2.1 = some (tyJ9 k) := by decide +kernel
abbrev cJ9_abs_0f7a4 : ByteArray := prog_18_method_59_code
def yJ9_abs_0f7a4 : MethodName := ⟨RJ9, "abs", "(I)I"⟩
abbrev cJ9_max_7cf53 : ByteArray := prog_18_method_65_code
def yJ9_max_7cf53 : MethodName := ⟨RJ9, "max", "(II)I"⟩
abbrev cJ9_min_7cf53 : ByteArray := prog_18_method_69_code
def yJ9_min_7cf53 : MethodName := ⟨RJ9, "min", "(II)I"⟩
def RJ0 : String := "java/lang/String"
def TJ0 : u_T := fun k => match k with
  | _ => ("", "", "", false)
def tyJ0 : Nat → FieldType := fun k => match k with
  | _ => .int
abbrev wsJ00 : List Cond := u_ws RJ0 TJ0 0
theorem nmJ0 : ∀ a, a < 0 → ∀ b, b < 0 → a ≠ b → (TJ0 a).2.1 ≠ (TJ0 b).2.1 := by decide +kernel
theorem tyJ0_ok : ∀ k, k < 0 → parseFieldDescriptor (TJ0 k).2.2.1 = some (tyJ0 k) := by decide +kernel
def RL : String := "FirstdanceAgencyLaw"
abbrev cL_below : ByteArray := method_2_code
def yL_below : MethodName := ⟨RL, "below", "(II)I"⟩
abbrev cL_cell : ByteArray := method_3_code
def yL_cell : MethodName := ⟨RL, "cell", "([II)I"⟩
abbrev cL_agency : ByteArray := method_4_code
def yL_agency : MethodName := ⟨RL, "agency", "([I)LFirstdanceAgency;"⟩
abbrev cL_asked : ByteArray := method_5_code
def yL_asked : MethodName := ⟨RL, "asked", "(LFirstdanceAgency;I)V"⟩
abbrev cL_isDone : ByteArray := method_6_code
def yL_isDone : MethodName := ⟨RL, "isDone", "(LFirstdanceAgency;I)Z"⟩
abbrev cL_law : ByteArray := code
def yL_law : MethodName := ⟨RL, "law", "([I)Z"⟩
abbrev cL_isSo : ByteArray := method_8_code
def yL_isSo : MethodName := ⟨RL, "isSo", "(LFirstdanceAgency;)Z"⟩
abbrev cL_instruments : ByteArray := method_9_code
def yL_instruments : MethodName := ⟨RL, "instruments", "(LFirstdanceAgency;I)I"⟩
