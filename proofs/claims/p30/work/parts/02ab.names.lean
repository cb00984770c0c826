/-! ===== BEGIN printed: names, fields, word lists, decode rows ===== -/
def RX0 : String := "FirstdanceAgency$Band"
def TX0 : u_T := fun k => match k with
  | 0 => ("FirstdanceAgency$Band", "needs", "[I", true)
  | 1 => ("FirstdanceAgency$Band", "places", "[I", true)
  | _ => ("FirstdanceAgency$Band", "size", "I", false)
def tyX0 : Nat → FieldType := fun k => match k with
  | 0 => .array .int
  | 1 => .array .int
  | _ => .int
abbrev wsX00 : List Cond := u_ws RX0 TX0 3
theorem nmX0 : ∀ a, a < 3 → ∀ b, b < 3 → a ≠ b → (TX0 a).2.1 ≠ (TX0 b).2.1 := by decide +kernel
theorem tyX0_ok : ∀ k, k < 3 → parseFieldDescriptor (TX0 k).2.2.1 = some (tyX0 k) := by decide +kernel
abbrev cX0_init : ByteArray := prog_2_method_1_code
def yX0_init : MethodName := ⟨RX0, "<init>", "()V"⟩
abbrev cX0_take : ByteArray := prog_2_method_2_code
def yX0_take : MethodName := ⟨RX0, "take", "(I)V"⟩
def RX1 : String := "FirstdanceAgency$BestSet"
def TX1 : u_T := fun k => match k with
  | 0 => ("FirstdanceAgency$BestSet", "row", "[I", true)
  | 1 => ("FirstdanceAgency$BestSet", "length", "I", false)
  | 2 => ("FirstdanceAgency$BestSet", "minutes", "I", false)
  | 3 => ("FirstdanceAgency$BestSet", "order", "[I", true)
  | 4 => ("FirstdanceAgency$BestSet", "longest", "[I", true)
  | 5 => ("FirstdanceAgency$BestSet", "next", "[I", true)
  | _ => ("FirstdanceAgency$BestSet", "orderLength", "I", false)
def tyX1 : Nat → FieldType := fun k => match k with
  | 0 => .array .int
  | 1 => .int
  | 2 => .int
  | 3 => .array .int
  | 4 => .array .int
  | 5 => .array .int
  | _ => .int
abbrev wsX10 : List Cond := u_ws RX1 TX1 7
theorem nmX1 : ∀ a, a < 7 → ∀ b, b < 7 → a ≠ b → (TX1 a).2.1 ≠ (TX1 b).2.1 := by decide +kernel
theorem tyX1_ok : ∀ k, k < 7 → parseFieldDescriptor (TX1 k).2.2.1 = some (tyX1 k) := by decide +kernel
abbrev cX1_init : ByteArray := prog_3_method_1_code
def yX1_init : MethodName := ⟨RX1, "<init>", "()V"⟩
abbrev cX1_choose : ByteArray := prog_3_method_2_code
def yX1_choose : MethodName := ⟨RX1, "choose", "([LFirstdanceAgency$Song;I)V"⟩
abbrev cX1_sort : ByteArray := prog_3_method_3_code
def yX1_sort : MethodName := ⟨RX1, "sort", "([LFirstdanceAgency$Song;I)V"⟩
abbrev cX1_betterStart : ByteArray := prog_3_method_4_code
def yX1_betterStart : MethodName := ⟨RX1, "betterStart", "(II)I"⟩
abbrev cX1_follow : ByteArray := prog_3_method_5_code
def yX1_follow : MethodName := ⟨RX1, "follow", "(I)V"⟩
def RX2 : String := "FirstdanceAgency$Fillings"
def TX2 : u_T := fun k => match k with
  | 0 => ("FirstdanceAgency$Fillings", "best", "I", false)
  | 1 => ("FirstdanceAgency$Fillings", "cost", "I", false)
  | 2 => ("FirstdanceAgency$Fillings", "kept", "I", false)
  | 3 => ("FirstdanceAgency$Fillings", "count", "I", false)
  | 4 => ("FirstdanceAgency$Fillings", "inAll", "I", false)
  | _ => ("FirstdanceAgency$Fillings", "why", "I", false)
def tyX2 : Nat → FieldType := fun k => match k with
  | 0 => .int
  | 1 => .int
  | 2 => .int
  | 3 => .int
  | 4 => .int
  | _ => .int
abbrev wsX20 : List Cond := u_ws RX2 TX2 6
theorem nmX2 : ∀ a, a < 6 → ∀ b, b < 6 → a ≠ b → (TX2 a).2.1 ≠ (TX2 b).2.1 := by decide +kernel
theorem tyX2_ok : ∀ k, k < 6 → parseFieldDescriptor (TX2 k).2.2.1 = some (tyX2 k) := by decide +kernel
abbrev cX2_init : ByteArray := prog_4_method_1_code
def yX2_init : MethodName := ⟨RX2, "<init>", "()V"⟩
abbrev cX2_clear : ByteArray := prog_4_method_2_code
def yX2_clear : MethodName := ⟨RX2, "clear", "()V"⟩
abbrev cX2_add : ByteArray := prog_4_method_3_code
def yX2_add : MethodName := ⟨RX2, "add", "(III)V"⟩
def RX3 : String := "FirstdanceAgency$Player"
def TX3 : u_T := fun k => match k with
  | 0 => ("FirstdanceAgency$Player", "instruments", "I", false)
  | 1 => ("FirstdanceAgency$Player", "known", "I", false)
  | 2 => ("FirstdanceAgency$Player", "home", "I", false)
  | 3 => ("FirstdanceAgency$Player", "fee", "I", false)
  | 4 => ("FirstdanceAgency$Player", "feuds", "I", false)
  | 5 => ("FirstdanceAgency$Player", "earned", "I", false)
  | 6 => ("FirstdanceAgency$Player", "played", "I", false)
  | _ => ("FirstdanceAgency$Player", "hours", "I", false)
def tyX3 : Nat → FieldType := fun k => match k with
  | 0 => .int
  | 1 => .int
  | 2 => .int
  | 3 => .int
  | 4 => .int
  | 5 => .int
  | 6 => .int
  | _ => .int
abbrev wsX30 : List Cond := u_ws RX3 TX3 8
theorem nmX3 : ∀ a, a < 8 → ∀ b, b < 8 → a ≠ b → (TX3 a).2.1 ≠ (TX3 b).2.1 := by decide +kernel
theorem tyX3_ok : ∀ k, k < 8 → parseFieldDescriptor (TX3 k).2.2.1 = some (tyX3 k) := by decide +kernel
abbrev cX3_init : ByteArray := prog_5_method_1_code
def yX3_init : MethodName := ⟨RX3, "<init>", "()V"⟩
def RX4 : String := "FirstdanceAgency$Roads"
def TX4 : u_T := fun k => match k with
  | 0 => ("FirstdanceAgency$Roads", "hours", "[[I", true)
  | _ => ("FirstdanceAgency$Roads", "ways", "[[I", true)
def tyX4 : Nat → FieldType := fun k => match k with
  | 0 => .array (.array .int)
  | _ => .array (.array .int)
abbrev wsX40 : List Cond := u_ws RX4 TX4 2
theorem nmX4 : ∀ a, a < 2 → ∀ b, b < 2 → a ≠ b → (TX4 a).2.1 ≠ (TX4 b).2.1 := by decide +kernel
theorem tyX4_ok : ∀ k, k < 2 → parseFieldDescriptor (TX4 k).2.2.1 = some (tyX4 k) := by decide +kernel
abbrev cX4_init : ByteArray := prog_6_method_1_code
def yX4_init : MethodName := ⟨RX4, "<init>", "()V"⟩
abbrev cX4_between : ByteArray := prog_6_method_2_code
def yX4_between : MethodName := ⟨RX4, "between", "(II)I"⟩
abbrev cX4_lay : ByteArray := prog_6_method_3_code
def yX4_lay : MethodName := ⟨RX4, "lay", "(III)V"⟩
abbrev cX4_shortenOver : ByteArray := prog_6_method_4_code
def yX4_shortenOver : MethodName := ⟨RX4, "shortenOver", "(I)V"⟩
def RX5 : String := "FirstdanceAgency$Song"
def TX5 : u_T := fun k => match k with
  | 0 => ("FirstdanceAgency$Song", "key", "I", false)
  | 1 => ("FirstdanceAgency$Song", "energy", "I", false)
  | 2 => ("FirstdanceAgency$Song", "minutes", "I", false)
  | _ => ("FirstdanceAgency$Song", "played", "I", false)
def tyX5 : Nat → FieldType := fun k => match k with
  | 0 => .int
  | 1 => .int
  | 2 => .int
  | _ => .int
abbrev wsX50 : List Cond := u_ws RX5 TX5 4
theorem nmX5 : ∀ a, a < 4 → ∀ b, b < 4 → a ≠ b → (TX5 a).2.1 ≠ (TX5 b).2.1 := by decide +kernel
theorem tyX5_ok : ∀ k, k < 4 → parseFieldDescriptor (TX5 k).2.2.1 = some (tyX5 k) := by decide +kernel
abbrev cX5_init : ByteArray := prog_7_method_1_code
def yX5_init : MethodName := ⟨RX5, "<init>", "(I)V"⟩
abbrev cX5_fitsBeside : ByteArray := prog_7_method_2_code
def yX5_fitsBeside : MethodName := ⟨RX5, "fitsBeside", "(LFirstdanceAgency$Song;)Z"⟩
def RX6 : String := "FirstdanceAgency$Wedding"
def TX6 : u_T := fun k => match k with
  | 0 => ("FirstdanceAgency$Wedding", "band", "I", false)
  | 1 => ("FirstdanceAgency$Wedding", "day", "I", false)
  | 2 => ("FirstdanceAgency$Wedding", "town", "I", false)
  | 3 => ("FirstdanceAgency$Wedding", "start", "I", false)
  | 4 => ("FirstdanceAgency$Wedding", "length", "I", false)
  | 5 => ("FirstdanceAgency$Wedding", "promised", "I", false)
  | 6 => ("FirstdanceAgency$Wedding", "told", "I", false)
  | 7 => ("FirstdanceAgency$Wedding", "state", "I", false)
  | 8 => ("FirstdanceAgency$Wedding", "players", "I", false)
  | 9 => ("FirstdanceAgency$Wedding", "price", "I", false)
  | 10 => ("FirstdanceAgency$Wedding", "late", "I", false)
  | _ => ("FirstdanceAgency$Wedding", "paid", "I", false)
def tyX6 : Nat → FieldType := fun k => match k with
  | 0 => .int
  | 1 => .int
  | 2 => .int
  | 3 => .int
  | 4 => .int
  | 5 => .int
  | 6 => .int
  | 7 => .int
  | 8 => .int
  | 9 => .int
  | 10 => .int
  | _ => .int
abbrev wsX60 : List Cond := u_ws RX6 TX6 12
theorem nmX6 : ∀ a, a < 12 → ∀ b, b < 12 → a ≠ b → (TX6 a).2.1 ≠ (TX6 b).2.1 := by decide +kernel
theorem tyX6_ok : ∀ k, k < 12 → parseFieldDescriptor (TX6 k).2.2.1 = some (tyX6 k) := by decide +kernel
abbrev cX6_init : ByteArray := prog_8_method_1_code
def yX6_init : MethodName := ⟨RX6, "<init>", "()V"⟩
abbrev cX6_isFixedWith : ByteArray := prog_8_method_2_code
def yX6_isFixedWith : MethodName := ⟨RX6, "isFixedWith", "(I)Z"⟩
abbrev cX6_quarters : ByteArray := prog_8_method_3_code
def yX6_quarters : MethodName := ⟨RX6, "quarters", "()I"⟩
def RX7 : String := "FirstdanceAgency"
def TX7 : u_T := fun k => match k with
  | 0 => ("FirstdanceAgency", "players", "[LFirstdanceAgency$Player;", true)
  | 1 => ("FirstdanceAgency", "allSongs", "[LFirstdanceAgency$Song;", true)
  | 2 => ("FirstdanceAgency", "bands", "[LFirstdanceAgency$Band;", true)
  | 3 => ("FirstdanceAgency", "weddings", "[LFirstdanceAgency$Wedding;", true)
  | 4 => ("FirstdanceAgency", "roads", "LFirstdanceAgency$Roads;", true)
  | 5 => ("FirstdanceAgency", "offOn", "[I", true)
  | 6 => ("FirstdanceAgency", "playerCount", "I", false)
  | 7 => ("FirstdanceAgency", "bandCount", "I", false)
  | 8 => ("FirstdanceAgency", "weddingCount", "I", false)
  | 9 => ("FirstdanceAgency", "today", "I", false)
  | 10 => ("FirstdanceAgency", "cash", "I", false)
  | 11 => ("FirstdanceAgency", "stage", "[I", true)
  | 12 => ("FirstdanceAgency", "seated", "[Z", true)
  | 13 => ("FirstdanceAgency", "found", "LFirstdanceAgency$Fillings;", true)
  | _ => ("FirstdanceAgency", "bestSet", "LFirstdanceAgency$BestSet;", true)
def tyX7 : Nat → FieldType := fun k => match k with
  | 0 => .array (.object "FirstdanceAgency$Player")
  | 1 => .array (.object "FirstdanceAgency$Song")
  | 2 => .array (.object "FirstdanceAgency$Band")
  | 3 => .array (.object "FirstdanceAgency$Wedding")
  | 4 => .object "FirstdanceAgency$Roads"
  | 5 => .array .int
  | 6 => .int
  | 7 => .int
  | 8 => .int
  | 9 => .int
  | 10 => .int
  | 11 => .array .int
  | 12 => .array .boolean
  | 13 => .object "FirstdanceAgency$Fillings"
  | _ => .object "FirstdanceAgency$BestSet"
abbrev wsX70 : List Cond := u_ws RX7 TX7 15
theorem nmX7 : ∀ a, a < 15 → ∀ b, b < 15 → a ≠ b → (TX7 a).2.1 ≠ (TX7 b).2.1 := by decide +kernel
theorem tyX7_ok : ∀ k, k < 15 → parseFieldDescriptor (TX7 k).2.2.1 = some (tyX7 k) := by decide +kernel
abbrev cX7_init : ByteArray := prog_1_method_1_code
def yX7_init : MethodName := ⟨RX7, "<init>", "()V"⟩
abbrev cX7_player : ByteArray := prog_1_method_2_code
def yX7_player : MethodName := ⟨RX7, "player", "(IIII)I"⟩
abbrev cX7_learn : ByteArray := prog_1_method_3_code
def yX7_learn : MethodName := ⟨RX7, "learn", "(II)I"⟩
abbrev cX7_song : ByteArray := prog_1_method_4_code
def yX7_song : MethodName := ⟨RX7, "song", "(IIII)I"⟩
abbrev cX7_feud : ByteArray := prog_1_method_5_code
def yX7_feud : MethodName := ⟨RX7, "feud", "(IIZ)Z"⟩
abbrev cX7_road : ByteArray := prog_1_method_6_code
def yX7_road : MethodName := ⟨RX7, "road", "(III)I"⟩
abbrev cX7_band : ByteArray := prog_1_method_7_code
def yX7_band : MethodName := ⟨RX7, "band", "(I)I"⟩
abbrev cX7_ask : ByteArray := prog_1_method_8_code
def yX7_ask : MethodName := ⟨RX7, "ask", "(IIIIII)I"⟩
abbrev cX7_fix : ByteArray := prog_1_method_9_code
def yX7_fix : MethodName := ⟨RX7, "fix", "(I)I"⟩
abbrev cX7_cancel : ByteArray := prog_1_method_10_code
def yX7_cancel : MethodName := ⟨RX7, "cancel", "(I)I"⟩
abbrev cX7_ill : ByteArray := prog_1_method_11_code
def yX7_ill : MethodName := ⟨RX7, "ill", "(II)I"⟩
abbrev cX7_late : ByteArray := prog_1_method_12_code
def yX7_late : MethodName := ⟨RX7, "late", "(II)I"⟩
abbrev cX7_pass : ByteArray := prog_1_method_13_code
def yX7_pass : MethodName := ⟨RX7, "pass", "(I)I"⟩
abbrev cX7_ofPlayer : ByteArray := prog_1_method_14_code
def yX7_ofPlayer : MethodName := ⟨RX7, "ofPlayer", "(II)I"⟩
abbrev cX7_ofSong : ByteArray := prog_1_method_15_code
def yX7_ofSong : MethodName := ⟨RX7, "ofSong", "(II)I"⟩
abbrev cX7_ofBand : ByteArray := prog_1_method_16_code
def yX7_ofBand : MethodName := ⟨RX7, "ofBand", "(II)I"⟩
abbrev cX7_ofWedding : ByteArray := prog_1_method_17_code
def yX7_ofWedding : MethodName := ⟨RX7, "ofWedding", "(II)I"⟩
abbrev cX7_drive : ByteArray := prog_1_method_18_code
def yX7_drive : MethodName := ⟨RX7, "drive", "(II)I"⟩
abbrev cX7_free : ByteArray := prog_1_method_19_code
def yX7_free : MethodName := ⟨RX7, "free", "(II)Z"⟩
abbrev cX7_filling : ByteArray := prog_1_method_20_code
def yX7_filling : MethodName := ⟨RX7, "filling", "(II)I"⟩
abbrev cX7_set : ByteArray := prog_1_method_21_code
def yX7_set : MethodName := ⟨RX7, "set", "(IZ)I"⟩
abbrev cX7_songs : ByteArray := prog_1_method_22_code
def yX7_songs : MethodName := ⟨RX7, "songs", "(I)Ljava/lang/String;"⟩
abbrev cX7_desk : ByteArray := prog_1_method_23_code
def yX7_desk : MethodName := ⟨RX7, "desk", "(I)I"⟩
abbrev cX7_tell : ByteArray := prog_1_method_24_code
def yX7_tell : MethodName := ⟨RX7, "tell", "(I)Ljava/lang/String;"⟩
abbrev cX7_wouldLose : ByteArray := prog_1_method_25_code
def yX7_wouldLose : MethodName := ⟨RX7, "wouldLose", "(II)I"⟩
abbrev cX7_plan : ByteArray := prog_1_method_26_code
def yX7_plan : MethodName := ⟨RX7, "plan", "(IZ)I"⟩
abbrev cX7_wouldCancel : ByteArray := prog_1_method_27_code
def yX7_wouldCancel : MethodName := ⟨RX7, "wouldCancel", "(I)I"⟩
abbrev cX7_key : ByteArray := prog_1_method_28_code
def yX7_key : MethodName := ⟨RX7, "key", "(I)I"⟩
abbrev cX7_isSound : ByteArray := prog_1_method_29_code
def yX7_isSound : MethodName := ⟨RX7, "isSound", "()Z"⟩
abbrev cX7_digest : ByteArray := prog_1_method_30_code
def yX7_digest : MethodName := ⟨RX7, "digest", "()J"⟩
abbrev cX7_digestWedding : ByteArray := prog_1_method_31_code
def yX7_digestWedding : MethodName := ⟨RX7, "digestWedding", "(JI)J"⟩
abbrev cX7_has : ByteArray := prog_1_method_32_code
def yX7_has : MethodName := ⟨RX7, "has", "(II)Z"⟩
abbrev cX7_isTown : ByteArray := prog_1_method_33_code
def yX7_isTown : MethodName := ⟨RX7, "isTown", "(I)Z"⟩
abbrev cX7_isSetOfSongs : ByteArray := prog_1_method_34_code
def yX7_isSetOfSongs : MethodName := ⟨RX7, "isSetOfSongs", "(I)Z"⟩
abbrev cX7_areHours : ByteArray := prog_1_method_35_code
def yX7_areHours : MethodName := ⟨RX7, "areHours", "(II)Z"⟩
abbrev cX7_checkTown : ByteArray := prog_1_method_36_code
def yX7_checkTown : MethodName := ⟨RX7, "checkTown", "(I)V"⟩
abbrev cX7_checkSong : ByteArray := prog_1_method_37_code
def yX7_checkSong : MethodName := ⟨RX7, "checkSong", "(I)V"⟩
abbrev cX7_checkPlayer : ByteArray := prog_1_method_38_code
def yX7_checkPlayer : MethodName := ⟨RX7, "checkPlayer", "(I)V"⟩
abbrev cX7_checkBand : ByteArray := prog_1_method_39_code
def yX7_checkBand : MethodName := ⟨RX7, "checkBand", "(I)V"⟩
abbrev cX7_checkWedding : ByteArray := prog_1_method_40_code
def yX7_checkWedding : MethodName := ⟨RX7, "checkWedding", "(I)V"⟩
abbrev cX7_checkDayToCome : ByteArray := prog_1_method_41_code
def yX7_checkDayToCome : MethodName := ⟨RX7, "checkDayToCome", "(I)V"⟩
abbrev cX7_sizeOf : ByteArray := prog_1_method_42_code
def yX7_sizeOf : MethodName := ⟨RX7, "sizeOf", "(I)I"⟩
abbrev cX7_isTaken : ByteArray := prog_1_method_43_code
def yX7_isTaken : MethodName := ⟨RX7, "isTaken", "(II)Z"⟩
abbrev cX7_areInOneQueue : ByteArray := prog_1_method_44_code
def yX7_areInOneQueue : MethodName := ⟨RX7, "areInOneQueue", "(II)Z"⟩
abbrev cX7_placeInQueue : ByteArray := prog_1_method_45_code
def yX7_placeInQueue : MethodName := ⟨RX7, "placeInQueue", "(I)I"⟩
abbrev cX7_isFirst : ByteArray := prog_1_method_46_code
def yX7_isFirst : MethodName := ⟨RX7, "isFirst", "(I)Z"⟩
abbrev cX7_loseQueueOf : ByteArray := prog_1_method_47_code
def yX7_loseQueueOf : MethodName := ⟨RX7, "loseQueueOf", "(I)V"⟩
abbrev cX7_firstOnesOf : ByteArray := prog_1_method_48_code
def yX7_firstOnesOf : MethodName := ⟨RX7, "firstOnesOf", "(I)I"⟩
abbrev cX7_membersAt : ByteArray := prog_1_method_49_code
def yX7_membersAt : MethodName := ⟨RX7, "membersAt", "(II)I"⟩
abbrev cX7_endToday : ByteArray := prog_1_method_50_code
def yX7_endToday : MethodName := ⟨RX7, "endToday", "()V"⟩
abbrev cX7_loseThoseWhoWaited : ByteArray := prog_1_method_51_code
def yX7_loseThoseWhoWaited : MethodName := ⟨RX7, "loseThoseWhoWaited", "()V"⟩
abbrev cX7_playOut : ByteArray := prog_1_method_52_code
def yX7_playOut : MethodName := ⟨RX7, "playOut", "(LFirstdanceAgency$Wedding;)V"⟩
abbrev cX7_priceOf : ByteArray := prog_1_method_53_code
def yX7_priceOf : MethodName := ⟨RX7, "priceOf", "(I)I"⟩
abbrev cX7_getPaid : ByteArray := prog_1_method_54_code
def yX7_getPaid : MethodName := ⟨RX7, "getPaid", "(LFirstdanceAgency$Wedding;I)V"⟩
abbrev cX7_owedFor : ByteArray := prog_1_method_55_code
def yX7_owedFor : MethodName := ⟨RX7, "owedFor", "(LFirstdanceAgency$Wedding;)I"⟩
abbrev cX7_extraOf : ByteArray := prog_1_method_56_code
def yX7_extraOf : MethodName := ⟨RX7, "extraOf", "(LFirstdanceAgency$Wedding;)I"⟩
abbrev cX7_costAt : ByteArray := prog_1_method_57_code
def yX7_costAt : MethodName := ⟨RX7, "costAt", "(LFirstdanceAgency$Player;LFirstdanceAgency$Wedding;)I"⟩
abbrev cX7_wageAt : ByteArray := prog_1_method_58_code
def yX7_wageAt : MethodName := ⟨RX7, "wageAt", "(LFirstdanceAgency$Player;LFirstdanceAgency$Wedding;)I"⟩
abbrev cX7_allWagesAt : ByteArray := prog_1_method_59_code
def yX7_allWagesAt : MethodName := ⟨RX7, "allWagesAt", "(LFirstdanceAgency$Wedding;)I"⟩
abbrev cX7_stageAsFixed : ByteArray := prog_1_method_60_code
def yX7_stageAsFixed : MethodName := ⟨RX7, "stageAsFixed", "()V"⟩
abbrev cX7_stageWithout : ByteArray := prog_1_method_61_code
def yX7_stageWithout : MethodName := ⟨RX7, "stageWithout", "(II)I"⟩
abbrev cX7_stageAll : ByteArray := prog_1_method_62_code
def yX7_stageAll : MethodName := ⟨RX7, "stageAll", "(I)I"⟩
abbrev cX7_putOnStage : ByteArray := prog_1_method_63_code
def yX7_putOnStage : MethodName := ⟨RX7, "putOnStage", "(LFirstdanceAgency$Wedding;I)V"⟩
abbrev cX7_freeFor : ByteArray := prog_1_method_64_code
def yX7_freeFor : MethodName := ⟨RX7, "freeFor", "(I)I"⟩
abbrev cX7_isFreeFor : ByteArray := prog_1_method_65_code
def yX7_isFreeFor : MethodName := ⟨RX7, "isFreeFor", "(II)Z"⟩
abbrev cX7_leaveTime : ByteArray := prog_1_method_66_code
def yX7_leaveTime : MethodName := ⟨RX7, "leaveTime", "(II)Z"⟩
abbrev cX7_surveyNow : ByteArray := prog_1_method_67_code
def yX7_surveyNow : MethodName := ⟨RX7, "surveyNow", "(I)V"⟩
abbrev cX7_survey : ByteArray := prog_1_method_68_code
def yX7_survey : MethodName := ⟨RX7, "survey", "(III)V"⟩
abbrev cX7_seatAll : ByteArray := prog_1_method_69_code
def yX7_seatAll : MethodName := ⟨RX7, "seatAll", "(LFirstdanceAgency$Band;)V"⟩
abbrev cX7_canBeSeated : ByteArray := prog_1_method_70_code
def yX7_canBeSeated : MethodName := ⟨RX7, "canBeSeated", "(ILFirstdanceAgency$Band;)Z"⟩
abbrev cX7_hasFeud : ByteArray := prog_1_method_71_code
def yX7_hasFeud : MethodName := ⟨RX7, "hasFeud", "(I)Z"⟩
abbrev cX7_costOfAll : ByteArray := prog_1_method_72_code
def yX7_costOfAll : MethodName := ⟨RX7, "costOfAll", "(ILFirstdanceAgency$Wedding;)I"⟩
abbrev cX7_playableFor : ByteArray := prog_1_method_73_code
def yX7_playableFor : MethodName := ⟨RX7, "playableFor", "(I)I"⟩
abbrev cX7_countFixedWith : ByteArray := prog_1_method_74_code
def yX7_countFixedWith : MethodName := ⟨RX7, "countFixedWith", "(I)I"⟩
abbrev cX7_countKnowing : ByteArray := prog_1_method_75_code
def yX7_countKnowing : MethodName := ⟨RX7, "countKnowing", "(I)I"⟩
abbrev cX7_countOfBand : ByteArray := prog_1_method_76_code
def yX7_countOfBand : MethodName := ⟨RX7, "countOfBand", "(IZ)I"⟩
abbrev cX7_countInState : ByteArray := prog_1_method_77_code
def yX7_countInState : MethodName := ⟨RX7, "countInState", "(I)I"⟩
abbrev cX7_countFeuds : ByteArray := prog_1_method_78_code
def yX7_countFeuds : MethodName := ⟨RX7, "countFeuds", "()I"⟩
abbrev cX7_countDaysOff : ByteArray := prog_1_method_79_code
def yX7_countDaysOff : MethodName := ⟨RX7, "countDaysOff", "()I"⟩
abbrev cX7_allEarned : ByteArray := prog_1_method_80_code
def yX7_allEarned : MethodName := ⟨RX7, "allEarned", "()I"⟩
abbrev cX7_gapOfHours : ByteArray := prog_1_method_81_code
def yX7_gapOfHours : MethodName := ⟨RX7, "gapOfHours", "()I"⟩
abbrev cX7_shareOf : ByteArray := prog_1_method_82_code
def yX7_shareOf : MethodName := ⟨RX7, "shareOf", "(LFirstdanceAgency$Song;)I"⟩
abbrev cX7_nameOfState : ByteArray := prog_1_method_83_code
def yX7_nameOfState : MethodName := ⟨RX7, "nameOfState", "(I)Ljava/lang/String;"⟩
abbrev cX7_appendPlayers : ByteArray := prog_1_method_84_code
def yX7_appendPlayers : MethodName := ⟨RX7, "appendPlayers", "(Ljava/lang/StringBuilder;I)V"⟩
abbrev cX7_areFixedOnesSound : ByteArray := prog_1_method_85_code
def yX7_areFixedOnesSound : MethodName := ⟨RX7, "areFixedOnesSound", "()Z"⟩
abbrev cX7_isFixedOneSound : ByteArray := prog_1_method_86_code
def yX7_isFixedOneSound : MethodName := ⟨RX7, "isFixedOneSound", "(I)Z"⟩
abbrev cX7_isCashSound : ByteArray := prog_1_method_87_code
def yX7_isCashSound : MethodName := ⟨RX7, "isCashSound", "()Z"⟩
abbrev cX7_areHoursSound : ByteArray := prog_1_method_88_code
def yX7_areHoursSound : MethodName := ⟨RX7, "areHoursSound", "()Z"⟩
abbrev cX7_areSharesSound : ByteArray := prog_1_method_89_code
def yX7_areSharesSound : MethodName := ⟨RX7, "areSharesSound", "()Z"⟩
def RX8 : String := "FirstdanceAgencyLaw$Out"
def TX8 : u_T := fun k => match k with
  | 0 => ("FirstdanceAgencyLaw$Out", "n", "J", false)
  | _ => ("FirstdanceAgencyLaw$Out", "s", "Ljava/lang/String;", false)
def tyX8 : Nat → FieldType := fun k => match k with
  | 0 => .long
  | _ => .object "java/lang/String"
abbrev wsX80 : List Cond := u_ws RX8 TX8 2
theorem nmX8 : ∀ a, a < 2 → ∀ b, b < 2 → a ≠ b → (TX8 a).2.1 ≠ (TX8 b).2.1 := by decide +kernel
theorem tyX8_ok : ∀ k, k < 2 → parseFieldDescriptor (TX8 k).2.2.1 = some (tyX8 k) := by decide +kernel
abbrev cX8_init : ByteArray := prog_10_method_1_code
def yX8_init : MethodName := ⟨RX8, "<init>", "()V"⟩
def RX9 : String := "FirstdanceAgencyModel$Player"
def TX9 : u_T := fun k => match k with
  | 0 => ("FirstdanceAgencyModel$Player", "instruments", "I", false)
  | 1 => ("FirstdanceAgencyModel$Player", "songs", "I", false)
  | 2 => ("FirstdanceAgencyModel$Player", "home", "I", false)
  | 3 => ("FirstdanceAgencyModel$Player", "fee", "I", false)
  | 4 => ("FirstdanceAgencyModel$Player", "feuds", "I", false)
  | 5 => ("FirstdanceAgencyModel$Player", "earned", "I", false)
  | _ => ("FirstdanceAgencyModel$Player", "isOff", "[Z", true)
def tyX9 : Nat → FieldType := fun k => match k with
  | 0 => .int
  | 1 => .int
  | 2 => .int
  | 3 => .int
  | 4 => .int
  | 5 => .int
  | _ => .array .boolean
abbrev wsX90 : List Cond := u_ws RX9 TX9 7
theorem nmX9 : ∀ a, a < 7 → ∀ b, b < 7 → a ≠ b → (TX9 a).2.1 ≠ (TX9 b).2.1 := by decide +kernel
theorem tyX9_ok : ∀ k, k < 7 → parseFieldDescriptor (TX9 k).2.2.1 = some (tyX9 k) := by decide +kernel
abbrev cX9_init : ByteArray := prog_12_method_1_code
def yX9_init : MethodName := ⟨RX9, "<init>", "()V"⟩
def RX10 : String := "FirstdanceAgencyModel$Wedding"
def TX10 : u_T := fun k => match k with
  | 0 => ("FirstdanceAgencyModel$Wedding", "band", "I", false)
  | 1 => ("FirstdanceAgencyModel$Wedding", "day", "I", false)
  | 2 => ("FirstdanceAgencyModel$Wedding", "town", "I", false)
  | 3 => ("FirstdanceAgencyModel$Wedding", "start", "I", false)
  | 4 => ("FirstdanceAgencyModel$Wedding", "length", "I", false)
  | 5 => ("FirstdanceAgencyModel$Wedding", "songs", "I", false)
  | 6 => ("FirstdanceAgencyModel$Wedding", "told", "I", false)
  | 7 => ("FirstdanceAgencyModel$Wedding", "state", "I", false)
  | 8 => ("FirstdanceAgencyModel$Wedding", "set", "I", false)
  | 9 => ("FirstdanceAgencyModel$Wedding", "price", "I", false)
  | 10 => ("FirstdanceAgencyModel$Wedding", "late", "I", false)
  | _ => ("FirstdanceAgencyModel$Wedding", "paid", "I", false)
def tyX10 : Nat → FieldType := fun k => match k with
  | 0 => .int
  | 1 => .int
  | 2 => .int
  | 3 => .int
  | 4 => .int
  | 5 => .int
  | 6 => .int
  | 7 => .int
  | 8 => .int
  | 9 => .int
  | 10 => .int
  | _ => .int
abbrev wsX100 : List Cond := u_ws RX10 TX10 12
theorem nmX10 : ∀ a, a < 12 → ∀ b, b < 12 → a ≠ b → (TX10 a).2.1 ≠ (TX10 b).2.1 := by decide +kernel
theorem tyX10_ok : ∀ k, k < 12 → parseFieldDescriptor (TX10 k).2.2.1 = some (tyX10 k) := by decide +kernel
abbrev cX10_init : ByteArray := prog_13_method_1_code
def yX10_init : MethodName := ⟨RX10, "<init>", "()V"⟩
abbrev cX10_quarters : ByteArray := prog_13_method_2_code
def yX10_quarters : MethodName := ⟨RX10, "quarters", "()I"⟩
def RX11 : String := "FirstdanceAgencyModel"
def TX11 : u_T := fun k => match k with
  | 0 => ("FirstdanceAgencyModel", "thrown", "I", false)
  | 1 => ("FirstdanceAgencyModel", "today", "I", false)
  | 2 => ("FirstdanceAgencyModel", "cash", "I", false)
  | 3 => ("FirstdanceAgencyModel", "players", "Ljava/util/ArrayList;", true)
  | 4 => ("FirstdanceAgencyModel", "bands", "Ljava/util/ArrayList;", true)
  | 5 => ("FirstdanceAgencyModel", "weddings", "Ljava/util/ArrayList;", true)
  | 6 => ("FirstdanceAgencyModel", "keys", "[I", true)
  | 7 => ("FirstdanceAgencyModel", "energies", "[I", true)
  | 8 => ("FirstdanceAgencyModel", "minutes", "[I", true)
  | 9 => ("FirstdanceAgencyModel", "plays", "[I", true)
  | 10 => ("FirstdanceAgencyModel", "roads", "[I", true)
  | 11 => ("FirstdanceAgencyModel", "drives", "[I", true)
  | _ => ("FirstdanceAgencyModel", "sum", "J", false)
def tyX11 : Nat → FieldType := fun k => match k with
  | 0 => .int
  | 1 => .int
  | 2 => .int
  | 3 => .object "java/util/ArrayList"
  | 4 => .object "java/util/ArrayList"
  | 5 => .object "java/util/ArrayList"
  | 6 => .array .int
  | 7 => .array .int
  | 8 => .array .int
  | 9 => .array .int
  | 10 => .array .int
  | 11 => .array .int
  | _ => .long
abbrev wsX110 : List Cond := u_ws RX11 TX11 13
theorem nmX11 : ∀ a, a < 13 → ∀ b, b < 13 → a ≠ b → (TX11 a).2.1 ≠ (TX11 b).2.1 := by decide +kernel
theorem tyX11_ok : ∀ k, k < 13 → parseFieldDescriptor (TX11 k).2.2.1 = some (tyX11 k) := by decide +kernel
abbrev cX11_init : ByteArray := prog_11_method_1_code
def yX11_init : MethodName := ⟨RX11, "<init>", "()V"⟩
abbrev cX11_refuse : ByteArray := prog_11_method_3_code
def yX11_refuse : MethodName := ⟨RX11, "refuse", "(I)I"⟩
abbrev cX11_is : ByteArray := prog_11_method_4_code
def yX11_is : MethodName := ⟨RX11, "is", "(III)Z"⟩
abbrev cX11_isPlayer : ByteArray := prog_11_method_5_code
def yX11_isPlayer : MethodName := ⟨RX11, "isPlayer", "(I)Z"⟩
abbrev cX11_isWedding : ByteArray := prog_11_method_6_code
def yX11_isWedding : MethodName := ⟨RX11, "isWedding", "(I)Z"⟩
abbrev cX11_areSongs : ByteArray := prog_11_method_7_code
def yX11_areSongs : MethodName := ⟨RX11, "areSongs", "(I)Z"⟩
abbrev cX11_isDay : ByteArray := prog_11_method_8_code
def yX11_isDay : MethodName := ⟨RX11, "isDay", "(I)Z"⟩
abbrev cX11_isIn : ByteArray := prog_11_method_9_code
def yX11_isIn : MethodName := ⟨RX11, "isIn", "(II)Z"⟩
abbrev cX11_player : ByteArray := prog_11_method_10_code
def yX11_player : MethodName := ⟨RX11, "player", "(IIII)I"⟩
abbrev cX11_learn : ByteArray := prog_11_method_11_code
def yX11_learn : MethodName := ⟨RX11, "learn", "(II)I"⟩
abbrev cX11_song : ByteArray := prog_11_method_12_code
def yX11_song : MethodName := ⟨RX11, "song", "(IIII)I"⟩
abbrev cX11_feud : ByteArray := prog_11_method_13_code
def yX11_feud : MethodName := ⟨RX11, "feud", "(IIZ)Z"⟩
abbrev cX11_isTown : ByteArray := prog_11_method_14_code
def yX11_isTown : MethodName := ⟨RX11, "isTown", "(I)Z"⟩
abbrev cX11_drive : ByteArray := prog_11_method_15_code
def yX11_drive : MethodName := ⟨RX11, "drive", "()V"⟩
abbrev cX11_driveOf : ByteArray := prog_11_method_16_code
def yX11_driveOf : MethodName := ⟨RX11, "driveOf", "(II)I"⟩
abbrev cX11_road : ByteArray := prog_11_method_17_code
def yX11_road : MethodName := ⟨RX11, "road", "(III)I"⟩
abbrev cX11_needed : ByteArray := prog_11_method_18_code
def yX11_needed : MethodName := ⟨RX11, "needed", "(II)I"⟩
abbrev cX11_needed_ : ByteArray := prog_11_method_19_code
def yX11_needed_ : MethodName := ⟨RX11, "needed", "(I)I"⟩
abbrev cX11_band : ByteArray := prog_11_method_20_code
def yX11_band : MethodName := ⟨RX11, "band", "(I)I"⟩
abbrev cX11_isBand : ByteArray := prog_11_method_21_code
def yX11_isBand : MethodName := ⟨RX11, "isBand", "(I)Z"⟩
abbrev cX11_isFixed : ByteArray := prog_11_method_22_code
def yX11_isFixed : MethodName := ⟨RX11, "isFixed", "(II)Z"⟩
abbrev cX11_ask : ByteArray := prog_11_method_23_code
def yX11_ask : MethodName := ⟨RX11, "ask", "(IIIIII)I"⟩
abbrev cX11_place : ByteArray := prog_11_method_24_code
def yX11_place : MethodName := ⟨RX11, "place", "(I)I"⟩
abbrev cX11_isFree : ByteArray := prog_11_method_25_code
def yX11_isFree : MethodName := ⟨RX11, "isFree", "(II)Z"⟩
abbrev cX11_freeFor : ByteArray := prog_11_method_26_code
def yX11_freeFor : MethodName := ⟨RX11, "freeFor", "(I)I"⟩
abbrev cX11_canPlay : ByteArray := prog_11_method_27_code
def yX11_canPlay : MethodName := ⟨RX11, "canPlay", "(IIII)Z"⟩
abbrev cX11_isPeaceful : ByteArray := prog_11_method_28_code
def yX11_isPeaceful : MethodName := ⟨RX11, "isPeaceful", "(I)Z"⟩
abbrev cX11_isKnown : ByteArray := prog_11_method_29_code
def yX11_isKnown : MethodName := ⟨RX11, "isKnown", "(II)Z"⟩
abbrev cX11_areKnown : ByteArray := prog_11_method_30_code
def yX11_areKnown : MethodName := ⟨RX11, "areKnown", "(II)Z"⟩
abbrev cX11_cost : ByteArray := prog_11_method_31_code
def yX11_cost : MethodName := ⟨RX11, "cost", "(ILFirstdanceAgencyModel$Wedding;)I"⟩
abbrev cX11_costOf : ByteArray := prog_11_method_32_code
def yX11_costOf : MethodName := ⟨RX11, "costOf", "(ILFirstdanceAgencyModel$Wedding;)I"⟩
abbrev cX11_isFilling : ByteArray := prog_11_method_33_code
def yX11_isFilling : MethodName := ⟨RX11, "isFilling", "(ILFirstdanceAgencyModel$Wedding;)Z"⟩
abbrev cX11_best : ByteArray := prog_11_method_34_code
def yX11_best : MethodName := ⟨RX11, "best", "(III)I"⟩
abbrev cX11_isBetter : ByteArray := prog_11_method_35_code
def yX11_isBetter : MethodName := ⟨RX11, "isBetter", "(IIILFirstdanceAgencyModel$Wedding;)Z"⟩
abbrev cX11_fillings : ByteArray := prog_11_method_36_code
def yX11_fillings : MethodName := ⟨RX11, "fillings", "(I)I"⟩
abbrev cX11_why : ByteArray := prog_11_method_37_code
def yX11_why : MethodName := ⟨RX11, "why", "(I)I"⟩
abbrev cX11_priceOf : ByteArray := prog_11_method_38_code
def yX11_priceOf : MethodName := ⟨RX11, "priceOf", "(I)I"⟩
abbrev cX11_fixNow : ByteArray := prog_11_method_39_code
def yX11_fixNow : MethodName := ⟨RX11, "fixNow", "(II)V"⟩
abbrev cX11_fix : ByteArray := prog_11_method_40_code
def yX11_fix : MethodName := ⟨RX11, "fix", "(I)I"⟩
abbrev cX11_owed : ByteArray := prog_11_method_41_code
def yX11_owed : MethodName := ⟨RX11, "owed", "(LFirstdanceAgencyModel$Wedding;)I"⟩
abbrev cX11_cancel : ByteArray := prog_11_method_42_code
def yX11_cancel : MethodName := ⟨RX11, "cancel", "(I)I"⟩
abbrev cX11_illNow : ByteArray := prog_11_method_43_code
def yX11_illNow : MethodName := ⟨RX11, "illNow", "(II)I"⟩
abbrev cX11_ill : ByteArray := prog_11_method_44_code
def yX11_ill : MethodName := ⟨RX11, "ill", "(II)I"⟩
abbrev cX11_late : ByteArray := prog_11_method_45_code
def yX11_late : MethodName := ⟨RX11, "late", "(II)I"⟩
abbrev cX11_fees : ByteArray := prog_11_method_46_code
def yX11_fees : MethodName := ⟨RX11, "fees", "(I)I"⟩
abbrev cX11_earnedAt : ByteArray := prog_11_method_47_code
def yX11_earnedAt : MethodName := ⟨RX11, "earnedAt", "(ILFirstdanceAgencyModel$Wedding;)I"⟩
abbrev cX11_gain : ByteArray := prog_11_method_48_code
def yX11_gain : MethodName := ⟨RX11, "gain", "(LFirstdanceAgencyModel$Wedding;)I"⟩
abbrev cX11_playNow : ByteArray := prog_11_method_49_code
def yX11_playNow : MethodName := ⟨RX11, "playNow", "(LFirstdanceAgencyModel$Wedding;)V"⟩
abbrev cX11_pass : ByteArray := prog_11_method_50_code
def yX11_pass : MethodName := ⟨RX11, "pass", "(I)I"⟩
abbrev cX11_isBehind : ByteArray := prog_11_method_51_code
def yX11_isBehind : MethodName := ⟨RX11, "isBehind", "(II)Z"⟩
abbrev cX11_bestSet : ByteArray := prog_11_method_52_code
def yX11_bestSet : MethodName := ⟨RX11, "bestSet", "(I)[I"⟩
abbrev cX11_minutesOf : ByteArray := prog_11_method_53_code
def yX11_minutesOf : MethodName := ⟨RX11, "minutesOf", "(I)I"⟩
abbrev cX11_share : ByteArray := prog_11_method_54_code
def yX11_share : MethodName := ⟨RX11, "share", "(I)I"⟩
abbrev cX11_weddingsOf : ByteArray := prog_11_method_55_code
def yX11_weddingsOf : MethodName := ⟨RX11, "weddingsOf", "(I)[I"⟩
abbrev cX11_ofPlayerNow : ByteArray := prog_11_method_56_code
def yX11_ofPlayerNow : MethodName := ⟨RX11, "ofPlayerNow", "(II)I"⟩
abbrev cX11_ofPlayer : ByteArray := prog_11_method_57_code
def yX11_ofPlayer : MethodName := ⟨RX11, "ofPlayer", "(II)I"⟩
abbrev cX11_ofSongNow : ByteArray := prog_11_method_58_code
def yX11_ofSongNow : MethodName := ⟨RX11, "ofSongNow", "(II)I"⟩
abbrev cX11_ofSong : ByteArray := prog_11_method_59_code
def yX11_ofSong : MethodName := ⟨RX11, "ofSong", "(II)I"⟩
abbrev cX11_ofBandNow : ByteArray := prog_11_method_60_code
def yX11_ofBandNow : MethodName := ⟨RX11, "ofBandNow", "(II)I"⟩
abbrev cX11_ofBand : ByteArray := prog_11_method_61_code
def yX11_ofBand : MethodName := ⟨RX11, "ofBand", "(II)I"⟩
abbrev cX11_ofWeddingNow : ByteArray := prog_11_method_62_code
def yX11_ofWeddingNow : MethodName := ⟨RX11, "ofWeddingNow", "(II)I"⟩
abbrev cX11_ofWedding : ByteArray := prog_11_method_63_code
def yX11_ofWedding : MethodName := ⟨RX11, "ofWedding", "(II)I"⟩
abbrev cX11_drive_ : ByteArray := prog_11_method_64_code
def yX11_drive_ : MethodName := ⟨RX11, "drive", "(II)I"⟩
abbrev cX11_free : ByteArray := prog_11_method_65_code
def yX11_free : MethodName := ⟨RX11, "free", "(II)Z"⟩
abbrev cX11_fillingNow : ByteArray := prog_11_method_66_code
def yX11_fillingNow : MethodName := ⟨RX11, "fillingNow", "(II)I"⟩
abbrev cX11_filling : ByteArray := prog_11_method_67_code
def yX11_filling : MethodName := ⟨RX11, "filling", "(II)I"⟩
abbrev cX11_set : ByteArray := prog_11_method_68_code
def yX11_set : MethodName := ⟨RX11, "set", "(IZ)I"⟩
abbrev cX11_songs : ByteArray := prog_11_method_69_code
def yX11_songs : MethodName := ⟨RX11, "songs", "(I)Ljava/lang/String;"⟩
abbrev cX11_deskNow : ByteArray := prog_11_method_70_code
def yX11_deskNow : MethodName := ⟨RX11, "deskNow", "(I)I"⟩
abbrev cX11_apart : ByteArray := prog_11_method_71_code
def yX11_apart : MethodName := ⟨RX11, "apart", "()I"⟩
abbrev cX11_desk : ByteArray := prog_11_method_72_code
def yX11_desk : MethodName := ⟨RX11, "desk", "(I)I"⟩
abbrev cX11_tell : ByteArray := prog_11_method_73_code
def yX11_tell : MethodName := ⟨RX11, "tell", "(I)Ljava/lang/String;"⟩
abbrev cX11_wouldLose : ByteArray := prog_11_method_74_code
def yX11_wouldLose : MethodName := ⟨RX11, "wouldLose", "(II)I"⟩
abbrev cX11_plan : ByteArray := prog_11_method_75_code
def yX11_plan : MethodName := ⟨RX11, "plan", "(IZ)I"⟩
abbrev cX11_tried : ByteArray := prog_11_method_76_code
def yX11_tried : MethodName := ⟨RX11, "tried", "([III)I"⟩
abbrev cX11_wouldCancel : ByteArray := prog_11_method_77_code
def yX11_wouldCancel : MethodName := ⟨RX11, "wouldCancel", "(I)I"⟩
abbrev cX11_key : ByteArray := prog_11_method_78_code
def yX11_key : MethodName := ⟨RX11, "key", "(I)I"⟩
abbrev cX11_isSoundNow : ByteArray := prog_11_method_79_code
def yX11_isSoundNow : MethodName := ⟨RX11, "isSoundNow", "()Z"⟩
abbrev cX11_isSound : ByteArray := prog_11_method_80_code
def yX11_isSound : MethodName := ⟨RX11, "isSound", "()Z"⟩
abbrev cX11_add : ByteArray := prog_11_method_81_code
def yX11_add : MethodName := ⟨RX11, "add", "(J)V"⟩
abbrev cX11_digest : ByteArray := prog_11_method_82_code
def yX11_digest : MethodName := ⟨RX11, "digest", "()J"⟩
def RJx145de : String := "java/io/Serializable"
def TJx145de : u_T := fun k => match k with
  | _ => ("", "", "", false)
def tyJx145de : Nat → FieldType := fun k => match k with
  | _ => .int
abbrev wsJx145de0 : List Cond := u_ws RJx145de TJx145de 0
theorem nmJx145de : ∀ a, a < 0 → ∀ b, b < 0 → a ≠ b → (TJx145de a).2.1 ≠ (TJx145de b).2.1 := by decide +kernel
theorem tyJx145de_ok : ∀ k, k < 0 → parseFieldDescriptor (TJx145de k).2.2.1 = some (tyJx145de k) := by decide +kernel
def RJ5 : String := "java/lang/AbstractStringBuilder"
def TJ5 : u_T := fun k => match k with
  | _ => ("", "", "", false)
def tyJ5 : Nat → FieldType := fun k => match k with
  | _ => .int
abbrev wsJ50 : List Cond := u_ws RJ5 TJ5 0
theorem nmJ5 : ∀ a, a < 0 → ∀ b, b < 0 → a ≠ b → (TJ5 a).2.1 ≠ (TJ5 b).2.1 := by decide +kernel
theorem tyJ5_ok : ∀ k, k < 0 → parseFieldDescriptor (TJ5 k).2.2.1 = some (tyJ5 k) := by decide +kernel
abbrev cJ5_init_d00df : ByteArray := prog_15_method_2_code
def yJ5_init_d00df : MethodName := ⟨RJ5, "<init>", "(I)V"⟩
abbrev cJ5_length_8abf5 : ByteArray := prog_15_method_6_code
def yJ5_length_8abf5 : MethodName := ⟨RJ5, "length", "()I"⟩
abbrev cJ5_ensureCapacityInternal_d00df : ByteArray := prog_15_method_9_code
def yJ5_ensureCapacityInternal_d00df : MethodName := ⟨RJ5, "ensureCapacityInternal", "(I)V"⟩
abbrev cJ5_newCapacity_0f7a4 : ByteArray := prog_15_method_10_code
def yJ5_newCapacity_0f7a4 : MethodName := ⟨RJ5, "newCapacity", "(I)I"⟩
abbrev cJ5_inflate_da8c8 : ByteArray := prog_15_method_11_code
def yJ5_inflate_da8c8 : MethodName := ⟨RJ5, "inflate", "()V"⟩
abbrev cJ5_append_cf1ce : ByteArray := prog_15_method_22_code
def yJ5_append_cf1ce : MethodName := ⟨RJ5, "append", "(Ljava/lang/String;)Ljava/lang/AbstractStringBuilder;"⟩
abbrev cJ5_appendNull_278bc : ByteArray := prog_15_method_26_code
def yJ5_appendNull_278bc : MethodName := ⟨RJ5, "appendNull", "()Ljava/lang/AbstractStringBuilder;"⟩
abbrev cJ5_append_3fe6f : ByteArray := prog_15_method_31_code
def yJ5_append_3fe6f : MethodName := ⟨RJ5, "append", "(C)Ljava/lang/AbstractStringBuilder;"⟩
abbrev cJ5_append_c97b9 : ByteArray := prog_15_method_32_code
def yJ5_append_c97b9 : MethodName := ⟨RJ5, "append", "(I)Ljava/lang/AbstractStringBuilder;"⟩
abbrev cJ5_getValue_6d5f1 : ByteArray := prog_15_method_64_code
def yJ5_getValue_6d5f1 : MethodName := ⟨RJ5, "getValue", "()[B"⟩
abbrev cJ5_isLatin1_aae02 : ByteArray := prog_15_method_68_code
def yJ5_isLatin1_aae02 : MethodName := ⟨RJ5, "isLatin1", "()Z"⟩
abbrev cJ5_inflateIfNeededFor_a7421 : ByteArray := prog_15_method_71_code
def yJ5_inflateIfNeededFor_a7421 : MethodName := ⟨RJ5, "inflateIfNeededFor", "(Ljava/lang/String;)V"⟩
abbrev cJ5_putStringAt_47b60 : ByteArray := prog_15_method_73_code
def yJ5_putStringAt_47b60 : MethodName := ⟨RJ5, "putStringAt", "(ILjava/lang/String;)V"⟩
def RJx2cfe8 : String := "java/lang/Appendable"
def TJx2cfe8 : u_T := fun k => match k with
  | _ => ("", "", "", false)
def tyJx2cfe8 : Nat → FieldType := fun k => match k with
  | _ => .int
abbrev wsJx2cfe80 : List Cond := u_ws RJx2cfe8 TJx2cfe8 0
theorem nmJx2cfe8 : ∀ a, a < 0 → ∀ b, b < 0 → a ≠ b → (TJx2cfe8 a).2.1 ≠ (TJx2cfe8 b).2.1 := by decide +kernel
theorem tyJx2cfe8_ok : ∀ k, k < 0 → parseFieldDescriptor (TJx2cfe8 k).2.2.1 = some (tyJx2cfe8 k) := by decide +kernel
def RJx9f9b0 : String := "java/lang/CharSequence"
def TJx9f9b0 : u_T := fun k => match k with
  | _ => ("", "", "", false)
def tyJx9f9b0 : Nat → FieldType := fun k => match k with
  | _ => .int
abbrev wsJx9f9b00 : List Cond := u_ws RJx9f9b0 TJx9f9b0 0
theorem nmJx9f9b0 : ∀ a, a < 0 → ∀ b, b < 0 → a ≠ b → (TJx9f9b0 a).2.1 ≠ (TJx9f9b0 b).2.1 := by decide +kernel
theorem tyJx9f9b0_ok : ∀ k, k < 0 → parseFieldDescriptor (TJx9f9b0 k).2.2.1 = some (tyJx9f9b0 k) := by decide +kernel
def RJx8e188 : String := "java/lang/Cloneable"
def TJx8e188 : u_T := fun k => match k with
  | _ => ("", "", "", false)
def tyJx8e188 : Nat → FieldType := fun k => match k with
  | _ => .int
abbrev wsJx8e1880 : List Cond := u_ws RJx8e188 TJx8e188 0
theorem nmJx8e188 : ∀ a, a < 0 → ∀ b, b < 0 → a ≠ b → (TJx8e188 a).2.1 ≠ (TJx8e188 b).2.1 := by decide +kernel
theorem tyJx8e188_ok : ∀ k, k < 0 → parseFieldDescriptor (TJx8e188 k).2.2.1 = some (tyJx8e188 k) := by decide +kernel
def RJxb160c : String := "java/lang/Comparable"
def TJxb160c : u_T := fun k => match k with
  | _ => ("", "", "", false)
def tyJxb160c : Nat → FieldType := fun k => match k with
  | _ => .int
abbrev wsJxb160c0 : List Cond := u_ws RJxb160c TJxb160c 0
theorem nmJxb160c : ∀ a, a < 0 → ∀ b, b < 0 → a ≠ b → (TJxb160c a).2.1 ≠ (TJxb160c b).2.1 := by decide +kernel
theorem tyJxb160c_ok : ∀ k, k < 0 → parseFieldDescriptor (TJxb160c k).2.2.1 = some (tyJxb160c k) := by decide +kernel
def RJxabbfe : String := "java/lang/Integer$IntegerCache"
def TJxabbfe : u_T := fun k => match k with
  | _ => ("", "", "", false)
def tyJxabbfe : Nat → FieldType := fun k => match k with
  | _ => .int
abbrev wsJxabbfe0 : List Cond := u_ws RJxabbfe TJxabbfe 0
theorem nmJxabbfe : ∀ a, a < 0 → ∀ b, b < 0 → a ≠ b → (TJxabbfe a).2.1 ≠ (TJxabbfe b).2.1 := by decide +kernel
theorem tyJxabbfe_ok : ∀ k, k < 0 → parseFieldDescriptor (TJxabbfe k).2.2.1 = some (tyJxabbfe k) := by decide +kernel
def RJ6 : String := "java/lang/Integer"
def TJ6 : u_T := fun k => match k with
  | _ => ("java/lang/Integer", "value", "I", true)
def tyJ6 : Nat → FieldType := fun k => match k with
  | _ => .int
abbrev wsJ60 : List Cond := u_ws RJ6 TJ6 1
theorem nmJ6 : ∀ a, a < 1 → ∀ b, b < 1 → a ≠ b → (TJ6 a).2.1 ≠ (TJ6 b).2.1 := by decide +kernel
theorem tyJ6_ok : ∀ k, k < 1 → parseFieldDescriptor (TJ6 k).2.2.1 = some (tyJ6 k) := by decide +kernel
abbrev cJ6_getChars_ba4f3 : ByteArray := prog_24_method_12_code
def yJ6_getChars_ba4f3 : MethodName := ⟨RJ6, "getChars", "(II[B)I"⟩
abbrev cJ6_stringSize_0f7a4 : ByteArray := prog_24_method_13_code
def yJ6_stringSize_0f7a4 : MethodName := ⟨RJ6, "stringSize", "(I)I"⟩
abbrev cJ6_valueOf_2dffe : ByteArray := prog_24_method_22_code
def yJ6_valueOf_2dffe : MethodName := ⟨RJ6, "valueOf", "(I)Ljava/lang/Integer;"⟩
abbrev cJ6_init_d00df : ByteArray := prog_24_method_23_code
def yJ6_init_d00df : MethodName := ⟨RJ6, "<init>", "(I)V"⟩
abbrev cJ6_intValue_8abf5 : ByteArray := prog_24_method_27_code
def yJ6_intValue_8abf5 : MethodName := ⟨RJ6, "intValue", "()I"⟩
abbrev cJ6_bitCount_0f7a4 : ByteArray := prog_24_method_49_code
def yJ6_bitCount_0f7a4 : MethodName := ⟨RJ6, "bitCount", "(I)I"⟩
def RJxab1ab : String := "java/lang/Iterable"
def TJxab1ab : u_T := fun k => match k with
  | _ => ("", "", "", false)
def tyJxab1ab : Nat → FieldType := fun k => match k with
  | _ => .int
abbrev wsJxab1ab0 : List Cond := u_ws RJxab1ab TJxab1ab 0
theorem nmJxab1ab : ∀ a, a < 0 → ∀ b, b < 0 → a ≠ b → (TJxab1ab a).2.1 ≠ (TJxab1ab b).2.1 := by decide +kernel
theorem tyJxab1ab_ok : ∀ k, k < 0 → parseFieldDescriptor (TJxab1ab k).2.2.1 = some (tyJxab1ab k) := by decide +kernel
def RJ9 : String := "java/lang/Math"
def TJ9 : u_T := fun k => match k with
  | _ => ("", "", "", false)
def tyJ9 : Nat → FieldType := fun k => match k with
  | _ => .int
abbrev wsJ90 : List Cond := u_ws RJ9 TJ9 0
theorem nmJ9 : ∀ a, a < 0 → ∀ b, b < 0 → a ≠ b → (TJ9 a).2.1 ≠ (TJ9 b).2.1 := by decide +kernel
theorem tyJ9_ok : ∀ k, k < 0 → parseFieldDescriptor (TJ9 k).2.2.1 = some (tyJ9 k) := by decide +kernel
abbrev cJ9_abs_0f7a4 : ByteArray := prog_27_method_59_code
def yJ9_abs_0f7a4 : MethodName := ⟨RJ9, "abs", "(I)I"⟩
abbrev cJ9_max_7cf53 : ByteArray := prog_27_method_65_code
def yJ9_max_7cf53 : MethodName := ⟨RJ9, "max", "(II)I"⟩
abbrev cJ9_min_7cf53 : ByteArray := prog_27_method_69_code
def yJ9_min_7cf53 : MethodName := ⟨RJ9, "min", "(II)I"⟩
def RJxd2413 : String := "java/lang/Number"
def TJxd2413 : u_T := fun k => match k with
  | _ => ("", "", "", false)
def tyJxd2413 : Nat → FieldType := fun k => match k with
  | _ => .int
abbrev wsJxd24130 : List Cond := u_ws RJxd2413 TJxd2413 0
theorem nmJxd2413 : ∀ a, a < 0 → ∀ b, b < 0 → a ≠ b → (TJxd2413 a).2.1 ≠ (TJxd2413 b).2.1 := by decide +kernel
theorem tyJxd2413_ok : ∀ k, k < 0 → parseFieldDescriptor (TJxd2413 k).2.2.1 = some (tyJxd2413 k) := by decide +kernel
abbrev cJxd2413_init_da8c8 : ByteArray := prog_28_method_1_code
def yJxd2413_init_da8c8 : MethodName := ⟨RJxd2413, "<init>", "()V"⟩
def RJ0 : String := "java/lang/String"
def TJ0 : u_T := fun k => match k with
  | 0 => ("java/lang/String", "value", "[B", true)
  | 1 => ("java/lang/String", "coder", "B", true)
  | 2 => ("java/lang/String", "hash", "I", false)
  | _ => ("java/lang/String", "hashIsZero", "Z", false)
def tyJ0 : Nat → FieldType := fun k => match k with
  | 0 => .array .byte
  | 1 => .byte
  | 2 => .int
  | _ => .boolean
abbrev wsJ00 : List Cond := u_ws RJ0 TJ0 4
theorem nmJ0 : ∀ a, a < 4 → ∀ b, b < 4 → a ≠ b → (TJ0 a).2.1 ≠ (TJ0 b).2.1 := by decide +kernel
theorem tyJ0_ok : ∀ k, k < 4 → parseFieldDescriptor (TJ0 k).2.2.1 = some (tyJ0 k) := by decide +kernel
abbrev cJ0_init_81219 : ByteArray := prog_30_method_53_code
def yJ0_init_81219 : MethodName := ⟨RJ0, "<init>", "(Ljava/lang/StringBuilder;)V"⟩
abbrev cJ0_length_8abf5 : ByteArray := prog_30_method_54_code
def yJ0_length_8abf5 : MethodName := ⟨RJ0, "length", "()I"⟩
abbrev cJ0_getBytes_840e7 : ByteArray := prog_30_method_147_code
def yJ0_getBytes_840e7 : MethodName := ⟨RJ0, "getBytes", "([BIB)V"⟩
abbrev cJ0_init_db425 : ByteArray := prog_30_method_150_code
def yJ0_init_db425 : MethodName := ⟨RJ0, "<init>", "(Ljava/lang/AbstractStringBuilder;Ljava/lang/Void;)V"⟩
abbrev cJ0_coder_7d493 : ByteArray := prog_30_method_152_code
def yJ0_coder_7d493 : MethodName := ⟨RJ0, "coder", "()B"⟩
abbrev cJ0_checkIndex_df160 : ByteArray := prog_30_method_155_code
def yJ0_checkIndex_df160 : MethodName := ⟨RJ0, "checkIndex", "(II)V"⟩
abbrev cJ0_checkBoundsOffCount_cabcc : ByteArray := prog_30_method_157_code
def yJ0_checkBoundsOffCount_cabcc : MethodName := ⟨RJ0, "checkBoundsOffCount", "(III)I"⟩
abbrev cJ0_checkBoundsBeginEnd_23922 : ByteArray := prog_30_method_158_code
def yJ0_checkBoundsBeginEnd_23922 : MethodName := ⟨RJ0, "checkBoundsBeginEnd", "(III)V"⟩
def RJ4 : String := "java/lang/StringBuilder"
def TJ4 : u_T := fun k => match k with
  | 0 => ("java/lang/AbstractStringBuilder", "value", "[B", false)
  | 1 => ("java/lang/AbstractStringBuilder", "coder", "B", false)
  | 2 => ("java/lang/AbstractStringBuilder", "maybeLatin1", "Z", false)
  | _ => ("java/lang/AbstractStringBuilder", "count", "I", false)
def tyJ4 : Nat → FieldType := fun k => match k with
  | 0 => .array .byte
  | 1 => .byte
  | 2 => .boolean
  | _ => .int
abbrev wsJ40 : List Cond := u_ws RJ4 TJ4 4
theorem nmJ4 : ∀ a, a < 4 → ∀ b, b < 4 → a ≠ b → (TJ4 a).2.1 ≠ (TJ4 b).2.1 := by decide +kernel
theorem tyJ4_ok : ∀ k, k < 4 → parseFieldDescriptor (TJ4 k).2.2.1 = some (tyJ4 k) := by decide +kernel
abbrev cJ4_init_da8c8 : ByteArray := prog_31_method_1_code
def yJ4_init_da8c8 : MethodName := ⟨RJ4, "<init>", "()V"⟩
abbrev cJ4_append_15ec4 : ByteArray := prog_31_method_7_code
def yJ4_append_15ec4 : MethodName := ⟨RJ4, "append", "(Ljava/lang/String;)Ljava/lang/StringBuilder;"⟩
abbrev cJ4_append_cf468 : ByteArray := prog_31_method_14_code
def yJ4_append_cf468 : MethodName := ⟨RJ4, "append", "(C)Ljava/lang/StringBuilder;"⟩
abbrev cJ4_append_bf812 : ByteArray := prog_31_method_15_code
def yJ4_append_bf812 : MethodName := ⟨RJ4, "append", "(I)Ljava/lang/StringBuilder;"⟩
abbrev cJ4_toString_0e30d : ByteArray := prog_31_method_42_code
def yJ4_toString_0e30d : MethodName := ⟨RJ4, "toString", "()Ljava/lang/String;"⟩
abbrev cJ4_length_8abf5 : ByteArray := prog_31_method_93_code
def yJ4_length_8abf5 : MethodName := ⟨RJ4, "length", "()I"⟩
def RJ1 : String := "java/lang/StringLatin1"
def TJ1 : u_T := fun k => match k with
  | _ => ("", "", "", false)
def tyJ1 : Nat → FieldType := fun k => match k with
  | _ => .int
abbrev wsJ10 : List Cond := u_ws RJ1 TJ1 0
theorem nmJ1 : ∀ a, a < 0 → ∀ b, b < 0 → a ≠ b → (TJ1 a).2.1 ≠ (TJ1 b).2.1 := by decide +kernel
theorem tyJ1_ok : ∀ k, k < 0 → parseFieldDescriptor (TJ1 k).2.2.1 = some (tyJ1 k) := by decide +kernel
abbrev cJ1_canEncode_fc78d : ByteArray := prog_32_method_3_code
def yJ1_canEncode_fc78d : MethodName := ⟨RJ1, "canEncode", "(C)Z"⟩
abbrev cJ1_inflate_0e8fd : ByteArray := prog_32_method_50_code
def yJ1_inflate_0e8fd : MethodName := ⟨RJ1, "inflate", "([BI[BII)V"⟩
def RJ2 : String := "java/lang/StringUTF16"
def TJ2 : u_T := fun k => match k with
  | _ => ("", "", "", false)
def tyJ2 : Nat → FieldType := fun k => match k with
  | _ => .int
abbrev wsJ20 : List Cond := u_ws RJ2 TJ2 0
theorem nmJ2 : ∀ a, a < 0 → ∀ b, b < 0 → a ≠ b → (TJ2 a).2.1 ≠ (TJ2 b).2.1 := by decide +kernel
theorem tyJ2_ok : ∀ k, k < 0 → parseFieldDescriptor (TJ2 k).2.2.1 = some (tyJ2 k) := by decide +kernel
abbrev cJ2_newBytesFor_77867 : ByteArray := prog_33_method_2_code
def yJ2_newBytesFor_77867 : MethodName := ⟨RJ2, "newBytesFor", "(I)[B"⟩
abbrev cJ2_newBytesLength_0f7a4 : ByteArray := prog_33_method_3_code
def yJ2_newBytesLength_0f7a4 : MethodName := ⟨RJ2, "newBytesLength", "(I)I"⟩
abbrev cJ2_putChar_b72d1 : ByteArray := prog_33_method_4_code
def yJ2_putChar_b72d1 : MethodName := ⟨RJ2, "putChar", "([BII)V"⟩
abbrev cJ2_getChar_3b067 : ByteArray := prog_33_method_5_code
def yJ2_getChar_3b067 : MethodName := ⟨RJ2, "getChar", "([BI)C"⟩
abbrev cJ2_length_9d52b : ByteArray := prog_33_method_6_code
def yJ2_length_9d52b : MethodName := ⟨RJ2, "length", "([B)I"⟩
abbrev cJ2_coderFromArrayLen_85cad : ByteArray := prog_33_method_15_code
def yJ2_coderFromArrayLen_85cad : MethodName := ⟨RJ2, "coderFromArrayLen", "([BI)B"⟩
abbrev cJ2_compress_39247 : ByteArray := prog_33_method_17_code
def yJ2_compress_39247 : MethodName := ⟨RJ2, "compress", "([BII)[B"⟩
abbrev cJ2_compress_5af95 : ByteArray := prog_33_method_22_code
def yJ2_compress_5af95 : MethodName := ⟨RJ2, "compress", "([BI[BII)I"⟩
abbrev cJ2_putCharSB_b72d1 : ByteArray := prog_33_method_71_code
def yJ2_putCharSB_b72d1 : MethodName := ⟨RJ2, "putCharSB", "([BII)V"⟩
abbrev cJ2_getChars_46870 : ByteArray := prog_33_method_77_code
def yJ2_getChars_46870 : MethodName := ⟨RJ2, "getChars", "(III[B)I"⟩
abbrev cJ2_putCharsAt_cd4e5 : ByteArray := prog_33_method_81_code
def yJ2_putCharsAt_cd4e5 : MethodName := ⟨RJ2, "putCharsAt", "([BICCCC)I"⟩
abbrev cJ2_inflate_0e8fd : ByteArray := prog_33_method_86_code
def yJ2_inflate_0e8fd : MethodName := ⟨RJ2, "inflate", "([BI[BII)V"⟩
abbrev cJ2_getChars_ba4f3 : ByteArray := prog_33_method_89_code
def yJ2_getChars_ba4f3 : MethodName := ⟨RJ2, "getChars", "(II[B)I"⟩
abbrev cJ2_checkIndex_2214a : ByteArray := prog_33_method_91_code
def yJ2_checkIndex_2214a : MethodName := ⟨RJ2, "checkIndex", "(I[B)V"⟩
abbrev cJ2_checkBoundsBeginEnd_d044e : ByteArray := prog_33_method_93_code
def yJ2_checkBoundsBeginEnd_d044e : MethodName := ⟨RJ2, "checkBoundsBeginEnd", "(II[B)V"⟩
abbrev cJ2_checkBoundsOffCount_d044e : ByteArray := prog_33_method_94_code
def yJ2_checkBoundsOffCount_d044e : MethodName := ⟨RJ2, "checkBoundsOffCount", "(II[B)V"⟩
def RJ10 : String := "java/lang/System"
def TJ10 : u_T := fun k => match k with
  | _ => ("", "", "", false)
def tyJ10 : Nat → FieldType := fun k => match k with
  | _ => .int
abbrev wsJ100 : List Cond := u_ws RJ10 TJ10 0
theorem nmJ10 : ∀ a, a < 0 → ∀ b, b < 0 → a ≠ b → (TJ10 a).2.1 ≠ (TJ10 b).2.1 := by decide +kernel
theorem tyJ10_ok : ∀ k, k < 0 → parseFieldDescriptor (TJ10 k).2.2.1 = some (tyJ10 k) := by decide +kernel
def RJxfd54e : String := "java/lang/constant/Constable"
def TJxfd54e : u_T := fun k => match k with
  | _ => ("", "", "", false)
def tyJxfd54e : Nat → FieldType := fun k => match k with
  | _ => .int
abbrev wsJxfd54e0 : List Cond := u_ws RJxfd54e TJxfd54e 0
theorem nmJxfd54e : ∀ a, a < 0 → ∀ b, b < 0 → a ≠ b → (TJxfd54e a).2.1 ≠ (TJxfd54e b).2.1 := by decide +kernel
theorem tyJxfd54e_ok : ∀ k, k < 0 → parseFieldDescriptor (TJxfd54e k).2.2.1 = some (tyJxfd54e k) := by decide +kernel
def RJx3cf43 : String := "java/lang/constant/ConstantDesc"
def TJx3cf43 : u_T := fun k => match k with
  | _ => ("", "", "", false)
def tyJx3cf43 : Nat → FieldType := fun k => match k with
  | _ => .int
abbrev wsJx3cf430 : List Cond := u_ws RJx3cf43 TJx3cf43 0
theorem nmJx3cf43 : ∀ a, a < 0 → ∀ b, b < 0 → a ≠ b → (TJx3cf43 a).2.1 ≠ (TJx3cf43 b).2.1 := by decide +kernel
theorem tyJx3cf43_ok : ∀ k, k < 0 → parseFieldDescriptor (TJx3cf43 k).2.2.1 = some (tyJx3cf43 k) := by decide +kernel
def RJxa1e45 : String := "java/util/AbstractCollection"
def TJxa1e45 : u_T := fun k => match k with
  | _ => ("", "", "", false)
def tyJxa1e45 : Nat → FieldType := fun k => match k with
  | _ => .int
abbrev wsJxa1e450 : List Cond := u_ws RJxa1e45 TJxa1e45 0
theorem nmJxa1e45 : ∀ a, a < 0 → ∀ b, b < 0 → a ≠ b → (TJxa1e45 a).2.1 ≠ (TJxa1e45 b).2.1 := by decide +kernel
theorem tyJxa1e45_ok : ∀ k, k < 0 → parseFieldDescriptor (TJxa1e45 k).2.2.1 = some (tyJxa1e45 k) := by decide +kernel
abbrev cJxa1e45_init_da8c8 : ByteArray := prog_38_method_1_code
def yJxa1e45_init_da8c8 : MethodName := ⟨RJxa1e45, "<init>", "()V"⟩
def RJxc12de : String := "java/util/AbstractList"
def TJxc12de : u_T := fun k => match k with
  | _ => ("", "", "", false)
def tyJxc12de : Nat → FieldType := fun k => match k with
  | _ => .int
abbrev wsJxc12de0 : List Cond := u_ws RJxc12de TJxc12de 0
theorem nmJxc12de : ∀ a, a < 0 → ∀ b, b < 0 → a ≠ b → (TJxc12de a).2.1 ≠ (TJxc12de b).2.1 := by decide +kernel
theorem tyJxc12de_ok : ∀ k, k < 0 → parseFieldDescriptor (TJxc12de k).2.2.1 = some (tyJxc12de k) := by decide +kernel
abbrev cJxc12de_init_da8c8 : ByteArray := prog_39_method_1_code
def yJxc12de_init_da8c8 : MethodName := ⟨RJxc12de, "<init>", "()V"⟩
def RJx35411 : String := "java/util/ArrayList$Itr"
def TJx35411 : u_T := fun k => match k with
  | 0 => ("java/util/ArrayList$Itr", "cursor", "I", false)
  | 1 => ("java/util/ArrayList$Itr", "lastRet", "I", false)
  | 2 => ("java/util/ArrayList$Itr", "expectedModCount", "I", false)
  | _ => ("java/util/ArrayList$Itr", "this$0", "Ljava/util/ArrayList;", true)
def tyJx35411 : Nat → FieldType := fun k => match k with
  | 0 => .int
  | 1 => .int
  | 2 => .int
  | _ => .object "java/util/ArrayList"
abbrev wsJx354110 : List Cond := u_ws RJx35411 TJx35411 4
theorem nmJx35411 : ∀ a, a < 4 → ∀ b, b < 4 → a ≠ b → (TJx35411 a).2.1 ≠ (TJx35411 b).2.1 := by decide +kernel
theorem tyJx35411_ok : ∀ k, k < 4 → parseFieldDescriptor (TJx35411 k).2.2.1 = some (tyJx35411 k) := by decide +kernel
abbrev cJx35411_init_45d68 : ByteArray := prog_41_method_1_code
def yJx35411_init_45d68 : MethodName := ⟨RJx35411, "<init>", "(Ljava/util/ArrayList;)V"⟩
abbrev cJx35411_hasNext_aae02 : ByteArray := prog_41_method_2_code
def yJx35411_hasNext_aae02 : MethodName := ⟨RJx35411, "hasNext", "()Z"⟩
abbrev cJx35411_next_0502b : ByteArray := prog_41_method_3_code
def yJx35411_next_0502b : MethodName := ⟨RJx35411, "next", "()Ljava/lang/Object;"⟩
abbrev cJx35411_checkForComodification_da8c8 : ByteArray := prog_41_method_6_code
def yJx35411_checkForComodification_da8c8 : MethodName := ⟨RJx35411, "checkForComodification", "()V"⟩
def RJx4a65c : String := "java/util/ArrayList"
def TJx4a65c : u_T := fun k => match k with
  | 0 => ("java/util/AbstractList", "modCount", "I", false)
  | 1 => ("java/util/ArrayList", "elementData", "[Ljava/lang/Object;", false)
  | _ => ("java/util/ArrayList", "size", "I", false)
def tyJx4a65c : Nat → FieldType := fun k => match k with
  | 0 => .int
  | 1 => .array (.object "java/lang/Object")
  | _ => .int
abbrev wsJx4a65c0 : List Cond := u_ws RJx4a65c TJx4a65c 3
theorem nmJx4a65c : ∀ a, a < 3 → ∀ b, b < 3 → a ≠ b → (TJx4a65c a).2.1 ≠ (TJx4a65c b).2.1 := by decide +kernel
theorem tyJx4a65c_ok : ∀ k, k < 3 → parseFieldDescriptor (TJx4a65c k).2.2.1 = some (tyJx4a65c k) := by decide +kernel
abbrev cJx4a65c_init_da8c8 : ByteArray := prog_40_method_2_code
def yJx4a65c_init_da8c8 : MethodName := ⟨RJx4a65c, "<init>", "()V"⟩
abbrev cJx4a65c_grow_92f84 : ByteArray := prog_40_method_6_code
def yJx4a65c_grow_92f84 : MethodName := ⟨RJx4a65c, "grow", "(I)[Ljava/lang/Object;"⟩
abbrev cJx4a65c_grow_d5877 : ByteArray := prog_40_method_7_code
def yJx4a65c_grow_d5877 : MethodName := ⟨RJx4a65c, "grow", "()[Ljava/lang/Object;"⟩
abbrev cJx4a65c_size_8abf5 : ByteArray := prog_40_method_8_code
def yJx4a65c_size_8abf5 : MethodName := ⟨RJx4a65c, "size", "()I"⟩
abbrev cJx4a65c_isEmpty_aae02 : ByteArray := prog_40_method_9_code
def yJx4a65c_isEmpty_aae02 : MethodName := ⟨RJx4a65c, "isEmpty", "()Z"⟩
abbrev cJx4a65c_elementData_915e3 : ByteArray := prog_40_method_18_code
def yJx4a65c_elementData_915e3 : MethodName := ⟨RJx4a65c, "elementData", "(I)Ljava/lang/Object;"⟩
abbrev cJx4a65c_get_915e3 : ByteArray := prog_40_method_20_code
def yJx4a65c_get_915e3 : MethodName := ⟨RJx4a65c, "get", "(I)Ljava/lang/Object;"⟩
abbrev cJx4a65c_add_72be8 : ByteArray := prog_40_method_24_code
def yJx4a65c_add_72be8 : MethodName := ⟨RJx4a65c, "add", "(Ljava/lang/Object;[Ljava/lang/Object;I)V"⟩
abbrev cJx4a65c_add_9ea2d : ByteArray := prog_40_method_25_code
def yJx4a65c_add_9ea2d : MethodName := ⟨RJx4a65c, "add", "(Ljava/lang/Object;)Z"⟩
abbrev cJx4a65c_iterator_32c93 : ByteArray := prog_40_method_55_code
def yJx4a65c_iterator_32c93 : MethodName := ⟨RJx4a65c, "iterator", "()Ljava/util/Iterator;"⟩
def RJ7 : String := "java/util/Arrays"
def TJ7 : u_T := fun k => match k with
  | _ => ("", "", "", false)
def tyJ7 : Nat → FieldType := fun k => match k with
  | _ => .int
abbrev wsJ70 : List Cond := u_ws RJ7 TJ7 0
theorem nmJ7 : ∀ a, a < 0 → ∀ b, b < 0 → a ≠ b → (TJ7 a).2.1 ≠ (TJ7 b).2.1 := by decide +kernel
theorem tyJ7_ok : ∀ k, k < 0 → parseFieldDescriptor (TJ7 k).2.2.1 = some (tyJ7 k) := by decide +kernel
abbrev cJ7_copyOf_1904c : ByteArray := prog_42_method_119_code
def yJ7_copyOf_1904c : MethodName := ⟨RJ7, "copyOf", "([Ljava/lang/Object;I)[Ljava/lang/Object;"⟩
abbrev cJ7_copyOf_6403c : ByteArray := prog_42_method_120_code
def yJ7_copyOf_6403c : MethodName := ⟨RJ7, "copyOf", "([Ljava/lang/Object;ILjava/lang/Class;)[Ljava/lang/Object;"⟩
abbrev cJ7_copyOf_9075b : ByteArray := prog_42_method_121_code
def yJ7_copyOf_9075b : MethodName := ⟨RJ7, "copyOf", "([BI)[B"⟩
abbrev cJ7_checkLength_df160 : ByteArray := prog_42_method_131_code
def yJ7_checkLength_df160 : MethodName := ⟨RJ7, "checkLength", "(II)V"⟩
abbrev cJ7_copyOfRange_39247 : ByteArray := prog_42_method_132_code
def yJ7_copyOfRange_39247 : MethodName := ⟨RJ7, "copyOfRange", "([BII)[B"⟩
abbrev cJ7_copyOfRangeByte_39247 : ByteArray := prog_42_method_133_code
def yJ7_copyOfRangeByte_39247 : MethodName := ⟨RJ7, "copyOfRangeByte", "([BII)[B"⟩
def RJx5ef63 : String := "java/util/Collection"
def TJx5ef63 : u_T := fun k => match k with
  | _ => ("", "", "", false)
def tyJx5ef63 : Nat → FieldType := fun k => match k with
  | _ => .int
abbrev wsJx5ef630 : List Cond := u_ws RJx5ef63 TJx5ef63 0
theorem nmJx5ef63 : ∀ a, a < 0 → ∀ b, b < 0 → a ≠ b → (TJx5ef63 a).2.1 ≠ (TJx5ef63 b).2.1 := by decide +kernel
theorem tyJx5ef63_ok : ∀ k, k < 0 → parseFieldDescriptor (TJx5ef63 k).2.2.1 = some (tyJx5ef63 k) := by decide +kernel
def RJx4d0d8 : String := "java/util/Iterator"
def TJx4d0d8 : u_T := fun k => match k with
  | _ => ("", "", "", false)
def tyJx4d0d8 : Nat → FieldType := fun k => match k with
  | _ => .int
abbrev wsJx4d0d80 : List Cond := u_ws RJx4d0d8 TJx4d0d8 0
theorem nmJx4d0d8 : ∀ a, a < 0 → ∀ b, b < 0 → a ≠ b → (TJx4d0d8 a).2.1 ≠ (TJx4d0d8 b).2.1 := by decide +kernel
theorem tyJx4d0d8_ok : ∀ k, k < 0 → parseFieldDescriptor (TJx4d0d8 k).2.2.1 = some (tyJx4d0d8 k) := by decide +kernel
def RJxbd725 : String := "java/util/List"
def TJxbd725 : u_T := fun k => match k with
  | _ => ("", "", "", false)
def tyJxbd725 : Nat → FieldType := fun k => match k with
  | _ => .int
abbrev wsJxbd7250 : List Cond := u_ws RJxbd725 TJxbd725 0
theorem nmJxbd725 : ∀ a, a < 0 → ∀ b, b < 0 → a ≠ b → (TJxbd725 a).2.1 ≠ (TJxbd725 b).2.1 := by decide +kernel
theorem tyJxbd725_ok : ∀ k, k < 0 → parseFieldDescriptor (TJxbd725 k).2.2.1 = some (tyJxbd725 k) := by decide +kernel
def RJ15 : String := "java/util/Objects"
def TJ15 : u_T := fun k => match k with
  | _ => ("", "", "", false)
def tyJ15 : Nat → FieldType := fun k => match k with
  | _ => .int
abbrev wsJ150 : List Cond := u_ws RJ15 TJ15 0
theorem nmJ15 : ∀ a, a < 0 → ∀ b, b < 0 → a ≠ b → (TJ15 a).2.1 ≠ (TJ15 b).2.1 := by decide +kernel
theorem tyJ15_ok : ∀ k, k < 0 → parseFieldDescriptor (TJ15 k).2.2.1 = some (tyJ15 k) := by decide +kernel
abbrev cJ15_checkIndex_7cf53 : ByteArray := prog_46_method_17_code
def yJ15_checkIndex_7cf53 : MethodName := ⟨RJ15, "checkIndex", "(II)I"⟩
def RJxf0a74 : String := "java/util/RandomAccess"
def TJxf0a74 : u_T := fun k => match k with
  | _ => ("", "", "", false)
def tyJxf0a74 : Nat → FieldType := fun k => match k with
  | _ => .int
abbrev wsJxf0a740 : List Cond := u_ws RJxf0a74 TJxf0a74 0
theorem nmJxf0a74 : ∀ a, a < 0 → ∀ b, b < 0 → a ≠ b → (TJxf0a74 a).2.1 ≠ (TJxf0a74 b).2.1 := by decide +kernel
theorem tyJxf0a74_ok : ∀ k, k < 0 → parseFieldDescriptor (TJxf0a74 k).2.2.1 = some (tyJxf0a74 k) := by decide +kernel
def RJxa66e6 : String := "java/util/SequencedCollection"
def TJxa66e6 : u_T := fun k => match k with
  | _ => ("", "", "", false)
def tyJxa66e6 : Nat → FieldType := fun k => match k with
  | _ => .int
abbrev wsJxa66e60 : List Cond := u_ws RJxa66e6 TJxa66e6 0
theorem nmJxa66e6 : ∀ a, a < 0 → ∀ b, b < 0 → a ≠ b → (TJxa66e6 a).2.1 ≠ (TJxa66e6 b).2.1 := by decide +kernel
theorem tyJxa66e6_ok : ∀ k, k < 0 → parseFieldDescriptor (TJxa66e6 k).2.2.1 = some (tyJxa66e6 k) := by decide +kernel
def RJ8 : String := "jdk/internal/util/ArraysSupport"
def TJ8 : u_T := fun k => match k with
  | _ => ("", "", "", false)
def tyJ8 : Nat → FieldType := fun k => match k with
  | _ => .int
abbrev wsJ80 : List Cond := u_ws RJ8 TJ8 0
theorem nmJ8 : ∀ a, a < 0 → ∀ b, b < 0 → a ≠ b → (TJ8 a).2.1 ≠ (TJ8 b).2.1 := by decide +kernel
theorem tyJ8_ok : ∀ k, k < 0 → parseFieldDescriptor (TJ8 k).2.2.1 = some (tyJ8 k) := by decide +kernel
abbrev cJ8_newLength_cabcc : ByteArray := prog_49_method_27_code
def yJ8_newLength_cabcc : MethodName := ⟨RJ8, "newLength", "(III)I"⟩
abbrev cJ8_hugeLength_7cf53 : ByteArray := prog_49_method_28_code
def yJ8_hugeLength_7cf53 : MethodName := ⟨RJ8, "hugeLength", "(II)I"⟩
def RJ3 : String := "jdk/internal/util/Preconditions"
def TJ3 : u_T := fun k => match k with
  | _ => ("", "", "", false)
def tyJ3 : Nat → FieldType := fun k => match k with
  | _ => .int
abbrev wsJ30 : List Cond := u_ws RJ3 TJ3 0
theorem nmJ3 : ∀ a, a < 0 → ∀ b, b < 0 → a ≠ b → (TJ3 a).2.1 ≠ (TJ3 b).2.1 := by decide +kernel
theorem tyJ3_ok : ∀ k, k < 0 → parseFieldDescriptor (TJ3 k).2.2.1 = some (tyJ3 k) := by decide +kernel
abbrev cJ3_checkIndex_8e157 : ByteArray := prog_50_method_11_code
def yJ3_checkIndex_8e157 : MethodName := ⟨RJ3, "checkIndex", "(IILjava/util/function/BiFunction;)I"⟩
abbrev cJ3_checkFromToIndex_8c36e : ByteArray := prog_50_method_12_code
def yJ3_checkFromToIndex_8c36e : MethodName := ⟨RJ3, "checkFromToIndex", "(IIILjava/util/function/BiFunction;)I"⟩
abbrev cJ3_checkFromIndexSize_8c36e : ByteArray := prog_50_method_13_code
def yJ3_checkFromIndexSize_8c36e : MethodName := ⟨RJ3, "checkFromIndexSize", "(IIILjava/util/function/BiFunction;)I"⟩
def RL : String := "FirstdanceAgencyLaw"
abbrev cL_player : ByteArray := method_2_code
def yL_player : MethodName := ⟨RL, "player", "(LFirstdanceAgency;IIIILFirstdanceAgencyLaw$Out;)I"⟩
abbrev cL_learn : ByteArray := method_3_code
def yL_learn : MethodName := ⟨RL, "learn", "(LFirstdanceAgency;IILFirstdanceAgencyLaw$Out;)I"⟩
abbrev cL_song : ByteArray := method_4_code
def yL_song : MethodName := ⟨RL, "song", "(LFirstdanceAgency;IIIILFirstdanceAgencyLaw$Out;)I"⟩
abbrev cL_feud : ByteArray := method_5_code
def yL_feud : MethodName := ⟨RL, "feud", "(LFirstdanceAgency;IIZLFirstdanceAgencyLaw$Out;)I"⟩
abbrev cL_road : ByteArray := method_6_code
def yL_road : MethodName := ⟨RL, "road", "(LFirstdanceAgency;IIILFirstdanceAgencyLaw$Out;)I"⟩
abbrev cL_band : ByteArray := method_7_code
def yL_band : MethodName := ⟨RL, "band", "(LFirstdanceAgency;ILFirstdanceAgencyLaw$Out;)I"⟩
abbrev cL_ask : ByteArray := method_8_code
def yL_ask : MethodName := ⟨RL, "ask", "(LFirstdanceAgency;IIIIIILFirstdanceAgencyLaw$Out;)I"⟩
abbrev cL_fix : ByteArray := method_9_code
def yL_fix : MethodName := ⟨RL, "fix", "(LFirstdanceAgency;ILFirstdanceAgencyLaw$Out;)I"⟩
abbrev cL_cancel : ByteArray := method_10_code
def yL_cancel : MethodName := ⟨RL, "cancel", "(LFirstdanceAgency;ILFirstdanceAgencyLaw$Out;)I"⟩
abbrev cL_ill : ByteArray := method_11_code
def yL_ill : MethodName := ⟨RL, "ill", "(LFirstdanceAgency;IILFirstdanceAgencyLaw$Out;)I"⟩
abbrev cL_late : ByteArray := method_12_code
def yL_late : MethodName := ⟨RL, "late", "(LFirstdanceAgency;IILFirstdanceAgencyLaw$Out;)I"⟩
abbrev cL_pass : ByteArray := method_13_code
def yL_pass : MethodName := ⟨RL, "pass", "(LFirstdanceAgency;ILFirstdanceAgencyLaw$Out;)I"⟩
abbrev cL_ofPlayer : ByteArray := method_14_code
def yL_ofPlayer : MethodName := ⟨RL, "ofPlayer", "(LFirstdanceAgency;IILFirstdanceAgencyLaw$Out;)I"⟩
abbrev cL_ofSong : ByteArray := method_15_code
def yL_ofSong : MethodName := ⟨RL, "ofSong", "(LFirstdanceAgency;IILFirstdanceAgencyLaw$Out;)I"⟩
abbrev cL_ofBand : ByteArray := method_16_code
def yL_ofBand : MethodName := ⟨RL, "ofBand", "(LFirstdanceAgency;IILFirstdanceAgencyLaw$Out;)I"⟩
abbrev cL_ofWedding : ByteArray := method_17_code
def yL_ofWedding : MethodName := ⟨RL, "ofWedding", "(LFirstdanceAgency;IILFirstdanceAgencyLaw$Out;)I"⟩
abbrev cL_drive : ByteArray := method_18_code
def yL_drive : MethodName := ⟨RL, "drive", "(LFirstdanceAgency;IILFirstdanceAgencyLaw$Out;)I"⟩
abbrev cL_free : ByteArray := method_19_code
def yL_free : MethodName := ⟨RL, "free", "(LFirstdanceAgency;IILFirstdanceAgencyLaw$Out;)I"⟩
abbrev cL_filling : ByteArray := method_20_code
def yL_filling : MethodName := ⟨RL, "filling", "(LFirstdanceAgency;IILFirstdanceAgencyLaw$Out;)I"⟩
abbrev cL_set : ByteArray := method_21_code
def yL_set : MethodName := ⟨RL, "set", "(LFirstdanceAgency;IZLFirstdanceAgencyLaw$Out;)I"⟩
abbrev cL_songs : ByteArray := method_22_code
def yL_songs : MethodName := ⟨RL, "songs", "(LFirstdanceAgency;ILFirstdanceAgencyLaw$Out;)I"⟩
abbrev cL_desk : ByteArray := method_23_code
def yL_desk : MethodName := ⟨RL, "desk", "(LFirstdanceAgency;ILFirstdanceAgencyLaw$Out;)I"⟩
abbrev cL_tell : ByteArray := method_24_code
def yL_tell : MethodName := ⟨RL, "tell", "(LFirstdanceAgency;ILFirstdanceAgencyLaw$Out;)I"⟩
abbrev cL_wouldLose : ByteArray := method_25_code
def yL_wouldLose : MethodName := ⟨RL, "wouldLose", "(LFirstdanceAgency;IILFirstdanceAgencyLaw$Out;)I"⟩
abbrev cL_plan : ByteArray := method_26_code
def yL_plan : MethodName := ⟨RL, "plan", "(LFirstdanceAgency;IZLFirstdanceAgencyLaw$Out;)I"⟩
abbrev cL_wouldCancel : ByteArray := method_27_code
def yL_wouldCancel : MethodName := ⟨RL, "wouldCancel", "(LFirstdanceAgency;ILFirstdanceAgencyLaw$Out;)I"⟩
abbrev cL_key : ByteArray := method_28_code
def yL_key : MethodName := ⟨RL, "key", "(LFirstdanceAgency;ILFirstdanceAgencyLaw$Out;)I"⟩
abbrev cL_law : ByteArray := code
def yL_law : MethodName := ⟨RL, "law", "([I)Z"⟩
