def RX0 : String := "ShoeHouse$Affairs"
def TX0 : u_T := fun k => match k with
  | 0 => ("ShoeHouse$Affairs", "givers", "[I", true)
  | 1 => ("ShoeHouse$Affairs", "takers", "[I", true)
  | 2 => ("ShoeHouse$Affairs", "lentShoes", "[I", true)
  | 3 => ("ShoeHouse$Affairs", "shoes", "[I", true)
  | 4 => ("ShoeHouse$Affairs", "day", "[I", true)
  | 5 => ("ShoeHouse$Affairs", "rounds", "[I", true)
  | 6 => ("ShoeHouse$Affairs", "seenSigns", "[I", true)
  | 7 => ("ShoeHouse$Affairs", "lent", "I", false)
  | 8 => ("ShoeHouse$Affairs", "seenHour", "I", false)
  | _ => ("ShoeHouse$Affairs", "seenRooms", "I", false)
def tyX0 : Nat → FieldType := fun k => match k with
  | 0 => .array .int
  | 1 => .array .int
  | 2 => .array .int
  | 3 => .array .int
  | 4 => .array .int
  | 5 => .array .int
  | 6 => .array .int
  | 7 => .int
  | 8 => .int
  | _ => .int
theorem nmX0 : ∀ a, a < 10 → ∀ b, b < 10 → a ≠ b → (TX0 a).2.1 ≠ (TX0 b).2.1 := by decide +kernel
theorem tyX0_ok : ∀ k, k < 10 → parseFieldDescriptor (TX0 k).2.2.1 = some (tyX0 k) := by decide +kernel
abbrev cX0_init : ByteArray := prog_2_method_1_code
def yX0_init : MethodName := ⟨RX0, "<init>", "()V"⟩
abbrev cX0_begin : ByteArray := prog_2_method_2_code
def yX0_begin : MethodName := ⟨RX0, "begin", "(LShoeHouse$Plan;)V"⟩
abbrev cX0_copyFrom : ByteArray := prog_2_method_3_code
def yX0_copyFrom : MethodName := ⟨RX0, "copyFrom", "(LShoeHouse$Affairs;)V"⟩
abbrev cX0_shoesOf : ByteArray := prog_2_method_4_code
def yX0_shoesOf : MethodName := ⟨RX0, "shoesOf", "(II)I"⟩
abbrev cX0_shoeKinds : ByteArray := prog_2_method_5_code
def yX0_shoeKinds : MethodName := ⟨RX0, "shoeKinds", "(I)I"⟩
abbrev cX0_canLend : ByteArray := prog_2_method_6_code
def yX0_canLend : MethodName := ⟨RX0, "canLend", "(II)Z"⟩
abbrev cX0_handOver : ByteArray := prog_2_method_7_code
def yX0_handOver : MethodName := ⟨RX0, "handOver", "(III)V"⟩
abbrev cX0_handBack : ByteArray := prog_2_method_8_code
def yX0_handBack : MethodName := ⟨RX0, "handBack", "()V"⟩
abbrev cX0_move : ByteArray := prog_2_method_9_code
def yX0_move : MethodName := ⟨RX0, "move", "(III)V"⟩
abbrev cX0_doing : ByteArray := prog_2_method_10_code
def yX0_doing : MethodName := ⟨RX0, "doing", "(II)I"⟩
abbrev cX0_drawDay : ByteArray := prog_2_method_11_code
def yX0_drawDay : MethodName := ⟨RX0, "drawDay", "(LShoeHouse$Plan;I)V"⟩
abbrev cX0_hasSeen : ByteArray := prog_2_method_12_code
def yX0_hasSeen : MethodName := ⟨RX0, "hasSeen", "(II)Z"⟩
abbrev cX0_note : ByteArray := prog_2_method_13_code
def yX0_note : MethodName := ⟨RX0, "note", "(III)V"⟩
abbrev cX0_seeNothing : ByteArray := prog_2_method_14_code
def yX0_seeNothing : MethodName := ⟨RX0, "seeNothing", "()V"⟩
def RX1 : String := "ShoeHouse$Cases"
def TX1 : u_T := fun k => match k with
  | 0 => ("ShoeHouse$Cases", "plan", "LShoeHouse$Plan;", true)
  | 1 => ("ShoeHouse$Cases", "now", "LShoeHouse$Affairs;", true)
  | 2 => ("ShoeHouse$Cases", "doors", "LShoeHouse$Doors;", true)
  | 3 => ("ShoeHouse$Cases", "doings", "[I", true)
  | _ => ("ShoeHouse$Cases", "total", "I", false)
def tyX1 : Nat → FieldType := fun k => match k with
  | 0 => .object "ShoeHouse$Plan"
  | 1 => .object "ShoeHouse$Affairs"
  | 2 => .object "ShoeHouse$Doors"
  | 3 => .array .int
  | _ => .int
theorem nmX1 : ∀ a, a < 5 → ∀ b, b < 5 → a ≠ b → (TX1 a).2.1 ≠ (TX1 b).2.1 := by decide +kernel
theorem tyX1_ok : ∀ k, k < 5 → parseFieldDescriptor (TX1 k).2.2.1 = some (tyX1 k) := by decide +kernel
abbrev cX1_init : ByteArray := prog_3_method_1_code
def yX1_init : MethodName := ⟨RX1, "<init>", "(LShoeHouse$Plan;LShoeHouse$Affairs;LShoeHouse$Doors;)V"⟩
abbrev cX1_reckon : ByteArray := prog_3_method_2_code
def yX1_reckon : MethodName := ⟨RX1, "reckon", "()I"⟩
abbrev cX1_emptyRoomsHold : ByteArray := prog_3_method_3_code
def yX1_emptyRoomsHold : MethodName := ⟨RX1, "emptyRoomsHold", "()Z"⟩
abbrev cX1_doingsHeld : ByteArray := prog_3_method_4_code
def yX1_doingsHeld : MethodName := ⟨RX1, "doingsHeld", "(II)I"⟩
abbrev cX1_doingIn : ByteArray := prog_3_method_5_code
def yX1_doingIn : MethodName := ⟨RX1, "doingIn", "(II)I"⟩
abbrev cX1_casesWithout : ByteArray := prog_3_method_6_code
def yX1_casesWithout : MethodName := ⟨RX1, "casesWithout", "(I)I"⟩
abbrev cX1_surelyEmpty : ByteArray := prog_3_method_7_code
def yX1_surelyEmpty : MethodName := ⟨RX1, "surelyEmpty", "()I"⟩
abbrev cX1_surelyTaken : ByteArray := prog_3_method_8_code
def yX1_surelyTaken : MethodName := ⟨RX1, "surelyTaken", "()I"⟩
abbrev cX1_doorToKnockAt : ByteArray := prog_3_method_9_code
def yX1_doorToKnockAt : MethodName := ⟨RX1, "doorToKnockAt", "()I"⟩
abbrev cX1_roomsOf : ByteArray := prog_3_method_10_code
def yX1_roomsOf : MethodName := ⟨RX1, "roomsOf", "(I)I"⟩
def RX2 : String := "ShoeHouse$Deceit"
def TX2 : u_T := fun k => match k with
  | 0 => ("ShoeHouse$Deceit", "plan", "LShoeHouse$Plan;", true)
  | 1 => ("ShoeHouse$Deceit", "now", "LShoeHouse$Affairs;", true)
  | 2 => ("ShoeHouse$Deceit", "doors", "LShoeHouse$Doors;", true)
  | 3 => ("ShoeHouse$Deceit", "signs", "[I", true)
  | _ => ("ShoeHouse$Deceit", "groups", "[I", true)
def tyX2 : Nat → FieldType := fun k => match k with
  | 0 => .object "ShoeHouse$Plan"
  | 1 => .object "ShoeHouse$Affairs"
  | 2 => .object "ShoeHouse$Doors"
  | 3 => .array .int
  | _ => .array .int
theorem nmX2 : ∀ a, a < 5 → ∀ b, b < 5 → a ≠ b → (TX2 a).2.1 ≠ (TX2 b).2.1 := by decide +kernel
theorem tyX2_ok : ∀ k, k < 5 → parseFieldDescriptor (TX2 k).2.2.1 = some (tyX2 k) := by decide +kernel
abbrev cX2_init : ByteArray := prog_4_method_1_code
def yX2_init : MethodName := ⟨RX2, "<init>", "(LShoeHouse$Plan;LShoeHouse$Affairs;LShoeHouse$Doors;)V"⟩
abbrev cX2_fewestLiars : ByteArray := prog_4_method_2_code
def yX2_fewestLiars : MethodName := ⟨RX2, "fewestLiars", "(II)I"⟩
abbrev cX2_sortDoings : ByteArray := prog_4_method_3_code
def yX2_sortDoings : MethodName := ⟨RX2, "sortDoings", "(I)V"⟩
abbrev cX2_misleads : ByteArray := prog_4_method_4_code
def yX2_misleads : MethodName := ⟨RX2, "misleads", "(II)Z"⟩
def RX3 : String := "ShoeHouse$Doors"
def TX3 : u_T := fun k => match k with
  | 0 => ("ShoeHouse$Doors", "plan", "LShoeHouse$Plan;", true)
  | _ => ("ShoeHouse$Doors", "now", "LShoeHouse$Affairs;", true)
def tyX3 : Nat → FieldType := fun k => match k with
  | 0 => .object "ShoeHouse$Plan"
  | _ => .object "ShoeHouse$Affairs"
theorem nmX3 : ∀ a, a < 2 → ∀ b, b < 2 → a ≠ b → (TX3 a).2.1 ≠ (TX3 b).2.1 := by decide +kernel
theorem tyX3_ok : ∀ k, k < 2 → parseFieldDescriptor (TX3 k).2.2.1 = some (tyX3 k) := by decide +kernel
abbrev cX3_init : ByteArray := prog_5_method_1_code
def yX3_init : MethodName := ⟨RX3, "<init>", "(LShoeHouse$Plan;LShoeHouse$Affairs;)V"⟩
abbrev cX3_signOf : ByteArray := prog_5_method_2_code
def yX3_signOf : MethodName := ⟨RX3, "signOf", "(II)I"⟩
abbrev cX3_signAt : ByteArray := prog_5_method_3_code
def yX3_signAt : MethodName := ⟨RX3, "signAt", "(II)I"⟩
abbrev cX3_doingsBySign : ByteArray := prog_5_method_4_code
def yX3_doingsBySign : MethodName := ⟨RX3, "doingsBySign", "(III)I"⟩
abbrev cX3_chanceAt : ByteArray := prog_5_method_5_code
def yX3_chanceAt : MethodName := ⟨RX3, "chanceAt", "(II)I"⟩
abbrev cX3_worthOf : ByteArray := prog_5_method_6_code
def yX3_worthOf : MethodName := ⟨RX3, "worthOf", "(II)I"⟩
def RX4 : String := "ShoeHouse$Game"
def TX4 : u_T := fun k => match k with
  | 0 => ("ShoeHouse$Game", "plan", "LShoeHouse$Plan;", true)
  | 1 => ("ShoeHouse$Game", "doors", "LShoeHouse$Doors;", true)
  | 2 => ("ShoeHouse$Game", "worths", "[I", true)
  | 3 => ("ShoeHouse$Game", "crowd", "[I", true)
  | 4 => ("ShoeHouse$Game", "row", "[I", true)
  | _ => ("ShoeHouse$Game", "firstRow", "[I", true)
def tyX4 : Nat → FieldType := fun k => match k with
  | 0 => .object "ShoeHouse$Plan"
  | 1 => .object "ShoeHouse$Doors"
  | 2 => .array .int
  | 3 => .array .int
  | 4 => .array .int
  | _ => .array .int
theorem nmX4 : ∀ a, a < 6 → ∀ b, b < 6 → a ≠ b → (TX4 a).2.1 ≠ (TX4 b).2.1 := by decide +kernel
theorem tyX4_ok : ∀ k, k < 6 → parseFieldDescriptor (TX4 k).2.2.1 = some (tyX4 k) := by decide +kernel
abbrev cX4_init : ByteArray := prog_6_method_1_code
def yX4_init : MethodName := ⟨RX4, "<init>", "(LShoeHouse$Plan;LShoeHouse$Doors;)V"⟩
abbrev cX4_play : ByteArray := prog_6_method_2_code
def yX4_play : MethodName := ⟨RX4, "play", "(II)I"⟩
abbrev cX4_layRow : ByteArray := prog_6_method_3_code
def yX4_layRow : MethodName := ⟨RX4, "layRow", "(II)V"⟩
abbrev cX4_isAtRest : ByteArray := prog_6_method_4_code
def yX4_isAtRest : MethodName := ⟨RX4, "isAtRest", "(I)Z"⟩
abbrev cX4_share : ByteArray := prog_6_method_5_code
def yX4_share : MethodName := ⟨RX4, "share", "(II)I"⟩
def RX5 : String := "ShoeHouse$Lending"
def TX5 : u_T := fun k => match k with
  | 0 => ("ShoeHouse$Lending", "plan", "LShoeHouse$Plan;", true)
  | 1 => ("ShoeHouse$Lending", "now", "LShoeHouse$Affairs;", true)
  | 2 => ("ShoeHouse$Lending", "doors", "LShoeHouse$Doors;", true)
  | 3 => ("ShoeHouse$Lending", "wanted", "[I", true)
  | 4 => ("ShoeHouse$Lending", "spare", "[I", true)
  | 5 => ("ShoeHouse$Lending", "wantedBy", "[I", true)
  | 6 => ("ShoeHouse$Lending", "spareOf", "[I", true)
  | 7 => ("ShoeHouse$Lending", "found", "[I", true)
  | 8 => ("ShoeHouse$Lending", "lenders", "[I", true)
  | _ => ("ShoeHouse$Lending", "isKept", "Z", false)
def tyX5 : Nat → FieldType := fun k => match k with
  | 0 => .object "ShoeHouse$Plan"
  | 1 => .object "ShoeHouse$Affairs"
  | 2 => .object "ShoeHouse$Doors"
  | 3 => .array .int
  | 4 => .array .int
  | 5 => .array .int
  | 6 => .array .int
  | 7 => .array .int
  | 8 => .array .int
  | _ => .boolean
theorem nmX5 : ∀ a, a < 10 → ∀ b, b < 10 → a ≠ b → (TX5 a).2.1 ≠ (TX5 b).2.1 := by decide +kernel
theorem tyX5_ok : ∀ k, k < 10 → parseFieldDescriptor (TX5 k).2.2.1 = some (tyX5 k) := by decide +kernel
abbrev cX5_init : ByteArray := prog_7_method_1_code
def yX5_init : MethodName := ⟨RX5, "<init>", "(LShoeHouse$Plan;LShoeHouse$Affairs;LShoeHouse$Doors;)V"⟩
abbrev cX5_keepFewest : ByteArray := prog_7_method_2_code
def yX5_keepFewest : MethodName := ⟨RX5, "keepFewest", "(II)I"⟩
abbrev cX5_isShoeless : ByteArray := prog_7_method_3_code
def yX5_isShoeless : MethodName := ⟨RX5, "isShoeless", "(III)Z"⟩
abbrev cX5_helpfulShoes : ByteArray := prog_7_method_4_code
def yX5_helpfulShoes : MethodName := ⟨RX5, "helpfulShoes", "(III)I"⟩
abbrev cX5_countSpare : ByteArray := prog_7_method_5_code
def yX5_countSpare : MethodName := ⟨RX5, "countSpare", "(III)V"⟩
abbrev cX5_canServe : ByteArray := prog_7_method_6_code
def yX5_canServe : MethodName := ⟨RX5, "canServe", "()Z"⟩
abbrev cX5_serveAll : ByteArray := prog_7_method_7_code
def yX5_serveAll : MethodName := ⟨RX5, "serveAll", "()V"⟩
abbrev cX5_serve : ByteArray := prog_7_method_8_code
def yX5_serve : MethodName := ⟨RX5, "serve", "(I)V"⟩
abbrev cX5_canSpare : ByteArray := prog_7_method_9_code
def yX5_canSpare : MethodName := ⟨RX5, "canSpare", "(II)Z"⟩
def RX6 : String := "ShoeHouse$Plan"
def TX6 : u_T := fun k => match k with
  | 0 => ("ShoeHouse$Plan", "goods", "[I", true)
  | 1 => ("ShoeHouse$Plan", "tenant", "[I", true)
  | 2 => ("ShoeHouse$Plan", "home", "[I", true)
  | 3 => ("ShoeHouse$Plan", "feet", "[I", true)
  | 4 => ("ShoeHouse$Plan", "begins", "[I", true)
  | 5 => ("ShoeHouse$Plan", "told", "[I", true)
  | 6 => ("ShoeHouse$Plan", "law", "[I", true)
  | 7 => ("ShoeHouse$Plan", "rooms", "I", false)
  | 8 => ("ShoeHouse$Plan", "lodgers", "I", false)
  | 9 => ("ShoeHouse$Plan", "finders", "I", false)
  | 10 => ("ShoeHouse$Plan", "mays", "I", false)
  | _ => ("ShoeHouse$Plan", "lawsTold", "I", false)
def tyX6 : Nat → FieldType := fun k => match k with
  | 0 => .array .int
  | 1 => .array .int
  | 2 => .array .int
  | 3 => .array .int
  | 4 => .array .int
  | 5 => .array .int
  | 6 => .array .int
  | 7 => .int
  | 8 => .int
  | 9 => .int
  | 10 => .int
  | _ => .int
theorem nmX6 : ∀ a, a < 12 → ∀ b, b < 12 → a ≠ b → (TX6 a).2.1 ≠ (TX6 b).2.1 := by decide +kernel
theorem tyX6_ok : ∀ k, k < 12 → parseFieldDescriptor (TX6 k).2.2.1 = some (tyX6 k) := by decide +kernel
abbrev cX6_init : ByteArray := prog_8_method_1_code
def yX6_init : MethodName := ⟨RX6, "<init>", "()V"⟩
abbrev cX6_setFirstLaw : ByteArray := prog_8_method_2_code
def yX6_setFirstLaw : MethodName := ⟨RX6, "setFirstLaw", "()V"⟩
abbrev cX6_clear : ByteArray := prog_8_method_3_code
def yX6_clear : MethodName := ⟨RX6, "clear", "()V"⟩
abbrev cX6_copyFrom : ByteArray := prog_8_method_4_code
def yX6_copyFrom : MethodName := ⟨RX6, "copyFrom", "(LShoeHouse$Plan;)V"⟩
abbrev cX6_addRoom : ByteArray := prog_8_method_5_code
def yX6_addRoom : MethodName := ⟨RX6, "addRoom", "(I)V"⟩
abbrev cX6_addLodger : ByteArray := prog_8_method_6_code
def yX6_addLodger : MethodName := ⟨RX6, "addLodger", "(I)V"⟩
abbrev cX6_addFinder : ByteArray := prog_8_method_7_code
def yX6_addFinder : MethodName := ⟨RX6, "addFinder", "(I)V"⟩
abbrev cX6_addMay : ByteArray := prog_8_method_8_code
def yX6_addMay : MethodName := ⟨RX6, "addMay", "(IIII)V"⟩
abbrev cX6_addLaw : ByteArray := prog_8_method_9_code
def yX6_addLaw : MethodName := ⟨RX6, "addLaw", "(II)V"⟩
abbrev cX6_doings : ByteArray := prog_8_method_10_code
def yX6_doings : MethodName := ⟨RX6, "doings", "(II)I"⟩
abbrev cX6_canDo : ByteArray := prog_8_method_11_code
def yX6_canDo : MethodName := ⟨RX6, "canDo", "(II)Z"⟩
abbrev cX6_lawFor : ByteArray := prog_8_method_12_code
def yX6_lawFor : MethodName := ⟨RX6, "lawFor", "(I)I"⟩
abbrev cX6_doingsIn : ByteArray := prog_8_method_13_code
def yX6_doingsIn : MethodName := ⟨RX6, "doingsIn", "(II)I"⟩
abbrev cX6_rowsOf : ByteArray := prog_8_method_14_code
def yX6_rowsOf : MethodName := ⟨RX6, "rowsOf", "(I)I"⟩
def RX7 : String := "ShoeHouse$Reader"
def TX7 : u_T := fun k => match k with
  | 0 => ("ShoeHouse$Reader", "text", "[B", true)
  | 1 => ("ShoeHouse$Reader", "plan", "LShoeHouse$Plan;", true)
  | 2 => ("ShoeHouse$Reader", "end", "I", false)
  | 3 => ("ShoeHouse$Reader", "next", "I", false)
  | 4 => ("ShoeHouse$Reader", "token", "I", false)
  | 5 => ("ShoeHouse$Reader", "start", "I", false)
  | 6 => ("ShoeHouse$Reader", "value", "I", false)
  | 7 => ("ShoeHouse$Reader", "fault", "I", false)
  | _ => ("ShoeHouse$Reader", "place", "I", false)
def tyX7 : Nat → FieldType := fun k => match k with
  | 0 => .array .byte
  | 1 => .object "ShoeHouse$Plan"
  | 2 => .int
  | 3 => .int
  | 4 => .int
  | 5 => .int
  | 6 => .int
  | 7 => .int
  | _ => .int
theorem nmX7 : ∀ a, a < 9 → ∀ b, b < 9 → a ≠ b → (TX7 a).2.1 ≠ (TX7 b).2.1 := by decide +kernel
theorem tyX7_ok : ∀ k, k < 9 → parseFieldDescriptor (TX7 k).2.2.1 = some (tyX7 k) := by decide +kernel
abbrev cX7_init : ByteArray := prog_9_method_1_code
def yX7_init : MethodName := ⟨RX7, "<init>", "([BLShoeHouse$Plan;)V"⟩
abbrev cX7_read : ByteArray := prog_9_method_2_code
def yX7_read : MethodName := ⟨RX7, "read", "(I)I"⟩
abbrev cX7_readLine : ByteArray := prog_9_method_3_code
def yX7_readLine : MethodName := ⟨RX7, "readLine", "()V"⟩
abbrev cX7_readRoom : ByteArray := prog_9_method_4_code
def yX7_readRoom : MethodName := ⟨RX7, "readRoom", "()V"⟩
abbrev cX7_readLodger : ByteArray := prog_9_method_5_code
def yX7_readLodger : MethodName := ⟨RX7, "readLodger", "()V"⟩
abbrev cX7_readFinder : ByteArray := prog_9_method_6_code
def yX7_readFinder : MethodName := ⟨RX7, "readFinder", "()V"⟩
abbrev cX7_readMay : ByteArray := prog_9_method_7_code
def yX7_readMay : MethodName := ⟨RX7, "readMay", "()V"⟩
abbrev cX7_readDoing : ByteArray := prog_9_method_8_code
def yX7_readDoing : MethodName := ⟨RX7, "readDoing", "(I)I"⟩
abbrev cX7_readLaw : ByteArray := prog_9_method_9_code
def yX7_readLaw : MethodName := ⟨RX7, "readLaw", "()V"⟩
abbrev cX7_ownDoing : ByteArray := prog_9_method_10_code
def yX7_ownDoing : MethodName := ⟨RX7, "ownDoing", "()I"⟩
abbrev cX7_signTold : ByteArray := prog_9_method_11_code
def yX7_signTold : MethodName := ⟨RX7, "signTold", "()I"⟩
abbrev cX7_isFull : ByteArray := prog_9_method_12_code
def yX7_isFull : MethodName := ⟨RX7, "isFull", "(II)Z"⟩
abbrev cX7_toldNumber : ByteArray := prog_9_method_13_code
def yX7_toldNumber : MethodName := ⟨RX7, "toldNumber", "(I)I"⟩
abbrev cX7_numberWithin : ByteArray := prog_9_method_14_code
def yX7_numberWithin : MethodName := ⟨RX7, "numberWithin", "(II)I"⟩
abbrev cX7_faultOfNumber : ByteArray := prog_9_method_15_code
def yX7_faultOfNumber : MethodName := ⟨RX7, "faultOfNumber", "()I"⟩
abbrev cX7_refuse : ByteArray := prog_9_method_16_code
def yX7_refuse : MethodName := ⟨RX7, "refuse", "(I)I"⟩
abbrev cX7_isWord : ByteArray := prog_9_method_17_code
def yX7_isWord : MethodName := ⟨RX7, "isWord", "(Ljava/lang/String;)Z"⟩
abbrev cX7_advance : ByteArray := prog_9_method_18_code
def yX7_advance : MethodName := ⟨RX7, "advance", "()V"⟩
abbrev cX7_valueHere : ByteArray := prog_9_method_19_code
def yX7_valueHere : MethodName := ⟨RX7, "valueHere", "()I"⟩
abbrev cX7_takeRow : ByteArray := prog_9_method_20_code
def yX7_takeRow : MethodName := ⟨RX7, "takeRow", "(CC)V"⟩
def RX8 : String := "ShoeHouse$Slippers"
def TX8 : u_T := fun k => match k with
  | 0 => ("ShoeHouse$Slippers", "words", "[I", true)
  | 1 => ("ShoeHouse$Slippers", "many", "I", false)
  | _ => ("ShoeHouse$Slippers", "apart", "I", false)
def tyX8 : Nat → FieldType := fun k => match k with
  | 0 => .array .int
  | 1 => .int
  | _ => .int
theorem nmX8 : ∀ a, a < 3 → ∀ b, b < 3 → a ≠ b → (TX8 a).2.1 ≠ (TX8 b).2.1 := by decide +kernel
theorem tyX8_ok : ∀ k, k < 3 → parseFieldDescriptor (TX8 k).2.2.1 = some (tyX8 k) := by decide +kernel
abbrev cX8_init : ByteArray := prog_10_method_1_code
def yX8_init : MethodName := ⟨RX8, "<init>", "()V"⟩
abbrev cX8_lay : ByteArray := prog_10_method_2_code
def yX8_lay : MethodName := ⟨RX8, "lay", "(I)V"⟩
abbrev cX8_isApart : ByteArray := prog_10_method_3_code
def yX8_isApart : MethodName := ⟨RX8, "isApart", "(I)Z"⟩
abbrev cX8_kindsFor : ByteArray := prog_10_method_4_code
def yX8_kindsFor : MethodName := ⟨RX8, "kindsFor", "(I)I"⟩
abbrev cX8_mended : ByteArray := prog_10_method_5_code
def yX8_mended : MethodName := ⟨RX8, "mended", "(II)I"⟩
def RX9 : String := "ShoeHouse$Tape"
def TX9 : u_T := fun k => match k with
  | 0 => ("ShoeHouse$Tape", "bytes", "[B", true)
  | _ => ("ShoeHouse$Tape", "length", "I", false)
def tyX9 : Nat → FieldType := fun k => match k with
  | 0 => .array .byte
  | _ => .int
theorem nmX9 : ∀ a, a < 2 → ∀ b, b < 2 → a ≠ b → (TX9 a).2.1 ≠ (TX9 b).2.1 := by decide +kernel
theorem tyX9_ok : ∀ k, k < 2 → parseFieldDescriptor (TX9 k).2.2.1 = some (tyX9 k) := by decide +kernel
abbrev cX9_init : ByteArray := prog_11_method_1_code
def yX9_init : MethodName := ⟨RX9, "<init>", "()V"⟩
abbrev cX9_hasRoomFor : ByteArray := prog_11_method_2_code
def yX9_hasRoomFor : MethodName := ⟨RX9, "hasRoomFor", "(I)Z"⟩
abbrev cX9_append : ByteArray := prog_11_method_3_code
def yX9_append : MethodName := ⟨RX9, "append", "(I)V"⟩
def RX10 : String := "ShoeHouse$Walk"
def TX10 : u_T := fun k => match k with
  | 0 => ("ShoeHouse$Walk", "plan", "LShoeHouse$Plan;", true)
  | 1 => ("ShoeHouse$Walk", "doors", "LShoeHouse$Doors;", true)
  | 2 => ("ShoeHouse$Walk", "worths", "[I", true)
  | 3 => ("ShoeHouse$Walk", "row", "[I", true)
  | 4 => ("ShoeHouse$Walk", "rooms", "[I", true)
  | 5 => ("ShoeHouse$Walk", "looks", "[I", true)
  | _ => ("ShoeHouse$Walk", "length", "I", false)
def tyX10 : Nat → FieldType := fun k => match k with
  | 0 => .object "ShoeHouse$Plan"
  | 1 => .object "ShoeHouse$Doors"
  | 2 => .array .int
  | 3 => .array .int
  | 4 => .array .int
  | 5 => .array .int
  | _ => .int
theorem nmX10 : ∀ a, a < 7 → ∀ b, b < 7 → a ≠ b → (TX10 a).2.1 ≠ (TX10 b).2.1 := by decide +kernel
theorem tyX10_ok : ∀ k, k < 7 → parseFieldDescriptor (TX10 k).2.2.1 = some (tyX10 k) := by decide +kernel
abbrev cX10_init : ByteArray := prog_12_method_1_code
def yX10_init : MethodName := ⟨RX10, "<init>", "(LShoeHouse$Plan;LShoeHouse$Doors;)V"⟩
abbrev cX10_keepBest : ByteArray := prog_12_method_2_code
def yX10_keepBest : MethodName := ⟨RX10, "keepBest", "(III)I"⟩
abbrev cX10_weigh : ByteArray := prog_12_method_3_code
def yX10_weigh : MethodName := ⟨RX10, "weigh", "(II)V"⟩
abbrev cX10_layRow : ByteArray := prog_12_method_4_code
def yX10_layRow : MethodName := ⟨RX10, "layRow", "(III)Z"⟩
abbrev cX10_worthOfRow : ByteArray := prog_12_method_5_code
def yX10_worthOfRow : MethodName := ⟨RX10, "worthOfRow", "(I)I"⟩
abbrev cX10_isLook : ByteArray := prog_12_method_6_code
def yX10_isLook : MethodName := ⟨RX10, "isLook", "(II)Z"⟩
abbrev cX10_worthAt : ByteArray := prog_12_method_7_code
def yX10_worthAt : MethodName := ⟨RX10, "worthAt", "(I)I"⟩
abbrev cX10_keepRow : ByteArray := prog_12_method_8_code
def yX10_keepRow : MethodName := ⟨RX10, "keepRow", "(I)V"⟩
def RX11 : String := "ShoeHouse"
def TX11 : u_T := fun k => match k with
  | 0 => ("ShoeHouse", "tape", "LShoeHouse$Tape;", true)
  | 1 => ("ShoeHouse", "plan", "LShoeHouse$Plan;", true)
  | 2 => ("ShoeHouse", "draft", "LShoeHouse$Plan;", true)
  | 3 => ("ShoeHouse", "reader", "LShoeHouse$Reader;", true)
  | 4 => ("ShoeHouse", "now", "LShoeHouse$Affairs;", true)
  | 5 => ("ShoeHouse", "kept", "LShoeHouse$Affairs;", true)
  | 6 => ("ShoeHouse", "doors", "LShoeHouse$Doors;", true)
  | 7 => ("ShoeHouse", "held", "LShoeHouse$Cases;", true)
  | 8 => ("ShoeHouse", "deceit", "LShoeHouse$Deceit;", true)
  | 9 => ("ShoeHouse", "walk", "LShoeHouse$Walk;", true)
  | 10 => ("ShoeHouse", "game", "LShoeHouse$Game;", true)
  | 11 => ("ShoeHouse", "lending", "LShoeHouse$Lending;", true)
  | 12 => ("ShoeHouse", "slippers", "LShoeHouse$Slippers;", true)
  | 13 => ("ShoeHouse", "refused", "[I", true)
  | 14 => ("ShoeHouse", "faultPlace", "I", false)
  | _ => ("ShoeHouse", "isKept", "Z", false)
def tyX11 : Nat → FieldType := fun k => match k with
  | 0 => .object "ShoeHouse$Tape"
  | 1 => .object "ShoeHouse$Plan"
  | 2 => .object "ShoeHouse$Plan"
  | 3 => .object "ShoeHouse$Reader"
  | 4 => .object "ShoeHouse$Affairs"
  | 5 => .object "ShoeHouse$Affairs"
  | 6 => .object "ShoeHouse$Doors"
  | 7 => .object "ShoeHouse$Cases"
  | 8 => .object "ShoeHouse$Deceit"
  | 9 => .object "ShoeHouse$Walk"
  | 10 => .object "ShoeHouse$Game"
  | 11 => .object "ShoeHouse$Lending"
  | 12 => .object "ShoeHouse$Slippers"
  | 13 => .array .int
  | 14 => .int
  | _ => .boolean
theorem nmX11 : ∀ a, a < 16 → ∀ b, b < 16 → a ≠ b → (TX11 a).2.1 ≠ (TX11 b).2.1 := by decide +kernel
theorem tyX11_ok : ∀ k, k < 16 → parseFieldDescriptor (TX11 k).2.2.1 = some (tyX11 k) := by decide +kernel
abbrev cX11_init : ByteArray := prog_1_method_1_code
def yX11_init : MethodName := ⟨RX11, "<init>", "()V"⟩
abbrev cX11_feed : ByteArray := prog_1_method_2_code
def yX11_feed : MethodName := ⟨RX11, "feed", "(IIIII)I"⟩
abbrev cX11_house : ByteArray := prog_1_method_3_code
def yX11_house : MethodName := ⟨RX11, "house", "(I)I"⟩
abbrev cX11_fault : ByteArray := prog_1_method_4_code
def yX11_fault : MethodName := ⟨RX11, "fault", "()I"⟩
abbrev cX11_count : ByteArray := prog_1_method_5_code
def yX11_count : MethodName := ⟨RX11, "count", "(I)I"⟩
abbrev cX11_room : ByteArray := prog_1_method_6_code
def yX11_room : MethodName := ⟨RX11, "room", "(II)I"⟩
abbrev cX11_lodger : ByteArray := prog_1_method_7_code
def yX11_lodger : MethodName := ⟨RX11, "lodger", "(II)I"⟩
abbrev cX11_may : ByteArray := prog_1_method_8_code
def yX11_may : MethodName := ⟨RX11, "may", "(III)I"⟩
abbrev cX11_says : ByteArray := prog_1_method_9_code
def yX11_says : MethodName := ⟨RX11, "says", "(II)I"⟩
abbrev cX11_lend : ByteArray := prog_1_method_10_code
def yX11_lend : MethodName := ⟨RX11, "lend", "(III)I"⟩
abbrev cX11_back : ByteArray := prog_1_method_11_code
def yX11_back : MethodName := ⟨RX11, "back", "()I"⟩
abbrev cX11_draw : ByteArray := prog_1_method_12_code
def yX11_draw : MethodName := ⟨RX11, "draw", "(I)V"⟩
abbrev cX11_does : ByteArray := prog_1_method_13_code
def yX11_does : MethodName := ⟨RX11, "does", "(II)I"⟩
abbrev cX11_sign : ByteArray := prog_1_method_14_code
def yX11_sign : MethodName := ⟨RX11, "sign", "(II)I"⟩
abbrev cX11_look : ByteArray := prog_1_method_15_code
def yX11_look : MethodName := ⟨RX11, "look", "(III)I"⟩
abbrev cX11_theft : ByteArray := prog_1_method_16_code
def yX11_theft : MethodName := ⟨RX11, "theft", "(II)I"⟩
abbrev cX11_see : ByteArray := prog_1_method_17_code
def yX11_see : MethodName := ⟨RX11, "see", "(III)I"⟩
abbrev cX11_forget : ByteArray := prog_1_method_18_code
def yX11_forget : MethodName := ⟨RX11, "forget", "()I"⟩
abbrev cX11_cases : ByteArray := prog_1_method_19_code
def yX11_cases : MethodName := ⟨RX11, "cases", "()I"⟩
abbrev cX11_inCase : ByteArray := prog_1_method_20_code
def yX11_inCase : MethodName := ⟨RX11, "inCase", "(II)I"⟩
abbrev cX11_sure : ByteArray := prog_1_method_21_code
def yX11_sure : MethodName := ⟨RX11, "sure", "(I)I"⟩
abbrev cX11_where : ByteArray := prog_1_method_22_code
def yX11_where : MethodName := ⟨RX11, "where", "(I)I"⟩
abbrev cX11_misled : ByteArray := prog_1_method_23_code
def yX11_misled : MethodName := ⟨RX11, "misled", "(III)I"⟩
abbrev cX11_chance : ByteArray := prog_1_method_24_code
def yX11_chance : MethodName := ⟨RX11, "chance", "(II)I"⟩
abbrev cX11_round : ByteArray := prog_1_method_25_code
def yX11_round : MethodName := ⟨RX11, "round", "(III)I"⟩
abbrev cX11_path : ByteArray := prog_1_method_26_code
def yX11_path : MethodName := ⟨RX11, "path", "(II)I"⟩
abbrev cX11_rests : ByteArray := prog_1_method_27_code
def yX11_rests : MethodName := ⟨RX11, "rests", "(III)I"⟩
abbrev cX11_fewest : ByteArray := prog_1_method_28_code
def yX11_fewest : MethodName := ⟨RX11, "fewest", "(II)I"⟩
abbrev cX11_lender : ByteArray := prog_1_method_29_code
def yX11_lender : MethodName := ⟨RX11, "lender", "(I)I"⟩
abbrev cX11_kinds : ByteArray := prog_1_method_30_code
def yX11_kinds : MethodName := ⟨RX11, "kinds", "(II)I"⟩
abbrev cX11_word : ByteArray := prog_1_method_31_code
def yX11_word : MethodName := ⟨RX11, "word", "(II)I"⟩
abbrev cX11_mend : ByteArray := prog_1_method_32_code
def yX11_mend : MethodName := ⟨RX11, "mend", "(III)I"⟩
abbrev cX11_fire : ByteArray := prog_1_method_33_code
def yX11_fire : MethodName := ⟨RX11, "fire", "(IIIII)J"⟩
abbrev cX11_image : ByteArray := prog_1_method_34_code
def yX11_image : MethodName := ⟨RX11, "image", "()V"⟩
abbrev cX11_restore : ByteArray := prog_1_method_35_code
def yX11_restore : MethodName := ⟨RX11, "restore", "()Z"⟩
abbrev cX11_needRoom : ByteArray := prog_1_method_36_code
def yX11_needRoom : MethodName := ⟨RX11, "needRoom", "(I)V"⟩
abbrev cX11_needLodger : ByteArray := prog_1_method_37_code
def yX11_needLodger : MethodName := ⟨RX11, "needLodger", "(I)V"⟩
abbrev cX11_needHour : ByteArray := prog_1_method_38_code
def yX11_needHour : MethodName := ⟨RX11, "needHour", "(I)V"⟩
abbrev cX11_needOneOf : ByteArray := prog_1_method_39_code
def yX11_needOneOf : MethodName := ⟨RX11, "needOneOf", "(II)V"⟩
abbrev cX11_needWordCount : ByteArray := prog_1_method_40_code
def yX11_needWordCount : MethodName := ⟨RX11, "needWordCount", "(I)V"⟩
abbrev cX11_needApart : ByteArray := prog_1_method_41_code
def yX11_needApart : MethodName := ⟨RX11, "needApart", "(I)V"⟩
abbrev cX11_hourOfTheft : ByteArray := prog_1_method_42_code
def yX11_hourOfTheft : MethodName := ⟨RX11, "hourOfTheft", "(I)I"⟩
abbrev cX11_finderAt : ByteArray := prog_1_method_43_code
def yX11_finderAt : MethodName := ⟨RX11, "finderAt", "(II)I"⟩
abbrev cX11_partOfEscape : ByteArray := prog_1_method_44_code
def yX11_partOfEscape : MethodName := ⟨RX11, "partOfEscape", "(III)I"⟩
abbrev cX11_commonPart : ByteArray := prog_1_method_45_code
def yX11_commonPart : MethodName := ⟨RX11, "commonPart", "(II)I"⟩
abbrev cX11_nthBit : ByteArray := prog_1_method_46_code
def yX11_nthBit : MethodName := ⟨RX11, "nthBit", "(II)I"⟩
def RX12 : String := "ShoeHouseModel"
def TX12 : u_T := fun k => match k with
  | 0 => ("ShoeHouseModel", "thrown", "I", false)
  | 1 => ("ShoeHouseModel", "rooms", "I", false)
  | 2 => ("ShoeHouseModel", "lodgers", "I", false)
  | 3 => ("ShoeHouseModel", "finders", "I", false)
  | 4 => ("ShoeHouseModel", "mays", "I", false)
  | 5 => ("ShoeHouseModel", "goods", "[I", true)
  | 6 => ("ShoeHouseModel", "whose", "[I", true)
  | 7 => ("ShoeHouseModel", "home", "[I", true)
  | 8 => ("ShoeHouseModel", "shoes", "[I", true)
  | 9 => ("ShoeHouseModel", "begins", "[I", true)
  | 10 => ("ShoeHouseModel", "law", "[I", true)
  | 11 => ("ShoeHouseModel", "may", "[I", true)
  | 12 => ("ShoeHouseModel", "tape", "[I", true)
  | 13 => ("ShoeHouseModel", "taped", "I", false)
  | 14 => ("ShoeHouseModel", "faultKind", "I", false)
  | 15 => ("ShoeHouseModel", "faultPlace", "I", false)
  | 16 => ("ShoeHouseModel", "refused", "[I", true)
  | 17 => ("ShoeHouseModel", "size", "I", false)
  | 18 => ("ShoeHouseModel", "next", "I", false)
  | 19 => ("ShoeHouseModel", "sort", "I", false)
  | 20 => ("ShoeHouseModel", "place", "I", false)
  | 21 => ("ShoeHouseModel", "long0", "I", false)
  | 22 => ("ShoeHouseModel", "value", "I", false)
  | 23 => ("ShoeHouseModel", "word", "J", false)
  | 24 => ("ShoeHouseModel", "newRooms", "I", false)
  | 25 => ("ShoeHouseModel", "newLodgers", "I", false)
  | 26 => ("ShoeHouseModel", "newFinders", "I", false)
  | 27 => ("ShoeHouseModel", "newMays", "I", false)
  | 28 => ("ShoeHouseModel", "toldLaw", "I", false)
  | 29 => ("ShoeHouseModel", "newGoods", "[I", true)
  | 30 => ("ShoeHouseModel", "newWhose", "[I", true)
  | 31 => ("ShoeHouseModel", "newHome", "[I", true)
  | 32 => ("ShoeHouseModel", "newShoes", "[I", true)
  | 33 => ("ShoeHouseModel", "newBegins", "[I", true)
  | 34 => ("ShoeHouseModel", "newLaw", "[I", true)
  | 35 => ("ShoeHouseModel", "newMay", "[I", true)
  | 36 => ("ShoeHouseModel", "lent", "I", false)
  | 37 => ("ShoeHouseModel", "lending", "[I", true)
  | 38 => ("ShoeHouseModel", "day", "[I", true)
  | 39 => ("ShoeHouseModel", "looks", "[I", true)
  | 40 => ("ShoeHouseModel", "seenHour", "I", false)
  | 41 => ("ShoeHouseModel", "seenRooms", "I", false)
  | 42 => ("ShoeHouseModel", "seen", "[I", true)
  | 43 => ("ShoeHouseModel", "act", "[I", true)
  | 44 => ("ShoeHouseModel", "caseOf", "[I", true)
  | 45 => ("ShoeHouseModel", "cases", "I", false)
  | 46 => ("ShoeHouseModel", "doors", "[I", true)
  | 47 => ("ShoeHouseModel", "real", "[I", true)
  | 48 => ("ShoeHouseModel", "gains", "[I", true)
  | 49 => ("ShoeHouseModel", "path", "[I", true)
  | 50 => ("ShoeHouseModel", "kept", "[I", true)
  | 51 => ("ShoeHouseModel", "keptLook", "[I", true)
  | 52 => ("ShoeHouseModel", "pathLong", "I", false)
  | 53 => ("ShoeHouseModel", "spot", "[I", true)
  | 54 => ("ShoeHouseModel", "firstSpot", "[I", true)
  | 55 => ("ShoeHouseModel", "worth", "[I", true)
  | 56 => ("ShoeHouseModel", "hasLending", "Z", false)
  | 57 => ("ShoeHouseModel", "gets", "[I", true)
  | 58 => ("ShoeHouseModel", "keptGets", "[I", true)
  | 59 => ("ShoeHouseModel", "from", "I", false)
  | 60 => ("ShoeHouseModel", "to", "I", false)
  | 61 => ("ShoeHouseModel", "words", "[I", true)
  | 62 => ("ShoeHouseModel", "many", "I", false)
  | 63 => ("ShoeHouseModel", "hasImage", "Z", false)
  | 64 => ("ShoeHouseModel", "imageOf", "[I", true)
  | 65 => ("ShoeHouseModel", "imageLending", "[I", true)
  | 66 => ("ShoeHouseModel", "imageSeen", "[I", true)
  | 67 => ("ShoeHouseModel", "imageDay", "[I", true)
  | _ => ("ShoeHouseModel", "imageLooks", "[I", true)
def tyX12 : Nat → FieldType := fun k => match k with
  | 0 => .int
  | 1 => .int
  | 2 => .int
  | 3 => .int
  | 4 => .int
  | 5 => .array .int
  | 6 => .array .int
  | 7 => .array .int
  | 8 => .array .int
  | 9 => .array .int
  | 10 => .array .int
  | 11 => .array .int
  | 12 => .array .int
  | 13 => .int
  | 14 => .int
  | 15 => .int
  | 16 => .array .int
  | 17 => .int
  | 18 => .int
  | 19 => .int
  | 20 => .int
  | 21 => .int
  | 22 => .int
  | 23 => .long
  | 24 => .int
  | 25 => .int
  | 26 => .int
  | 27 => .int
  | 28 => .int
  | 29 => .array .int
  | 30 => .array .int
  | 31 => .array .int
  | 32 => .array .int
  | 33 => .array .int
  | 34 => .array .int
  | 35 => .array .int
  | 36 => .int
  | 37 => .array .int
  | 38 => .array .int
  | 39 => .array .int
  | 40 => .int
  | 41 => .int
  | 42 => .array .int
  | 43 => .array .int
  | 44 => .array .int
  | 45 => .int
  | 46 => .array .int
  | 47 => .array .int
  | 48 => .array .int
  | 49 => .array .int
  | 50 => .array .int
  | 51 => .array .int
  | 52 => .int
  | 53 => .array .int
  | 54 => .array .int
  | 55 => .array .int
  | 56 => .boolean
  | 57 => .array .int
  | 58 => .array .int
  | 59 => .int
  | 60 => .int
  | 61 => .array .int
  | 62 => .int
  | 63 => .boolean
  | 64 => .array .int
  | 65 => .array .int
  | 66 => .array .int
  | 67 => .array .int
  | _ => .array .int
theorem nmX12 : ∀ a, a < 69 → ∀ b, b < 69 → a ≠ b → (TX12 a).2.1 ≠ (TX12 b).2.1 := by decide +kernel
theorem tyX12_ok : ∀ k, k < 69 → parseFieldDescriptor (TX12 k).2.2.1 = some (tyX12 k) := by decide +kernel
abbrev cX12_init : ByteArray := prog_14_method_1_code
def yX12_init : MethodName := ⟨RX12, "<init>", "()V"⟩
abbrev cX12_thrown : ByteArray := prog_14_method_2_code
def yX12_thrown : MethodName := ⟨RX12, "thrown", "()I"⟩
abbrev cX12_right : ByteArray := prog_14_method_3_code
def yX12_right : MethodName := ⟨RX12, "right", "(ZI)Z"⟩
abbrev cX12_within : ByteArray := prog_14_method_4_code
def yX12_within : MethodName := ⟨RX12, "within", "(III)Z"⟩
abbrev cX12_off : ByteArray := prog_14_method_5_code
def yX12_off : MethodName := ⟨RX12, "off", "(II)I"⟩
abbrev cX12_bits : ByteArray := prog_14_method_6_code
def yX12_bits : MethodName := ⟨RX12, "bits", "(I)I"⟩
abbrev cX12_copies : ByteArray := prog_14_method_7_code
def yX12_copies : MethodName := ⟨RX12, "copies", "([I[I)V"⟩
abbrev cX12_feed : ByteArray := prog_14_method_8_code
def yX12_feed : MethodName := ⟨RX12, "feed", "(IIIII)I"⟩
abbrev cX12_lays : ByteArray := prog_14_method_9_code
def yX12_lays : MethodName := ⟨RX12, "lays", "(I)V"⟩
abbrev cX12_byteAt : ByteArray := prog_14_method_10_code
def yX12_byteAt : MethodName := ⟨RX12, "byteAt", "(I)I"⟩
abbrev cX12_isLetter : ByteArray := prog_14_method_11_code
def yX12_isLetter : MethodName := ⟨RX12, "isLetter", "(I)Z"⟩
abbrev cX12_isDigit : ByteArray := prog_14_method_12_code
def yX12_isDigit : MethodName := ⟨RX12, "isDigit", "(I)Z"⟩
abbrev cX12_steps : ByteArray := prog_14_method_13_code
def yX12_steps : MethodName := ⟨RX12, "steps", "()V"⟩
abbrev cX12_spelled : ByteArray := prog_14_method_14_code
def yX12_spelled : MethodName := ⟨RX12, "spelled", "(IIIIII)J"⟩
abbrev cX12_letters : ByteArray := prog_14_method_15_code
def yX12_letters : MethodName := ⟨RX12, "letters", "(I)J"⟩
abbrev cX12_is : ByteArray := prog_14_method_16_code
def yX12_is : MethodName := ⟨RX12, "is", "(I)Z"⟩
abbrev cX12_wrong : ByteArray := prog_14_method_17_code
def yX12_wrong : MethodName := ⟨RX12, "wrong", "(I)V"⟩
abbrev cX12_isGood : ByteArray := prog_14_method_18_code
def yX12_isGood : MethodName := ⟨RX12, "isGood", "()Z"⟩
abbrev cX12_need : ByteArray := prog_14_method_19_code
def yX12_need : MethodName := ⟨RX12, "need", "(Z)V"⟩
abbrev cX12_number : ByteArray := prog_14_method_20_code
def yX12_number : MethodName := ⟨RX12, "number", "(II)I"⟩
abbrev cX12_amongHere : ByteArray := prog_14_method_21_code
def yX12_amongHere : MethodName := ⟨RX12, "amongHere", "(I)Z"⟩
abbrev cX12_among : ByteArray := prog_14_method_22_code
def yX12_among : MethodName := ⟨RX12, "among", "(I)I"⟩
abbrev cX12_oneOf : ByteArray := prog_14_method_23_code
def yX12_oneOf : MethodName := ⟨RX12, "oneOf", "(II)I"⟩
abbrev cX12_readsLodger : ByteArray := prog_14_method_24_code
def yX12_readsLodger : MethodName := ⟨RX12, "readsLodger", "()V"⟩
abbrev cX12_readsMay : ByteArray := prog_14_method_25_code
def yX12_readsMay : MethodName := ⟨RX12, "readsMay", "()V"⟩
abbrev cX12_line : ByteArray := prog_14_method_26_code
def yX12_line : MethodName := ⟨RX12, "line", "()V"⟩
abbrev cX12_house : ByteArray := prog_14_method_27_code
def yX12_house : MethodName := ⟨RX12, "house", "(I)I"⟩
abbrev cX12_fault : ByteArray := prog_14_method_28_code
def yX12_fault : MethodName := ⟨RX12, "fault", "()I"⟩
abbrev cX12_lowest : ByteArray := prog_14_method_29_code
def yX12_lowest : MethodName := ⟨RX12, "lowest", "(I)I"⟩
abbrev cX12_count : ByteArray := prog_14_method_30_code
def yX12_count : MethodName := ⟨RX12, "count", "(I)I"⟩
abbrev cX12_isRoom : ByteArray := prog_14_method_31_code
def yX12_isRoom : MethodName := ⟨RX12, "isRoom", "(I)Z"⟩
abbrev cX12_isLodger : ByteArray := prog_14_method_32_code
def yX12_isLodger : MethodName := ⟨RX12, "isLodger", "(I)Z"⟩
abbrev cX12_isFinder : ByteArray := prog_14_method_33_code
def yX12_isFinder : MethodName := ⟨RX12, "isFinder", "(I)Z"⟩
abbrev cX12_isHour : ByteArray := prog_14_method_34_code
def yX12_isHour : MethodName := ⟨RX12, "isHour", "(I)Z"⟩
abbrev cX12_isTwo : ByteArray := prog_14_method_35_code
def yX12_isTwo : MethodName := ⟨RX12, "isTwo", "(I)Z"⟩
abbrev cX12_room : ByteArray := prog_14_method_36_code
def yX12_room : MethodName := ⟨RX12, "room", "(II)I"⟩
abbrev cX12_has : ByteArray := prog_14_method_37_code
def yX12_has : MethodName := ⟨RX12, "has", "(II)I"⟩
abbrev cX12_both : ByteArray := prog_14_method_38_code
def yX12_both : MethodName := ⟨RX12, "both", "(I)I"⟩
abbrev cX12_lawOf : ByteArray := prog_14_method_39_code
def yX12_lawOf : MethodName := ⟨RX12, "lawOf", "(I)I"⟩
abbrev cX12_signOf : ByteArray := prog_14_method_40_code
def yX12_signOf : MethodName := ⟨RX12, "signOf", "(II)I"⟩
abbrev cX12_lodger : ByteArray := prog_14_method_41_code
def yX12_lodger : MethodName := ⟨RX12, "lodger", "(II)I"⟩
abbrev cX12_toldOf : ByteArray := prog_14_method_42_code
def yX12_toldOf : MethodName := ⟨RX12, "toldOf", "(I)I"⟩
abbrev cX12_may : ByteArray := prog_14_method_43_code
def yX12_may : MethodName := ⟨RX12, "may", "(III)I"⟩
abbrev cX12_says : ByteArray := prog_14_method_44_code
def yX12_says : MethodName := ⟨RX12, "says", "(II)I"⟩
abbrev cX12_refuses : ByteArray := prog_14_method_45_code
def yX12_refuses : MethodName := ⟨RX12, "refuses", "(I)I"⟩
abbrev cX12_lend : ByteArray := prog_14_method_46_code
def yX12_lend : MethodName := ⟨RX12, "lend", "(III)I"⟩
abbrev cX12_back : ByteArray := prog_14_method_47_code
def yX12_back : MethodName := ⟨RX12, "back", "()I"⟩
abbrev cX12_draw : ByteArray := prog_14_method_48_code
def yX12_draw : MethodName := ⟨RX12, "draw", "(I)V"⟩
abbrev cX12_does : ByteArray := prog_14_method_49_code
def yX12_does : MethodName := ⟨RX12, "does", "(II)I"⟩
abbrev cX12_signAt : ByteArray := prog_14_method_50_code
def yX12_signAt : MethodName := ⟨RX12, "signAt", "(II)I"⟩
abbrev cX12_sign : ByteArray := prog_14_method_51_code
def yX12_sign : MethodName := ⟨RX12, "sign", "(II)I"⟩
abbrev cX12_look : ByteArray := prog_14_method_52_code
def yX12_look : MethodName := ⟨RX12, "look", "(III)I"⟩
abbrev cX12_theft : ByteArray := prog_14_method_53_code
def yX12_theft : MethodName := ⟨RX12, "theft", "(II)I"⟩
abbrev cX12_see : ByteArray := prog_14_method_54_code
def yX12_see : MethodName := ⟨RX12, "see", "(III)I"⟩
abbrev cX12_forget : ByteArray := prog_14_method_55_code
def yX12_forget : MethodName := ⟨RX12, "forget", "()I"⟩
abbrev cX12_hour : ByteArray := prog_14_method_56_code
def yX12_hour : MethodName := ⟨RX12, "hour", "()I"⟩
abbrev cX12_behind : ByteArray := prog_14_method_57_code
def yX12_behind : MethodName := ⟨RX12, "behind", "(III)I"⟩
abbrev cX12_counts : ByteArray := prog_14_method_58_code
def yX12_counts : MethodName := ⟨RX12, "counts", "(I)Z"⟩
abbrev cX12_isSpent : ByteArray := prog_14_method_59_code
def yX12_isSpent : MethodName := ⟨RX12, "isSpent", "(I)Z"⟩
abbrev cX12_fits : ByteArray := prog_14_method_60_code
def yX12_fits : MethodName := ⟨RX12, "fits", "(I[I)Z"⟩
abbrev cX12_seeks : ByteArray := prog_14_method_61_code
def yX12_seeks : MethodName := ⟨RX12, "seeks", "(II[I)V"⟩
abbrev cX12_cases : ByteArray := prog_14_method_62_code
def yX12_cases : MethodName := ⟨RX12, "cases", "()I"⟩
abbrev cX12_inCase : ByteArray := prog_14_method_63_code
def yX12_inCase : MethodName := ⟨RX12, "inCase", "(II)I"⟩
abbrev cX12_roomOf : ByteArray := prog_14_method_64_code
def yX12_roomOf : MethodName := ⟨RX12, "roomOf", "(II)I"⟩
abbrev cX12_isSomebody : ByteArray := prog_14_method_65_code
def yX12_isSomebody : MethodName := ⟨RX12, "isSomebody", "(II)Z"⟩
abbrev cX12_with : ByteArray := prog_14_method_66_code
def yX12_with : MethodName := ⟨RX12, "with", "(I)I"⟩
abbrev cX12_sure : ByteArray := prog_14_method_67_code
def yX12_sure : MethodName := ⟨RX12, "sure", "(I)I"⟩
abbrev cX12_where : ByteArray := prog_14_method_68_code
def yX12_where : MethodName := ⟨RX12, "where", "(I)I"⟩
abbrev cX12_turnsDoors : ByteArray := prog_14_method_69_code
def yX12_turnsDoors : MethodName := ⟨RX12, "turnsDoors", "(I)Z"⟩
abbrev cX12_another : ByteArray := prog_14_method_70_code
def yX12_another : MethodName := ⟨RX12, "another", "(II)I"⟩
abbrev cX12_misleads : ByteArray := prog_14_method_71_code
def yX12_misleads : MethodName := ⟨RX12, "misleads", "(III)Z"⟩
abbrev cX12_misled : ByteArray := prog_14_method_72_code
def yX12_misled : MethodName := ⟨RX12, "misled", "(III)I"⟩
abbrev cX12_chanceOf : ByteArray := prog_14_method_73_code
def yX12_chanceOf : MethodName := ⟨RX12, "chanceOf", "(II)I"⟩
abbrev cX12_chance : ByteArray := prog_14_method_74_code
def yX12_chance : MethodName := ⟨RX12, "chance", "(II)I"⟩
abbrev cX12_bestOf : ByteArray := prog_14_method_75_code
def yX12_bestOf : MethodName := ⟨RX12, "bestOf", "(II)I"⟩
abbrev cX12_all : ByteArray := prog_14_method_76_code
def yX12_all : MethodName := ⟨RX12, "all", "(I)I"⟩
abbrev cX12_turnsPath : ByteArray := prog_14_method_77_code
def yX12_turnsPath : MethodName := ⟨RX12, "turnsPath", "(I)Z"⟩
abbrev cX12_round : ByteArray := prog_14_method_78_code
def yX12_round : MethodName := ⟨RX12, "round", "(III)I"⟩
abbrev cX12_path : ByteArray := prog_14_method_79_code
def yX12_path : MethodName := ⟨RX12, "path", "(II)I"⟩
abbrev cX12_there : ByteArray := prog_14_method_80_code
def yX12_there : MethodName := ⟨RX12, "there", "(II)I"⟩
abbrev cX12_isRest : ByteArray := prog_14_method_81_code
def yX12_isRest : MethodName := ⟨RX12, "isRest", "(I)Z"⟩
abbrev cX12_rests : ByteArray := prog_14_method_82_code
def yX12_rests : MethodName := ⟨RX12, "rests", "(III)I"⟩
abbrev cX12_isNeedy : ByteArray := prog_14_method_83_code
def yX12_isNeedy : MethodName := ⟨RX12, "isNeedy", "(II)Z"⟩
abbrev cX12_isFree : ByteArray := prog_14_method_84_code
def yX12_isFree : MethodName := ⟨RX12, "isFree", "(II)Z"⟩
abbrev cX12_given : ByteArray := prog_14_method_85_code
def yX12_given : MethodName := ⟨RX12, "given", "(II)I"⟩
abbrev cX12_lendable : ByteArray := prog_14_method_86_code
def yX12_lendable : MethodName := ⟨RX12, "lendable", "(II)I"⟩
abbrev cX12_fewest : ByteArray := prog_14_method_87_code
def yX12_fewest : MethodName := ⟨RX12, "fewest", "(II)I"⟩
abbrev cX12_lender : ByteArray := prog_14_method_88_code
def yX12_lender : MethodName := ⟨RX12, "lender", "(I)I"⟩
abbrev cX12_apart : ByteArray := prog_14_method_89_code
def yX12_apart : MethodName := ⟨RX12, "apart", "(II)I"⟩
abbrev cX12_spells : ByteArray := prog_14_method_90_code
def yX12_spells : MethodName := ⟨RX12, "spells", "(I)V"⟩
abbrev cX12_isCode : ByteArray := prog_14_method_91_code
def yX12_isCode : MethodName := ⟨RX12, "isCode", "(II)Z"⟩
abbrev cX12_kinds : ByteArray := prog_14_method_92_code
def yX12_kinds : MethodName := ⟨RX12, "kinds", "(II)I"⟩
abbrev cX12_word : ByteArray := prog_14_method_93_code
def yX12_word : MethodName := ⟨RX12, "word", "(II)I"⟩
abbrev cX12_mend : ByteArray := prog_14_method_94_code
def yX12_mend : MethodName := ⟨RX12, "mend", "(III)I"⟩
abbrev cX12_fire : ByteArray := prog_14_method_95_code
def yX12_fire : MethodName := ⟨RX12, "fire", "(IIIII)J"⟩
abbrev cX12_image : ByteArray := prog_14_method_96_code
def yX12_image : MethodName := ⟨RX12, "image", "()V"⟩
abbrev cX12_restore : ByteArray := prog_14_method_97_code
def yX12_restore : MethodName := ⟨RX12, "restore", "()Z"⟩
def RJx145de : String := "java/io/Serializable"
def RJx9f9b0 : String := "java/lang/CharSequence"
def RJxb160c : String := "java/lang/Comparable"
def RJ6 : String := "java/lang/Integer"
abbrev cJ6_bitCount_0f7a4 : ByteArray := prog_20_method_49_code
def yJ6_bitCount_0f7a4 : MethodName := ⟨RJ6, "bitCount", "(I)I"⟩
def RJ9 : String := "java/lang/Math"
abbrev cJ9_abs_0f7a4 : ByteArray := prog_21_method_59_code
def yJ9_abs_0f7a4 : MethodName := ⟨RJ9, "abs", "(I)I"⟩
abbrev cJ9_max_7cf53 : ByteArray := prog_21_method_65_code
def yJ9_max_7cf53 : MethodName := ⟨RJ9, "max", "(II)I"⟩
abbrev cJ9_min_7cf53 : ByteArray := prog_21_method_69_code
def yJ9_min_7cf53 : MethodName := ⟨RJ9, "min", "(II)I"⟩
def RJ0 : String := "java/lang/String"
abbrev cJ0_length_8abf5 : ByteArray := prog_23_method_54_code
def yJ0_length_8abf5 : MethodName := ⟨RJ0, "length", "()I"⟩
abbrev cJ0_charAt_5068e : ByteArray := prog_23_method_56_code
def yJ0_charAt_5068e : MethodName := ⟨RJ0, "charAt", "(I)C"⟩
abbrev cJ0_coder_7d493 : ByteArray := prog_23_method_152_code
def yJ0_coder_7d493 : MethodName := ⟨RJ0, "coder", "()B"⟩
abbrev cJ0_isLatin1_aae02 : ByteArray := prog_23_method_154_code
def yJ0_isLatin1_aae02 : MethodName := ⟨RJ0, "isLatin1", "()Z"⟩
abbrev cJ0_checkIndex_df160 : ByteArray := prog_23_method_155_code
def yJ0_checkIndex_df160 : MethodName := ⟨RJ0, "checkIndex", "(II)V"⟩
def RJ1 : String := "java/lang/StringLatin1"
abbrev cJ1_charAt_3b067 : ByteArray := prog_24_method_2_code
def yJ1_charAt_3b067 : MethodName := ⟨RJ1, "charAt", "([BI)C"⟩
def RJ2 : String := "java/lang/StringUTF16"
abbrev cJ2_getChar_3b067 : ByteArray := prog_25_method_5_code
def yJ2_getChar_3b067 : MethodName := ⟨RJ2, "getChar", "([BI)C"⟩
abbrev cJ2_length_9d52b : ByteArray := prog_25_method_6_code
def yJ2_length_9d52b : MethodName := ⟨RJ2, "length", "([B)I"⟩
abbrev cJ2_charAt_3b067 : ByteArray := prog_25_method_83_code
def yJ2_charAt_3b067 : MethodName := ⟨RJ2, "charAt", "([BI)C"⟩
abbrev cJ2_checkIndex_2214a : ByteArray := prog_25_method_91_code
def yJ2_checkIndex_2214a : MethodName := ⟨RJ2, "checkIndex", "(I[B)V"⟩
def RJ10 : String := "java/lang/System"
def RJxfd54e : String := "java/lang/constant/Constable"
def RJx3cf43 : String := "java/lang/constant/ConstantDesc"
def RJ7 : String := "java/util/Arrays"
abbrev cJ7_fill_53178 : ByteArray := prog_30_method_103_code
def yJ7_fill_53178 : MethodName := ⟨RJ7, "fill", "([II)V"⟩
def RJ3 : String := "jdk/internal/util/Preconditions"
abbrev cJ3_checkIndex_8e157 : ByteArray := prog_32_method_11_code
def yJ3_checkIndex_8e157 : MethodName := ⟨RJ3, "checkIndex", "(IILjava/util/function/BiFunction;)I"⟩
def RL : String := "ShoeHouseLaw"
abbrev cL_house : ByteArray := method_3_code
def yL_house : MethodName := ⟨RL, "house", "(LShoeHouse;I[J)I"⟩
abbrev cL_count : ByteArray := method_4_code
def yL_count : MethodName := ⟨RL, "count", "(LShoeHouse;I[J)I"⟩
abbrev cL_room : ByteArray := method_5_code
def yL_room : MethodName := ⟨RL, "room", "(LShoeHouse;II[J)I"⟩
abbrev cL_lodger : ByteArray := method_6_code
def yL_lodger : MethodName := ⟨RL, "lodger", "(LShoeHouse;II[J)I"⟩
abbrev cL_may : ByteArray := method_7_code
def yL_may : MethodName := ⟨RL, "may", "(LShoeHouse;III[J)I"⟩
abbrev cL_says : ByteArray := method_8_code
def yL_says : MethodName := ⟨RL, "says", "(LShoeHouse;II[J)I"⟩
abbrev cL_lend : ByteArray := method_9_code
def yL_lend : MethodName := ⟨RL, "lend", "(LShoeHouse;III[J)I"⟩
abbrev cL_does : ByteArray := method_10_code
def yL_does : MethodName := ⟨RL, "does", "(LShoeHouse;II[J)I"⟩
abbrev cL_sign : ByteArray := method_11_code
def yL_sign : MethodName := ⟨RL, "sign", "(LShoeHouse;II[J)I"⟩
abbrev cL_look : ByteArray := method_12_code
def yL_look : MethodName := ⟨RL, "look", "(LShoeHouse;III[J)I"⟩
abbrev cL_theft : ByteArray := method_13_code
def yL_theft : MethodName := ⟨RL, "theft", "(LShoeHouse;II[J)I"⟩
abbrev cL_see : ByteArray := method_14_code
def yL_see : MethodName := ⟨RL, "see", "(LShoeHouse;III[J)I"⟩
abbrev cL_inCase : ByteArray := method_15_code
def yL_inCase : MethodName := ⟨RL, "inCase", "(LShoeHouse;II[J)I"⟩
abbrev cL_sure : ByteArray := method_16_code
def yL_sure : MethodName := ⟨RL, "sure", "(LShoeHouse;I[J)I"⟩
abbrev cL_where : ByteArray := method_17_code
def yL_where : MethodName := ⟨RL, "where", "(LShoeHouse;I[J)I"⟩
abbrev cL_misled : ByteArray := method_18_code
def yL_misled : MethodName := ⟨RL, "misled", "(LShoeHouse;III[J)I"⟩
abbrev cL_chance : ByteArray := method_19_code
def yL_chance : MethodName := ⟨RL, "chance", "(LShoeHouse;II[J)I"⟩
abbrev cL_round : ByteArray := method_20_code
def yL_round : MethodName := ⟨RL, "round", "(LShoeHouse;III[J)I"⟩
abbrev cL_path : ByteArray := method_21_code
def yL_path : MethodName := ⟨RL, "path", "(LShoeHouse;II[J)I"⟩
abbrev cL_rests : ByteArray := method_22_code
def yL_rests : MethodName := ⟨RL, "rests", "(LShoeHouse;III[J)I"⟩
abbrev cL_fewest : ByteArray := method_23_code
def yL_fewest : MethodName := ⟨RL, "fewest", "(LShoeHouse;II[J)I"⟩
abbrev cL_lender : ByteArray := method_24_code
def yL_lender : MethodName := ⟨RL, "lender", "(LShoeHouse;I[J)I"⟩
abbrev cL_kinds : ByteArray := method_25_code
def yL_kinds : MethodName := ⟨RL, "kinds", "(LShoeHouse;II[J)I"⟩
abbrev cL_word : ByteArray := method_26_code
def yL_word : MethodName := ⟨RL, "word", "(LShoeHouse;II[J)I"⟩
abbrev cL_mend : ByteArray := method_27_code
def yL_mend : MethodName := ⟨RL, "mend", "(LShoeHouse;III[J)I"⟩
abbrev cL_fire : ByteArray := method_28_code
def yL_fire : MethodName := ⟨RL, "fire", "(LShoeHouse;IIIII[J)I"⟩
abbrev cL_law : ByteArray := code
def yL_law : MethodName := ⟨RL, "law", "([I)Z"⟩
def zcl : List vw_C := [(RX0, TX0, 10), (RX1, TX1, 5), (RX2, TX2, 5), (RX3, TX3, 2), (RX4, TX4, 6), (RX5, TX5, 10), (RX6, TX6, 12), (RX7, TX7, 9), (RX8, TX8, 3), (RX9, TX9, 2), (RX10, TX10, 7), (RX11, TX11, 16), (RX12, TX12, 69)]
def tyT (ci : Nat) : Nat → FieldType := match ci with
  | 0 => tyX0
  | 1 => tyX1
  | 2 => tyX2
  | 3 => tyX3
  | 4 => tyX4
  | 5 => tyX5
  | 6 => tyX6
  | 7 => tyX7
  | 8 => tyX8
  | 9 => tyX9
  | 10 => tyX10
  | 11 => tyX11
  | _ => tyX12
theorem z_tab {w : Cond} (h : w ∈ tables_1) : w ∈ lw_tbl := List.mem_append_right _ h
abbrev zws : List Cond := lw_tbl.filter goodWord
theorem z_in {w : Cond} (h : w ∈ lw_tbl) (g : goodWord w = true) : w ∈ zws := List.mem_filter.mpr ⟨h, g⟩
theorem z_at {w : Cond} (i : Nat) (h : tables_1[i]? = some w) (g : goodWord w = true) : w ∈ zws := z_in (z_tab (List.mem_of_getElem? h)) g
theorem z_good : ∀ w ∈ zws, (w.onTables && w.keeps) = true ∨ ∃ ty, w = .arrayClass ty := fun w h => good_of_word (List.mem_filter.mp h).2
set_option maxRecDepth 100000 in
theorem z_lays0 : ∀ w ∈ u_ws RX0 TX0 10, w ∈ zws := by
  have h : (u_ws RX0 TX0 10) = [187, 189, 191, 193, 195, 197, 199, 201, 203, 205].filterMap (fun i => tables_1[i]?) := by decide +kernel
  have g : (u_ws RX0 TX0 10).all goodWord = true := by decide +kernel
  intro w hw
  have g1 := List.all_eq_true.mp g w hw
  rw [h] at hw
  obtain ⟨i, -, hi⟩ := List.mem_filterMap.mp hw
  exact z_at i hi g1
set_option maxRecDepth 100000 in
theorem z_lays1 : ∀ w ∈ u_ws RX1 TX1 5, w ∈ zws := by
  have h : (u_ws RX1 TX1 5) = [232, 234, 236, 238, 240].filterMap (fun i => tables_1[i]?) := by decide +kernel
  have g : (u_ws RX1 TX1 5).all goodWord = true := by decide +kernel
  intro w hw
  have g1 := List.all_eq_true.mp g w hw
  rw [h] at hw
  obtain ⟨i, -, hi⟩ := List.mem_filterMap.mp hw
  exact z_at i hi g1
set_option maxRecDepth 100000 in
theorem z_lays2 : ∀ w ∈ u_ws RX2 TX2 5, w ∈ zws := by
  have h : (u_ws RX2 TX2 5) = [254, 256, 258, 260, 262].filterMap (fun i => tables_1[i]?) := by decide +kernel
  have g : (u_ws RX2 TX2 5).all goodWord = true := by decide +kernel
  intro w hw
  have g1 := List.all_eq_true.mp g w hw
  rw [h] at hw
  obtain ⟨i, -, hi⟩ := List.mem_filterMap.mp hw
  exact z_at i hi g1
set_option maxRecDepth 100000 in
theorem z_lays3 : ∀ w ∈ u_ws RX3 TX3 2, w ∈ zws := by
  have h : (u_ws RX3 TX3 2) = [216, 218].filterMap (fun i => tables_1[i]?) := by decide +kernel
  have g : (u_ws RX3 TX3 2).all goodWord = true := by decide +kernel
  intro w hw
  have g1 := List.all_eq_true.mp g w hw
  rw [h] at hw
  obtain ⟨i, -, hi⟩ := List.mem_filterMap.mp hw
  exact z_at i hi g1
set_option maxRecDepth 100000 in
theorem z_lays4 : ∀ w ∈ u_ws RX4 TX4 6, w ∈ zws := by
  have h : (u_ws RX4 TX4 6) = [309, 311, 313, 315, 317, 319].filterMap (fun i => tables_1[i]?) := by decide +kernel
  have g : (u_ws RX4 TX4 6).all goodWord = true := by decide +kernel
  intro w hw
  have g1 := List.all_eq_true.mp g w hw
  rw [h] at hw
  obtain ⟨i, -, hi⟩ := List.mem_filterMap.mp hw
  exact z_at i hi g1
set_option maxRecDepth 100000 in
theorem z_lays5 : ∀ w ∈ u_ws RX5 TX5 10, w ∈ zws := by
  have h : (u_ws RX5 TX5 10) = [340, 342, 344, 346, 348, 350, 352, 354, 356, 358].filterMap (fun i => tables_1[i]?) := by decide +kernel
  have g : (u_ws RX5 TX5 10).all goodWord = true := by decide +kernel
  intro w hw
  have g1 := List.all_eq_true.mp g w hw
  rw [h] at hw
  obtain ⟨i, -, hi⟩ := List.mem_filterMap.mp hw
  exact z_at i hi g1
set_option maxRecDepth 100000 in
theorem z_lays6 : ∀ w ∈ u_ws RX6 TX6 12, w ∈ zws := by
  have h : (u_ws RX6 TX6 12) = [103, 105, 107, 109, 111, 113, 115, 117, 119, 121, 123, 125].filterMap (fun i => tables_1[i]?) := by decide +kernel
  have g : (u_ws RX6 TX6 12).all goodWord = true := by decide +kernel
  intro w hw
  have g1 := List.all_eq_true.mp g w hw
  rw [h] at hw
  obtain ⟨i, -, hi⟩ := List.mem_filterMap.mp hw
  exact z_at i hi g1
set_option maxRecDepth 100000 in
theorem z_lays7 : ∀ w ∈ u_ws RX7 TX7 9, w ∈ zws := by
  have h : (u_ws RX7 TX7 9) = [145, 147, 149, 151, 153, 155, 157, 159, 161].filterMap (fun i => tables_1[i]?) := by decide +kernel
  have g : (u_ws RX7 TX7 9).all goodWord = true := by decide +kernel
  intro w hw
  have g1 := List.all_eq_true.mp g w hw
  rw [h] at hw
  obtain ⟨i, -, hi⟩ := List.mem_filterMap.mp hw
  exact z_at i hi g1
set_option maxRecDepth 100000 in
theorem z_lays8 : ∀ w ∈ u_ws RX8 TX8 3, w ∈ zws := by
  have h : (u_ws RX8 TX8 3) = [372, 374, 376].filterMap (fun i => tables_1[i]?) := by decide +kernel
  have g : (u_ws RX8 TX8 3).all goodWord = true := by decide +kernel
  intro w hw
  have g1 := List.all_eq_true.mp g w hw
  rw [h] at hw
  obtain ⟨i, -, hi⟩ := List.mem_filterMap.mp hw
  exact z_at i hi g1
set_option maxRecDepth 100000 in
theorem z_lays9 : ∀ w ∈ u_ws RX9 TX9 2, w ∈ zws := by
  have h : (u_ws RX9 TX9 2) = [45, 47].filterMap (fun i => tables_1[i]?) := by decide +kernel
  have g : (u_ws RX9 TX9 2).all goodWord = true := by decide +kernel
  intro w hw
  have g1 := List.all_eq_true.mp g w hw
  rw [h] at hw
  obtain ⟨i, -, hi⟩ := List.mem_filterMap.mp hw
  exact z_at i hi g1
set_option maxRecDepth 100000 in
theorem z_lays10 : ∀ w ∈ u_ws RX10 TX10 7, w ∈ zws := by
  have h : (u_ws RX10 TX10 7) = [281, 283, 285, 287, 289, 291, 293].filterMap (fun i => tables_1[i]?) := by decide +kernel
  have g : (u_ws RX10 TX10 7).all goodWord = true := by decide +kernel
  intro w hw
  have g1 := List.all_eq_true.mp g w hw
  rw [h] at hw
  obtain ⟨i, -, hi⟩ := List.mem_filterMap.mp hw
  exact z_at i hi g1
set_option maxRecDepth 100000 in
theorem z_lays11 : ∀ w ∈ u_ws RX11 TX11 16, w ∈ zws := by
  have h : (u_ws RX11 TX11 16) = [395, 397, 399, 401, 403, 405, 407, 409, 411, 413, 415, 417, 419, 421, 423, 425].filterMap (fun i => tables_1[i]?) := by decide +kernel
  have g : (u_ws RX11 TX11 16).all goodWord = true := by decide +kernel
  intro w hw
  have g1 := List.all_eq_true.mp g w hw
  rw [h] at hw
  obtain ⟨i, -, hi⟩ := List.mem_filterMap.mp hw
  exact z_at i hi g1
set_option maxRecDepth 100000 in
theorem z_lays12 : ∀ w ∈ u_ws RX12 TX12 69, w ∈ zws := by
  have h : (u_ws RX12 TX12 69) = [1316, 1318, 1320, 1322, 1324, 1326, 1328, 1330, 1332, 1334, 1336, 1338, 1340, 1342, 1344, 1346, 1348, 1350, 1352, 1354, 1356, 1358, 1360, 1362, 1364, 1366, 1368, 1370, 1372, 1374, 1376, 1378, 1380, 1382, 1384, 1386, 1388, 1390, 1392, 1394, 1396, 1398, 1400, 1402, 1404, 1406, 1408, 1410, 1412, 1414, 1416, 1418, 1420, 1422, 1424, 1426, 1428, 1430, 1432, 1434, 1436, 1438, 1440, 1442, 1444, 1446, 1448, 1450, 1452].filterMap (fun i => tables_1[i]?) := by decide +kernel
  have g : (u_ws RX12 TX12 69).all goodWord = true := by decide +kernel
  intro w hw
  have g1 := List.all_eq_true.mp g w hw
  rw [h] at hw
  obtain ⟨i, -, hi⟩ := List.mem_filterMap.mp hw
  exact z_at i hi g1
theorem z_lays : ∀ (ci : Nat) (q : vw_C), zcl[ci]? = some q → ∀ w ∈ u_ws q.1 q.2.1 q.2.2, w ∈ zws
  | 0, _, h => by cases h; exact z_lays0
  | 1, _, h => by cases h; exact z_lays1
  | 2, _, h => by cases h; exact z_lays2
  | 3, _, h => by cases h; exact z_lays3
  | 4, _, h => by cases h; exact z_lays4
  | 5, _, h => by cases h; exact z_lays5
  | 6, _, h => by cases h; exact z_lays6
  | 7, _, h => by cases h; exact z_lays7
  | 8, _, h => by cases h; exact z_lays8
  | 9, _, h => by cases h; exact z_lays9
  | 10, _, h => by cases h; exact z_lays10
  | 11, _, h => by cases h; exact z_lays11
  | 12, _, h => by cases h; exact z_lays12
  | _ + 13, _, h => by cases h
theorem z_ty : ∀ (ci : Nat) (q : vw_C), zcl[ci]? = some q → ∀ k, k < q.2.2 → parseFieldDescriptor (q.2.1 k).2.2.1 = some (tyT ci k)
  | 0, _, h => by cases h; exact tyX0_ok
  | 1, _, h => by cases h; exact tyX1_ok
  | 2, _, h => by cases h; exact tyX2_ok
  | 3, _, h => by cases h; exact tyX3_ok
  | 4, _, h => by cases h; exact tyX4_ok
  | 5, _, h => by cases h; exact tyX5_ok
  | 6, _, h => by cases h; exact tyX6_ok
  | 7, _, h => by cases h; exact tyX7_ok
  | 8, _, h => by cases h; exact tyX8_ok
  | 9, _, h => by cases h; exact tyX9_ok
  | 10, _, h => by cases h; exact tyX10_ok
  | 11, _, h => by cases h; exact tyX11_ok
  | 12, _, h => by cases h; exact tyX12_ok
  | _ + 13, _, h => by cases h
theorem z_nm : ∀ (ci : Nat) (q : vw_C), zcl[ci]? = some q → ∀ a, a < q.2.2 → ∀ b, b < q.2.2 → a ≠ b → (q.2.1 a).2.1 ≠ (q.2.1 b).2.1
  | 0, _, h => by cases h; exact nmX0
  | 1, _, h => by cases h; exact nmX1
  | 2, _, h => by cases h; exact nmX2
  | 3, _, h => by cases h; exact nmX3
  | 4, _, h => by cases h; exact nmX4
  | 5, _, h => by cases h; exact nmX5
  | 6, _, h => by cases h; exact nmX6
  | 7, _, h => by cases h; exact nmX7
  | 8, _, h => by cases h; exact nmX8
  | 9, _, h => by cases h; exact nmX9
  | 10, _, h => by cases h; exact nmX10
  | 11, _, h => by cases h; exact nmX11
  | 12, _, h => by cases h; exact nmX12
  | _ + 13, _, h => by cases h
/-- the classes that speak, by number: 0 to 12 as in zcl, the law, and two of the JDK's -/
def zown (o : Nat) : String := match o with
  | 0 => RX0
  | 1 => RX1
  | 2 => RX2
  | 3 => RX3
  | 4 => RX4
  | 5 => RX5
  | 6 => RX6
  | 7 => RX7
  | 8 => RX8
  | 9 => RX9
  | 10 => RX10
  | 11 => RX11
  | 12 => RX12
  | 13 => RL
  | 14 => RJ6
  | _ => RJ7
/-- a method's own facts: its class, its code, its answer's type, its locals, its handlers, whether it is a constructor -/
abbrev zF : Type := Nat × ByteArray × Option FieldType × Nat × List (Nat × Nat × Nat × Nat) × Bool
