-- laid by wip/p30/names.py
def RX0 : String := "SorobanHall$Deck"
def TX0 : u_T := fun k => match k with
  | 0 => ("SorobanHall$Deck", "size", "I", false)
  | 1 => ("SorobanHall$Deck", "counting", "[I", true)
  | 2 => ("SorobanHall$Deck", "wear", "[I", true)
  | _ => ("SorobanHall$Deck", "kept", "[I", true)
def tyX0 : Nat → FieldType := fun k => match k with
  | 0 => .int
  | 1 => .array .int
  | 2 => .array .int
  | _ => .array .int
abbrev wsX00 : List Cond := u_ws RX0 TX0 4
theorem nmX0 : ∀ a, a < 4 → ∀ b, b < 4 → a ≠ b → (TX0 a).2.1 ≠ (TX0 b).2.1 := by decide +kernel
theorem tyX0_ok : ∀ k, k < 4 → parseFieldDescriptor (TX0 k).2.2.1 = some (tyX0 k) := by decide +kernel
abbrev cX0_init : ByteArray := prog_2_method_1_code
def yX0_init : MethodName := ⟨RX0, "<init>", "(I)V"⟩
abbrev cX0_countAt : ByteArray := prog_2_method_2_code
def yX0_countAt : MethodName := ⟨RX0, "countAt", "(I)I"⟩
abbrev cX0_wearAt : ByteArray := prog_2_method_3_code
def yX0_wearAt : MethodName := ⟨RX0, "wearAt", "(I)I"⟩
abbrev cX0_isWornAt : ByteArray := prog_2_method_4_code
def yX0_isWornAt : MethodName := ⟨RX0, "isWornAt", "(I)Z"⟩
abbrev cX0_canMove : ByteArray := prog_2_method_5_code
def yX0_canMove : MethodName := ⟨RX0, "canMove", "(II)Z"⟩
abbrev cX0_freshen : ByteArray := prog_2_method_6_code
def yX0_freshen : MethodName := ⟨RX0, "freshen", "(I)V"⟩
abbrev cX0_keepIn : ByteArray := prog_2_method_7_code
def yX0_keepIn : MethodName := ⟨RX0, "keepIn", "(I)V"⟩
abbrev cX0_restoreFrom : ByteArray := prog_2_method_8_code
def yX0_restoreFrom : MethodName := ⟨RX0, "restoreFrom", "(I)V"⟩
abbrev cX0_copyFrom : ByteArray := prog_2_method_9_code
def yX0_copyFrom : MethodName := ⟨RX0, "copyFrom", "(LSorobanHall$Deck;)V"⟩
def RX1 : String := "SorobanHall$Frame"
def TX1 : u_T := fun k => match k with
  | 0 => ("SorobanHall$Frame", "kind", "I", false)
  | 1 => ("SorobanHall$Frame", "rods", "I", false)
  | 2 => ("SorobanHall$Frame", "above", "LSorobanHall$Deck;", true)
  | 3 => ("SorobanHall$Frame", "below", "LSorobanHall$Deck;", true)
  | 4 => ("SorobanHall$Frame", "hand", "I", false)
  | 5 => ("SorobanHall$Frame", "seconds", "F", false)
  | 6 => ("SorobanHall$Frame", "pushes", "I", false)
  | 7 => ("SorobanHall$Frame", "beads", "I", false)
  | 8 => ("SorobanHall$Frame", "carries", "I", false)
  | 9 => ("SorobanHall$Frame", "loans", "I", false)
  | 10 => ("SorobanHall$Frame", "spilled", "I", false)
  | 11 => ("SorobanHall$Frame", "keptCount", "I", false)
  | _ => ("SorobanHall$Frame", "nextSlot", "I", false)
def tyX1 : Nat → FieldType := fun k => match k with
  | 0 => .int
  | 1 => .int
  | 2 => .object "SorobanHall$Deck"
  | 3 => .object "SorobanHall$Deck"
  | 4 => .int
  | 5 => .float
  | 6 => .int
  | 7 => .int
  | 8 => .int
  | 9 => .int
  | 10 => .int
  | 11 => .int
  | _ => .int
abbrev wsX10 : List Cond := u_ws RX1 TX1 13
theorem nmX1 : ∀ a, a < 13 → ∀ b, b < 13 → a ≠ b → (TX1 a).2.1 ≠ (TX1 b).2.1 := by decide +kernel
theorem tyX1_ok : ∀ k, k < 13 → parseFieldDescriptor (TX1 k).2.2.1 = some (tyX1 k) := by decide +kernel
abbrev cX1_init : ByteArray := prog_3_method_1_code
def yX1_init : MethodName := ⟨RX1, "<init>", "(II)V"⟩
abbrev cX1_copyFrom : ByteArray := prog_3_method_2_code
def yX1_copyFrom : MethodName := ⟨RX1, "copyFrom", "(LSorobanHall$Frame;)V"⟩
abbrev cX1_hasRod : ByteArray := prog_3_method_3_code
def yX1_hasRod : MethodName := ⟨RX1, "hasRod", "(I)Z"⟩
abbrev cX1_hasRodsFor : ByteArray := prog_3_method_4_code
def yX1_hasRodsFor : MethodName := ⟨RX1, "hasRodsFor", "(J)Z"⟩
abbrev cX1_valueAt : ByteArray := prog_3_method_5_code
def yX1_valueAt : MethodName := ⟨RX1, "valueAt", "(I)I"⟩
abbrev cX1_mostOfRod : ByteArray := prog_3_method_6_code
def yX1_mostOfRod : MethodName := ⟨RX1, "mostOfRod", "()I"⟩
abbrev cX1_shownNumber : ByteArray := prog_3_method_7_code
def yX1_shownNumber : MethodName := ⟨RX1, "shownNumber", "()J"⟩
abbrev cX1_isTidy : ByteArray := prog_3_method_8_code
def yX1_isTidy : MethodName := ⟨RX1, "isTidy", "()Z"⟩
abbrev cX1_moveHand : ByteArray := prog_3_method_9_code
def yX1_moveHand : MethodName := ⟨RX1, "moveHand", "(I)V"⟩
abbrev cX1_pushDeck : ByteArray := prog_3_method_10_code
def yX1_pushDeck : MethodName := ⟨RX1, "pushDeck", "(LSorobanHall$Deck;II)V"⟩
abbrev cX1_setRod : ByteArray := prog_3_method_11_code
def yX1_setRod : MethodName := ⟨RX1, "setRod", "(II)V"⟩
abbrev cX1_bestUp : ByteArray := prog_3_method_12_code
def yX1_bestUp : MethodName := ⟨RX1, "bestUp", "(III)I"⟩
abbrev cX1_setRods : ByteArray := prog_3_method_13_code
def yX1_setRods : MethodName := ⟨RX1, "setRods", "(J)V"⟩
abbrev cX1_digitAt : ByteArray := prog_3_method_14_code
def yX1_digitAt : MethodName := ⟨RX1, "digitAt", "(JI)I"⟩
abbrev cX1_bring : ByteArray := prog_3_method_15_code
def yX1_bring : MethodName := ⟨RX1, "bring", "(II)V"⟩
abbrev cX1_bringNumber : ByteArray := prog_3_method_16_code
def yX1_bringNumber : MethodName := ⟨RX1, "bringNumber", "(J)V"⟩
abbrev cX1_takeNumber : ByteArray := prog_3_method_17_code
def yX1_takeNumber : MethodName := ⟨RX1, "takeNumber", "(J)V"⟩
abbrev cX1_takeDigit : ByteArray := prog_3_method_18_code
def yX1_takeDigit : MethodName := ⟨RX1, "takeDigit", "(II)V"⟩
abbrev cX1_multiply : ByteArray := prog_3_method_19_code
def yX1_multiply : MethodName := ⟨RX1, "multiply", "(I)V"⟩
abbrev cX1_splitBy : ByteArray := prog_3_method_20_code
def yX1_splitBy : MethodName := ⟨RX1, "splitBy", "(I)I"⟩
abbrev cX1_shiftLeft : ByteArray := prog_3_method_21_code
def yX1_shiftLeft : MethodName := ⟨RX1, "shiftLeft", "()I"⟩
abbrev cX1_shiftRight : ByteArray := prog_3_method_22_code
def yX1_shiftRight : MethodName := ⟨RX1, "shiftRight", "()I"⟩
abbrev cX1_tidyRods : ByteArray := prog_3_method_23_code
def yX1_tidyRods : MethodName := ⟨RX1, "tidyRods", "()V"⟩
abbrev cX1_keepBeads : ByteArray := prog_3_method_24_code
def yX1_keepBeads : MethodName := ⟨RX1, "keepBeads", "()V"⟩
abbrev cX1_restoreBeads : ByteArray := prog_3_method_25_code
def yX1_restoreBeads : MethodName := ⟨RX1, "restoreBeads", "()V"⟩
abbrev cX1_greaseRod : ByteArray := prog_3_method_26_code
def yX1_greaseRod : MethodName := ⟨RX1, "greaseRod", "(I)I"⟩
abbrev cX1_factOfRod : ByteArray := prog_3_method_27_code
def yX1_factOfRod : MethodName := ⟨RX1, "factOfRod", "(II)I"⟩
abbrev cX1_factOfFrame : ByteArray := prog_3_method_28_code
def yX1_factOfFrame : MethodName := ⟨RX1, "factOfFrame", "(I)I"⟩
abbrev cX1_sumOfValues : ByteArray := prog_3_method_29_code
def yX1_sumOfValues : MethodName := ⟨RX1, "sumOfValues", "()I"⟩
abbrev cX1_beadsThatCount : ByteArray := prog_3_method_30_code
def yX1_beadsThatCount : MethodName := ⟨RX1, "beadsThatCount", "()I"⟩
abbrev cX1_waysToShow : ByteArray := prog_3_method_32_code
def yX1_waysToShow : MethodName := ⟨RX1, "waysToShow", "()J"⟩
abbrev cX1_waysOfRod : ByteArray := prog_3_method_33_code
def yX1_waysOfRod : MethodName := ⟨RX1, "waysOfRod", "(I)I"⟩
abbrev cX1_fewestBeadsToShow : ByteArray := prog_3_method_34_code
def yX1_fewestBeadsToShow : MethodName := ⟨RX1, "fewestBeadsToShow", "()I"⟩
abbrev cX1_fewestOfRod : ByteArray := prog_3_method_35_code
def yX1_fewestOfRod : MethodName := ⟨RX1, "fewestOfRod", "(I)I"⟩
def RX2 : String := "SorobanHall"
def TX2 : u_T := fun k => match k with
  | 0 => ("SorobanHall", "frames", "[LSorobanHall$Frame;", true)
  | 1 => ("SorobanHall", "trial", "LSorobanHall$Frame;", true)
  | 2 => ("SorobanHall", "frameCount", "I", false)
  | _ => ("SorobanHall", "refused", "I", false)
def tyX2 : Nat → FieldType := fun k => match k with
  | 0 => .array (.object "SorobanHall$Frame")
  | 1 => .object "SorobanHall$Frame"
  | 2 => .int
  | _ => .int
abbrev wsX20 : List Cond := u_ws RX2 TX2 4
theorem nmX2 : ∀ a, a < 4 → ∀ b, b < 4 → a ≠ b → (TX2 a).2.1 ≠ (TX2 b).2.1 := by decide +kernel
theorem tyX2_ok : ∀ k, k < 4 → parseFieldDescriptor (TX2 k).2.2.1 = some (tyX2 k) := by decide +kernel
abbrev cX2_init : ByteArray := prog_1_method_1_code
def yX2_init : MethodName := ⟨RX2, "<init>", "()V"⟩
abbrev cX2_frame : ByteArray := prog_1_method_2_code
def yX2_frame : MethodName := ⟨RX2, "frame", "(II)I"⟩
abbrev cX2_push : ByteArray := prog_1_method_3_code
def yX2_push : MethodName := ⟨RX2, "push", "(IIZI)I"⟩
abbrev cX2_set : ByteArray := prog_1_method_4_code
def yX2_set : MethodName := ⟨RX2, "set", "(III)I"⟩
abbrev cX2_add : ByteArray := prog_1_method_5_code
def yX2_add : MethodName := ⟨RX2, "add", "(II)I"⟩
abbrev cX2_off : ByteArray := prog_1_method_6_code
def yX2_off : MethodName := ⟨RX2, "off", "(II)I"⟩
abbrev cX2_times : ByteArray := prog_1_method_7_code
def yX2_times : MethodName := ⟨RX2, "times", "(II)I"⟩
abbrev cX2_divide : ByteArray := prog_1_method_8_code
def yX2_divide : MethodName := ⟨RX2, "divide", "(II)I"⟩
abbrev cX2_shift : ByteArray := prog_1_method_9_code
def yX2_shift : MethodName := ⟨RX2, "shift", "(IZ)I"⟩
abbrev cX2_tidy : ByteArray := prog_1_method_10_code
def yX2_tidy : MethodName := ⟨RX2, "tidy", "(I)I"⟩
abbrev cX2_show : ByteArray := prog_1_method_11_code
def yX2_show : MethodName := ⟨RX2, "show", "(II)I"⟩
abbrev cX2_clear : ByteArray := prog_1_method_12_code
def yX2_clear : MethodName := ⟨RX2, "clear", "(I)I"⟩
abbrev cX2_back : ByteArray := prog_1_method_13_code
def yX2_back : MethodName := ⟨RX2, "back", "(I)I"⟩
abbrev cX2_grease : ByteArray := prog_1_method_14_code
def yX2_grease : MethodName := ⟨RX2, "grease", "(II)I"⟩
abbrev cX2_number : ByteArray := prog_1_method_16_code
def yX2_number : MethodName := ⟨RX2, "number", "(I)J"⟩
abbrev cX2_ofFrame : ByteArray := prog_1_method_18_code
def yX2_ofFrame : MethodName := ⟨RX2, "ofFrame", "(II)I"⟩
abbrev cX2_seconds : ByteArray := prog_1_method_19_code
def yX2_seconds : MethodName := ⟨RX2, "seconds", "(I)D"⟩
abbrev cX2_many : ByteArray := prog_1_method_21_code
def yX2_many : MethodName := ⟨RX2, "many", "(I)I"⟩
abbrev cX2_would : ByteArray := prog_1_method_24_code
def yX2_would : MethodName := ⟨RX2, "would", "(III)I"⟩
abbrev cX2_wouldTake : ByteArray := prog_1_method_25_code
def yX2_wouldTake : MethodName := ⟨RX2, "wouldTake", "(II)D"⟩
abbrev cX2_quicker : ByteArray := prog_1_method_26_code
def yX2_quicker : MethodName := ⟨RX2, "quicker", "(III)I"⟩
abbrev cX2_hardest : ByteArray := prog_1_method_27_code
def yX2_hardest : MethodName := ⟨RX2, "hardest", "(II)I"⟩
abbrev cX2_digest : ByteArray := prog_1_method_28_code
def yX2_digest : MethodName := ⟨RX2, "digest", "()J"⟩
abbrev cX2_frameAt : ByteArray := prog_1_method_29_code
def yX2_frameAt : MethodName := ⟨RX2, "frameAt", "(I)LSorobanHall$Frame;"⟩
abbrev cX2_foundFrame : ByteArray := prog_1_method_30_code
def yX2_foundFrame : MethodName := ⟨RX2, "foundFrame", "(I)LSorobanHall$Frame;"⟩
abbrev cX2_foundFrameWithRod : ByteArray := prog_1_method_31_code
def yX2_foundFrameWithRod : MethodName := ⟨RX2, "foundFrameWithRod", "(II)LSorobanHall$Frame;"⟩
abbrev cX2_refuseUnlessFits : ByteArray := prog_1_method_32_code
def yX2_refuseUnlessFits : MethodName := ⟨RX2, "refuseUnlessFits", "(LSorobanHall$Frame;I)V"⟩
abbrev cX2_refuseUnlessBelow : ByteArray := prog_1_method_33_code
def yX2_refuseUnlessBelow : MethodName := ⟨RX2, "refuseUnlessBelow", "(II)V"⟩
abbrev cX2_factOfHall : ByteArray := prog_1_method_34_code
def yX2_factOfHall : MethodName := ⟨RX2, "factOfHall", "(I)I"⟩
abbrev cX2_pushesOfAll : ByteArray := prog_1_method_35_code
def yX2_pushesOfAll : MethodName := ⟨RX2, "pushesOfAll", "()I"⟩
abbrev cX2_spilledByAll : ByteArray := prog_1_method_36_code
def yX2_spilledByAll : MethodName := ⟨RX2, "spilledByAll", "()I"⟩
abbrev cX2_pairsThatShowTheSame : ByteArray := prog_1_method_37_code
def yX2_pairsThatShowTheSame : MethodName := ⟨RX2, "pairsThatShowTheSame", "()I"⟩
abbrev cX2_countByAdding : ByteArray := prog_1_method_38_code
def yX2_countByAdding : MethodName := ⟨RX2, "countByAdding", "(LSorobanHall$Frame;II)I"⟩
abbrev cX2_secondsByAdding : ByteArray := prog_1_method_39_code
def yX2_secondsByAdding : MethodName := ⟨RX2, "secondsByAdding", "(LSorobanHall$Frame;I)D"⟩
abbrev cX2_quickerToAdd : ByteArray := prog_1_method_40_code
def yX2_quickerToAdd : MethodName := ⟨RX2, "quickerToAdd", "(III)I"⟩
abbrev cX2_hardestDigit : ByteArray := prog_1_method_41_code
def yX2_hardestDigit : MethodName := ⟨RX2, "hardestDigit", "(LSorobanHall$Frame;I)I"⟩
abbrev cX2_mixed : ByteArray := prog_1_method_42_code
def yX2_mixed : MethodName := ⟨RX2, "mixed", "(JJ)J"⟩
abbrev cX2_mixedWithFrame : ByteArray := prog_1_method_43_code
def yX2_mixedWithFrame : MethodName := ⟨RX2, "mixedWithFrame", "(JLSorobanHall$Frame;)J"⟩
def RX3 : String := "SorobanHallLaw$Told"
def TX3 : u_T := fun k => match k with
  | 0 => ("SorobanHallLaw$Told", "m", "LSorobanHall;", true)
  | 1 => ("SorobanHallLaw$Told", "s", "[I", true)
  | 2 => ("SorobanHallLaw$Told", "draws", "I", false)
  | 3 => ("SorobanHallLaw$Told", "number", "I", false)
  | 4 => ("SorobanHallLaw$Told", "kind", "I", false)
  | 5 => ("SorobanHallLaw$Told", "up", "[I", false)
  | 6 => ("SorobanHallLaw$Told", "down", "[I", false)
  | 7 => ("SorobanHallLaw$Told", "wear", "[[I", false)
  | 8 => ("SorobanHallLaw$Told", "kept", "[[I", false)
  | 9 => ("SorobanHallLaw$Told", "sums", "[I", false)
  | 10 => ("SorobanHallLaw$Told", "hand", "I", false)
  | _ => ("SorobanHallLaw$Told", "time", "J", false)
def tyX3 : Nat → FieldType := fun k => match k with
  | 0 => .object "SorobanHall"
  | 1 => .array .int
  | 2 => .int
  | 3 => .int
  | 4 => .int
  | 5 => .array .int
  | 6 => .array .int
  | 7 => .array (.array .int)
  | 8 => .array (.array .int)
  | 9 => .array .int
  | 10 => .int
  | _ => .long
abbrev wsX30 : List Cond := u_ws RX3 TX3 12
theorem nmX3 : ∀ a, a < 12 → ∀ b, b < 12 → a ≠ b → (TX3 a).2.1 ≠ (TX3 b).2.1 := by decide +kernel
theorem tyX3_ok : ∀ k, k < 12 → parseFieldDescriptor (TX3 k).2.2.1 = some (tyX3 k) := by decide +kernel
abbrev cX3_init : ByteArray := prog_5_method_1_code
def yX3_init : MethodName := ⟨RX3, "<init>", "(LSorobanHall;[II)V"⟩
abbrev cX3_draw : ByteArray := prog_5_method_2_code
def yX3_draw : MethodName := ⟨RX3, "draw", "(I)I"⟩
abbrev cX3_frame : ByteArray := prog_5_method_3_code
def yX3_frame : MethodName := ⟨RX3, "frame", "(I)Z"⟩
abbrev cX3_ups : ByteArray := prog_5_method_4_code
def yX3_ups : MethodName := ⟨RX3, "ups", "()I"⟩
abbrev cX3_downs : ByteArray := prog_5_method_5_code
def yX3_downs : MethodName := ⟨RX3, "downs", "()I"⟩
abbrev cX3_most : ByteArray := prog_5_method_6_code
def yX3_most : MethodName := ⟨RX3, "most", "()I"⟩
abbrev cX3_value : ByteArray := prog_5_method_7_code
def yX3_value : MethodName := ⟨RX3, "value", "(I)I"⟩
abbrev cX3_total : ByteArray := prog_5_method_8_code
def yX3_total : MethodName := ⟨RX3, "total", "()J"⟩
abbrev cX3_isTidy : ByteArray := prog_5_method_9_code
def yX3_isTidy : MethodName := ⟨RX3, "isTidy", "()Z"⟩
abbrev cX3_keep : ByteArray := prog_5_method_10_code
def yX3_keep : MethodName := ⟨RX3, "keep", "()V"⟩
abbrev cX3_move : ByteArray := prog_5_method_11_code
def yX3_move : MethodName := ⟨RX3, "move", "(III)V"⟩
abbrev cX3_set : ByteArray := prog_5_method_12_code
def yX3_set : MethodName := ⟨RX3, "set", "(II)V"⟩
abbrev cX3_pushes : ByteArray := prog_5_method_13_code
def yX3_pushes : MethodName := ⟨RX3, "pushes", "(III)I"⟩
abbrev cX3_beads : ByteArray := prog_5_method_14_code
def yX3_beads : MethodName := ⟨RX3, "beads", "(III)I"⟩
abbrev cX3_bring : ByteArray := prog_5_method_15_code
def yX3_bring : MethodName := ⟨RX3, "bring", "(II)V"⟩
abbrev cX3_digits : ByteArray := prog_5_method_16_code
def yX3_digits : MethodName := ⟨RX3, "digits", "(JI)[I"⟩
abbrev cX3_adds : ByteArray := prog_5_method_17_code
def yX3_adds : MethodName := ⟨RX3, "adds", "(I)V"⟩
abbrev cX3_some : ByteArray := prog_5_method_18_code
def yX3_some : MethodName := ⟨RX3, "some", "()I"⟩
abbrev cX3_add : ByteArray := prog_5_method_19_code
def yX3_add : MethodName := ⟨RX3, "add", "()Z"⟩
abbrev cX3_off : ByteArray := prog_5_method_20_code
def yX3_off : MethodName := ⟨RX3, "off", "()Z"⟩
abbrev cX3_times : ByteArray := prog_5_method_21_code
def yX3_times : MethodName := ⟨RX3, "times", "()Z"⟩
abbrev cX3_divide : ByteArray := prog_5_method_22_code
def yX3_divide : MethodName := ⟨RX3, "divide", "()Z"⟩
abbrev cX3_shift : ByteArray := prog_5_method_23_code
def yX3_shift : MethodName := ⟨RX3, "shift", "()Z"⟩
abbrev cX3_tidy : ByteArray := prog_5_method_24_code
def yX3_tidy : MethodName := ⟨RX3, "tidy", "()Z"⟩
abbrev cX3_clear : ByteArray := prog_5_method_25_code
def yX3_clear : MethodName := ⟨RX3, "clear", "()Z"⟩
abbrev cX3_sets : ByteArray := prog_5_method_26_code
def yX3_sets : MethodName := ⟨RX3, "sets", "()Z"⟩
abbrev cX3_push : ByteArray := prog_5_method_27_code
def yX3_push : MethodName := ⟨RX3, "push", "()Z"⟩
abbrev cX3_back : ByteArray := prog_5_method_28_code
def yX3_back : MethodName := ⟨RX3, "back", "()Z"⟩
abbrev cX3_grease : ByteArray := prog_5_method_29_code
def yX3_grease : MethodName := ⟨RX3, "grease", "()Z"⟩
abbrev cX3_act : ByteArray := prog_5_method_30_code
def yX3_act : MethodName := ⟨RX3, "act", "()Z"⟩
def RX4 : String := "SorobanHallModel$Frame"
def TX4 : u_T := fun k => match k with
  | _ => ("", "", "", false)
def tyX4 : Nat → FieldType := fun k => match k with
  | _ => .int
abbrev wsX40 : List Cond := u_ws RX4 TX4 0
theorem nmX4 : ∀ a, a < 0 → ∀ b, b < 0 → a ≠ b → (TX4 a).2.1 ≠ (TX4 b).2.1 := by decide +kernel
theorem tyX4_ok : ∀ k, k < 0 → parseFieldDescriptor (TX4 k).2.2.1 = some (tyX4 k) := by decide +kernel
def RX5 : String := "SorobanHallModel"
def TX5 : u_T := fun k => match k with
  | _ => ("", "", "", false)
def tyX5 : Nat → FieldType := fun k => match k with
  | _ => .int
abbrev wsX50 : List Cond := u_ws RX5 TX5 0
theorem nmX5 : ∀ a, a < 0 → ∀ b, b < 0 → a ≠ b → (TX5 a).2.1 ≠ (TX5 b).2.1 := by decide +kernel
theorem tyX5_ok : ∀ k, k < 0 → parseFieldDescriptor (TX5 k).2.2.1 = some (tyX5 k) := by decide +kernel
def RJ9 : String := "java/lang/Math"
def TJ9 : u_T := fun k => match k with
  | _ => ("", "", "", false)
def tyJ9 : Nat → FieldType := fun k => match k with
  | _ => .int
abbrev cJ9_abs_0f7a4 : ByteArray := prog_12_method_59_code
def yJ9_abs_0f7a4 : MethodName := ⟨RJ9, "abs", "(I)I"⟩
abbrev cJ9_min_7cf53 : ByteArray := prog_12_method_69_code
def yJ9_min_7cf53 : MethodName := ⟨RJ9, "min", "(II)I"⟩
def RL : String := "SorobanHallLaw"
abbrev cL_below : ByteArray := method_2_code
def yL_below : MethodName := ⟨RL, "below", "(II)I"⟩
abbrev cL_cell : ByteArray := method_3_code
def yL_cell : MethodName := ⟨RL, "cell", "([II)I"⟩
abbrev cL_law : ByteArray := code
def yL_law : MethodName := ⟨RL, "law", "([I)Z"⟩
abbrev cL_isTogether : ByteArray := method_5_code
def yL_isTogether : MethodName := ⟨RL, "isTogether", "(LSorobanHall;LSorobanHallLaw$Told;)Z"⟩
abbrev vwCl : List vw_C := [(RX0, TX0, 4), (RX1, TX1, 13), (RX2, TX2, 4), (RX3, TX3, 12)]
def LW_0 : List Cond := [.code yX0_init cX0_init 2 none, .methodLink RX0 3 objectInit, .instanceMethod objectInit, .code objectInit ⟨#[0xb1]⟩ 1 none, .arrayClass .int, .fieldLink RX0 9 "SorobanHall$Deck" "counting" "[I", .fieldLink RX0 15 "SorobanHall$Deck" "wear" "[I", .fieldLink RX0 18 "SorobanHall$Deck" "kept" "[I", .fieldLink RX0 21 "SorobanHall$Deck" "size" "I", .code yX0_countAt cX0_countAt 2 (some .int), .code yX0_wearAt cX0_wearAt 2 (some .int), .code yX0_isWornAt cX0_isWornAt 2 (some .boolean), .methodLink RX0 25 yX0_wearAt, .instanceMethod yX0_wearAt, .selects RX0 yX0_wearAt yX0_wearAt, .initialized RX0, .code yX0_canMove cX0_canMove 5 (some .boolean), .methodLink RX0 29 yX0_countAt, .instanceMethod yX0_countAt, .selects RX0 yX0_countAt yX0_countAt, .code yX0_freshen cX0_freshen 2 none, .code yX0_keepIn cX0_keepIn 4 none, .code yX0_restoreFrom cX0_restoreFrom 4 none, .code yX0_copyFrom cX0_copyFrom 3 none, .code yX1_init cX1_init 3 none, .methodLink RX1 3 objectInit, .fieldLink RX1 9 "SorobanHall$Frame" "kind" "I", .fieldLink RX1 15 "SorobanHall$Frame" "rods" "I", .classLink RX1 18 RX0, .instantiable RX0 4, .fieldLink RX1 27 "SorobanHall$Frame" "above" "LSorobanHall$Deck;", .fieldLink RX1 34 "SorobanHall$Frame" "below" "LSorobanHall$Deck;", .methodLink RX1 24 yX0_init, .instanceMethod yX0_init, .fieldLink RX1 41 "SorobanHall$Frame" "hand" "I", .fieldLink RX1 44 "SorobanHall$Frame" "seconds" "F", .fieldLink RX1 48 "SorobanHall$Frame" "pushes" "I", .fieldLink RX1 51 "SorobanHall$Frame" "beads" "I", .fieldLink RX1 54 "SorobanHall$Frame" "carries" "I", .fieldLink RX1 57 "SorobanHall$Frame" "loans" "I", .fieldLink RX1 60 "SorobanHall$Frame" "spilled" "I", .methodLink RX1 37 yX0_copyFrom, .instanceMethod yX0_copyFrom, .selects RX0 yX0_copyFrom yX0_copyFrom, .code yX1_copyFrom cX1_copyFrom 2 none, .code yX1_hasRod cX1_hasRod 2 (some .boolean), .code yX1_hasRodsFor cX1_hasRodsFor 6 (some .boolean), .constantLong RX1 63 (10), .code yX1_valueAt cX1_valueAt 2 (some .int), .methodLink RX1 65 yX0_countAt, .code yX1_mostOfRod cX1_mostOfRod 1 (some .int), .fieldLink RX1 69 "SorobanHall$Deck" "size" "I", .code yX1_shownNumber cX1_shownNumber 4 (some .long), .methodLink RX1 72 yX1_valueAt, .instanceMethod yX1_valueAt, .selects RX1 yX1_valueAt yX1_valueAt, .initialized RX1, .code yX1_isTidy cX1_isTidy 2 (some .boolean), .code yX1_moveHand cX1_moveHand 3 none, .methodLink RX1 75 Lib.Math.abs.name, .static Lib.Math.abs.name, .initialized "java/lang/Math", .code Lib.Math.abs.name Lib.Math.abs.code 1 (some .int), .constantFloat RX1 80 (1040187392), .code yX1_pushDeck cX1_pushDeck 6 none, .fieldLink RX1 81 "SorobanHall$Deck" "counting" "[I", .fieldLink RX1 84 "SorobanHall$Deck" "wear" "[I", .constantFloat RX1 87 (1048576000), .constantFloat RX1 88 (1031798784), .code yX1_bestUp cX1_bestUp 13 (some .int), .methodLink RX1 89 yX1_bestUp, .instanceMethod yX1_bestUp, .selects RX1 yX1_bestUp yX1_bestUp, .methodLink RX1 93 yX1_moveHand, .instanceMethod yX1_moveHand, .selects RX1 yX1_moveHand yX1_moveHand, .methodLink RX1 96 yX1_pushDeck, .instanceMethod yX1_pushDeck, .selects RX1 yX1_pushDeck yX1_pushDeck, .code yX1_setRod cX1_setRod 8 none]
def LW_1 : List Cond := [.code yX1_digitAt cX1_digitAt 6 (some .int), .methodLink RX1 100 yX1_digitAt, .static yX1_digitAt, .methodLink RX1 104 yX1_setRod, .instanceMethod yX1_setRod, .selects RX1 yX1_setRod yX1_setRod, .code yX1_setRods cX1_setRods 4 none, .code yX1_bring cX1_bring 6 none, .methodLink RX1 108 yX1_bring, .instanceMethod yX1_bring, .selects RX1 yX1_bring yX1_bring, .code yX1_bringNumber cX1_bringNumber 4 none, .code yX1_takeDigit cX1_takeDigit 6 none, .methodLink RX1 111 yX1_takeDigit, .instanceMethod yX1_takeDigit, .selects RX1 yX1_takeDigit yX1_takeDigit, .code yX1_takeNumber cX1_takeNumber 4 none, .code yX1_multiply cX1_multiply 4 none, .code yX1_splitBy cX1_splitBy 5 (some .int), .code yX1_shiftLeft cX1_shiftLeft 3 (some .int), .code yX1_shiftRight cX1_shiftRight 3 (some .int), .code yX1_tidyRods cX1_tidyRods 3 none, .code yX1_keepBeads cX1_keepBeads 1 none, .fieldLink RX1 114 "SorobanHall$Frame" "nextSlot" "I", .fieldLink RX1 120 "SorobanHall$Frame" "keptCount" "I", .methodLink RX1 117 yX0_keepIn, .instanceMethod yX0_keepIn, .selects RX0 yX0_keepIn yX0_keepIn, .code yX1_restoreBeads cX1_restoreBeads 1 none, .methodLink RX1 123 yX0_restoreFrom, .instanceMethod yX0_restoreFrom, .selects RX0 yX0_restoreFrom yX0_restoreFrom, .code yX1_greaseRod cX1_greaseRod 3 (some .int), .methodLink RX1 126 yX0_wearAt, .methodLink RX1 129 yX0_freshen, .instanceMethod yX0_freshen, .selects RX0 yX0_freshen yX0_freshen, .code yX1_factOfRod cX1_factOfRod 3 (some .int), .methodLink RX1 132 yX0_isWornAt, .instanceMethod yX0_isWornAt, .selects RX0 yX0_isWornAt yX0_isWornAt, .code yX1_sumOfValues cX1_sumOfValues 3 (some .int), .code yX1_beadsThatCount cX1_beadsThatCount 3 (some .int), .constantLong RX1 148 (11), .methodLink RX1 136 yX1_isTidy, .instanceMethod yX1_isTidy, .selects RX1 yX1_isTidy yX1_isTidy, .methodLink RX1 140 yX1_sumOfValues, .instanceMethod yX1_sumOfValues, .selects RX1 yX1_sumOfValues yX1_sumOfValues, .methodLink RX1 144 yX1_shownNumber, .instanceMethod yX1_shownNumber, .selects RX1 yX1_shownNumber yX1_shownNumber, .methodLink RX1 150 yX1_beadsThatCount, .instanceMethod yX1_beadsThatCount, .selects RX1 yX1_beadsThatCount yX1_beadsThatCount, .code yX1_factOfFrame cX1_factOfFrame 2 (some .int), .code yX1_waysOfRod cX1_waysOfRod 5 (some .int), .code yX1_waysToShow cX1_waysToShow 13 (some .long), .methodLink RX1 164 yX1_waysOfRod, .instanceMethod yX1_waysOfRod, .selects RX1 yX1_waysOfRod yX1_waysOfRod, .code yX1_fewestOfRod cX1_fewestOfRod 5 (some .int), .methodLink RX1 170 Lib.Math.min.name, .static Lib.Math.min.name, .code Lib.Math.min.name Lib.Math.min.code 2 (some .int), .methodLink RX1 167 yX1_fewestOfRod, .instanceMethod yX1_fewestOfRod, .selects RX1 yX1_fewestOfRod yX1_fewestOfRod, .code yX1_fewestBeadsToShow cX1_fewestBeadsToShow 9 (some .int), .methodLink RX2 1 objectInit, .classLink RX2 9 RX1, .fieldLink RX2 11 "SorobanHall" "frames" "[LSorobanHall$Frame;", .instantiable RX1 13, .fieldLink RX2 18 "SorobanHall" "trial" "LSorobanHall$Frame;", .methodLink RX2 15 yX1_init, .instanceMethod yX1_init, .code yX2_init cX2_init 1 none, .classLink RX2 26 "java/lang/IllegalArgumentException", .initialized "java/lang/IllegalArgumentException"]
def LW_2 : List Cond := [.classLink RX2 37 "java/lang/IllegalStateException", .initialized "java/lang/IllegalStateException", .fieldLink RX2 22 "SorobanHall" "BEADS_ABOVE" "[I", .fieldLink RX2 33 "SorobanHall" "frameCount" "I", .code yX2_frame cX2_frame 4 (some .int), .code yX2_frameAt cX2_frameAt 2 (some (.object "SorobanHall$Frame")), .code yX2_foundFrame cX2_foundFrame 3 (some (.object "SorobanHall$Frame")), .classLink RX2 217 "java/lang/IndexOutOfBoundsException", .initialized "java/lang/IndexOutOfBoundsException", .methodLink RX2 214 yX2_frameAt, .instanceMethod yX2_frameAt, .selects RX2 yX2_frameAt yX2_frameAt, .initialized RX2, .code yX2_foundFrameWithRod cX2_foundFrameWithRod 4 (some (.object "SorobanHall$Frame")), .methodLink RX2 90 yX2_foundFrame, .instanceMethod yX2_foundFrame, .selects RX2 yX2_foundFrame yX2_foundFrame, .methodLink RX2 222 yX1_hasRod, .instanceMethod yX1_hasRod, .selects RX1 yX1_hasRod yX1_hasRod, .fieldLink RX2 48 "SorobanHall$Frame" "above" "LSorobanHall$Deck;", .fieldLink RX2 52 "SorobanHall$Frame" "below" "LSorobanHall$Deck;", .methodLink RX2 42 yX2_foundFrameWithRod, .instanceMethod yX2_foundFrameWithRod, .selects RX2 yX2_foundFrameWithRod yX2_foundFrameWithRod, .methodLink RX2 55 yX0_canMove, .instanceMethod yX0_canMove, .selects RX0 yX0_canMove yX0_canMove, .methodLink RX2 63 yX1_keepBeads, .instanceMethod yX1_keepBeads, .selects RX1 yX1_keepBeads yX1_keepBeads, .methodLink RX2 66 yX1_moveHand, .methodLink RX2 70 yX1_pushDeck, .methodLink RX2 74 yX1_valueAt, .code yX2_push cX2_push 7 (some .int), .fieldLink RX2 84 "SorobanHall$Frame" "pushes" "I", .methodLink RX2 78 yX1_mostOfRod, .instanceMethod yX1_mostOfRod, .selects RX1 yX1_mostOfRod yX1_mostOfRod, .methodLink RX2 87 yX1_setRod, .code yX2_set cX2_set 6 (some .int), .code yX2_refuseUnlessFits cX2_refuseUnlessFits 2 none, .methodLink RX2 138 yX1_hasRodsFor, .instanceMethod yX1_hasRodsFor, .selects RX1 yX1_hasRodsFor yX1_hasRodsFor, .methodLink RX2 94 yX2_refuseUnlessFits, .static yX2_refuseUnlessFits, .methodLink RX2 98 yX1_bringNumber, .instanceMethod yX1_bringNumber, .selects RX1 yX1_bringNumber yX1_bringNumber, .code yX2_add cX2_add 5 (some .int), .methodLink RX2 102 yX1_isTidy, .methodLink RX2 106 yX1_shownNumber, .methodLink RX2 110 yX1_takeNumber, .instanceMethod yX1_takeNumber, .selects RX1 yX1_takeNumber yX1_takeNumber, .code yX2_off cX2_off 5 (some .int), .fieldLink RX2 115 "SorobanHall$Frame" "spilled" "I", .methodLink RX2 118 yX1_multiply, .instanceMethod yX1_multiply, .selects RX1 yX1_multiply yX1_multiply, .code yX2_times cX2_times 5 (some .int), .methodLink RX2 123 yX1_splitBy, .instanceMethod yX1_splitBy, .selects RX1 yX1_splitBy yX1_splitBy, .code yX2_divide cX2_divide 4 (some .int), .methodLink RX2 126 yX1_shiftLeft, .instanceMethod yX1_shiftLeft, .selects RX1 yX1_shiftLeft yX1_shiftLeft, .methodLink RX2 129 yX1_shiftRight, .instanceMethod yX1_shiftRight, .selects RX1 yX1_shiftRight yX1_shiftRight, .code yX2_shift cX2_shift 4 (some .int), .fieldLink RX2 132 "SorobanHall$Frame" "carries" "I", .methodLink RX2 135 yX1_tidyRods, .instanceMethod yX1_tidyRods, .selects RX1 yX1_tidyRods yX1_tidyRods, .code yX2_tidy cX2_tidy 4 (some .int), .methodLink RX2 142 yX1_setRods, .instanceMethod yX1_setRods]
def LW_3 : List Cond := [.selects RX1 yX1_setRods yX1_setRods, .code yX2_show cX2_show 7 (some .int), .code yX2_clear cX2_clear 4 (some .int), .fieldLink RX2 145 "SorobanHall$Frame" "keptCount" "I", .methodLink RX2 150 yX1_restoreBeads, .instanceMethod yX1_restoreBeads, .selects RX1 yX1_restoreBeads yX1_restoreBeads, .code yX2_back cX2_back 3 (some .int), .methodLink RX2 153 yX1_greaseRod, .instanceMethod yX1_greaseRod, .selects RX1 yX1_greaseRod yX1_greaseRod, .code yX2_grease cX2_grease 4 (some .int), .code yX2_number cX2_number 3 (some .long), .code yX2_refuseUnlessBelow cX2_refuseUnlessBelow 2 none, .methodLink RX2 159 yX2_refuseUnlessBelow, .static yX2_refuseUnlessBelow, .methodLink RX2 166 yX1_factOfFrame, .instanceMethod yX1_factOfFrame, .selects RX1 yX1_factOfFrame yX1_factOfFrame, .code yX2_ofFrame cX2_ofFrame 4 (some .int), .code yX2_seconds cX2_seconds 3 (some .double), .fieldLink RX2 169 "SorobanHall$Frame" "seconds" "F", .code yX2_pushesOfAll cX2_pushesOfAll 4 (some .int), .code yX2_spilledByAll cX2_spilledByAll 4 (some .int), .code yX2_pairsThatShowTheSame cX2_pairsThatShowTheSame 6 (some .int), .fieldLink RX2 156 "SorobanHall" "refused" "I", .methodLink RX2 232 yX2_pushesOfAll, .instanceMethod yX2_pushesOfAll, .selects RX2 yX2_pushesOfAll yX2_pushesOfAll, .methodLink RX2 235 yX2_spilledByAll, .instanceMethod yX2_spilledByAll, .selects RX2 yX2_spilledByAll yX2_spilledByAll, .methodLink RX2 238 yX2_pairsThatShowTheSame, .instanceMethod yX2_pairsThatShowTheSame, .selects RX2 yX2_pairsThatShowTheSame yX2_pairsThatShowTheSame, .code yX2_factOfHall cX2_factOfHall 2 (some .int), .methodLink RX2 177 yX2_factOfHall, .instanceMethod yX2_factOfHall, .selects RX2 yX2_factOfHall yX2_factOfHall, .code yX2_many cX2_many 2 (some .int), .fieldLink RX2 245 "SorobanHall$Frame" "beads" "I", .methodLink RX2 241 yX1_copyFrom, .instanceMethod yX1_copyFrom, .selects RX1 yX1_copyFrom yX1_copyFrom, .code yX2_countByAdding cX2_countByAdding 4 (some .int), .methodLink RX2 186 yX2_countByAdding, .instanceMethod yX2_countByAdding, .selects RX2 yX2_countByAdding yX2_countByAdding, .code yX2_would cX2_would 5 (some .int), .code yX2_secondsByAdding cX2_secondsByAdding 3 (some .double), .methodLink RX2 190 yX2_secondsByAdding, .instanceMethod yX2_secondsByAdding, .selects RX2 yX2_secondsByAdding yX2_secondsByAdding, .code yX2_wouldTake cX2_wouldTake 4 (some .double), .methodLink RX2 248 Lib.Math.min.name, .code yX2_quickerToAdd cX2_quickerToAdd 10 (some .int), .methodLink RX2 196 yX2_quickerToAdd, .instanceMethod yX2_quickerToAdd, .selects RX2 yX2_quickerToAdd yX2_quickerToAdd, .code yX2_quicker cX2_quicker 6 (some .int), .methodLink RX2 253 yX1_bring, .code yX2_hardestDigit cX2_hardestDigit 7 (some .int), .methodLink RX2 200 yX2_hardestDigit, .instanceMethod yX2_hardestDigit, .selects RX2 yX2_hardestDigit yX2_hardestDigit, .code yX2_hardest cX2_hardest 4 (some .int), .code yX2_mixed cX2_mixed 4 (some .long), .constantLong RX2 256 (31), .constantDouble RX2 258 (4625196817309499392), .fieldLink RX2 260 "SorobanHall$Frame" "rods" "I", .methodLink RX2 206 yX2_mixed, .static yX2_mixed, .methodLink RX2 180 yX1_waysToShow, .instanceMethod yX1_waysToShow, .selects RX1 yX1_waysToShow yX1_waysToShow, .methodLink RX2 183 yX1_fewestBeadsToShow, .instanceMethod yX1_fewestBeadsToShow, .selects RX1 yX1_fewestBeadsToShow yX1_fewestBeadsToShow, .methodLink RX2 162 yX1_factOfRod, .instanceMethod yX1_factOfRod]
def LW_4 : List Cond := [.selects RX1 yX1_factOfRod yX1_factOfRod, .code yX2_mixedWithFrame cX2_mixedWithFrame 8 (some .long), .constantLong RX2 204 (58320), .methodLink RX2 210 yX2_mixedWithFrame, .instanceMethod yX2_mixedWithFrame, .selects RX2 yX2_mixedWithFrame yX2_mixedWithFrame, .code yX2_digest cX2_digest 5 (some .long), .code yX3_init cX3_init 4 none, .methodLink RX3 1 objectInit, .classLink RX3 7 "[I", .fieldLink RX3 9 "SorobanHallLaw$Told" "kept" "[[I", .fieldLink RX3 15 "SorobanHallLaw$Told" "sums" "[I", .fieldLink RX3 18 "SorobanHallLaw$Told" "m" "LSorobanHall;", .fieldLink RX3 22 "SorobanHallLaw$Told" "s" "[I", .fieldLink RX3 25 "SorobanHallLaw$Told" "draws" "I", .code yL_cell cL_cell 2 (some .int), .constant RL 8 (790386105), .code yL_below cL_below 2 (some .int), .constant RL 7 (2147483647), .code yX3_draw cX3_draw 3 (some .int), .static yL_cell, .initialized RL, .static yL_below, .fieldLink RX3 39 "SorobanHallLaw$Told" "number" "I", .fieldLink RX3 46 "SorobanHallLaw$Told" "kind" "I", .fieldLink RX3 49 "SorobanHallLaw$Told" "up" "[I", .fieldLink RX3 52 "SorobanHallLaw$Told" "down" "[I", .classLink RX3 55 "[[I", .fieldLink RX3 56 "SorobanHallLaw$Told" "wear" "[[I", .methodLink RX3 42 yX3_draw, .instanceMethod yX3_draw, .selects RX3 yX3_draw yX3_draw, .initialized RX3, .methodLink RX3 59 yX2_frame, .instanceMethod yX2_frame, .selects RX2 yX2_frame yX2_frame, .code yX3_frame cX3_frame 3 (some .boolean), .code yX3_ups cX3_ups 1 (some .int), .code yX3_downs cX3_downs 1 (some .int), .code yX3_most cX3_most 1 (some .int), .methodLink RX3 64 yX3_ups, .instanceMethod yX3_ups, .selects RX3 yX3_ups yX3_ups, .methodLink RX3 68 yX3_downs, .instanceMethod yX3_downs, .selects RX3 yX3_downs yX3_downs, .code yX3_value cX3_value 2 (some .int), .code yX3_total cX3_total 6 (some .long), .constantLong RX3 74 (10), .methodLink RX3 71 yX3_value, .instanceMethod yX3_value, .selects RX3 yX3_value yX3_value, .code yX3_isTidy cX3_isTidy 3 (some .boolean), .code yX3_keep cX3_keep 4 none, .methodLink RX3 76 arraycopyName, .native arraycopyName, .static arraycopyName, .initialized "java/lang/System", .code yX3_move cX3_move 5 none, .methodLink RX3 82 Lib.Math.abs.name, .fieldLink RX3 87 "SorobanHallLaw$Told" "time" "J", .fieldLink RX3 91 "SorobanHallLaw$Told" "hand" "I", .code yX3_pushes cX3_pushes 4 (some .int), .code yX3_beads cX3_beads 4 (some .int), .methodLink RX3 94 yX3_pushes, .instanceMethod yX3_pushes, .selects RX3 yX3_pushes yX3_pushes, .methodLink RX3 98 yX3_beads, .instanceMethod yX3_beads, .selects RX3 yX3_beads yX3_beads, .methodLink RX3 101 yX3_move, .instanceMethod yX3_move, .selects RX3 yX3_move yX3_move, .code yX3_set cX3_set 6 none, .methodLink RX3 105 yX3_set, .instanceMethod yX3_set, .selects RX3 yX3_set yX3_set, .code yX3_bring cX3_bring 6 none, .code yX3_digits cX3_digits 7 (some (.array .int)), .methodLink RX3 109 yX3_digits]
def LW_5 : List Cond := [.static yX3_digits, .methodLink RX3 113 yX3_bring, .instanceMethod yX3_bring, .selects RX3 yX3_bring yX3_bring, .code yX3_adds cX3_adds 4 none, .code yX3_some cX3_some 4 (some .int), .methodLink RX3 116 yX3_some, .instanceMethod yX3_some, .selects RX3 yX3_some yX3_some, .methodLink RX3 119 yX3_keep, .instanceMethod yX3_keep, .selects RX3 yX3_keep yX3_keep, .methodLink RX3 122 yX3_adds, .instanceMethod yX3_adds, .selects RX3 yX3_adds yX3_adds, .methodLink RX3 126 yX2_add, .instanceMethod yX2_add, .selects RX2 yX2_add yX2_add, .code yX3_add cX3_add 3 (some .boolean), .constant RX3 133 (99999999), .methodLink RX3 129 yX3_total, .instanceMethod yX3_total, .selects RX3 yX3_total yX3_total, .methodLink RX3 134 yX3_isTidy, .instanceMethod yX3_isTidy, .selects RX3 yX3_isTidy yX3_isTidy, .methodLink RX3 138 yX2_off, .instanceMethod yX2_off, .selects RX2 yX2_off yX2_off, .code yX3_off cX3_off 8 (some .boolean), .methodLink RX3 141 yX2_times, .instanceMethod yX2_times, .selects RX2 yX2_times yX2_times, .code yX3_times cX3_times 6 (some .boolean), .methodLink RX3 144 yX2_divide, .instanceMethod yX2_divide, .selects RX2 yX2_divide yX2_divide, .code yX3_divide cX3_divide 5 (some .boolean), .methodLink RX3 147 yX2_shift, .instanceMethod yX2_shift, .selects RX2 yX2_shift yX2_shift, .code yX3_shift cX3_shift 5 (some .boolean), .methodLink RX3 151 yX2_tidy, .instanceMethod yX2_tidy, .selects RX2 yX2_tidy yX2_tidy, .code yX3_tidy cX3_tidy 3 (some .boolean), .methodLink RX3 154 yX2_clear, .instanceMethod yX2_clear, .selects RX2 yX2_clear yX2_clear, .code yX3_clear cX3_clear 3 (some .boolean), .methodLink RX3 157 yX3_most, .instanceMethod yX3_most, .selects RX3 yX3_most yX3_most, .methodLink RX3 160 yX2_set, .instanceMethod yX2_set, .selects RX2 yX2_set yX2_set, .code yX3_sets cX3_sets 4 (some .boolean), .methodLink RX3 162 yX2_push, .instanceMethod yX2_push, .selects RX2 yX2_push yX2_push, .code yX3_push cX3_push 5 (some .boolean), .methodLink RX3 166 yX2_back, .instanceMethod yX2_back, .selects RX2 yX2_back yX2_back, .code yX3_back cX3_back 3 (some .boolean), .constantLong RX3 169 (32), .methodLink RX3 171 yX2_grease, .instanceMethod yX2_grease, .selects RX2 yX2_grease yX2_grease, .code yX3_grease cX3_grease 3 (some .boolean), .methodLink RX3 174 yX3_add, .instanceMethod yX3_add, .selects RX3 yX3_add yX3_add, .methodLink RX3 176 yX3_off, .instanceMethod yX3_off, .selects RX3 yX3_off yX3_off, .methodLink RX3 178 yX3_times, .instanceMethod yX3_times, .selects RX3 yX3_times yX3_times, .methodLink RX3 180 yX3_divide]
def LW_6 : List Cond := [.instanceMethod yX3_divide, .selects RX3 yX3_divide yX3_divide, .methodLink RX3 182 yX3_shift, .instanceMethod yX3_shift, .selects RX3 yX3_shift yX3_shift, .methodLink RX3 184 yX3_tidy, .instanceMethod yX3_tidy, .selects RX3 yX3_tidy yX3_tidy, .methodLink RX3 186 yX3_clear, .instanceMethod yX3_clear, .selects RX3 yX3_clear yX3_clear, .methodLink RX3 188 yX3_sets, .instanceMethod yX3_sets, .selects RX3 yX3_sets yX3_sets, .methodLink RX3 191 yX3_push, .instanceMethod yX3_push, .selects RX3 yX3_push yX3_push, .methodLink RX3 193 yX3_back, .instanceMethod yX3_back, .selects RX3 yX3_back yX3_back, .methodLink RX3 195 yX3_grease, .instanceMethod yX3_grease, .selects RX3 yX3_grease yX3_grease, .code yX3_act cX3_act 1 (some .boolean), .code yJ9_abs_0f7a4 cJ9_abs_0f7a4 1 (some .int), .code yJ9_min_7cf53 cJ9_min_7cf53 2 (some .int), .methodLink RL 68 yX2_clear, .methodLink RL 71 yX2_many, .instanceMethod yX2_many, .selects RX2 yX2_many yX2_many, .methodLink RL 25 yX3_draw, .methodLink RL 59 yX2_add, .methodLink RL 74 yX2_off, .methodLink RL 77 yX2_number, .instanceMethod yX2_number, .selects RX2 yX2_number yX2_number, .methodLink RL 81 yX2_divide, .methodLink RL 84 yX2_times, .methodLink RL 87 yX2_show, .instanceMethod yX2_show, .selects RX2 yX2_show yX2_show, .methodLink RL 90 yX2_shift, .code yL_isTogether cL_isTogether 7 (some .boolean), .classLink RL 9 RX2, .instantiable RX2 4, .classLink RL 12 RX3, .instantiable RX3 12, .arrayClass .double, .fieldLink RL 41 "SorobanHallLaw$Told" "up" "[I", .methodLink RL 11 yX2_init, .instanceMethod yX2_init, .methodLink RL 14 yX3_init, .instanceMethod yX3_init, .methodLink RL 17 yX3_frame, .instanceMethod yX3_frame, .selects RX3 yX3_frame yX3_frame, .methodLink RL 21 yX3_act, .instanceMethod yX3_act, .selects RX3 yX3_act yX3_act, .methodLink RL 29 yX2_digest, .instanceMethod yX2_digest, .selects RX2 yX2_digest yX2_digest, .methodLink RL 33 yX2_quicker, .instanceMethod yX2_quicker, .selects RX2 yX2_quicker yX2_quicker, .methodLink RL 37 yX2_wouldTake, .instanceMethod yX2_wouldTake, .selects RX2 yX2_wouldTake yX2_wouldTake, .methodLink RL 45 yX2_hardest, .instanceMethod yX2_hardest, .selects RX2 yX2_hardest yX2_hardest, .methodLink RL 49 yX2_seconds, .instanceMethod yX2_seconds, .selects RX2 yX2_seconds yX2_seconds, .methodLink RL 53 yX2_would, .instanceMethod yX2_would, .selects RX2 yX2_would yX2_would, .methodLink RL 56 yX2_ofFrame, .instanceMethod yX2_ofFrame, .selects RX2 yX2_ofFrame yX2_ofFrame]
def LW_7 : List Cond := [.methodLink RL 62 yL_isTogether, .static yL_isTogether]
/-- the words that the walks need, in one list -/
def LW : List Cond := LW_0 ++ (LW_1 ++ (LW_2 ++ (LW_3 ++ (LW_4 ++ (LW_5 ++ (LW_6 ++ (LW_7 ++ (wsX00 ++ (wsX10 ++ (wsX20 ++ (wsX30)))))))))))
theorem q0 : (.code yX0_init cX0_init 2 none) ∈ LW := (List.mem_append_left _ (List.mem_of_getElem? (i := 0) rfl))
theorem q1 : (.methodLink RX0 3 objectInit) ∈ LW := (List.mem_append_left _ (List.mem_of_getElem? (i := 1) rfl))
theorem q2 : (.instanceMethod objectInit) ∈ LW := (List.mem_append_left _ (List.mem_of_getElem? (i := 2) rfl))
theorem q3 : (.code objectInit ⟨#[0xb1]⟩ 1 none) ∈ LW := (List.mem_append_left _ (List.mem_of_getElem? (i := 3) rfl))
theorem q4 : (.arrayClass .int) ∈ LW := (List.mem_append_left _ (List.mem_of_getElem? (i := 4) rfl))
theorem q5 : (.fieldLink RX0 9 "SorobanHall$Deck" "counting" "[I") ∈ LW := (List.mem_append_left _ (List.mem_of_getElem? (i := 5) rfl))
theorem q6 : (.fieldLink RX0 15 "SorobanHall$Deck" "wear" "[I") ∈ LW := (List.mem_append_left _ (List.mem_of_getElem? (i := 6) rfl))
theorem q7 : (.fieldLink RX0 18 "SorobanHall$Deck" "kept" "[I") ∈ LW := (List.mem_append_left _ (List.mem_of_getElem? (i := 7) rfl))
theorem q8 : (.fieldLink RX0 21 "SorobanHall$Deck" "size" "I") ∈ LW := (List.mem_append_left _ (List.mem_of_getElem? (i := 8) rfl))
theorem q9 : (.code yX0_countAt cX0_countAt 2 (some .int)) ∈ LW := (List.mem_append_left _ (List.mem_of_getElem? (i := 9) rfl))
theorem q10 : (.code yX0_wearAt cX0_wearAt 2 (some .int)) ∈ LW := (List.mem_append_left _ (List.mem_of_getElem? (i := 10) rfl))
theorem q11 : (.code yX0_isWornAt cX0_isWornAt 2 (some .boolean)) ∈ LW := (List.mem_append_left _ (List.mem_of_getElem? (i := 11) rfl))
theorem q12 : (.methodLink RX0 25 yX0_wearAt) ∈ LW := (List.mem_append_left _ (List.mem_of_getElem? (i := 12) rfl))
theorem q13 : (.instanceMethod yX0_wearAt) ∈ LW := (List.mem_append_left _ (List.mem_of_getElem? (i := 13) rfl))
theorem q14 : (.selects RX0 yX0_wearAt yX0_wearAt) ∈ LW := (List.mem_append_left _ (List.mem_of_getElem? (i := 14) rfl))
theorem q15 : (.initialized RX0) ∈ LW := (List.mem_append_left _ (List.mem_of_getElem? (i := 15) rfl))
theorem q16 : (.code yX0_canMove cX0_canMove 5 (some .boolean)) ∈ LW := (List.mem_append_left _ (List.mem_of_getElem? (i := 16) rfl))
theorem q17 : (.methodLink RX0 29 yX0_countAt) ∈ LW := (List.mem_append_left _ (List.mem_of_getElem? (i := 17) rfl))
theorem q18 : (.instanceMethod yX0_countAt) ∈ LW := (List.mem_append_left _ (List.mem_of_getElem? (i := 18) rfl))
theorem q19 : (.selects RX0 yX0_countAt yX0_countAt) ∈ LW := (List.mem_append_left _ (List.mem_of_getElem? (i := 19) rfl))
theorem q20 : (.code yX0_freshen cX0_freshen 2 none) ∈ LW := (List.mem_append_left _ (List.mem_of_getElem? (i := 20) rfl))
theorem q21 : (.code yX0_keepIn cX0_keepIn 4 none) ∈ LW := (List.mem_append_left _ (List.mem_of_getElem? (i := 21) rfl))
theorem q22 : (.code yX0_restoreFrom cX0_restoreFrom 4 none) ∈ LW := (List.mem_append_left _ (List.mem_of_getElem? (i := 22) rfl))
theorem q23 : (.code yX0_copyFrom cX0_copyFrom 3 none) ∈ LW := (List.mem_append_left _ (List.mem_of_getElem? (i := 23) rfl))
theorem q24 : (.code yX1_init cX1_init 3 none) ∈ LW := (List.mem_append_left _ (List.mem_of_getElem? (i := 24) rfl))
theorem q25 : (.methodLink RX1 3 objectInit) ∈ LW := (List.mem_append_left _ (List.mem_of_getElem? (i := 25) rfl))
theorem q26 : (.fieldLink RX1 9 "SorobanHall$Frame" "kind" "I") ∈ LW := (List.mem_append_left _ (List.mem_of_getElem? (i := 26) rfl))
theorem q27 : (.fieldLink RX1 15 "SorobanHall$Frame" "rods" "I") ∈ LW := (List.mem_append_left _ (List.mem_of_getElem? (i := 27) rfl))
theorem q28 : (.classLink RX1 18 RX0) ∈ LW := (List.mem_append_left _ (List.mem_of_getElem? (i := 28) rfl))
theorem q29 : (.instantiable RX0 4) ∈ LW := (List.mem_append_left _ (List.mem_of_getElem? (i := 29) rfl))
theorem q30 : (.fieldLink RX1 27 "SorobanHall$Frame" "above" "LSorobanHall$Deck;") ∈ LW := (List.mem_append_left _ (List.mem_of_getElem? (i := 30) rfl))
theorem q31 : (.fieldLink RX1 34 "SorobanHall$Frame" "below" "LSorobanHall$Deck;") ∈ LW := (List.mem_append_left _ (List.mem_of_getElem? (i := 31) rfl))
theorem q32 : (.methodLink RX1 24 yX0_init) ∈ LW := (List.mem_append_left _ (List.mem_of_getElem? (i := 32) rfl))
theorem q33 : (.instanceMethod yX0_init) ∈ LW := (List.mem_append_left _ (List.mem_of_getElem? (i := 33) rfl))
theorem q34 : (.fieldLink RX1 41 "SorobanHall$Frame" "hand" "I") ∈ LW := (List.mem_append_left _ (List.mem_of_getElem? (i := 34) rfl))
theorem q35 : (.fieldLink RX1 44 "SorobanHall$Frame" "seconds" "F") ∈ LW := (List.mem_append_left _ (List.mem_of_getElem? (i := 35) rfl))
theorem q36 : (.fieldLink RX1 48 "SorobanHall$Frame" "pushes" "I") ∈ LW := (List.mem_append_left _ (List.mem_of_getElem? (i := 36) rfl))
theorem q37 : (.fieldLink RX1 51 "SorobanHall$Frame" "beads" "I") ∈ LW := (List.mem_append_left _ (List.mem_of_getElem? (i := 37) rfl))
theorem q38 : (.fieldLink RX1 54 "SorobanHall$Frame" "carries" "I") ∈ LW := (List.mem_append_left _ (List.mem_of_getElem? (i := 38) rfl))
theorem q39 : (.fieldLink RX1 57 "SorobanHall$Frame" "loans" "I") ∈ LW := (List.mem_append_left _ (List.mem_of_getElem? (i := 39) rfl))
theorem q40 : (.fieldLink RX1 60 "SorobanHall$Frame" "spilled" "I") ∈ LW := (List.mem_append_left _ (List.mem_of_getElem? (i := 40) rfl))
theorem q41 : (.methodLink RX1 37 yX0_copyFrom) ∈ LW := (List.mem_append_left _ (List.mem_of_getElem? (i := 41) rfl))
theorem q42 : (.instanceMethod yX0_copyFrom) ∈ LW := (List.mem_append_left _ (List.mem_of_getElem? (i := 42) rfl))
theorem q43 : (.selects RX0 yX0_copyFrom yX0_copyFrom) ∈ LW := (List.mem_append_left _ (List.mem_of_getElem? (i := 43) rfl))
theorem q44 : (.code yX1_copyFrom cX1_copyFrom 2 none) ∈ LW := (List.mem_append_left _ (List.mem_of_getElem? (i := 44) rfl))
theorem q45 : (.code yX1_hasRod cX1_hasRod 2 (some .boolean)) ∈ LW := (List.mem_append_left _ (List.mem_of_getElem? (i := 45) rfl))
theorem q46 : (.code yX1_hasRodsFor cX1_hasRodsFor 6 (some .boolean)) ∈ LW := (List.mem_append_left _ (List.mem_of_getElem? (i := 46) rfl))
theorem q47 : (.constantLong RX1 63 (10)) ∈ LW := (List.mem_append_left _ (List.mem_of_getElem? (i := 47) rfl))
theorem q48 : (.code yX1_valueAt cX1_valueAt 2 (some .int)) ∈ LW := (List.mem_append_left _ (List.mem_of_getElem? (i := 48) rfl))
theorem q49 : (.methodLink RX1 65 yX0_countAt) ∈ LW := (List.mem_append_left _ (List.mem_of_getElem? (i := 49) rfl))
theorem q50 : (.code yX1_mostOfRod cX1_mostOfRod 1 (some .int)) ∈ LW := (List.mem_append_left _ (List.mem_of_getElem? (i := 50) rfl))
theorem q51 : (.fieldLink RX1 69 "SorobanHall$Deck" "size" "I") ∈ LW := (List.mem_append_left _ (List.mem_of_getElem? (i := 51) rfl))
theorem q52 : (.code yX1_shownNumber cX1_shownNumber 4 (some .long)) ∈ LW := (List.mem_append_left _ (List.mem_of_getElem? (i := 52) rfl))
theorem q53 : (.methodLink RX1 72 yX1_valueAt) ∈ LW := (List.mem_append_left _ (List.mem_of_getElem? (i := 53) rfl))
theorem q54 : (.instanceMethod yX1_valueAt) ∈ LW := (List.mem_append_left _ (List.mem_of_getElem? (i := 54) rfl))
theorem q55 : (.selects RX1 yX1_valueAt yX1_valueAt) ∈ LW := (List.mem_append_left _ (List.mem_of_getElem? (i := 55) rfl))
theorem q56 : (.initialized RX1) ∈ LW := (List.mem_append_left _ (List.mem_of_getElem? (i := 56) rfl))
theorem q57 : (.code yX1_isTidy cX1_isTidy 2 (some .boolean)) ∈ LW := (List.mem_append_left _ (List.mem_of_getElem? (i := 57) rfl))
theorem q58 : (.code yX1_moveHand cX1_moveHand 3 none) ∈ LW := (List.mem_append_left _ (List.mem_of_getElem? (i := 58) rfl))
theorem q59 : (.methodLink RX1 75 Lib.Math.abs.name) ∈ LW := (List.mem_append_left _ (List.mem_of_getElem? (i := 59) rfl))
theorem q60 : (.static Lib.Math.abs.name) ∈ LW := (List.mem_append_left _ (List.mem_of_getElem? (i := 60) rfl))
theorem q61 : (.initialized "java/lang/Math") ∈ LW := (List.mem_append_left _ (List.mem_of_getElem? (i := 61) rfl))
theorem q62 : (.code Lib.Math.abs.name Lib.Math.abs.code 1 (some .int)) ∈ LW := (List.mem_append_left _ (List.mem_of_getElem? (i := 62) rfl))
theorem q63 : (.constantFloat RX1 80 (1040187392)) ∈ LW := (List.mem_append_left _ (List.mem_of_getElem? (i := 63) rfl))
theorem q64 : (.code yX1_pushDeck cX1_pushDeck 6 none) ∈ LW := (List.mem_append_left _ (List.mem_of_getElem? (i := 64) rfl))
theorem q65 : (.fieldLink RX1 81 "SorobanHall$Deck" "counting" "[I") ∈ LW := (List.mem_append_left _ (List.mem_of_getElem? (i := 65) rfl))
theorem q66 : (.fieldLink RX1 84 "SorobanHall$Deck" "wear" "[I") ∈ LW := (List.mem_append_left _ (List.mem_of_getElem? (i := 66) rfl))
theorem q67 : (.constantFloat RX1 87 (1048576000)) ∈ LW := (List.mem_append_left _ (List.mem_of_getElem? (i := 67) rfl))
theorem q68 : (.constantFloat RX1 88 (1031798784)) ∈ LW := (List.mem_append_left _ (List.mem_of_getElem? (i := 68) rfl))
theorem q69 : (.code yX1_bestUp cX1_bestUp 13 (some .int)) ∈ LW := (List.mem_append_left _ (List.mem_of_getElem? (i := 69) rfl))
theorem q70 : (.methodLink RX1 89 yX1_bestUp) ∈ LW := (List.mem_append_left _ (List.mem_of_getElem? (i := 70) rfl))
theorem q71 : (.instanceMethod yX1_bestUp) ∈ LW := (List.mem_append_left _ (List.mem_of_getElem? (i := 71) rfl))
theorem q72 : (.selects RX1 yX1_bestUp yX1_bestUp) ∈ LW := (List.mem_append_left _ (List.mem_of_getElem? (i := 72) rfl))
theorem q73 : (.methodLink RX1 93 yX1_moveHand) ∈ LW := (List.mem_append_left _ (List.mem_of_getElem? (i := 73) rfl))
theorem q74 : (.instanceMethod yX1_moveHand) ∈ LW := (List.mem_append_left _ (List.mem_of_getElem? (i := 74) rfl))
theorem q75 : (.selects RX1 yX1_moveHand yX1_moveHand) ∈ LW := (List.mem_append_left _ (List.mem_of_getElem? (i := 75) rfl))
theorem q76 : (.methodLink RX1 96 yX1_pushDeck) ∈ LW := (List.mem_append_left _ (List.mem_of_getElem? (i := 76) rfl))
theorem q77 : (.instanceMethod yX1_pushDeck) ∈ LW := (List.mem_append_left _ (List.mem_of_getElem? (i := 77) rfl))
theorem q78 : (.selects RX1 yX1_pushDeck yX1_pushDeck) ∈ LW := (List.mem_append_left _ (List.mem_of_getElem? (i := 78) rfl))
theorem q79 : (.code yX1_setRod cX1_setRod 8 none) ∈ LW := (List.mem_append_left _ (List.mem_of_getElem? (i := 79) rfl))
theorem q80 : (.code yX1_digitAt cX1_digitAt 6 (some .int)) ∈ LW := (List.mem_append_right _ (List.mem_append_left _ (List.mem_of_getElem? (i := 0) rfl)))
theorem q81 : (.methodLink RX1 100 yX1_digitAt) ∈ LW := (List.mem_append_right _ (List.mem_append_left _ (List.mem_of_getElem? (i := 1) rfl)))
theorem q82 : (.static yX1_digitAt) ∈ LW := (List.mem_append_right _ (List.mem_append_left _ (List.mem_of_getElem? (i := 2) rfl)))
theorem q83 : (.methodLink RX1 104 yX1_setRod) ∈ LW := (List.mem_append_right _ (List.mem_append_left _ (List.mem_of_getElem? (i := 3) rfl)))
theorem q84 : (.instanceMethod yX1_setRod) ∈ LW := (List.mem_append_right _ (List.mem_append_left _ (List.mem_of_getElem? (i := 4) rfl)))
theorem q85 : (.selects RX1 yX1_setRod yX1_setRod) ∈ LW := (List.mem_append_right _ (List.mem_append_left _ (List.mem_of_getElem? (i := 5) rfl)))
theorem q86 : (.code yX1_setRods cX1_setRods 4 none) ∈ LW := (List.mem_append_right _ (List.mem_append_left _ (List.mem_of_getElem? (i := 6) rfl)))
theorem q87 : (.code yX1_bring cX1_bring 6 none) ∈ LW := (List.mem_append_right _ (List.mem_append_left _ (List.mem_of_getElem? (i := 7) rfl)))
theorem q88 : (.methodLink RX1 108 yX1_bring) ∈ LW := (List.mem_append_right _ (List.mem_append_left _ (List.mem_of_getElem? (i := 8) rfl)))
theorem q89 : (.instanceMethod yX1_bring) ∈ LW := (List.mem_append_right _ (List.mem_append_left _ (List.mem_of_getElem? (i := 9) rfl)))
theorem q90 : (.selects RX1 yX1_bring yX1_bring) ∈ LW := (List.mem_append_right _ (List.mem_append_left _ (List.mem_of_getElem? (i := 10) rfl)))
theorem q91 : (.code yX1_bringNumber cX1_bringNumber 4 none) ∈ LW := (List.mem_append_right _ (List.mem_append_left _ (List.mem_of_getElem? (i := 11) rfl)))
theorem q92 : (.code yX1_takeDigit cX1_takeDigit 6 none) ∈ LW := (List.mem_append_right _ (List.mem_append_left _ (List.mem_of_getElem? (i := 12) rfl)))
theorem q93 : (.methodLink RX1 111 yX1_takeDigit) ∈ LW := (List.mem_append_right _ (List.mem_append_left _ (List.mem_of_getElem? (i := 13) rfl)))
theorem q94 : (.instanceMethod yX1_takeDigit) ∈ LW := (List.mem_append_right _ (List.mem_append_left _ (List.mem_of_getElem? (i := 14) rfl)))
theorem q95 : (.selects RX1 yX1_takeDigit yX1_takeDigit) ∈ LW := (List.mem_append_right _ (List.mem_append_left _ (List.mem_of_getElem? (i := 15) rfl)))
theorem q96 : (.code yX1_takeNumber cX1_takeNumber 4 none) ∈ LW := (List.mem_append_right _ (List.mem_append_left _ (List.mem_of_getElem? (i := 16) rfl)))
theorem q97 : (.code yX1_multiply cX1_multiply 4 none) ∈ LW := (List.mem_append_right _ (List.mem_append_left _ (List.mem_of_getElem? (i := 17) rfl)))
theorem q98 : (.code yX1_splitBy cX1_splitBy 5 (some .int)) ∈ LW := (List.mem_append_right _ (List.mem_append_left _ (List.mem_of_getElem? (i := 18) rfl)))
theorem q99 : (.code yX1_shiftLeft cX1_shiftLeft 3 (some .int)) ∈ LW := (List.mem_append_right _ (List.mem_append_left _ (List.mem_of_getElem? (i := 19) rfl)))
theorem q100 : (.code yX1_shiftRight cX1_shiftRight 3 (some .int)) ∈ LW := (List.mem_append_right _ (List.mem_append_left _ (List.mem_of_getElem? (i := 20) rfl)))
theorem q101 : (.code yX1_tidyRods cX1_tidyRods 3 none) ∈ LW := (List.mem_append_right _ (List.mem_append_left _ (List.mem_of_getElem? (i := 21) rfl)))
theorem q102 : (.code yX1_keepBeads cX1_keepBeads 1 none) ∈ LW := (List.mem_append_right _ (List.mem_append_left _ (List.mem_of_getElem? (i := 22) rfl)))
theorem q103 : (.fieldLink RX1 114 "SorobanHall$Frame" "nextSlot" "I") ∈ LW := (List.mem_append_right _ (List.mem_append_left _ (List.mem_of_getElem? (i := 23) rfl)))
theorem q104 : (.fieldLink RX1 120 "SorobanHall$Frame" "keptCount" "I") ∈ LW := (List.mem_append_right _ (List.mem_append_left _ (List.mem_of_getElem? (i := 24) rfl)))
theorem q105 : (.methodLink RX1 117 yX0_keepIn) ∈ LW := (List.mem_append_right _ (List.mem_append_left _ (List.mem_of_getElem? (i := 25) rfl)))
theorem q106 : (.instanceMethod yX0_keepIn) ∈ LW := (List.mem_append_right _ (List.mem_append_left _ (List.mem_of_getElem? (i := 26) rfl)))
theorem q107 : (.selects RX0 yX0_keepIn yX0_keepIn) ∈ LW := (List.mem_append_right _ (List.mem_append_left _ (List.mem_of_getElem? (i := 27) rfl)))
theorem q108 : (.code yX1_restoreBeads cX1_restoreBeads 1 none) ∈ LW := (List.mem_append_right _ (List.mem_append_left _ (List.mem_of_getElem? (i := 28) rfl)))
theorem q109 : (.methodLink RX1 123 yX0_restoreFrom) ∈ LW := (List.mem_append_right _ (List.mem_append_left _ (List.mem_of_getElem? (i := 29) rfl)))
theorem q110 : (.instanceMethod yX0_restoreFrom) ∈ LW := (List.mem_append_right _ (List.mem_append_left _ (List.mem_of_getElem? (i := 30) rfl)))
theorem q111 : (.selects RX0 yX0_restoreFrom yX0_restoreFrom) ∈ LW := (List.mem_append_right _ (List.mem_append_left _ (List.mem_of_getElem? (i := 31) rfl)))
theorem q112 : (.code yX1_greaseRod cX1_greaseRod 3 (some .int)) ∈ LW := (List.mem_append_right _ (List.mem_append_left _ (List.mem_of_getElem? (i := 32) rfl)))
theorem q113 : (.methodLink RX1 126 yX0_wearAt) ∈ LW := (List.mem_append_right _ (List.mem_append_left _ (List.mem_of_getElem? (i := 33) rfl)))
theorem q114 : (.methodLink RX1 129 yX0_freshen) ∈ LW := (List.mem_append_right _ (List.mem_append_left _ (List.mem_of_getElem? (i := 34) rfl)))
theorem q115 : (.instanceMethod yX0_freshen) ∈ LW := (List.mem_append_right _ (List.mem_append_left _ (List.mem_of_getElem? (i := 35) rfl)))
theorem q116 : (.selects RX0 yX0_freshen yX0_freshen) ∈ LW := (List.mem_append_right _ (List.mem_append_left _ (List.mem_of_getElem? (i := 36) rfl)))
theorem q117 : (.code yX1_factOfRod cX1_factOfRod 3 (some .int)) ∈ LW := (List.mem_append_right _ (List.mem_append_left _ (List.mem_of_getElem? (i := 37) rfl)))
theorem q118 : (.methodLink RX1 132 yX0_isWornAt) ∈ LW := (List.mem_append_right _ (List.mem_append_left _ (List.mem_of_getElem? (i := 38) rfl)))
theorem q119 : (.instanceMethod yX0_isWornAt) ∈ LW := (List.mem_append_right _ (List.mem_append_left _ (List.mem_of_getElem? (i := 39) rfl)))
theorem q120 : (.selects RX0 yX0_isWornAt yX0_isWornAt) ∈ LW := (List.mem_append_right _ (List.mem_append_left _ (List.mem_of_getElem? (i := 40) rfl)))
theorem q121 : (.code yX1_sumOfValues cX1_sumOfValues 3 (some .int)) ∈ LW := (List.mem_append_right _ (List.mem_append_left _ (List.mem_of_getElem? (i := 41) rfl)))
theorem q122 : (.code yX1_beadsThatCount cX1_beadsThatCount 3 (some .int)) ∈ LW := (List.mem_append_right _ (List.mem_append_left _ (List.mem_of_getElem? (i := 42) rfl)))
theorem q123 : (.constantLong RX1 148 (11)) ∈ LW := (List.mem_append_right _ (List.mem_append_left _ (List.mem_of_getElem? (i := 43) rfl)))
theorem q124 : (.methodLink RX1 136 yX1_isTidy) ∈ LW := (List.mem_append_right _ (List.mem_append_left _ (List.mem_of_getElem? (i := 44) rfl)))
theorem q125 : (.instanceMethod yX1_isTidy) ∈ LW := (List.mem_append_right _ (List.mem_append_left _ (List.mem_of_getElem? (i := 45) rfl)))
theorem q126 : (.selects RX1 yX1_isTidy yX1_isTidy) ∈ LW := (List.mem_append_right _ (List.mem_append_left _ (List.mem_of_getElem? (i := 46) rfl)))
theorem q127 : (.methodLink RX1 140 yX1_sumOfValues) ∈ LW := (List.mem_append_right _ (List.mem_append_left _ (List.mem_of_getElem? (i := 47) rfl)))
theorem q128 : (.instanceMethod yX1_sumOfValues) ∈ LW := (List.mem_append_right _ (List.mem_append_left _ (List.mem_of_getElem? (i := 48) rfl)))
theorem q129 : (.selects RX1 yX1_sumOfValues yX1_sumOfValues) ∈ LW := (List.mem_append_right _ (List.mem_append_left _ (List.mem_of_getElem? (i := 49) rfl)))
theorem q130 : (.methodLink RX1 144 yX1_shownNumber) ∈ LW := (List.mem_append_right _ (List.mem_append_left _ (List.mem_of_getElem? (i := 50) rfl)))
theorem q131 : (.instanceMethod yX1_shownNumber) ∈ LW := (List.mem_append_right _ (List.mem_append_left _ (List.mem_of_getElem? (i := 51) rfl)))
theorem q132 : (.selects RX1 yX1_shownNumber yX1_shownNumber) ∈ LW := (List.mem_append_right _ (List.mem_append_left _ (List.mem_of_getElem? (i := 52) rfl)))
theorem q133 : (.methodLink RX1 150 yX1_beadsThatCount) ∈ LW := (List.mem_append_right _ (List.mem_append_left _ (List.mem_of_getElem? (i := 53) rfl)))
theorem q134 : (.instanceMethod yX1_beadsThatCount) ∈ LW := (List.mem_append_right _ (List.mem_append_left _ (List.mem_of_getElem? (i := 54) rfl)))
theorem q135 : (.selects RX1 yX1_beadsThatCount yX1_beadsThatCount) ∈ LW := (List.mem_append_right _ (List.mem_append_left _ (List.mem_of_getElem? (i := 55) rfl)))
theorem q136 : (.code yX1_factOfFrame cX1_factOfFrame 2 (some .int)) ∈ LW := (List.mem_append_right _ (List.mem_append_left _ (List.mem_of_getElem? (i := 56) rfl)))
theorem q137 : (.code yX1_waysOfRod cX1_waysOfRod 5 (some .int)) ∈ LW := (List.mem_append_right _ (List.mem_append_left _ (List.mem_of_getElem? (i := 57) rfl)))
theorem q138 : (.code yX1_waysToShow cX1_waysToShow 13 (some .long)) ∈ LW := (List.mem_append_right _ (List.mem_append_left _ (List.mem_of_getElem? (i := 58) rfl)))
theorem q139 : (.methodLink RX1 164 yX1_waysOfRod) ∈ LW := (List.mem_append_right _ (List.mem_append_left _ (List.mem_of_getElem? (i := 59) rfl)))
theorem q140 : (.instanceMethod yX1_waysOfRod) ∈ LW := (List.mem_append_right _ (List.mem_append_left _ (List.mem_of_getElem? (i := 60) rfl)))
theorem q141 : (.selects RX1 yX1_waysOfRod yX1_waysOfRod) ∈ LW := (List.mem_append_right _ (List.mem_append_left _ (List.mem_of_getElem? (i := 61) rfl)))
theorem q142 : (.code yX1_fewestOfRod cX1_fewestOfRod 5 (some .int)) ∈ LW := (List.mem_append_right _ (List.mem_append_left _ (List.mem_of_getElem? (i := 62) rfl)))
theorem q143 : (.methodLink RX1 170 Lib.Math.min.name) ∈ LW := (List.mem_append_right _ (List.mem_append_left _ (List.mem_of_getElem? (i := 63) rfl)))
theorem q144 : (.static Lib.Math.min.name) ∈ LW := (List.mem_append_right _ (List.mem_append_left _ (List.mem_of_getElem? (i := 64) rfl)))
theorem q145 : (.code Lib.Math.min.name Lib.Math.min.code 2 (some .int)) ∈ LW := (List.mem_append_right _ (List.mem_append_left _ (List.mem_of_getElem? (i := 65) rfl)))
theorem q146 : (.methodLink RX1 167 yX1_fewestOfRod) ∈ LW := (List.mem_append_right _ (List.mem_append_left _ (List.mem_of_getElem? (i := 66) rfl)))
theorem q147 : (.instanceMethod yX1_fewestOfRod) ∈ LW := (List.mem_append_right _ (List.mem_append_left _ (List.mem_of_getElem? (i := 67) rfl)))
theorem q148 : (.selects RX1 yX1_fewestOfRod yX1_fewestOfRod) ∈ LW := (List.mem_append_right _ (List.mem_append_left _ (List.mem_of_getElem? (i := 68) rfl)))
theorem q149 : (.code yX1_fewestBeadsToShow cX1_fewestBeadsToShow 9 (some .int)) ∈ LW := (List.mem_append_right _ (List.mem_append_left _ (List.mem_of_getElem? (i := 69) rfl)))
theorem q150 : (.methodLink RX2 1 objectInit) ∈ LW := (List.mem_append_right _ (List.mem_append_left _ (List.mem_of_getElem? (i := 70) rfl)))
theorem q151 : (.classLink RX2 9 RX1) ∈ LW := (List.mem_append_right _ (List.mem_append_left _ (List.mem_of_getElem? (i := 71) rfl)))
theorem q152 : (.fieldLink RX2 11 "SorobanHall" "frames" "[LSorobanHall$Frame;") ∈ LW := (List.mem_append_right _ (List.mem_append_left _ (List.mem_of_getElem? (i := 72) rfl)))
theorem q153 : (.instantiable RX1 13) ∈ LW := (List.mem_append_right _ (List.mem_append_left _ (List.mem_of_getElem? (i := 73) rfl)))
theorem q154 : (.fieldLink RX2 18 "SorobanHall" "trial" "LSorobanHall$Frame;") ∈ LW := (List.mem_append_right _ (List.mem_append_left _ (List.mem_of_getElem? (i := 74) rfl)))
theorem q155 : (.methodLink RX2 15 yX1_init) ∈ LW := (List.mem_append_right _ (List.mem_append_left _ (List.mem_of_getElem? (i := 75) rfl)))
theorem q156 : (.instanceMethod yX1_init) ∈ LW := (List.mem_append_right _ (List.mem_append_left _ (List.mem_of_getElem? (i := 76) rfl)))
theorem q157 : (.code yX2_init cX2_init 1 none) ∈ LW := (List.mem_append_right _ (List.mem_append_left _ (List.mem_of_getElem? (i := 77) rfl)))
theorem q158 : (.classLink RX2 26 "java/lang/IllegalArgumentException") ∈ LW := (List.mem_append_right _ (List.mem_append_left _ (List.mem_of_getElem? (i := 78) rfl)))
theorem q159 : (.initialized "java/lang/IllegalArgumentException") ∈ LW := (List.mem_append_right _ (List.mem_append_left _ (List.mem_of_getElem? (i := 79) rfl)))
theorem q160 : (.classLink RX2 37 "java/lang/IllegalStateException") ∈ LW := (List.mem_append_right _ (List.mem_append_right _ (List.mem_append_left _ (List.mem_of_getElem? (i := 0) rfl))))
theorem q161 : (.initialized "java/lang/IllegalStateException") ∈ LW := (List.mem_append_right _ (List.mem_append_right _ (List.mem_append_left _ (List.mem_of_getElem? (i := 1) rfl))))
theorem q162 : (.fieldLink RX2 22 "SorobanHall" "BEADS_ABOVE" "[I") ∈ LW := (List.mem_append_right _ (List.mem_append_right _ (List.mem_append_left _ (List.mem_of_getElem? (i := 2) rfl))))
theorem q163 : (.fieldLink RX2 33 "SorobanHall" "frameCount" "I") ∈ LW := (List.mem_append_right _ (List.mem_append_right _ (List.mem_append_left _ (List.mem_of_getElem? (i := 3) rfl))))
theorem q164 : (.code yX2_frame cX2_frame 4 (some .int)) ∈ LW := (List.mem_append_right _ (List.mem_append_right _ (List.mem_append_left _ (List.mem_of_getElem? (i := 4) rfl))))
theorem q165 : (.code yX2_frameAt cX2_frameAt 2 (some (.object "SorobanHall$Frame"))) ∈ LW := (List.mem_append_right _ (List.mem_append_right _ (List.mem_append_left _ (List.mem_of_getElem? (i := 5) rfl))))
theorem q166 : (.code yX2_foundFrame cX2_foundFrame 3 (some (.object "SorobanHall$Frame"))) ∈ LW := (List.mem_append_right _ (List.mem_append_right _ (List.mem_append_left _ (List.mem_of_getElem? (i := 6) rfl))))
theorem q167 : (.classLink RX2 217 "java/lang/IndexOutOfBoundsException") ∈ LW := (List.mem_append_right _ (List.mem_append_right _ (List.mem_append_left _ (List.mem_of_getElem? (i := 7) rfl))))
theorem q168 : (.initialized "java/lang/IndexOutOfBoundsException") ∈ LW := (List.mem_append_right _ (List.mem_append_right _ (List.mem_append_left _ (List.mem_of_getElem? (i := 8) rfl))))
theorem q169 : (.methodLink RX2 214 yX2_frameAt) ∈ LW := (List.mem_append_right _ (List.mem_append_right _ (List.mem_append_left _ (List.mem_of_getElem? (i := 9) rfl))))
theorem q170 : (.instanceMethod yX2_frameAt) ∈ LW := (List.mem_append_right _ (List.mem_append_right _ (List.mem_append_left _ (List.mem_of_getElem? (i := 10) rfl))))
theorem q171 : (.selects RX2 yX2_frameAt yX2_frameAt) ∈ LW := (List.mem_append_right _ (List.mem_append_right _ (List.mem_append_left _ (List.mem_of_getElem? (i := 11) rfl))))
theorem q172 : (.initialized RX2) ∈ LW := (List.mem_append_right _ (List.mem_append_right _ (List.mem_append_left _ (List.mem_of_getElem? (i := 12) rfl))))
theorem q173 : (.code yX2_foundFrameWithRod cX2_foundFrameWithRod 4 (some (.object "SorobanHall$Frame"))) ∈ LW := (List.mem_append_right _ (List.mem_append_right _ (List.mem_append_left _ (List.mem_of_getElem? (i := 13) rfl))))
theorem q174 : (.methodLink RX2 90 yX2_foundFrame) ∈ LW := (List.mem_append_right _ (List.mem_append_right _ (List.mem_append_left _ (List.mem_of_getElem? (i := 14) rfl))))
theorem q175 : (.instanceMethod yX2_foundFrame) ∈ LW := (List.mem_append_right _ (List.mem_append_right _ (List.mem_append_left _ (List.mem_of_getElem? (i := 15) rfl))))
theorem q176 : (.selects RX2 yX2_foundFrame yX2_foundFrame) ∈ LW := (List.mem_append_right _ (List.mem_append_right _ (List.mem_append_left _ (List.mem_of_getElem? (i := 16) rfl))))
theorem q177 : (.methodLink RX2 222 yX1_hasRod) ∈ LW := (List.mem_append_right _ (List.mem_append_right _ (List.mem_append_left _ (List.mem_of_getElem? (i := 17) rfl))))
theorem q178 : (.instanceMethod yX1_hasRod) ∈ LW := (List.mem_append_right _ (List.mem_append_right _ (List.mem_append_left _ (List.mem_of_getElem? (i := 18) rfl))))
theorem q179 : (.selects RX1 yX1_hasRod yX1_hasRod) ∈ LW := (List.mem_append_right _ (List.mem_append_right _ (List.mem_append_left _ (List.mem_of_getElem? (i := 19) rfl))))
theorem q180 : (.fieldLink RX2 48 "SorobanHall$Frame" "above" "LSorobanHall$Deck;") ∈ LW := (List.mem_append_right _ (List.mem_append_right _ (List.mem_append_left _ (List.mem_of_getElem? (i := 20) rfl))))
theorem q181 : (.fieldLink RX2 52 "SorobanHall$Frame" "below" "LSorobanHall$Deck;") ∈ LW := (List.mem_append_right _ (List.mem_append_right _ (List.mem_append_left _ (List.mem_of_getElem? (i := 21) rfl))))
theorem q182 : (.methodLink RX2 42 yX2_foundFrameWithRod) ∈ LW := (List.mem_append_right _ (List.mem_append_right _ (List.mem_append_left _ (List.mem_of_getElem? (i := 22) rfl))))
theorem q183 : (.instanceMethod yX2_foundFrameWithRod) ∈ LW := (List.mem_append_right _ (List.mem_append_right _ (List.mem_append_left _ (List.mem_of_getElem? (i := 23) rfl))))
theorem q184 : (.selects RX2 yX2_foundFrameWithRod yX2_foundFrameWithRod) ∈ LW := (List.mem_append_right _ (List.mem_append_right _ (List.mem_append_left _ (List.mem_of_getElem? (i := 24) rfl))))
theorem q185 : (.methodLink RX2 55 yX0_canMove) ∈ LW := (List.mem_append_right _ (List.mem_append_right _ (List.mem_append_left _ (List.mem_of_getElem? (i := 25) rfl))))
theorem q186 : (.instanceMethod yX0_canMove) ∈ LW := (List.mem_append_right _ (List.mem_append_right _ (List.mem_append_left _ (List.mem_of_getElem? (i := 26) rfl))))
theorem q187 : (.selects RX0 yX0_canMove yX0_canMove) ∈ LW := (List.mem_append_right _ (List.mem_append_right _ (List.mem_append_left _ (List.mem_of_getElem? (i := 27) rfl))))
theorem q188 : (.methodLink RX2 63 yX1_keepBeads) ∈ LW := (List.mem_append_right _ (List.mem_append_right _ (List.mem_append_left _ (List.mem_of_getElem? (i := 28) rfl))))
theorem q189 : (.instanceMethod yX1_keepBeads) ∈ LW := (List.mem_append_right _ (List.mem_append_right _ (List.mem_append_left _ (List.mem_of_getElem? (i := 29) rfl))))
theorem q190 : (.selects RX1 yX1_keepBeads yX1_keepBeads) ∈ LW := (List.mem_append_right _ (List.mem_append_right _ (List.mem_append_left _ (List.mem_of_getElem? (i := 30) rfl))))
theorem q191 : (.methodLink RX2 66 yX1_moveHand) ∈ LW := (List.mem_append_right _ (List.mem_append_right _ (List.mem_append_left _ (List.mem_of_getElem? (i := 31) rfl))))
theorem q192 : (.methodLink RX2 70 yX1_pushDeck) ∈ LW := (List.mem_append_right _ (List.mem_append_right _ (List.mem_append_left _ (List.mem_of_getElem? (i := 32) rfl))))
theorem q193 : (.methodLink RX2 74 yX1_valueAt) ∈ LW := (List.mem_append_right _ (List.mem_append_right _ (List.mem_append_left _ (List.mem_of_getElem? (i := 33) rfl))))
theorem q194 : (.code yX2_push cX2_push 7 (some .int)) ∈ LW := (List.mem_append_right _ (List.mem_append_right _ (List.mem_append_left _ (List.mem_of_getElem? (i := 34) rfl))))
theorem q195 : (.fieldLink RX2 84 "SorobanHall$Frame" "pushes" "I") ∈ LW := (List.mem_append_right _ (List.mem_append_right _ (List.mem_append_left _ (List.mem_of_getElem? (i := 35) rfl))))
theorem q196 : (.methodLink RX2 78 yX1_mostOfRod) ∈ LW := (List.mem_append_right _ (List.mem_append_right _ (List.mem_append_left _ (List.mem_of_getElem? (i := 36) rfl))))
theorem q197 : (.instanceMethod yX1_mostOfRod) ∈ LW := (List.mem_append_right _ (List.mem_append_right _ (List.mem_append_left _ (List.mem_of_getElem? (i := 37) rfl))))
theorem q198 : (.selects RX1 yX1_mostOfRod yX1_mostOfRod) ∈ LW := (List.mem_append_right _ (List.mem_append_right _ (List.mem_append_left _ (List.mem_of_getElem? (i := 38) rfl))))
theorem q199 : (.methodLink RX2 87 yX1_setRod) ∈ LW := (List.mem_append_right _ (List.mem_append_right _ (List.mem_append_left _ (List.mem_of_getElem? (i := 39) rfl))))
theorem q200 : (.code yX2_set cX2_set 6 (some .int)) ∈ LW := (List.mem_append_right _ (List.mem_append_right _ (List.mem_append_left _ (List.mem_of_getElem? (i := 40) rfl))))
theorem q201 : (.code yX2_refuseUnlessFits cX2_refuseUnlessFits 2 none) ∈ LW := (List.mem_append_right _ (List.mem_append_right _ (List.mem_append_left _ (List.mem_of_getElem? (i := 41) rfl))))
theorem q202 : (.methodLink RX2 138 yX1_hasRodsFor) ∈ LW := (List.mem_append_right _ (List.mem_append_right _ (List.mem_append_left _ (List.mem_of_getElem? (i := 42) rfl))))
theorem q203 : (.instanceMethod yX1_hasRodsFor) ∈ LW := (List.mem_append_right _ (List.mem_append_right _ (List.mem_append_left _ (List.mem_of_getElem? (i := 43) rfl))))
theorem q204 : (.selects RX1 yX1_hasRodsFor yX1_hasRodsFor) ∈ LW := (List.mem_append_right _ (List.mem_append_right _ (List.mem_append_left _ (List.mem_of_getElem? (i := 44) rfl))))
theorem q205 : (.methodLink RX2 94 yX2_refuseUnlessFits) ∈ LW := (List.mem_append_right _ (List.mem_append_right _ (List.mem_append_left _ (List.mem_of_getElem? (i := 45) rfl))))
theorem q206 : (.static yX2_refuseUnlessFits) ∈ LW := (List.mem_append_right _ (List.mem_append_right _ (List.mem_append_left _ (List.mem_of_getElem? (i := 46) rfl))))
theorem q207 : (.methodLink RX2 98 yX1_bringNumber) ∈ LW := (List.mem_append_right _ (List.mem_append_right _ (List.mem_append_left _ (List.mem_of_getElem? (i := 47) rfl))))
theorem q208 : (.instanceMethod yX1_bringNumber) ∈ LW := (List.mem_append_right _ (List.mem_append_right _ (List.mem_append_left _ (List.mem_of_getElem? (i := 48) rfl))))
theorem q209 : (.selects RX1 yX1_bringNumber yX1_bringNumber) ∈ LW := (List.mem_append_right _ (List.mem_append_right _ (List.mem_append_left _ (List.mem_of_getElem? (i := 49) rfl))))
theorem q210 : (.code yX2_add cX2_add 5 (some .int)) ∈ LW := (List.mem_append_right _ (List.mem_append_right _ (List.mem_append_left _ (List.mem_of_getElem? (i := 50) rfl))))
theorem q211 : (.methodLink RX2 102 yX1_isTidy) ∈ LW := (List.mem_append_right _ (List.mem_append_right _ (List.mem_append_left _ (List.mem_of_getElem? (i := 51) rfl))))
theorem q212 : (.methodLink RX2 106 yX1_shownNumber) ∈ LW := (List.mem_append_right _ (List.mem_append_right _ (List.mem_append_left _ (List.mem_of_getElem? (i := 52) rfl))))
theorem q213 : (.methodLink RX2 110 yX1_takeNumber) ∈ LW := (List.mem_append_right _ (List.mem_append_right _ (List.mem_append_left _ (List.mem_of_getElem? (i := 53) rfl))))
theorem q214 : (.instanceMethod yX1_takeNumber) ∈ LW := (List.mem_append_right _ (List.mem_append_right _ (List.mem_append_left _ (List.mem_of_getElem? (i := 54) rfl))))
theorem q215 : (.selects RX1 yX1_takeNumber yX1_takeNumber) ∈ LW := (List.mem_append_right _ (List.mem_append_right _ (List.mem_append_left _ (List.mem_of_getElem? (i := 55) rfl))))
theorem q216 : (.code yX2_off cX2_off 5 (some .int)) ∈ LW := (List.mem_append_right _ (List.mem_append_right _ (List.mem_append_left _ (List.mem_of_getElem? (i := 56) rfl))))
theorem q217 : (.fieldLink RX2 115 "SorobanHall$Frame" "spilled" "I") ∈ LW := (List.mem_append_right _ (List.mem_append_right _ (List.mem_append_left _ (List.mem_of_getElem? (i := 57) rfl))))
theorem q218 : (.methodLink RX2 118 yX1_multiply) ∈ LW := (List.mem_append_right _ (List.mem_append_right _ (List.mem_append_left _ (List.mem_of_getElem? (i := 58) rfl))))
theorem q219 : (.instanceMethod yX1_multiply) ∈ LW := (List.mem_append_right _ (List.mem_append_right _ (List.mem_append_left _ (List.mem_of_getElem? (i := 59) rfl))))
theorem q220 : (.selects RX1 yX1_multiply yX1_multiply) ∈ LW := (List.mem_append_right _ (List.mem_append_right _ (List.mem_append_left _ (List.mem_of_getElem? (i := 60) rfl))))
theorem q221 : (.code yX2_times cX2_times 5 (some .int)) ∈ LW := (List.mem_append_right _ (List.mem_append_right _ (List.mem_append_left _ (List.mem_of_getElem? (i := 61) rfl))))
theorem q222 : (.methodLink RX2 123 yX1_splitBy) ∈ LW := (List.mem_append_right _ (List.mem_append_right _ (List.mem_append_left _ (List.mem_of_getElem? (i := 62) rfl))))
theorem q223 : (.instanceMethod yX1_splitBy) ∈ LW := (List.mem_append_right _ (List.mem_append_right _ (List.mem_append_left _ (List.mem_of_getElem? (i := 63) rfl))))
theorem q224 : (.selects RX1 yX1_splitBy yX1_splitBy) ∈ LW := (List.mem_append_right _ (List.mem_append_right _ (List.mem_append_left _ (List.mem_of_getElem? (i := 64) rfl))))
theorem q225 : (.code yX2_divide cX2_divide 4 (some .int)) ∈ LW := (List.mem_append_right _ (List.mem_append_right _ (List.mem_append_left _ (List.mem_of_getElem? (i := 65) rfl))))
theorem q226 : (.methodLink RX2 126 yX1_shiftLeft) ∈ LW := (List.mem_append_right _ (List.mem_append_right _ (List.mem_append_left _ (List.mem_of_getElem? (i := 66) rfl))))
theorem q227 : (.instanceMethod yX1_shiftLeft) ∈ LW := (List.mem_append_right _ (List.mem_append_right _ (List.mem_append_left _ (List.mem_of_getElem? (i := 67) rfl))))
theorem q228 : (.selects RX1 yX1_shiftLeft yX1_shiftLeft) ∈ LW := (List.mem_append_right _ (List.mem_append_right _ (List.mem_append_left _ (List.mem_of_getElem? (i := 68) rfl))))
theorem q229 : (.methodLink RX2 129 yX1_shiftRight) ∈ LW := (List.mem_append_right _ (List.mem_append_right _ (List.mem_append_left _ (List.mem_of_getElem? (i := 69) rfl))))
theorem q230 : (.instanceMethod yX1_shiftRight) ∈ LW := (List.mem_append_right _ (List.mem_append_right _ (List.mem_append_left _ (List.mem_of_getElem? (i := 70) rfl))))
theorem q231 : (.selects RX1 yX1_shiftRight yX1_shiftRight) ∈ LW := (List.mem_append_right _ (List.mem_append_right _ (List.mem_append_left _ (List.mem_of_getElem? (i := 71) rfl))))
theorem q232 : (.code yX2_shift cX2_shift 4 (some .int)) ∈ LW := (List.mem_append_right _ (List.mem_append_right _ (List.mem_append_left _ (List.mem_of_getElem? (i := 72) rfl))))
theorem q233 : (.fieldLink RX2 132 "SorobanHall$Frame" "carries" "I") ∈ LW := (List.mem_append_right _ (List.mem_append_right _ (List.mem_append_left _ (List.mem_of_getElem? (i := 73) rfl))))
theorem q234 : (.methodLink RX2 135 yX1_tidyRods) ∈ LW := (List.mem_append_right _ (List.mem_append_right _ (List.mem_append_left _ (List.mem_of_getElem? (i := 74) rfl))))
theorem q235 : (.instanceMethod yX1_tidyRods) ∈ LW := (List.mem_append_right _ (List.mem_append_right _ (List.mem_append_left _ (List.mem_of_getElem? (i := 75) rfl))))
theorem q236 : (.selects RX1 yX1_tidyRods yX1_tidyRods) ∈ LW := (List.mem_append_right _ (List.mem_append_right _ (List.mem_append_left _ (List.mem_of_getElem? (i := 76) rfl))))
theorem q237 : (.code yX2_tidy cX2_tidy 4 (some .int)) ∈ LW := (List.mem_append_right _ (List.mem_append_right _ (List.mem_append_left _ (List.mem_of_getElem? (i := 77) rfl))))
theorem q238 : (.methodLink RX2 142 yX1_setRods) ∈ LW := (List.mem_append_right _ (List.mem_append_right _ (List.mem_append_left _ (List.mem_of_getElem? (i := 78) rfl))))
theorem q239 : (.instanceMethod yX1_setRods) ∈ LW := (List.mem_append_right _ (List.mem_append_right _ (List.mem_append_left _ (List.mem_of_getElem? (i := 79) rfl))))
theorem q240 : (.selects RX1 yX1_setRods yX1_setRods) ∈ LW := (List.mem_append_right _ (List.mem_append_right _ (List.mem_append_right _ (List.mem_append_left _ (List.mem_of_getElem? (i := 0) rfl)))))
theorem q241 : (.code yX2_show cX2_show 7 (some .int)) ∈ LW := (List.mem_append_right _ (List.mem_append_right _ (List.mem_append_right _ (List.mem_append_left _ (List.mem_of_getElem? (i := 1) rfl)))))
theorem q242 : (.code yX2_clear cX2_clear 4 (some .int)) ∈ LW := (List.mem_append_right _ (List.mem_append_right _ (List.mem_append_right _ (List.mem_append_left _ (List.mem_of_getElem? (i := 2) rfl)))))
theorem q243 : (.fieldLink RX2 145 "SorobanHall$Frame" "keptCount" "I") ∈ LW := (List.mem_append_right _ (List.mem_append_right _ (List.mem_append_right _ (List.mem_append_left _ (List.mem_of_getElem? (i := 3) rfl)))))
theorem q244 : (.methodLink RX2 150 yX1_restoreBeads) ∈ LW := (List.mem_append_right _ (List.mem_append_right _ (List.mem_append_right _ (List.mem_append_left _ (List.mem_of_getElem? (i := 4) rfl)))))
theorem q245 : (.instanceMethod yX1_restoreBeads) ∈ LW := (List.mem_append_right _ (List.mem_append_right _ (List.mem_append_right _ (List.mem_append_left _ (List.mem_of_getElem? (i := 5) rfl)))))
theorem q246 : (.selects RX1 yX1_restoreBeads yX1_restoreBeads) ∈ LW := (List.mem_append_right _ (List.mem_append_right _ (List.mem_append_right _ (List.mem_append_left _ (List.mem_of_getElem? (i := 6) rfl)))))
theorem q247 : (.code yX2_back cX2_back 3 (some .int)) ∈ LW := (List.mem_append_right _ (List.mem_append_right _ (List.mem_append_right _ (List.mem_append_left _ (List.mem_of_getElem? (i := 7) rfl)))))
theorem q248 : (.methodLink RX2 153 yX1_greaseRod) ∈ LW := (List.mem_append_right _ (List.mem_append_right _ (List.mem_append_right _ (List.mem_append_left _ (List.mem_of_getElem? (i := 8) rfl)))))
theorem q249 : (.instanceMethod yX1_greaseRod) ∈ LW := (List.mem_append_right _ (List.mem_append_right _ (List.mem_append_right _ (List.mem_append_left _ (List.mem_of_getElem? (i := 9) rfl)))))
theorem q250 : (.selects RX1 yX1_greaseRod yX1_greaseRod) ∈ LW := (List.mem_append_right _ (List.mem_append_right _ (List.mem_append_right _ (List.mem_append_left _ (List.mem_of_getElem? (i := 10) rfl)))))
theorem q251 : (.code yX2_grease cX2_grease 4 (some .int)) ∈ LW := (List.mem_append_right _ (List.mem_append_right _ (List.mem_append_right _ (List.mem_append_left _ (List.mem_of_getElem? (i := 11) rfl)))))
theorem q252 : (.code yX2_number cX2_number 3 (some .long)) ∈ LW := (List.mem_append_right _ (List.mem_append_right _ (List.mem_append_right _ (List.mem_append_left _ (List.mem_of_getElem? (i := 12) rfl)))))
theorem q253 : (.code yX2_refuseUnlessBelow cX2_refuseUnlessBelow 2 none) ∈ LW := (List.mem_append_right _ (List.mem_append_right _ (List.mem_append_right _ (List.mem_append_left _ (List.mem_of_getElem? (i := 13) rfl)))))
theorem q254 : (.methodLink RX2 159 yX2_refuseUnlessBelow) ∈ LW := (List.mem_append_right _ (List.mem_append_right _ (List.mem_append_right _ (List.mem_append_left _ (List.mem_of_getElem? (i := 14) rfl)))))
theorem q255 : (.static yX2_refuseUnlessBelow) ∈ LW := (List.mem_append_right _ (List.mem_append_right _ (List.mem_append_right _ (List.mem_append_left _ (List.mem_of_getElem? (i := 15) rfl)))))
theorem q256 : (.methodLink RX2 166 yX1_factOfFrame) ∈ LW := (List.mem_append_right _ (List.mem_append_right _ (List.mem_append_right _ (List.mem_append_left _ (List.mem_of_getElem? (i := 16) rfl)))))
theorem q257 : (.instanceMethod yX1_factOfFrame) ∈ LW := (List.mem_append_right _ (List.mem_append_right _ (List.mem_append_right _ (List.mem_append_left _ (List.mem_of_getElem? (i := 17) rfl)))))
theorem q258 : (.selects RX1 yX1_factOfFrame yX1_factOfFrame) ∈ LW := (List.mem_append_right _ (List.mem_append_right _ (List.mem_append_right _ (List.mem_append_left _ (List.mem_of_getElem? (i := 18) rfl)))))
theorem q259 : (.code yX2_ofFrame cX2_ofFrame 4 (some .int)) ∈ LW := (List.mem_append_right _ (List.mem_append_right _ (List.mem_append_right _ (List.mem_append_left _ (List.mem_of_getElem? (i := 19) rfl)))))
theorem q260 : (.code yX2_seconds cX2_seconds 3 (some .double)) ∈ LW := (List.mem_append_right _ (List.mem_append_right _ (List.mem_append_right _ (List.mem_append_left _ (List.mem_of_getElem? (i := 20) rfl)))))
theorem q261 : (.fieldLink RX2 169 "SorobanHall$Frame" "seconds" "F") ∈ LW := (List.mem_append_right _ (List.mem_append_right _ (List.mem_append_right _ (List.mem_append_left _ (List.mem_of_getElem? (i := 21) rfl)))))
theorem q262 : (.code yX2_pushesOfAll cX2_pushesOfAll 4 (some .int)) ∈ LW := (List.mem_append_right _ (List.mem_append_right _ (List.mem_append_right _ (List.mem_append_left _ (List.mem_of_getElem? (i := 22) rfl)))))
theorem q263 : (.code yX2_spilledByAll cX2_spilledByAll 4 (some .int)) ∈ LW := (List.mem_append_right _ (List.mem_append_right _ (List.mem_append_right _ (List.mem_append_left _ (List.mem_of_getElem? (i := 23) rfl)))))
theorem q264 : (.code yX2_pairsThatShowTheSame cX2_pairsThatShowTheSame 6 (some .int)) ∈ LW := (List.mem_append_right _ (List.mem_append_right _ (List.mem_append_right _ (List.mem_append_left _ (List.mem_of_getElem? (i := 24) rfl)))))
theorem q265 : (.fieldLink RX2 156 "SorobanHall" "refused" "I") ∈ LW := (List.mem_append_right _ (List.mem_append_right _ (List.mem_append_right _ (List.mem_append_left _ (List.mem_of_getElem? (i := 25) rfl)))))
theorem q266 : (.methodLink RX2 232 yX2_pushesOfAll) ∈ LW := (List.mem_append_right _ (List.mem_append_right _ (List.mem_append_right _ (List.mem_append_left _ (List.mem_of_getElem? (i := 26) rfl)))))
theorem q267 : (.instanceMethod yX2_pushesOfAll) ∈ LW := (List.mem_append_right _ (List.mem_append_right _ (List.mem_append_right _ (List.mem_append_left _ (List.mem_of_getElem? (i := 27) rfl)))))
theorem q268 : (.selects RX2 yX2_pushesOfAll yX2_pushesOfAll) ∈ LW := (List.mem_append_right _ (List.mem_append_right _ (List.mem_append_right _ (List.mem_append_left _ (List.mem_of_getElem? (i := 28) rfl)))))
theorem q269 : (.methodLink RX2 235 yX2_spilledByAll) ∈ LW := (List.mem_append_right _ (List.mem_append_right _ (List.mem_append_right _ (List.mem_append_left _ (List.mem_of_getElem? (i := 29) rfl)))))
theorem q270 : (.instanceMethod yX2_spilledByAll) ∈ LW := (List.mem_append_right _ (List.mem_append_right _ (List.mem_append_right _ (List.mem_append_left _ (List.mem_of_getElem? (i := 30) rfl)))))
theorem q271 : (.selects RX2 yX2_spilledByAll yX2_spilledByAll) ∈ LW := (List.mem_append_right _ (List.mem_append_right _ (List.mem_append_right _ (List.mem_append_left _ (List.mem_of_getElem? (i := 31) rfl)))))
theorem q272 : (.methodLink RX2 238 yX2_pairsThatShowTheSame) ∈ LW := (List.mem_append_right _ (List.mem_append_right _ (List.mem_append_right _ (List.mem_append_left _ (List.mem_of_getElem? (i := 32) rfl)))))
theorem q273 : (.instanceMethod yX2_pairsThatShowTheSame) ∈ LW := (List.mem_append_right _ (List.mem_append_right _ (List.mem_append_right _ (List.mem_append_left _ (List.mem_of_getElem? (i := 33) rfl)))))
theorem q274 : (.selects RX2 yX2_pairsThatShowTheSame yX2_pairsThatShowTheSame) ∈ LW := (List.mem_append_right _ (List.mem_append_right _ (List.mem_append_right _ (List.mem_append_left _ (List.mem_of_getElem? (i := 34) rfl)))))
theorem q275 : (.code yX2_factOfHall cX2_factOfHall 2 (some .int)) ∈ LW := (List.mem_append_right _ (List.mem_append_right _ (List.mem_append_right _ (List.mem_append_left _ (List.mem_of_getElem? (i := 35) rfl)))))
theorem q276 : (.methodLink RX2 177 yX2_factOfHall) ∈ LW := (List.mem_append_right _ (List.mem_append_right _ (List.mem_append_right _ (List.mem_append_left _ (List.mem_of_getElem? (i := 36) rfl)))))
theorem q277 : (.instanceMethod yX2_factOfHall) ∈ LW := (List.mem_append_right _ (List.mem_append_right _ (List.mem_append_right _ (List.mem_append_left _ (List.mem_of_getElem? (i := 37) rfl)))))
theorem q278 : (.selects RX2 yX2_factOfHall yX2_factOfHall) ∈ LW := (List.mem_append_right _ (List.mem_append_right _ (List.mem_append_right _ (List.mem_append_left _ (List.mem_of_getElem? (i := 38) rfl)))))
theorem q279 : (.code yX2_many cX2_many 2 (some .int)) ∈ LW := (List.mem_append_right _ (List.mem_append_right _ (List.mem_append_right _ (List.mem_append_left _ (List.mem_of_getElem? (i := 39) rfl)))))
theorem q280 : (.fieldLink RX2 245 "SorobanHall$Frame" "beads" "I") ∈ LW := (List.mem_append_right _ (List.mem_append_right _ (List.mem_append_right _ (List.mem_append_left _ (List.mem_of_getElem? (i := 40) rfl)))))
theorem q281 : (.methodLink RX2 241 yX1_copyFrom) ∈ LW := (List.mem_append_right _ (List.mem_append_right _ (List.mem_append_right _ (List.mem_append_left _ (List.mem_of_getElem? (i := 41) rfl)))))
theorem q282 : (.instanceMethod yX1_copyFrom) ∈ LW := (List.mem_append_right _ (List.mem_append_right _ (List.mem_append_right _ (List.mem_append_left _ (List.mem_of_getElem? (i := 42) rfl)))))
theorem q283 : (.selects RX1 yX1_copyFrom yX1_copyFrom) ∈ LW := (List.mem_append_right _ (List.mem_append_right _ (List.mem_append_right _ (List.mem_append_left _ (List.mem_of_getElem? (i := 43) rfl)))))
theorem q284 : (.code yX2_countByAdding cX2_countByAdding 4 (some .int)) ∈ LW := (List.mem_append_right _ (List.mem_append_right _ (List.mem_append_right _ (List.mem_append_left _ (List.mem_of_getElem? (i := 44) rfl)))))
theorem q285 : (.methodLink RX2 186 yX2_countByAdding) ∈ LW := (List.mem_append_right _ (List.mem_append_right _ (List.mem_append_right _ (List.mem_append_left _ (List.mem_of_getElem? (i := 45) rfl)))))
theorem q286 : (.instanceMethod yX2_countByAdding) ∈ LW := (List.mem_append_right _ (List.mem_append_right _ (List.mem_append_right _ (List.mem_append_left _ (List.mem_of_getElem? (i := 46) rfl)))))
theorem q287 : (.selects RX2 yX2_countByAdding yX2_countByAdding) ∈ LW := (List.mem_append_right _ (List.mem_append_right _ (List.mem_append_right _ (List.mem_append_left _ (List.mem_of_getElem? (i := 47) rfl)))))
theorem q288 : (.code yX2_would cX2_would 5 (some .int)) ∈ LW := (List.mem_append_right _ (List.mem_append_right _ (List.mem_append_right _ (List.mem_append_left _ (List.mem_of_getElem? (i := 48) rfl)))))
theorem q289 : (.code yX2_secondsByAdding cX2_secondsByAdding 3 (some .double)) ∈ LW := (List.mem_append_right _ (List.mem_append_right _ (List.mem_append_right _ (List.mem_append_left _ (List.mem_of_getElem? (i := 49) rfl)))))
theorem q290 : (.methodLink RX2 190 yX2_secondsByAdding) ∈ LW := (List.mem_append_right _ (List.mem_append_right _ (List.mem_append_right _ (List.mem_append_left _ (List.mem_of_getElem? (i := 50) rfl)))))
theorem q291 : (.instanceMethod yX2_secondsByAdding) ∈ LW := (List.mem_append_right _ (List.mem_append_right _ (List.mem_append_right _ (List.mem_append_left _ (List.mem_of_getElem? (i := 51) rfl)))))
theorem q292 : (.selects RX2 yX2_secondsByAdding yX2_secondsByAdding) ∈ LW := (List.mem_append_right _ (List.mem_append_right _ (List.mem_append_right _ (List.mem_append_left _ (List.mem_of_getElem? (i := 52) rfl)))))
theorem q293 : (.code yX2_wouldTake cX2_wouldTake 4 (some .double)) ∈ LW := (List.mem_append_right _ (List.mem_append_right _ (List.mem_append_right _ (List.mem_append_left _ (List.mem_of_getElem? (i := 53) rfl)))))
theorem q294 : (.methodLink RX2 248 Lib.Math.min.name) ∈ LW := (List.mem_append_right _ (List.mem_append_right _ (List.mem_append_right _ (List.mem_append_left _ (List.mem_of_getElem? (i := 54) rfl)))))
theorem q295 : (.code yX2_quickerToAdd cX2_quickerToAdd 10 (some .int)) ∈ LW := (List.mem_append_right _ (List.mem_append_right _ (List.mem_append_right _ (List.mem_append_left _ (List.mem_of_getElem? (i := 55) rfl)))))
theorem q296 : (.methodLink RX2 196 yX2_quickerToAdd) ∈ LW := (List.mem_append_right _ (List.mem_append_right _ (List.mem_append_right _ (List.mem_append_left _ (List.mem_of_getElem? (i := 56) rfl)))))
theorem q297 : (.instanceMethod yX2_quickerToAdd) ∈ LW := (List.mem_append_right _ (List.mem_append_right _ (List.mem_append_right _ (List.mem_append_left _ (List.mem_of_getElem? (i := 57) rfl)))))
theorem q298 : (.selects RX2 yX2_quickerToAdd yX2_quickerToAdd) ∈ LW := (List.mem_append_right _ (List.mem_append_right _ (List.mem_append_right _ (List.mem_append_left _ (List.mem_of_getElem? (i := 58) rfl)))))
theorem q299 : (.code yX2_quicker cX2_quicker 6 (some .int)) ∈ LW := (List.mem_append_right _ (List.mem_append_right _ (List.mem_append_right _ (List.mem_append_left _ (List.mem_of_getElem? (i := 59) rfl)))))
theorem q300 : (.methodLink RX2 253 yX1_bring) ∈ LW := (List.mem_append_right _ (List.mem_append_right _ (List.mem_append_right _ (List.mem_append_left _ (List.mem_of_getElem? (i := 60) rfl)))))
theorem q301 : (.code yX2_hardestDigit cX2_hardestDigit 7 (some .int)) ∈ LW := (List.mem_append_right _ (List.mem_append_right _ (List.mem_append_right _ (List.mem_append_left _ (List.mem_of_getElem? (i := 61) rfl)))))
theorem q302 : (.methodLink RX2 200 yX2_hardestDigit) ∈ LW := (List.mem_append_right _ (List.mem_append_right _ (List.mem_append_right _ (List.mem_append_left _ (List.mem_of_getElem? (i := 62) rfl)))))
theorem q303 : (.instanceMethod yX2_hardestDigit) ∈ LW := (List.mem_append_right _ (List.mem_append_right _ (List.mem_append_right _ (List.mem_append_left _ (List.mem_of_getElem? (i := 63) rfl)))))
theorem q304 : (.selects RX2 yX2_hardestDigit yX2_hardestDigit) ∈ LW := (List.mem_append_right _ (List.mem_append_right _ (List.mem_append_right _ (List.mem_append_left _ (List.mem_of_getElem? (i := 64) rfl)))))
theorem q305 : (.code yX2_hardest cX2_hardest 4 (some .int)) ∈ LW := (List.mem_append_right _ (List.mem_append_right _ (List.mem_append_right _ (List.mem_append_left _ (List.mem_of_getElem? (i := 65) rfl)))))
theorem q306 : (.code yX2_mixed cX2_mixed 4 (some .long)) ∈ LW := (List.mem_append_right _ (List.mem_append_right _ (List.mem_append_right _ (List.mem_append_left _ (List.mem_of_getElem? (i := 66) rfl)))))
theorem q307 : (.constantLong RX2 256 (31)) ∈ LW := (List.mem_append_right _ (List.mem_append_right _ (List.mem_append_right _ (List.mem_append_left _ (List.mem_of_getElem? (i := 67) rfl)))))
theorem q308 : (.constantDouble RX2 258 (4625196817309499392)) ∈ LW := (List.mem_append_right _ (List.mem_append_right _ (List.mem_append_right _ (List.mem_append_left _ (List.mem_of_getElem? (i := 68) rfl)))))
theorem q309 : (.fieldLink RX2 260 "SorobanHall$Frame" "rods" "I") ∈ LW := (List.mem_append_right _ (List.mem_append_right _ (List.mem_append_right _ (List.mem_append_left _ (List.mem_of_getElem? (i := 69) rfl)))))
theorem q310 : (.methodLink RX2 206 yX2_mixed) ∈ LW := (List.mem_append_right _ (List.mem_append_right _ (List.mem_append_right _ (List.mem_append_left _ (List.mem_of_getElem? (i := 70) rfl)))))
theorem q311 : (.static yX2_mixed) ∈ LW := (List.mem_append_right _ (List.mem_append_right _ (List.mem_append_right _ (List.mem_append_left _ (List.mem_of_getElem? (i := 71) rfl)))))
theorem q312 : (.methodLink RX2 180 yX1_waysToShow) ∈ LW := (List.mem_append_right _ (List.mem_append_right _ (List.mem_append_right _ (List.mem_append_left _ (List.mem_of_getElem? (i := 72) rfl)))))
theorem q313 : (.instanceMethod yX1_waysToShow) ∈ LW := (List.mem_append_right _ (List.mem_append_right _ (List.mem_append_right _ (List.mem_append_left _ (List.mem_of_getElem? (i := 73) rfl)))))
theorem q314 : (.selects RX1 yX1_waysToShow yX1_waysToShow) ∈ LW := (List.mem_append_right _ (List.mem_append_right _ (List.mem_append_right _ (List.mem_append_left _ (List.mem_of_getElem? (i := 74) rfl)))))
theorem q315 : (.methodLink RX2 183 yX1_fewestBeadsToShow) ∈ LW := (List.mem_append_right _ (List.mem_append_right _ (List.mem_append_right _ (List.mem_append_left _ (List.mem_of_getElem? (i := 75) rfl)))))
theorem q316 : (.instanceMethod yX1_fewestBeadsToShow) ∈ LW := (List.mem_append_right _ (List.mem_append_right _ (List.mem_append_right _ (List.mem_append_left _ (List.mem_of_getElem? (i := 76) rfl)))))
theorem q317 : (.selects RX1 yX1_fewestBeadsToShow yX1_fewestBeadsToShow) ∈ LW := (List.mem_append_right _ (List.mem_append_right _ (List.mem_append_right _ (List.mem_append_left _ (List.mem_of_getElem? (i := 77) rfl)))))
theorem q318 : (.methodLink RX2 162 yX1_factOfRod) ∈ LW := (List.mem_append_right _ (List.mem_append_right _ (List.mem_append_right _ (List.mem_append_left _ (List.mem_of_getElem? (i := 78) rfl)))))
theorem q319 : (.instanceMethod yX1_factOfRod) ∈ LW := (List.mem_append_right _ (List.mem_append_right _ (List.mem_append_right _ (List.mem_append_left _ (List.mem_of_getElem? (i := 79) rfl)))))
theorem q320 : (.selects RX1 yX1_factOfRod yX1_factOfRod) ∈ LW := (List.mem_append_right _ (List.mem_append_right _ (List.mem_append_right _ (List.mem_append_right _ (List.mem_append_left _ (List.mem_of_getElem? (i := 0) rfl))))))
theorem q321 : (.code yX2_mixedWithFrame cX2_mixedWithFrame 8 (some .long)) ∈ LW := (List.mem_append_right _ (List.mem_append_right _ (List.mem_append_right _ (List.mem_append_right _ (List.mem_append_left _ (List.mem_of_getElem? (i := 1) rfl))))))
theorem q322 : (.constantLong RX2 204 (58320)) ∈ LW := (List.mem_append_right _ (List.mem_append_right _ (List.mem_append_right _ (List.mem_append_right _ (List.mem_append_left _ (List.mem_of_getElem? (i := 2) rfl))))))
theorem q323 : (.methodLink RX2 210 yX2_mixedWithFrame) ∈ LW := (List.mem_append_right _ (List.mem_append_right _ (List.mem_append_right _ (List.mem_append_right _ (List.mem_append_left _ (List.mem_of_getElem? (i := 3) rfl))))))
theorem q324 : (.instanceMethod yX2_mixedWithFrame) ∈ LW := (List.mem_append_right _ (List.mem_append_right _ (List.mem_append_right _ (List.mem_append_right _ (List.mem_append_left _ (List.mem_of_getElem? (i := 4) rfl))))))
theorem q325 : (.selects RX2 yX2_mixedWithFrame yX2_mixedWithFrame) ∈ LW := (List.mem_append_right _ (List.mem_append_right _ (List.mem_append_right _ (List.mem_append_right _ (List.mem_append_left _ (List.mem_of_getElem? (i := 5) rfl))))))
theorem q326 : (.code yX2_digest cX2_digest 5 (some .long)) ∈ LW := (List.mem_append_right _ (List.mem_append_right _ (List.mem_append_right _ (List.mem_append_right _ (List.mem_append_left _ (List.mem_of_getElem? (i := 6) rfl))))))
theorem q327 : (.code yX3_init cX3_init 4 none) ∈ LW := (List.mem_append_right _ (List.mem_append_right _ (List.mem_append_right _ (List.mem_append_right _ (List.mem_append_left _ (List.mem_of_getElem? (i := 7) rfl))))))
theorem q328 : (.methodLink RX3 1 objectInit) ∈ LW := (List.mem_append_right _ (List.mem_append_right _ (List.mem_append_right _ (List.mem_append_right _ (List.mem_append_left _ (List.mem_of_getElem? (i := 8) rfl))))))
theorem q329 : (.classLink RX3 7 "[I") ∈ LW := (List.mem_append_right _ (List.mem_append_right _ (List.mem_append_right _ (List.mem_append_right _ (List.mem_append_left _ (List.mem_of_getElem? (i := 9) rfl))))))
theorem q330 : (.fieldLink RX3 9 "SorobanHallLaw$Told" "kept" "[[I") ∈ LW := (List.mem_append_right _ (List.mem_append_right _ (List.mem_append_right _ (List.mem_append_right _ (List.mem_append_left _ (List.mem_of_getElem? (i := 10) rfl))))))
theorem q331 : (.fieldLink RX3 15 "SorobanHallLaw$Told" "sums" "[I") ∈ LW := (List.mem_append_right _ (List.mem_append_right _ (List.mem_append_right _ (List.mem_append_right _ (List.mem_append_left _ (List.mem_of_getElem? (i := 11) rfl))))))
theorem q332 : (.fieldLink RX3 18 "SorobanHallLaw$Told" "m" "LSorobanHall;") ∈ LW := (List.mem_append_right _ (List.mem_append_right _ (List.mem_append_right _ (List.mem_append_right _ (List.mem_append_left _ (List.mem_of_getElem? (i := 12) rfl))))))
theorem q333 : (.fieldLink RX3 22 "SorobanHallLaw$Told" "s" "[I") ∈ LW := (List.mem_append_right _ (List.mem_append_right _ (List.mem_append_right _ (List.mem_append_right _ (List.mem_append_left _ (List.mem_of_getElem? (i := 13) rfl))))))
theorem q334 : (.fieldLink RX3 25 "SorobanHallLaw$Told" "draws" "I") ∈ LW := (List.mem_append_right _ (List.mem_append_right _ (List.mem_append_right _ (List.mem_append_right _ (List.mem_append_left _ (List.mem_of_getElem? (i := 14) rfl))))))
theorem q335 : (.code yL_cell cL_cell 2 (some .int)) ∈ LW := (List.mem_append_right _ (List.mem_append_right _ (List.mem_append_right _ (List.mem_append_right _ (List.mem_append_left _ (List.mem_of_getElem? (i := 15) rfl))))))
theorem q336 : (.constant RL 8 (790386105)) ∈ LW := (List.mem_append_right _ (List.mem_append_right _ (List.mem_append_right _ (List.mem_append_right _ (List.mem_append_left _ (List.mem_of_getElem? (i := 16) rfl))))))
theorem q337 : (.code yL_below cL_below 2 (some .int)) ∈ LW := (List.mem_append_right _ (List.mem_append_right _ (List.mem_append_right _ (List.mem_append_right _ (List.mem_append_left _ (List.mem_of_getElem? (i := 17) rfl))))))
theorem q338 : (.constant RL 7 (2147483647)) ∈ LW := (List.mem_append_right _ (List.mem_append_right _ (List.mem_append_right _ (List.mem_append_right _ (List.mem_append_left _ (List.mem_of_getElem? (i := 18) rfl))))))
theorem q339 : (.code yX3_draw cX3_draw 3 (some .int)) ∈ LW := (List.mem_append_right _ (List.mem_append_right _ (List.mem_append_right _ (List.mem_append_right _ (List.mem_append_left _ (List.mem_of_getElem? (i := 19) rfl))))))
theorem q340 : (.static yL_cell) ∈ LW := (List.mem_append_right _ (List.mem_append_right _ (List.mem_append_right _ (List.mem_append_right _ (List.mem_append_left _ (List.mem_of_getElem? (i := 20) rfl))))))
theorem q341 : (.initialized RL) ∈ LW := (List.mem_append_right _ (List.mem_append_right _ (List.mem_append_right _ (List.mem_append_right _ (List.mem_append_left _ (List.mem_of_getElem? (i := 21) rfl))))))
theorem q342 : (.static yL_below) ∈ LW := (List.mem_append_right _ (List.mem_append_right _ (List.mem_append_right _ (List.mem_append_right _ (List.mem_append_left _ (List.mem_of_getElem? (i := 22) rfl))))))
theorem q343 : (.fieldLink RX3 39 "SorobanHallLaw$Told" "number" "I") ∈ LW := (List.mem_append_right _ (List.mem_append_right _ (List.mem_append_right _ (List.mem_append_right _ (List.mem_append_left _ (List.mem_of_getElem? (i := 23) rfl))))))
theorem q344 : (.fieldLink RX3 46 "SorobanHallLaw$Told" "kind" "I") ∈ LW := (List.mem_append_right _ (List.mem_append_right _ (List.mem_append_right _ (List.mem_append_right _ (List.mem_append_left _ (List.mem_of_getElem? (i := 24) rfl))))))
theorem q345 : (.fieldLink RX3 49 "SorobanHallLaw$Told" "up" "[I") ∈ LW := (List.mem_append_right _ (List.mem_append_right _ (List.mem_append_right _ (List.mem_append_right _ (List.mem_append_left _ (List.mem_of_getElem? (i := 25) rfl))))))
theorem q346 : (.fieldLink RX3 52 "SorobanHallLaw$Told" "down" "[I") ∈ LW := (List.mem_append_right _ (List.mem_append_right _ (List.mem_append_right _ (List.mem_append_right _ (List.mem_append_left _ (List.mem_of_getElem? (i := 26) rfl))))))
theorem q347 : (.classLink RX3 55 "[[I") ∈ LW := (List.mem_append_right _ (List.mem_append_right _ (List.mem_append_right _ (List.mem_append_right _ (List.mem_append_left _ (List.mem_of_getElem? (i := 27) rfl))))))
theorem q348 : (.fieldLink RX3 56 "SorobanHallLaw$Told" "wear" "[[I") ∈ LW := (List.mem_append_right _ (List.mem_append_right _ (List.mem_append_right _ (List.mem_append_right _ (List.mem_append_left _ (List.mem_of_getElem? (i := 28) rfl))))))
theorem q349 : (.methodLink RX3 42 yX3_draw) ∈ LW := (List.mem_append_right _ (List.mem_append_right _ (List.mem_append_right _ (List.mem_append_right _ (List.mem_append_left _ (List.mem_of_getElem? (i := 29) rfl))))))
theorem q350 : (.instanceMethod yX3_draw) ∈ LW := (List.mem_append_right _ (List.mem_append_right _ (List.mem_append_right _ (List.mem_append_right _ (List.mem_append_left _ (List.mem_of_getElem? (i := 30) rfl))))))
theorem q351 : (.selects RX3 yX3_draw yX3_draw) ∈ LW := (List.mem_append_right _ (List.mem_append_right _ (List.mem_append_right _ (List.mem_append_right _ (List.mem_append_left _ (List.mem_of_getElem? (i := 31) rfl))))))
theorem q352 : (.initialized RX3) ∈ LW := (List.mem_append_right _ (List.mem_append_right _ (List.mem_append_right _ (List.mem_append_right _ (List.mem_append_left _ (List.mem_of_getElem? (i := 32) rfl))))))
theorem q353 : (.methodLink RX3 59 yX2_frame) ∈ LW := (List.mem_append_right _ (List.mem_append_right _ (List.mem_append_right _ (List.mem_append_right _ (List.mem_append_left _ (List.mem_of_getElem? (i := 33) rfl))))))
theorem q354 : (.instanceMethod yX2_frame) ∈ LW := (List.mem_append_right _ (List.mem_append_right _ (List.mem_append_right _ (List.mem_append_right _ (List.mem_append_left _ (List.mem_of_getElem? (i := 34) rfl))))))
theorem q355 : (.selects RX2 yX2_frame yX2_frame) ∈ LW := (List.mem_append_right _ (List.mem_append_right _ (List.mem_append_right _ (List.mem_append_right _ (List.mem_append_left _ (List.mem_of_getElem? (i := 35) rfl))))))
theorem q356 : (.code yX3_frame cX3_frame 3 (some .boolean)) ∈ LW := (List.mem_append_right _ (List.mem_append_right _ (List.mem_append_right _ (List.mem_append_right _ (List.mem_append_left _ (List.mem_of_getElem? (i := 36) rfl))))))
theorem q357 : (.code yX3_ups cX3_ups 1 (some .int)) ∈ LW := (List.mem_append_right _ (List.mem_append_right _ (List.mem_append_right _ (List.mem_append_right _ (List.mem_append_left _ (List.mem_of_getElem? (i := 37) rfl))))))
theorem q358 : (.code yX3_downs cX3_downs 1 (some .int)) ∈ LW := (List.mem_append_right _ (List.mem_append_right _ (List.mem_append_right _ (List.mem_append_right _ (List.mem_append_left _ (List.mem_of_getElem? (i := 38) rfl))))))
theorem q359 : (.code yX3_most cX3_most 1 (some .int)) ∈ LW := (List.mem_append_right _ (List.mem_append_right _ (List.mem_append_right _ (List.mem_append_right _ (List.mem_append_left _ (List.mem_of_getElem? (i := 39) rfl))))))
theorem q360 : (.methodLink RX3 64 yX3_ups) ∈ LW := (List.mem_append_right _ (List.mem_append_right _ (List.mem_append_right _ (List.mem_append_right _ (List.mem_append_left _ (List.mem_of_getElem? (i := 40) rfl))))))
theorem q361 : (.instanceMethod yX3_ups) ∈ LW := (List.mem_append_right _ (List.mem_append_right _ (List.mem_append_right _ (List.mem_append_right _ (List.mem_append_left _ (List.mem_of_getElem? (i := 41) rfl))))))
theorem q362 : (.selects RX3 yX3_ups yX3_ups) ∈ LW := (List.mem_append_right _ (List.mem_append_right _ (List.mem_append_right _ (List.mem_append_right _ (List.mem_append_left _ (List.mem_of_getElem? (i := 42) rfl))))))
theorem q363 : (.methodLink RX3 68 yX3_downs) ∈ LW := (List.mem_append_right _ (List.mem_append_right _ (List.mem_append_right _ (List.mem_append_right _ (List.mem_append_left _ (List.mem_of_getElem? (i := 43) rfl))))))
theorem q364 : (.instanceMethod yX3_downs) ∈ LW := (List.mem_append_right _ (List.mem_append_right _ (List.mem_append_right _ (List.mem_append_right _ (List.mem_append_left _ (List.mem_of_getElem? (i := 44) rfl))))))
theorem q365 : (.selects RX3 yX3_downs yX3_downs) ∈ LW := (List.mem_append_right _ (List.mem_append_right _ (List.mem_append_right _ (List.mem_append_right _ (List.mem_append_left _ (List.mem_of_getElem? (i := 45) rfl))))))
theorem q366 : (.code yX3_value cX3_value 2 (some .int)) ∈ LW := (List.mem_append_right _ (List.mem_append_right _ (List.mem_append_right _ (List.mem_append_right _ (List.mem_append_left _ (List.mem_of_getElem? (i := 46) rfl))))))
theorem q367 : (.code yX3_total cX3_total 6 (some .long)) ∈ LW := (List.mem_append_right _ (List.mem_append_right _ (List.mem_append_right _ (List.mem_append_right _ (List.mem_append_left _ (List.mem_of_getElem? (i := 47) rfl))))))
theorem q368 : (.constantLong RX3 74 (10)) ∈ LW := (List.mem_append_right _ (List.mem_append_right _ (List.mem_append_right _ (List.mem_append_right _ (List.mem_append_left _ (List.mem_of_getElem? (i := 48) rfl))))))
theorem q369 : (.methodLink RX3 71 yX3_value) ∈ LW := (List.mem_append_right _ (List.mem_append_right _ (List.mem_append_right _ (List.mem_append_right _ (List.mem_append_left _ (List.mem_of_getElem? (i := 49) rfl))))))
theorem q370 : (.instanceMethod yX3_value) ∈ LW := (List.mem_append_right _ (List.mem_append_right _ (List.mem_append_right _ (List.mem_append_right _ (List.mem_append_left _ (List.mem_of_getElem? (i := 50) rfl))))))
theorem q371 : (.selects RX3 yX3_value yX3_value) ∈ LW := (List.mem_append_right _ (List.mem_append_right _ (List.mem_append_right _ (List.mem_append_right _ (List.mem_append_left _ (List.mem_of_getElem? (i := 51) rfl))))))
theorem q372 : (.code yX3_isTidy cX3_isTidy 3 (some .boolean)) ∈ LW := (List.mem_append_right _ (List.mem_append_right _ (List.mem_append_right _ (List.mem_append_right _ (List.mem_append_left _ (List.mem_of_getElem? (i := 52) rfl))))))
theorem q373 : (.code yX3_keep cX3_keep 4 none) ∈ LW := (List.mem_append_right _ (List.mem_append_right _ (List.mem_append_right _ (List.mem_append_right _ (List.mem_append_left _ (List.mem_of_getElem? (i := 53) rfl))))))
theorem q374 : (.methodLink RX3 76 arraycopyName) ∈ LW := (List.mem_append_right _ (List.mem_append_right _ (List.mem_append_right _ (List.mem_append_right _ (List.mem_append_left _ (List.mem_of_getElem? (i := 54) rfl))))))
theorem q375 : (.native arraycopyName) ∈ LW := (List.mem_append_right _ (List.mem_append_right _ (List.mem_append_right _ (List.mem_append_right _ (List.mem_append_left _ (List.mem_of_getElem? (i := 55) rfl))))))
theorem q376 : (.static arraycopyName) ∈ LW := (List.mem_append_right _ (List.mem_append_right _ (List.mem_append_right _ (List.mem_append_right _ (List.mem_append_left _ (List.mem_of_getElem? (i := 56) rfl))))))
theorem q377 : (.initialized "java/lang/System") ∈ LW := (List.mem_append_right _ (List.mem_append_right _ (List.mem_append_right _ (List.mem_append_right _ (List.mem_append_left _ (List.mem_of_getElem? (i := 57) rfl))))))
theorem q378 : (.code yX3_move cX3_move 5 none) ∈ LW := (List.mem_append_right _ (List.mem_append_right _ (List.mem_append_right _ (List.mem_append_right _ (List.mem_append_left _ (List.mem_of_getElem? (i := 58) rfl))))))
theorem q379 : (.methodLink RX3 82 Lib.Math.abs.name) ∈ LW := (List.mem_append_right _ (List.mem_append_right _ (List.mem_append_right _ (List.mem_append_right _ (List.mem_append_left _ (List.mem_of_getElem? (i := 59) rfl))))))
theorem q380 : (.fieldLink RX3 87 "SorobanHallLaw$Told" "time" "J") ∈ LW := (List.mem_append_right _ (List.mem_append_right _ (List.mem_append_right _ (List.mem_append_right _ (List.mem_append_left _ (List.mem_of_getElem? (i := 60) rfl))))))
theorem q381 : (.fieldLink RX3 91 "SorobanHallLaw$Told" "hand" "I") ∈ LW := (List.mem_append_right _ (List.mem_append_right _ (List.mem_append_right _ (List.mem_append_right _ (List.mem_append_left _ (List.mem_of_getElem? (i := 61) rfl))))))
theorem q382 : (.code yX3_pushes cX3_pushes 4 (some .int)) ∈ LW := (List.mem_append_right _ (List.mem_append_right _ (List.mem_append_right _ (List.mem_append_right _ (List.mem_append_left _ (List.mem_of_getElem? (i := 62) rfl))))))
theorem q383 : (.code yX3_beads cX3_beads 4 (some .int)) ∈ LW := (List.mem_append_right _ (List.mem_append_right _ (List.mem_append_right _ (List.mem_append_right _ (List.mem_append_left _ (List.mem_of_getElem? (i := 63) rfl))))))
theorem q384 : (.methodLink RX3 94 yX3_pushes) ∈ LW := (List.mem_append_right _ (List.mem_append_right _ (List.mem_append_right _ (List.mem_append_right _ (List.mem_append_left _ (List.mem_of_getElem? (i := 64) rfl))))))
theorem q385 : (.instanceMethod yX3_pushes) ∈ LW := (List.mem_append_right _ (List.mem_append_right _ (List.mem_append_right _ (List.mem_append_right _ (List.mem_append_left _ (List.mem_of_getElem? (i := 65) rfl))))))
theorem q386 : (.selects RX3 yX3_pushes yX3_pushes) ∈ LW := (List.mem_append_right _ (List.mem_append_right _ (List.mem_append_right _ (List.mem_append_right _ (List.mem_append_left _ (List.mem_of_getElem? (i := 66) rfl))))))
theorem q387 : (.methodLink RX3 98 yX3_beads) ∈ LW := (List.mem_append_right _ (List.mem_append_right _ (List.mem_append_right _ (List.mem_append_right _ (List.mem_append_left _ (List.mem_of_getElem? (i := 67) rfl))))))
theorem q388 : (.instanceMethod yX3_beads) ∈ LW := (List.mem_append_right _ (List.mem_append_right _ (List.mem_append_right _ (List.mem_append_right _ (List.mem_append_left _ (List.mem_of_getElem? (i := 68) rfl))))))
theorem q389 : (.selects RX3 yX3_beads yX3_beads) ∈ LW := (List.mem_append_right _ (List.mem_append_right _ (List.mem_append_right _ (List.mem_append_right _ (List.mem_append_left _ (List.mem_of_getElem? (i := 69) rfl))))))
theorem q390 : (.methodLink RX3 101 yX3_move) ∈ LW := (List.mem_append_right _ (List.mem_append_right _ (List.mem_append_right _ (List.mem_append_right _ (List.mem_append_left _ (List.mem_of_getElem? (i := 70) rfl))))))
theorem q391 : (.instanceMethod yX3_move) ∈ LW := (List.mem_append_right _ (List.mem_append_right _ (List.mem_append_right _ (List.mem_append_right _ (List.mem_append_left _ (List.mem_of_getElem? (i := 71) rfl))))))
theorem q392 : (.selects RX3 yX3_move yX3_move) ∈ LW := (List.mem_append_right _ (List.mem_append_right _ (List.mem_append_right _ (List.mem_append_right _ (List.mem_append_left _ (List.mem_of_getElem? (i := 72) rfl))))))
theorem q393 : (.code yX3_set cX3_set 6 none) ∈ LW := (List.mem_append_right _ (List.mem_append_right _ (List.mem_append_right _ (List.mem_append_right _ (List.mem_append_left _ (List.mem_of_getElem? (i := 73) rfl))))))
theorem q394 : (.methodLink RX3 105 yX3_set) ∈ LW := (List.mem_append_right _ (List.mem_append_right _ (List.mem_append_right _ (List.mem_append_right _ (List.mem_append_left _ (List.mem_of_getElem? (i := 74) rfl))))))
theorem q395 : (.instanceMethod yX3_set) ∈ LW := (List.mem_append_right _ (List.mem_append_right _ (List.mem_append_right _ (List.mem_append_right _ (List.mem_append_left _ (List.mem_of_getElem? (i := 75) rfl))))))
theorem q396 : (.selects RX3 yX3_set yX3_set) ∈ LW := (List.mem_append_right _ (List.mem_append_right _ (List.mem_append_right _ (List.mem_append_right _ (List.mem_append_left _ (List.mem_of_getElem? (i := 76) rfl))))))
theorem q397 : (.code yX3_bring cX3_bring 6 none) ∈ LW := (List.mem_append_right _ (List.mem_append_right _ (List.mem_append_right _ (List.mem_append_right _ (List.mem_append_left _ (List.mem_of_getElem? (i := 77) rfl))))))
theorem q398 : (.code yX3_digits cX3_digits 7 (some (.array .int))) ∈ LW := (List.mem_append_right _ (List.mem_append_right _ (List.mem_append_right _ (List.mem_append_right _ (List.mem_append_left _ (List.mem_of_getElem? (i := 78) rfl))))))
theorem q399 : (.methodLink RX3 109 yX3_digits) ∈ LW := (List.mem_append_right _ (List.mem_append_right _ (List.mem_append_right _ (List.mem_append_right _ (List.mem_append_left _ (List.mem_of_getElem? (i := 79) rfl))))))
theorem q400 : (.static yX3_digits) ∈ LW := (List.mem_append_right _ (List.mem_append_right _ (List.mem_append_right _ (List.mem_append_right _ (List.mem_append_right _ (List.mem_append_left _ (List.mem_of_getElem? (i := 0) rfl)))))))
theorem q401 : (.methodLink RX3 113 yX3_bring) ∈ LW := (List.mem_append_right _ (List.mem_append_right _ (List.mem_append_right _ (List.mem_append_right _ (List.mem_append_right _ (List.mem_append_left _ (List.mem_of_getElem? (i := 1) rfl)))))))
theorem q402 : (.instanceMethod yX3_bring) ∈ LW := (List.mem_append_right _ (List.mem_append_right _ (List.mem_append_right _ (List.mem_append_right _ (List.mem_append_right _ (List.mem_append_left _ (List.mem_of_getElem? (i := 2) rfl)))))))
theorem q403 : (.selects RX3 yX3_bring yX3_bring) ∈ LW := (List.mem_append_right _ (List.mem_append_right _ (List.mem_append_right _ (List.mem_append_right _ (List.mem_append_right _ (List.mem_append_left _ (List.mem_of_getElem? (i := 3) rfl)))))))
theorem q404 : (.code yX3_adds cX3_adds 4 none) ∈ LW := (List.mem_append_right _ (List.mem_append_right _ (List.mem_append_right _ (List.mem_append_right _ (List.mem_append_right _ (List.mem_append_left _ (List.mem_of_getElem? (i := 4) rfl)))))))
theorem q405 : (.code yX3_some cX3_some 4 (some .int)) ∈ LW := (List.mem_append_right _ (List.mem_append_right _ (List.mem_append_right _ (List.mem_append_right _ (List.mem_append_right _ (List.mem_append_left _ (List.mem_of_getElem? (i := 5) rfl)))))))
theorem q406 : (.methodLink RX3 116 yX3_some) ∈ LW := (List.mem_append_right _ (List.mem_append_right _ (List.mem_append_right _ (List.mem_append_right _ (List.mem_append_right _ (List.mem_append_left _ (List.mem_of_getElem? (i := 6) rfl)))))))
theorem q407 : (.instanceMethod yX3_some) ∈ LW := (List.mem_append_right _ (List.mem_append_right _ (List.mem_append_right _ (List.mem_append_right _ (List.mem_append_right _ (List.mem_append_left _ (List.mem_of_getElem? (i := 7) rfl)))))))
theorem q408 : (.selects RX3 yX3_some yX3_some) ∈ LW := (List.mem_append_right _ (List.mem_append_right _ (List.mem_append_right _ (List.mem_append_right _ (List.mem_append_right _ (List.mem_append_left _ (List.mem_of_getElem? (i := 8) rfl)))))))
theorem q409 : (.methodLink RX3 119 yX3_keep) ∈ LW := (List.mem_append_right _ (List.mem_append_right _ (List.mem_append_right _ (List.mem_append_right _ (List.mem_append_right _ (List.mem_append_left _ (List.mem_of_getElem? (i := 9) rfl)))))))
theorem q410 : (.instanceMethod yX3_keep) ∈ LW := (List.mem_append_right _ (List.mem_append_right _ (List.mem_append_right _ (List.mem_append_right _ (List.mem_append_right _ (List.mem_append_left _ (List.mem_of_getElem? (i := 10) rfl)))))))
theorem q411 : (.selects RX3 yX3_keep yX3_keep) ∈ LW := (List.mem_append_right _ (List.mem_append_right _ (List.mem_append_right _ (List.mem_append_right _ (List.mem_append_right _ (List.mem_append_left _ (List.mem_of_getElem? (i := 11) rfl)))))))
theorem q412 : (.methodLink RX3 122 yX3_adds) ∈ LW := (List.mem_append_right _ (List.mem_append_right _ (List.mem_append_right _ (List.mem_append_right _ (List.mem_append_right _ (List.mem_append_left _ (List.mem_of_getElem? (i := 12) rfl)))))))
theorem q413 : (.instanceMethod yX3_adds) ∈ LW := (List.mem_append_right _ (List.mem_append_right _ (List.mem_append_right _ (List.mem_append_right _ (List.mem_append_right _ (List.mem_append_left _ (List.mem_of_getElem? (i := 13) rfl)))))))
theorem q414 : (.selects RX3 yX3_adds yX3_adds) ∈ LW := (List.mem_append_right _ (List.mem_append_right _ (List.mem_append_right _ (List.mem_append_right _ (List.mem_append_right _ (List.mem_append_left _ (List.mem_of_getElem? (i := 14) rfl)))))))
theorem q415 : (.methodLink RX3 126 yX2_add) ∈ LW := (List.mem_append_right _ (List.mem_append_right _ (List.mem_append_right _ (List.mem_append_right _ (List.mem_append_right _ (List.mem_append_left _ (List.mem_of_getElem? (i := 15) rfl)))))))
theorem q416 : (.instanceMethod yX2_add) ∈ LW := (List.mem_append_right _ (List.mem_append_right _ (List.mem_append_right _ (List.mem_append_right _ (List.mem_append_right _ (List.mem_append_left _ (List.mem_of_getElem? (i := 16) rfl)))))))
theorem q417 : (.selects RX2 yX2_add yX2_add) ∈ LW := (List.mem_append_right _ (List.mem_append_right _ (List.mem_append_right _ (List.mem_append_right _ (List.mem_append_right _ (List.mem_append_left _ (List.mem_of_getElem? (i := 17) rfl)))))))
theorem q418 : (.code yX3_add cX3_add 3 (some .boolean)) ∈ LW := (List.mem_append_right _ (List.mem_append_right _ (List.mem_append_right _ (List.mem_append_right _ (List.mem_append_right _ (List.mem_append_left _ (List.mem_of_getElem? (i := 18) rfl)))))))
theorem q419 : (.constant RX3 133 (99999999)) ∈ LW := (List.mem_append_right _ (List.mem_append_right _ (List.mem_append_right _ (List.mem_append_right _ (List.mem_append_right _ (List.mem_append_left _ (List.mem_of_getElem? (i := 19) rfl)))))))
theorem q420 : (.methodLink RX3 129 yX3_total) ∈ LW := (List.mem_append_right _ (List.mem_append_right _ (List.mem_append_right _ (List.mem_append_right _ (List.mem_append_right _ (List.mem_append_left _ (List.mem_of_getElem? (i := 20) rfl)))))))
theorem q421 : (.instanceMethod yX3_total) ∈ LW := (List.mem_append_right _ (List.mem_append_right _ (List.mem_append_right _ (List.mem_append_right _ (List.mem_append_right _ (List.mem_append_left _ (List.mem_of_getElem? (i := 21) rfl)))))))
theorem q422 : (.selects RX3 yX3_total yX3_total) ∈ LW := (List.mem_append_right _ (List.mem_append_right _ (List.mem_append_right _ (List.mem_append_right _ (List.mem_append_right _ (List.mem_append_left _ (List.mem_of_getElem? (i := 22) rfl)))))))
theorem q423 : (.methodLink RX3 134 yX3_isTidy) ∈ LW := (List.mem_append_right _ (List.mem_append_right _ (List.mem_append_right _ (List.mem_append_right _ (List.mem_append_right _ (List.mem_append_left _ (List.mem_of_getElem? (i := 23) rfl)))))))
theorem q424 : (.instanceMethod yX3_isTidy) ∈ LW := (List.mem_append_right _ (List.mem_append_right _ (List.mem_append_right _ (List.mem_append_right _ (List.mem_append_right _ (List.mem_append_left _ (List.mem_of_getElem? (i := 24) rfl)))))))
theorem q425 : (.selects RX3 yX3_isTidy yX3_isTidy) ∈ LW := (List.mem_append_right _ (List.mem_append_right _ (List.mem_append_right _ (List.mem_append_right _ (List.mem_append_right _ (List.mem_append_left _ (List.mem_of_getElem? (i := 25) rfl)))))))
theorem q426 : (.methodLink RX3 138 yX2_off) ∈ LW := (List.mem_append_right _ (List.mem_append_right _ (List.mem_append_right _ (List.mem_append_right _ (List.mem_append_right _ (List.mem_append_left _ (List.mem_of_getElem? (i := 26) rfl)))))))
theorem q427 : (.instanceMethod yX2_off) ∈ LW := (List.mem_append_right _ (List.mem_append_right _ (List.mem_append_right _ (List.mem_append_right _ (List.mem_append_right _ (List.mem_append_left _ (List.mem_of_getElem? (i := 27) rfl)))))))
theorem q428 : (.selects RX2 yX2_off yX2_off) ∈ LW := (List.mem_append_right _ (List.mem_append_right _ (List.mem_append_right _ (List.mem_append_right _ (List.mem_append_right _ (List.mem_append_left _ (List.mem_of_getElem? (i := 28) rfl)))))))
theorem q429 : (.code yX3_off cX3_off 8 (some .boolean)) ∈ LW := (List.mem_append_right _ (List.mem_append_right _ (List.mem_append_right _ (List.mem_append_right _ (List.mem_append_right _ (List.mem_append_left _ (List.mem_of_getElem? (i := 29) rfl)))))))
theorem q430 : (.methodLink RX3 141 yX2_times) ∈ LW := (List.mem_append_right _ (List.mem_append_right _ (List.mem_append_right _ (List.mem_append_right _ (List.mem_append_right _ (List.mem_append_left _ (List.mem_of_getElem? (i := 30) rfl)))))))
theorem q431 : (.instanceMethod yX2_times) ∈ LW := (List.mem_append_right _ (List.mem_append_right _ (List.mem_append_right _ (List.mem_append_right _ (List.mem_append_right _ (List.mem_append_left _ (List.mem_of_getElem? (i := 31) rfl)))))))
theorem q432 : (.selects RX2 yX2_times yX2_times) ∈ LW := (List.mem_append_right _ (List.mem_append_right _ (List.mem_append_right _ (List.mem_append_right _ (List.mem_append_right _ (List.mem_append_left _ (List.mem_of_getElem? (i := 32) rfl)))))))
theorem q433 : (.code yX3_times cX3_times 6 (some .boolean)) ∈ LW := (List.mem_append_right _ (List.mem_append_right _ (List.mem_append_right _ (List.mem_append_right _ (List.mem_append_right _ (List.mem_append_left _ (List.mem_of_getElem? (i := 33) rfl)))))))
theorem q434 : (.methodLink RX3 144 yX2_divide) ∈ LW := (List.mem_append_right _ (List.mem_append_right _ (List.mem_append_right _ (List.mem_append_right _ (List.mem_append_right _ (List.mem_append_left _ (List.mem_of_getElem? (i := 34) rfl)))))))
theorem q435 : (.instanceMethod yX2_divide) ∈ LW := (List.mem_append_right _ (List.mem_append_right _ (List.mem_append_right _ (List.mem_append_right _ (List.mem_append_right _ (List.mem_append_left _ (List.mem_of_getElem? (i := 35) rfl)))))))
theorem q436 : (.selects RX2 yX2_divide yX2_divide) ∈ LW := (List.mem_append_right _ (List.mem_append_right _ (List.mem_append_right _ (List.mem_append_right _ (List.mem_append_right _ (List.mem_append_left _ (List.mem_of_getElem? (i := 36) rfl)))))))
theorem q437 : (.code yX3_divide cX3_divide 5 (some .boolean)) ∈ LW := (List.mem_append_right _ (List.mem_append_right _ (List.mem_append_right _ (List.mem_append_right _ (List.mem_append_right _ (List.mem_append_left _ (List.mem_of_getElem? (i := 37) rfl)))))))
theorem q438 : (.methodLink RX3 147 yX2_shift) ∈ LW := (List.mem_append_right _ (List.mem_append_right _ (List.mem_append_right _ (List.mem_append_right _ (List.mem_append_right _ (List.mem_append_left _ (List.mem_of_getElem? (i := 38) rfl)))))))
theorem q439 : (.instanceMethod yX2_shift) ∈ LW := (List.mem_append_right _ (List.mem_append_right _ (List.mem_append_right _ (List.mem_append_right _ (List.mem_append_right _ (List.mem_append_left _ (List.mem_of_getElem? (i := 39) rfl)))))))
theorem q440 : (.selects RX2 yX2_shift yX2_shift) ∈ LW := (List.mem_append_right _ (List.mem_append_right _ (List.mem_append_right _ (List.mem_append_right _ (List.mem_append_right _ (List.mem_append_left _ (List.mem_of_getElem? (i := 40) rfl)))))))
theorem q441 : (.code yX3_shift cX3_shift 5 (some .boolean)) ∈ LW := (List.mem_append_right _ (List.mem_append_right _ (List.mem_append_right _ (List.mem_append_right _ (List.mem_append_right _ (List.mem_append_left _ (List.mem_of_getElem? (i := 41) rfl)))))))
theorem q442 : (.methodLink RX3 151 yX2_tidy) ∈ LW := (List.mem_append_right _ (List.mem_append_right _ (List.mem_append_right _ (List.mem_append_right _ (List.mem_append_right _ (List.mem_append_left _ (List.mem_of_getElem? (i := 42) rfl)))))))
theorem q443 : (.instanceMethod yX2_tidy) ∈ LW := (List.mem_append_right _ (List.mem_append_right _ (List.mem_append_right _ (List.mem_append_right _ (List.mem_append_right _ (List.mem_append_left _ (List.mem_of_getElem? (i := 43) rfl)))))))
theorem q444 : (.selects RX2 yX2_tidy yX2_tidy) ∈ LW := (List.mem_append_right _ (List.mem_append_right _ (List.mem_append_right _ (List.mem_append_right _ (List.mem_append_right _ (List.mem_append_left _ (List.mem_of_getElem? (i := 44) rfl)))))))
theorem q445 : (.code yX3_tidy cX3_tidy 3 (some .boolean)) ∈ LW := (List.mem_append_right _ (List.mem_append_right _ (List.mem_append_right _ (List.mem_append_right _ (List.mem_append_right _ (List.mem_append_left _ (List.mem_of_getElem? (i := 45) rfl)))))))
theorem q446 : (.methodLink RX3 154 yX2_clear) ∈ LW := (List.mem_append_right _ (List.mem_append_right _ (List.mem_append_right _ (List.mem_append_right _ (List.mem_append_right _ (List.mem_append_left _ (List.mem_of_getElem? (i := 46) rfl)))))))
theorem q447 : (.instanceMethod yX2_clear) ∈ LW := (List.mem_append_right _ (List.mem_append_right _ (List.mem_append_right _ (List.mem_append_right _ (List.mem_append_right _ (List.mem_append_left _ (List.mem_of_getElem? (i := 47) rfl)))))))
theorem q448 : (.selects RX2 yX2_clear yX2_clear) ∈ LW := (List.mem_append_right _ (List.mem_append_right _ (List.mem_append_right _ (List.mem_append_right _ (List.mem_append_right _ (List.mem_append_left _ (List.mem_of_getElem? (i := 48) rfl)))))))
theorem q449 : (.code yX3_clear cX3_clear 3 (some .boolean)) ∈ LW := (List.mem_append_right _ (List.mem_append_right _ (List.mem_append_right _ (List.mem_append_right _ (List.mem_append_right _ (List.mem_append_left _ (List.mem_of_getElem? (i := 49) rfl)))))))
theorem q450 : (.methodLink RX3 157 yX3_most) ∈ LW := (List.mem_append_right _ (List.mem_append_right _ (List.mem_append_right _ (List.mem_append_right _ (List.mem_append_right _ (List.mem_append_left _ (List.mem_of_getElem? (i := 50) rfl)))))))
theorem q451 : (.instanceMethod yX3_most) ∈ LW := (List.mem_append_right _ (List.mem_append_right _ (List.mem_append_right _ (List.mem_append_right _ (List.mem_append_right _ (List.mem_append_left _ (List.mem_of_getElem? (i := 51) rfl)))))))
theorem q452 : (.selects RX3 yX3_most yX3_most) ∈ LW := (List.mem_append_right _ (List.mem_append_right _ (List.mem_append_right _ (List.mem_append_right _ (List.mem_append_right _ (List.mem_append_left _ (List.mem_of_getElem? (i := 52) rfl)))))))
theorem q453 : (.methodLink RX3 160 yX2_set) ∈ LW := (List.mem_append_right _ (List.mem_append_right _ (List.mem_append_right _ (List.mem_append_right _ (List.mem_append_right _ (List.mem_append_left _ (List.mem_of_getElem? (i := 53) rfl)))))))
theorem q454 : (.instanceMethod yX2_set) ∈ LW := (List.mem_append_right _ (List.mem_append_right _ (List.mem_append_right _ (List.mem_append_right _ (List.mem_append_right _ (List.mem_append_left _ (List.mem_of_getElem? (i := 54) rfl)))))))
theorem q455 : (.selects RX2 yX2_set yX2_set) ∈ LW := (List.mem_append_right _ (List.mem_append_right _ (List.mem_append_right _ (List.mem_append_right _ (List.mem_append_right _ (List.mem_append_left _ (List.mem_of_getElem? (i := 55) rfl)))))))
theorem q456 : (.code yX3_sets cX3_sets 4 (some .boolean)) ∈ LW := (List.mem_append_right _ (List.mem_append_right _ (List.mem_append_right _ (List.mem_append_right _ (List.mem_append_right _ (List.mem_append_left _ (List.mem_of_getElem? (i := 56) rfl)))))))
theorem q457 : (.methodLink RX3 162 yX2_push) ∈ LW := (List.mem_append_right _ (List.mem_append_right _ (List.mem_append_right _ (List.mem_append_right _ (List.mem_append_right _ (List.mem_append_left _ (List.mem_of_getElem? (i := 57) rfl)))))))
theorem q458 : (.instanceMethod yX2_push) ∈ LW := (List.mem_append_right _ (List.mem_append_right _ (List.mem_append_right _ (List.mem_append_right _ (List.mem_append_right _ (List.mem_append_left _ (List.mem_of_getElem? (i := 58) rfl)))))))
theorem q459 : (.selects RX2 yX2_push yX2_push) ∈ LW := (List.mem_append_right _ (List.mem_append_right _ (List.mem_append_right _ (List.mem_append_right _ (List.mem_append_right _ (List.mem_append_left _ (List.mem_of_getElem? (i := 59) rfl)))))))
theorem q460 : (.code yX3_push cX3_push 5 (some .boolean)) ∈ LW := (List.mem_append_right _ (List.mem_append_right _ (List.mem_append_right _ (List.mem_append_right _ (List.mem_append_right _ (List.mem_append_left _ (List.mem_of_getElem? (i := 60) rfl)))))))
theorem q461 : (.methodLink RX3 166 yX2_back) ∈ LW := (List.mem_append_right _ (List.mem_append_right _ (List.mem_append_right _ (List.mem_append_right _ (List.mem_append_right _ (List.mem_append_left _ (List.mem_of_getElem? (i := 61) rfl)))))))
theorem q462 : (.instanceMethod yX2_back) ∈ LW := (List.mem_append_right _ (List.mem_append_right _ (List.mem_append_right _ (List.mem_append_right _ (List.mem_append_right _ (List.mem_append_left _ (List.mem_of_getElem? (i := 62) rfl)))))))
theorem q463 : (.selects RX2 yX2_back yX2_back) ∈ LW := (List.mem_append_right _ (List.mem_append_right _ (List.mem_append_right _ (List.mem_append_right _ (List.mem_append_right _ (List.mem_append_left _ (List.mem_of_getElem? (i := 63) rfl)))))))
theorem q464 : (.code yX3_back cX3_back 3 (some .boolean)) ∈ LW := (List.mem_append_right _ (List.mem_append_right _ (List.mem_append_right _ (List.mem_append_right _ (List.mem_append_right _ (List.mem_append_left _ (List.mem_of_getElem? (i := 64) rfl)))))))
theorem q465 : (.constantLong RX3 169 (32)) ∈ LW := (List.mem_append_right _ (List.mem_append_right _ (List.mem_append_right _ (List.mem_append_right _ (List.mem_append_right _ (List.mem_append_left _ (List.mem_of_getElem? (i := 65) rfl)))))))
theorem q466 : (.methodLink RX3 171 yX2_grease) ∈ LW := (List.mem_append_right _ (List.mem_append_right _ (List.mem_append_right _ (List.mem_append_right _ (List.mem_append_right _ (List.mem_append_left _ (List.mem_of_getElem? (i := 66) rfl)))))))
theorem q467 : (.instanceMethod yX2_grease) ∈ LW := (List.mem_append_right _ (List.mem_append_right _ (List.mem_append_right _ (List.mem_append_right _ (List.mem_append_right _ (List.mem_append_left _ (List.mem_of_getElem? (i := 67) rfl)))))))
theorem q468 : (.selects RX2 yX2_grease yX2_grease) ∈ LW := (List.mem_append_right _ (List.mem_append_right _ (List.mem_append_right _ (List.mem_append_right _ (List.mem_append_right _ (List.mem_append_left _ (List.mem_of_getElem? (i := 68) rfl)))))))
theorem q469 : (.code yX3_grease cX3_grease 3 (some .boolean)) ∈ LW := (List.mem_append_right _ (List.mem_append_right _ (List.mem_append_right _ (List.mem_append_right _ (List.mem_append_right _ (List.mem_append_left _ (List.mem_of_getElem? (i := 69) rfl)))))))
theorem q470 : (.methodLink RX3 174 yX3_add) ∈ LW := (List.mem_append_right _ (List.mem_append_right _ (List.mem_append_right _ (List.mem_append_right _ (List.mem_append_right _ (List.mem_append_left _ (List.mem_of_getElem? (i := 70) rfl)))))))
theorem q471 : (.instanceMethod yX3_add) ∈ LW := (List.mem_append_right _ (List.mem_append_right _ (List.mem_append_right _ (List.mem_append_right _ (List.mem_append_right _ (List.mem_append_left _ (List.mem_of_getElem? (i := 71) rfl)))))))
theorem q472 : (.selects RX3 yX3_add yX3_add) ∈ LW := (List.mem_append_right _ (List.mem_append_right _ (List.mem_append_right _ (List.mem_append_right _ (List.mem_append_right _ (List.mem_append_left _ (List.mem_of_getElem? (i := 72) rfl)))))))
theorem q473 : (.methodLink RX3 176 yX3_off) ∈ LW := (List.mem_append_right _ (List.mem_append_right _ (List.mem_append_right _ (List.mem_append_right _ (List.mem_append_right _ (List.mem_append_left _ (List.mem_of_getElem? (i := 73) rfl)))))))
theorem q474 : (.instanceMethod yX3_off) ∈ LW := (List.mem_append_right _ (List.mem_append_right _ (List.mem_append_right _ (List.mem_append_right _ (List.mem_append_right _ (List.mem_append_left _ (List.mem_of_getElem? (i := 74) rfl)))))))
theorem q475 : (.selects RX3 yX3_off yX3_off) ∈ LW := (List.mem_append_right _ (List.mem_append_right _ (List.mem_append_right _ (List.mem_append_right _ (List.mem_append_right _ (List.mem_append_left _ (List.mem_of_getElem? (i := 75) rfl)))))))
theorem q476 : (.methodLink RX3 178 yX3_times) ∈ LW := (List.mem_append_right _ (List.mem_append_right _ (List.mem_append_right _ (List.mem_append_right _ (List.mem_append_right _ (List.mem_append_left _ (List.mem_of_getElem? (i := 76) rfl)))))))
theorem q477 : (.instanceMethod yX3_times) ∈ LW := (List.mem_append_right _ (List.mem_append_right _ (List.mem_append_right _ (List.mem_append_right _ (List.mem_append_right _ (List.mem_append_left _ (List.mem_of_getElem? (i := 77) rfl)))))))
theorem q478 : (.selects RX3 yX3_times yX3_times) ∈ LW := (List.mem_append_right _ (List.mem_append_right _ (List.mem_append_right _ (List.mem_append_right _ (List.mem_append_right _ (List.mem_append_left _ (List.mem_of_getElem? (i := 78) rfl)))))))
theorem q479 : (.methodLink RX3 180 yX3_divide) ∈ LW := (List.mem_append_right _ (List.mem_append_right _ (List.mem_append_right _ (List.mem_append_right _ (List.mem_append_right _ (List.mem_append_left _ (List.mem_of_getElem? (i := 79) rfl)))))))
theorem q480 : (.instanceMethod yX3_divide) ∈ LW := (List.mem_append_right _ (List.mem_append_right _ (List.mem_append_right _ (List.mem_append_right _ (List.mem_append_right _ (List.mem_append_right _ (List.mem_append_left _ (List.mem_of_getElem? (i := 0) rfl))))))))
theorem q481 : (.selects RX3 yX3_divide yX3_divide) ∈ LW := (List.mem_append_right _ (List.mem_append_right _ (List.mem_append_right _ (List.mem_append_right _ (List.mem_append_right _ (List.mem_append_right _ (List.mem_append_left _ (List.mem_of_getElem? (i := 1) rfl))))))))
theorem q482 : (.methodLink RX3 182 yX3_shift) ∈ LW := (List.mem_append_right _ (List.mem_append_right _ (List.mem_append_right _ (List.mem_append_right _ (List.mem_append_right _ (List.mem_append_right _ (List.mem_append_left _ (List.mem_of_getElem? (i := 2) rfl))))))))
theorem q483 : (.instanceMethod yX3_shift) ∈ LW := (List.mem_append_right _ (List.mem_append_right _ (List.mem_append_right _ (List.mem_append_right _ (List.mem_append_right _ (List.mem_append_right _ (List.mem_append_left _ (List.mem_of_getElem? (i := 3) rfl))))))))
theorem q484 : (.selects RX3 yX3_shift yX3_shift) ∈ LW := (List.mem_append_right _ (List.mem_append_right _ (List.mem_append_right _ (List.mem_append_right _ (List.mem_append_right _ (List.mem_append_right _ (List.mem_append_left _ (List.mem_of_getElem? (i := 4) rfl))))))))
theorem q485 : (.methodLink RX3 184 yX3_tidy) ∈ LW := (List.mem_append_right _ (List.mem_append_right _ (List.mem_append_right _ (List.mem_append_right _ (List.mem_append_right _ (List.mem_append_right _ (List.mem_append_left _ (List.mem_of_getElem? (i := 5) rfl))))))))
theorem q486 : (.instanceMethod yX3_tidy) ∈ LW := (List.mem_append_right _ (List.mem_append_right _ (List.mem_append_right _ (List.mem_append_right _ (List.mem_append_right _ (List.mem_append_right _ (List.mem_append_left _ (List.mem_of_getElem? (i := 6) rfl))))))))
theorem q487 : (.selects RX3 yX3_tidy yX3_tidy) ∈ LW := (List.mem_append_right _ (List.mem_append_right _ (List.mem_append_right _ (List.mem_append_right _ (List.mem_append_right _ (List.mem_append_right _ (List.mem_append_left _ (List.mem_of_getElem? (i := 7) rfl))))))))
theorem q488 : (.methodLink RX3 186 yX3_clear) ∈ LW := (List.mem_append_right _ (List.mem_append_right _ (List.mem_append_right _ (List.mem_append_right _ (List.mem_append_right _ (List.mem_append_right _ (List.mem_append_left _ (List.mem_of_getElem? (i := 8) rfl))))))))
theorem q489 : (.instanceMethod yX3_clear) ∈ LW := (List.mem_append_right _ (List.mem_append_right _ (List.mem_append_right _ (List.mem_append_right _ (List.mem_append_right _ (List.mem_append_right _ (List.mem_append_left _ (List.mem_of_getElem? (i := 9) rfl))))))))
theorem q490 : (.selects RX3 yX3_clear yX3_clear) ∈ LW := (List.mem_append_right _ (List.mem_append_right _ (List.mem_append_right _ (List.mem_append_right _ (List.mem_append_right _ (List.mem_append_right _ (List.mem_append_left _ (List.mem_of_getElem? (i := 10) rfl))))))))
theorem q491 : (.methodLink RX3 188 yX3_sets) ∈ LW := (List.mem_append_right _ (List.mem_append_right _ (List.mem_append_right _ (List.mem_append_right _ (List.mem_append_right _ (List.mem_append_right _ (List.mem_append_left _ (List.mem_of_getElem? (i := 11) rfl))))))))
theorem q492 : (.instanceMethod yX3_sets) ∈ LW := (List.mem_append_right _ (List.mem_append_right _ (List.mem_append_right _ (List.mem_append_right _ (List.mem_append_right _ (List.mem_append_right _ (List.mem_append_left _ (List.mem_of_getElem? (i := 12) rfl))))))))
theorem q493 : (.selects RX3 yX3_sets yX3_sets) ∈ LW := (List.mem_append_right _ (List.mem_append_right _ (List.mem_append_right _ (List.mem_append_right _ (List.mem_append_right _ (List.mem_append_right _ (List.mem_append_left _ (List.mem_of_getElem? (i := 13) rfl))))))))
theorem q494 : (.methodLink RX3 191 yX3_push) ∈ LW := (List.mem_append_right _ (List.mem_append_right _ (List.mem_append_right _ (List.mem_append_right _ (List.mem_append_right _ (List.mem_append_right _ (List.mem_append_left _ (List.mem_of_getElem? (i := 14) rfl))))))))
theorem q495 : (.instanceMethod yX3_push) ∈ LW := (List.mem_append_right _ (List.mem_append_right _ (List.mem_append_right _ (List.mem_append_right _ (List.mem_append_right _ (List.mem_append_right _ (List.mem_append_left _ (List.mem_of_getElem? (i := 15) rfl))))))))
theorem q496 : (.selects RX3 yX3_push yX3_push) ∈ LW := (List.mem_append_right _ (List.mem_append_right _ (List.mem_append_right _ (List.mem_append_right _ (List.mem_append_right _ (List.mem_append_right _ (List.mem_append_left _ (List.mem_of_getElem? (i := 16) rfl))))))))
theorem q497 : (.methodLink RX3 193 yX3_back) ∈ LW := (List.mem_append_right _ (List.mem_append_right _ (List.mem_append_right _ (List.mem_append_right _ (List.mem_append_right _ (List.mem_append_right _ (List.mem_append_left _ (List.mem_of_getElem? (i := 17) rfl))))))))
theorem q498 : (.instanceMethod yX3_back) ∈ LW := (List.mem_append_right _ (List.mem_append_right _ (List.mem_append_right _ (List.mem_append_right _ (List.mem_append_right _ (List.mem_append_right _ (List.mem_append_left _ (List.mem_of_getElem? (i := 18) rfl))))))))
theorem q499 : (.selects RX3 yX3_back yX3_back) ∈ LW := (List.mem_append_right _ (List.mem_append_right _ (List.mem_append_right _ (List.mem_append_right _ (List.mem_append_right _ (List.mem_append_right _ (List.mem_append_left _ (List.mem_of_getElem? (i := 19) rfl))))))))
theorem q500 : (.methodLink RX3 195 yX3_grease) ∈ LW := (List.mem_append_right _ (List.mem_append_right _ (List.mem_append_right _ (List.mem_append_right _ (List.mem_append_right _ (List.mem_append_right _ (List.mem_append_left _ (List.mem_of_getElem? (i := 20) rfl))))))))
theorem q501 : (.instanceMethod yX3_grease) ∈ LW := (List.mem_append_right _ (List.mem_append_right _ (List.mem_append_right _ (List.mem_append_right _ (List.mem_append_right _ (List.mem_append_right _ (List.mem_append_left _ (List.mem_of_getElem? (i := 21) rfl))))))))
theorem q502 : (.selects RX3 yX3_grease yX3_grease) ∈ LW := (List.mem_append_right _ (List.mem_append_right _ (List.mem_append_right _ (List.mem_append_right _ (List.mem_append_right _ (List.mem_append_right _ (List.mem_append_left _ (List.mem_of_getElem? (i := 22) rfl))))))))
theorem q503 : (.code yX3_act cX3_act 1 (some .boolean)) ∈ LW := (List.mem_append_right _ (List.mem_append_right _ (List.mem_append_right _ (List.mem_append_right _ (List.mem_append_right _ (List.mem_append_right _ (List.mem_append_left _ (List.mem_of_getElem? (i := 23) rfl))))))))
theorem q504 : (.code yJ9_abs_0f7a4 cJ9_abs_0f7a4 1 (some .int)) ∈ LW := (List.mem_append_right _ (List.mem_append_right _ (List.mem_append_right _ (List.mem_append_right _ (List.mem_append_right _ (List.mem_append_right _ (List.mem_append_left _ (List.mem_of_getElem? (i := 24) rfl))))))))
theorem q505 : (.code yJ9_min_7cf53 cJ9_min_7cf53 2 (some .int)) ∈ LW := (List.mem_append_right _ (List.mem_append_right _ (List.mem_append_right _ (List.mem_append_right _ (List.mem_append_right _ (List.mem_append_right _ (List.mem_append_left _ (List.mem_of_getElem? (i := 25) rfl))))))))
theorem q506 : (.methodLink RL 68 yX2_clear) ∈ LW := (List.mem_append_right _ (List.mem_append_right _ (List.mem_append_right _ (List.mem_append_right _ (List.mem_append_right _ (List.mem_append_right _ (List.mem_append_left _ (List.mem_of_getElem? (i := 26) rfl))))))))
theorem q507 : (.methodLink RL 71 yX2_many) ∈ LW := (List.mem_append_right _ (List.mem_append_right _ (List.mem_append_right _ (List.mem_append_right _ (List.mem_append_right _ (List.mem_append_right _ (List.mem_append_left _ (List.mem_of_getElem? (i := 27) rfl))))))))
theorem q508 : (.instanceMethod yX2_many) ∈ LW := (List.mem_append_right _ (List.mem_append_right _ (List.mem_append_right _ (List.mem_append_right _ (List.mem_append_right _ (List.mem_append_right _ (List.mem_append_left _ (List.mem_of_getElem? (i := 28) rfl))))))))
theorem q509 : (.selects RX2 yX2_many yX2_many) ∈ LW := (List.mem_append_right _ (List.mem_append_right _ (List.mem_append_right _ (List.mem_append_right _ (List.mem_append_right _ (List.mem_append_right _ (List.mem_append_left _ (List.mem_of_getElem? (i := 29) rfl))))))))
theorem q510 : (.methodLink RL 25 yX3_draw) ∈ LW := (List.mem_append_right _ (List.mem_append_right _ (List.mem_append_right _ (List.mem_append_right _ (List.mem_append_right _ (List.mem_append_right _ (List.mem_append_left _ (List.mem_of_getElem? (i := 30) rfl))))))))
theorem q511 : (.methodLink RL 59 yX2_add) ∈ LW := (List.mem_append_right _ (List.mem_append_right _ (List.mem_append_right _ (List.mem_append_right _ (List.mem_append_right _ (List.mem_append_right _ (List.mem_append_left _ (List.mem_of_getElem? (i := 31) rfl))))))))
theorem q512 : (.methodLink RL 74 yX2_off) ∈ LW := (List.mem_append_right _ (List.mem_append_right _ (List.mem_append_right _ (List.mem_append_right _ (List.mem_append_right _ (List.mem_append_right _ (List.mem_append_left _ (List.mem_of_getElem? (i := 32) rfl))))))))
theorem q513 : (.methodLink RL 77 yX2_number) ∈ LW := (List.mem_append_right _ (List.mem_append_right _ (List.mem_append_right _ (List.mem_append_right _ (List.mem_append_right _ (List.mem_append_right _ (List.mem_append_left _ (List.mem_of_getElem? (i := 33) rfl))))))))
theorem q514 : (.instanceMethod yX2_number) ∈ LW := (List.mem_append_right _ (List.mem_append_right _ (List.mem_append_right _ (List.mem_append_right _ (List.mem_append_right _ (List.mem_append_right _ (List.mem_append_left _ (List.mem_of_getElem? (i := 34) rfl))))))))
theorem q515 : (.selects RX2 yX2_number yX2_number) ∈ LW := (List.mem_append_right _ (List.mem_append_right _ (List.mem_append_right _ (List.mem_append_right _ (List.mem_append_right _ (List.mem_append_right _ (List.mem_append_left _ (List.mem_of_getElem? (i := 35) rfl))))))))
theorem q516 : (.methodLink RL 81 yX2_divide) ∈ LW := (List.mem_append_right _ (List.mem_append_right _ (List.mem_append_right _ (List.mem_append_right _ (List.mem_append_right _ (List.mem_append_right _ (List.mem_append_left _ (List.mem_of_getElem? (i := 36) rfl))))))))
theorem q517 : (.methodLink RL 84 yX2_times) ∈ LW := (List.mem_append_right _ (List.mem_append_right _ (List.mem_append_right _ (List.mem_append_right _ (List.mem_append_right _ (List.mem_append_right _ (List.mem_append_left _ (List.mem_of_getElem? (i := 37) rfl))))))))
theorem q518 : (.methodLink RL 87 yX2_show) ∈ LW := (List.mem_append_right _ (List.mem_append_right _ (List.mem_append_right _ (List.mem_append_right _ (List.mem_append_right _ (List.mem_append_right _ (List.mem_append_left _ (List.mem_of_getElem? (i := 38) rfl))))))))
theorem q519 : (.instanceMethod yX2_show) ∈ LW := (List.mem_append_right _ (List.mem_append_right _ (List.mem_append_right _ (List.mem_append_right _ (List.mem_append_right _ (List.mem_append_right _ (List.mem_append_left _ (List.mem_of_getElem? (i := 39) rfl))))))))
theorem q520 : (.selects RX2 yX2_show yX2_show) ∈ LW := (List.mem_append_right _ (List.mem_append_right _ (List.mem_append_right _ (List.mem_append_right _ (List.mem_append_right _ (List.mem_append_right _ (List.mem_append_left _ (List.mem_of_getElem? (i := 40) rfl))))))))
theorem q521 : (.methodLink RL 90 yX2_shift) ∈ LW := (List.mem_append_right _ (List.mem_append_right _ (List.mem_append_right _ (List.mem_append_right _ (List.mem_append_right _ (List.mem_append_right _ (List.mem_append_left _ (List.mem_of_getElem? (i := 41) rfl))))))))
theorem q522 : (.code yL_isTogether cL_isTogether 7 (some .boolean)) ∈ LW := (List.mem_append_right _ (List.mem_append_right _ (List.mem_append_right _ (List.mem_append_right _ (List.mem_append_right _ (List.mem_append_right _ (List.mem_append_left _ (List.mem_of_getElem? (i := 42) rfl))))))))
theorem q523 : (.classLink RL 9 RX2) ∈ LW := (List.mem_append_right _ (List.mem_append_right _ (List.mem_append_right _ (List.mem_append_right _ (List.mem_append_right _ (List.mem_append_right _ (List.mem_append_left _ (List.mem_of_getElem? (i := 43) rfl))))))))
theorem q524 : (.instantiable RX2 4) ∈ LW := (List.mem_append_right _ (List.mem_append_right _ (List.mem_append_right _ (List.mem_append_right _ (List.mem_append_right _ (List.mem_append_right _ (List.mem_append_left _ (List.mem_of_getElem? (i := 44) rfl))))))))
theorem q525 : (.classLink RL 12 RX3) ∈ LW := (List.mem_append_right _ (List.mem_append_right _ (List.mem_append_right _ (List.mem_append_right _ (List.mem_append_right _ (List.mem_append_right _ (List.mem_append_left _ (List.mem_of_getElem? (i := 45) rfl))))))))
theorem q526 : (.instantiable RX3 12) ∈ LW := (List.mem_append_right _ (List.mem_append_right _ (List.mem_append_right _ (List.mem_append_right _ (List.mem_append_right _ (List.mem_append_right _ (List.mem_append_left _ (List.mem_of_getElem? (i := 46) rfl))))))))
theorem q527 : (.arrayClass .double) ∈ LW := (List.mem_append_right _ (List.mem_append_right _ (List.mem_append_right _ (List.mem_append_right _ (List.mem_append_right _ (List.mem_append_right _ (List.mem_append_left _ (List.mem_of_getElem? (i := 47) rfl))))))))
theorem q528 : (.fieldLink RL 41 "SorobanHallLaw$Told" "up" "[I") ∈ LW := (List.mem_append_right _ (List.mem_append_right _ (List.mem_append_right _ (List.mem_append_right _ (List.mem_append_right _ (List.mem_append_right _ (List.mem_append_left _ (List.mem_of_getElem? (i := 48) rfl))))))))
theorem q529 : (.methodLink RL 11 yX2_init) ∈ LW := (List.mem_append_right _ (List.mem_append_right _ (List.mem_append_right _ (List.mem_append_right _ (List.mem_append_right _ (List.mem_append_right _ (List.mem_append_left _ (List.mem_of_getElem? (i := 49) rfl))))))))
theorem q530 : (.instanceMethod yX2_init) ∈ LW := (List.mem_append_right _ (List.mem_append_right _ (List.mem_append_right _ (List.mem_append_right _ (List.mem_append_right _ (List.mem_append_right _ (List.mem_append_left _ (List.mem_of_getElem? (i := 50) rfl))))))))
theorem q531 : (.methodLink RL 14 yX3_init) ∈ LW := (List.mem_append_right _ (List.mem_append_right _ (List.mem_append_right _ (List.mem_append_right _ (List.mem_append_right _ (List.mem_append_right _ (List.mem_append_left _ (List.mem_of_getElem? (i := 51) rfl))))))))
theorem q532 : (.instanceMethod yX3_init) ∈ LW := (List.mem_append_right _ (List.mem_append_right _ (List.mem_append_right _ (List.mem_append_right _ (List.mem_append_right _ (List.mem_append_right _ (List.mem_append_left _ (List.mem_of_getElem? (i := 52) rfl))))))))
theorem q533 : (.methodLink RL 17 yX3_frame) ∈ LW := (List.mem_append_right _ (List.mem_append_right _ (List.mem_append_right _ (List.mem_append_right _ (List.mem_append_right _ (List.mem_append_right _ (List.mem_append_left _ (List.mem_of_getElem? (i := 53) rfl))))))))
theorem q534 : (.instanceMethod yX3_frame) ∈ LW := (List.mem_append_right _ (List.mem_append_right _ (List.mem_append_right _ (List.mem_append_right _ (List.mem_append_right _ (List.mem_append_right _ (List.mem_append_left _ (List.mem_of_getElem? (i := 54) rfl))))))))
theorem q535 : (.selects RX3 yX3_frame yX3_frame) ∈ LW := (List.mem_append_right _ (List.mem_append_right _ (List.mem_append_right _ (List.mem_append_right _ (List.mem_append_right _ (List.mem_append_right _ (List.mem_append_left _ (List.mem_of_getElem? (i := 55) rfl))))))))
theorem q536 : (.methodLink RL 21 yX3_act) ∈ LW := (List.mem_append_right _ (List.mem_append_right _ (List.mem_append_right _ (List.mem_append_right _ (List.mem_append_right _ (List.mem_append_right _ (List.mem_append_left _ (List.mem_of_getElem? (i := 56) rfl))))))))
theorem q537 : (.instanceMethod yX3_act) ∈ LW := (List.mem_append_right _ (List.mem_append_right _ (List.mem_append_right _ (List.mem_append_right _ (List.mem_append_right _ (List.mem_append_right _ (List.mem_append_left _ (List.mem_of_getElem? (i := 57) rfl))))))))
theorem q538 : (.selects RX3 yX3_act yX3_act) ∈ LW := (List.mem_append_right _ (List.mem_append_right _ (List.mem_append_right _ (List.mem_append_right _ (List.mem_append_right _ (List.mem_append_right _ (List.mem_append_left _ (List.mem_of_getElem? (i := 58) rfl))))))))
theorem q539 : (.methodLink RL 29 yX2_digest) ∈ LW := (List.mem_append_right _ (List.mem_append_right _ (List.mem_append_right _ (List.mem_append_right _ (List.mem_append_right _ (List.mem_append_right _ (List.mem_append_left _ (List.mem_of_getElem? (i := 59) rfl))))))))
theorem q540 : (.instanceMethod yX2_digest) ∈ LW := (List.mem_append_right _ (List.mem_append_right _ (List.mem_append_right _ (List.mem_append_right _ (List.mem_append_right _ (List.mem_append_right _ (List.mem_append_left _ (List.mem_of_getElem? (i := 60) rfl))))))))
theorem q541 : (.selects RX2 yX2_digest yX2_digest) ∈ LW := (List.mem_append_right _ (List.mem_append_right _ (List.mem_append_right _ (List.mem_append_right _ (List.mem_append_right _ (List.mem_append_right _ (List.mem_append_left _ (List.mem_of_getElem? (i := 61) rfl))))))))
theorem q542 : (.methodLink RL 33 yX2_quicker) ∈ LW := (List.mem_append_right _ (List.mem_append_right _ (List.mem_append_right _ (List.mem_append_right _ (List.mem_append_right _ (List.mem_append_right _ (List.mem_append_left _ (List.mem_of_getElem? (i := 62) rfl))))))))
theorem q543 : (.instanceMethod yX2_quicker) ∈ LW := (List.mem_append_right _ (List.mem_append_right _ (List.mem_append_right _ (List.mem_append_right _ (List.mem_append_right _ (List.mem_append_right _ (List.mem_append_left _ (List.mem_of_getElem? (i := 63) rfl))))))))
theorem q544 : (.selects RX2 yX2_quicker yX2_quicker) ∈ LW := (List.mem_append_right _ (List.mem_append_right _ (List.mem_append_right _ (List.mem_append_right _ (List.mem_append_right _ (List.mem_append_right _ (List.mem_append_left _ (List.mem_of_getElem? (i := 64) rfl))))))))
theorem q545 : (.methodLink RL 37 yX2_wouldTake) ∈ LW := (List.mem_append_right _ (List.mem_append_right _ (List.mem_append_right _ (List.mem_append_right _ (List.mem_append_right _ (List.mem_append_right _ (List.mem_append_left _ (List.mem_of_getElem? (i := 65) rfl))))))))
theorem q546 : (.instanceMethod yX2_wouldTake) ∈ LW := (List.mem_append_right _ (List.mem_append_right _ (List.mem_append_right _ (List.mem_append_right _ (List.mem_append_right _ (List.mem_append_right _ (List.mem_append_left _ (List.mem_of_getElem? (i := 66) rfl))))))))
theorem q547 : (.selects RX2 yX2_wouldTake yX2_wouldTake) ∈ LW := (List.mem_append_right _ (List.mem_append_right _ (List.mem_append_right _ (List.mem_append_right _ (List.mem_append_right _ (List.mem_append_right _ (List.mem_append_left _ (List.mem_of_getElem? (i := 67) rfl))))))))
theorem q548 : (.methodLink RL 45 yX2_hardest) ∈ LW := (List.mem_append_right _ (List.mem_append_right _ (List.mem_append_right _ (List.mem_append_right _ (List.mem_append_right _ (List.mem_append_right _ (List.mem_append_left _ (List.mem_of_getElem? (i := 68) rfl))))))))
theorem q549 : (.instanceMethod yX2_hardest) ∈ LW := (List.mem_append_right _ (List.mem_append_right _ (List.mem_append_right _ (List.mem_append_right _ (List.mem_append_right _ (List.mem_append_right _ (List.mem_append_left _ (List.mem_of_getElem? (i := 69) rfl))))))))
theorem q550 : (.selects RX2 yX2_hardest yX2_hardest) ∈ LW := (List.mem_append_right _ (List.mem_append_right _ (List.mem_append_right _ (List.mem_append_right _ (List.mem_append_right _ (List.mem_append_right _ (List.mem_append_left _ (List.mem_of_getElem? (i := 70) rfl))))))))
theorem q551 : (.methodLink RL 49 yX2_seconds) ∈ LW := (List.mem_append_right _ (List.mem_append_right _ (List.mem_append_right _ (List.mem_append_right _ (List.mem_append_right _ (List.mem_append_right _ (List.mem_append_left _ (List.mem_of_getElem? (i := 71) rfl))))))))
theorem q552 : (.instanceMethod yX2_seconds) ∈ LW := (List.mem_append_right _ (List.mem_append_right _ (List.mem_append_right _ (List.mem_append_right _ (List.mem_append_right _ (List.mem_append_right _ (List.mem_append_left _ (List.mem_of_getElem? (i := 72) rfl))))))))
theorem q553 : (.selects RX2 yX2_seconds yX2_seconds) ∈ LW := (List.mem_append_right _ (List.mem_append_right _ (List.mem_append_right _ (List.mem_append_right _ (List.mem_append_right _ (List.mem_append_right _ (List.mem_append_left _ (List.mem_of_getElem? (i := 73) rfl))))))))
theorem q554 : (.methodLink RL 53 yX2_would) ∈ LW := (List.mem_append_right _ (List.mem_append_right _ (List.mem_append_right _ (List.mem_append_right _ (List.mem_append_right _ (List.mem_append_right _ (List.mem_append_left _ (List.mem_of_getElem? (i := 74) rfl))))))))
theorem q555 : (.instanceMethod yX2_would) ∈ LW := (List.mem_append_right _ (List.mem_append_right _ (List.mem_append_right _ (List.mem_append_right _ (List.mem_append_right _ (List.mem_append_right _ (List.mem_append_left _ (List.mem_of_getElem? (i := 75) rfl))))))))
theorem q556 : (.selects RX2 yX2_would yX2_would) ∈ LW := (List.mem_append_right _ (List.mem_append_right _ (List.mem_append_right _ (List.mem_append_right _ (List.mem_append_right _ (List.mem_append_right _ (List.mem_append_left _ (List.mem_of_getElem? (i := 76) rfl))))))))
theorem q557 : (.methodLink RL 56 yX2_ofFrame) ∈ LW := (List.mem_append_right _ (List.mem_append_right _ (List.mem_append_right _ (List.mem_append_right _ (List.mem_append_right _ (List.mem_append_right _ (List.mem_append_left _ (List.mem_of_getElem? (i := 77) rfl))))))))
theorem q558 : (.instanceMethod yX2_ofFrame) ∈ LW := (List.mem_append_right _ (List.mem_append_right _ (List.mem_append_right _ (List.mem_append_right _ (List.mem_append_right _ (List.mem_append_right _ (List.mem_append_left _ (List.mem_of_getElem? (i := 78) rfl))))))))
theorem q559 : (.selects RX2 yX2_ofFrame yX2_ofFrame) ∈ LW := (List.mem_append_right _ (List.mem_append_right _ (List.mem_append_right _ (List.mem_append_right _ (List.mem_append_right _ (List.mem_append_right _ (List.mem_append_left _ (List.mem_of_getElem? (i := 79) rfl))))))))
theorem q560 : (.methodLink RL 62 yL_isTogether) ∈ LW := (List.mem_append_right _ (List.mem_append_right _ (List.mem_append_right _ (List.mem_append_right _ (List.mem_append_right _ (List.mem_append_right _ (List.mem_append_right _ (List.mem_append_left _ (List.mem_of_getElem? (i := 0) rfl)))))))))
theorem q561 : (.static yL_isTogether) ∈ LW := (List.mem_append_right _ (List.mem_append_right _ (List.mem_append_right _ (List.mem_append_right _ (List.mem_append_right _ (List.mem_append_right _ (List.mem_append_right _ (List.mem_append_left _ (List.mem_of_getElem? (i := 1) rfl)))))))))
theorem iX0 : ∀ w ∈ wsX00, w ∈ LW := fun _ h => (List.mem_append_right _ (List.mem_append_right _ (List.mem_append_right _ (List.mem_append_right _ (List.mem_append_right _ (List.mem_append_right _ (List.mem_append_right _ (List.mem_append_right _ (List.mem_append_left _ h)))))))))
theorem iX1 : ∀ w ∈ wsX10, w ∈ LW := fun _ h => (List.mem_append_right _ (List.mem_append_right _ (List.mem_append_right _ (List.mem_append_right _ (List.mem_append_right _ (List.mem_append_right _ (List.mem_append_right _ (List.mem_append_right _ (List.mem_append_right _ (List.mem_append_left _ h))))))))))
theorem iX2 : ∀ w ∈ wsX20, w ∈ LW := fun _ h => (List.mem_append_right _ (List.mem_append_right _ (List.mem_append_right _ (List.mem_append_right _ (List.mem_append_right _ (List.mem_append_right _ (List.mem_append_right _ (List.mem_append_right _ (List.mem_append_right _ (List.mem_append_right _ (List.mem_append_left _ h)))))))))))
theorem iX3 : ∀ w ∈ wsX30, w ∈ LW := fun _ h => (List.mem_append_right _ (List.mem_append_right _ (List.mem_append_right _ (List.mem_append_right _ (List.mem_append_right _ (List.mem_append_right _ (List.mem_append_right _ (List.mem_append_right _ (List.mem_append_right _ (List.mem_append_right _ (List.mem_append_right _ h)))))))))))
set_option maxRecDepth 100000 in
theorem LW_good : LW.all goodWord = true := by decide +kernel
