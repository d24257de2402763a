section
-- ===== PART A: goes FIRST, ahead of the names: the tables' words, and 'selects' of the private methods out of them =====
/-- a private method of a class that the tables say can be made, by its rows of tables_1 -/
def lw_okq (q : MethodName × Nat) : Prop := (q.1.cls ≠ "java/lang/invoke/MethodHandle" ∧ q.1.cls ≠ "java/lang/invoke/VarHandle") ∧ Cond.instantiable q.1.cls q.2 ∈ tables_1 ∧ Cond.privateMethod q.1 ∈ tables_1 ∧ Cond.instanceMethod q.1 ∈ tables_1
theorem lw_p0 : lw_okq (⟨"SorobanHall", "foundFrame", "(I)LSorobanHall$Frame;"⟩, 4) := ⟨⟨by decide +kernel, by decide +kernel⟩, List.mem_of_getElem? (i := 14) (by decide +kernel), List.mem_of_getElem? (i := 122) (by decide +kernel), List.mem_of_getElem? (i := 123) (by decide +kernel)⟩
theorem lw_p1 : lw_okq (⟨"SorobanHall", "frameAt", "(I)LSorobanHall$Frame;"⟩, 4) := ⟨⟨by decide +kernel, by decide +kernel⟩, List.mem_of_getElem? (i := 14) (by decide +kernel), List.mem_of_getElem? (i := 126) (by decide +kernel), List.mem_of_getElem? (i := 127) (by decide +kernel)⟩
theorem lw_p2 : lw_okq (⟨"java/lang/Throwable", "fillInStackTrace", "(I)Ljava/lang/Throwable;"⟩, 6) := ⟨⟨by decide +kernel, by decide +kernel⟩, List.mem_of_getElem? (i := 168) (by decide +kernel), List.mem_of_getElem? (i := 166) (by decide +kernel), List.mem_of_getElem? (i := 167) (by decide +kernel)⟩
theorem lw_p3 : lw_okq (⟨"SorobanHall$Frame", "bestUp", "(III)I"⟩, 13) := ⟨⟨by decide +kernel, by decide +kernel⟩, List.mem_of_getElem? (i := 23) (by decide +kernel), List.mem_of_getElem? (i := 253) (by decide +kernel), List.mem_of_getElem? (i := 254) (by decide +kernel)⟩
theorem lw_p4 : lw_okq (⟨"SorobanHall$Frame", "sumOfValues", "()I"⟩, 13) := ⟨⟨by decide +kernel, by decide +kernel⟩, List.mem_of_getElem? (i := 23) (by decide +kernel), List.mem_of_getElem? (i := 287) (by decide +kernel), List.mem_of_getElem? (i := 288) (by decide +kernel)⟩
theorem lw_p5 : lw_okq (⟨"SorobanHall$Frame", "beadsThatCount", "()I"⟩, 13) := ⟨⟨by decide +kernel, by decide +kernel⟩, List.mem_of_getElem? (i := 23) (by decide +kernel), List.mem_of_getElem? (i := 296) (by decide +kernel), List.mem_of_getElem? (i := 297) (by decide +kernel)⟩
theorem lw_p6 : lw_okq (⟨"SorobanHall", "countByAdding", "(LSorobanHall$Frame;II)I"⟩, 4) := ⟨⟨by decide +kernel, by decide +kernel⟩, List.mem_of_getElem? (i := 14) (by decide +kernel), List.mem_of_getElem? (i := 308) (by decide +kernel), List.mem_of_getElem? (i := 309) (by decide +kernel)⟩
theorem lw_p7 : lw_okq (⟨"SorobanHall", "secondsByAdding", "(LSorobanHall$Frame;I)D"⟩, 4) := ⟨⟨by decide +kernel, by decide +kernel⟩, List.mem_of_getElem? (i := 14) (by decide +kernel), List.mem_of_getElem? (i := 329) (by decide +kernel), List.mem_of_getElem? (i := 330) (by decide +kernel)⟩
theorem lw_p8 : lw_okq (⟨"SorobanHall", "quickerToAdd", "(III)I"⟩, 4) := ⟨⟨by decide +kernel, by decide +kernel⟩, List.mem_of_getElem? (i := 14) (by decide +kernel), List.mem_of_getElem? (i := 338) (by decide +kernel), List.mem_of_getElem? (i := 339) (by decide +kernel)⟩
theorem lw_p9 : lw_okq (⟨"SorobanHall", "foundFrameWithRod", "(II)LSorobanHall$Frame;"⟩, 4) := ⟨⟨by decide +kernel, by decide +kernel⟩, List.mem_of_getElem? (i := 14) (by decide +kernel), List.mem_of_getElem? (i := 349) (by decide +kernel), List.mem_of_getElem? (i := 350) (by decide +kernel)⟩
theorem lw_p10 : lw_okq (⟨"SorobanHall", "hardestDigit", "(LSorobanHall$Frame;I)I"⟩, 4) := ⟨⟨by decide +kernel, by decide +kernel⟩, List.mem_of_getElem? (i := 14) (by decide +kernel), List.mem_of_getElem? (i := 358) (by decide +kernel), List.mem_of_getElem? (i := 359) (by decide +kernel)⟩
theorem lw_p11 : lw_okq (⟨"SorobanHall", "factOfHall", "(I)I"⟩, 4) := ⟨⟨by decide +kernel, by decide +kernel⟩, List.mem_of_getElem? (i := 14) (by decide +kernel), List.mem_of_getElem? (i := 368) (by decide +kernel), List.mem_of_getElem? (i := 369) (by decide +kernel)⟩
theorem lw_p12 : lw_okq (⟨"SorobanHall", "pushesOfAll", "()I"⟩, 4) := ⟨⟨by decide +kernel, by decide +kernel⟩, List.mem_of_getElem? (i := 14) (by decide +kernel), List.mem_of_getElem? (i := 372) (by decide +kernel), List.mem_of_getElem? (i := 373) (by decide +kernel)⟩
theorem lw_p13 : lw_okq (⟨"SorobanHall", "spilledByAll", "()I"⟩, 4) := ⟨⟨by decide +kernel, by decide +kernel⟩, List.mem_of_getElem? (i := 14) (by decide +kernel), List.mem_of_getElem? (i := 376) (by decide +kernel), List.mem_of_getElem? (i := 377) (by decide +kernel)⟩
theorem lw_p14 : lw_okq (⟨"SorobanHall", "pairsThatShowTheSame", "()I"⟩, 4) := ⟨⟨by decide +kernel, by decide +kernel⟩, List.mem_of_getElem? (i := 14) (by decide +kernel), List.mem_of_getElem? (i := 380) (by decide +kernel), List.mem_of_getElem? (i := 381) (by decide +kernel)⟩
theorem lw_p15 : lw_okq (⟨"SorobanHall", "mixedWithFrame", "(JLSorobanHall$Frame;)J"⟩, 4) := ⟨⟨by decide +kernel, by decide +kernel⟩, List.mem_of_getElem? (i := 14) (by decide +kernel), List.mem_of_getElem? (i := 389) (by decide +kernel), List.mem_of_getElem? (i := 390) (by decide +kernel)⟩
def lw_privs_1 : List (MethodName × Nat) := [(⟨"SorobanHall", "foundFrame", "(I)LSorobanHall$Frame;"⟩, 4), (⟨"SorobanHall", "frameAt", "(I)LSorobanHall$Frame;"⟩, 4), (⟨"java/lang/Throwable", "fillInStackTrace", "(I)Ljava/lang/Throwable;"⟩, 6), (⟨"SorobanHall$Frame", "bestUp", "(III)I"⟩, 13), (⟨"SorobanHall$Frame", "sumOfValues", "()I"⟩, 13), (⟨"SorobanHall$Frame", "beadsThatCount", "()I"⟩, 13), (⟨"SorobanHall", "countByAdding", "(LSorobanHall$Frame;II)I"⟩, 4), (⟨"SorobanHall", "secondsByAdding", "(LSorobanHall$Frame;I)D"⟩, 4), (⟨"SorobanHall", "quickerToAdd", "(III)I"⟩, 4), (⟨"SorobanHall", "foundFrameWithRod", "(II)LSorobanHall$Frame;"⟩, 4), (⟨"SorobanHall", "hardestDigit", "(LSorobanHall$Frame;I)I"⟩, 4), (⟨"SorobanHall", "factOfHall", "(I)I"⟩, 4), (⟨"SorobanHall", "pushesOfAll", "()I"⟩, 4), (⟨"SorobanHall", "spilledByAll", "()I"⟩, 4), (⟨"SorobanHall", "pairsThatShowTheSame", "()I"⟩, 4), (⟨"SorobanHall", "mixedWithFrame", "(JLSorobanHall$Frame;)J"⟩, 4)]
theorem lw_r1 : ∀ q ∈ lw_privs_1, lw_okq q := List.forall_mem_cons.mpr ⟨lw_p0, List.forall_mem_cons.mpr ⟨lw_p1, List.forall_mem_cons.mpr ⟨lw_p2, List.forall_mem_cons.mpr ⟨lw_p3, List.forall_mem_cons.mpr ⟨lw_p4, List.forall_mem_cons.mpr ⟨lw_p5, List.forall_mem_cons.mpr ⟨lw_p6, List.forall_mem_cons.mpr ⟨lw_p7, List.forall_mem_cons.mpr ⟨lw_p8, List.forall_mem_cons.mpr ⟨lw_p9, List.forall_mem_cons.mpr ⟨lw_p10, List.forall_mem_cons.mpr ⟨lw_p11, List.forall_mem_cons.mpr ⟨lw_p12, List.forall_mem_cons.mpr ⟨lw_p13, List.forall_mem_cons.mpr ⟨lw_p14, List.forall_mem_cons.mpr ⟨lw_p15, fun _ h => absurd h List.not_mem_nil⟩⟩⟩⟩⟩⟩⟩⟩⟩⟩⟩⟩⟩⟩⟩⟩
theorem lw_p16 : lw_okq (⟨"SorobanHall$Frame", "waysOfRod", "(I)I"⟩, 13) := ⟨⟨by decide +kernel, by decide +kernel⟩, List.mem_of_getElem? (i := 23) (by decide +kernel), List.mem_of_getElem? (i := 398) (by decide +kernel), List.mem_of_getElem? (i := 399) (by decide +kernel)⟩
theorem lw_p17 : lw_okq (⟨"SorobanHall$Frame", "fewestOfRod", "(I)I"⟩, 13) := ⟨⟨by decide +kernel, by decide +kernel⟩, List.mem_of_getElem? (i := 23) (by decide +kernel), List.mem_of_getElem? (i := 406) (by decide +kernel), List.mem_of_getElem? (i := 407) (by decide +kernel)⟩
theorem lw_p18 : lw_okq (⟨"SorobanHall$Frame", "takeDigit", "(II)V"⟩, 13) := ⟨⟨by decide +kernel, by decide +kernel⟩, List.mem_of_getElem? (i := 23) (by decide +kernel), List.mem_of_getElem? (i := 589) (by decide +kernel), List.mem_of_getElem? (i := 590) (by decide +kernel)⟩
def lw_privs_2 : List (MethodName × Nat) := [(⟨"SorobanHall$Frame", "waysOfRod", "(I)I"⟩, 13), (⟨"SorobanHall$Frame", "fewestOfRod", "(I)I"⟩, 13), (⟨"SorobanHall$Frame", "takeDigit", "(II)V"⟩, 13)]
theorem lw_r2 : ∀ q ∈ lw_privs_2, lw_okq q := List.forall_mem_cons.mpr ⟨lw_p16, List.forall_mem_cons.mpr ⟨lw_p17, List.forall_mem_cons.mpr ⟨lw_p18, fun _ h => absurd h List.not_mem_nil⟩⟩⟩
def lw_privs : List (MethodName × Nat) := lw_privs_1 ++ (lw_privs_2)
def lw_tbl : List Cond := k2_sels lw_privs ++ tables_1
theorem lw_privs_ok : ∀ q ∈ lw_privs, lw_okq q := by
  show ∀ q ∈ lw_privs_1 ++ (lw_privs_2), lw_okq q
  exact List.forall_mem_append.mpr ⟨lw_r1, lw_r2⟩
/-- the streams that the claim lets the run draw from -/
abbrev lw_cs : List Choice := [Jvm.Choice.named "NaN.bits"]
theorem lw_bits : nanBits ∈ lw_cs := by first | decide | exact List.mem_cons_self | simp [lw_cs, nanBits]
end
section
-- laid by wip/p30/names.py
def RX0 : String := "SorobanHall$Deck"
def TX0 : u_T := fun k => match k with
  | 0 => ("SorobanHall$Deck", "size", "I", false)
  | 1 => ("SorobanHall$Deck", "counting", "[I", true)
  | 2 => ("SorobanHall$Deck", "wear", "[I", true)
  | _ => ("SorobanHall$Deck", "kept", "[I", true)
def tyX0 : Nat → FieldType := fun k => match k with
  | 0 => .int
  | 1 => .array .int
  | 2 => .array .int
  | _ => .array .int
abbrev wsX00 : List Cond := u_ws RX0 TX0 4
theorem nmX0 : ∀ a, a < 4 → ∀ b, b < 4 → a ≠ b → (TX0 a).2.1 ≠ (TX0 b).2.1 := by decide +kernel
theorem tyX0_ok : ∀ k, k < 4 → parseFieldDescriptor (TX0 k).2.2.1 = some (tyX0 k) := by decide +kernel
abbrev cX0_init : ByteArray := prog_2_method_1_code
def yX0_init : MethodName := ⟨RX0, "<init>", "(I)V"⟩
abbrev cX0_countAt : ByteArray := prog_2_method_2_code
def yX0_countAt : MethodName := ⟨RX0, "countAt", "(I)I"⟩
abbrev cX0_wearAt : ByteArray := prog_2_method_3_code
def yX0_wearAt : MethodName := ⟨RX0, "wearAt", "(I)I"⟩
abbrev cX0_isWornAt : ByteArray := prog_2_method_4_code
def yX0_isWornAt : MethodName := ⟨RX0, "isWornAt", "(I)Z"⟩
abbrev cX0_canMove : ByteArray := prog_2_method_5_code
def yX0_canMove : MethodName := ⟨RX0, "canMove", "(II)Z"⟩
abbrev cX0_freshen : ByteArray := prog_2_method_6_code
def yX0_freshen : MethodName := ⟨RX0, "freshen", "(I)V"⟩
abbrev cX0_keepIn : ByteArray := prog_2_method_7_code
def yX0_keepIn : MethodName := ⟨RX0, "keepIn", "(I)V"⟩
abbrev cX0_restoreFrom : ByteArray := prog_2_method_8_code
def yX0_restoreFrom : MethodName := ⟨RX0, "restoreFrom", "(I)V"⟩
abbrev cX0_copyFrom : ByteArray := prog_2_method_9_code
def yX0_copyFrom : MethodName := ⟨RX0, "copyFrom", "(LSorobanHall$Deck;)V"⟩
def RX1 : String := "SorobanHall$Frame"
def TX1 : u_T := fun k => match k with
  | 0 => ("SorobanHall$Frame", "kind", "I", false)
  | 1 => ("SorobanHall$Frame", "rods", "I", false)
  | 2 => ("SorobanHall$Frame", "above", "LSorobanHall$Deck;", true)
  | 3 => ("SorobanHall$Frame", "below", "LSorobanHall$Deck;", true)
  | 4 => ("SorobanHall$Frame", "hand", "I", false)
  | 5 => ("SorobanHall$Frame", "seconds", "F", false)
  | 6 => ("SorobanHall$Frame", "pushes", "I", false)
  | 7 => ("SorobanHall$Frame", "beads", "I", false)
  | 8 => ("SorobanHall$Frame", "carries", "I", false)
  | 9 => ("SorobanHall$Frame", "loans", "I", false)
  | 10 => ("SorobanHall$Frame", "spilled", "I", false)
  | 11 => ("SorobanHall$Frame", "keptCount", "I", false)
  | _ => ("SorobanHall$Frame", "nextSlot", "I", false)
def tyX1 : Nat → FieldType := fun k => match k with
  | 0 => .int
  | 1 => .int
  | 2 => .object "SorobanHall$Deck"
  | 3 => .object "SorobanHall$Deck"
  | 4 => .int
  | 5 => .float
  | 6 => .int
  | 7 => .int
  | 8 => .int
  | 9 => .int
  | 10 => .int
  | 11 => .int
  | _ => .int
abbrev wsX10 : List Cond := u_ws RX1 TX1 13
theorem nmX1 : ∀ a, a < 13 → ∀ b, b < 13 → a ≠ b → (TX1 a).2.1 ≠ (TX1 b).2.1 := by decide +kernel
theorem tyX1_ok : ∀ k, k < 13 → parseFieldDescriptor (TX1 k).2.2.1 = some (tyX1 k) := by decide +kernel
abbrev cX1_init : ByteArray := prog_3_method_1_code
def yX1_init : MethodName := ⟨RX1, "<init>", "(II)V"⟩
abbrev cX1_copyFrom : ByteArray := prog_3_method_2_code
def yX1_copyFrom : MethodName := ⟨RX1, "copyFrom", "(LSorobanHall$Frame;)V"⟩
abbrev cX1_hasRod : ByteArray := prog_3_method_3_code
def yX1_hasRod : MethodName := ⟨RX1, "hasRod", "(I)Z"⟩
abbrev cX1_hasRodsFor : ByteArray := prog_3_method_4_code
def yX1_hasRodsFor : MethodName := ⟨RX1, "hasRodsFor", "(J)Z"⟩
abbrev cX1_valueAt : ByteArray := prog_3_method_5_code
def yX1_valueAt : MethodName := ⟨RX1, "valueAt", "(I)I"⟩
abbrev cX1_mostOfRod : ByteArray := prog_3_method_6_code
def yX1_mostOfRod : MethodName := ⟨RX1, "mostOfRod", "()I"⟩
abbrev cX1_shownNumber : ByteArray := prog_3_method_7_code
def yX1_shownNumber : MethodName := ⟨RX1, "shownNumber", "()J"⟩
abbrev cX1_isTidy : ByteArray := prog_3_method_8_code
def yX1_isTidy : MethodName := ⟨RX1, "isTidy", "()Z"⟩
abbrev cX1_moveHand : ByteArray := prog_3_method_9_code
def yX1_moveHand : MethodName := ⟨RX1, "moveHand", "(I)V"⟩
abbrev cX1_pushDeck : ByteArray := prog_3_method_10_code
def yX1_pushDeck : MethodName := ⟨RX1, "pushDeck", "(LSorobanHall$Deck;II)V"⟩
abbrev cX1_setRod : ByteArray := prog_3_method_11_code
def yX1_setRod : MethodName := ⟨RX1, "setRod", "(II)V"⟩
abbrev cX1_bestUp : ByteArray := prog_3_method_12_code
def yX1_bestUp : MethodName := ⟨RX1, "bestUp", "(III)I"⟩
abbrev cX1_setRods : ByteArray := prog_3_method_13_code
def yX1_setRods : MethodName := ⟨RX1, "setRods", "(J)V"⟩
abbrev cX1_digitAt : ByteArray := prog_3_method_14_code
def yX1_digitAt : MethodName := ⟨RX1, "digitAt", "(JI)I"⟩
abbrev cX1_bring : ByteArray := prog_3_method_15_code
def yX1_bring : MethodName := ⟨RX1, "bring", "(II)V"⟩
abbrev cX1_bringNumber : ByteArray := prog_3_method_16_code
def yX1_bringNumber : MethodName := ⟨RX1, "bringNumber", "(J)V"⟩
abbrev cX1_takeNumber : ByteArray := prog_3_method_17_code
def yX1_takeNumber : MethodName := ⟨RX1, "takeNumber", "(J)V"⟩
abbrev cX1_takeDigit : ByteArray := prog_3_method_18_code
def yX1_takeDigit : MethodName := ⟨RX1, "takeDigit", "(II)V"⟩
abbrev cX1_multiply : ByteArray := prog_3_method_19_code
def yX1_multiply : MethodName := ⟨RX1, "multiply", "(I)V"⟩
abbrev cX1_splitBy : ByteArray := prog_3_method_20_code
def yX1_splitBy : MethodName := ⟨RX1, "splitBy", "(I)I"⟩
abbrev cX1_shiftLeft : ByteArray := prog_3_method_21_code
def yX1_shiftLeft : MethodName := ⟨RX1, "shiftLeft", "()I"⟩
abbrev cX1_shiftRight : ByteArray := prog_3_method_22_code
def yX1_shiftRight : MethodName := ⟨RX1, "shiftRight", "()I"⟩
abbrev cX1_tidyRods : ByteArray := prog_3_method_23_code
def yX1_tidyRods : MethodName := ⟨RX1, "tidyRods", "()V"⟩
abbrev cX1_keepBeads : ByteArray := prog_3_method_24_code
def yX1_keepBeads : MethodName := ⟨RX1, "keepBeads", "()V"⟩
abbrev cX1_restoreBeads : ByteArray := prog_3_method_25_code
def yX1_restoreBeads : MethodName := ⟨RX1, "restoreBeads", "()V"⟩
abbrev cX1_greaseRod : ByteArray := prog_3_method_26_code
def yX1_greaseRod : MethodName := ⟨RX1, "greaseRod", "(I)I"⟩
abbrev cX1_factOfRod : ByteArray := prog_3_method_27_code
def yX1_factOfRod : MethodName := ⟨RX1, "factOfRod", "(II)I"⟩
abbrev cX1_factOfFrame : ByteArray := prog_3_method_28_code
def yX1_factOfFrame : MethodName := ⟨RX1, "factOfFrame", "(I)I"⟩
abbrev cX1_sumOfValues : ByteArray := prog_3_method_29_code
def yX1_sumOfValues : MethodName := ⟨RX1, "sumOfValues", "()I"⟩
abbrev cX1_beadsThatCount : ByteArray := prog_3_method_30_code
def yX1_beadsThatCount : MethodName := ⟨RX1, "beadsThatCount", "()I"⟩
abbrev cX1_waysToShow : ByteArray := prog_3_method_32_code
def yX1_waysToShow : MethodName := ⟨RX1, "waysToShow", "()J"⟩
abbrev cX1_waysOfRod : ByteArray := prog_3_method_33_code
def yX1_waysOfRod : MethodName := ⟨RX1, "waysOfRod", "(I)I"⟩
abbrev cX1_fewestBeadsToShow : ByteArray := prog_3_method_34_code
def yX1_fewestBeadsToShow : MethodName := ⟨RX1, "fewestBeadsToShow", "()I"⟩
abbrev cX1_fewestOfRod : ByteArray := prog_3_method_35_code
def yX1_fewestOfRod : MethodName := ⟨RX1, "fewestOfRod", "(I)I"⟩
def RX2 : String := "SorobanHall"
def TX2 : u_T := fun k => match k with
  | 0 => ("SorobanHall", "frames", "[LSorobanHall$Frame;", true)
  | 1 => ("SorobanHall", "trial", "LSorobanHall$Frame;", true)
  | 2 => ("SorobanHall", "frameCount", "I", false)
  | _ => ("SorobanHall", "refused", "I", false)
def tyX2 : Nat → FieldType := fun k => match k with
  | 0 => .array (.object "SorobanHall$Frame")
  | 1 => .object "SorobanHall$Frame"
  | 2 => .int
  | _ => .int
abbrev wsX20 : List Cond := u_ws RX2 TX2 4
theorem nmX2 : ∀ a, a < 4 → ∀ b, b < 4 → a ≠ b → (TX2 a).2.1 ≠ (TX2 b).2.1 := by decide +kernel
theorem tyX2_ok : ∀ k, k < 4 → parseFieldDescriptor (TX2 k).2.2.1 = some (tyX2 k) := by decide +kernel
abbrev cX2_init : ByteArray := prog_1_method_1_code
def yX2_init : MethodName := ⟨RX2, "<init>", "()V"⟩
abbrev cX2_frame : ByteArray := prog_1_method_2_code
def yX2_frame : MethodName := ⟨RX2, "frame", "(II)I"⟩
abbrev cX2_push : ByteArray := prog_1_method_3_code
def yX2_push : MethodName := ⟨RX2, "push", "(IIZI)I"⟩
abbrev cX2_set : ByteArray := prog_1_method_4_code
def yX2_set : MethodName := ⟨RX2, "set", "(III)I"⟩
abbrev cX2_add : ByteArray := prog_1_method_5_code
def yX2_add : MethodName := ⟨RX2, "add", "(II)I"⟩
abbrev cX2_off : ByteArray := prog_1_method_6_code
def yX2_off : MethodName := ⟨RX2, "off", "(II)I"⟩
abbrev cX2_times : ByteArray := prog_1_method_7_code
def yX2_times : MethodName := ⟨RX2, "times", "(II)I"⟩
abbrev cX2_divide : ByteArray := prog_1_method_8_code
def yX2_divide : MethodName := ⟨RX2, "divide", "(II)I"⟩
abbrev cX2_shift : ByteArray := prog_1_method_9_code
def yX2_shift : MethodName := ⟨RX2, "shift", "(IZ)I"⟩
abbrev cX2_tidy : ByteArray := prog_1_method_10_code
def yX2_tidy : MethodName := ⟨RX2, "tidy", "(I)I"⟩
abbrev cX2_show : ByteArray := prog_1_method_11_code
def yX2_show : MethodName := ⟨RX2, "show", "(II)I"⟩
abbrev cX2_clear : ByteArray := prog_1_method_12_code
def yX2_clear : MethodName := ⟨RX2, "clear", "(I)I"⟩
abbrev cX2_back : ByteArray := prog_1_method_13_code
def yX2_back : MethodName := ⟨RX2, "back", "(I)I"⟩
abbrev cX2_grease : ByteArray := prog_1_method_14_code
def yX2_grease : MethodName := ⟨RX2, "grease", "(II)I"⟩
abbrev cX2_number : ByteArray := prog_1_method_16_code
def yX2_number : MethodName := ⟨RX2, "number", "(I)J"⟩
abbrev cX2_ofFrame : ByteArray := prog_1_method_18_code
def yX2_ofFrame : MethodName := ⟨RX2, "ofFrame", "(II)I"⟩
abbrev cX2_seconds : ByteArray := prog_1_method_19_code
def yX2_seconds : MethodName := ⟨RX2, "seconds", "(I)D"⟩
abbrev cX2_many : ByteArray := prog_1_method_21_code
def yX2_many : MethodName := ⟨RX2, "many", "(I)I"⟩
abbrev cX2_would : ByteArray := prog_1_method_24_code
def yX2_would : MethodName := ⟨RX2, "would", "(III)I"⟩
abbrev cX2_wouldTake : ByteArray := prog_1_method_25_code
def yX2_wouldTake : MethodName := ⟨RX2, "wouldTake", "(II)D"⟩
abbrev cX2_quicker : ByteArray := prog_1_method_26_code
def yX2_quicker : MethodName := ⟨RX2, "quicker", "(III)I"⟩
abbrev cX2_hardest : ByteArray := prog_1_method_27_code
def yX2_hardest : MethodName := ⟨RX2, "hardest", "(II)I"⟩
abbrev cX2_digest : ByteArray := prog_1_method_28_code
def yX2_digest : MethodName := ⟨RX2, "digest", "()J"⟩
abbrev cX2_frameAt : ByteArray := prog_1_method_29_code
def yX2_frameAt : MethodName := ⟨RX2, "frameAt", "(I)LSorobanHall$Frame;"⟩
abbrev cX2_foundFrame : ByteArray := prog_1_method_30_code
def yX2_foundFrame : MethodName := ⟨RX2, "foundFrame", "(I)LSorobanHall$Frame;"⟩
abbrev cX2_foundFrameWithRod : ByteArray := prog_1_method_31_code
def yX2_foundFrameWithRod : MethodName := ⟨RX2, "foundFrameWithRod", "(II)LSorobanHall$Frame;"⟩
abbrev cX2_refuseUnlessFits : ByteArray := prog_1_method_32_code
def yX2_refuseUnlessFits : MethodName := ⟨RX2, "refuseUnlessFits", "(LSorobanHall$Frame;I)V"⟩
abbrev cX2_refuseUnlessBelow : ByteArray := prog_1_method_33_code
def yX2_refuseUnlessBelow : MethodName := ⟨RX2, "refuseUnlessBelow", "(II)V"⟩
abbrev cX2_factOfHall : ByteArray := prog_1_method_34_code
def yX2_factOfHall : MethodName := ⟨RX2, "factOfHall", "(I)I"⟩
abbrev cX2_pushesOfAll : ByteArray := prog_1_method_35_code
def yX2_pushesOfAll : MethodName := ⟨RX2, "pushesOfAll", "()I"⟩
abbrev cX2_spilledByAll : ByteArray := prog_1_method_36_code
def yX2_spilledByAll : MethodName := ⟨RX2, "spilledByAll", "()I"⟩
abbrev cX2_pairsThatShowTheSame : ByteArray := prog_1_method_37_code
def yX2_pairsThatShowTheSame : MethodName := ⟨RX2, "pairsThatShowTheSame", "()I"⟩
abbrev cX2_countByAdding : ByteArray := prog_1_method_38_code
def yX2_countByAdding : MethodName := ⟨RX2, "countByAdding", "(LSorobanHall$Frame;II)I"⟩
abbrev cX2_secondsByAdding : ByteArray := prog_1_method_39_code
def yX2_secondsByAdding : MethodName := ⟨RX2, "secondsByAdding", "(LSorobanHall$Frame;I)D"⟩
abbrev cX2_quickerToAdd : ByteArray := prog_1_method_40_code
def yX2_quickerToAdd : MethodName := ⟨RX2, "quickerToAdd", "(III)I"⟩
abbrev cX2_hardestDigit : ByteArray := prog_1_method_41_code
def yX2_hardestDigit : MethodName := ⟨RX2, "hardestDigit", "(LSorobanHall$Frame;I)I"⟩
abbrev cX2_mixed : ByteArray := prog_1_method_42_code
def yX2_mixed : MethodName := ⟨RX2, "mixed", "(JJ)J"⟩
abbrev cX2_mixedWithFrame : ByteArray := prog_1_method_43_code
def yX2_mixedWithFrame : MethodName := ⟨RX2, "mixedWithFrame", "(JLSorobanHall$Frame;)J"⟩
def RX3 : String := "SorobanHallLaw$Told"
def TX3 : u_T := fun k => match k with
  | 0 => ("SorobanHallLaw$Told", "m", "LSorobanHall;", true)
  | 1 => ("SorobanHallLaw$Told", "s", "[I", true)
  | 2 => ("SorobanHallLaw$Told", "draws", "I", false)
  | 3 => ("SorobanHallLaw$Told", "number", "I", false)
  | 4 => ("SorobanHallLaw$Told", "kind", "I", false)
  | 5 => ("SorobanHallLaw$Told", "up", "[I", false)
  | 6 => ("SorobanHallLaw$Told", "down", "[I", false)
  | 7 => ("SorobanHallLaw$Told", "wear", "[[I", false)
  | 8 => ("SorobanHallLaw$Told", "kept", "[[I", false)
  | 9 => ("SorobanHallLaw$Told", "sums", "[I", false)
  | 10 => ("SorobanHallLaw$Told", "hand", "I", false)
  | _ => ("SorobanHallLaw$Told", "time", "J", false)
def tyX3 : Nat → FieldType := fun k => match k with
  | 0 => .object "SorobanHall"
  | 1 => .array .int
  | 2 => .int
  | 3 => .int
  | 4 => .int
  | 5 => .array .int
  | 6 => .array .int
  | 7 => .array (.array .int)
  | 8 => .array (.array .int)
  | 9 => .array .int
  | 10 => .int
  | _ => .long
abbrev wsX30 : List Cond := u_ws RX3 TX3 12
theorem nmX3 : ∀ a, a < 12 → ∀ b, b < 12 → a ≠ b → (TX3 a).2.1 ≠ (TX3 b).2.1 := by decide +kernel
theorem tyX3_ok : ∀ k, k < 12 → parseFieldDescriptor (TX3 k).2.2.1 = some (tyX3 k) := by decide +kernel
abbrev cX3_init : ByteArray := prog_5_method_1_code
def yX3_init : MethodName := ⟨RX3, "<init>", "(LSorobanHall;[II)V"⟩
abbrev cX3_draw : ByteArray := prog_5_method_2_code
def yX3_draw : MethodName := ⟨RX3, "draw", "(I)I"⟩
abbrev cX3_frame : ByteArray := prog_5_method_3_code
def yX3_frame : MethodName := ⟨RX3, "frame", "(I)Z"⟩
abbrev cX3_ups : ByteArray := prog_5_method_4_code
def yX3_ups : MethodName := ⟨RX3, "ups", "()I"⟩
abbrev cX3_downs : ByteArray := prog_5_method_5_code
def yX3_downs : MethodName := ⟨RX3, "downs", "()I"⟩
abbrev cX3_most : ByteArray := prog_5_method_6_code
def yX3_most : MethodName := ⟨RX3, "most", "()I"⟩
abbrev cX3_value : ByteArray := prog_5_method_7_code
def yX3_value : MethodName := ⟨RX3, "value", "(I)I"⟩
abbrev cX3_total : ByteArray := prog_5_method_8_code
def yX3_total : MethodName := ⟨RX3, "total", "()J"⟩
abbrev cX3_isTidy : ByteArray := prog_5_method_9_code
def yX3_isTidy : MethodName := ⟨RX3, "isTidy", "()Z"⟩
abbrev cX3_keep : ByteArray := prog_5_method_10_code
def yX3_keep : MethodName := ⟨RX3, "keep", "()V"⟩
abbrev cX3_move : ByteArray := prog_5_method_11_code
def yX3_move : MethodName := ⟨RX3, "move", "(III)V"⟩
abbrev cX3_set : ByteArray := prog_5_method_12_code
def yX3_set : MethodName := ⟨RX3, "set", "(II)V"⟩
abbrev cX3_pushes : ByteArray := prog_5_method_13_code
def yX3_pushes : MethodName := ⟨RX3, "pushes", "(III)I"⟩
abbrev cX3_beads : ByteArray := prog_5_method_14_code
def yX3_beads : MethodName := ⟨RX3, "beads", "(III)I"⟩
abbrev cX3_bring : ByteArray := prog_5_method_15_code
def yX3_bring : MethodName := ⟨RX3, "bring", "(II)V"⟩
abbrev cX3_digits : ByteArray := prog_5_method_16_code
def yX3_digits : MethodName := ⟨RX3, "digits", "(JI)[I"⟩
abbrev cX3_adds : ByteArray := prog_5_method_17_code
def yX3_adds : MethodName := ⟨RX3, "adds", "(I)V"⟩
abbrev cX3_some : ByteArray := prog_5_method_18_code
def yX3_some : MethodName := ⟨RX3, "some", "()I"⟩
abbrev cX3_add : ByteArray := prog_5_method_19_code
def yX3_add : MethodName := ⟨RX3, "add", "()Z"⟩
abbrev cX3_off : ByteArray := prog_5_method_20_code
def yX3_off : MethodName := ⟨RX3, "off", "()Z"⟩
abbrev cX3_times : ByteArray := prog_5_method_21_code
def yX3_times : MethodName := ⟨RX3, "times", "()Z"⟩
abbrev cX3_divide : ByteArray := prog_5_method_22_code
def yX3_divide : MethodName := ⟨RX3, "divide", "()Z"⟩
abbrev cX3_shift : ByteArray := prog_5_method_23_code
def yX3_shift : MethodName := ⟨RX3, "shift", "()Z"⟩
abbrev cX3_tidy : ByteArray := prog_5_method_24_code
def yX3_tidy : MethodName := ⟨RX3, "tidy", "()Z"⟩
abbrev cX3_clear : ByteArray := prog_5_method_25_code
def yX3_clear : MethodName := ⟨RX3, "clear", "()Z"⟩
abbrev cX3_sets : ByteArray := prog_5_method_26_code
def yX3_sets : MethodName := ⟨RX3, "sets", "()Z"⟩
abbrev cX3_push : ByteArray := prog_5_method_27_code
def yX3_push : MethodName := ⟨RX3, "push", "()Z"⟩
abbrev cX3_back : ByteArray := prog_5_method_28_code
def yX3_back : MethodName := ⟨RX3, "back", "()Z"⟩
abbrev cX3_grease : ByteArray := prog_5_method_29_code
def yX3_grease : MethodName := ⟨RX3, "grease", "()Z"⟩
abbrev cX3_act : ByteArray := prog_5_method_30_code
def yX3_act : MethodName := ⟨RX3, "act", "()Z"⟩
def RX4 : String := "SorobanHallModel$Frame"
def TX4 : u_T := fun k => match k with
  | _ => ("", "", "", false)
def tyX4 : Nat → FieldType := fun k => match k with
  | _ => .int
abbrev wsX40 : List Cond := u_ws RX4 TX4 0
theorem nmX4 : ∀ a, a < 0 → ∀ b, b < 0 → a ≠ b → (TX4 a).2.1 ≠ (TX4 b).2.1 := by decide +kernel
theorem tyX4_ok : ∀ k, k < 0 → parseFieldDescriptor (TX4 k).2.2.1 = some (tyX4 k) := by decide +kernel
def RX5 : String := "SorobanHallModel"
def TX5 : u_T := fun k => match k with
  | _ => ("", "", "", false)
def tyX5 : Nat → FieldType := fun k => match k with
  | _ => .int
abbrev wsX50 : List Cond := u_ws RX5 TX5 0
theorem nmX5 : ∀ a, a < 0 → ∀ b, b < 0 → a ≠ b → (TX5 a).2.1 ≠ (TX5 b).2.1 := by decide +kernel
theorem tyX5_ok : ∀ k, k < 0 → parseFieldDescriptor (TX5 k).2.2.1 = some (tyX5 k) := by decide +kernel
def RJ9 : String := "java/lang/Math"
def TJ9 : u_T := fun k => match k with
  | _ => ("", "", "", false)
def tyJ9 : Nat → FieldType := fun k => match k with
  | _ => .int
abbrev cJ9_abs_0f7a4 : ByteArray := prog_12_method_59_code
def yJ9_abs_0f7a4 : MethodName := ⟨RJ9, "abs", "(I)I"⟩
abbrev cJ9_min_7cf53 : ByteArray := prog_12_method_69_code
def yJ9_min_7cf53 : MethodName := ⟨RJ9, "min", "(II)I"⟩
def RL : String := "SorobanHallLaw"
abbrev cL_below : ByteArray := method_2_code
def yL_below : MethodName := ⟨RL, "below", "(II)I"⟩
abbrev cL_cell : ByteArray := method_3_code
def yL_cell : MethodName := ⟨RL, "cell", "([II)I"⟩
abbrev cL_law : ByteArray := code
def yL_law : MethodName := ⟨RL, "law", "([I)Z"⟩
abbrev cL_isTogether : ByteArray := method_5_code
def yL_isTogether : MethodName := ⟨RL, "isTogether", "(LSorobanHall;LSorobanHallLaw$Told;)Z"⟩
abbrev vwCl : List vw_C := [(RX0, TX0, 4), (RX1, TX1, 13), (RX2, TX2, 4), (RX3, TX3, 12)]
def LW_0 : List Cond := [.code yX0_init cX0_init 2 none, .methodLink RX0 3 objectInit, .instanceMethod objectInit, .code objectInit ⟨#[0xb1]⟩ 1 none, .arrayClass .int, .fieldLink RX0 9 "SorobanHall$Deck" "counting" "[I", .fieldLink RX0 15 "SorobanHall$Deck" "wear" "[I", .fieldLink RX0 18 "SorobanHall$Deck" "kept" "[I", .fieldLink RX0 21 "SorobanHall$Deck" "size" "I", .code yX0_countAt cX0_countAt 2 (some .int), .code yX0_wearAt cX0_wearAt 2 (some .int), .code yX0_isWornAt cX0_isWornAt 2 (some .boolean), .methodLink RX0 25 yX0_wearAt, .instanceMethod yX0_wearAt, .selects RX0 yX0_wearAt yX0_wearAt, .initialized RX0, .code yX0_canMove cX0_canMove 5 (some .boolean), .methodLink RX0 29 yX0_countAt, .instanceMethod yX0_countAt, .selects RX0 yX0_countAt yX0_countAt, .code yX0_freshen cX0_freshen 2 none, .code yX0_keepIn cX0_keepIn 4 none, .code yX0_restoreFrom cX0_restoreFrom 4 none, .code yX0_copyFrom cX0_copyFrom 3 none, .code yX1_init cX1_init 3 none, .methodLink RX1 3 objectInit, .fieldLink RX1 9 "SorobanHall$Frame" "kind" "I", .fieldLink RX1 15 "SorobanHall$Frame" "rods" "I", .classLink RX1 18 RX0, .instantiable RX0 4, .fieldLink RX1 27 "SorobanHall$Frame" "above" "LSorobanHall$Deck;", .fieldLink RX1 34 "SorobanHall$Frame" "below" "LSorobanHall$Deck;", .methodLink RX1 24 yX0_init, .instanceMethod yX0_init, .fieldLink RX1 41 "SorobanHall$Frame" "hand" "I", .fieldLink RX1 44 "SorobanHall$Frame" "seconds" "F", .fieldLink RX1 48 "SorobanHall$Frame" "pushes" "I", .fieldLink RX1 51 "SorobanHall$Frame" "beads" "I", .fieldLink RX1 54 "SorobanHall$Frame" "carries" "I", .fieldLink RX1 57 "SorobanHall$Frame" "loans" "I", .fieldLink RX1 60 "SorobanHall$Frame" "spilled" "I", .methodLink RX1 37 yX0_copyFrom, .instanceMethod yX0_copyFrom, .selects RX0 yX0_copyFrom yX0_copyFrom, .code yX1_copyFrom cX1_copyFrom 2 none, .code yX1_hasRod cX1_hasRod 2 (some .boolean), .code yX1_hasRodsFor cX1_hasRodsFor 6 (some .boolean), .constantLong RX1 63 (10), .code yX1_valueAt cX1_valueAt 2 (some .int), .methodLink RX1 65 yX0_countAt, .code yX1_mostOfRod cX1_mostOfRod 1 (some .int), .fieldLink RX1 69 "SorobanHall$Deck" "size" "I", .code yX1_shownNumber cX1_shownNumber 4 (some .long), .methodLink RX1 72 yX1_valueAt, .instanceMethod yX1_valueAt, .selects RX1 yX1_valueAt yX1_valueAt, .initialized RX1, .code yX1_isTidy cX1_isTidy 2 (some .boolean), .code yX1_moveHand cX1_moveHand 3 none, .methodLink RX1 75 Lib.Math.abs.name, .static Lib.Math.abs.name, .initialized "java/lang/Math", .code Lib.Math.abs.name Lib.Math.abs.code 1 (some .int), .constantFloat RX1 80 (1040187392), .code yX1_pushDeck cX1_pushDeck 6 none, .fieldLink RX1 81 "SorobanHall$Deck" "counting" "[I", .fieldLink RX1 84 "SorobanHall$Deck" "wear" "[I", .constantFloat RX1 87 (1048576000), .constantFloat RX1 88 (1031798784), .code yX1_bestUp cX1_bestUp 13 (some .int), .methodLink RX1 89 yX1_bestUp, .instanceMethod yX1_bestUp, .selects RX1 yX1_bestUp yX1_bestUp, .methodLink RX1 93 yX1_moveHand, .instanceMethod yX1_moveHand, .selects RX1 yX1_moveHand yX1_moveHand, .methodLink RX1 96 yX1_pushDeck, .instanceMethod yX1_pushDeck, .selects RX1 yX1_pushDeck yX1_pushDeck, .code yX1_setRod cX1_setRod 8 none]
def LW_1 : List Cond := [.code yX1_digitAt cX1_digitAt 6 (some .int), .methodLink RX1 100 yX1_digitAt, .static yX1_digitAt, .methodLink RX1 104 yX1_setRod, .instanceMethod yX1_setRod, .selects RX1 yX1_setRod yX1_setRod, .code yX1_setRods cX1_setRods 4 none, .code yX1_bring cX1_bring 6 none, .methodLink RX1 108 yX1_bring, .instanceMethod yX1_bring, .selects RX1 yX1_bring yX1_bring, .code yX1_bringNumber cX1_bringNumber 4 none, .code yX1_takeDigit cX1_takeDigit 6 none, .methodLink RX1 111 yX1_takeDigit, .instanceMethod yX1_takeDigit, .selects RX1 yX1_takeDigit yX1_takeDigit, .code yX1_takeNumber cX1_takeNumber 4 none, .code yX1_multiply cX1_multiply 4 none, .code yX1_splitBy cX1_splitBy 5 (some .int), .code yX1_shiftLeft cX1_shiftLeft 3 (some .int), .code yX1_shiftRight cX1_shiftRight 3 (some .int), .code yX1_tidyRods cX1_tidyRods 3 none, .code yX1_keepBeads cX1_keepBeads 1 none, .fieldLink RX1 114 "SorobanHall$Frame" "nextSlot" "I", .fieldLink RX1 120 "SorobanHall$Frame" "keptCount" "I", .methodLink RX1 117 yX0_keepIn, .instanceMethod yX0_keepIn, .selects RX0 yX0_keepIn yX0_keepIn, .code yX1_restoreBeads cX1_restoreBeads 1 none, .methodLink RX1 123 yX0_restoreFrom, .instanceMethod yX0_restoreFrom, .selects RX0 yX0_restoreFrom yX0_restoreFrom, .code yX1_greaseRod cX1_greaseRod 3 (some .int), .methodLink RX1 126 yX0_wearAt, .methodLink RX1 129 yX0_freshen, .instanceMethod yX0_freshen, .selects RX0 yX0_freshen yX0_freshen, .code yX1_factOfRod cX1_factOfRod 3 (some .int), .methodLink RX1 132 yX0_isWornAt, .instanceMethod yX0_isWornAt, .selects RX0 yX0_isWornAt yX0_isWornAt, .code yX1_sumOfValues cX1_sumOfValues 3 (some .int), .code yX1_beadsThatCount cX1_beadsThatCount 3 (some .int), .constantLong RX1 148 (11), .methodLink RX1 136 yX1_isTidy, .instanceMethod yX1_isTidy, .selects RX1 yX1_isTidy yX1_isTidy, .methodLink RX1 140 yX1_sumOfValues, .instanceMethod yX1_sumOfValues, .selects RX1 yX1_sumOfValues yX1_sumOfValues, .methodLink RX1 144 yX1_shownNumber, .instanceMethod yX1_shownNumber, .selects RX1 yX1_shownNumber yX1_shownNumber, .methodLink RX1 150 yX1_beadsThatCount, .instanceMethod yX1_beadsThatCount, .selects RX1 yX1_beadsThatCount yX1_beadsThatCount, .code yX1_factOfFrame cX1_factOfFrame 2 (some .int), .code yX1_waysOfRod cX1_waysOfRod 5 (some .int), .code yX1_waysToShow cX1_waysToShow 13 (some .long), .methodLink RX1 164 yX1_waysOfRod, .instanceMethod yX1_waysOfRod, .selects RX1 yX1_waysOfRod yX1_waysOfRod, .code yX1_fewestOfRod cX1_fewestOfRod 5 (some .int), .methodLink RX1 170 Lib.Math.min.name, .static Lib.Math.min.name, .code Lib.Math.min.name Lib.Math.min.code 2 (some .int), .methodLink RX1 167 yX1_fewestOfRod, .instanceMethod yX1_fewestOfRod, .selects RX1 yX1_fewestOfRod yX1_fewestOfRod, .code yX1_fewestBeadsToShow cX1_fewestBeadsToShow 9 (some .int), .methodLink RX2 1 objectInit, .classLink RX2 9 RX1, .fieldLink RX2 11 "SorobanHall" "frames" "[LSorobanHall$Frame;", .instantiable RX1 13, .fieldLink RX2 18 "SorobanHall" "trial" "LSorobanHall$Frame;", .methodLink RX2 15 yX1_init, .instanceMethod yX1_init, .code yX2_init cX2_init 1 none, .classLink RX2 26 "java/lang/IllegalArgumentException", .initialized "java/lang/IllegalArgumentException"]
def LW_2 : List Cond := [.classLink RX2 37 "java/lang/IllegalStateException", .initialized "java/lang/IllegalStateException", .fieldLink RX2 22 "SorobanHall" "BEADS_ABOVE" "[I", .fieldLink RX2 33 "SorobanHall" "frameCount" "I", .code yX2_frame cX2_frame 4 (some .int), .code yX2_frameAt cX2_frameAt 2 (some (.object "SorobanHall$Frame")), .code yX2_foundFrame cX2_foundFrame 3 (some (.object "SorobanHall$Frame")), .classLink RX2 217 "java/lang/IndexOutOfBoundsException", .initialized "java/lang/IndexOutOfBoundsException", .methodLink RX2 214 yX2_frameAt, .instanceMethod yX2_frameAt, .selects RX2 yX2_frameAt yX2_frameAt, .initialized RX2, .code yX2_foundFrameWithRod cX2_foundFrameWithRod 4 (some (.object "SorobanHall$Frame")), .methodLink RX2 90 yX2_foundFrame, .instanceMethod yX2_foundFrame, .selects RX2 yX2_foundFrame yX2_foundFrame, .methodLink RX2 222 yX1_hasRod, .instanceMethod yX1_hasRod, .selects RX1 yX1_hasRod yX1_hasRod, .fieldLink RX2 48 "SorobanHall$Frame" "above" "LSorobanHall$Deck;", .fieldLink RX2 52 "SorobanHall$Frame" "below" "LSorobanHall$Deck;", .methodLink RX2 42 yX2_foundFrameWithRod, .instanceMethod yX2_foundFrameWithRod, .selects RX2 yX2_foundFrameWithRod yX2_foundFrameWithRod, .methodLink RX2 55 yX0_canMove, .instanceMethod yX0_canMove, .selects RX0 yX0_canMove yX0_canMove, .methodLink RX2 63 yX1_keepBeads, .instanceMethod yX1_keepBeads, .selects RX1 yX1_keepBeads yX1_keepBeads, .methodLink RX2 66 yX1_moveHand, .methodLink RX2 70 yX1_pushDeck, .methodLink RX2 74 yX1_valueAt, .code yX2_push cX2_push 7 (some .int), .fieldLink RX2 84 "SorobanHall$Frame" "pushes" "I", .methodLink RX2 78 yX1_mostOfRod, .instanceMethod yX1_mostOfRod, .selects RX1 yX1_mostOfRod yX1_mostOfRod, .methodLink RX2 87 yX1_setRod, .code yX2_set cX2_set 6 (some .int), .code yX2_refuseUnlessFits cX2_refuseUnlessFits 2 none, .methodLink RX2 138 yX1_hasRodsFor, .instanceMethod yX1_hasRodsFor, .selects RX1 yX1_hasRodsFor yX1_hasRodsFor, .methodLink RX2 94 yX2_refuseUnlessFits, .static yX2_refuseUnlessFits, .methodLink RX2 98 yX1_bringNumber, .instanceMethod yX1_bringNumber, .selects RX1 yX1_bringNumber yX1_bringNumber, .code yX2_add cX2_add 5 (some .int), .methodLink RX2 102 yX1_isTidy, .methodLink RX2 106 yX1_shownNumber, .methodLink RX2 110 yX1_takeNumber, .instanceMethod yX1_takeNumber, .selects RX1 yX1_takeNumber yX1_takeNumber, .code yX2_off cX2_off 5 (some .int), .fieldLink RX2 115 "SorobanHall$Frame" "spilled" "I", .methodLink RX2 118 yX1_multiply, .instanceMethod yX1_multiply, .selects RX1 yX1_multiply yX1_multiply, .code yX2_times cX2_times 5 (some .int), .methodLink RX2 123 yX1_splitBy, .instanceMethod yX1_splitBy, .selects RX1 yX1_splitBy yX1_splitBy, .code yX2_divide cX2_divide 4 (some .int), .methodLink RX2 126 yX1_shiftLeft, .instanceMethod yX1_shiftLeft, .selects RX1 yX1_shiftLeft yX1_shiftLeft, .methodLink RX2 129 yX1_shiftRight, .instanceMethod yX1_shiftRight, .selects RX1 yX1_shiftRight yX1_shiftRight, .code yX2_shift cX2_shift 4 (some .int), .fieldLink RX2 132 "SorobanHall$Frame" "carries" "I", .methodLink RX2 135 yX1_tidyRods, .instanceMethod yX1_tidyRods, .selects RX1 yX1_tidyRods yX1_tidyRods, .code yX2_tidy cX2_tidy 4 (some .int), .methodLink RX2 142 yX1_setRods, .instanceMethod yX1_setRods]
def LW_3 : List Cond := [.selects RX1 yX1_setRods yX1_setRods, .code yX2_show cX2_show 7 (some .int), .code yX2_clear cX2_clear 4 (some .int), .fieldLink RX2 145 "SorobanHall$Frame" "keptCount" "I", .methodLink RX2 150 yX1_restoreBeads, .instanceMethod yX1_restoreBeads, .selects RX1 yX1_restoreBeads yX1_restoreBeads, .code yX2_back cX2_back 3 (some .int), .methodLink RX2 153 yX1_greaseRod, .instanceMethod yX1_greaseRod, .selects RX1 yX1_greaseRod yX1_greaseRod, .code yX2_grease cX2_grease 4 (some .int), .code yX2_number cX2_number 3 (some .long), .code yX2_refuseUnlessBelow cX2_refuseUnlessBelow 2 none, .methodLink RX2 159 yX2_refuseUnlessBelow, .static yX2_refuseUnlessBelow, .methodLink RX2 166 yX1_factOfFrame, .instanceMethod yX1_factOfFrame, .selects RX1 yX1_factOfFrame yX1_factOfFrame, .code yX2_ofFrame cX2_ofFrame 4 (some .int), .code yX2_seconds cX2_seconds 3 (some .double), .fieldLink RX2 169 "SorobanHall$Frame" "seconds" "F", .code yX2_pushesOfAll cX2_pushesOfAll 4 (some .int), .code yX2_spilledByAll cX2_spilledByAll 4 (some .int), .code yX2_pairsThatShowTheSame cX2_pairsThatShowTheSame 6 (some .int), .fieldLink RX2 156 "SorobanHall" "refused" "I", .methodLink RX2 232 yX2_pushesOfAll, .instanceMethod yX2_pushesOfAll, .selects RX2 yX2_pushesOfAll yX2_pushesOfAll, .methodLink RX2 235 yX2_spilledByAll, .instanceMethod yX2_spilledByAll, .selects RX2 yX2_spilledByAll yX2_spilledByAll, .methodLink RX2 238 yX2_pairsThatShowTheSame, .instanceMethod yX2_pairsThatShowTheSame, .selects RX2 yX2_pairsThatShowTheSame yX2_pairsThatShowTheSame, .code yX2_factOfHall cX2_factOfHall 2 (some .int), .methodLink RX2 177 yX2_factOfHall, .instanceMethod yX2_factOfHall, .selects RX2 yX2_factOfHall yX2_factOfHall, .code yX2_many cX2_many 2 (some .int), .fieldLink RX2 245 "SorobanHall$Frame" "beads" "I", .methodLink RX2 241 yX1_copyFrom, .instanceMethod yX1_copyFrom, .selects RX1 yX1_copyFrom yX1_copyFrom, .code yX2_countByAdding cX2_countByAdding 4 (some .int), .methodLink RX2 186 yX2_countByAdding, .instanceMethod yX2_countByAdding, .selects RX2 yX2_countByAdding yX2_countByAdding, .code yX2_would cX2_would 5 (some .int), .code yX2_secondsByAdding cX2_secondsByAdding 3 (some .double), .methodLink RX2 190 yX2_secondsByAdding, .instanceMethod yX2_secondsByAdding, .selects RX2 yX2_secondsByAdding yX2_secondsByAdding, .code yX2_wouldTake cX2_wouldTake 4 (some .double), .methodLink RX2 248 Lib.Math.min.name, .code yX2_quickerToAdd cX2_quickerToAdd 10 (some .int), .methodLink RX2 196 yX2_quickerToAdd, .instanceMethod yX2_quickerToAdd, .selects RX2 yX2_quickerToAdd yX2_quickerToAdd, .code yX2_quicker cX2_quicker 6 (some .int), .methodLink RX2 253 yX1_bring, .code yX2_hardestDigit cX2_hardestDigit 7 (some .int), .methodLink RX2 200 yX2_hardestDigit, .instanceMethod yX2_hardestDigit, .selects RX2 yX2_hardestDigit yX2_hardestDigit, .code yX2_hardest cX2_hardest 4 (some .int), .code yX2_mixed cX2_mixed 4 (some .long), .constantLong RX2 256 (31), .constantDouble RX2 258 (4625196817309499392), .fieldLink RX2 260 "SorobanHall$Frame" "rods" "I", .methodLink RX2 206 yX2_mixed, .static yX2_mixed, .methodLink RX2 180 yX1_waysToShow, .instanceMethod yX1_waysToShow, .selects RX1 yX1_waysToShow yX1_waysToShow, .methodLink RX2 183 yX1_fewestBeadsToShow, .instanceMethod yX1_fewestBeadsToShow, .selects RX1 yX1_fewestBeadsToShow yX1_fewestBeadsToShow, .methodLink RX2 162 yX1_factOfRod, .instanceMethod yX1_factOfRod]
def LW_4 : List Cond := [.selects RX1 yX1_factOfRod yX1_factOfRod, .code yX2_mixedWithFrame cX2_mixedWithFrame 8 (some .long), .constantLong RX2 204 (58320), .methodLink RX2 210 yX2_mixedWithFrame, .instanceMethod yX2_mixedWithFrame, .selects RX2 yX2_mixedWithFrame yX2_mixedWithFrame, .code yX2_digest cX2_digest 5 (some .long), .code yX3_init cX3_init 4 none, .methodLink RX3 1 objectInit, .classLink RX3 7 "[I", .fieldLink RX3 9 "SorobanHallLaw$Told" "kept" "[[I", .fieldLink RX3 15 "SorobanHallLaw$Told" "sums" "[I", .fieldLink RX3 18 "SorobanHallLaw$Told" "m" "LSorobanHall;", .fieldLink RX3 22 "SorobanHallLaw$Told" "s" "[I", .fieldLink RX3 25 "SorobanHallLaw$Told" "draws" "I", .code yL_cell cL_cell 2 (some .int), .constant RL 8 (790386105), .code yL_below cL_below 2 (some .int), .constant RL 7 (2147483647), .code yX3_draw cX3_draw 3 (some .int), .static yL_cell, .initialized RL, .static yL_below, .fieldLink RX3 39 "SorobanHallLaw$Told" "number" "I", .fieldLink RX3 46 "SorobanHallLaw$Told" "kind" "I", .fieldLink RX3 49 "SorobanHallLaw$Told" "up" "[I", .fieldLink RX3 52 "SorobanHallLaw$Told" "down" "[I", .classLink RX3 55 "[[I", .fieldLink RX3 56 "SorobanHallLaw$Told" "wear" "[[I", .methodLink RX3 42 yX3_draw, .instanceMethod yX3_draw, .selects RX3 yX3_draw yX3_draw, .initialized RX3, .methodLink RX3 59 yX2_frame, .instanceMethod yX2_frame, .selects RX2 yX2_frame yX2_frame, .code yX3_frame cX3_frame 3 (some .boolean), .code yX3_ups cX3_ups 1 (some .int), .code yX3_downs cX3_downs 1 (some .int), .code yX3_most cX3_most 1 (some .int), .methodLink RX3 64 yX3_ups, .instanceMethod yX3_ups, .selects RX3 yX3_ups yX3_ups, .methodLink RX3 68 yX3_downs, .instanceMethod yX3_downs, .selects RX3 yX3_downs yX3_downs, .code yX3_value cX3_value 2 (some .int), .code yX3_total cX3_total 6 (some .long), .constantLong RX3 74 (10), .methodLink RX3 71 yX3_value, .instanceMethod yX3_value, .selects RX3 yX3_value yX3_value, .code yX3_isTidy cX3_isTidy 3 (some .boolean), .code yX3_keep cX3_keep 4 none, .methodLink RX3 76 arraycopyName, .native arraycopyName, .static arraycopyName, .initialized "java/lang/System", .code yX3_move cX3_move 5 none, .methodLink RX3 82 Lib.Math.abs.name, .fieldLink RX3 87 "SorobanHallLaw$Told" "time" "J", .fieldLink RX3 91 "SorobanHallLaw$Told" "hand" "I", .code yX3_pushes cX3_pushes 4 (some .int), .code yX3_beads cX3_beads 4 (some .int), .methodLink RX3 94 yX3_pushes, .instanceMethod yX3_pushes, .selects RX3 yX3_pushes yX3_pushes, .methodLink RX3 98 yX3_beads, .instanceMethod yX3_beads, .selects RX3 yX3_beads yX3_beads, .methodLink RX3 101 yX3_move, .instanceMethod yX3_move, .selects RX3 yX3_move yX3_move, .code yX3_set cX3_set 6 none, .methodLink RX3 105 yX3_set, .instanceMethod yX3_set, .selects RX3 yX3_set yX3_set, .code yX3_bring cX3_bring 6 none, .code yX3_digits cX3_digits 7 (some (.array .int)), .methodLink RX3 109 yX3_digits]
def LW_5 : List Cond := [.static yX3_digits, .methodLink RX3 113 yX3_bring, .instanceMethod yX3_bring, .selects RX3 yX3_bring yX3_bring, .code yX3_adds cX3_adds 4 none, .code yX3_some cX3_some 4 (some .int), .methodLink RX3 116 yX3_some, .instanceMethod yX3_some, .selects RX3 yX3_some yX3_some, .methodLink RX3 119 yX3_keep, .instanceMethod yX3_keep, .selects RX3 yX3_keep yX3_keep, .methodLink RX3 122 yX3_adds, .instanceMethod yX3_adds, .selects RX3 yX3_adds yX3_adds, .methodLink RX3 126 yX2_add, .instanceMethod yX2_add, .selects RX2 yX2_add yX2_add, .code yX3_add cX3_add 3 (some .boolean), .constant RX3 133 (99999999), .methodLink RX3 129 yX3_total, .instanceMethod yX3_total, .selects RX3 yX3_total yX3_total, .methodLink RX3 134 yX3_isTidy, .instanceMethod yX3_isTidy, .selects RX3 yX3_isTidy yX3_isTidy, .methodLink RX3 138 yX2_off, .instanceMethod yX2_off, .selects RX2 yX2_off yX2_off, .code yX3_off cX3_off 8 (some .boolean), .methodLink RX3 141 yX2_times, .instanceMethod yX2_times, .selects RX2 yX2_times yX2_times, .code yX3_times cX3_times 6 (some .boolean), .methodLink RX3 144 yX2_divide, .instanceMethod yX2_divide, .selects RX2 yX2_divide yX2_divide, .code yX3_divide cX3_divide 5 (some .boolean), .methodLink RX3 147 yX2_shift, .instanceMethod yX2_shift, .selects RX2 yX2_shift yX2_shift, .code yX3_shift cX3_shift 5 (some .boolean), .methodLink RX3 151 yX2_tidy, .instanceMethod yX2_tidy, .selects RX2 yX2_tidy yX2_tidy, .code yX3_tidy cX3_tidy 3 (some .boolean), .methodLink RX3 154 yX2_clear, .instanceMethod yX2_clear, .selects RX2 yX2_clear yX2_clear, .code yX3_clear cX3_clear 3 (some .boolean), .methodLink RX3 157 yX3_most, .instanceMethod yX3_most, .selects RX3 yX3_most yX3_most, .methodLink RX3 160 yX2_set, .instanceMethod yX2_set, .selects RX2 yX2_set yX2_set, .code yX3_sets cX3_sets 4 (some .boolean), .methodLink RX3 162 yX2_push, .instanceMethod yX2_push, .selects RX2 yX2_push yX2_push, .code yX3_push cX3_push 5 (some .boolean), .methodLink RX3 166 yX2_back, .instanceMethod yX2_back, .selects RX2 yX2_back yX2_back, .code yX3_back cX3_back 3 (some .boolean), .constantLong RX3 169 (32), .methodLink RX3 171 yX2_grease, .instanceMethod yX2_grease, .selects RX2 yX2_grease yX2_grease, .code yX3_grease cX3_grease 3 (some .boolean), .methodLink RX3 174 yX3_add, .instanceMethod yX3_add, .selects RX3 yX3_add yX3_add, .methodLink RX3 176 yX3_off, .instanceMethod yX3_off, .selects RX3 yX3_off yX3_off, .methodLink RX3 178 yX3_times, .instanceMethod yX3_times, .selects RX3 yX3_times yX3_times, .methodLink RX3 180 yX3_divide]
def LW_6 : List Cond := [.instanceMethod yX3_divide, .selects RX3 yX3_divide yX3_divide, .methodLink RX3 182 yX3_shift, .instanceMethod yX3_shift, .selects RX3 yX3_shift yX3_shift, .methodLink RX3 184 yX3_tidy, .instanceMethod yX3_tidy, .selects RX3 yX3_tidy yX3_tidy, .methodLink RX3 186 yX3_clear, .instanceMethod yX3_clear, .selects RX3 yX3_clear yX3_clear, .methodLink RX3 188 yX3_sets, .instanceMethod yX3_sets, .selects RX3 yX3_sets yX3_sets, .methodLink RX3 191 yX3_push, .instanceMethod yX3_push, .selects RX3 yX3_push yX3_push, .methodLink RX3 193 yX3_back, .instanceMethod yX3_back, .selects RX3 yX3_back yX3_back, .methodLink RX3 195 yX3_grease, .instanceMethod yX3_grease, .selects RX3 yX3_grease yX3_grease, .code yX3_act cX3_act 1 (some .boolean), .code yJ9_abs_0f7a4 cJ9_abs_0f7a4 1 (some .int), .code yJ9_min_7cf53 cJ9_min_7cf53 2 (some .int), .methodLink RL 68 yX2_clear, .methodLink RL 71 yX2_many, .instanceMethod yX2_many, .selects RX2 yX2_many yX2_many, .methodLink RL 25 yX3_draw, .methodLink RL 59 yX2_add, .methodLink RL 74 yX2_off, .methodLink RL 77 yX2_number, .instanceMethod yX2_number, .selects RX2 yX2_number yX2_number, .methodLink RL 81 yX2_divide, .methodLink RL 84 yX2_times, .methodLink RL 87 yX2_show, .instanceMethod yX2_show, .selects RX2 yX2_show yX2_show, .methodLink RL 90 yX2_shift, .code yL_isTogether cL_isTogether 7 (some .boolean), .classLink RL 9 RX2, .instantiable RX2 4, .classLink RL 12 RX3, .instantiable RX3 12, .arrayClass .double, .fieldLink RL 41 "SorobanHallLaw$Told" "up" "[I", .methodLink RL 11 yX2_init, .instanceMethod yX2_init, .methodLink RL 14 yX3_init, .instanceMethod yX3_init, .methodLink RL 17 yX3_frame, .instanceMethod yX3_frame, .selects RX3 yX3_frame yX3_frame, .methodLink RL 21 yX3_act, .instanceMethod yX3_act, .selects RX3 yX3_act yX3_act, .methodLink RL 29 yX2_digest, .instanceMethod yX2_digest, .selects RX2 yX2_digest yX2_digest, .methodLink RL 33 yX2_quicker, .instanceMethod yX2_quicker, .selects RX2 yX2_quicker yX2_quicker, .methodLink RL 37 yX2_wouldTake, .instanceMethod yX2_wouldTake, .selects RX2 yX2_wouldTake yX2_wouldTake, .methodLink RL 45 yX2_hardest, .instanceMethod yX2_hardest, .selects RX2 yX2_hardest yX2_hardest, .methodLink RL 49 yX2_seconds, .instanceMethod yX2_seconds, .selects RX2 yX2_seconds yX2_seconds, .methodLink RL 53 yX2_would, .instanceMethod yX2_would, .selects RX2 yX2_would yX2_would, .methodLink RL 56 yX2_ofFrame, .instanceMethod yX2_ofFrame, .selects RX2 yX2_ofFrame yX2_ofFrame]
def LW_7 : List Cond := [.methodLink RL 62 yL_isTogether, .static yL_isTogether]
/-- the words that the walks need, in one list -/
def LW : List Cond := LW_0 ++ (LW_1 ++ (LW_2 ++ (LW_3 ++ (LW_4 ++ (LW_5 ++ (LW_6 ++ (LW_7 ++ (wsX00 ++ (wsX10 ++ (wsX20 ++ (wsX30)))))))))))
theorem q0 : (.code yX0_init cX0_init 2 none) ∈ LW := (List.mem_append_left _ (List.mem_of_getElem? (i := 0) rfl))
theorem q1 : (.methodLink RX0 3 objectInit) ∈ LW := (List.mem_append_left _ (List.mem_of_getElem? (i := 1) rfl))
theorem q2 : (.instanceMethod objectInit) ∈ LW := (List.mem_append_left _ (List.mem_of_getElem? (i := 2) rfl))
theorem q3 : (.code objectInit ⟨#[0xb1]⟩ 1 none) ∈ LW := (List.mem_append_left _ (List.mem_of_getElem? (i := 3) rfl))
theorem q4 : (.arrayClass .int) ∈ LW := (List.mem_append_left _ (List.mem_of_getElem? (i := 4) rfl))
theorem q5 : (.fieldLink RX0 9 "SorobanHall$Deck" "counting" "[I") ∈ LW := (List.mem_append_left _ (List.mem_of_getElem? (i := 5) rfl))
theorem q6 : (.fieldLink RX0 15 "SorobanHall$Deck" "wear" "[I") ∈ LW := (List.mem_append_left _ (List.mem_of_getElem? (i := 6) rfl))
theorem q7 : (.fieldLink RX0 18 "SorobanHall$Deck" "kept" "[I") ∈ LW := (List.mem_append_left _ (List.mem_of_getElem? (i := 7) rfl))
theorem q8 : (.fieldLink RX0 21 "SorobanHall$Deck" "size" "I") ∈ LW := (List.mem_append_left _ (List.mem_of_getElem? (i := 8) rfl))
theorem q9 : (.code yX0_countAt cX0_countAt 2 (some .int)) ∈ LW := (List.mem_append_left _ (List.mem_of_getElem? (i := 9) rfl))
theorem q10 : (.code yX0_wearAt cX0_wearAt 2 (some .int)) ∈ LW := (List.mem_append_left _ (List.mem_of_getElem? (i := 10) rfl))
theorem q11 : (.code yX0_isWornAt cX0_isWornAt 2 (some .boolean)) ∈ LW := (List.mem_append_left _ (List.mem_of_getElem? (i := 11) rfl))
theorem q12 : (.methodLink RX0 25 yX0_wearAt) ∈ LW := (List.mem_append_left _ (List.mem_of_getElem? (i := 12) rfl))
theorem q13 : (.instanceMethod yX0_wearAt) ∈ LW := (List.mem_append_left _ (List.mem_of_getElem? (i := 13) rfl))
theorem q14 : (.selects RX0 yX0_wearAt yX0_wearAt) ∈ LW := (List.mem_append_left _ (List.mem_of_getElem? (i := 14) rfl))
theorem q15 : (.initialized RX0) ∈ LW := (List.mem_append_left _ (List.mem_of_getElem? (i := 15) rfl))
theorem q16 : (.code yX0_canMove cX0_canMove 5 (some .boolean)) ∈ LW := (List.mem_append_left _ (List.mem_of_getElem? (i := 16) rfl))
theorem q17 : (.methodLink RX0 29 yX0_countAt) ∈ LW := (List.mem_append_left _ (List.mem_of_getElem? (i := 17) rfl))
theorem q18 : (.instanceMethod yX0_countAt) ∈ LW := (List.mem_append_left _ (List.mem_of_getElem? (i := 18) rfl))
theorem q19 : (.selects RX0 yX0_countAt yX0_countAt) ∈ LW := (List.mem_append_left _ (List.mem_of_getElem? (i := 19) rfl))
theorem q20 : (.code yX0_freshen cX0_freshen 2 none) ∈ LW := (List.mem_append_left _ (List.mem_of_getElem? (i := 20) rfl))
theorem q21 : (.code yX0_keepIn cX0_keepIn 4 none) ∈ LW := (List.mem_append_left _ (List.mem_of_getElem? (i := 21) rfl))
theorem q22 : (.code yX0_restoreFrom cX0_restoreFrom 4 none) ∈ LW := (List.mem_append_left _ (List.mem_of_getElem? (i := 22) rfl))
theorem q23 : (.code yX0_copyFrom cX0_copyFrom 3 none) ∈ LW := (List.mem_append_left _ (List.mem_of_getElem? (i := 23) rfl))
theorem q24 : (.code yX1_init cX1_init 3 none) ∈ LW := (List.mem_append_left _ (List.mem_of_getElem? (i := 24) rfl))
theorem q25 : (.methodLink RX1 3 objectInit) ∈ LW := (List.mem_append_left _ (List.mem_of_getElem? (i := 25) rfl))
theorem q26 : (.fieldLink RX1 9 "SorobanHall$Frame" "kind" "I") ∈ LW := (List.mem_append_left _ (List.mem_of_getElem? (i := 26) rfl))
theorem q27 : (.fieldLink RX1 15 "SorobanHall$Frame" "rods" "I") ∈ LW := (List.mem_append_left _ (List.mem_of_getElem? (i := 27) rfl))
theorem q28 : (.classLink RX1 18 RX0) ∈ LW := (List.mem_append_left _ (List.mem_of_getElem? (i := 28) rfl))
theorem q29 : (.instantiable RX0 4) ∈ LW := (List.mem_append_left _ (List.mem_of_getElem? (i := 29) rfl))
theorem q30 : (.fieldLink RX1 27 "SorobanHall$Frame" "above" "LSorobanHall$Deck;") ∈ LW := (List.mem_append_left _ (List.mem_of_getElem? (i := 30) rfl))
theorem q31 : (.fieldLink RX1 34 "SorobanHall$Frame" "below" "LSorobanHall$Deck;") ∈ LW := (List.mem_append_left _ (List.mem_of_getElem? (i := 31) rfl))
theorem q32 : (.methodLink RX1 24 yX0_init) ∈ LW := (List.mem_append_left _ (List.mem_of_getElem? (i := 32) rfl))
theorem q33 : (.instanceMethod yX0_init) ∈ LW := (List.mem_append_left _ (List.mem_of_getElem? (i := 33) rfl))
theorem q34 : (.fieldLink RX1 41 "SorobanHall$Frame" "hand" "I") ∈ LW := (List.mem_append_left _ (List.mem_of_getElem? (i := 34) rfl))
theorem q35 : (.fieldLink RX1 44 "SorobanHall$Frame" "seconds" "F") ∈ LW := (List.mem_append_left _ (List.mem_of_getElem? (i := 35) rfl))
theorem q36 : (.fieldLink RX1 48 "SorobanHall$Frame" "pushes" "I") ∈ LW := (List.mem_append_left _ (List.mem_of_getElem? (i := 36) rfl))
theorem q37 : (.fieldLink RX1 51 "SorobanHall$Frame" "beads" "I") ∈ LW := (List.mem_append_left _ (List.mem_of_getElem? (i := 37) rfl))
theorem q38 : (.fieldLink RX1 54 "SorobanHall$Frame" "carries" "I") ∈ LW := (List.mem_append_left _ (List.mem_of_getElem? (i := 38) rfl))
theorem q39 : (.fieldLink RX1 57 "SorobanHall$Frame" "loans" "I") ∈ LW := (List.mem_append_left _ (List.mem_of_getElem? (i := 39) rfl))
theorem q40 : (.fieldLink RX1 60 "SorobanHall$Frame" "spilled" "I") ∈ LW := (List.mem_append_left _ (List.mem_of_getElem? (i := 40) rfl))
theorem q41 : (.methodLink RX1 37 yX0_copyFrom) ∈ LW := (List.mem_append_left _ (List.mem_of_getElem? (i := 41) rfl))
theorem q42 : (.instanceMethod yX0_copyFrom) ∈ LW := (List.mem_append_left _ (List.mem_of_getElem? (i := 42) rfl))
theorem q43 : (.selects RX0 yX0_copyFrom yX0_copyFrom) ∈ LW := (List.mem_append_left _ (List.mem_of_getElem? (i := 43) rfl))
theorem q44 : (.code yX1_copyFrom cX1_copyFrom 2 none) ∈ LW := (List.mem_append_left _ (List.mem_of_getElem? (i := 44) rfl))
theorem q45 : (.code yX1_hasRod cX1_hasRod 2 (some .boolean)) ∈ LW := (List.mem_append_left _ (List.mem_of_getElem? (i := 45) rfl))
theorem q46 : (.code yX1_hasRodsFor cX1_hasRodsFor 6 (some .boolean)) ∈ LW := (List.mem_append_left _ (List.mem_of_getElem? (i := 46) rfl))
theorem q47 : (.constantLong RX1 63 (10)) ∈ LW := (List.mem_append_left _ (List.mem_of_getElem? (i := 47) rfl))
theorem q48 : (.code yX1_valueAt cX1_valueAt 2 (some .int)) ∈ LW := (List.mem_append_left _ (List.mem_of_getElem? (i := 48) rfl))
theorem q49 : (.methodLink RX1 65 yX0_countAt) ∈ LW := (List.mem_append_left _ (List.mem_of_getElem? (i := 49) rfl))
theorem q50 : (.code yX1_mostOfRod cX1_mostOfRod 1 (some .int)) ∈ LW := (List.mem_append_left _ (List.mem_of_getElem? (i := 50) rfl))
theorem q51 : (.fieldLink RX1 69 "SorobanHall$Deck" "size" "I") ∈ LW := (List.mem_append_left _ (List.mem_of_getElem? (i := 51) rfl))
theorem q52 : (.code yX1_shownNumber cX1_shownNumber 4 (some .long)) ∈ LW := (List.mem_append_left _ (List.mem_of_getElem? (i := 52) rfl))
theorem q53 : (.methodLink RX1 72 yX1_valueAt) ∈ LW := (List.mem_append_left _ (List.mem_of_getElem? (i := 53) rfl))
theorem q54 : (.instanceMethod yX1_valueAt) ∈ LW := (List.mem_append_left _ (List.mem_of_getElem? (i := 54) rfl))
theorem q55 : (.selects RX1 yX1_valueAt yX1_valueAt) ∈ LW := (List.mem_append_left _ (List.mem_of_getElem? (i := 55) rfl))
theorem q56 : (.initialized RX1) ∈ LW := (List.mem_append_left _ (List.mem_of_getElem? (i := 56) rfl))
theorem q57 : (.code yX1_isTidy cX1_isTidy 2 (some .boolean)) ∈ LW := (List.mem_append_left _ (List.mem_of_getElem? (i := 57) rfl))
theorem q58 : (.code yX1_moveHand cX1_moveHand 3 none) ∈ LW := (List.mem_append_left _ (List.mem_of_getElem? (i := 58) rfl))
theorem q59 : (.methodLink RX1 75 Lib.Math.abs.name) ∈ LW := (List.mem_append_left _ (List.mem_of_getElem? (i := 59) rfl))
theorem q60 : (.static Lib.Math.abs.name) ∈ LW := (List.mem_append_left _ (List.mem_of_getElem? (i := 60) rfl))
theorem q61 : (.initialized "java/lang/Math") ∈ LW := (List.mem_append_left _ (List.mem_of_getElem? (i := 61) rfl))
theorem q62 : (.code Lib.Math.abs.name Lib.Math.abs.code 1 (some .int)) ∈ LW := (List.mem_append_left _ (List.mem_of_getElem? (i := 62) rfl))
theorem q63 : (.constantFloat RX1 80 (1040187392)) ∈ LW := (List.mem_append_left _ (List.mem_of_getElem? (i := 63) rfl))
theorem q64 : (.code yX1_pushDeck cX1_pushDeck 6 none) ∈ LW := (List.mem_append_left _ (List.mem_of_getElem? (i := 64) rfl))
theorem q65 : (.fieldLink RX1 81 "SorobanHall$Deck" "counting" "[I") ∈ LW := (List.mem_append_left _ (List.mem_of_getElem? (i := 65) rfl))
theorem q66 : (.fieldLink RX1 84 "SorobanHall$Deck" "wear" "[I") ∈ LW := (List.mem_append_left _ (List.mem_of_getElem? (i := 66) rfl))
theorem q67 : (.constantFloat RX1 87 (1048576000)) ∈ LW := (List.mem_append_left _ (List.mem_of_getElem? (i := 67) rfl))
theorem q68 : (.constantFloat RX1 88 (1031798784)) ∈ LW := (List.mem_append_left _ (List.mem_of_getElem? (i := 68) rfl))
theorem q69 : (.code yX1_bestUp cX1_bestUp 13 (some .int)) ∈ LW := (List.mem_append_left _ (List.mem_of_getElem? (i := 69) rfl))
theorem q70 : (.methodLink RX1 89 yX1_bestUp) ∈ LW := (List.mem_append_left _ (List.mem_of_getElem? (i := 70) rfl))
theorem q71 : (.instanceMethod yX1_bestUp) ∈ LW := (List.mem_append_left _ (List.mem_of_getElem? (i := 71) rfl))
theorem q72 : (.selects RX1 yX1_bestUp yX1_bestUp) ∈ LW := (List.mem_append_left _ (List.mem_of_getElem? (i := 72) rfl))
theorem q73 : (.methodLink RX1 93 yX1_moveHand) ∈ LW := (List.mem_append_left _ (List.mem_of_getElem? (i := 73) rfl))
theorem q74 : (.instanceMethod yX1_moveHand) ∈ LW := (List.mem_append_left _ (List.mem_of_getElem? (i := 74) rfl))
theorem q75 : (.selects RX1 yX1_moveHand yX1_moveHand) ∈ LW := (List.mem_append_left _ (List.mem_of_getElem? (i := 75) rfl))
theorem q76 : (.methodLink RX1 96 yX1_pushDeck) ∈ LW := (List.mem_append_left _ (List.mem_of_getElem? (i := 76) rfl))
theorem q77 : (.instanceMethod yX1_pushDeck) ∈ LW := (List.mem_append_left _ (List.mem_of_getElem? (i := 77) rfl))
theorem q78 : (.selects RX1 yX1_pushDeck yX1_pushDeck) ∈ LW := (List.mem_append_left _ (List.mem_of_getElem? (i := 78) rfl))
theorem q79 : (.code yX1_setRod cX1_setRod 8 none) ∈ LW := (List.mem_append_left _ (List.mem_of_getElem? (i := 79) rfl))
theorem q80 : (.code yX1_digitAt cX1_digitAt 6 (some .int)) ∈ LW := (List.mem_append_right _ (List.mem_append_left _ (List.mem_of_getElem? (i := 0) rfl)))
theorem q81 : (.methodLink RX1 100 yX1_digitAt) ∈ LW := (List.mem_append_right _ (List.mem_append_left _ (List.mem_of_getElem? (i := 1) rfl)))
theorem q82 : (.static yX1_digitAt) ∈ LW := (List.mem_append_right _ (List.mem_append_left _ (List.mem_of_getElem? (i := 2) rfl)))
theorem q83 : (.methodLink RX1 104 yX1_setRod) ∈ LW := (List.mem_append_right _ (List.mem_append_left _ (List.mem_of_getElem? (i := 3) rfl)))
theorem q84 : (.instanceMethod yX1_setRod) ∈ LW := (List.mem_append_right _ (List.mem_append_left _ (List.mem_of_getElem? (i := 4) rfl)))
theorem q85 : (.selects RX1 yX1_setRod yX1_setRod) ∈ LW := (List.mem_append_right _ (List.mem_append_left _ (List.mem_of_getElem? (i := 5) rfl)))
theorem q86 : (.code yX1_setRods cX1_setRods 4 none) ∈ LW := (List.mem_append_right _ (List.mem_append_left _ (List.mem_of_getElem? (i := 6) rfl)))
theorem q87 : (.code yX1_bring cX1_bring 6 none) ∈ LW := (List.mem_append_right _ (List.mem_append_left _ (List.mem_of_getElem? (i := 7) rfl)))
theorem q88 : (.methodLink RX1 108 yX1_bring) ∈ LW := (List.mem_append_right _ (List.mem_append_left _ (List.mem_of_getElem? (i := 8) rfl)))
theorem q89 : (.instanceMethod yX1_bring) ∈ LW := (List.mem_append_right _ (List.mem_append_left _ (List.mem_of_getElem? (i := 9) rfl)))
theorem q90 : (.selects RX1 yX1_bring yX1_bring) ∈ LW := (List.mem_append_right _ (List.mem_append_left _ (List.mem_of_getElem? (i := 10) rfl)))
theorem q91 : (.code yX1_bringNumber cX1_bringNumber 4 none) ∈ LW := (List.mem_append_right _ (List.mem_append_left _ (List.mem_of_getElem? (i := 11) rfl)))
theorem q92 : (.code yX1_takeDigit cX1_takeDigit 6 none) ∈ LW := (List.mem_append_right _ (List.mem_append_left _ (List.mem_of_getElem? (i := 12) rfl)))
theorem q93 : (.methodLink RX1 111 yX1_takeDigit) ∈ LW := (List.mem_append_right _ (List.mem_append_left _ (List.mem_of_getElem? (i := 13) rfl)))
theorem q94 : (.instanceMethod yX1_takeDigit) ∈ LW := (List.mem_append_right _ (List.mem_append_left _ (List.mem_of_getElem? (i := 14) rfl)))
theorem q95 : (.selects RX1 yX1_takeDigit yX1_takeDigit) ∈ LW := (List.mem_append_right _ (List.mem_append_left _ (List.mem_of_getElem? (i := 15) rfl)))
theorem q96 : (.code yX1_takeNumber cX1_takeNumber 4 none) ∈ LW := (List.mem_append_right _ (List.mem_append_left _ (List.mem_of_getElem? (i := 16) rfl)))
theorem q97 : (.code yX1_multiply cX1_multiply 4 none) ∈ LW := (List.mem_append_right _ (List.mem_append_left _ (List.mem_of_getElem? (i := 17) rfl)))
theorem q98 : (.code yX1_splitBy cX1_splitBy 5 (some .int)) ∈ LW := (List.mem_append_right _ (List.mem_append_left _ (List.mem_of_getElem? (i := 18) rfl)))
theorem q99 : (.code yX1_shiftLeft cX1_shiftLeft 3 (some .int)) ∈ LW := (List.mem_append_right _ (List.mem_append_left _ (List.mem_of_getElem? (i := 19) rfl)))
theorem q100 : (.code yX1_shiftRight cX1_shiftRight 3 (some .int)) ∈ LW := (List.mem_append_right _ (List.mem_append_left _ (List.mem_of_getElem? (i := 20) rfl)))
theorem q101 : (.code yX1_tidyRods cX1_tidyRods 3 none) ∈ LW := (List.mem_append_right _ (List.mem_append_left _ (List.mem_of_getElem? (i := 21) rfl)))
theorem q102 : (.code yX1_keepBeads cX1_keepBeads 1 none) ∈ LW := (List.mem_append_right _ (List.mem_append_left _ (List.mem_of_getElem? (i := 22) rfl)))
theorem q103 : (.fieldLink RX1 114 "SorobanHall$Frame" "nextSlot" "I") ∈ LW := (List.mem_append_right _ (List.mem_append_left _ (List.mem_of_getElem? (i := 23) rfl)))
theorem q104 : (.fieldLink RX1 120 "SorobanHall$Frame" "keptCount" "I") ∈ LW := (List.mem_append_right _ (List.mem_append_left _ (List.mem_of_getElem? (i := 24) rfl)))
theorem q105 : (.methodLink RX1 117 yX0_keepIn) ∈ LW := (List.mem_append_right _ (List.mem_append_left _ (List.mem_of_getElem? (i := 25) rfl)))
theorem q106 : (.instanceMethod yX0_keepIn) ∈ LW := (List.mem_append_right _ (List.mem_append_left _ (List.mem_of_getElem? (i := 26) rfl)))
theorem q107 : (.selects RX0 yX0_keepIn yX0_keepIn) ∈ LW := (List.mem_append_right _ (List.mem_append_left _ (List.mem_of_getElem? (i := 27) rfl)))
theorem q108 : (.code yX1_restoreBeads cX1_restoreBeads 1 none) ∈ LW := (List.mem_append_right _ (List.mem_append_left _ (List.mem_of_getElem? (i := 28) rfl)))
theorem q109 : (.methodLink RX1 123 yX0_restoreFrom) ∈ LW := (List.mem_append_right _ (List.mem_append_left _ (List.mem_of_getElem? (i := 29) rfl)))
theorem q110 : (.instanceMethod yX0_restoreFrom) ∈ LW := (List.mem_append_right _ (List.mem_append_left _ (List.mem_of_getElem? (i := 30) rfl)))
theorem q111 : (.selects RX0 yX0_restoreFrom yX0_restoreFrom) ∈ LW := (List.mem_append_right _ (List.mem_append_left _ (List.mem_of_getElem? (i := 31) rfl)))
theorem q112 : (.code yX1_greaseRod cX1_greaseRod 3 (some .int)) ∈ LW := (List.mem_append_right _ (List.mem_append_left _ (List.mem_of_getElem? (i := 32) rfl)))
theorem q113 : (.methodLink RX1 126 yX0_wearAt) ∈ LW := (List.mem_append_right _ (List.mem_append_left _ (List.mem_of_getElem? (i := 33) rfl)))
theorem q114 : (.methodLink RX1 129 yX0_freshen) ∈ LW := (List.mem_append_right _ (List.mem_append_left _ (List.mem_of_getElem? (i := 34) rfl)))
theorem q115 : (.instanceMethod yX0_freshen) ∈ LW := (List.mem_append_right _ (List.mem_append_left _ (List.mem_of_getElem? (i := 35) rfl)))
theorem q116 : (.selects RX0 yX0_freshen yX0_freshen) ∈ LW := (List.mem_append_right _ (List.mem_append_left _ (List.mem_of_getElem? (i := 36) rfl)))
theorem q117 : (.code yX1_factOfRod cX1_factOfRod 3 (some .int)) ∈ LW := (List.mem_append_right _ (List.mem_append_left _ (List.mem_of_getElem? (i := 37) rfl)))
theorem q118 : (.methodLink RX1 132 yX0_isWornAt) ∈ LW := (List.mem_append_right _ (List.mem_append_left _ (List.mem_of_getElem? (i := 38) rfl)))
theorem q119 : (.instanceMethod yX0_isWornAt) ∈ LW := (List.mem_append_right _ (List.mem_append_left _ (List.mem_of_getElem? (i := 39) rfl)))
theorem q120 : (.selects RX0 yX0_isWornAt yX0_isWornAt) ∈ LW := (List.mem_append_right _ (List.mem_append_left _ (List.mem_of_getElem? (i := 40) rfl)))
theorem q121 : (.code yX1_sumOfValues cX1_sumOfValues 3 (some .int)) ∈ LW := (List.mem_append_right _ (List.mem_append_left _ (List.mem_of_getElem? (i := 41) rfl)))
theorem q122 : (.code yX1_beadsThatCount cX1_beadsThatCount 3 (some .int)) ∈ LW := (List.mem_append_right _ (List.mem_append_left _ (List.mem_of_getElem? (i := 42) rfl)))
theorem q123 : (.constantLong RX1 148 (11)) ∈ LW := (List.mem_append_right _ (List.mem_append_left _ (List.mem_of_getElem? (i := 43) rfl)))
theorem q124 : (.methodLink RX1 136 yX1_isTidy) ∈ LW := (List.mem_append_right _ (List.mem_append_left _ (List.mem_of_getElem? (i := 44) rfl)))
theorem q125 : (.instanceMethod yX1_isTidy) ∈ LW := (List.mem_append_right _ (List.mem_append_left _ (List.mem_of_getElem? (i := 45) rfl)))
theorem q126 : (.selects RX1 yX1_isTidy yX1_isTidy) ∈ LW := (List.mem_append_right _ (List.mem_append_left _ (List.mem_of_getElem? (i := 46) rfl)))
theorem q127 : (.methodLink RX1 140 yX1_sumOfValues) ∈ LW := (List.mem_append_right _ (List.mem_append_left _ (List.mem_of_getElem? (i := 47) rfl)))
theorem q128 : (.instanceMethod yX1_sumOfValues) ∈ LW := (List.mem_append_right _ (List.mem_append_left _ (List.mem_of_getElem? (i := 48) rfl)))
theorem q129 : (.selects RX1 yX1_sumOfValues yX1_sumOfValues) ∈ LW := (List.mem_append_right _ (List.mem_append_left _ (List.mem_of_getElem? (i := 49) rfl)))
theorem q130 : (.methodLink RX1 144 yX1_shownNumber) ∈ LW := (List.mem_append_right _ (List.mem_append_left _ (List.mem_of_getElem? (i := 50) rfl)))
theorem q131 : (.instanceMethod yX1_shownNumber) ∈ LW := (List.mem_append_right _ (List.mem_append_left _ (List.mem_of_getElem? (i := 51) rfl)))
theorem q132 : (.selects RX1 yX1_shownNumber yX1_shownNumber) ∈ LW := (List.mem_append_right _ (List.mem_append_left _ (List.mem_of_getElem? (i := 52) rfl)))
theorem q133 : (.methodLink RX1 150 yX1_beadsThatCount) ∈ LW := (List.mem_append_right _ (List.mem_append_left _ (List.mem_of_getElem? (i := 53) rfl)))
theorem q134 : (.instanceMethod yX1_beadsThatCount) ∈ LW := (List.mem_append_right _ (List.mem_append_left _ (List.mem_of_getElem? (i := 54) rfl)))
theorem q135 : (.selects RX1 yX1_beadsThatCount yX1_beadsThatCount) ∈ LW := (List.mem_append_right _ (List.mem_append_left _ (List.mem_of_getElem? (i := 55) rfl)))
theorem q136 : (.code yX1_factOfFrame cX1_factOfFrame 2 (some .int)) ∈ LW := (List.mem_append_right _ (List.mem_append_left _ (List.mem_of_getElem? (i := 56) rfl)))
theorem q137 : (.code yX1_waysOfRod cX1_waysOfRod 5 (some .int)) ∈ LW := (List.mem_append_right _ (List.mem_append_left _ (List.mem_of_getElem? (i := 57) rfl)))
theorem q138 : (.code yX1_waysToShow cX1_waysToShow 13 (some .long)) ∈ LW := (List.mem_append_right _ (List.mem_append_left _ (List.mem_of_getElem? (i := 58) rfl)))
theorem q139 : (.methodLink RX1 164 yX1_waysOfRod) ∈ LW := (List.mem_append_right _ (List.mem_append_left _ (List.mem_of_getElem? (i := 59) rfl)))
theorem q140 : (.instanceMethod yX1_waysOfRod) ∈ LW := (List.mem_append_right _ (List.mem_append_left _ (List.mem_of_getElem? (i := 60) rfl)))
theorem q141 : (.selects RX1 yX1_waysOfRod yX1_waysOfRod) ∈ LW := (List.mem_append_right _ (List.mem_append_left _ (List.mem_of_getElem? (i := 61) rfl)))
theorem q142 : (.code yX1_fewestOfRod cX1_fewestOfRod 5 (some .int)) ∈ LW := (List.mem_append_right _ (List.mem_append_left _ (List.mem_of_getElem? (i := 62) rfl)))
theorem q143 : (.methodLink RX1 170 Lib.Math.min.name) ∈ LW := (List.mem_append_right _ (List.mem_append_left _ (List.mem_of_getElem? (i := 63) rfl)))
theorem q144 : (.static Lib.Math.min.name) ∈ LW := (List.mem_append_right _ (List.mem_append_left _ (List.mem_of_getElem? (i := 64) rfl)))
theorem q145 : (.code Lib.Math.min.name Lib.Math.min.code 2 (some .int)) ∈ LW := (List.mem_append_right _ (List.mem_append_left _ (List.mem_of_getElem? (i := 65) rfl)))
theorem q146 : (.methodLink RX1 167 yX1_fewestOfRod) ∈ LW := (List.mem_append_right _ (List.mem_append_left _ (List.mem_of_getElem? (i := 66) rfl)))
theorem q147 : (.instanceMethod yX1_fewestOfRod) ∈ LW := (List.mem_append_right _ (List.mem_append_left _ (List.mem_of_getElem? (i := 67) rfl)))
theorem q148 : (.selects RX1 yX1_fewestOfRod yX1_fewestOfRod) ∈ LW := (List.mem_append_right _ (List.mem_append_left _ (List.mem_of_getElem? (i := 68) rfl)))
theorem q149 : (.code yX1_fewestBeadsToShow cX1_fewestBeadsToShow 9 (some .int)) ∈ LW := (List.mem_append_right _ (List.mem_append_left _ (List.mem_of_getElem? (i := 69) rfl)))
theorem q150 : (.methodLink RX2 1 objectInit) ∈ LW := (List.mem_append_right _ (List.mem_append_left _ (List.mem_of_getElem? (i := 70) rfl)))
theorem q151 : (.classLink RX2 9 RX1) ∈ LW := (List.mem_append_right _ (List.mem_append_left _ (List.mem_of_getElem? (i := 71) rfl)))
theorem q152 : (.fieldLink RX2 11 "SorobanHall" "frames" "[LSorobanHall$Frame;") ∈ LW := (List.mem_append_right _ (List.mem_append_left _ (List.mem_of_getElem? (i := 72) rfl)))
theorem q153 : (.instantiable RX1 13) ∈ LW := (List.mem_append_right _ (List.mem_append_left _ (List.mem_of_getElem? (i := 73) rfl)))
theorem q154 : (.fieldLink RX2 18 "SorobanHall" "trial" "LSorobanHall$Frame;") ∈ LW := (List.mem_append_right _ (List.mem_append_left _ (List.mem_of_getElem? (i := 74) rfl)))
theorem q155 : (.methodLink RX2 15 yX1_init) ∈ LW := (List.mem_append_right _ (List.mem_append_left _ (List.mem_of_getElem? (i := 75) rfl)))
theorem q156 : (.instanceMethod yX1_init) ∈ LW := (List.mem_append_right _ (List.mem_append_left _ (List.mem_of_getElem? (i := 76) rfl)))
theorem q157 : (.code yX2_init cX2_init 1 none) ∈ LW := (List.mem_append_right _ (List.mem_append_left _ (List.mem_of_getElem? (i := 77) rfl)))
theorem q158 : (.classLink RX2 26 "java/lang/IllegalArgumentException") ∈ LW := (List.mem_append_right _ (List.mem_append_left _ (List.mem_of_getElem? (i := 78) rfl)))
theorem q159 : (.initialized "java/lang/IllegalArgumentException") ∈ LW := (List.mem_append_right _ (List.mem_append_left _ (List.mem_of_getElem? (i := 79) rfl)))
theorem q160 : (.classLink RX2 37 "java/lang/IllegalStateException") ∈ LW := (List.mem_append_right _ (List.mem_append_right _ (List.mem_append_left _ (List.mem_of_getElem? (i := 0) rfl))))
theorem q161 : (.initialized "java/lang/IllegalStateException") ∈ LW := (List.mem_append_right _ (List.mem_append_right _ (List.mem_append_left _ (List.mem_of_getElem? (i := 1) rfl))))
theorem q162 : (.fieldLink RX2 22 "SorobanHall" "BEADS_ABOVE" "[I") ∈ LW := (List.mem_append_right _ (List.mem_append_right _ (List.mem_append_left _ (List.mem_of_getElem? (i := 2) rfl))))
theorem q163 : (.fieldLink RX2 33 "SorobanHall" "frameCount" "I") ∈ LW := (List.mem_append_right _ (List.mem_append_right _ (List.mem_append_left _ (List.mem_of_getElem? (i := 3) rfl))))
theorem q164 : (.code yX2_frame cX2_frame 4 (some .int)) ∈ LW := (List.mem_append_right _ (List.mem_append_right _ (List.mem_append_left _ (List.mem_of_getElem? (i := 4) rfl))))
theorem q165 : (.code yX2_frameAt cX2_frameAt 2 (some (.object "SorobanHall$Frame"))) ∈ LW := (List.mem_append_right _ (List.mem_append_right _ (List.mem_append_left _ (List.mem_of_getElem? (i := 5) rfl))))
theorem q166 : (.code yX2_foundFrame cX2_foundFrame 3 (some (.object "SorobanHall$Frame"))) ∈ LW := (List.mem_append_right _ (List.mem_append_right _ (List.mem_append_left _ (List.mem_of_getElem? (i := 6) rfl))))
theorem q167 : (.classLink RX2 217 "java/lang/IndexOutOfBoundsException") ∈ LW := (List.mem_append_right _ (List.mem_append_right _ (List.mem_append_left _ (List.mem_of_getElem? (i := 7) rfl))))
theorem q168 : (.initialized "java/lang/IndexOutOfBoundsException") ∈ LW := (List.mem_append_right _ (List.mem_append_right _ (List.mem_append_left _ (List.mem_of_getElem? (i := 8) rfl))))
theorem q169 : (.methodLink RX2 214 yX2_frameAt) ∈ LW := (List.mem_append_right _ (List.mem_append_right _ (List.mem_append_left _ (List.mem_of_getElem? (i := 9) rfl))))
theorem q170 : (.instanceMethod yX2_frameAt) ∈ LW := (List.mem_append_right _ (List.mem_append_right _ (List.mem_append_left _ (List.mem_of_getElem? (i := 10) rfl))))
theorem q171 : (.selects RX2 yX2_frameAt yX2_frameAt) ∈ LW := (List.mem_append_right _ (List.mem_append_right _ (List.mem_append_left _ (List.mem_of_getElem? (i := 11) rfl))))
theorem q172 : (.initialized RX2) ∈ LW := (List.mem_append_right _ (List.mem_append_right _ (List.mem_append_left _ (List.mem_of_getElem? (i := 12) rfl))))
theorem q173 : (.code yX2_foundFrameWithRod cX2_foundFrameWithRod 4 (some (.object "SorobanHall$Frame"))) ∈ LW := (List.mem_append_right _ (List.mem_append_right _ (List.mem_append_left _ (List.mem_of_getElem? (i := 13) rfl))))
theorem q174 : (.methodLink RX2 90 yX2_foundFrame) ∈ LW := (List.mem_append_right _ (List.mem_append_right _ (List.mem_append_left _ (List.mem_of_getElem? (i := 14) rfl))))
theorem q175 : (.instanceMethod yX2_foundFrame) ∈ LW := (List.mem_append_right _ (List.mem_append_right _ (List.mem_append_left _ (List.mem_of_getElem? (i := 15) rfl))))
theorem q176 : (.selects RX2 yX2_foundFrame yX2_foundFrame) ∈ LW := (List.mem_append_right _ (List.mem_append_right _ (List.mem_append_left _ (List.mem_of_getElem? (i := 16) rfl))))
theorem q177 : (.methodLink RX2 222 yX1_hasRod) ∈ LW := (List.mem_append_right _ (List.mem_append_right _ (List.mem_append_left _ (List.mem_of_getElem? (i := 17) rfl))))
theorem q178 : (.instanceMethod yX1_hasRod) ∈ LW := (List.mem_append_right _ (List.mem_append_right _ (List.mem_append_left _ (List.mem_of_getElem? (i := 18) rfl))))
theorem q179 : (.selects RX1 yX1_hasRod yX1_hasRod) ∈ LW := (List.mem_append_right _ (List.mem_append_right _ (List.mem_append_left _ (List.mem_of_getElem? (i := 19) rfl))))
theorem q180 : (.fieldLink RX2 48 "SorobanHall$Frame" "above" "LSorobanHall$Deck;") ∈ LW := (List.mem_append_right _ (List.mem_append_right _ (List.mem_append_left _ (List.mem_of_getElem? (i := 20) rfl))))
theorem q181 : (.fieldLink RX2 52 "SorobanHall$Frame" "below" "LSorobanHall$Deck;") ∈ LW := (List.mem_append_right _ (List.mem_append_right _ (List.mem_append_left _ (List.mem_of_getElem? (i := 21) rfl))))
theorem q182 : (.methodLink RX2 42 yX2_foundFrameWithRod) ∈ LW := (List.mem_append_right _ (List.mem_append_right _ (List.mem_append_left _ (List.mem_of_getElem? (i := 22) rfl))))
theorem q183 : (.instanceMethod yX2_foundFrameWithRod) ∈ LW := (List.mem_append_right _ (List.mem_append_right _ (List.mem_append_left _ (List.mem_of_getElem? (i := 23) rfl))))
theorem q184 : (.selects RX2 yX2_foundFrameWithRod yX2_foundFrameWithRod) ∈ LW := (List.mem_append_right _ (List.mem_append_right _ (List.mem_append_left _ (List.mem_of_getElem? (i := 24) rfl))))
theorem q185 : (.methodLink RX2 55 yX0_canMove) ∈ LW := (List.mem_append_right _ (List.mem_append_right _ (List.mem_append_left _ (List.mem_of_getElem? (i := 25) rfl))))
theorem q186 : (.instanceMethod yX0_canMove) ∈ LW := (List.mem_append_right _ (List.mem_append_right _ (List.mem_append_left _ (List.mem_of_getElem? (i := 26) rfl))))
theorem q187 : (.selects RX0 yX0_canMove yX0_canMove) ∈ LW := (List.mem_append_right _ (List.mem_append_right _ (List.mem_append_left _ (List.mem_of_getElem? (i := 27) rfl))))
theorem q188 : (.methodLink RX2 63 yX1_keepBeads) ∈ LW := (List.mem_append_right _ (List.mem_append_right _ (List.mem_append_left _ (List.mem_of_getElem? (i := 28) rfl))))
theorem q189 : (.instanceMethod yX1_keepBeads) ∈ LW := (List.mem_append_right _ (List.mem_append_right _ (List.mem_append_left _ (List.mem_of_getElem? (i := 29) rfl))))
theorem q190 : (.selects RX1 yX1_keepBeads yX1_keepBeads) ∈ LW := (List.mem_append_right _ (List.mem_append_right _ (List.mem_append_left _ (List.mem_of_getElem? (i := 30) rfl))))
theorem q191 : (.methodLink RX2 66 yX1_moveHand) ∈ LW := (List.mem_append_right _ (List.mem_append_right _ (List.mem_append_left _ (List.mem_of_getElem? (i := 31) rfl))))
theorem q192 : (.methodLink RX2 70 yX1_pushDeck) ∈ LW := (List.mem_append_right _ (List.mem_append_right _ (List.mem_append_left _ (List.mem_of_getElem? (i := 32) rfl))))
theorem q193 : (.methodLink RX2 74 yX1_valueAt) ∈ LW := (List.mem_append_right _ (List.mem_append_right _ (List.mem_append_left _ (List.mem_of_getElem? (i := 33) rfl))))
theorem q194 : (.code yX2_push cX2_push 7 (some .int)) ∈ LW := (List.mem_append_right _ (List.mem_append_right _ (List.mem_append_left _ (List.mem_of_getElem? (i := 34) rfl))))
theorem q195 : (.fieldLink RX2 84 "SorobanHall$Frame" "pushes" "I") ∈ LW := (List.mem_append_right _ (List.mem_append_right _ (List.mem_append_left _ (List.mem_of_getElem? (i := 35) rfl))))
theorem q196 : (.methodLink RX2 78 yX1_mostOfRod) ∈ LW := (List.mem_append_right _ (List.mem_append_right _ (List.mem_append_left _ (List.mem_of_getElem? (i := 36) rfl))))
theorem q197 : (.instanceMethod yX1_mostOfRod) ∈ LW := (List.mem_append_right _ (List.mem_append_right _ (List.mem_append_left _ (List.mem_of_getElem? (i := 37) rfl))))
theorem q198 : (.selects RX1 yX1_mostOfRod yX1_mostOfRod) ∈ LW := (List.mem_append_right _ (List.mem_append_right _ (List.mem_append_left _ (List.mem_of_getElem? (i := 38) rfl))))
theorem q199 : (.methodLink RX2 87 yX1_setRod) ∈ LW := (List.mem_append_right _ (List.mem_append_right _ (List.mem_append_left _ (List.mem_of_getElem? (i := 39) rfl))))
theorem q200 : (.code yX2_set cX2_set 6 (some .int)) ∈ LW := (List.mem_append_right _ (List.mem_append_right _ (List.mem_append_left _ (List.mem_of_getElem? (i := 40) rfl))))
theorem q201 : (.code yX2_refuseUnlessFits cX2_refuseUnlessFits 2 none) ∈ LW := (List.mem_append_right _ (List.mem_append_right _ (List.mem_append_left _ (List.mem_of_getElem? (i := 41) rfl))))
theorem q202 : (.methodLink RX2 138 yX1_hasRodsFor) ∈ LW := (List.mem_append_right _ (List.mem_append_right _ (List.mem_append_left _ (List.mem_of_getElem? (i := 42) rfl))))
theorem q203 : (.instanceMethod yX1_hasRodsFor) ∈ LW := (List.mem_append_right _ (List.mem_append_right _ (List.mem_append_left _ (List.mem_of_getElem? (i := 43) rfl))))
theorem q204 : (.selects RX1 yX1_hasRodsFor yX1_hasRodsFor) ∈ LW := (List.mem_append_right _ (List.mem_append_right _ (List.mem_append_left _ (List.mem_of_getElem? (i := 44) rfl))))
theorem q205 : (.methodLink RX2 94 yX2_refuseUnlessFits) ∈ LW := (List.mem_append_right _ (List.mem_append_right _ (List.mem_append_left _ (List.mem_of_getElem? (i := 45) rfl))))
theorem q206 : (.static yX2_refuseUnlessFits) ∈ LW := (List.mem_append_right _ (List.mem_append_right _ (List.mem_append_left _ (List.mem_of_getElem? (i := 46) rfl))))
theorem q207 : (.methodLink RX2 98 yX1_bringNumber) ∈ LW := (List.mem_append_right _ (List.mem_append_right _ (List.mem_append_left _ (List.mem_of_getElem? (i := 47) rfl))))
theorem q208 : (.instanceMethod yX1_bringNumber) ∈ LW := (List.mem_append_right _ (List.mem_append_right _ (List.mem_append_left _ (List.mem_of_getElem? (i := 48) rfl))))
theorem q209 : (.selects RX1 yX1_bringNumber yX1_bringNumber) ∈ LW := (List.mem_append_right _ (List.mem_append_right _ (List.mem_append_left _ (List.mem_of_getElem? (i := 49) rfl))))
theorem q210 : (.code yX2_add cX2_add 5 (some .int)) ∈ LW := (List.mem_append_right _ (List.mem_append_right _ (List.mem_append_left _ (List.mem_of_getElem? (i := 50) rfl))))
theorem q211 : (.methodLink RX2 102 yX1_isTidy) ∈ LW := (List.mem_append_right _ (List.mem_append_right _ (List.mem_append_left _ (List.mem_of_getElem? (i := 51) rfl))))
theorem q212 : (.methodLink RX2 106 yX1_shownNumber) ∈ LW := (List.mem_append_right _ (List.mem_append_right _ (List.mem_append_left _ (List.mem_of_getElem? (i := 52) rfl))))
theorem q213 : (.methodLink RX2 110 yX1_takeNumber) ∈ LW := (List.mem_append_right _ (List.mem_append_right _ (List.mem_append_left _ (List.mem_of_getElem? (i := 53) rfl))))
theorem q214 : (.instanceMethod yX1_takeNumber) ∈ LW := (List.mem_append_right _ (List.mem_append_right _ (List.mem_append_left _ (List.mem_of_getElem? (i := 54) rfl))))
theorem q215 : (.selects RX1 yX1_takeNumber yX1_takeNumber) ∈ LW := (List.mem_append_right _ (List.mem_append_right _ (List.mem_append_left _ (List.mem_of_getElem? (i := 55) rfl))))
theorem q216 : (.code yX2_off cX2_off 5 (some .int)) ∈ LW := (List.mem_append_right _ (List.mem_append_right _ (List.mem_append_left _ (List.mem_of_getElem? (i := 56) rfl))))
theorem q217 : (.fieldLink RX2 115 "SorobanHall$Frame" "spilled" "I") ∈ LW := (List.mem_append_right _ (List.mem_append_right _ (List.mem_append_left _ (List.mem_of_getElem? (i := 57) rfl))))
theorem q218 : (.methodLink RX2 118 yX1_multiply) ∈ LW := (List.mem_append_right _ (List.mem_append_right _ (List.mem_append_left _ (List.mem_of_getElem? (i := 58) rfl))))
theorem q219 : (.instanceMethod yX1_multiply) ∈ LW := (List.mem_append_right _ (List.mem_append_right _ (List.mem_append_left _ (List.mem_of_getElem? (i := 59) rfl))))
theorem q220 : (.selects RX1 yX1_multiply yX1_multiply) ∈ LW := (List.mem_append_right _ (List.mem_append_right _ (List.mem_append_left _ (List.mem_of_getElem? (i := 60) rfl))))
theorem q221 : (.code yX2_times cX2_times 5 (some .int)) ∈ LW := (List.mem_append_right _ (List.mem_append_right _ (List.mem_append_left _ (List.mem_of_getElem? (i := 61) rfl))))
theorem q222 : (.methodLink RX2 123 yX1_splitBy) ∈ LW := (List.mem_append_right _ (List.mem_append_right _ (List.mem_append_left _ (List.mem_of_getElem? (i := 62) rfl))))
theorem q223 : (.instanceMethod yX1_splitBy) ∈ LW := (List.mem_append_right _ (List.mem_append_right _ (List.mem_append_left _ (List.mem_of_getElem? (i := 63) rfl))))
theorem q224 : (.selects RX1 yX1_splitBy yX1_splitBy) ∈ LW := (List.mem_append_right _ (List.mem_append_right _ (List.mem_append_left _ (List.mem_of_getElem? (i := 64) rfl))))
theorem q225 : (.code yX2_divide cX2_divide 4 (some .int)) ∈ LW := (List.mem_append_right _ (List.mem_append_right _ (List.mem_append_left _ (List.mem_of_getElem? (i := 65) rfl))))
theorem q226 : (.methodLink RX2 126 yX1_shiftLeft) ∈ LW := (List.mem_append_right _ (List.mem_append_right _ (List.mem_append_left _ (List.mem_of_getElem? (i := 66) rfl))))
theorem q227 : (.instanceMethod yX1_shiftLeft) ∈ LW := (List.mem_append_right _ (List.mem_append_right _ (List.mem_append_left _ (List.mem_of_getElem? (i := 67) rfl))))
theorem q228 : (.selects RX1 yX1_shiftLeft yX1_shiftLeft) ∈ LW := (List.mem_append_right _ (List.mem_append_right _ (List.mem_append_left _ (List.mem_of_getElem? (i := 68) rfl))))
theorem q229 : (.methodLink RX2 129 yX1_shiftRight) ∈ LW := (List.mem_append_right _ (List.mem_append_right _ (List.mem_append_left _ (List.mem_of_getElem? (i := 69) rfl))))
theorem q230 : (.instanceMethod yX1_shiftRight) ∈ LW := (List.mem_append_right _ (List.mem_append_right _ (List.mem_append_left _ (List.mem_of_getElem? (i := 70) rfl))))
theorem q231 : (.selects RX1 yX1_shiftRight yX1_shiftRight) ∈ LW := (List.mem_append_right _ (List.mem_append_right _ (List.mem_append_left _ (List.mem_of_getElem? (i := 71) rfl))))
theorem q232 : (.code yX2_shift cX2_shift 4 (some .int)) ∈ LW := (List.mem_append_right _ (List.mem_append_right _ (List.mem_append_left _ (List.mem_of_getElem? (i := 72) rfl))))
theorem q233 : (.fieldLink RX2 132 "SorobanHall$Frame" "carries" "I") ∈ LW := (List.mem_append_right _ (List.mem_append_right _ (List.mem_append_left _ (List.mem_of_getElem? (i := 73) rfl))))
theorem q234 : (.methodLink RX2 135 yX1_tidyRods) ∈ LW := (List.mem_append_right _ (List.mem_append_right _ (List.mem_append_left _ (List.mem_of_getElem? (i := 74) rfl))))
theorem q235 : (.instanceMethod yX1_tidyRods) ∈ LW := (List.mem_append_right _ (List.mem_append_right _ (List.mem_append_left _ (List.mem_of_getElem? (i := 75) rfl))))
theorem q236 : (.selects RX1 yX1_tidyRods yX1_tidyRods) ∈ LW := (List.mem_append_right _ (List.mem_append_right _ (List.mem_append_left _ (List.mem_of_getElem? (i := 76) rfl))))
theorem q237 : (.code yX2_tidy cX2_tidy 4 (some .int)) ∈ LW := (List.mem_append_right _ (List.mem_append_right _ (List.mem_append_left _ (List.mem_of_getElem? (i := 77) rfl))))
theorem q238 : (.methodLink RX2 142 yX1_setRods) ∈ LW := (List.mem_append_right _ (List.mem_append_right _ (List.mem_append_left _ (List.mem_of_getElem? (i := 78) rfl))))
theorem q239 : (.instanceMethod yX1_setRods) ∈ LW := (List.mem_append_right _ (List.mem_append_right _ (List.mem_append_left _ (List.mem_of_getElem? (i := 79) rfl))))
theorem q240 : (.selects RX1 yX1_setRods yX1_setRods) ∈ LW := (List.mem_append_right _ (List.mem_append_right _ (List.mem_append_right _ (List.mem_append_left _ (List.mem_of_getElem? (i := 0) rfl)))))
theorem q241 : (.code yX2_show cX2_show 7 (some .int)) ∈ LW := (List.mem_append_right _ (List.mem_append_right _ (List.mem_append_right _ (List.mem_append_left _ (List.mem_of_getElem? (i := 1) rfl)))))
theorem q242 : (.code yX2_clear cX2_clear 4 (some .int)) ∈ LW := (List.mem_append_right _ (List.mem_append_right _ (List.mem_append_right _ (List.mem_append_left _ (List.mem_of_getElem? (i := 2) rfl)))))
theorem q243 : (.fieldLink RX2 145 "SorobanHall$Frame" "keptCount" "I") ∈ LW := (List.mem_append_right _ (List.mem_append_right _ (List.mem_append_right _ (List.mem_append_left _ (List.mem_of_getElem? (i := 3) rfl)))))
theorem q244 : (.methodLink RX2 150 yX1_restoreBeads) ∈ LW := (List.mem_append_right _ (List.mem_append_right _ (List.mem_append_right _ (List.mem_append_left _ (List.mem_of_getElem? (i := 4) rfl)))))
theorem q245 : (.instanceMethod yX1_restoreBeads) ∈ LW := (List.mem_append_right _ (List.mem_append_right _ (List.mem_append_right _ (List.mem_append_left _ (List.mem_of_getElem? (i := 5) rfl)))))
theorem q246 : (.selects RX1 yX1_restoreBeads yX1_restoreBeads) ∈ LW := (List.mem_append_right _ (List.mem_append_right _ (List.mem_append_right _ (List.mem_append_left _ (List.mem_of_getElem? (i := 6) rfl)))))
theorem q247 : (.code yX2_back cX2_back 3 (some .int)) ∈ LW := (List.mem_append_right _ (List.mem_append_right _ (List.mem_append_right _ (List.mem_append_left _ (List.mem_of_getElem? (i := 7) rfl)))))
theorem q248 : (.methodLink RX2 153 yX1_greaseRod) ∈ LW := (List.mem_append_right _ (List.mem_append_right _ (List.mem_append_right _ (List.mem_append_left _ (List.mem_of_getElem? (i := 8) rfl)))))
theorem q249 : (.instanceMethod yX1_greaseRod) ∈ LW := (List.mem_append_right _ (List.mem_append_right _ (List.mem_append_right _ (List.mem_append_left _ (List.mem_of_getElem? (i := 9) rfl)))))
theorem q250 : (.selects RX1 yX1_greaseRod yX1_greaseRod) ∈ LW := (List.mem_append_right _ (List.mem_append_right _ (List.mem_append_right _ (List.mem_append_left _ (List.mem_of_getElem? (i := 10) rfl)))))
theorem q251 : (.code yX2_grease cX2_grease 4 (some .int)) ∈ LW := (List.mem_append_right _ (List.mem_append_right _ (List.mem_append_right _ (List.mem_append_left _ (List.mem_of_getElem? (i := 11) rfl)))))
theorem q252 : (.code yX2_number cX2_number 3 (some .long)) ∈ LW := (List.mem_append_right _ (List.mem_append_right _ (List.mem_append_right _ (List.mem_append_left _ (List.mem_of_getElem? (i := 12) rfl)))))
theorem q253 : (.code yX2_refuseUnlessBelow cX2_refuseUnlessBelow 2 none) ∈ LW := (List.mem_append_right _ (List.mem_append_right _ (List.mem_append_right _ (List.mem_append_left _ (List.mem_of_getElem? (i := 13) rfl)))))
theorem q254 : (.methodLink RX2 159 yX2_refuseUnlessBelow) ∈ LW := (List.mem_append_right _ (List.mem_append_right _ (List.mem_append_right _ (List.mem_append_left _ (List.mem_of_getElem? (i := 14) rfl)))))
theorem q255 : (.static yX2_refuseUnlessBelow) ∈ LW := (List.mem_append_right _ (List.mem_append_right _ (List.mem_append_right _ (List.mem_append_left _ (List.mem_of_getElem? (i := 15) rfl)))))
theorem q256 : (.methodLink RX2 166 yX1_factOfFrame) ∈ LW := (List.mem_append_right _ (List.mem_append_right _ (List.mem_append_right _ (List.mem_append_left _ (List.mem_of_getElem? (i := 16) rfl)))))
theorem q257 : (.instanceMethod yX1_factOfFrame) ∈ LW := (List.mem_append_right _ (List.mem_append_right _ (List.mem_append_right _ (List.mem_append_left _ (List.mem_of_getElem? (i := 17) rfl)))))
theorem q258 : (.selects RX1 yX1_factOfFrame yX1_factOfFrame) ∈ LW := (List.mem_append_right _ (List.mem_append_right _ (List.mem_append_right _ (List.mem_append_left _ (List.mem_of_getElem? (i := 18) rfl)))))
theorem q259 : (.code yX2_ofFrame cX2_ofFrame 4 (some .int)) ∈ LW := (List.mem_append_right _ (List.mem_append_right _ (List.mem_append_right _ (List.mem_append_left _ (List.mem_of_getElem? (i := 19) rfl)))))
theorem q260 : (.code yX2_seconds cX2_seconds 3 (some .double)) ∈ LW := (List.mem_append_right _ (List.mem_append_right _ (List.mem_append_right _ (List.mem_append_left _ (List.mem_of_getElem? (i := 20) rfl)))))
theorem q261 : (.fieldLink RX2 169 "SorobanHall$Frame" "seconds" "F") ∈ LW := (List.mem_append_right _ (List.mem_append_right _ (List.mem_append_right _ (List.mem_append_left _ (List.mem_of_getElem? (i := 21) rfl)))))
theorem q262 : (.code yX2_pushesOfAll cX2_pushesOfAll 4 (some .int)) ∈ LW := (List.mem_append_right _ (List.mem_append_right _ (List.mem_append_right _ (List.mem_append_left _ (List.mem_of_getElem? (i := 22) rfl)))))
theorem q263 : (.code yX2_spilledByAll cX2_spilledByAll 4 (some .int)) ∈ LW := (List.mem_append_right _ (List.mem_append_right _ (List.mem_append_right _ (List.mem_append_left _ (List.mem_of_getElem? (i := 23) rfl)))))
theorem q264 : (.code yX2_pairsThatShowTheSame cX2_pairsThatShowTheSame 6 (some .int)) ∈ LW := (List.mem_append_right _ (List.mem_append_right _ (List.mem_append_right _ (List.mem_append_left _ (List.mem_of_getElem? (i := 24) rfl)))))
theorem q265 : (.fieldLink RX2 156 "SorobanHall" "refused" "I") ∈ LW := (List.mem_append_right _ (List.mem_append_right _ (List.mem_append_right _ (List.mem_append_left _ (List.mem_of_getElem? (i := 25) rfl)))))
theorem q266 : (.methodLink RX2 232 yX2_pushesOfAll) ∈ LW := (List.mem_append_right _ (List.mem_append_right _ (List.mem_append_right _ (List.mem_append_left _ (List.mem_of_getElem? (i := 26) rfl)))))
theorem q267 : (.instanceMethod yX2_pushesOfAll) ∈ LW := (List.mem_append_right _ (List.mem_append_right _ (List.mem_append_right _ (List.mem_append_left _ (List.mem_of_getElem? (i := 27) rfl)))))
theorem q268 : (.selects RX2 yX2_pushesOfAll yX2_pushesOfAll) ∈ LW := (List.mem_append_right _ (List.mem_append_right _ (List.mem_append_right _ (List.mem_append_left _ (List.mem_of_getElem? (i := 28) rfl)))))
theorem q269 : (.methodLink RX2 235 yX2_spilledByAll) ∈ LW := (List.mem_append_right _ (List.mem_append_right _ (List.mem_append_right _ (List.mem_append_left _ (List.mem_of_getElem? (i := 29) rfl)))))
theorem q270 : (.instanceMethod yX2_spilledByAll) ∈ LW := (List.mem_append_right _ (List.mem_append_right _ (List.mem_append_right _ (List.mem_append_left _ (List.mem_of_getElem? (i := 30) rfl)))))
theorem q271 : (.selects RX2 yX2_spilledByAll yX2_spilledByAll) ∈ LW := (List.mem_append_right _ (List.mem_append_right _ (List.mem_append_right _ (List.mem_append_left _ (List.mem_of_getElem? (i := 31) rfl)))))
theorem q272 : (.methodLink RX2 238 yX2_pairsThatShowTheSame) ∈ LW := (List.mem_append_right _ (List.mem_append_right _ (List.mem_append_right _ (List.mem_append_left _ (List.mem_of_getElem? (i := 32) rfl)))))
theorem q273 : (.instanceMethod yX2_pairsThatShowTheSame) ∈ LW := (List.mem_append_right _ (List.mem_append_right _ (List.mem_append_right _ (List.mem_append_left _ (List.mem_of_getElem? (i := 33) rfl)))))
theorem q274 : (.selects RX2 yX2_pairsThatShowTheSame yX2_pairsThatShowTheSame) ∈ LW := (List.mem_append_right _ (List.mem_append_right _ (List.mem_append_right _ (List.mem_append_left _ (List.mem_of_getElem? (i := 34) rfl)))))
theorem q275 : (.code yX2_factOfHall cX2_factOfHall 2 (some .int)) ∈ LW := (List.mem_append_right _ (List.mem_append_right _ (List.mem_append_right _ (List.mem_append_left _ (List.mem_of_getElem? (i := 35) rfl)))))
theorem q276 : (.methodLink RX2 177 yX2_factOfHall) ∈ LW := (List.mem_append_right _ (List.mem_append_right _ (List.mem_append_right _ (List.mem_append_left _ (List.mem_of_getElem? (i := 36) rfl)))))
theorem q277 : (.instanceMethod yX2_factOfHall) ∈ LW := (List.mem_append_right _ (List.mem_append_right _ (List.mem_append_right _ (List.mem_append_left _ (List.mem_of_getElem? (i := 37) rfl)))))
theorem q278 : (.selects RX2 yX2_factOfHall yX2_factOfHall) ∈ LW := (List.mem_append_right _ (List.mem_append_right _ (List.mem_append_right _ (List.mem_append_left _ (List.mem_of_getElem? (i := 38) rfl)))))
theorem q279 : (.code yX2_many cX2_many 2 (some .int)) ∈ LW := (List.mem_append_right _ (List.mem_append_right _ (List.mem_append_right _ (List.mem_append_left _ (List.mem_of_getElem? (i := 39) rfl)))))
theorem q280 : (.fieldLink RX2 245 "SorobanHall$Frame" "beads" "I") ∈ LW := (List.mem_append_right _ (List.mem_append_right _ (List.mem_append_right _ (List.mem_append_left _ (List.mem_of_getElem? (i := 40) rfl)))))
theorem q281 : (.methodLink RX2 241 yX1_copyFrom) ∈ LW := (List.mem_append_right _ (List.mem_append_right _ (List.mem_append_right _ (List.mem_append_left _ (List.mem_of_getElem? (i := 41) rfl)))))
theorem q282 : (.instanceMethod yX1_copyFrom) ∈ LW := (List.mem_append_right _ (List.mem_append_right _ (List.mem_append_right _ (List.mem_append_left _ (List.mem_of_getElem? (i := 42) rfl)))))
theorem q283 : (.selects RX1 yX1_copyFrom yX1_copyFrom) ∈ LW := (List.mem_append_right _ (List.mem_append_right _ (List.mem_append_right _ (List.mem_append_left _ (List.mem_of_getElem? (i := 43) rfl)))))
theorem q284 : (.code yX2_countByAdding cX2_countByAdding 4 (some .int)) ∈ LW := (List.mem_append_right _ (List.mem_append_right _ (List.mem_append_right _ (List.mem_append_left _ (List.mem_of_getElem? (i := 44) rfl)))))
theorem q285 : (.methodLink RX2 186 yX2_countByAdding) ∈ LW := (List.mem_append_right _ (List.mem_append_right _ (List.mem_append_right _ (List.mem_append_left _ (List.mem_of_getElem? (i := 45) rfl)))))
theorem q286 : (.instanceMethod yX2_countByAdding) ∈ LW := (List.mem_append_right _ (List.mem_append_right _ (List.mem_append_right _ (List.mem_append_left _ (List.mem_of_getElem? (i := 46) rfl)))))
theorem q287 : (.selects RX2 yX2_countByAdding yX2_countByAdding) ∈ LW := (List.mem_append_right _ (List.mem_append_right _ (List.mem_append_right _ (List.mem_append_left _ (List.mem_of_getElem? (i := 47) rfl)))))
theorem q288 : (.code yX2_would cX2_would 5 (some .int)) ∈ LW := (List.mem_append_right _ (List.mem_append_right _ (List.mem_append_right _ (List.mem_append_left _ (List.mem_of_getElem? (i := 48) rfl)))))
theorem q289 : (.code yX2_secondsByAdding cX2_secondsByAdding 3 (some .double)) ∈ LW := (List.mem_append_right _ (List.mem_append_right _ (List.mem_append_right _ (List.mem_append_left _ (List.mem_of_getElem? (i := 49) rfl)))))
theorem q290 : (.methodLink RX2 190 yX2_secondsByAdding) ∈ LW := (List.mem_append_right _ (List.mem_append_right _ (List.mem_append_right _ (List.mem_append_left _ (List.mem_of_getElem? (i := 50) rfl)))))
theorem q291 : (.instanceMethod yX2_secondsByAdding) ∈ LW := (List.mem_append_right _ (List.mem_append_right _ (List.mem_append_right _ (List.mem_append_left _ (List.mem_of_getElem? (i := 51) rfl)))))
theorem q292 : (.selects RX2 yX2_secondsByAdding yX2_secondsByAdding) ∈ LW := (List.mem_append_right _ (List.mem_append_right _ (List.mem_append_right _ (List.mem_append_left _ (List.mem_of_getElem? (i := 52) rfl)))))
theorem q293 : (.code yX2_wouldTake cX2_wouldTake 4 (some .double)) ∈ LW := (List.mem_append_right _ (List.mem_append_right _ (List.mem_append_right _ (List.mem_append_left _ (List.mem_of_getElem? (i := 53) rfl)))))
theorem q294 : (.methodLink RX2 248 Lib.Math.min.name) ∈ LW := (List.mem_append_right _ (List.mem_append_right _ (List.mem_append_right _ (List.mem_append_left _ (List.mem_of_getElem? (i := 54) rfl)))))
theorem q295 : (.code yX2_quickerToAdd cX2_quickerToAdd 10 (some .int)) ∈ LW := (List.mem_append_right _ (List.mem_append_right _ (List.mem_append_right _ (List.mem_append_left _ (List.mem_of_getElem? (i := 55) rfl)))))
theorem q296 : (.methodLink RX2 196 yX2_quickerToAdd) ∈ LW := (List.mem_append_right _ (List.mem_append_right _ (List.mem_append_right _ (List.mem_append_left _ (List.mem_of_getElem? (i := 56) rfl)))))
theorem q297 : (.instanceMethod yX2_quickerToAdd) ∈ LW := (List.mem_append_right _ (List.mem_append_right _ (List.mem_append_right _ (List.mem_append_left _ (List.mem_of_getElem? (i := 57) rfl)))))
theorem q298 : (.selects RX2 yX2_quickerToAdd yX2_quickerToAdd) ∈ LW := (List.mem_append_right _ (List.mem_append_right _ (List.mem_append_right _ (List.mem_append_left _ (List.mem_of_getElem? (i := 58) rfl)))))
theorem q299 : (.code yX2_quicker cX2_quicker 6 (some .int)) ∈ LW := (List.mem_append_right _ (List.mem_append_right _ (List.mem_append_right _ (List.mem_append_left _ (List.mem_of_getElem? (i := 59) rfl)))))
theorem q300 : (.methodLink RX2 253 yX1_bring) ∈ LW := (List.mem_append_right _ (List.mem_append_right _ (List.mem_append_right _ (List.mem_append_left _ (List.mem_of_getElem? (i := 60) rfl)))))
theorem q301 : (.code yX2_hardestDigit cX2_hardestDigit 7 (some .int)) ∈ LW := (List.mem_append_right _ (List.mem_append_right _ (List.mem_append_right _ (List.mem_append_left _ (List.mem_of_getElem? (i := 61) rfl)))))
theorem q302 : (.methodLink RX2 200 yX2_hardestDigit) ∈ LW := (List.mem_append_right _ (List.mem_append_right _ (List.mem_append_right _ (List.mem_append_left _ (List.mem_of_getElem? (i := 62) rfl)))))
theorem q303 : (.instanceMethod yX2_hardestDigit) ∈ LW := (List.mem_append_right _ (List.mem_append_right _ (List.mem_append_right _ (List.mem_append_left _ (List.mem_of_getElem? (i := 63) rfl)))))
theorem q304 : (.selects RX2 yX2_hardestDigit yX2_hardestDigit) ∈ LW := (List.mem_append_right _ (List.mem_append_right _ (List.mem_append_right _ (List.mem_append_left _ (List.mem_of_getElem? (i := 64) rfl)))))
theorem q305 : (.code yX2_hardest cX2_hardest 4 (some .int)) ∈ LW := (List.mem_append_right _ (List.mem_append_right _ (List.mem_append_right _ (List.mem_append_left _ (List.mem_of_getElem? (i := 65) rfl)))))
theorem q306 : (.code yX2_mixed cX2_mixed 4 (some .long)) ∈ LW := (List.mem_append_right _ (List.mem_append_right _ (List.mem_append_right _ (List.mem_append_left _ (List.mem_of_getElem? (i := 66) rfl)))))
theorem q307 : (.constantLong RX2 256 (31)) ∈ LW := (List.mem_append_right _ (List.mem_append_right _ (List.mem_append_right _ (List.mem_append_left _ (List.mem_of_getElem? (i := 67) rfl)))))
theorem q308 : (.constantDouble RX2 258 (4625196817309499392)) ∈ LW := (List.mem_append_right _ (List.mem_append_right _ (List.mem_append_right _ (List.mem_append_left _ (List.mem_of_getElem? (i := 68) rfl)))))
theorem q309 : (.fieldLink RX2 260 "SorobanHall$Frame" "rods" "I") ∈ LW := (List.mem_append_right _ (List.mem_append_right _ (List.mem_append_right _ (List.mem_append_left _ (List.mem_of_getElem? (i := 69) rfl)))))
theorem q310 : (.methodLink RX2 206 yX2_mixed) ∈ LW := (List.mem_append_right _ (List.mem_append_right _ (List.mem_append_right _ (List.mem_append_left _ (List.mem_of_getElem? (i := 70) rfl)))))
theorem q311 : (.static yX2_mixed) ∈ LW := (List.mem_append_right _ (List.mem_append_right _ (List.mem_append_right _ (List.mem_append_left _ (List.mem_of_getElem? (i := 71) rfl)))))
theorem q312 : (.methodLink RX2 180 yX1_waysToShow) ∈ LW := (List.mem_append_right _ (List.mem_append_right _ (List.mem_append_right _ (List.mem_append_left _ (List.mem_of_getElem? (i := 72) rfl)))))
theorem q313 : (.instanceMethod yX1_waysToShow) ∈ LW := (List.mem_append_right _ (List.mem_append_right _ (List.mem_append_right _ (List.mem_append_left _ (List.mem_of_getElem? (i := 73) rfl)))))
theorem q314 : (.selects RX1 yX1_waysToShow yX1_waysToShow) ∈ LW := (List.mem_append_right _ (List.mem_append_right _ (List.mem_append_right _ (List.mem_append_left _ (List.mem_of_getElem? (i := 74) rfl)))))
theorem q315 : (.methodLink RX2 183 yX1_fewestBeadsToShow) ∈ LW := (List.mem_append_right _ (List.mem_append_right _ (List.mem_append_right _ (List.mem_append_left _ (List.mem_of_getElem? (i := 75) rfl)))))
theorem q316 : (.instanceMethod yX1_fewestBeadsToShow) ∈ LW := (List.mem_append_right _ (List.mem_append_right _ (List.mem_append_right _ (List.mem_append_left _ (List.mem_of_getElem? (i := 76) rfl)))))
theorem q317 : (.selects RX1 yX1_fewestBeadsToShow yX1_fewestBeadsToShow) ∈ LW := (List.mem_append_right _ (List.mem_append_right _ (List.mem_append_right _ (List.mem_append_left _ (List.mem_of_getElem? (i := 77) rfl)))))
theorem q318 : (.methodLink RX2 162 yX1_factOfRod) ∈ LW := (List.mem_append_right _ (List.mem_append_right _ (List.mem_append_right _ (List.mem_append_left _ (List.mem_of_getElem? (i := 78) rfl)))))
theorem q319 : (.instanceMethod yX1_factOfRod) ∈ LW := (List.mem_append_right _ (List.mem_append_right _ (List.mem_append_right _ (List.mem_append_left _ (List.mem_of_getElem? (i := 79) rfl)))))
theorem q320 : (.selects RX1 yX1_factOfRod yX1_factOfRod) ∈ LW := (List.mem_append_right _ (List.mem_append_right _ (List.mem_append_right _ (List.mem_append_right _ (List.mem_append_left _ (List.mem_of_getElem? (i := 0) rfl))))))
theorem q321 : (.code yX2_mixedWithFrame cX2_mixedWithFrame 8 (some .long)) ∈ LW := (List.mem_append_right _ (List.mem_append_right _ (List.mem_append_right _ (List.mem_append_right _ (List.mem_append_left _ (List.mem_of_getElem? (i := 1) rfl))))))
theorem q322 : (.constantLong RX2 204 (58320)) ∈ LW := (List.mem_append_right _ (List.mem_append_right _ (List.mem_append_right _ (List.mem_append_right _ (List.mem_append_left _ (List.mem_of_getElem? (i := 2) rfl))))))
theorem q323 : (.methodLink RX2 210 yX2_mixedWithFrame) ∈ LW := (List.mem_append_right _ (List.mem_append_right _ (List.mem_append_right _ (List.mem_append_right _ (List.mem_append_left _ (List.mem_of_getElem? (i := 3) rfl))))))
theorem q324 : (.instanceMethod yX2_mixedWithFrame) ∈ LW := (List.mem_append_right _ (List.mem_append_right _ (List.mem_append_right _ (List.mem_append_right _ (List.mem_append_left _ (List.mem_of_getElem? (i := 4) rfl))))))
theorem q325 : (.selects RX2 yX2_mixedWithFrame yX2_mixedWithFrame) ∈ LW := (List.mem_append_right _ (List.mem_append_right _ (List.mem_append_right _ (List.mem_append_right _ (List.mem_append_left _ (List.mem_of_getElem? (i := 5) rfl))))))
theorem q326 : (.code yX2_digest cX2_digest 5 (some .long)) ∈ LW := (List.mem_append_right _ (List.mem_append_right _ (List.mem_append_right _ (List.mem_append_right _ (List.mem_append_left _ (List.mem_of_getElem? (i := 6) rfl))))))
theorem q327 : (.code yX3_init cX3_init 4 none) ∈ LW := (List.mem_append_right _ (List.mem_append_right _ (List.mem_append_right _ (List.mem_append_right _ (List.mem_append_left _ (List.mem_of_getElem? (i := 7) rfl))))))
theorem q328 : (.methodLink RX3 1 objectInit) ∈ LW := (List.mem_append_right _ (List.mem_append_right _ (List.mem_append_right _ (List.mem_append_right _ (List.mem_append_left _ (List.mem_of_getElem? (i := 8) rfl))))))
theorem q329 : (.classLink RX3 7 "[I") ∈ LW := (List.mem_append_right _ (List.mem_append_right _ (List.mem_append_right _ (List.mem_append_right _ (List.mem_append_left _ (List.mem_of_getElem? (i := 9) rfl))))))
theorem q330 : (.fieldLink RX3 9 "SorobanHallLaw$Told" "kept" "[[I") ∈ LW := (List.mem_append_right _ (List.mem_append_right _ (List.mem_append_right _ (List.mem_append_right _ (List.mem_append_left _ (List.mem_of_getElem? (i := 10) rfl))))))
theorem q331 : (.fieldLink RX3 15 "SorobanHallLaw$Told" "sums" "[I") ∈ LW := (List.mem_append_right _ (List.mem_append_right _ (List.mem_append_right _ (List.mem_append_right _ (List.mem_append_left _ (List.mem_of_getElem? (i := 11) rfl))))))
theorem q332 : (.fieldLink RX3 18 "SorobanHallLaw$Told" "m" "LSorobanHall;") ∈ LW := (List.mem_append_right _ (List.mem_append_right _ (List.mem_append_right _ (List.mem_append_right _ (List.mem_append_left _ (List.mem_of_getElem? (i := 12) rfl))))))
theorem q333 : (.fieldLink RX3 22 "SorobanHallLaw$Told" "s" "[I") ∈ LW := (List.mem_append_right _ (List.mem_append_right _ (List.mem_append_right _ (List.mem_append_right _ (List.mem_append_left _ (List.mem_of_getElem? (i := 13) rfl))))))
theorem q334 : (.fieldLink RX3 25 "SorobanHallLaw$Told" "draws" "I") ∈ LW := (List.mem_append_right _ (List.mem_append_right _ (List.mem_append_right _ (List.mem_append_right _ (List.mem_append_left _ (List.mem_of_getElem? (i := 14) rfl))))))
theorem q335 : (.code yL_cell cL_cell 2 (some .int)) ∈ LW := (List.mem_append_right _ (List.mem_append_right _ (List.mem_append_right _ (List.mem_append_right _ (List.mem_append_left _ (List.mem_of_getElem? (i := 15) rfl))))))
theorem q336 : (.constant RL 8 (790386105)) ∈ LW := (List.mem_append_right _ (List.mem_append_right _ (List.mem_append_right _ (List.mem_append_right _ (List.mem_append_left _ (List.mem_of_getElem? (i := 16) rfl))))))
theorem q337 : (.code yL_below cL_below 2 (some .int)) ∈ LW := (List.mem_append_right _ (List.mem_append_right _ (List.mem_append_right _ (List.mem_append_right _ (List.mem_append_left _ (List.mem_of_getElem? (i := 17) rfl))))))
theorem q338 : (.constant RL 7 (2147483647)) ∈ LW := (List.mem_append_right _ (List.mem_append_right _ (List.mem_append_right _ (List.mem_append_right _ (List.mem_append_left _ (List.mem_of_getElem? (i := 18) rfl))))))
theorem q339 : (.code yX3_draw cX3_draw 3 (some .int)) ∈ LW := (List.mem_append_right _ (List.mem_append_right _ (List.mem_append_right _ (List.mem_append_right _ (List.mem_append_left _ (List.mem_of_getElem? (i := 19) rfl))))))
theorem q340 : (.static yL_cell) ∈ LW := (List.mem_append_right _ (List.mem_append_right _ (List.mem_append_right _ (List.mem_append_right _ (List.mem_append_left _ (List.mem_of_getElem? (i := 20) rfl))))))
theorem q341 : (.initialized RL) ∈ LW := (List.mem_append_right _ (List.mem_append_right _ (List.mem_append_right _ (List.mem_append_right _ (List.mem_append_left _ (List.mem_of_getElem? (i := 21) rfl))))))
theorem q342 : (.static yL_below) ∈ LW := (List.mem_append_right _ (List.mem_append_right _ (List.mem_append_right _ (List.mem_append_right _ (List.mem_append_left _ (List.mem_of_getElem? (i := 22) rfl))))))
theorem q343 : (.fieldLink RX3 39 "SorobanHallLaw$Told" "number" "I") ∈ LW := (List.mem_append_right _ (List.mem_append_right _ (List.mem_append_right _ (List.mem_append_right _ (List.mem_append_left _ (List.mem_of_getElem? (i := 23) rfl))))))
theorem q344 : (.fieldLink RX3 46 "SorobanHallLaw$Told" "kind" "I") ∈ LW := (List.mem_append_right _ (List.mem_append_right _ (List.mem_append_right _ (List.mem_append_right _ (List.mem_append_left _ (List.mem_of_getElem? (i := 24) rfl))))))
theorem q345 : (.fieldLink RX3 49 "SorobanHallLaw$Told" "up" "[I") ∈ LW := (List.mem_append_right _ (List.mem_append_right _ (List.mem_append_right _ (List.mem_append_right _ (List.mem_append_left _ (List.mem_of_getElem? (i := 25) rfl))))))
theorem q346 : (.fieldLink RX3 52 "SorobanHallLaw$Told" "down" "[I") ∈ LW := (List.mem_append_right _ (List.mem_append_right _ (List.mem_append_right _ (List.mem_append_right _ (List.mem_append_left _ (List.mem_of_getElem? (i := 26) rfl))))))
theorem q347 : (.classLink RX3 55 "[[I") ∈ LW := (List.mem_append_right _ (List.mem_append_right _ (List.mem_append_right _ (List.mem_append_right _ (List.mem_append_left _ (List.mem_of_getElem? (i := 27) rfl))))))
theorem q348 : (.fieldLink RX3 56 "SorobanHallLaw$Told" "wear" "[[I") ∈ LW := (List.mem_append_right _ (List.mem_append_right _ (List.mem_append_right _ (List.mem_append_right _ (List.mem_append_left _ (List.mem_of_getElem? (i := 28) rfl))))))
theorem q349 : (.methodLink RX3 42 yX3_draw) ∈ LW := (List.mem_append_right _ (List.mem_append_right _ (List.mem_append_right _ (List.mem_append_right _ (List.mem_append_left _ (List.mem_of_getElem? (i := 29) rfl))))))
theorem q350 : (.instanceMethod yX3_draw) ∈ LW := (List.mem_append_right _ (List.mem_append_right _ (List.mem_append_right _ (List.mem_append_right _ (List.mem_append_left _ (List.mem_of_getElem? (i := 30) rfl))))))
theorem q351 : (.selects RX3 yX3_draw yX3_draw) ∈ LW := (List.mem_append_right _ (List.mem_append_right _ (List.mem_append_right _ (List.mem_append_right _ (List.mem_append_left _ (List.mem_of_getElem? (i := 31) rfl))))))
theorem q352 : (.initialized RX3) ∈ LW := (List.mem_append_right _ (List.mem_append_right _ (List.mem_append_right _ (List.mem_append_right _ (List.mem_append_left _ (List.mem_of_getElem? (i := 32) rfl))))))
theorem q353 : (.methodLink RX3 59 yX2_frame) ∈ LW := (List.mem_append_right _ (List.mem_append_right _ (List.mem_append_right _ (List.mem_append_right _ (List.mem_append_left _ (List.mem_of_getElem? (i := 33) rfl))))))
theorem q354 : (.instanceMethod yX2_frame) ∈ LW := (List.mem_append_right _ (List.mem_append_right _ (List.mem_append_right _ (List.mem_append_right _ (List.mem_append_left _ (List.mem_of_getElem? (i := 34) rfl))))))
theorem q355 : (.selects RX2 yX2_frame yX2_frame) ∈ LW := (List.mem_append_right _ (List.mem_append_right _ (List.mem_append_right _ (List.mem_append_right _ (List.mem_append_left _ (List.mem_of_getElem? (i := 35) rfl))))))
theorem q356 : (.code yX3_frame cX3_frame 3 (some .boolean)) ∈ LW := (List.mem_append_right _ (List.mem_append_right _ (List.mem_append_right _ (List.mem_append_right _ (List.mem_append_left _ (List.mem_of_getElem? (i := 36) rfl))))))
theorem q357 : (.code yX3_ups cX3_ups 1 (some .int)) ∈ LW := (List.mem_append_right _ (List.mem_append_right _ (List.mem_append_right _ (List.mem_append_right _ (List.mem_append_left _ (List.mem_of_getElem? (i := 37) rfl))))))
theorem q358 : (.code yX3_downs cX3_downs 1 (some .int)) ∈ LW := (List.mem_append_right _ (List.mem_append_right _ (List.mem_append_right _ (List.mem_append_right _ (List.mem_append_left _ (List.mem_of_getElem? (i := 38) rfl))))))
theorem q359 : (.code yX3_most cX3_most 1 (some .int)) ∈ LW := (List.mem_append_right _ (List.mem_append_right _ (List.mem_append_right _ (List.mem_append_right _ (List.mem_append_left _ (List.mem_of_getElem? (i := 39) rfl))))))
theorem q360 : (.methodLink RX3 64 yX3_ups) ∈ LW := (List.mem_append_right _ (List.mem_append_right _ (List.mem_append_right _ (List.mem_append_right _ (List.mem_append_left _ (List.mem_of_getElem? (i := 40) rfl))))))
theorem q361 : (.instanceMethod yX3_ups) ∈ LW := (List.mem_append_right _ (List.mem_append_right _ (List.mem_append_right _ (List.mem_append_right _ (List.mem_append_left _ (List.mem_of_getElem? (i := 41) rfl))))))
theorem q362 : (.selects RX3 yX3_ups yX3_ups) ∈ LW := (List.mem_append_right _ (List.mem_append_right _ (List.mem_append_right _ (List.mem_append_right _ (List.mem_append_left _ (List.mem_of_getElem? (i := 42) rfl))))))
theorem q363 : (.methodLink RX3 68 yX3_downs) ∈ LW := (List.mem_append_right _ (List.mem_append_right _ (List.mem_append_right _ (List.mem_append_right _ (List.mem_append_left _ (List.mem_of_getElem? (i := 43) rfl))))))
theorem q364 : (.instanceMethod yX3_downs) ∈ LW := (List.mem_append_right _ (List.mem_append_right _ (List.mem_append_right _ (List.mem_append_right _ (List.mem_append_left _ (List.mem_of_getElem? (i := 44) rfl))))))
theorem q365 : (.selects RX3 yX3_downs yX3_downs) ∈ LW := (List.mem_append_right _ (List.mem_append_right _ (List.mem_append_right _ (List.mem_append_right _ (List.mem_append_left _ (List.mem_of_getElem? (i := 45) rfl))))))
theorem q366 : (.code yX3_value cX3_value 2 (some .int)) ∈ LW := (List.mem_append_right _ (List.mem_append_right _ (List.mem_append_right _ (List.mem_append_right _ (List.mem_append_left _ (List.mem_of_getElem? (i := 46) rfl))))))
theorem q367 : (.code yX3_total cX3_total 6 (some .long)) ∈ LW := (List.mem_append_right _ (List.mem_append_right _ (List.mem_append_right _ (List.mem_append_right _ (List.mem_append_left _ (List.mem_of_getElem? (i := 47) rfl))))))
theorem q368 : (.constantLong RX3 74 (10)) ∈ LW := (List.mem_append_right _ (List.mem_append_right _ (List.mem_append_right _ (List.mem_append_right _ (List.mem_append_left _ (List.mem_of_getElem? (i := 48) rfl))))))
theorem q369 : (.methodLink RX3 71 yX3_value) ∈ LW := (List.mem_append_right _ (List.mem_append_right _ (List.mem_append_right _ (List.mem_append_right _ (List.mem_append_left _ (List.mem_of_getElem? (i := 49) rfl))))))
theorem q370 : (.instanceMethod yX3_value) ∈ LW := (List.mem_append_right _ (List.mem_append_right _ (List.mem_append_right _ (List.mem_append_right _ (List.mem_append_left _ (List.mem_of_getElem? (i := 50) rfl))))))
theorem q371 : (.selects RX3 yX3_value yX3_value) ∈ LW := (List.mem_append_right _ (List.mem_append_right _ (List.mem_append_right _ (List.mem_append_right _ (List.mem_append_left _ (List.mem_of_getElem? (i := 51) rfl))))))
theorem q372 : (.code yX3_isTidy cX3_isTidy 3 (some .boolean)) ∈ LW := (List.mem_append_right _ (List.mem_append_right _ (List.mem_append_right _ (List.mem_append_right _ (List.mem_append_left _ (List.mem_of_getElem? (i := 52) rfl))))))
theorem q373 : (.code yX3_keep cX3_keep 4 none) ∈ LW := (List.mem_append_right _ (List.mem_append_right _ (List.mem_append_right _ (List.mem_append_right _ (List.mem_append_left _ (List.mem_of_getElem? (i := 53) rfl))))))
theorem q374 : (.methodLink RX3 76 arraycopyName) ∈ LW := (List.mem_append_right _ (List.mem_append_right _ (List.mem_append_right _ (List.mem_append_right _ (List.mem_append_left _ (List.mem_of_getElem? (i := 54) rfl))))))
theorem q375 : (.native arraycopyName) ∈ LW := (List.mem_append_right _ (List.mem_append_right _ (List.mem_append_right _ (List.mem_append_right _ (List.mem_append_left _ (List.mem_of_getElem? (i := 55) rfl))))))
theorem q376 : (.static arraycopyName) ∈ LW := (List.mem_append_right _ (List.mem_append_right _ (List.mem_append_right _ (List.mem_append_right _ (List.mem_append_left _ (List.mem_of_getElem? (i := 56) rfl))))))
theorem q377 : (.initialized "java/lang/System") ∈ LW := (List.mem_append_right _ (List.mem_append_right _ (List.mem_append_right _ (List.mem_append_right _ (List.mem_append_left _ (List.mem_of_getElem? (i := 57) rfl))))))
theorem q378 : (.code yX3_move cX3_move 5 none) ∈ LW := (List.mem_append_right _ (List.mem_append_right _ (List.mem_append_right _ (List.mem_append_right _ (List.mem_append_left _ (List.mem_of_getElem? (i := 58) rfl))))))
theorem q379 : (.methodLink RX3 82 Lib.Math.abs.name) ∈ LW := (List.mem_append_right _ (List.mem_append_right _ (List.mem_append_right _ (List.mem_append_right _ (List.mem_append_left _ (List.mem_of_getElem? (i := 59) rfl))))))
theorem q380 : (.fieldLink RX3 87 "SorobanHallLaw$Told" "time" "J") ∈ LW := (List.mem_append_right _ (List.mem_append_right _ (List.mem_append_right _ (List.mem_append_right _ (List.mem_append_left _ (List.mem_of_getElem? (i := 60) rfl))))))
theorem q381 : (.fieldLink RX3 91 "SorobanHallLaw$Told" "hand" "I") ∈ LW := (List.mem_append_right _ (List.mem_append_right _ (List.mem_append_right _ (List.mem_append_right _ (List.mem_append_left _ (List.mem_of_getElem? (i := 61) rfl))))))
theorem q382 : (.code yX3_pushes cX3_pushes 4 (some .int)) ∈ LW := (List.mem_append_right _ (List.mem_append_right _ (List.mem_append_right _ (List.mem_append_right _ (List.mem_append_left _ (List.mem_of_getElem? (i := 62) rfl))))))
theorem q383 : (.code yX3_beads cX3_beads 4 (some .int)) ∈ LW := (List.mem_append_right _ (List.mem_append_right _ (List.mem_append_right _ (List.mem_append_right _ (List.mem_append_left _ (List.mem_of_getElem? (i := 63) rfl))))))
theorem q384 : (.methodLink RX3 94 yX3_pushes) ∈ LW := (List.mem_append_right _ (List.mem_append_right _ (List.mem_append_right _ (List.mem_append_right _ (List.mem_append_left _ (List.mem_of_getElem? (i := 64) rfl))))))
theorem q385 : (.instanceMethod yX3_pushes) ∈ LW := (List.mem_append_right _ (List.mem_append_right _ (List.mem_append_right _ (List.mem_append_right _ (List.mem_append_left _ (List.mem_of_getElem? (i := 65) rfl))))))
theorem q386 : (.selects RX3 yX3_pushes yX3_pushes) ∈ LW := (List.mem_append_right _ (List.mem_append_right _ (List.mem_append_right _ (List.mem_append_right _ (List.mem_append_left _ (List.mem_of_getElem? (i := 66) rfl))))))
theorem q387 : (.methodLink RX3 98 yX3_beads) ∈ LW := (List.mem_append_right _ (List.mem_append_right _ (List.mem_append_right _ (List.mem_append_right _ (List.mem_append_left _ (List.mem_of_getElem? (i := 67) rfl))))))
theorem q388 : (.instanceMethod yX3_beads) ∈ LW := (List.mem_append_right _ (List.mem_append_right _ (List.mem_append_right _ (List.mem_append_right _ (List.mem_append_left _ (List.mem_of_getElem? (i := 68) rfl))))))
theorem q389 : (.selects RX3 yX3_beads yX3_beads) ∈ LW := (List.mem_append_right _ (List.mem_append_right _ (List.mem_append_right _ (List.mem_append_right _ (List.mem_append_left _ (List.mem_of_getElem? (i := 69) rfl))))))
theorem q390 : (.methodLink RX3 101 yX3_move) ∈ LW := (List.mem_append_right _ (List.mem_append_right _ (List.mem_append_right _ (List.mem_append_right _ (List.mem_append_left _ (List.mem_of_getElem? (i := 70) rfl))))))
theorem q391 : (.instanceMethod yX3_move) ∈ LW := (List.mem_append_right _ (List.mem_append_right _ (List.mem_append_right _ (List.mem_append_right _ (List.mem_append_left _ (List.mem_of_getElem? (i := 71) rfl))))))
theorem q392 : (.selects RX3 yX3_move yX3_move) ∈ LW := (List.mem_append_right _ (List.mem_append_right _ (List.mem_append_right _ (List.mem_append_right _ (List.mem_append_left _ (List.mem_of_getElem? (i := 72) rfl))))))
theorem q393 : (.code yX3_set cX3_set 6 none) ∈ LW := (List.mem_append_right _ (List.mem_append_right _ (List.mem_append_right _ (List.mem_append_right _ (List.mem_append_left _ (List.mem_of_getElem? (i := 73) rfl))))))
theorem q394 : (.methodLink RX3 105 yX3_set) ∈ LW := (List.mem_append_right _ (List.mem_append_right _ (List.mem_append_right _ (List.mem_append_right _ (List.mem_append_left _ (List.mem_of_getElem? (i := 74) rfl))))))
theorem q395 : (.instanceMethod yX3_set) ∈ LW := (List.mem_append_right _ (List.mem_append_right _ (List.mem_append_right _ (List.mem_append_right _ (List.mem_append_left _ (List.mem_of_getElem? (i := 75) rfl))))))
theorem q396 : (.selects RX3 yX3_set yX3_set) ∈ LW := (List.mem_append_right _ (List.mem_append_right _ (List.mem_append_right _ (List.mem_append_right _ (List.mem_append_left _ (List.mem_of_getElem? (i := 76) rfl))))))
theorem q397 : (.code yX3_bring cX3_bring 6 none) ∈ LW := (List.mem_append_right _ (List.mem_append_right _ (List.mem_append_right _ (List.mem_append_right _ (List.mem_append_left _ (List.mem_of_getElem? (i := 77) rfl))))))
theorem q398 : (.code yX3_digits cX3_digits 7 (some (.array .int))) ∈ LW := (List.mem_append_right _ (List.mem_append_right _ (List.mem_append_right _ (List.mem_append_right _ (List.mem_append_left _ (List.mem_of_getElem? (i := 78) rfl))))))
theorem q399 : (.methodLink RX3 109 yX3_digits) ∈ LW := (List.mem_append_right _ (List.mem_append_right _ (List.mem_append_right _ (List.mem_append_right _ (List.mem_append_left _ (List.mem_of_getElem? (i := 79) rfl))))))
theorem q400 : (.static yX3_digits) ∈ LW := (List.mem_append_right _ (List.mem_append_right _ (List.mem_append_right _ (List.mem_append_right _ (List.mem_append_right _ (List.mem_append_left _ (List.mem_of_getElem? (i := 0) rfl)))))))
theorem q401 : (.methodLink RX3 113 yX3_bring) ∈ LW := (List.mem_append_right _ (List.mem_append_right _ (List.mem_append_right _ (List.mem_append_right _ (List.mem_append_right _ (List.mem_append_left _ (List.mem_of_getElem? (i := 1) rfl)))))))
theorem q402 : (.instanceMethod yX3_bring) ∈ LW := (List.mem_append_right _ (List.mem_append_right _ (List.mem_append_right _ (List.mem_append_right _ (List.mem_append_right _ (List.mem_append_left _ (List.mem_of_getElem? (i := 2) rfl)))))))
theorem q403 : (.selects RX3 yX3_bring yX3_bring) ∈ LW := (List.mem_append_right _ (List.mem_append_right _ (List.mem_append_right _ (List.mem_append_right _ (List.mem_append_right _ (List.mem_append_left _ (List.mem_of_getElem? (i := 3) rfl)))))))
theorem q404 : (.code yX3_adds cX3_adds 4 none) ∈ LW := (List.mem_append_right _ (List.mem_append_right _ (List.mem_append_right _ (List.mem_append_right _ (List.mem_append_right _ (List.mem_append_left _ (List.mem_of_getElem? (i := 4) rfl)))))))
theorem q405 : (.code yX3_some cX3_some 4 (some .int)) ∈ LW := (List.mem_append_right _ (List.mem_append_right _ (List.mem_append_right _ (List.mem_append_right _ (List.mem_append_right _ (List.mem_append_left _ (List.mem_of_getElem? (i := 5) rfl)))))))
theorem q406 : (.methodLink RX3 116 yX3_some) ∈ LW := (List.mem_append_right _ (List.mem_append_right _ (List.mem_append_right _ (List.mem_append_right _ (List.mem_append_right _ (List.mem_append_left _ (List.mem_of_getElem? (i := 6) rfl)))))))
theorem q407 : (.instanceMethod yX3_some) ∈ LW := (List.mem_append_right _ (List.mem_append_right _ (List.mem_append_right _ (List.mem_append_right _ (List.mem_append_right _ (List.mem_append_left _ (List.mem_of_getElem? (i := 7) rfl)))))))
theorem q408 : (.selects RX3 yX3_some yX3_some) ∈ LW := (List.mem_append_right _ (List.mem_append_right _ (List.mem_append_right _ (List.mem_append_right _ (List.mem_append_right _ (List.mem_append_left _ (List.mem_of_getElem? (i := 8) rfl)))))))
theorem q409 : (.methodLink RX3 119 yX3_keep) ∈ LW := (List.mem_append_right _ (List.mem_append_right _ (List.mem_append_right _ (List.mem_append_right _ (List.mem_append_right _ (List.mem_append_left _ (List.mem_of_getElem? (i := 9) rfl)))))))
theorem q410 : (.instanceMethod yX3_keep) ∈ LW := (List.mem_append_right _ (List.mem_append_right _ (List.mem_append_right _ (List.mem_append_right _ (List.mem_append_right _ (List.mem_append_left _ (List.mem_of_getElem? (i := 10) rfl)))))))
theorem q411 : (.selects RX3 yX3_keep yX3_keep) ∈ LW := (List.mem_append_right _ (List.mem_append_right _ (List.mem_append_right _ (List.mem_append_right _ (List.mem_append_right _ (List.mem_append_left _ (List.mem_of_getElem? (i := 11) rfl)))))))
theorem q412 : (.methodLink RX3 122 yX3_adds) ∈ LW := (List.mem_append_right _ (List.mem_append_right _ (List.mem_append_right _ (List.mem_append_right _ (List.mem_append_right _ (List.mem_append_left _ (List.mem_of_getElem? (i := 12) rfl)))))))
theorem q413 : (.instanceMethod yX3_adds) ∈ LW := (List.mem_append_right _ (List.mem_append_right _ (List.mem_append_right _ (List.mem_append_right _ (List.mem_append_right _ (List.mem_append_left _ (List.mem_of_getElem? (i := 13) rfl)))))))
theorem q414 : (.selects RX3 yX3_adds yX3_adds) ∈ LW := (List.mem_append_right _ (List.mem_append_right _ (List.mem_append_right _ (List.mem_append_right _ (List.mem_append_right _ (List.mem_append_left _ (List.mem_of_getElem? (i := 14) rfl)))))))
theorem q415 : (.methodLink RX3 126 yX2_add) ∈ LW := (List.mem_append_right _ (List.mem_append_right _ (List.mem_append_right _ (List.mem_append_right _ (List.mem_append_right _ (List.mem_append_left _ (List.mem_of_getElem? (i := 15) rfl)))))))
theorem q416 : (.instanceMethod yX2_add) ∈ LW := (List.mem_append_right _ (List.mem_append_right _ (List.mem_append_right _ (List.mem_append_right _ (List.mem_append_right _ (List.mem_append_left _ (List.mem_of_getElem? (i := 16) rfl)))))))
theorem q417 : (.selects RX2 yX2_add yX2_add) ∈ LW := (List.mem_append_right _ (List.mem_append_right _ (List.mem_append_right _ (List.mem_append_right _ (List.mem_append_right _ (List.mem_append_left _ (List.mem_of_getElem? (i := 17) rfl)))))))
theorem q418 : (.code yX3_add cX3_add 3 (some .boolean)) ∈ LW := (List.mem_append_right _ (List.mem_append_right _ (List.mem_append_right _ (List.mem_append_right _ (List.mem_append_right _ (List.mem_append_left _ (List.mem_of_getElem? (i := 18) rfl)))))))
theorem q419 : (.constant RX3 133 (99999999)) ∈ LW := (List.mem_append_right _ (List.mem_append_right _ (List.mem_append_right _ (List.mem_append_right _ (List.mem_append_right _ (List.mem_append_left _ (List.mem_of_getElem? (i := 19) rfl)))))))
theorem q420 : (.methodLink RX3 129 yX3_total) ∈ LW := (List.mem_append_right _ (List.mem_append_right _ (List.mem_append_right _ (List.mem_append_right _ (List.mem_append_right _ (List.mem_append_left _ (List.mem_of_getElem? (i := 20) rfl)))))))
theorem q421 : (.instanceMethod yX3_total) ∈ LW := (List.mem_append_right _ (List.mem_append_right _ (List.mem_append_right _ (List.mem_append_right _ (List.mem_append_right _ (List.mem_append_left _ (List.mem_of_getElem? (i := 21) rfl)))))))
theorem q422 : (.selects RX3 yX3_total yX3_total) ∈ LW := (List.mem_append_right _ (List.mem_append_right _ (List.mem_append_right _ (List.mem_append_right _ (List.mem_append_right _ (List.mem_append_left _ (List.mem_of_getElem? (i := 22) rfl)))))))
theorem q423 : (.methodLink RX3 134 yX3_isTidy) ∈ LW := (List.mem_append_right _ (List.mem_append_right _ (List.mem_append_right _ (List.mem_append_right _ (List.mem_append_right _ (List.mem_append_left _ (List.mem_of_getElem? (i := 23) rfl)))))))
theorem q424 : (.instanceMethod yX3_isTidy) ∈ LW := (List.mem_append_right _ (List.mem_append_right _ (List.mem_append_right _ (List.mem_append_right _ (List.mem_append_right _ (List.mem_append_left _ (List.mem_of_getElem? (i := 24) rfl)))))))
theorem q425 : (.selects RX3 yX3_isTidy yX3_isTidy) ∈ LW := (List.mem_append_right _ (List.mem_append_right _ (List.mem_append_right _ (List.mem_append_right _ (List.mem_append_right _ (List.mem_append_left _ (List.mem_of_getElem? (i := 25) rfl)))))))
theorem q426 : (.methodLink RX3 138 yX2_off) ∈ LW := (List.mem_append_right _ (List.mem_append_right _ (List.mem_append_right _ (List.mem_append_right _ (List.mem_append_right _ (List.mem_append_left _ (List.mem_of_getElem? (i := 26) rfl)))))))
theorem q427 : (.instanceMethod yX2_off) ∈ LW := (List.mem_append_right _ (List.mem_append_right _ (List.mem_append_right _ (List.mem_append_right _ (List.mem_append_right _ (List.mem_append_left _ (List.mem_of_getElem? (i := 27) rfl)))))))
theorem q428 : (.selects RX2 yX2_off yX2_off) ∈ LW := (List.mem_append_right _ (List.mem_append_right _ (List.mem_append_right _ (List.mem_append_right _ (List.mem_append_right _ (List.mem_append_left _ (List.mem_of_getElem? (i := 28) rfl)))))))
theorem q429 : (.code yX3_off cX3_off 8 (some .boolean)) ∈ LW := (List.mem_append_right _ (List.mem_append_right _ (List.mem_append_right _ (List.mem_append_right _ (List.mem_append_right _ (List.mem_append_left _ (List.mem_of_getElem? (i := 29) rfl)))))))
theorem q430 : (.methodLink RX3 141 yX2_times) ∈ LW := (List.mem_append_right _ (List.mem_append_right _ (List.mem_append_right _ (List.mem_append_right _ (List.mem_append_right _ (List.mem_append_left _ (List.mem_of_getElem? (i := 30) rfl)))))))
theorem q431 : (.instanceMethod yX2_times) ∈ LW := (List.mem_append_right _ (List.mem_append_right _ (List.mem_append_right _ (List.mem_append_right _ (List.mem_append_right _ (List.mem_append_left _ (List.mem_of_getElem? (i := 31) rfl)))))))
theorem q432 : (.selects RX2 yX2_times yX2_times) ∈ LW := (List.mem_append_right _ (List.mem_append_right _ (List.mem_append_right _ (List.mem_append_right _ (List.mem_append_right _ (List.mem_append_left _ (List.mem_of_getElem? (i := 32) rfl)))))))
theorem q433 : (.code yX3_times cX3_times 6 (some .boolean)) ∈ LW := (List.mem_append_right _ (List.mem_append_right _ (List.mem_append_right _ (List.mem_append_right _ (List.mem_append_right _ (List.mem_append_left _ (List.mem_of_getElem? (i := 33) rfl)))))))
theorem q434 : (.methodLink RX3 144 yX2_divide) ∈ LW := (List.mem_append_right _ (List.mem_append_right _ (List.mem_append_right _ (List.mem_append_right _ (List.mem_append_right _ (List.mem_append_left _ (List.mem_of_getElem? (i := 34) rfl)))))))
theorem q435 : (.instanceMethod yX2_divide) ∈ LW := (List.mem_append_right _ (List.mem_append_right _ (List.mem_append_right _ (List.mem_append_right _ (List.mem_append_right _ (List.mem_append_left _ (List.mem_of_getElem? (i := 35) rfl)))))))
theorem q436 : (.selects RX2 yX2_divide yX2_divide) ∈ LW := (List.mem_append_right _ (List.mem_append_right _ (List.mem_append_right _ (List.mem_append_right _ (List.mem_append_right _ (List.mem_append_left _ (List.mem_of_getElem? (i := 36) rfl)))))))
theorem q437 : (.code yX3_divide cX3_divide 5 (some .boolean)) ∈ LW := (List.mem_append_right _ (List.mem_append_right _ (List.mem_append_right _ (List.mem_append_right _ (List.mem_append_right _ (List.mem_append_left _ (List.mem_of_getElem? (i := 37) rfl)))))))
theorem q438 : (.methodLink RX3 147 yX2_shift) ∈ LW := (List.mem_append_right _ (List.mem_append_right _ (List.mem_append_right _ (List.mem_append_right _ (List.mem_append_right _ (List.mem_append_left _ (List.mem_of_getElem? (i := 38) rfl)))))))
theorem q439 : (.instanceMethod yX2_shift) ∈ LW := (List.mem_append_right _ (List.mem_append_right _ (List.mem_append_right _ (List.mem_append_right _ (List.mem_append_right _ (List.mem_append_left _ (List.mem_of_getElem? (i := 39) rfl)))))))
theorem q440 : (.selects RX2 yX2_shift yX2_shift) ∈ LW := (List.mem_append_right _ (List.mem_append_right _ (List.mem_append_right _ (List.mem_append_right _ (List.mem_append_right _ (List.mem_append_left _ (List.mem_of_getElem? (i := 40) rfl)))))))
theorem q441 : (.code yX3_shift cX3_shift 5 (some .boolean)) ∈ LW := (List.mem_append_right _ (List.mem_append_right _ (List.mem_append_right _ (List.mem_append_right _ (List.mem_append_right _ (List.mem_append_left _ (List.mem_of_getElem? (i := 41) rfl)))))))
theorem q442 : (.methodLink RX3 151 yX2_tidy) ∈ LW := (List.mem_append_right _ (List.mem_append_right _ (List.mem_append_right _ (List.mem_append_right _ (List.mem_append_right _ (List.mem_append_left _ (List.mem_of_getElem? (i := 42) rfl)))))))
theorem q443 : (.instanceMethod yX2_tidy) ∈ LW := (List.mem_append_right _ (List.mem_append_right _ (List.mem_append_right _ (List.mem_append_right _ (List.mem_append_right _ (List.mem_append_left _ (List.mem_of_getElem? (i := 43) rfl)))))))
theorem q444 : (.selects RX2 yX2_tidy yX2_tidy) ∈ LW := (List.mem_append_right _ (List.mem_append_right _ (List.mem_append_right _ (List.mem_append_right _ (List.mem_append_right _ (List.mem_append_left _ (List.mem_of_getElem? (i := 44) rfl)))))))
theorem q445 : (.code yX3_tidy cX3_tidy 3 (some .boolean)) ∈ LW := (List.mem_append_right _ (List.mem_append_right _ (List.mem_append_right _ (List.mem_append_right _ (List.mem_append_right _ (List.mem_append_left _ (List.mem_of_getElem? (i := 45) rfl)))))))
theorem q446 : (.methodLink RX3 154 yX2_clear) ∈ LW := (List.mem_append_right _ (List.mem_append_right _ (List.mem_append_right _ (List.mem_append_right _ (List.mem_append_right _ (List.mem_append_left _ (List.mem_of_getElem? (i := 46) rfl)))))))
theorem q447 : (.instanceMethod yX2_clear) ∈ LW := (List.mem_append_right _ (List.mem_append_right _ (List.mem_append_right _ (List.mem_append_right _ (List.mem_append_right _ (List.mem_append_left _ (List.mem_of_getElem? (i := 47) rfl)))))))
theorem q448 : (.selects RX2 yX2_clear yX2_clear) ∈ LW := (List.mem_append_right _ (List.mem_append_right _ (List.mem_append_right _ (List.mem_append_right _ (List.mem_append_right _ (List.mem_append_left _ (List.mem_of_getElem? (i := 48) rfl)))))))
theorem q449 : (.code yX3_clear cX3_clear 3 (some .boolean)) ∈ LW := (List.mem_append_right _ (List.mem_append_right _ (List.mem_append_right _ (List.mem_append_right _ (List.mem_append_right _ (List.mem_append_left _ (List.mem_of_getElem? (i := 49) rfl)))))))
theorem q450 : (.methodLink RX3 157 yX3_most) ∈ LW := (List.mem_append_right _ (List.mem_append_right _ (List.mem_append_right _ (List.mem_append_right _ (List.mem_append_right _ (List.mem_append_left _ (List.mem_of_getElem? (i := 50) rfl)))))))
theorem q451 : (.instanceMethod yX3_most) ∈ LW := (List.mem_append_right _ (List.mem_append_right _ (List.mem_append_right _ (List.mem_append_right _ (List.mem_append_right _ (List.mem_append_left _ (List.mem_of_getElem? (i := 51) rfl)))))))
theorem q452 : (.selects RX3 yX3_most yX3_most) ∈ LW := (List.mem_append_right _ (List.mem_append_right _ (List.mem_append_right _ (List.mem_append_right _ (List.mem_append_right _ (List.mem_append_left _ (List.mem_of_getElem? (i := 52) rfl)))))))
theorem q453 : (.methodLink RX3 160 yX2_set) ∈ LW := (List.mem_append_right _ (List.mem_append_right _ (List.mem_append_right _ (List.mem_append_right _ (List.mem_append_right _ (List.mem_append_left _ (List.mem_of_getElem? (i := 53) rfl)))))))
theorem q454 : (.instanceMethod yX2_set) ∈ LW := (List.mem_append_right _ (List.mem_append_right _ (List.mem_append_right _ (List.mem_append_right _ (List.mem_append_right _ (List.mem_append_left _ (List.mem_of_getElem? (i := 54) rfl)))))))
theorem q455 : (.selects RX2 yX2_set yX2_set) ∈ LW := (List.mem_append_right _ (List.mem_append_right _ (List.mem_append_right _ (List.mem_append_right _ (List.mem_append_right _ (List.mem_append_left _ (List.mem_of_getElem? (i := 55) rfl)))))))
theorem q456 : (.code yX3_sets cX3_sets 4 (some .boolean)) ∈ LW := (List.mem_append_right _ (List.mem_append_right _ (List.mem_append_right _ (List.mem_append_right _ (List.mem_append_right _ (List.mem_append_left _ (List.mem_of_getElem? (i := 56) rfl)))))))
theorem q457 : (.methodLink RX3 162 yX2_push) ∈ LW := (List.mem_append_right _ (List.mem_append_right _ (List.mem_append_right _ (List.mem_append_right _ (List.mem_append_right _ (List.mem_append_left _ (List.mem_of_getElem? (i := 57) rfl)))))))
theorem q458 : (.instanceMethod yX2_push) ∈ LW := (List.mem_append_right _ (List.mem_append_right _ (List.mem_append_right _ (List.mem_append_right _ (List.mem_append_right _ (List.mem_append_left _ (List.mem_of_getElem? (i := 58) rfl)))))))
theorem q459 : (.selects RX2 yX2_push yX2_push) ∈ LW := (List.mem_append_right _ (List.mem_append_right _ (List.mem_append_right _ (List.mem_append_right _ (List.mem_append_right _ (List.mem_append_left _ (List.mem_of_getElem? (i := 59) rfl)))))))
theorem q460 : (.code yX3_push cX3_push 5 (some .boolean)) ∈ LW := (List.mem_append_right _ (List.mem_append_right _ (List.mem_append_right _ (List.mem_append_right _ (List.mem_append_right _ (List.mem_append_left _ (List.mem_of_getElem? (i := 60) rfl)))))))
theorem q461 : (.methodLink RX3 166 yX2_back) ∈ LW := (List.mem_append_right _ (List.mem_append_right _ (List.mem_append_right _ (List.mem_append_right _ (List.mem_append_right _ (List.mem_append_left _ (List.mem_of_getElem? (i := 61) rfl)))))))
theorem q462 : (.instanceMethod yX2_back) ∈ LW := (List.mem_append_right _ (List.mem_append_right _ (List.mem_append_right _ (List.mem_append_right _ (List.mem_append_right _ (List.mem_append_left _ (List.mem_of_getElem? (i := 62) rfl)))))))
theorem q463 : (.selects RX2 yX2_back yX2_back) ∈ LW := (List.mem_append_right _ (List.mem_append_right _ (List.mem_append_right _ (List.mem_append_right _ (List.mem_append_right _ (List.mem_append_left _ (List.mem_of_getElem? (i := 63) rfl)))))))
theorem q464 : (.code yX3_back cX3_back 3 (some .boolean)) ∈ LW := (List.mem_append_right _ (List.mem_append_right _ (List.mem_append_right _ (List.mem_append_right _ (List.mem_append_right _ (List.mem_append_left _ (List.mem_of_getElem? (i := 64) rfl)))))))
theorem q465 : (.constantLong RX3 169 (32)) ∈ LW := (List.mem_append_right _ (List.mem_append_right _ (List.mem_append_right _ (List.mem_append_right _ (List.mem_append_right _ (List.mem_append_left _ (List.mem_of_getElem? (i := 65) rfl)))))))
theorem q466 : (.methodLink RX3 171 yX2_grease) ∈ LW := (List.mem_append_right _ (List.mem_append_right _ (List.mem_append_right _ (List.mem_append_right _ (List.mem_append_right _ (List.mem_append_left _ (List.mem_of_getElem? (i := 66) rfl)))))))
theorem q467 : (.instanceMethod yX2_grease) ∈ LW := (List.mem_append_right _ (List.mem_append_right _ (List.mem_append_right _ (List.mem_append_right _ (List.mem_append_right _ (List.mem_append_left _ (List.mem_of_getElem? (i := 67) rfl)))))))
theorem q468 : (.selects RX2 yX2_grease yX2_grease) ∈ LW := (List.mem_append_right _ (List.mem_append_right _ (List.mem_append_right _ (List.mem_append_right _ (List.mem_append_right _ (List.mem_append_left _ (List.mem_of_getElem? (i := 68) rfl)))))))
theorem q469 : (.code yX3_grease cX3_grease 3 (some .boolean)) ∈ LW := (List.mem_append_right _ (List.mem_append_right _ (List.mem_append_right _ (List.mem_append_right _ (List.mem_append_right _ (List.mem_append_left _ (List.mem_of_getElem? (i := 69) rfl)))))))
theorem q470 : (.methodLink RX3 174 yX3_add) ∈ LW := (List.mem_append_right _ (List.mem_append_right _ (List.mem_append_right _ (List.mem_append_right _ (List.mem_append_right _ (List.mem_append_left _ (List.mem_of_getElem? (i := 70) rfl)))))))
theorem q471 : (.instanceMethod yX3_add) ∈ LW := (List.mem_append_right _ (List.mem_append_right _ (List.mem_append_right _ (List.mem_append_right _ (List.mem_append_right _ (List.mem_append_left _ (List.mem_of_getElem? (i := 71) rfl)))))))
theorem q472 : (.selects RX3 yX3_add yX3_add) ∈ LW := (List.mem_append_right _ (List.mem_append_right _ (List.mem_append_right _ (List.mem_append_right _ (List.mem_append_right _ (List.mem_append_left _ (List.mem_of_getElem? (i := 72) rfl)))))))
theorem q473 : (.methodLink RX3 176 yX3_off) ∈ LW := (List.mem_append_right _ (List.mem_append_right _ (List.mem_append_right _ (List.mem_append_right _ (List.mem_append_right _ (List.mem_append_left _ (List.mem_of_getElem? (i := 73) rfl)))))))
theorem q474 : (.instanceMethod yX3_off) ∈ LW := (List.mem_append_right _ (List.mem_append_right _ (List.mem_append_right _ (List.mem_append_right _ (List.mem_append_right _ (List.mem_append_left _ (List.mem_of_getElem? (i := 74) rfl)))))))
theorem q475 : (.selects RX3 yX3_off yX3_off) ∈ LW := (List.mem_append_right _ (List.mem_append_right _ (List.mem_append_right _ (List.mem_append_right _ (List.mem_append_right _ (List.mem_append_left _ (List.mem_of_getElem? (i := 75) rfl)))))))
theorem q476 : (.methodLink RX3 178 yX3_times) ∈ LW := (List.mem_append_right _ (List.mem_append_right _ (List.mem_append_right _ (List.mem_append_right _ (List.mem_append_right _ (List.mem_append_left _ (List.mem_of_getElem? (i := 76) rfl)))))))
theorem q477 : (.instanceMethod yX3_times) ∈ LW := (List.mem_append_right _ (List.mem_append_right _ (List.mem_append_right _ (List.mem_append_right _ (List.mem_append_right _ (List.mem_append_left _ (List.mem_of_getElem? (i := 77) rfl)))))))
theorem q478 : (.selects RX3 yX3_times yX3_times) ∈ LW := (List.mem_append_right _ (List.mem_append_right _ (List.mem_append_right _ (List.mem_append_right _ (List.mem_append_right _ (List.mem_append_left _ (List.mem_of_getElem? (i := 78) rfl)))))))
theorem q479 : (.methodLink RX3 180 yX3_divide) ∈ LW := (List.mem_append_right _ (List.mem_append_right _ (List.mem_append_right _ (List.mem_append_right _ (List.mem_append_right _ (List.mem_append_left _ (List.mem_of_getElem? (i := 79) rfl)))))))
theorem q480 : (.instanceMethod yX3_divide) ∈ LW := (List.mem_append_right _ (List.mem_append_right _ (List.mem_append_right _ (List.mem_append_right _ (List.mem_append_right _ (List.mem_append_right _ (List.mem_append_left _ (List.mem_of_getElem? (i := 0) rfl))))))))
theorem q481 : (.selects RX3 yX3_divide yX3_divide) ∈ LW := (List.mem_append_right _ (List.mem_append_right _ (List.mem_append_right _ (List.mem_append_right _ (List.mem_append_right _ (List.mem_append_right _ (List.mem_append_left _ (List.mem_of_getElem? (i := 1) rfl))))))))
theorem q482 : (.methodLink RX3 182 yX3_shift) ∈ LW := (List.mem_append_right _ (List.mem_append_right _ (List.mem_append_right _ (List.mem_append_right _ (List.mem_append_right _ (List.mem_append_right _ (List.mem_append_left _ (List.mem_of_getElem? (i := 2) rfl))))))))
theorem q483 : (.instanceMethod yX3_shift) ∈ LW := (List.mem_append_right _ (List.mem_append_right _ (List.mem_append_right _ (List.mem_append_right _ (List.mem_append_right _ (List.mem_append_right _ (List.mem_append_left _ (List.mem_of_getElem? (i := 3) rfl))))))))
theorem q484 : (.selects RX3 yX3_shift yX3_shift) ∈ LW := (List.mem_append_right _ (List.mem_append_right _ (List.mem_append_right _ (List.mem_append_right _ (List.mem_append_right _ (List.mem_append_right _ (List.mem_append_left _ (List.mem_of_getElem? (i := 4) rfl))))))))
theorem q485 : (.methodLink RX3 184 yX3_tidy) ∈ LW := (List.mem_append_right _ (List.mem_append_right _ (List.mem_append_right _ (List.mem_append_right _ (List.mem_append_right _ (List.mem_append_right _ (List.mem_append_left _ (List.mem_of_getElem? (i := 5) rfl))))))))
theorem q486 : (.instanceMethod yX3_tidy) ∈ LW := (List.mem_append_right _ (List.mem_append_right _ (List.mem_append_right _ (List.mem_append_right _ (List.mem_append_right _ (List.mem_append_right _ (List.mem_append_left _ (List.mem_of_getElem? (i := 6) rfl))))))))
theorem q487 : (.selects RX3 yX3_tidy yX3_tidy) ∈ LW := (List.mem_append_right _ (List.mem_append_right _ (List.mem_append_right _ (List.mem_append_right _ (List.mem_append_right _ (List.mem_append_right _ (List.mem_append_left _ (List.mem_of_getElem? (i := 7) rfl))))))))
theorem q488 : (.methodLink RX3 186 yX3_clear) ∈ LW := (List.mem_append_right _ (List.mem_append_right _ (List.mem_append_right _ (List.mem_append_right _ (List.mem_append_right _ (List.mem_append_right _ (List.mem_append_left _ (List.mem_of_getElem? (i := 8) rfl))))))))
theorem q489 : (.instanceMethod yX3_clear) ∈ LW := (List.mem_append_right _ (List.mem_append_right _ (List.mem_append_right _ (List.mem_append_right _ (List.mem_append_right _ (List.mem_append_right _ (List.mem_append_left _ (List.mem_of_getElem? (i := 9) rfl))))))))
theorem q490 : (.selects RX3 yX3_clear yX3_clear) ∈ LW := (List.mem_append_right _ (List.mem_append_right _ (List.mem_append_right _ (List.mem_append_right _ (List.mem_append_right _ (List.mem_append_right _ (List.mem_append_left _ (List.mem_of_getElem? (i := 10) rfl))))))))
theorem q491 : (.methodLink RX3 188 yX3_sets) ∈ LW := (List.mem_append_right _ (List.mem_append_right _ (List.mem_append_right _ (List.mem_append_right _ (List.mem_append_right _ (List.mem_append_right _ (List.mem_append_left _ (List.mem_of_getElem? (i := 11) rfl))))))))
theorem q492 : (.instanceMethod yX3_sets) ∈ LW := (List.mem_append_right _ (List.mem_append_right _ (List.mem_append_right _ (List.mem_append_right _ (List.mem_append_right _ (List.mem_append_right _ (List.mem_append_left _ (List.mem_of_getElem? (i := 12) rfl))))))))
theorem q493 : (.selects RX3 yX3_sets yX3_sets) ∈ LW := (List.mem_append_right _ (List.mem_append_right _ (List.mem_append_right _ (List.mem_append_right _ (List.mem_append_right _ (List.mem_append_right _ (List.mem_append_left _ (List.mem_of_getElem? (i := 13) rfl))))))))
theorem q494 : (.methodLink RX3 191 yX3_push) ∈ LW := (List.mem_append_right _ (List.mem_append_right _ (List.mem_append_right _ (List.mem_append_right _ (List.mem_append_right _ (List.mem_append_right _ (List.mem_append_left _ (List.mem_of_getElem? (i := 14) rfl))))))))
theorem q495 : (.instanceMethod yX3_push) ∈ LW := (List.mem_append_right _ (List.mem_append_right _ (List.mem_append_right _ (List.mem_append_right _ (List.mem_append_right _ (List.mem_append_right _ (List.mem_append_left _ (List.mem_of_getElem? (i := 15) rfl))))))))
theorem q496 : (.selects RX3 yX3_push yX3_push) ∈ LW := (List.mem_append_right _ (List.mem_append_right _ (List.mem_append_right _ (List.mem_append_right _ (List.mem_append_right _ (List.mem_append_right _ (List.mem_append_left _ (List.mem_of_getElem? (i := 16) rfl))))))))
theorem q497 : (.methodLink RX3 193 yX3_back) ∈ LW := (List.mem_append_right _ (List.mem_append_right _ (List.mem_append_right _ (List.mem_append_right _ (List.mem_append_right _ (List.mem_append_right _ (List.mem_append_left _ (List.mem_of_getElem? (i := 17) rfl))))))))
theorem q498 : (.instanceMethod yX3_back) ∈ LW := (List.mem_append_right _ (List.mem_append_right _ (List.mem_append_right _ (List.mem_append_right _ (List.mem_append_right _ (List.mem_append_right _ (List.mem_append_left _ (List.mem_of_getElem? (i := 18) rfl))))))))
theorem q499 : (.selects RX3 yX3_back yX3_back) ∈ LW := (List.mem_append_right _ (List.mem_append_right _ (List.mem_append_right _ (List.mem_append_right _ (List.mem_append_right _ (List.mem_append_right _ (List.mem_append_left _ (List.mem_of_getElem? (i := 19) rfl))))))))
theorem q500 : (.methodLink RX3 195 yX3_grease) ∈ LW := (List.mem_append_right _ (List.mem_append_right _ (List.mem_append_right _ (List.mem_append_right _ (List.mem_append_right _ (List.mem_append_right _ (List.mem_append_left _ (List.mem_of_getElem? (i := 20) rfl))))))))
theorem q501 : (.instanceMethod yX3_grease) ∈ LW := (List.mem_append_right _ (List.mem_append_right _ (List.mem_append_right _ (List.mem_append_right _ (List.mem_append_right _ (List.mem_append_right _ (List.mem_append_left _ (List.mem_of_getElem? (i := 21) rfl))))))))
theorem q502 : (.selects RX3 yX3_grease yX3_grease) ∈ LW := (List.mem_append_right _ (List.mem_append_right _ (List.mem_append_right _ (List.mem_append_right _ (List.mem_append_right _ (List.mem_append_right _ (List.mem_append_left _ (List.mem_of_getElem? (i := 22) rfl))))))))
theorem q503 : (.code yX3_act cX3_act 1 (some .boolean)) ∈ LW := (List.mem_append_right _ (List.mem_append_right _ (List.mem_append_right _ (List.mem_append_right _ (List.mem_append_right _ (List.mem_append_right _ (List.mem_append_left _ (List.mem_of_getElem? (i := 23) rfl))))))))
theorem q504 : (.code yJ9_abs_0f7a4 cJ9_abs_0f7a4 1 (some .int)) ∈ LW := (List.mem_append_right _ (List.mem_append_right _ (List.mem_append_right _ (List.mem_append_right _ (List.mem_append_right _ (List.mem_append_right _ (List.mem_append_left _ (List.mem_of_getElem? (i := 24) rfl))))))))
theorem q505 : (.code yJ9_min_7cf53 cJ9_min_7cf53 2 (some .int)) ∈ LW := (List.mem_append_right _ (List.mem_append_right _ (List.mem_append_right _ (List.mem_append_right _ (List.mem_append_right _ (List.mem_append_right _ (List.mem_append_left _ (List.mem_of_getElem? (i := 25) rfl))))))))
theorem q506 : (.methodLink RL 68 yX2_clear) ∈ LW := (List.mem_append_right _ (List.mem_append_right _ (List.mem_append_right _ (List.mem_append_right _ (List.mem_append_right _ (List.mem_append_right _ (List.mem_append_left _ (List.mem_of_getElem? (i := 26) rfl))))))))
theorem q507 : (.methodLink RL 71 yX2_many) ∈ LW := (List.mem_append_right _ (List.mem_append_right _ (List.mem_append_right _ (List.mem_append_right _ (List.mem_append_right _ (List.mem_append_right _ (List.mem_append_left _ (List.mem_of_getElem? (i := 27) rfl))))))))
theorem q508 : (.instanceMethod yX2_many) ∈ LW := (List.mem_append_right _ (List.mem_append_right _ (List.mem_append_right _ (List.mem_append_right _ (List.mem_append_right _ (List.mem_append_right _ (List.mem_append_left _ (List.mem_of_getElem? (i := 28) rfl))))))))
theorem q509 : (.selects RX2 yX2_many yX2_many) ∈ LW := (List.mem_append_right _ (List.mem_append_right _ (List.mem_append_right _ (List.mem_append_right _ (List.mem_append_right _ (List.mem_append_right _ (List.mem_append_left _ (List.mem_of_getElem? (i := 29) rfl))))))))
theorem q510 : (.methodLink RL 25 yX3_draw) ∈ LW := (List.mem_append_right _ (List.mem_append_right _ (List.mem_append_right _ (List.mem_append_right _ (List.mem_append_right _ (List.mem_append_right _ (List.mem_append_left _ (List.mem_of_getElem? (i := 30) rfl))))))))
theorem q511 : (.methodLink RL 59 yX2_add) ∈ LW := (List.mem_append_right _ (List.mem_append_right _ (List.mem_append_right _ (List.mem_append_right _ (List.mem_append_right _ (List.mem_append_right _ (List.mem_append_left _ (List.mem_of_getElem? (i := 31) rfl))))))))
theorem q512 : (.methodLink RL 74 yX2_off) ∈ LW := (List.mem_append_right _ (List.mem_append_right _ (List.mem_append_right _ (List.mem_append_right _ (List.mem_append_right _ (List.mem_append_right _ (List.mem_append_left _ (List.mem_of_getElem? (i := 32) rfl))))))))
theorem q513 : (.methodLink RL 77 yX2_number) ∈ LW := (List.mem_append_right _ (List.mem_append_right _ (List.mem_append_right _ (List.mem_append_right _ (List.mem_append_right _ (List.mem_append_right _ (List.mem_append_left _ (List.mem_of_getElem? (i := 33) rfl))))))))
theorem q514 : (.instanceMethod yX2_number) ∈ LW := (List.mem_append_right _ (List.mem_append_right _ (List.mem_append_right _ (List.mem_append_right _ (List.mem_append_right _ (List.mem_append_right _ (List.mem_append_left _ (List.mem_of_getElem? (i := 34) rfl))))))))
theorem q515 : (.selects RX2 yX2_number yX2_number) ∈ LW := (List.mem_append_right _ (List.mem_append_right _ (List.mem_append_right _ (List.mem_append_right _ (List.mem_append_right _ (List.mem_append_right _ (List.mem_append_left _ (List.mem_of_getElem? (i := 35) rfl))))))))
theorem q516 : (.methodLink RL 81 yX2_divide) ∈ LW := (List.mem_append_right _ (List.mem_append_right _ (List.mem_append_right _ (List.mem_append_right _ (List.mem_append_right _ (List.mem_append_right _ (List.mem_append_left _ (List.mem_of_getElem? (i := 36) rfl))))))))
theorem q517 : (.methodLink RL 84 yX2_times) ∈ LW := (List.mem_append_right _ (List.mem_append_right _ (List.mem_append_right _ (List.mem_append_right _ (List.mem_append_right _ (List.mem_append_right _ (List.mem_append_left _ (List.mem_of_getElem? (i := 37) rfl))))))))
theorem q518 : (.methodLink RL 87 yX2_show) ∈ LW := (List.mem_append_right _ (List.mem_append_right _ (List.mem_append_right _ (List.mem_append_right _ (List.mem_append_right _ (List.mem_append_right _ (List.mem_append_left _ (List.mem_of_getElem? (i := 38) rfl))))))))
theorem q519 : (.instanceMethod yX2_show) ∈ LW := (List.mem_append_right _ (List.mem_append_right _ (List.mem_append_right _ (List.mem_append_right _ (List.mem_append_right _ (List.mem_append_right _ (List.mem_append_left _ (List.mem_of_getElem? (i := 39) rfl))))))))
theorem q520 : (.selects RX2 yX2_show yX2_show) ∈ LW := (List.mem_append_right _ (List.mem_append_right _ (List.mem_append_right _ (List.mem_append_right _ (List.mem_append_right _ (List.mem_append_right _ (List.mem_append_left _ (List.mem_of_getElem? (i := 40) rfl))))))))
theorem q521 : (.methodLink RL 90 yX2_shift) ∈ LW := (List.mem_append_right _ (List.mem_append_right _ (List.mem_append_right _ (List.mem_append_right _ (List.mem_append_right _ (List.mem_append_right _ (List.mem_append_left _ (List.mem_of_getElem? (i := 41) rfl))))))))
theorem q522 : (.code yL_isTogether cL_isTogether 7 (some .boolean)) ∈ LW := (List.mem_append_right _ (List.mem_append_right _ (List.mem_append_right _ (List.mem_append_right _ (List.mem_append_right _ (List.mem_append_right _ (List.mem_append_left _ (List.mem_of_getElem? (i := 42) rfl))))))))
theorem q523 : (.classLink RL 9 RX2) ∈ LW := (List.mem_append_right _ (List.mem_append_right _ (List.mem_append_right _ (List.mem_append_right _ (List.mem_append_right _ (List.mem_append_right _ (List.mem_append_left _ (List.mem_of_getElem? (i := 43) rfl))))))))
theorem q524 : (.instantiable RX2 4) ∈ LW := (List.mem_append_right _ (List.mem_append_right _ (List.mem_append_right _ (List.mem_append_right _ (List.mem_append_right _ (List.mem_append_right _ (List.mem_append_left _ (List.mem_of_getElem? (i := 44) rfl))))))))
theorem q525 : (.classLink RL 12 RX3) ∈ LW := (List.mem_append_right _ (List.mem_append_right _ (List.mem_append_right _ (List.mem_append_right _ (List.mem_append_right _ (List.mem_append_right _ (List.mem_append_left _ (List.mem_of_getElem? (i := 45) rfl))))))))
theorem q526 : (.instantiable RX3 12) ∈ LW := (List.mem_append_right _ (List.mem_append_right _ (List.mem_append_right _ (List.mem_append_right _ (List.mem_append_right _ (List.mem_append_right _ (List.mem_append_left _ (List.mem_of_getElem? (i := 46) rfl))))))))
theorem q527 : (.arrayClass .double) ∈ LW := (List.mem_append_right _ (List.mem_append_right _ (List.mem_append_right _ (List.mem_append_right _ (List.mem_append_right _ (List.mem_append_right _ (List.mem_append_left _ (List.mem_of_getElem? (i := 47) rfl))))))))
theorem q528 : (.fieldLink RL 41 "SorobanHallLaw$Told" "up" "[I") ∈ LW := (List.mem_append_right _ (List.mem_append_right _ (List.mem_append_right _ (List.mem_append_right _ (List.mem_append_right _ (List.mem_append_right _ (List.mem_append_left _ (List.mem_of_getElem? (i := 48) rfl))))))))
theorem q529 : (.methodLink RL 11 yX2_init) ∈ LW := (List.mem_append_right _ (List.mem_append_right _ (List.mem_append_right _ (List.mem_append_right _ (List.mem_append_right _ (List.mem_append_right _ (List.mem_append_left _ (List.mem_of_getElem? (i := 49) rfl))))))))
theorem q530 : (.instanceMethod yX2_init) ∈ LW := (List.mem_append_right _ (List.mem_append_right _ (List.mem_append_right _ (List.mem_append_right _ (List.mem_append_right _ (List.mem_append_right _ (List.mem_append_left _ (List.mem_of_getElem? (i := 50) rfl))))))))
theorem q531 : (.methodLink RL 14 yX3_init) ∈ LW := (List.mem_append_right _ (List.mem_append_right _ (List.mem_append_right _ (List.mem_append_right _ (List.mem_append_right _ (List.mem_append_right _ (List.mem_append_left _ (List.mem_of_getElem? (i := 51) rfl))))))))
theorem q532 : (.instanceMethod yX3_init) ∈ LW := (List.mem_append_right _ (List.mem_append_right _ (List.mem_append_right _ (List.mem_append_right _ (List.mem_append_right _ (List.mem_append_right _ (List.mem_append_left _ (List.mem_of_getElem? (i := 52) rfl))))))))
theorem q533 : (.methodLink RL 17 yX3_frame) ∈ LW := (List.mem_append_right _ (List.mem_append_right _ (List.mem_append_right _ (List.mem_append_right _ (List.mem_append_right _ (List.mem_append_right _ (List.mem_append_left _ (List.mem_of_getElem? (i := 53) rfl))))))))
theorem q534 : (.instanceMethod yX3_frame) ∈ LW := (List.mem_append_right _ (List.mem_append_right _ (List.mem_append_right _ (List.mem_append_right _ (List.mem_append_right _ (List.mem_append_right _ (List.mem_append_left _ (List.mem_of_getElem? (i := 54) rfl))))))))
theorem q535 : (.selects RX3 yX3_frame yX3_frame) ∈ LW := (List.mem_append_right _ (List.mem_append_right _ (List.mem_append_right _ (List.mem_append_right _ (List.mem_append_right _ (List.mem_append_right _ (List.mem_append_left _ (List.mem_of_getElem? (i := 55) rfl))))))))
theorem q536 : (.methodLink RL 21 yX3_act) ∈ LW := (List.mem_append_right _ (List.mem_append_right _ (List.mem_append_right _ (List.mem_append_right _ (List.mem_append_right _ (List.mem_append_right _ (List.mem_append_left _ (List.mem_of_getElem? (i := 56) rfl))))))))
theorem q537 : (.instanceMethod yX3_act) ∈ LW := (List.mem_append_right _ (List.mem_append_right _ (List.mem_append_right _ (List.mem_append_right _ (List.mem_append_right _ (List.mem_append_right _ (List.mem_append_left _ (List.mem_of_getElem? (i := 57) rfl))))))))
theorem q538 : (.selects RX3 yX3_act yX3_act) ∈ LW := (List.mem_append_right _ (List.mem_append_right _ (List.mem_append_right _ (List.mem_append_right _ (List.mem_append_right _ (List.mem_append_right _ (List.mem_append_left _ (List.mem_of_getElem? (i := 58) rfl))))))))
theorem q539 : (.methodLink RL 29 yX2_digest) ∈ LW := (List.mem_append_right _ (List.mem_append_right _ (List.mem_append_right _ (List.mem_append_right _ (List.mem_append_right _ (List.mem_append_right _ (List.mem_append_left _ (List.mem_of_getElem? (i := 59) rfl))))))))
theorem q540 : (.instanceMethod yX2_digest) ∈ LW := (List.mem_append_right _ (List.mem_append_right _ (List.mem_append_right _ (List.mem_append_right _ (List.mem_append_right _ (List.mem_append_right _ (List.mem_append_left _ (List.mem_of_getElem? (i := 60) rfl))))))))
theorem q541 : (.selects RX2 yX2_digest yX2_digest) ∈ LW := (List.mem_append_right _ (List.mem_append_right _ (List.mem_append_right _ (List.mem_append_right _ (List.mem_append_right _ (List.mem_append_right _ (List.mem_append_left _ (List.mem_of_getElem? (i := 61) rfl))))))))
theorem q542 : (.methodLink RL 33 yX2_quicker) ∈ LW := (List.mem_append_right _ (List.mem_append_right _ (List.mem_append_right _ (List.mem_append_right _ (List.mem_append_right _ (List.mem_append_right _ (List.mem_append_left _ (List.mem_of_getElem? (i := 62) rfl))))))))
theorem q543 : (.instanceMethod yX2_quicker) ∈ LW := (List.mem_append_right _ (List.mem_append_right _ (List.mem_append_right _ (List.mem_append_right _ (List.mem_append_right _ (List.mem_append_right _ (List.mem_append_left _ (List.mem_of_getElem? (i := 63) rfl))))))))
theorem q544 : (.selects RX2 yX2_quicker yX2_quicker) ∈ LW := (List.mem_append_right _ (List.mem_append_right _ (List.mem_append_right _ (List.mem_append_right _ (List.mem_append_right _ (List.mem_append_right _ (List.mem_append_left _ (List.mem_of_getElem? (i := 64) rfl))))))))
theorem q545 : (.methodLink RL 37 yX2_wouldTake) ∈ LW := (List.mem_append_right _ (List.mem_append_right _ (List.mem_append_right _ (List.mem_append_right _ (List.mem_append_right _ (List.mem_append_right _ (List.mem_append_left _ (List.mem_of_getElem? (i := 65) rfl))))))))
theorem q546 : (.instanceMethod yX2_wouldTake) ∈ LW := (List.mem_append_right _ (List.mem_append_right _ (List.mem_append_right _ (List.mem_append_right _ (List.mem_append_right _ (List.mem_append_right _ (List.mem_append_left _ (List.mem_of_getElem? (i := 66) rfl))))))))
theorem q547 : (.selects RX2 yX2_wouldTake yX2_wouldTake) ∈ LW := (List.mem_append_right _ (List.mem_append_right _ (List.mem_append_right _ (List.mem_append_right _ (List.mem_append_right _ (List.mem_append_right _ (List.mem_append_left _ (List.mem_of_getElem? (i := 67) rfl))))))))
theorem q548 : (.methodLink RL 45 yX2_hardest) ∈ LW := (List.mem_append_right _ (List.mem_append_right _ (List.mem_append_right _ (List.mem_append_right _ (List.mem_append_right _ (List.mem_append_right _ (List.mem_append_left _ (List.mem_of_getElem? (i := 68) rfl))))))))
theorem q549 : (.instanceMethod yX2_hardest) ∈ LW := (List.mem_append_right _ (List.mem_append_right _ (List.mem_append_right _ (List.mem_append_right _ (List.mem_append_right _ (List.mem_append_right _ (List.mem_append_left _ (List.mem_of_getElem? (i := 69) rfl))))))))
theorem q550 : (.selects RX2 yX2_hardest yX2_hardest) ∈ LW := (List.mem_append_right _ (List.mem_append_right _ (List.mem_append_right _ (List.mem_append_right _ (List.mem_append_right _ (List.mem_append_right _ (List.mem_append_left _ (List.mem_of_getElem? (i := 70) rfl))))))))
theorem q551 : (.methodLink RL 49 yX2_seconds) ∈ LW := (List.mem_append_right _ (List.mem_append_right _ (List.mem_append_right _ (List.mem_append_right _ (List.mem_append_right _ (List.mem_append_right _ (List.mem_append_left _ (List.mem_of_getElem? (i := 71) rfl))))))))
theorem q552 : (.instanceMethod yX2_seconds) ∈ LW := (List.mem_append_right _ (List.mem_append_right _ (List.mem_append_right _ (List.mem_append_right _ (List.mem_append_right _ (List.mem_append_right _ (List.mem_append_left _ (List.mem_of_getElem? (i := 72) rfl))))))))
theorem q553 : (.selects RX2 yX2_seconds yX2_seconds) ∈ LW := (List.mem_append_right _ (List.mem_append_right _ (List.mem_append_right _ (List.mem_append_right _ (List.mem_append_right _ (List.mem_append_right _ (List.mem_append_left _ (List.mem_of_getElem? (i := 73) rfl))))))))
theorem q554 : (.methodLink RL 53 yX2_would) ∈ LW := (List.mem_append_right _ (List.mem_append_right _ (List.mem_append_right _ (List.mem_append_right _ (List.mem_append_right _ (List.mem_append_right _ (List.mem_append_left _ (List.mem_of_getElem? (i := 74) rfl))))))))
theorem q555 : (.instanceMethod yX2_would) ∈ LW := (List.mem_append_right _ (List.mem_append_right _ (List.mem_append_right _ (List.mem_append_right _ (List.mem_append_right _ (List.mem_append_right _ (List.mem_append_left _ (List.mem_of_getElem? (i := 75) rfl))))))))
theorem q556 : (.selects RX2 yX2_would yX2_would) ∈ LW := (List.mem_append_right _ (List.mem_append_right _ (List.mem_append_right _ (List.mem_append_right _ (List.mem_append_right _ (List.mem_append_right _ (List.mem_append_left _ (List.mem_of_getElem? (i := 76) rfl))))))))
theorem q557 : (.methodLink RL 56 yX2_ofFrame) ∈ LW := (List.mem_append_right _ (List.mem_append_right _ (List.mem_append_right _ (List.mem_append_right _ (List.mem_append_right _ (List.mem_append_right _ (List.mem_append_left _ (List.mem_of_getElem? (i := 77) rfl))))))))
theorem q558 : (.instanceMethod yX2_ofFrame) ∈ LW := (List.mem_append_right _ (List.mem_append_right _ (List.mem_append_right _ (List.mem_append_right _ (List.mem_append_right _ (List.mem_append_right _ (List.mem_append_left _ (List.mem_of_getElem? (i := 78) rfl))))))))
theorem q559 : (.selects RX2 yX2_ofFrame yX2_ofFrame) ∈ LW := (List.mem_append_right _ (List.mem_append_right _ (List.mem_append_right _ (List.mem_append_right _ (List.mem_append_right _ (List.mem_append_right _ (List.mem_append_left _ (List.mem_of_getElem? (i := 79) rfl))))))))
theorem q560 : (.methodLink RL 62 yL_isTogether) ∈ LW := (List.mem_append_right _ (List.mem_append_right _ (List.mem_append_right _ (List.mem_append_right _ (List.mem_append_right _ (List.mem_append_right _ (List.mem_append_right _ (List.mem_append_left _ (List.mem_of_getElem? (i := 0) rfl)))))))))
theorem q561 : (.static yL_isTogether) ∈ LW := (List.mem_append_right _ (List.mem_append_right _ (List.mem_append_right _ (List.mem_append_right _ (List.mem_append_right _ (List.mem_append_right _ (List.mem_append_right _ (List.mem_append_left _ (List.mem_of_getElem? (i := 1) rfl)))))))))
theorem iX0 : ∀ w ∈ wsX00, w ∈ LW := fun _ h => (List.mem_append_right _ (List.mem_append_right _ (List.mem_append_right _ (List.mem_append_right _ (List.mem_append_right _ (List.mem_append_right _ (List.mem_append_right _ (List.mem_append_right _ (List.mem_append_left _ h)))))))))
theorem iX1 : ∀ w ∈ wsX10, w ∈ LW := fun _ h => (List.mem_append_right _ (List.mem_append_right _ (List.mem_append_right _ (List.mem_append_right _ (List.mem_append_right _ (List.mem_append_right _ (List.mem_append_right _ (List.mem_append_right _ (List.mem_append_right _ (List.mem_append_left _ h))))))))))
theorem iX2 : ∀ w ∈ wsX20, w ∈ LW := fun _ h => (List.mem_append_right _ (List.mem_append_right _ (List.mem_append_right _ (List.mem_append_right _ (List.mem_append_right _ (List.mem_append_right _ (List.mem_append_right _ (List.mem_append_right _ (List.mem_append_right _ (List.mem_append_right _ (List.mem_append_left _ h)))))))))))
theorem iX3 : ∀ w ∈ wsX30, w ∈ LW := fun _ h => (List.mem_append_right _ (List.mem_append_right _ (List.mem_append_right _ (List.mem_append_right _ (List.mem_append_right _ (List.mem_append_right _ (List.mem_append_right _ (List.mem_append_right _ (List.mem_append_right _ (List.mem_append_right _ (List.mem_append_right _ h)))))))))))
set_option maxRecDepth 100000 in
theorem LW_good : LW.all goodWord = true := by decide +kernel
end
section
-- laid by wip/p30/names.py
theorem dX0_init_0 : decode cX0_init 0 = .ok (.aload_n 0, 1) := by decide +kernel
theorem dX0_init_1 : decode cX0_init 1 = .ok (.invokespecial 3, 3) := by decide +kernel
theorem dX0_init_4 : decode cX0_init 4 = .ok (.aload_n 0, 1) := by decide +kernel
theorem dX0_init_5 : decode cX0_init 5 = .ok (.bipush 8, 2) := by decide +kernel
theorem dX0_init_7 : decode cX0_init 7 = .ok (.newarray .int, 2) := by decide +kernel
theorem dX0_init_9 : decode cX0_init 9 = .ok (.putfield 9, 3) := by decide +kernel
theorem dX0_init_12 : decode cX0_init 12 = .ok (.aload_n 0, 1) := by decide +kernel
theorem dX0_init_13 : decode cX0_init 13 = .ok (.bipush 8, 2) := by decide +kernel
theorem dX0_init_15 : decode cX0_init 15 = .ok (.newarray .int, 2) := by decide +kernel
theorem dX0_init_17 : decode cX0_init 17 = .ok (.putfield 15, 3) := by decide +kernel
theorem dX0_init_20 : decode cX0_init 20 = .ok (.aload_n 0, 1) := by decide +kernel
theorem dX0_init_21 : decode cX0_init 21 = .ok (.bipush 96, 2) := by decide +kernel
theorem dX0_init_23 : decode cX0_init 23 = .ok (.newarray .int, 2) := by decide +kernel
theorem dX0_init_25 : decode cX0_init 25 = .ok (.putfield 18, 3) := by decide +kernel
theorem dX0_init_28 : decode cX0_init 28 = .ok (.aload_n 0, 1) := by decide +kernel
theorem dX0_init_29 : decode cX0_init 29 = .ok (.iload_n 1, 1) := by decide +kernel
theorem dX0_init_30 : decode cX0_init 30 = .ok (.putfield 21, 3) := by decide +kernel
theorem dX0_init_33 : decode cX0_init 33 = .ok (.return_, 1) := by decide +kernel
theorem dX0_countAt_0 : decode cX0_countAt 0 = .ok (.iload_n 1, 1) := by decide +kernel
theorem dX0_countAt_1 : decode cX0_countAt 1 = .ok (.ifCond .lt 21, 3) := by decide +kernel
theorem dX0_countAt_4 : decode cX0_countAt 4 = .ok (.iload_n 1, 1) := by decide +kernel
theorem dX0_countAt_5 : decode cX0_countAt 5 = .ok (.aload_n 0, 1) := by decide +kernel
theorem dX0_countAt_6 : decode cX0_countAt 6 = .ok (.getfield 9, 3) := by decide +kernel
theorem dX0_countAt_9 : decode cX0_countAt 9 = .ok (.arraylength, 1) := by decide +kernel
theorem dX0_countAt_10 : decode cX0_countAt 10 = .ok (.if_icmp .ge 12, 3) := by decide +kernel
theorem dX0_countAt_13 : decode cX0_countAt 13 = .ok (.aload_n 0, 1) := by decide +kernel
theorem dX0_countAt_14 : decode cX0_countAt 14 = .ok (.getfield 9, 3) := by decide +kernel
theorem dX0_countAt_17 : decode cX0_countAt 17 = .ok (.iload_n 1, 1) := by decide +kernel
theorem dX0_countAt_18 : decode cX0_countAt 18 = .ok (.iaload, 1) := by decide +kernel
theorem dX0_countAt_19 : decode cX0_countAt 19 = .ok (.goto 4, 3) := by decide +kernel
theorem dX0_countAt_22 : decode cX0_countAt 22 = .ok (.iconst 0, 1) := by decide +kernel
theorem dX0_countAt_23 : decode cX0_countAt 23 = .ok (.ireturn, 1) := by decide +kernel
theorem dX0_wearAt_0 : decode cX0_wearAt 0 = .ok (.iload_n 1, 1) := by decide +kernel
theorem dX0_wearAt_1 : decode cX0_wearAt 1 = .ok (.ifCond .lt 21, 3) := by decide +kernel
theorem dX0_wearAt_4 : decode cX0_wearAt 4 = .ok (.iload_n 1, 1) := by decide +kernel
theorem dX0_wearAt_5 : decode cX0_wearAt 5 = .ok (.aload_n 0, 1) := by decide +kernel
theorem dX0_wearAt_6 : decode cX0_wearAt 6 = .ok (.getfield 15, 3) := by decide +kernel
theorem dX0_wearAt_9 : decode cX0_wearAt 9 = .ok (.arraylength, 1) := by decide +kernel
theorem dX0_wearAt_10 : decode cX0_wearAt 10 = .ok (.if_icmp .ge 12, 3) := by decide +kernel
theorem dX0_wearAt_13 : decode cX0_wearAt 13 = .ok (.aload_n 0, 1) := by decide +kernel
theorem dX0_wearAt_14 : decode cX0_wearAt 14 = .ok (.getfield 15, 3) := by decide +kernel
theorem dX0_wearAt_17 : decode cX0_wearAt 17 = .ok (.iload_n 1, 1) := by decide +kernel
theorem dX0_wearAt_18 : decode cX0_wearAt 18 = .ok (.iaload, 1) := by decide +kernel
theorem dX0_wearAt_19 : decode cX0_wearAt 19 = .ok (.goto 4, 3) := by decide +kernel
theorem dX0_wearAt_22 : decode cX0_wearAt 22 = .ok (.iconst 0, 1) := by decide +kernel
theorem dX0_wearAt_23 : decode cX0_wearAt 23 = .ok (.ireturn, 1) := by decide +kernel
theorem dX0_isWornAt_0 : decode cX0_isWornAt 0 = .ok (.aload_n 0, 1) := by decide +kernel
theorem dX0_isWornAt_1 : decode cX0_isWornAt 1 = .ok (.iload_n 1, 1) := by decide +kernel
theorem dX0_isWornAt_2 : decode cX0_isWornAt 2 = .ok (.invokevirtual 25, 3) := by decide +kernel
theorem dX0_isWornAt_5 : decode cX0_isWornAt 5 = .ok (.bipush 40, 2) := by decide +kernel
theorem dX0_isWornAt_7 : decode cX0_isWornAt 7 = .ok (.if_icmp .lt 7, 3) := by decide +kernel
theorem dX0_isWornAt_10 : decode cX0_isWornAt 10 = .ok (.iconst 1, 1) := by decide +kernel
theorem dX0_isWornAt_11 : decode cX0_isWornAt 11 = .ok (.goto 4, 3) := by decide +kernel
theorem dX0_isWornAt_14 : decode cX0_isWornAt 14 = .ok (.iconst 0, 1) := by decide +kernel
theorem dX0_isWornAt_15 : decode cX0_isWornAt 15 = .ok (.ireturn, 1) := by decide +kernel
theorem dX0_canMove_0 : decode cX0_canMove 0 = .ok (.aload_n 0, 1) := by decide +kernel
theorem dX0_canMove_1 : decode cX0_canMove 1 = .ok (.iload_n 1, 1) := by decide +kernel
theorem dX0_canMove_2 : decode cX0_canMove 2 = .ok (.invokevirtual 29, 3) := by decide +kernel
theorem dX0_canMove_5 : decode cX0_canMove 5 = .ok (.i2l, 1) := by decide +kernel
theorem dX0_canMove_6 : decode cX0_canMove 6 = .ok (.iload_n 2, 1) := by decide +kernel
theorem dX0_canMove_7 : decode cX0_canMove 7 = .ok (.i2l, 1) := by decide +kernel
theorem dX0_canMove_8 : decode cX0_canMove 8 = .ok (.ladd, 1) := by decide +kernel
theorem dX0_canMove_9 : decode cX0_canMove 9 = .ok (.lstore_n 3, 1) := by decide +kernel
theorem dX0_canMove_10 : decode cX0_canMove 10 = .ok (.lload_n 3, 1) := by decide +kernel
theorem dX0_canMove_11 : decode cX0_canMove 11 = .ok (.lconst 0, 1) := by decide +kernel
theorem dX0_canMove_12 : decode cX0_canMove 12 = .ok (.lcmp, 1) := by decide +kernel
theorem dX0_canMove_13 : decode cX0_canMove 13 = .ok (.ifCond .lt 17, 3) := by decide +kernel
theorem dX0_canMove_16 : decode cX0_canMove 16 = .ok (.lload_n 3, 1) := by decide +kernel
theorem dX0_canMove_17 : decode cX0_canMove 17 = .ok (.aload_n 0, 1) := by decide +kernel
theorem dX0_canMove_18 : decode cX0_canMove 18 = .ok (.getfield 21, 3) := by decide +kernel
theorem dX0_canMove_21 : decode cX0_canMove 21 = .ok (.i2l, 1) := by decide +kernel
theorem dX0_canMove_22 : decode cX0_canMove 22 = .ok (.lcmp, 1) := by decide +kernel
theorem dX0_canMove_23 : decode cX0_canMove 23 = .ok (.ifCond .gt 7, 3) := by decide +kernel
theorem dX0_canMove_26 : decode cX0_canMove 26 = .ok (.iconst 1, 1) := by decide +kernel
theorem dX0_canMove_27 : decode cX0_canMove 27 = .ok (.goto 4, 3) := by decide +kernel
theorem dX0_canMove_30 : decode cX0_canMove 30 = .ok (.iconst 0, 1) := by decide +kernel
theorem dX0_canMove_31 : decode cX0_canMove 31 = .ok (.ireturn, 1) := by decide +kernel
theorem dX0_freshen_0 : decode cX0_freshen 0 = .ok (.iload_n 1, 1) := by decide +kernel
theorem dX0_freshen_1 : decode cX0_freshen 1 = .ok (.ifCond .lt 19, 3) := by decide +kernel
theorem dX0_freshen_4 : decode cX0_freshen 4 = .ok (.iload_n 1, 1) := by decide +kernel
theorem dX0_freshen_5 : decode cX0_freshen 5 = .ok (.aload_n 0, 1) := by decide +kernel
theorem dX0_freshen_6 : decode cX0_freshen 6 = .ok (.getfield 15, 3) := by decide +kernel
theorem dX0_freshen_9 : decode cX0_freshen 9 = .ok (.arraylength, 1) := by decide +kernel
theorem dX0_freshen_10 : decode cX0_freshen 10 = .ok (.if_icmp .ge 10, 3) := by decide +kernel
theorem dX0_freshen_13 : decode cX0_freshen 13 = .ok (.aload_n 0, 1) := by decide +kernel
theorem dX0_freshen_14 : decode cX0_freshen 14 = .ok (.getfield 15, 3) := by decide +kernel
theorem dX0_freshen_17 : decode cX0_freshen 17 = .ok (.iload_n 1, 1) := by decide +kernel
theorem dX0_freshen_18 : decode cX0_freshen 18 = .ok (.iconst 0, 1) := by decide +kernel
theorem dX0_freshen_19 : decode cX0_freshen 19 = .ok (.iastore, 1) := by decide +kernel
theorem dX0_freshen_20 : decode cX0_freshen 20 = .ok (.return_, 1) := by decide +kernel
theorem dX0_keepIn_0 : decode cX0_keepIn 0 = .ok (.iload_n 1, 1) := by decide +kernel
theorem dX0_keepIn_1 : decode cX0_keepIn 1 = .ok (.bipush 8, 2) := by decide +kernel
theorem dX0_keepIn_3 : decode cX0_keepIn 3 = .ok (.imul, 1) := by decide +kernel
theorem dX0_keepIn_4 : decode cX0_keepIn 4 = .ok (.istore_n 2, 1) := by decide +kernel
theorem dX0_keepIn_5 : decode cX0_keepIn 5 = .ok (.iconst 0, 1) := by decide +kernel
theorem dX0_keepIn_6 : decode cX0_keepIn 6 = .ok (.istore_n 3, 1) := by decide +kernel
theorem dX0_keepIn_7 : decode cX0_keepIn 7 = .ok (.iload_n 3, 1) := by decide +kernel
theorem dX0_keepIn_8 : decode cX0_keepIn 8 = .ok (.aload_n 0, 1) := by decide +kernel
theorem dX0_keepIn_9 : decode cX0_keepIn 9 = .ok (.getfield 9, 3) := by decide +kernel
theorem dX0_keepIn_12 : decode cX0_keepIn 12 = .ok (.arraylength, 1) := by decide +kernel
theorem dX0_keepIn_13 : decode cX0_keepIn 13 = .ok (.if_icmp .ge 40, 3) := by decide +kernel
theorem dX0_keepIn_16 : decode cX0_keepIn 16 = .ok (.iload_n 2, 1) := by decide +kernel
theorem dX0_keepIn_17 : decode cX0_keepIn 17 = .ok (.iload_n 3, 1) := by decide +kernel
theorem dX0_keepIn_18 : decode cX0_keepIn 18 = .ok (.iadd, 1) := by decide +kernel
theorem dX0_keepIn_19 : decode cX0_keepIn 19 = .ok (.ifCond .lt 28, 3) := by decide +kernel
theorem dX0_keepIn_22 : decode cX0_keepIn 22 = .ok (.iload_n 2, 1) := by decide +kernel
theorem dX0_keepIn_23 : decode cX0_keepIn 23 = .ok (.iload_n 3, 1) := by decide +kernel
theorem dX0_keepIn_24 : decode cX0_keepIn 24 = .ok (.iadd, 1) := by decide +kernel
theorem dX0_keepIn_25 : decode cX0_keepIn 25 = .ok (.aload_n 0, 1) := by decide +kernel
theorem dX0_keepIn_26 : decode cX0_keepIn 26 = .ok (.getfield 18, 3) := by decide +kernel
theorem dX0_keepIn_29 : decode cX0_keepIn 29 = .ok (.arraylength, 1) := by decide +kernel
theorem dX0_keepIn_30 : decode cX0_keepIn 30 = .ok (.if_icmp .ge 17, 3) := by decide +kernel
theorem dX0_keepIn_33 : decode cX0_keepIn 33 = .ok (.aload_n 0, 1) := by decide +kernel
theorem dX0_keepIn_34 : decode cX0_keepIn 34 = .ok (.getfield 18, 3) := by decide +kernel
theorem dX0_keepIn_37 : decode cX0_keepIn 37 = .ok (.iload_n 2, 1) := by decide +kernel
theorem dX0_keepIn_38 : decode cX0_keepIn 38 = .ok (.iload_n 3, 1) := by decide +kernel
theorem dX0_keepIn_39 : decode cX0_keepIn 39 = .ok (.iadd, 1) := by decide +kernel
theorem dX0_keepIn_40 : decode cX0_keepIn 40 = .ok (.aload_n 0, 1) := by decide +kernel
theorem dX0_keepIn_41 : decode cX0_keepIn 41 = .ok (.getfield 9, 3) := by decide +kernel
theorem dX0_keepIn_44 : decode cX0_keepIn 44 = .ok (.iload_n 3, 1) := by decide +kernel
theorem dX0_keepIn_45 : decode cX0_keepIn 45 = .ok (.iaload, 1) := by decide +kernel
theorem dX0_keepIn_46 : decode cX0_keepIn 46 = .ok (.iastore, 1) := by decide +kernel
theorem dX0_keepIn_47 : decode cX0_keepIn 47 = .ok (.iinc 3 1, 3) := by decide +kernel
theorem dX0_keepIn_50 : decode cX0_keepIn 50 = .ok (.goto (-43), 3) := by decide +kernel
theorem dX0_keepIn_53 : decode cX0_keepIn 53 = .ok (.return_, 1) := by decide +kernel
theorem dX0_restoreFrom_0 : decode cX0_restoreFrom 0 = .ok (.iload_n 1, 1) := by decide +kernel
theorem dX0_restoreFrom_1 : decode cX0_restoreFrom 1 = .ok (.bipush 8, 2) := by decide +kernel
theorem dX0_restoreFrom_3 : decode cX0_restoreFrom 3 = .ok (.imul, 1) := by decide +kernel
theorem dX0_restoreFrom_4 : decode cX0_restoreFrom 4 = .ok (.istore_n 2, 1) := by decide +kernel
theorem dX0_restoreFrom_5 : decode cX0_restoreFrom 5 = .ok (.iconst 0, 1) := by decide +kernel
theorem dX0_restoreFrom_6 : decode cX0_restoreFrom 6 = .ok (.istore_n 3, 1) := by decide +kernel
theorem dX0_restoreFrom_7 : decode cX0_restoreFrom 7 = .ok (.iload_n 3, 1) := by decide +kernel
theorem dX0_restoreFrom_8 : decode cX0_restoreFrom 8 = .ok (.aload_n 0, 1) := by decide +kernel
theorem dX0_restoreFrom_9 : decode cX0_restoreFrom 9 = .ok (.getfield 9, 3) := by decide +kernel
theorem dX0_restoreFrom_12 : decode cX0_restoreFrom 12 = .ok (.arraylength, 1) := by decide +kernel
theorem dX0_restoreFrom_13 : decode cX0_restoreFrom 13 = .ok (.if_icmp .ge 40, 3) := by decide +kernel
theorem dX0_restoreFrom_16 : decode cX0_restoreFrom 16 = .ok (.iload_n 2, 1) := by decide +kernel
theorem dX0_restoreFrom_17 : decode cX0_restoreFrom 17 = .ok (.iload_n 3, 1) := by decide +kernel
theorem dX0_restoreFrom_18 : decode cX0_restoreFrom 18 = .ok (.iadd, 1) := by decide +kernel
theorem dX0_restoreFrom_19 : decode cX0_restoreFrom 19 = .ok (.ifCond .lt 28, 3) := by decide +kernel
theorem dX0_restoreFrom_22 : decode cX0_restoreFrom 22 = .ok (.iload_n 2, 1) := by decide +kernel
theorem dX0_restoreFrom_23 : decode cX0_restoreFrom 23 = .ok (.iload_n 3, 1) := by decide +kernel
theorem dX0_restoreFrom_24 : decode cX0_restoreFrom 24 = .ok (.iadd, 1) := by decide +kernel
theorem dX0_restoreFrom_25 : decode cX0_restoreFrom 25 = .ok (.aload_n 0, 1) := by decide +kernel
theorem dX0_restoreFrom_26 : decode cX0_restoreFrom 26 = .ok (.getfield 18, 3) := by decide +kernel
theorem dX0_restoreFrom_29 : decode cX0_restoreFrom 29 = .ok (.arraylength, 1) := by decide +kernel
theorem dX0_restoreFrom_30 : decode cX0_restoreFrom 30 = .ok (.if_icmp .ge 17, 3) := by decide +kernel
theorem dX0_restoreFrom_33 : decode cX0_restoreFrom 33 = .ok (.aload_n 0, 1) := by decide +kernel
theorem dX0_restoreFrom_34 : decode cX0_restoreFrom 34 = .ok (.getfield 9, 3) := by decide +kernel
theorem dX0_restoreFrom_37 : decode cX0_restoreFrom 37 = .ok (.iload_n 3, 1) := by decide +kernel
theorem dX0_restoreFrom_38 : decode cX0_restoreFrom 38 = .ok (.aload_n 0, 1) := by decide +kernel
theorem dX0_restoreFrom_39 : decode cX0_restoreFrom 39 = .ok (.getfield 18, 3) := by decide +kernel
theorem dX0_restoreFrom_42 : decode cX0_restoreFrom 42 = .ok (.iload_n 2, 1) := by decide +kernel
theorem dX0_restoreFrom_43 : decode cX0_restoreFrom 43 = .ok (.iload_n 3, 1) := by decide +kernel
theorem dX0_restoreFrom_44 : decode cX0_restoreFrom 44 = .ok (.iadd, 1) := by decide +kernel
theorem dX0_restoreFrom_45 : decode cX0_restoreFrom 45 = .ok (.iaload, 1) := by decide +kernel
theorem dX0_restoreFrom_46 : decode cX0_restoreFrom 46 = .ok (.iastore, 1) := by decide +kernel
theorem dX0_restoreFrom_47 : decode cX0_restoreFrom 47 = .ok (.iinc 3 1, 3) := by decide +kernel
theorem dX0_restoreFrom_50 : decode cX0_restoreFrom 50 = .ok (.goto (-43), 3) := by decide +kernel
theorem dX0_restoreFrom_53 : decode cX0_restoreFrom 53 = .ok (.return_, 1) := by decide +kernel
theorem dX0_copyFrom_0 : decode cX0_copyFrom 0 = .ok (.aload_n 0, 1) := by decide +kernel
theorem dX0_copyFrom_1 : decode cX0_copyFrom 1 = .ok (.aload_n 1, 1) := by decide +kernel
theorem dX0_copyFrom_2 : decode cX0_copyFrom 2 = .ok (.getfield 21, 3) := by decide +kernel
theorem dX0_copyFrom_5 : decode cX0_copyFrom 5 = .ok (.putfield 21, 3) := by decide +kernel
theorem dX0_copyFrom_8 : decode cX0_copyFrom 8 = .ok (.iconst 0, 1) := by decide +kernel
theorem dX0_copyFrom_9 : decode cX0_copyFrom 9 = .ok (.istore_n 2, 1) := by decide +kernel
theorem dX0_copyFrom_10 : decode cX0_copyFrom 10 = .ok (.iload_n 2, 1) := by decide +kernel
theorem dX0_copyFrom_11 : decode cX0_copyFrom 11 = .ok (.aload_n 0, 1) := by decide +kernel
theorem dX0_copyFrom_12 : decode cX0_copyFrom 12 = .ok (.getfield 9, 3) := by decide +kernel
theorem dX0_copyFrom_15 : decode cX0_copyFrom 15 = .ok (.arraylength, 1) := by decide +kernel
theorem dX0_copyFrom_16 : decode cX0_copyFrom 16 = .ok (.if_icmp .ge 20, 3) := by decide +kernel
theorem dX0_copyFrom_19 : decode cX0_copyFrom 19 = .ok (.aload_n 0, 1) := by decide +kernel
theorem dX0_copyFrom_20 : decode cX0_copyFrom 20 = .ok (.getfield 9, 3) := by decide +kernel
theorem dX0_copyFrom_23 : decode cX0_copyFrom 23 = .ok (.iload_n 2, 1) := by decide +kernel
theorem dX0_copyFrom_24 : decode cX0_copyFrom 24 = .ok (.aload_n 1, 1) := by decide +kernel
theorem dX0_copyFrom_25 : decode cX0_copyFrom 25 = .ok (.iload_n 2, 1) := by decide +kernel
theorem dX0_copyFrom_26 : decode cX0_copyFrom 26 = .ok (.invokevirtual 29, 3) := by decide +kernel
theorem dX0_copyFrom_29 : decode cX0_copyFrom 29 = .ok (.iastore, 1) := by decide +kernel
theorem dX0_copyFrom_30 : decode cX0_copyFrom 30 = .ok (.iinc 2 1, 3) := by decide +kernel
theorem dX0_copyFrom_33 : decode cX0_copyFrom 33 = .ok (.goto (-23), 3) := by decide +kernel
theorem dX0_copyFrom_36 : decode cX0_copyFrom 36 = .ok (.iconst 0, 1) := by decide +kernel
theorem dX0_copyFrom_37 : decode cX0_copyFrom 37 = .ok (.istore_n 2, 1) := by decide +kernel
theorem dX0_copyFrom_38 : decode cX0_copyFrom 38 = .ok (.iload_n 2, 1) := by decide +kernel
theorem dX0_copyFrom_39 : decode cX0_copyFrom 39 = .ok (.aload_n 0, 1) := by decide +kernel
theorem dX0_copyFrom_40 : decode cX0_copyFrom 40 = .ok (.getfield 15, 3) := by decide +kernel
theorem dX0_copyFrom_43 : decode cX0_copyFrom 43 = .ok (.arraylength, 1) := by decide +kernel
theorem dX0_copyFrom_44 : decode cX0_copyFrom 44 = .ok (.if_icmp .ge 20, 3) := by decide +kernel
theorem dX0_copyFrom_47 : decode cX0_copyFrom 47 = .ok (.aload_n 0, 1) := by decide +kernel
theorem dX0_copyFrom_48 : decode cX0_copyFrom 48 = .ok (.getfield 15, 3) := by decide +kernel
theorem dX0_copyFrom_51 : decode cX0_copyFrom 51 = .ok (.iload_n 2, 1) := by decide +kernel
theorem dX0_copyFrom_52 : decode cX0_copyFrom 52 = .ok (.aload_n 1, 1) := by decide +kernel
theorem dX0_copyFrom_53 : decode cX0_copyFrom 53 = .ok (.iload_n 2, 1) := by decide +kernel
theorem dX0_copyFrom_54 : decode cX0_copyFrom 54 = .ok (.invokevirtual 25, 3) := by decide +kernel
theorem dX0_copyFrom_57 : decode cX0_copyFrom 57 = .ok (.iastore, 1) := by decide +kernel
theorem dX0_copyFrom_58 : decode cX0_copyFrom 58 = .ok (.iinc 2 1, 3) := by decide +kernel
theorem dX0_copyFrom_61 : decode cX0_copyFrom 61 = .ok (.goto (-23), 3) := by decide +kernel
theorem dX0_copyFrom_64 : decode cX0_copyFrom 64 = .ok (.return_, 1) := by decide +kernel
theorem dX1_init_0 : decode cX1_init 0 = .ok (.aload_n 0, 1) := by decide +kernel
theorem dX1_init_1 : decode cX1_init 1 = .ok (.invokespecial 3, 3) := by decide +kernel
theorem dX1_init_4 : decode cX1_init 4 = .ok (.aload_n 0, 1) := by decide +kernel
theorem dX1_init_5 : decode cX1_init 5 = .ok (.iload_n 1, 1) := by decide +kernel
theorem dX1_init_6 : decode cX1_init 6 = .ok (.putfield 9, 3) := by decide +kernel
theorem dX1_init_9 : decode cX1_init 9 = .ok (.aload_n 0, 1) := by decide +kernel
theorem dX1_init_10 : decode cX1_init 10 = .ok (.iload_n 2, 1) := by decide +kernel
theorem dX1_init_11 : decode cX1_init 11 = .ok (.putfield 15, 3) := by decide +kernel
theorem dX1_init_14 : decode cX1_init 14 = .ok (.aload_n 0, 1) := by decide +kernel
theorem dX1_init_15 : decode cX1_init 15 = .ok (.new 18, 3) := by decide +kernel
theorem dX1_init_18 : decode cX1_init 18 = .ok (.dup, 1) := by decide +kernel
theorem dX1_init_19 : decode cX1_init 19 = .ok (.iload_n 1, 1) := by decide +kernel
theorem dX1_init_20 : decode cX1_init 20 = .ok (.ifCond .lt 19, 3) := by decide +kernel
theorem dX1_init_23 : decode cX1_init 23 = .ok (.iload_n 1, 1) := by decide +kernel
theorem dX1_init_24 : decode cX1_init 24 = .ok (.getstatic 20, 3) := by decide +kernel
theorem dX1_init_27 : decode cX1_init 27 = .ok (.arraylength, 1) := by decide +kernel
theorem dX1_init_28 : decode cX1_init 28 = .ok (.if_icmp .ge 11, 3) := by decide +kernel
theorem dX1_init_31 : decode cX1_init 31 = .ok (.getstatic 20, 3) := by decide +kernel
theorem dX1_init_34 : decode cX1_init 34 = .ok (.iload_n 1, 1) := by decide +kernel
theorem dX1_init_35 : decode cX1_init 35 = .ok (.iaload, 1) := by decide +kernel
theorem dX1_init_36 : decode cX1_init 36 = .ok (.goto 4, 3) := by decide +kernel
theorem dX1_init_39 : decode cX1_init 39 = .ok (.iconst 0, 1) := by decide +kernel
theorem dX1_init_40 : decode cX1_init 40 = .ok (.invokespecial 24, 3) := by decide +kernel
theorem dX1_init_43 : decode cX1_init 43 = .ok (.putfield 27, 3) := by decide +kernel
theorem dX1_init_46 : decode cX1_init 46 = .ok (.aload_n 0, 1) := by decide +kernel
theorem dX1_init_47 : decode cX1_init 47 = .ok (.new 18, 3) := by decide +kernel
theorem dX1_init_50 : decode cX1_init 50 = .ok (.dup, 1) := by decide +kernel
theorem dX1_init_51 : decode cX1_init 51 = .ok (.iload_n 1, 1) := by decide +kernel
theorem dX1_init_52 : decode cX1_init 52 = .ok (.ifCond .lt 19, 3) := by decide +kernel
theorem dX1_init_55 : decode cX1_init 55 = .ok (.iload_n 1, 1) := by decide +kernel
theorem dX1_init_56 : decode cX1_init 56 = .ok (.getstatic 31, 3) := by decide +kernel
theorem dX1_init_59 : decode cX1_init 59 = .ok (.arraylength, 1) := by decide +kernel
theorem dX1_init_60 : decode cX1_init 60 = .ok (.if_icmp .ge 11, 3) := by decide +kernel
theorem dX1_init_63 : decode cX1_init 63 = .ok (.getstatic 31, 3) := by decide +kernel
theorem dX1_init_66 : decode cX1_init 66 = .ok (.iload_n 1, 1) := by decide +kernel
theorem dX1_init_67 : decode cX1_init 67 = .ok (.iaload, 1) := by decide +kernel
theorem dX1_init_68 : decode cX1_init 68 = .ok (.goto 4, 3) := by decide +kernel
theorem dX1_init_71 : decode cX1_init 71 = .ok (.iconst 0, 1) := by decide +kernel
theorem dX1_init_72 : decode cX1_init 72 = .ok (.invokespecial 24, 3) := by decide +kernel
theorem dX1_init_75 : decode cX1_init 75 = .ok (.putfield 34, 3) := by decide +kernel
theorem dX1_init_78 : decode cX1_init 78 = .ok (.return_, 1) := by decide +kernel
theorem dX1_copyFrom_0 : decode cX1_copyFrom 0 = .ok (.aload_n 0, 1) := by decide +kernel
theorem dX1_copyFrom_1 : decode cX1_copyFrom 1 = .ok (.aload_n 1, 1) := by decide +kernel
theorem dX1_copyFrom_2 : decode cX1_copyFrom 2 = .ok (.getfield 9, 3) := by decide +kernel
theorem dX1_copyFrom_5 : decode cX1_copyFrom 5 = .ok (.putfield 9, 3) := by decide +kernel
theorem dX1_copyFrom_8 : decode cX1_copyFrom 8 = .ok (.aload_n 0, 1) := by decide +kernel
theorem dX1_copyFrom_9 : decode cX1_copyFrom 9 = .ok (.aload_n 1, 1) := by decide +kernel
theorem dX1_copyFrom_10 : decode cX1_copyFrom 10 = .ok (.getfield 15, 3) := by decide +kernel
theorem dX1_copyFrom_13 : decode cX1_copyFrom 13 = .ok (.putfield 15, 3) := by decide +kernel
theorem dX1_copyFrom_16 : decode cX1_copyFrom 16 = .ok (.aload_n 0, 1) := by decide +kernel
theorem dX1_copyFrom_17 : decode cX1_copyFrom 17 = .ok (.getfield 27, 3) := by decide +kernel
theorem dX1_copyFrom_20 : decode cX1_copyFrom 20 = .ok (.aload_n 1, 1) := by decide +kernel
theorem dX1_copyFrom_21 : decode cX1_copyFrom 21 = .ok (.getfield 27, 3) := by decide +kernel
theorem dX1_copyFrom_24 : decode cX1_copyFrom 24 = .ok (.invokevirtual 37, 3) := by decide +kernel
theorem dX1_copyFrom_27 : decode cX1_copyFrom 27 = .ok (.aload_n 0, 1) := by decide +kernel
theorem dX1_copyFrom_28 : decode cX1_copyFrom 28 = .ok (.getfield 34, 3) := by decide +kernel
theorem dX1_copyFrom_31 : decode cX1_copyFrom 31 = .ok (.aload_n 1, 1) := by decide +kernel
theorem dX1_copyFrom_32 : decode cX1_copyFrom 32 = .ok (.getfield 34, 3) := by decide +kernel
theorem dX1_copyFrom_35 : decode cX1_copyFrom 35 = .ok (.invokevirtual 37, 3) := by decide +kernel
theorem dX1_copyFrom_38 : decode cX1_copyFrom 38 = .ok (.aload_n 0, 1) := by decide +kernel
theorem dX1_copyFrom_39 : decode cX1_copyFrom 39 = .ok (.aload_n 1, 1) := by decide +kernel
theorem dX1_copyFrom_40 : decode cX1_copyFrom 40 = .ok (.getfield 41, 3) := by decide +kernel
theorem dX1_copyFrom_43 : decode cX1_copyFrom 43 = .ok (.putfield 41, 3) := by decide +kernel
theorem dX1_copyFrom_46 : decode cX1_copyFrom 46 = .ok (.aload_n 0, 1) := by decide +kernel
theorem dX1_copyFrom_47 : decode cX1_copyFrom 47 = .ok (.aload_n 1, 1) := by decide +kernel
theorem dX1_copyFrom_48 : decode cX1_copyFrom 48 = .ok (.getfield 44, 3) := by decide +kernel
theorem dX1_copyFrom_51 : decode cX1_copyFrom 51 = .ok (.putfield 44, 3) := by decide +kernel
theorem dX1_copyFrom_54 : decode cX1_copyFrom 54 = .ok (.aload_n 0, 1) := by decide +kernel
theorem dX1_copyFrom_55 : decode cX1_copyFrom 55 = .ok (.aload_n 1, 1) := by decide +kernel
theorem dX1_copyFrom_56 : decode cX1_copyFrom 56 = .ok (.getfield 48, 3) := by decide +kernel
theorem dX1_copyFrom_59 : decode cX1_copyFrom 59 = .ok (.putfield 48, 3) := by decide +kernel
theorem dX1_copyFrom_62 : decode cX1_copyFrom 62 = .ok (.aload_n 0, 1) := by decide +kernel
theorem dX1_copyFrom_63 : decode cX1_copyFrom 63 = .ok (.aload_n 1, 1) := by decide +kernel
theorem dX1_copyFrom_64 : decode cX1_copyFrom 64 = .ok (.getfield 51, 3) := by decide +kernel
theorem dX1_copyFrom_67 : decode cX1_copyFrom 67 = .ok (.putfield 51, 3) := by decide +kernel
theorem dX1_copyFrom_70 : decode cX1_copyFrom 70 = .ok (.aload_n 0, 1) := by decide +kernel
theorem dX1_copyFrom_71 : decode cX1_copyFrom 71 = .ok (.aload_n 1, 1) := by decide +kernel
theorem dX1_copyFrom_72 : decode cX1_copyFrom 72 = .ok (.getfield 54, 3) := by decide +kernel
theorem dX1_copyFrom_75 : decode cX1_copyFrom 75 = .ok (.putfield 54, 3) := by decide +kernel
theorem dX1_copyFrom_78 : decode cX1_copyFrom 78 = .ok (.aload_n 0, 1) := by decide +kernel
theorem dX1_copyFrom_79 : decode cX1_copyFrom 79 = .ok (.aload_n 1, 1) := by decide +kernel
theorem dX1_copyFrom_80 : decode cX1_copyFrom 80 = .ok (.getfield 57, 3) := by decide +kernel
theorem dX1_copyFrom_83 : decode cX1_copyFrom 83 = .ok (.putfield 57, 3) := by decide +kernel
theorem dX1_copyFrom_86 : decode cX1_copyFrom 86 = .ok (.aload_n 0, 1) := by decide +kernel
theorem dX1_copyFrom_87 : decode cX1_copyFrom 87 = .ok (.aload_n 1, 1) := by decide +kernel
theorem dX1_copyFrom_88 : decode cX1_copyFrom 88 = .ok (.getfield 60, 3) := by decide +kernel
theorem dX1_copyFrom_91 : decode cX1_copyFrom 91 = .ok (.putfield 60, 3) := by decide +kernel
theorem dX1_copyFrom_94 : decode cX1_copyFrom 94 = .ok (.return_, 1) := by decide +kernel
theorem dX1_hasRod_0 : decode cX1_hasRod 0 = .ok (.iload_n 1, 1) := by decide +kernel
theorem dX1_hasRod_1 : decode cX1_hasRod 1 = .ok (.ifCond .lt 15, 3) := by decide +kernel
theorem dX1_hasRod_4 : decode cX1_hasRod 4 = .ok (.iload_n 1, 1) := by decide +kernel
theorem dX1_hasRod_5 : decode cX1_hasRod 5 = .ok (.aload_n 0, 1) := by decide +kernel
theorem dX1_hasRod_6 : decode cX1_hasRod 6 = .ok (.getfield 15, 3) := by decide +kernel
theorem dX1_hasRod_9 : decode cX1_hasRod 9 = .ok (.if_icmp .ge 7, 3) := by decide +kernel
theorem dX1_hasRod_12 : decode cX1_hasRod 12 = .ok (.iconst 1, 1) := by decide +kernel
theorem dX1_hasRod_13 : decode cX1_hasRod 13 = .ok (.goto 4, 3) := by decide +kernel
theorem dX1_hasRod_16 : decode cX1_hasRod 16 = .ok (.iconst 0, 1) := by decide +kernel
theorem dX1_hasRod_17 : decode cX1_hasRod 17 = .ok (.ireturn, 1) := by decide +kernel
theorem dX1_hasRodsFor_0 : decode cX1_hasRodsFor 0 = .ok (.lconst 1, 1) := by decide +kernel
theorem dX1_hasRodsFor_1 : decode cX1_hasRodsFor 1 = .ok (.lstore_n 3, 1) := by decide +kernel
theorem dX1_hasRodsFor_2 : decode cX1_hasRodsFor 2 = .ok (.iconst 0, 1) := by decide +kernel
theorem dX1_hasRodsFor_3 : decode cX1_hasRodsFor 3 = .ok (.istore 5, 2) := by decide +kernel
theorem dX1_hasRodsFor_5 : decode cX1_hasRodsFor 5 = .ok (.iload 5, 2) := by decide +kernel
theorem dX1_hasRodsFor_7 : decode cX1_hasRodsFor 7 = .ok (.aload_n 0, 1) := by decide +kernel
theorem dX1_hasRodsFor_8 : decode cX1_hasRodsFor 8 = .ok (.getfield 15, 3) := by decide +kernel
theorem dX1_hasRodsFor_11 : decode cX1_hasRodsFor 11 = .ok (.if_icmp .ge 15, 3) := by decide +kernel
theorem dX1_hasRodsFor_14 : decode cX1_hasRodsFor 14 = .ok (.lload_n 3, 1) := by decide +kernel
theorem dX1_hasRodsFor_15 : decode cX1_hasRodsFor 15 = .ok (.ldc2_w 63, 3) := by decide +kernel
theorem dX1_hasRodsFor_18 : decode cX1_hasRodsFor 18 = .ok (.lmul, 1) := by decide +kernel
theorem dX1_hasRodsFor_19 : decode cX1_hasRodsFor 19 = .ok (.lstore_n 3, 1) := by decide +kernel
theorem dX1_hasRodsFor_20 : decode cX1_hasRodsFor 20 = .ok (.iinc 5 1, 3) := by decide +kernel
theorem dX1_hasRodsFor_23 : decode cX1_hasRodsFor 23 = .ok (.goto (-18), 3) := by decide +kernel
theorem dX1_hasRodsFor_26 : decode cX1_hasRodsFor 26 = .ok (.lload_n 1, 1) := by decide +kernel
theorem dX1_hasRodsFor_27 : decode cX1_hasRodsFor 27 = .ok (.lconst 0, 1) := by decide +kernel
theorem dX1_hasRodsFor_28 : decode cX1_hasRodsFor 28 = .ok (.lcmp, 1) := by decide +kernel
theorem dX1_hasRodsFor_29 : decode cX1_hasRodsFor 29 = .ok (.ifCond .lt 13, 3) := by decide +kernel
theorem dX1_hasRodsFor_32 : decode cX1_hasRodsFor 32 = .ok (.lload_n 1, 1) := by decide +kernel
theorem dX1_hasRodsFor_33 : decode cX1_hasRodsFor 33 = .ok (.lload_n 3, 1) := by decide +kernel
theorem dX1_hasRodsFor_34 : decode cX1_hasRodsFor 34 = .ok (.lcmp, 1) := by decide +kernel
theorem dX1_hasRodsFor_35 : decode cX1_hasRodsFor 35 = .ok (.ifCond .ge 7, 3) := by decide +kernel
theorem dX1_hasRodsFor_38 : decode cX1_hasRodsFor 38 = .ok (.iconst 1, 1) := by decide +kernel
theorem dX1_hasRodsFor_39 : decode cX1_hasRodsFor 39 = .ok (.goto 4, 3) := by decide +kernel
theorem dX1_hasRodsFor_42 : decode cX1_hasRodsFor 42 = .ok (.iconst 0, 1) := by decide +kernel
theorem dX1_hasRodsFor_43 : decode cX1_hasRodsFor 43 = .ok (.ireturn, 1) := by decide +kernel
theorem dX1_valueAt_0 : decode cX1_valueAt 0 = .ok (.iconst 5, 1) := by decide +kernel
theorem dX1_valueAt_1 : decode cX1_valueAt 1 = .ok (.aload_n 0, 1) := by decide +kernel
theorem dX1_valueAt_2 : decode cX1_valueAt 2 = .ok (.getfield 27, 3) := by decide +kernel
theorem dX1_valueAt_5 : decode cX1_valueAt 5 = .ok (.iload_n 1, 1) := by decide +kernel
theorem dX1_valueAt_6 : decode cX1_valueAt 6 = .ok (.invokevirtual 65, 3) := by decide +kernel
theorem dX1_valueAt_9 : decode cX1_valueAt 9 = .ok (.imul, 1) := by decide +kernel
theorem dX1_valueAt_10 : decode cX1_valueAt 10 = .ok (.aload_n 0, 1) := by decide +kernel
theorem dX1_valueAt_11 : decode cX1_valueAt 11 = .ok (.getfield 34, 3) := by decide +kernel
theorem dX1_valueAt_14 : decode cX1_valueAt 14 = .ok (.iload_n 1, 1) := by decide +kernel
theorem dX1_valueAt_15 : decode cX1_valueAt 15 = .ok (.invokevirtual 65, 3) := by decide +kernel
theorem dX1_valueAt_18 : decode cX1_valueAt 18 = .ok (.iadd, 1) := by decide +kernel
theorem dX1_valueAt_19 : decode cX1_valueAt 19 = .ok (.ireturn, 1) := by decide +kernel
theorem dX1_mostOfRod_0 : decode cX1_mostOfRod 0 = .ok (.iconst 5, 1) := by decide +kernel
theorem dX1_mostOfRod_1 : decode cX1_mostOfRod 1 = .ok (.aload_n 0, 1) := by decide +kernel
theorem dX1_mostOfRod_2 : decode cX1_mostOfRod 2 = .ok (.getfield 27, 3) := by decide +kernel
theorem dX1_mostOfRod_5 : decode cX1_mostOfRod 5 = .ok (.getfield 69, 3) := by decide +kernel
theorem dX1_mostOfRod_8 : decode cX1_mostOfRod 8 = .ok (.imul, 1) := by decide +kernel
theorem dX1_mostOfRod_9 : decode cX1_mostOfRod 9 = .ok (.aload_n 0, 1) := by decide +kernel
theorem dX1_mostOfRod_10 : decode cX1_mostOfRod 10 = .ok (.getfield 34, 3) := by decide +kernel
theorem dX1_mostOfRod_13 : decode cX1_mostOfRod 13 = .ok (.getfield 69, 3) := by decide +kernel
theorem dX1_mostOfRod_16 : decode cX1_mostOfRod 16 = .ok (.iadd, 1) := by decide +kernel
theorem dX1_mostOfRod_17 : decode cX1_mostOfRod 17 = .ok (.ireturn, 1) := by decide +kernel
theorem dX1_shownNumber_0 : decode cX1_shownNumber 0 = .ok (.lconst 0, 1) := by decide +kernel
theorem dX1_shownNumber_1 : decode cX1_shownNumber 1 = .ok (.lstore_n 1, 1) := by decide +kernel
theorem dX1_shownNumber_2 : decode cX1_shownNumber 2 = .ok (.aload_n 0, 1) := by decide +kernel
theorem dX1_shownNumber_3 : decode cX1_shownNumber 3 = .ok (.getfield 15, 3) := by decide +kernel
theorem dX1_shownNumber_6 : decode cX1_shownNumber 6 = .ok (.iconst 1, 1) := by decide +kernel
theorem dX1_shownNumber_7 : decode cX1_shownNumber 7 = .ok (.isub, 1) := by decide +kernel
theorem dX1_shownNumber_8 : decode cX1_shownNumber 8 = .ok (.istore_n 3, 1) := by decide +kernel
theorem dX1_shownNumber_9 : decode cX1_shownNumber 9 = .ok (.iload_n 3, 1) := by decide +kernel
theorem dX1_shownNumber_10 : decode cX1_shownNumber 10 = .ok (.ifCond .lt 22, 3) := by decide +kernel
theorem dX1_shownNumber_13 : decode cX1_shownNumber 13 = .ok (.lload_n 1, 1) := by decide +kernel
theorem dX1_shownNumber_14 : decode cX1_shownNumber 14 = .ok (.ldc2_w 63, 3) := by decide +kernel
theorem dX1_shownNumber_17 : decode cX1_shownNumber 17 = .ok (.lmul, 1) := by decide +kernel
theorem dX1_shownNumber_18 : decode cX1_shownNumber 18 = .ok (.aload_n 0, 1) := by decide +kernel
theorem dX1_shownNumber_19 : decode cX1_shownNumber 19 = .ok (.iload_n 3, 1) := by decide +kernel
theorem dX1_shownNumber_20 : decode cX1_shownNumber 20 = .ok (.invokevirtual 72, 3) := by decide +kernel
theorem dX1_shownNumber_23 : decode cX1_shownNumber 23 = .ok (.i2l, 1) := by decide +kernel
theorem dX1_shownNumber_24 : decode cX1_shownNumber 24 = .ok (.ladd, 1) := by decide +kernel
theorem dX1_shownNumber_25 : decode cX1_shownNumber 25 = .ok (.lstore_n 1, 1) := by decide +kernel
theorem dX1_shownNumber_26 : decode cX1_shownNumber 26 = .ok (.iinc 3 (-1), 3) := by decide +kernel
theorem dX1_shownNumber_29 : decode cX1_shownNumber 29 = .ok (.goto (-20), 3) := by decide +kernel
theorem dX1_shownNumber_32 : decode cX1_shownNumber 32 = .ok (.lload_n 1, 1) := by decide +kernel
theorem dX1_shownNumber_33 : decode cX1_shownNumber 33 = .ok (.lreturn, 1) := by decide +kernel
theorem dX1_isTidy_0 : decode cX1_isTidy 0 = .ok (.iconst 0, 1) := by decide +kernel
theorem dX1_isTidy_1 : decode cX1_isTidy 1 = .ok (.istore_n 1, 1) := by decide +kernel
theorem dX1_isTidy_2 : decode cX1_isTidy 2 = .ok (.iload_n 1, 1) := by decide +kernel
theorem dX1_isTidy_3 : decode cX1_isTidy 3 = .ok (.aload_n 0, 1) := by decide +kernel
theorem dX1_isTidy_4 : decode cX1_isTidy 4 = .ok (.getfield 15, 3) := by decide +kernel
theorem dX1_isTidy_7 : decode cX1_isTidy 7 = .ok (.if_icmp .ge 21, 3) := by decide +kernel
theorem dX1_isTidy_10 : decode cX1_isTidy 10 = .ok (.aload_n 0, 1) := by decide +kernel
theorem dX1_isTidy_11 : decode cX1_isTidy 11 = .ok (.iload_n 1, 1) := by decide +kernel
theorem dX1_isTidy_12 : decode cX1_isTidy 12 = .ok (.invokevirtual 72, 3) := by decide +kernel
theorem dX1_isTidy_15 : decode cX1_isTidy 15 = .ok (.bipush 9, 2) := by decide +kernel
theorem dX1_isTidy_17 : decode cX1_isTidy 17 = .ok (.if_icmp .le 5, 3) := by decide +kernel
theorem dX1_isTidy_20 : decode cX1_isTidy 20 = .ok (.iconst 0, 1) := by decide +kernel
theorem dX1_isTidy_21 : decode cX1_isTidy 21 = .ok (.ireturn, 1) := by decide +kernel
theorem dX1_isTidy_22 : decode cX1_isTidy 22 = .ok (.iinc 1 1, 3) := by decide +kernel
theorem dX1_isTidy_25 : decode cX1_isTidy 25 = .ok (.goto (-23), 3) := by decide +kernel
theorem dX1_isTidy_28 : decode cX1_isTidy 28 = .ok (.iconst 1, 1) := by decide +kernel
theorem dX1_isTidy_29 : decode cX1_isTidy 29 = .ok (.ireturn, 1) := by decide +kernel
theorem dX1_moveHand_0 : decode cX1_moveHand 0 = .ok (.iload_n 1, 1) := by decide +kernel
theorem dX1_moveHand_1 : decode cX1_moveHand 1 = .ok (.aload_n 0, 1) := by decide +kernel
theorem dX1_moveHand_2 : decode cX1_moveHand 2 = .ok (.getfield 41, 3) := by decide +kernel
theorem dX1_moveHand_5 : decode cX1_moveHand 5 = .ok (.isub, 1) := by decide +kernel
theorem dX1_moveHand_6 : decode cX1_moveHand 6 = .ok (.invokestatic 75, 3) := by decide +kernel
theorem dX1_moveHand_9 : decode cX1_moveHand 9 = .ok (.istore_n 2, 1) := by decide +kernel
theorem dX1_moveHand_10 : decode cX1_moveHand 10 = .ok (.iload_n 2, 1) := by decide +kernel
theorem dX1_moveHand_11 : decode cX1_moveHand 11 = .ok (.ifCond .le 22, 3) := by decide +kernel
theorem dX1_moveHand_14 : decode cX1_moveHand 14 = .ok (.aload_n 0, 1) := by decide +kernel
theorem dX1_moveHand_15 : decode cX1_moveHand 15 = .ok (.aload_n 0, 1) := by decide +kernel
theorem dX1_moveHand_16 : decode cX1_moveHand 16 = .ok (.getfield 44, 3) := by decide +kernel
theorem dX1_moveHand_19 : decode cX1_moveHand 19 = .ok (.ldc 80, 2) := by decide +kernel
theorem dX1_moveHand_21 : decode cX1_moveHand 21 = .ok (.iload_n 2, 1) := by decide +kernel
theorem dX1_moveHand_22 : decode cX1_moveHand 22 = .ok (.i2f, 1) := by decide +kernel
theorem dX1_moveHand_23 : decode cX1_moveHand 23 = .ok (.fmul, 1) := by decide +kernel
theorem dX1_moveHand_24 : decode cX1_moveHand 24 = .ok (.fadd, 1) := by decide +kernel
theorem dX1_moveHand_25 : decode cX1_moveHand 25 = .ok (.putfield 44, 3) := by decide +kernel
theorem dX1_moveHand_28 : decode cX1_moveHand 28 = .ok (.aload_n 0, 1) := by decide +kernel
theorem dX1_moveHand_29 : decode cX1_moveHand 29 = .ok (.iload_n 1, 1) := by decide +kernel
theorem dX1_moveHand_30 : decode cX1_moveHand 30 = .ok (.putfield 41, 3) := by decide +kernel
theorem dX1_moveHand_33 : decode cX1_moveHand 33 = .ok (.return_, 1) := by decide +kernel
theorem dX1_pushDeck_0 : decode cX1_pushDeck 0 = .ok (.iload_n 2, 1) := by decide +kernel
theorem dX1_pushDeck_1 : decode cX1_pushDeck 1 = .ok (.ifCond .lt 21, 3) := by decide +kernel
theorem dX1_pushDeck_4 : decode cX1_pushDeck 4 = .ok (.iload_n 2, 1) := by decide +kernel
theorem dX1_pushDeck_5 : decode cX1_pushDeck 5 = .ok (.aload_n 1, 1) := by decide +kernel
theorem dX1_pushDeck_6 : decode cX1_pushDeck 6 = .ok (.getfield 81, 3) := by decide +kernel
theorem dX1_pushDeck_9 : decode cX1_pushDeck 9 = .ok (.arraylength, 1) := by decide +kernel
theorem dX1_pushDeck_10 : decode cX1_pushDeck 10 = .ok (.if_icmp .ge 12, 3) := by decide +kernel
theorem dX1_pushDeck_13 : decode cX1_pushDeck 13 = .ok (.iload_n 2, 1) := by decide +kernel
theorem dX1_pushDeck_14 : decode cX1_pushDeck 14 = .ok (.aload_n 1, 1) := by decide +kernel
theorem dX1_pushDeck_15 : decode cX1_pushDeck 15 = .ok (.getfield 84, 3) := by decide +kernel
theorem dX1_pushDeck_18 : decode cX1_pushDeck 18 = .ok (.arraylength, 1) := by decide +kernel
theorem dX1_pushDeck_19 : decode cX1_pushDeck 19 = .ok (.if_icmp .lt 4, 3) := by decide +kernel
theorem dX1_pushDeck_22 : decode cX1_pushDeck 22 = .ok (.return_, 1) := by decide +kernel
theorem dX1_pushDeck_23 : decode cX1_pushDeck 23 = .ok (.iload_n 3, 1) := by decide +kernel
theorem dX1_pushDeck_24 : decode cX1_pushDeck 24 = .ok (.invokestatic 75, 3) := by decide +kernel
theorem dX1_pushDeck_27 : decode cX1_pushDeck 27 = .ok (.istore 4, 2) := by decide +kernel
theorem dX1_pushDeck_29 : decode cX1_pushDeck 29 = .ok (.ldc 87, 2) := by decide +kernel
theorem dX1_pushDeck_31 : decode cX1_pushDeck 31 = .ok (.ldc 88, 2) := by decide +kernel
theorem dX1_pushDeck_33 : decode cX1_pushDeck 33 = .ok (.iload 4, 2) := by decide +kernel
theorem dX1_pushDeck_35 : decode cX1_pushDeck 35 = .ok (.i2f, 1) := by decide +kernel
theorem dX1_pushDeck_36 : decode cX1_pushDeck 36 = .ok (.fmul, 1) := by decide +kernel
theorem dX1_pushDeck_37 : decode cX1_pushDeck 37 = .ok (.fadd, 1) := by decide +kernel
theorem dX1_pushDeck_38 : decode cX1_pushDeck 38 = .ok (.fstore 5, 2) := by decide +kernel
theorem dX1_pushDeck_40 : decode cX1_pushDeck 40 = .ok (.aload_n 1, 1) := by decide +kernel
theorem dX1_pushDeck_41 : decode cX1_pushDeck 41 = .ok (.getfield 84, 3) := by decide +kernel
theorem dX1_pushDeck_44 : decode cX1_pushDeck 44 = .ok (.iload_n 2, 1) := by decide +kernel
theorem dX1_pushDeck_45 : decode cX1_pushDeck 45 = .ok (.iaload, 1) := by decide +kernel
theorem dX1_pushDeck_46 : decode cX1_pushDeck 46 = .ok (.bipush 40, 2) := by decide +kernel
theorem dX1_pushDeck_48 : decode cX1_pushDeck 48 = .ok (.if_icmp .lt 9, 3) := by decide +kernel
theorem dX1_pushDeck_51 : decode cX1_pushDeck 51 = .ok (.fload 5, 2) := by decide +kernel
theorem dX1_pushDeck_53 : decode cX1_pushDeck 53 = .ok (.fconst 2, 1) := by decide +kernel
theorem dX1_pushDeck_54 : decode cX1_pushDeck 54 = .ok (.fmul, 1) := by decide +kernel
theorem dX1_pushDeck_55 : decode cX1_pushDeck 55 = .ok (.fstore 5, 2) := by decide +kernel
theorem dX1_pushDeck_57 : decode cX1_pushDeck 57 = .ok (.aload_n 0, 1) := by decide +kernel
theorem dX1_pushDeck_58 : decode cX1_pushDeck 58 = .ok (.aload_n 0, 1) := by decide +kernel
theorem dX1_pushDeck_59 : decode cX1_pushDeck 59 = .ok (.getfield 44, 3) := by decide +kernel
theorem dX1_pushDeck_62 : decode cX1_pushDeck 62 = .ok (.fload 5, 2) := by decide +kernel
theorem dX1_pushDeck_64 : decode cX1_pushDeck 64 = .ok (.fadd, 1) := by decide +kernel
theorem dX1_pushDeck_65 : decode cX1_pushDeck 65 = .ok (.putfield 44, 3) := by decide +kernel
theorem dX1_pushDeck_68 : decode cX1_pushDeck 68 = .ok (.aload_n 1, 1) := by decide +kernel
theorem dX1_pushDeck_69 : decode cX1_pushDeck 69 = .ok (.getfield 81, 3) := by decide +kernel
theorem dX1_pushDeck_72 : decode cX1_pushDeck 72 = .ok (.iload_n 2, 1) := by decide +kernel
theorem dX1_pushDeck_73 : decode cX1_pushDeck 73 = .ok (.dup2, 1) := by decide +kernel
theorem dX1_pushDeck_74 : decode cX1_pushDeck 74 = .ok (.iaload, 1) := by decide +kernel
theorem dX1_pushDeck_75 : decode cX1_pushDeck 75 = .ok (.iload_n 3, 1) := by decide +kernel
theorem dX1_pushDeck_76 : decode cX1_pushDeck 76 = .ok (.iadd, 1) := by decide +kernel
theorem dX1_pushDeck_77 : decode cX1_pushDeck 77 = .ok (.iastore, 1) := by decide +kernel
theorem dX1_pushDeck_78 : decode cX1_pushDeck 78 = .ok (.aload_n 1, 1) := by decide +kernel
theorem dX1_pushDeck_79 : decode cX1_pushDeck 79 = .ok (.getfield 84, 3) := by decide +kernel
theorem dX1_pushDeck_82 : decode cX1_pushDeck 82 = .ok (.iload_n 2, 1) := by decide +kernel
theorem dX1_pushDeck_83 : decode cX1_pushDeck 83 = .ok (.dup2, 1) := by decide +kernel
theorem dX1_pushDeck_84 : decode cX1_pushDeck 84 = .ok (.iaload, 1) := by decide +kernel
theorem dX1_pushDeck_85 : decode cX1_pushDeck 85 = .ok (.iload 4, 2) := by decide +kernel
theorem dX1_pushDeck_87 : decode cX1_pushDeck 87 = .ok (.iadd, 1) := by decide +kernel
theorem dX1_pushDeck_88 : decode cX1_pushDeck 88 = .ok (.iastore, 1) := by decide +kernel
theorem dX1_pushDeck_89 : decode cX1_pushDeck 89 = .ok (.aload_n 0, 1) := by decide +kernel
theorem dX1_pushDeck_90 : decode cX1_pushDeck 90 = .ok (.dup, 1) := by decide +kernel
theorem dX1_pushDeck_91 : decode cX1_pushDeck 91 = .ok (.getfield 48, 3) := by decide +kernel
theorem dX1_pushDeck_94 : decode cX1_pushDeck 94 = .ok (.iconst 1, 1) := by decide +kernel
theorem dX1_pushDeck_95 : decode cX1_pushDeck 95 = .ok (.iadd, 1) := by decide +kernel
theorem dX1_pushDeck_96 : decode cX1_pushDeck 96 = .ok (.putfield 48, 3) := by decide +kernel
theorem dX1_pushDeck_99 : decode cX1_pushDeck 99 = .ok (.aload_n 0, 1) := by decide +kernel
theorem dX1_pushDeck_100 : decode cX1_pushDeck 100 = .ok (.dup, 1) := by decide +kernel
theorem dX1_pushDeck_101 : decode cX1_pushDeck 101 = .ok (.getfield 51, 3) := by decide +kernel
theorem dX1_pushDeck_104 : decode cX1_pushDeck 104 = .ok (.iload 4, 2) := by decide +kernel
theorem dX1_pushDeck_106 : decode cX1_pushDeck 106 = .ok (.iadd, 1) := by decide +kernel
theorem dX1_pushDeck_107 : decode cX1_pushDeck 107 = .ok (.putfield 51, 3) := by decide +kernel
theorem dX1_pushDeck_110 : decode cX1_pushDeck 110 = .ok (.return_, 1) := by decide +kernel
theorem dX1_setRod_0 : decode cX1_setRod 0 = .ok (.aload_n 0, 1) := by decide +kernel
theorem dX1_setRod_1 : decode cX1_setRod 1 = .ok (.getfield 27, 3) := by decide +kernel
theorem dX1_setRod_4 : decode cX1_setRod 4 = .ok (.iload_n 1, 1) := by decide +kernel
theorem dX1_setRod_5 : decode cX1_setRod 5 = .ok (.invokevirtual 65, 3) := by decide +kernel
theorem dX1_setRod_8 : decode cX1_setRod 8 = .ok (.istore_n 3, 1) := by decide +kernel
theorem dX1_setRod_9 : decode cX1_setRod 9 = .ok (.aload_n 0, 1) := by decide +kernel
theorem dX1_setRod_10 : decode cX1_setRod 10 = .ok (.getfield 34, 3) := by decide +kernel
theorem dX1_setRod_13 : decode cX1_setRod 13 = .ok (.iload_n 1, 1) := by decide +kernel
theorem dX1_setRod_14 : decode cX1_setRod 14 = .ok (.invokevirtual 65, 3) := by decide +kernel
theorem dX1_setRod_17 : decode cX1_setRod 17 = .ok (.istore 4, 2) := by decide +kernel
theorem dX1_setRod_19 : decode cX1_setRod 19 = .ok (.aload_n 0, 1) := by decide +kernel
theorem dX1_setRod_20 : decode cX1_setRod 20 = .ok (.iload_n 2, 1) := by decide +kernel
theorem dX1_setRod_21 : decode cX1_setRod 21 = .ok (.iload_n 3, 1) := by decide +kernel
theorem dX1_setRod_22 : decode cX1_setRod 22 = .ok (.iload 4, 2) := by decide +kernel
theorem dX1_setRod_24 : decode cX1_setRod 24 = .ok (.invokevirtual 89, 3) := by decide +kernel
theorem dX1_setRod_27 : decode cX1_setRod 27 = .ok (.istore 5, 2) := by decide +kernel
theorem dX1_setRod_29 : decode cX1_setRod 29 = .ok (.iload 5, 2) := by decide +kernel
theorem dX1_setRod_31 : decode cX1_setRod 31 = .ok (.iconst (-1), 1) := by decide +kernel
theorem dX1_setRod_32 : decode cX1_setRod 32 = .ok (.if_icmp .ne 4, 3) := by decide +kernel
theorem dX1_setRod_35 : decode cX1_setRod 35 = .ok (.return_, 1) := by decide +kernel
theorem dX1_setRod_36 : decode cX1_setRod 36 = .ok (.iload 5, 2) := by decide +kernel
theorem dX1_setRod_38 : decode cX1_setRod 38 = .ok (.iload_n 3, 1) := by decide +kernel
theorem dX1_setRod_39 : decode cX1_setRod 39 = .ok (.isub, 1) := by decide +kernel
theorem dX1_setRod_40 : decode cX1_setRod 40 = .ok (.istore 6, 2) := by decide +kernel
theorem dX1_setRod_42 : decode cX1_setRod 42 = .ok (.iload_n 2, 1) := by decide +kernel
theorem dX1_setRod_43 : decode cX1_setRod 43 = .ok (.iconst 5, 1) := by decide +kernel
theorem dX1_setRod_44 : decode cX1_setRod 44 = .ok (.iload 5, 2) := by decide +kernel
theorem dX1_setRod_46 : decode cX1_setRod 46 = .ok (.imul, 1) := by decide +kernel
theorem dX1_setRod_47 : decode cX1_setRod 47 = .ok (.isub, 1) := by decide +kernel
theorem dX1_setRod_48 : decode cX1_setRod 48 = .ok (.iload 4, 2) := by decide +kernel
theorem dX1_setRod_50 : decode cX1_setRod 50 = .ok (.isub, 1) := by decide +kernel
theorem dX1_setRod_51 : decode cX1_setRod 51 = .ok (.istore 7, 2) := by decide +kernel
theorem dX1_setRod_53 : decode cX1_setRod 53 = .ok (.iload 6, 2) := by decide +kernel
theorem dX1_setRod_55 : decode cX1_setRod 55 = .ok (.ifCond .ne 9, 3) := by decide +kernel
theorem dX1_setRod_58 : decode cX1_setRod 58 = .ok (.iload 7, 2) := by decide +kernel
theorem dX1_setRod_60 : decode cX1_setRod 60 = .ok (.ifCond .ne 4, 3) := by decide +kernel
theorem dX1_setRod_63 : decode cX1_setRod 63 = .ok (.return_, 1) := by decide +kernel
theorem dX1_setRod_64 : decode cX1_setRod 64 = .ok (.aload_n 0, 1) := by decide +kernel
theorem dX1_setRod_65 : decode cX1_setRod 65 = .ok (.iload_n 1, 1) := by decide +kernel
theorem dX1_setRod_66 : decode cX1_setRod 66 = .ok (.invokevirtual 93, 3) := by decide +kernel
theorem dX1_setRod_69 : decode cX1_setRod 69 = .ok (.iload 6, 2) := by decide +kernel
theorem dX1_setRod_71 : decode cX1_setRod 71 = .ok (.ifCond .eq 14, 3) := by decide +kernel
theorem dX1_setRod_74 : decode cX1_setRod 74 = .ok (.aload_n 0, 1) := by decide +kernel
theorem dX1_setRod_75 : decode cX1_setRod 75 = .ok (.aload_n 0, 1) := by decide +kernel
theorem dX1_setRod_76 : decode cX1_setRod 76 = .ok (.getfield 27, 3) := by decide +kernel
theorem dX1_setRod_79 : decode cX1_setRod 79 = .ok (.iload_n 1, 1) := by decide +kernel
theorem dX1_setRod_80 : decode cX1_setRod 80 = .ok (.iload 6, 2) := by decide +kernel
theorem dX1_setRod_82 : decode cX1_setRod 82 = .ok (.invokevirtual 96, 3) := by decide +kernel
theorem dX1_setRod_85 : decode cX1_setRod 85 = .ok (.iload 7, 2) := by decide +kernel
theorem dX1_setRod_87 : decode cX1_setRod 87 = .ok (.ifCond .eq 14, 3) := by decide +kernel
theorem dX1_setRod_90 : decode cX1_setRod 90 = .ok (.aload_n 0, 1) := by decide +kernel
theorem dX1_setRod_91 : decode cX1_setRod 91 = .ok (.aload_n 0, 1) := by decide +kernel
theorem dX1_setRod_92 : decode cX1_setRod 92 = .ok (.getfield 34, 3) := by decide +kernel
theorem dX1_setRod_95 : decode cX1_setRod 95 = .ok (.iload_n 1, 1) := by decide +kernel
theorem dX1_setRod_96 : decode cX1_setRod 96 = .ok (.iload 7, 2) := by decide +kernel
theorem dX1_setRod_98 : decode cX1_setRod 98 = .ok (.invokevirtual 96, 3) := by decide +kernel
theorem dX1_setRod_101 : decode cX1_setRod 101 = .ok (.return_, 1) := by decide +kernel
theorem dX1_bestUp_0 : decode cX1_bestUp 0 = .ok (.iconst (-1), 1) := by decide +kernel
theorem dX1_bestUp_1 : decode cX1_bestUp 1 = .ok (.istore 4, 2) := by decide +kernel
theorem dX1_bestUp_3 : decode cX1_bestUp 3 = .ok (.iconst 0, 1) := by decide +kernel
theorem dX1_bestUp_4 : decode cX1_bestUp 4 = .ok (.istore 5, 2) := by decide +kernel
theorem dX1_bestUp_6 : decode cX1_bestUp 6 = .ok (.iconst 0, 1) := by decide +kernel
theorem dX1_bestUp_7 : decode cX1_bestUp 7 = .ok (.istore 6, 2) := by decide +kernel
theorem dX1_bestUp_9 : decode cX1_bestUp 9 = .ok (.aload_n 0, 1) := by decide +kernel
theorem dX1_bestUp_10 : decode cX1_bestUp 10 = .ok (.getfield 27, 3) := by decide +kernel
theorem dX1_bestUp_13 : decode cX1_bestUp 13 = .ok (.getfield 69, 3) := by decide +kernel
theorem dX1_bestUp_16 : decode cX1_bestUp 16 = .ok (.istore 7, 2) := by decide +kernel
theorem dX1_bestUp_18 : decode cX1_bestUp 18 = .ok (.iload 7, 2) := by decide +kernel
theorem dX1_bestUp_20 : decode cX1_bestUp 20 = .ok (.ifCond .lt 121, 3) := by decide +kernel
theorem dX1_bestUp_23 : decode cX1_bestUp 23 = .ok (.iload_n 1, 1) := by decide +kernel
theorem dX1_bestUp_24 : decode cX1_bestUp 24 = .ok (.iconst 5, 1) := by decide +kernel
theorem dX1_bestUp_25 : decode cX1_bestUp 25 = .ok (.iload 7, 2) := by decide +kernel
theorem dX1_bestUp_27 : decode cX1_bestUp 27 = .ok (.imul, 1) := by decide +kernel
theorem dX1_bestUp_28 : decode cX1_bestUp 28 = .ok (.isub, 1) := by decide +kernel
theorem dX1_bestUp_29 : decode cX1_bestUp 29 = .ok (.istore 8, 2) := by decide +kernel
theorem dX1_bestUp_31 : decode cX1_bestUp 31 = .ok (.iload 8, 2) := by decide +kernel
theorem dX1_bestUp_33 : decode cX1_bestUp 33 = .ok (.ifCond .lt 102, 3) := by decide +kernel
theorem dX1_bestUp_36 : decode cX1_bestUp 36 = .ok (.iload 8, 2) := by decide +kernel
theorem dX1_bestUp_38 : decode cX1_bestUp 38 = .ok (.aload_n 0, 1) := by decide +kernel
theorem dX1_bestUp_39 : decode cX1_bestUp 39 = .ok (.getfield 34, 3) := by decide +kernel
theorem dX1_bestUp_42 : decode cX1_bestUp 42 = .ok (.getfield 69, 3) := by decide +kernel
theorem dX1_bestUp_45 : decode cX1_bestUp 45 = .ok (.if_icmp .gt 90, 3) := by decide +kernel
theorem dX1_bestUp_48 : decode cX1_bestUp 48 = .ok (.iload 7, 2) := by decide +kernel
theorem dX1_bestUp_50 : decode cX1_bestUp 50 = .ok (.iload_n 2, 1) := by decide +kernel
theorem dX1_bestUp_51 : decode cX1_bestUp 51 = .ok (.isub, 1) := by decide +kernel
theorem dX1_bestUp_52 : decode cX1_bestUp 52 = .ok (.invokestatic 75, 3) := by decide +kernel
theorem dX1_bestUp_55 : decode cX1_bestUp 55 = .ok (.istore 9, 2) := by decide +kernel
theorem dX1_bestUp_57 : decode cX1_bestUp 57 = .ok (.iload 8, 2) := by decide +kernel
theorem dX1_bestUp_59 : decode cX1_bestUp 59 = .ok (.iload_n 3, 1) := by decide +kernel
theorem dX1_bestUp_60 : decode cX1_bestUp 60 = .ok (.isub, 1) := by decide +kernel
theorem dX1_bestUp_61 : decode cX1_bestUp 61 = .ok (.invokestatic 75, 3) := by decide +kernel
theorem dX1_bestUp_64 : decode cX1_bestUp 64 = .ok (.istore 10, 2) := by decide +kernel
theorem dX1_bestUp_66 : decode cX1_bestUp 66 = .ok (.iload 9, 2) := by decide +kernel
theorem dX1_bestUp_68 : decode cX1_bestUp 68 = .ok (.ifCond .le 7, 3) := by decide +kernel
theorem dX1_bestUp_71 : decode cX1_bestUp 71 = .ok (.iconst 1, 1) := by decide +kernel
theorem dX1_bestUp_72 : decode cX1_bestUp 72 = .ok (.goto 4, 3) := by decide +kernel
theorem dX1_bestUp_75 : decode cX1_bestUp 75 = .ok (.iconst 0, 1) := by decide +kernel
theorem dX1_bestUp_76 : decode cX1_bestUp 76 = .ok (.iload 10, 2) := by decide +kernel
theorem dX1_bestUp_78 : decode cX1_bestUp 78 = .ok (.ifCond .le 7, 3) := by decide +kernel
theorem dX1_bestUp_81 : decode cX1_bestUp 81 = .ok (.iconst 1, 1) := by decide +kernel
theorem dX1_bestUp_82 : decode cX1_bestUp 82 = .ok (.goto 4, 3) := by decide +kernel
theorem dX1_bestUp_85 : decode cX1_bestUp 85 = .ok (.iconst 0, 1) := by decide +kernel
theorem dX1_bestUp_86 : decode cX1_bestUp 86 = .ok (.iadd, 1) := by decide +kernel
theorem dX1_bestUp_87 : decode cX1_bestUp 87 = .ok (.istore 11, 2) := by decide +kernel
theorem dX1_bestUp_89 : decode cX1_bestUp 89 = .ok (.iload 9, 2) := by decide +kernel
theorem dX1_bestUp_91 : decode cX1_bestUp 91 = .ok (.iload 10, 2) := by decide +kernel
theorem dX1_bestUp_93 : decode cX1_bestUp 93 = .ok (.iadd, 1) := by decide +kernel
theorem dX1_bestUp_94 : decode cX1_bestUp 94 = .ok (.istore 12, 2) := by decide +kernel
theorem dX1_bestUp_96 : decode cX1_bestUp 96 = .ok (.iload 4, 2) := by decide +kernel
theorem dX1_bestUp_98 : decode cX1_bestUp 98 = .ok (.iconst (-1), 1) := by decide +kernel
theorem dX1_bestUp_99 : decode cX1_bestUp 99 = .ok (.if_icmp .eq 24, 3) := by decide +kernel
theorem dX1_bestUp_102 : decode cX1_bestUp 102 = .ok (.iload 11, 2) := by decide +kernel
theorem dX1_bestUp_104 : decode cX1_bestUp 104 = .ok (.iload 5, 2) := by decide +kernel
theorem dX1_bestUp_106 : decode cX1_bestUp 106 = .ok (.if_icmp .lt 17, 3) := by decide +kernel
theorem dX1_bestUp_109 : decode cX1_bestUp 109 = .ok (.iload 11, 2) := by decide +kernel
theorem dX1_bestUp_111 : decode cX1_bestUp 111 = .ok (.iload 5, 2) := by decide +kernel
theorem dX1_bestUp_113 : decode cX1_bestUp 113 = .ok (.if_icmp .ne 22, 3) := by decide +kernel
theorem dX1_bestUp_116 : decode cX1_bestUp 116 = .ok (.iload 12, 2) := by decide +kernel
theorem dX1_bestUp_118 : decode cX1_bestUp 118 = .ok (.iload 6, 2) := by decide +kernel
theorem dX1_bestUp_120 : decode cX1_bestUp 120 = .ok (.if_icmp .ge 15, 3) := by decide +kernel
theorem dX1_bestUp_123 : decode cX1_bestUp 123 = .ok (.iload 7, 2) := by decide +kernel
theorem dX1_bestUp_125 : decode cX1_bestUp 125 = .ok (.istore 4, 2) := by decide +kernel
theorem dX1_bestUp_127 : decode cX1_bestUp 127 = .ok (.iload 11, 2) := by decide +kernel
theorem dX1_bestUp_129 : decode cX1_bestUp 129 = .ok (.istore 5, 2) := by decide +kernel
theorem dX1_bestUp_131 : decode cX1_bestUp 131 = .ok (.iload 12, 2) := by decide +kernel
theorem dX1_bestUp_133 : decode cX1_bestUp 133 = .ok (.istore 6, 2) := by decide +kernel
theorem dX1_bestUp_135 : decode cX1_bestUp 135 = .ok (.iinc 7 (-1), 3) := by decide +kernel
theorem dX1_bestUp_138 : decode cX1_bestUp 138 = .ok (.goto (-120), 3) := by decide +kernel
theorem dX1_bestUp_141 : decode cX1_bestUp 141 = .ok (.iload 4, 2) := by decide +kernel
theorem dX1_bestUp_143 : decode cX1_bestUp 143 = .ok (.ireturn, 1) := by decide +kernel
theorem dX1_setRods_0 : decode cX1_setRods 0 = .ok (.aload_n 0, 1) := by decide +kernel
theorem dX1_setRods_1 : decode cX1_setRods 1 = .ok (.getfield 15, 3) := by decide +kernel
theorem dX1_setRods_4 : decode cX1_setRods 4 = .ok (.iconst 1, 1) := by decide +kernel
theorem dX1_setRods_5 : decode cX1_setRods 5 = .ok (.isub, 1) := by decide +kernel
theorem dX1_setRods_6 : decode cX1_setRods 6 = .ok (.istore_n 3, 1) := by decide +kernel
theorem dX1_setRods_7 : decode cX1_setRods 7 = .ok (.iload_n 3, 1) := by decide +kernel
theorem dX1_setRods_8 : decode cX1_setRods 8 = .ok (.ifCond .lt 19, 3) := by decide +kernel
theorem dX1_setRods_11 : decode cX1_setRods 11 = .ok (.aload_n 0, 1) := by decide +kernel
theorem dX1_setRods_12 : decode cX1_setRods 12 = .ok (.iload_n 3, 1) := by decide +kernel
theorem dX1_setRods_13 : decode cX1_setRods 13 = .ok (.lload_n 1, 1) := by decide +kernel
theorem dX1_setRods_14 : decode cX1_setRods 14 = .ok (.iload_n 3, 1) := by decide +kernel
theorem dX1_setRods_15 : decode cX1_setRods 15 = .ok (.invokestatic 100, 3) := by decide +kernel
theorem dX1_setRods_18 : decode cX1_setRods 18 = .ok (.invokevirtual 104, 3) := by decide +kernel
theorem dX1_setRods_21 : decode cX1_setRods 21 = .ok (.iinc 3 (-1), 3) := by decide +kernel
theorem dX1_setRods_24 : decode cX1_setRods 24 = .ok (.goto (-17), 3) := by decide +kernel
theorem dX1_setRods_27 : decode cX1_setRods 27 = .ok (.return_, 1) := by decide +kernel
theorem dX1_digitAt_0 : decode cX1_digitAt 0 = .ok (.lload_n 0, 1) := by decide +kernel
theorem dX1_digitAt_1 : decode cX1_digitAt 1 = .ok (.lstore_n 3, 1) := by decide +kernel
theorem dX1_digitAt_2 : decode cX1_digitAt 2 = .ok (.iconst 0, 1) := by decide +kernel
theorem dX1_digitAt_3 : decode cX1_digitAt 3 = .ok (.istore 5, 2) := by decide +kernel
theorem dX1_digitAt_5 : decode cX1_digitAt 5 = .ok (.iload 5, 2) := by decide +kernel
theorem dX1_digitAt_7 : decode cX1_digitAt 7 = .ok (.iload_n 2, 1) := by decide +kernel
theorem dX1_digitAt_8 : decode cX1_digitAt 8 = .ok (.if_icmp .ge 15, 3) := by decide +kernel
theorem dX1_digitAt_11 : decode cX1_digitAt 11 = .ok (.lload_n 3, 1) := by decide +kernel
theorem dX1_digitAt_12 : decode cX1_digitAt 12 = .ok (.ldc2_w 63, 3) := by decide +kernel
theorem dX1_digitAt_15 : decode cX1_digitAt 15 = .ok (.ldiv, 1) := by decide +kernel
theorem dX1_digitAt_16 : decode cX1_digitAt 16 = .ok (.lstore_n 3, 1) := by decide +kernel
theorem dX1_digitAt_17 : decode cX1_digitAt 17 = .ok (.iinc 5 1, 3) := by decide +kernel
theorem dX1_digitAt_20 : decode cX1_digitAt 20 = .ok (.goto (-15), 3) := by decide +kernel
theorem dX1_digitAt_23 : decode cX1_digitAt 23 = .ok (.lload_n 3, 1) := by decide +kernel
theorem dX1_digitAt_24 : decode cX1_digitAt 24 = .ok (.ldc2_w 63, 3) := by decide +kernel
theorem dX1_digitAt_27 : decode cX1_digitAt 27 = .ok (.lrem, 1) := by decide +kernel
theorem dX1_digitAt_28 : decode cX1_digitAt 28 = .ok (.l2i, 1) := by decide +kernel
theorem dX1_digitAt_29 : decode cX1_digitAt 29 = .ok (.ireturn, 1) := by decide +kernel
theorem dX1_bring_0 : decode cX1_bring 0 = .ok (.iload_n 2, 1) := by decide +kernel
theorem dX1_bring_1 : decode cX1_bring 1 = .ok (.istore_n 3, 1) := by decide +kernel
theorem dX1_bring_2 : decode cX1_bring 2 = .ok (.iload_n 1, 1) := by decide +kernel
theorem dX1_bring_3 : decode cX1_bring 3 = .ok (.istore 4, 2) := by decide +kernel
theorem dX1_bring_5 : decode cX1_bring 5 = .ok (.iload 4, 2) := by decide +kernel
theorem dX1_bring_7 : decode cX1_bring 7 = .ok (.aload_n 0, 1) := by decide +kernel
theorem dX1_bring_8 : decode cX1_bring 8 = .ok (.getfield 15, 3) := by decide +kernel
theorem dX1_bring_11 : decode cX1_bring 11 = .ok (.if_icmp .ge 66, 3) := by decide +kernel
theorem dX1_bring_14 : decode cX1_bring 14 = .ok (.iload_n 3, 1) := by decide +kernel
theorem dX1_bring_15 : decode cX1_bring 15 = .ok (.ifCond .le 62, 3) := by decide +kernel
theorem dX1_bring_18 : decode cX1_bring 18 = .ok (.aload_n 0, 1) := by decide +kernel
theorem dX1_bring_19 : decode cX1_bring 19 = .ok (.iload 4, 2) := by decide +kernel
theorem dX1_bring_21 : decode cX1_bring 21 = .ok (.invokevirtual 72, 3) := by decide +kernel
theorem dX1_bring_24 : decode cX1_bring 24 = .ok (.iload_n 3, 1) := by decide +kernel
theorem dX1_bring_25 : decode cX1_bring 25 = .ok (.iadd, 1) := by decide +kernel
theorem dX1_bring_26 : decode cX1_bring 26 = .ok (.istore 5, 2) := by decide +kernel
theorem dX1_bring_28 : decode cX1_bring 28 = .ok (.iload 5, 2) := by decide +kernel
theorem dX1_bring_30 : decode cX1_bring 30 = .ok (.bipush 9, 2) := by decide +kernel
theorem dX1_bring_32 : decode cX1_bring 32 = .ok (.if_icmp .gt 16, 3) := by decide +kernel
theorem dX1_bring_35 : decode cX1_bring 35 = .ok (.aload_n 0, 1) := by decide +kernel
theorem dX1_bring_36 : decode cX1_bring 36 = .ok (.iload 4, 2) := by decide +kernel
theorem dX1_bring_38 : decode cX1_bring 38 = .ok (.iload 5, 2) := by decide +kernel
theorem dX1_bring_40 : decode cX1_bring 40 = .ok (.invokevirtual 104, 3) := by decide +kernel
theorem dX1_bring_43 : decode cX1_bring 43 = .ok (.iconst 0, 1) := by decide +kernel
theorem dX1_bring_44 : decode cX1_bring 44 = .ok (.istore_n 3, 1) := by decide +kernel
theorem dX1_bring_45 : decode cX1_bring 45 = .ok (.goto 26, 3) := by decide +kernel
theorem dX1_bring_48 : decode cX1_bring 48 = .ok (.aload_n 0, 1) := by decide +kernel
theorem dX1_bring_49 : decode cX1_bring 49 = .ok (.iload 4, 2) := by decide +kernel
theorem dX1_bring_51 : decode cX1_bring 51 = .ok (.iload 5, 2) := by decide +kernel
theorem dX1_bring_53 : decode cX1_bring 53 = .ok (.bipush 10, 2) := by decide +kernel
theorem dX1_bring_55 : decode cX1_bring 55 = .ok (.isub, 1) := by decide +kernel
theorem dX1_bring_56 : decode cX1_bring 56 = .ok (.invokevirtual 104, 3) := by decide +kernel
theorem dX1_bring_59 : decode cX1_bring 59 = .ok (.aload_n 0, 1) := by decide +kernel
theorem dX1_bring_60 : decode cX1_bring 60 = .ok (.dup, 1) := by decide +kernel
theorem dX1_bring_61 : decode cX1_bring 61 = .ok (.getfield 54, 3) := by decide +kernel
theorem dX1_bring_64 : decode cX1_bring 64 = .ok (.iconst 1, 1) := by decide +kernel
theorem dX1_bring_65 : decode cX1_bring 65 = .ok (.iadd, 1) := by decide +kernel
theorem dX1_bring_66 : decode cX1_bring 66 = .ok (.putfield 54, 3) := by decide +kernel
theorem dX1_bring_69 : decode cX1_bring 69 = .ok (.iconst 1, 1) := by decide +kernel
theorem dX1_bring_70 : decode cX1_bring 70 = .ok (.istore_n 3, 1) := by decide +kernel
theorem dX1_bring_71 : decode cX1_bring 71 = .ok (.iinc 4 1, 3) := by decide +kernel
theorem dX1_bring_74 : decode cX1_bring 74 = .ok (.goto (-69), 3) := by decide +kernel
theorem dX1_bring_77 : decode cX1_bring 77 = .ok (.aload_n 0, 1) := by decide +kernel
theorem dX1_bring_78 : decode cX1_bring 78 = .ok (.dup, 1) := by decide +kernel
theorem dX1_bring_79 : decode cX1_bring 79 = .ok (.getfield 60, 3) := by decide +kernel
theorem dX1_bring_82 : decode cX1_bring 82 = .ok (.iload_n 3, 1) := by decide +kernel
theorem dX1_bring_83 : decode cX1_bring 83 = .ok (.iadd, 1) := by decide +kernel
theorem dX1_bring_84 : decode cX1_bring 84 = .ok (.putfield 60, 3) := by decide +kernel
theorem dX1_bring_87 : decode cX1_bring 87 = .ok (.return_, 1) := by decide +kernel
theorem dX1_bringNumber_0 : decode cX1_bringNumber 0 = .ok (.aload_n 0, 1) := by decide +kernel
theorem dX1_bringNumber_1 : decode cX1_bringNumber 1 = .ok (.getfield 15, 3) := by decide +kernel
theorem dX1_bringNumber_4 : decode cX1_bringNumber 4 = .ok (.iconst 1, 1) := by decide +kernel
theorem dX1_bringNumber_5 : decode cX1_bringNumber 5 = .ok (.isub, 1) := by decide +kernel
theorem dX1_bringNumber_6 : decode cX1_bringNumber 6 = .ok (.istore_n 3, 1) := by decide +kernel
theorem dX1_bringNumber_7 : decode cX1_bringNumber 7 = .ok (.iload_n 3, 1) := by decide +kernel
theorem dX1_bringNumber_8 : decode cX1_bringNumber 8 = .ok (.ifCond .lt 19, 3) := by decide +kernel
theorem dX1_bringNumber_11 : decode cX1_bringNumber 11 = .ok (.aload_n 0, 1) := by decide +kernel
theorem dX1_bringNumber_12 : decode cX1_bringNumber 12 = .ok (.iload_n 3, 1) := by decide +kernel
theorem dX1_bringNumber_13 : decode cX1_bringNumber 13 = .ok (.lload_n 1, 1) := by decide +kernel
theorem dX1_bringNumber_14 : decode cX1_bringNumber 14 = .ok (.iload_n 3, 1) := by decide +kernel
theorem dX1_bringNumber_15 : decode cX1_bringNumber 15 = .ok (.invokestatic 100, 3) := by decide +kernel
theorem dX1_bringNumber_18 : decode cX1_bringNumber 18 = .ok (.invokevirtual 108, 3) := by decide +kernel
theorem dX1_bringNumber_21 : decode cX1_bringNumber 21 = .ok (.iinc 3 (-1), 3) := by decide +kernel
theorem dX1_bringNumber_24 : decode cX1_bringNumber 24 = .ok (.goto (-17), 3) := by decide +kernel
theorem dX1_bringNumber_27 : decode cX1_bringNumber 27 = .ok (.return_, 1) := by decide +kernel
theorem dX1_takeNumber_0 : decode cX1_takeNumber 0 = .ok (.aload_n 0, 1) := by decide +kernel
theorem dX1_takeNumber_1 : decode cX1_takeNumber 1 = .ok (.getfield 15, 3) := by decide +kernel
theorem dX1_takeNumber_4 : decode cX1_takeNumber 4 = .ok (.iconst 1, 1) := by decide +kernel
theorem dX1_takeNumber_5 : decode cX1_takeNumber 5 = .ok (.isub, 1) := by decide +kernel
theorem dX1_takeNumber_6 : decode cX1_takeNumber 6 = .ok (.istore_n 3, 1) := by decide +kernel
theorem dX1_takeNumber_7 : decode cX1_takeNumber 7 = .ok (.iload_n 3, 1) := by decide +kernel
theorem dX1_takeNumber_8 : decode cX1_takeNumber 8 = .ok (.ifCond .lt 19, 3) := by decide +kernel
theorem dX1_takeNumber_11 : decode cX1_takeNumber 11 = .ok (.aload_n 0, 1) := by decide +kernel
theorem dX1_takeNumber_12 : decode cX1_takeNumber 12 = .ok (.iload_n 3, 1) := by decide +kernel
theorem dX1_takeNumber_13 : decode cX1_takeNumber 13 = .ok (.lload_n 1, 1) := by decide +kernel
theorem dX1_takeNumber_14 : decode cX1_takeNumber 14 = .ok (.iload_n 3, 1) := by decide +kernel
theorem dX1_takeNumber_15 : decode cX1_takeNumber 15 = .ok (.invokestatic 100, 3) := by decide +kernel
theorem dX1_takeNumber_18 : decode cX1_takeNumber 18 = .ok (.invokevirtual 111, 3) := by decide +kernel
theorem dX1_takeNumber_21 : decode cX1_takeNumber 21 = .ok (.iinc 3 (-1), 3) := by decide +kernel
theorem dX1_takeNumber_24 : decode cX1_takeNumber 24 = .ok (.goto (-17), 3) := by decide +kernel
theorem dX1_takeNumber_27 : decode cX1_takeNumber 27 = .ok (.return_, 1) := by decide +kernel
theorem dX1_takeDigit_0 : decode cX1_takeDigit 0 = .ok (.aload_n 0, 1) := by decide +kernel
theorem dX1_takeDigit_1 : decode cX1_takeDigit 1 = .ok (.iload_n 1, 1) := by decide +kernel
theorem dX1_takeDigit_2 : decode cX1_takeDigit 2 = .ok (.invokevirtual 72, 3) := by decide +kernel
theorem dX1_takeDigit_5 : decode cX1_takeDigit 5 = .ok (.istore_n 3, 1) := by decide +kernel
theorem dX1_takeDigit_6 : decode cX1_takeDigit 6 = .ok (.iload_n 2, 1) := by decide +kernel
theorem dX1_takeDigit_7 : decode cX1_takeDigit 7 = .ok (.iload_n 3, 1) := by decide +kernel
theorem dX1_takeDigit_8 : decode cX1_takeDigit 8 = .ok (.if_icmp .gt 12, 3) := by decide +kernel
theorem dX1_takeDigit_11 : decode cX1_takeDigit 11 = .ok (.aload_n 0, 1) := by decide +kernel
theorem dX1_takeDigit_12 : decode cX1_takeDigit 12 = .ok (.iload_n 1, 1) := by decide +kernel
theorem dX1_takeDigit_13 : decode cX1_takeDigit 13 = .ok (.iload_n 3, 1) := by decide +kernel
theorem dX1_takeDigit_14 : decode cX1_takeDigit 14 = .ok (.iload_n 2, 1) := by decide +kernel
theorem dX1_takeDigit_15 : decode cX1_takeDigit 15 = .ok (.isub, 1) := by decide +kernel
theorem dX1_takeDigit_16 : decode cX1_takeDigit 16 = .ok (.invokevirtual 104, 3) := by decide +kernel
theorem dX1_takeDigit_19 : decode cX1_takeDigit 19 = .ok (.return_, 1) := by decide +kernel
theorem dX1_takeDigit_20 : decode cX1_takeDigit 20 = .ok (.iload_n 1, 1) := by decide +kernel
theorem dX1_takeDigit_21 : decode cX1_takeDigit 21 = .ok (.iconst 1, 1) := by decide +kernel
theorem dX1_takeDigit_22 : decode cX1_takeDigit 22 = .ok (.iadd, 1) := by decide +kernel
theorem dX1_takeDigit_23 : decode cX1_takeDigit 23 = .ok (.istore 4, 2) := by decide +kernel
theorem dX1_takeDigit_25 : decode cX1_takeDigit 25 = .ok (.iload 4, 2) := by decide +kernel
theorem dX1_takeDigit_27 : decode cX1_takeDigit 27 = .ok (.aload_n 0, 1) := by decide +kernel
theorem dX1_takeDigit_28 : decode cX1_takeDigit 28 = .ok (.getfield 15, 3) := by decide +kernel
theorem dX1_takeDigit_31 : decode cX1_takeDigit 31 = .ok (.if_icmp .ge 18, 3) := by decide +kernel
theorem dX1_takeDigit_34 : decode cX1_takeDigit 34 = .ok (.aload_n 0, 1) := by decide +kernel
theorem dX1_takeDigit_35 : decode cX1_takeDigit 35 = .ok (.iload 4, 2) := by decide +kernel
theorem dX1_takeDigit_37 : decode cX1_takeDigit 37 = .ok (.invokevirtual 72, 3) := by decide +kernel
theorem dX1_takeDigit_40 : decode cX1_takeDigit 40 = .ok (.ifCond .ne 9, 3) := by decide +kernel
theorem dX1_takeDigit_43 : decode cX1_takeDigit 43 = .ok (.iinc 4 1, 3) := by decide +kernel
theorem dX1_takeDigit_46 : decode cX1_takeDigit 46 = .ok (.goto (-21), 3) := by decide +kernel
theorem dX1_takeDigit_49 : decode cX1_takeDigit 49 = .ok (.aload_n 0, 1) := by decide +kernel
theorem dX1_takeDigit_50 : decode cX1_takeDigit 50 = .ok (.iload 4, 2) := by decide +kernel
theorem dX1_takeDigit_52 : decode cX1_takeDigit 52 = .ok (.aload_n 0, 1) := by decide +kernel
theorem dX1_takeDigit_53 : decode cX1_takeDigit 53 = .ok (.iload 4, 2) := by decide +kernel
theorem dX1_takeDigit_55 : decode cX1_takeDigit 55 = .ok (.invokevirtual 72, 3) := by decide +kernel
theorem dX1_takeDigit_58 : decode cX1_takeDigit 58 = .ok (.iconst 1, 1) := by decide +kernel
theorem dX1_takeDigit_59 : decode cX1_takeDigit 59 = .ok (.isub, 1) := by decide +kernel
theorem dX1_takeDigit_60 : decode cX1_takeDigit 60 = .ok (.invokevirtual 104, 3) := by decide +kernel
theorem dX1_takeDigit_63 : decode cX1_takeDigit 63 = .ok (.iload 4, 2) := by decide +kernel
theorem dX1_takeDigit_65 : decode cX1_takeDigit 65 = .ok (.iconst 1, 1) := by decide +kernel
theorem dX1_takeDigit_66 : decode cX1_takeDigit 66 = .ok (.isub, 1) := by decide +kernel
theorem dX1_takeDigit_67 : decode cX1_takeDigit 67 = .ok (.istore 5, 2) := by decide +kernel
theorem dX1_takeDigit_69 : decode cX1_takeDigit 69 = .ok (.iload 5, 2) := by decide +kernel
theorem dX1_takeDigit_71 : decode cX1_takeDigit 71 = .ok (.iload_n 1, 1) := by decide +kernel
theorem dX1_takeDigit_72 : decode cX1_takeDigit 72 = .ok (.if_icmp .le 17, 3) := by decide +kernel
theorem dX1_takeDigit_75 : decode cX1_takeDigit 75 = .ok (.aload_n 0, 1) := by decide +kernel
theorem dX1_takeDigit_76 : decode cX1_takeDigit 76 = .ok (.iload 5, 2) := by decide +kernel
theorem dX1_takeDigit_78 : decode cX1_takeDigit 78 = .ok (.bipush 9, 2) := by decide +kernel
theorem dX1_takeDigit_80 : decode cX1_takeDigit 80 = .ok (.invokevirtual 104, 3) := by decide +kernel
theorem dX1_takeDigit_83 : decode cX1_takeDigit 83 = .ok (.iinc 5 (-1), 3) := by decide +kernel
theorem dX1_takeDigit_86 : decode cX1_takeDigit 86 = .ok (.goto (-17), 3) := by decide +kernel
theorem dX1_takeDigit_89 : decode cX1_takeDigit 89 = .ok (.aload_n 0, 1) := by decide +kernel
theorem dX1_takeDigit_90 : decode cX1_takeDigit 90 = .ok (.iload_n 1, 1) := by decide +kernel
theorem dX1_takeDigit_91 : decode cX1_takeDigit 91 = .ok (.iload_n 3, 1) := by decide +kernel
theorem dX1_takeDigit_92 : decode cX1_takeDigit 92 = .ok (.bipush 10, 2) := by decide +kernel
theorem dX1_takeDigit_94 : decode cX1_takeDigit 94 = .ok (.iadd, 1) := by decide +kernel
theorem dX1_takeDigit_95 : decode cX1_takeDigit 95 = .ok (.iload_n 2, 1) := by decide +kernel
theorem dX1_takeDigit_96 : decode cX1_takeDigit 96 = .ok (.isub, 1) := by decide +kernel
theorem dX1_takeDigit_97 : decode cX1_takeDigit 97 = .ok (.invokevirtual 104, 3) := by decide +kernel
theorem dX1_takeDigit_100 : decode cX1_takeDigit 100 = .ok (.aload_n 0, 1) := by decide +kernel
theorem dX1_takeDigit_101 : decode cX1_takeDigit 101 = .ok (.dup, 1) := by decide +kernel
theorem dX1_takeDigit_102 : decode cX1_takeDigit 102 = .ok (.getfield 57, 3) := by decide +kernel
theorem dX1_takeDigit_105 : decode cX1_takeDigit 105 = .ok (.iconst 1, 1) := by decide +kernel
theorem dX1_takeDigit_106 : decode cX1_takeDigit 106 = .ok (.iadd, 1) := by decide +kernel
theorem dX1_takeDigit_107 : decode cX1_takeDigit 107 = .ok (.putfield 57, 3) := by decide +kernel
theorem dX1_takeDigit_110 : decode cX1_takeDigit 110 = .ok (.return_, 1) := by decide +kernel
theorem dX1_multiply_0 : decode cX1_multiply 0 = .ok (.aload_n 0, 1) := by decide +kernel
theorem dX1_multiply_1 : decode cX1_multiply 1 = .ok (.getfield 15, 3) := by decide +kernel
theorem dX1_multiply_4 : decode cX1_multiply 4 = .ok (.iconst 1, 1) := by decide +kernel
theorem dX1_multiply_5 : decode cX1_multiply 5 = .ok (.isub, 1) := by decide +kernel
theorem dX1_multiply_6 : decode cX1_multiply 6 = .ok (.istore_n 2, 1) := by decide +kernel
theorem dX1_multiply_7 : decode cX1_multiply 7 = .ok (.iload_n 2, 1) := by decide +kernel
theorem dX1_multiply_8 : decode cX1_multiply 8 = .ok (.ifCond .lt 57, 3) := by decide +kernel
theorem dX1_multiply_11 : decode cX1_multiply 11 = .ok (.aload_n 0, 1) := by decide +kernel
theorem dX1_multiply_12 : decode cX1_multiply 12 = .ok (.iload_n 2, 1) := by decide +kernel
theorem dX1_multiply_13 : decode cX1_multiply 13 = .ok (.invokevirtual 72, 3) := by decide +kernel
theorem dX1_multiply_16 : decode cX1_multiply 16 = .ok (.iload_n 1, 1) := by decide +kernel
theorem dX1_multiply_17 : decode cX1_multiply 17 = .ok (.imul, 1) := by decide +kernel
theorem dX1_multiply_18 : decode cX1_multiply 18 = .ok (.istore_n 3, 1) := by decide +kernel
theorem dX1_multiply_19 : decode cX1_multiply 19 = .ok (.aload_n 0, 1) := by decide +kernel
theorem dX1_multiply_20 : decode cX1_multiply 20 = .ok (.iload_n 2, 1) := by decide +kernel
theorem dX1_multiply_21 : decode cX1_multiply 21 = .ok (.iconst 0, 1) := by decide +kernel
theorem dX1_multiply_22 : decode cX1_multiply 22 = .ok (.invokevirtual 104, 3) := by decide +kernel
theorem dX1_multiply_25 : decode cX1_multiply 25 = .ok (.aload_n 0, 1) := by decide +kernel
theorem dX1_multiply_26 : decode cX1_multiply 26 = .ok (.iload_n 2, 1) := by decide +kernel
theorem dX1_multiply_27 : decode cX1_multiply 27 = .ok (.iload_n 3, 1) := by decide +kernel
theorem dX1_multiply_28 : decode cX1_multiply 28 = .ok (.bipush 10, 2) := by decide +kernel
theorem dX1_multiply_30 : decode cX1_multiply 30 = .ok (.irem, 1) := by decide +kernel
theorem dX1_multiply_31 : decode cX1_multiply 31 = .ok (.invokevirtual 108, 3) := by decide +kernel
theorem dX1_multiply_34 : decode cX1_multiply 34 = .ok (.aload_n 0, 1) := by decide +kernel
theorem dX1_multiply_35 : decode cX1_multiply 35 = .ok (.iload_n 2, 1) := by decide +kernel
theorem dX1_multiply_36 : decode cX1_multiply 36 = .ok (.iconst 1, 1) := by decide +kernel
theorem dX1_multiply_37 : decode cX1_multiply 37 = .ok (.iadd, 1) := by decide +kernel
theorem dX1_multiply_38 : decode cX1_multiply 38 = .ok (.iload_n 3, 1) := by decide +kernel
theorem dX1_multiply_39 : decode cX1_multiply 39 = .ok (.bipush 10, 2) := by decide +kernel
theorem dX1_multiply_41 : decode cX1_multiply 41 = .ok (.idiv, 1) := by decide +kernel
theorem dX1_multiply_42 : decode cX1_multiply 42 = .ok (.bipush 10, 2) := by decide +kernel
theorem dX1_multiply_44 : decode cX1_multiply 44 = .ok (.irem, 1) := by decide +kernel
theorem dX1_multiply_45 : decode cX1_multiply 45 = .ok (.invokevirtual 108, 3) := by decide +kernel
theorem dX1_multiply_48 : decode cX1_multiply 48 = .ok (.aload_n 0, 1) := by decide +kernel
theorem dX1_multiply_49 : decode cX1_multiply 49 = .ok (.iload_n 2, 1) := by decide +kernel
theorem dX1_multiply_50 : decode cX1_multiply 50 = .ok (.iconst 2, 1) := by decide +kernel
theorem dX1_multiply_51 : decode cX1_multiply 51 = .ok (.iadd, 1) := by decide +kernel
theorem dX1_multiply_52 : decode cX1_multiply 52 = .ok (.iload_n 3, 1) := by decide +kernel
theorem dX1_multiply_53 : decode cX1_multiply 53 = .ok (.bipush 100, 2) := by decide +kernel
theorem dX1_multiply_55 : decode cX1_multiply 55 = .ok (.idiv, 1) := by decide +kernel
theorem dX1_multiply_56 : decode cX1_multiply 56 = .ok (.invokevirtual 108, 3) := by decide +kernel
theorem dX1_multiply_59 : decode cX1_multiply 59 = .ok (.iinc 2 (-1), 3) := by decide +kernel
theorem dX1_multiply_62 : decode cX1_multiply 62 = .ok (.goto (-55), 3) := by decide +kernel
theorem dX1_multiply_65 : decode cX1_multiply 65 = .ok (.return_, 1) := by decide +kernel
theorem dX1_splitBy_0 : decode cX1_splitBy 0 = .ok (.iload_n 1, 1) := by decide +kernel
theorem dX1_splitBy_1 : decode cX1_splitBy 1 = .ok (.ifCond .gt 5, 3) := by decide +kernel
theorem dX1_splitBy_4 : decode cX1_splitBy 4 = .ok (.iconst 0, 1) := by decide +kernel
theorem dX1_splitBy_5 : decode cX1_splitBy 5 = .ok (.ireturn, 1) := by decide +kernel
theorem dX1_splitBy_6 : decode cX1_splitBy 6 = .ok (.iconst 0, 1) := by decide +kernel
theorem dX1_splitBy_7 : decode cX1_splitBy 7 = .ok (.istore_n 2, 1) := by decide +kernel
theorem dX1_splitBy_8 : decode cX1_splitBy 8 = .ok (.aload_n 0, 1) := by decide +kernel
theorem dX1_splitBy_9 : decode cX1_splitBy 9 = .ok (.getfield 15, 3) := by decide +kernel
theorem dX1_splitBy_12 : decode cX1_splitBy 12 = .ok (.iconst 1, 1) := by decide +kernel
theorem dX1_splitBy_13 : decode cX1_splitBy 13 = .ok (.isub, 1) := by decide +kernel
theorem dX1_splitBy_14 : decode cX1_splitBy 14 = .ok (.istore_n 3, 1) := by decide +kernel
theorem dX1_splitBy_15 : decode cX1_splitBy 15 = .ok (.iload_n 3, 1) := by decide +kernel
theorem dX1_splitBy_16 : decode cX1_splitBy 16 = .ok (.ifCond .lt 35, 3) := by decide +kernel
theorem dX1_splitBy_19 : decode cX1_splitBy 19 = .ok (.bipush 10, 2) := by decide +kernel
theorem dX1_splitBy_21 : decode cX1_splitBy 21 = .ok (.iload_n 2, 1) := by decide +kernel
theorem dX1_splitBy_22 : decode cX1_splitBy 22 = .ok (.imul, 1) := by decide +kernel
theorem dX1_splitBy_23 : decode cX1_splitBy 23 = .ok (.aload_n 0, 1) := by decide +kernel
theorem dX1_splitBy_24 : decode cX1_splitBy 24 = .ok (.iload_n 3, 1) := by decide +kernel
theorem dX1_splitBy_25 : decode cX1_splitBy 25 = .ok (.invokevirtual 72, 3) := by decide +kernel
theorem dX1_splitBy_28 : decode cX1_splitBy 28 = .ok (.iadd, 1) := by decide +kernel
theorem dX1_splitBy_29 : decode cX1_splitBy 29 = .ok (.istore 4, 2) := by decide +kernel
theorem dX1_splitBy_31 : decode cX1_splitBy 31 = .ok (.aload_n 0, 1) := by decide +kernel
theorem dX1_splitBy_32 : decode cX1_splitBy 32 = .ok (.iload_n 3, 1) := by decide +kernel
theorem dX1_splitBy_33 : decode cX1_splitBy 33 = .ok (.iload 4, 2) := by decide +kernel
theorem dX1_splitBy_35 : decode cX1_splitBy 35 = .ok (.iload_n 1, 1) := by decide +kernel
theorem dX1_splitBy_36 : decode cX1_splitBy 36 = .ok (.idiv, 1) := by decide +kernel
theorem dX1_splitBy_37 : decode cX1_splitBy 37 = .ok (.invokevirtual 104, 3) := by decide +kernel
theorem dX1_splitBy_40 : decode cX1_splitBy 40 = .ok (.iload 4, 2) := by decide +kernel
theorem dX1_splitBy_42 : decode cX1_splitBy 42 = .ok (.iload_n 1, 1) := by decide +kernel
theorem dX1_splitBy_43 : decode cX1_splitBy 43 = .ok (.irem, 1) := by decide +kernel
theorem dX1_splitBy_44 : decode cX1_splitBy 44 = .ok (.istore_n 2, 1) := by decide +kernel
theorem dX1_splitBy_45 : decode cX1_splitBy 45 = .ok (.iinc 3 (-1), 3) := by decide +kernel
theorem dX1_splitBy_48 : decode cX1_splitBy 48 = .ok (.goto (-33), 3) := by decide +kernel
theorem dX1_splitBy_51 : decode cX1_splitBy 51 = .ok (.iload_n 2, 1) := by decide +kernel
theorem dX1_splitBy_52 : decode cX1_splitBy 52 = .ok (.ireturn, 1) := by decide +kernel
theorem dX1_shiftLeft_0 : decode cX1_shiftLeft 0 = .ok (.aload_n 0, 1) := by decide +kernel
theorem dX1_shiftLeft_1 : decode cX1_shiftLeft 1 = .ok (.aload_n 0, 1) := by decide +kernel
theorem dX1_shiftLeft_2 : decode cX1_shiftLeft 2 = .ok (.getfield 15, 3) := by decide +kernel
theorem dX1_shiftLeft_5 : decode cX1_shiftLeft 5 = .ok (.iconst 1, 1) := by decide +kernel
theorem dX1_shiftLeft_6 : decode cX1_shiftLeft 6 = .ok (.isub, 1) := by decide +kernel
theorem dX1_shiftLeft_7 : decode cX1_shiftLeft 7 = .ok (.invokevirtual 72, 3) := by decide +kernel
theorem dX1_shiftLeft_10 : decode cX1_shiftLeft 10 = .ok (.istore_n 1, 1) := by decide +kernel
theorem dX1_shiftLeft_11 : decode cX1_shiftLeft 11 = .ok (.aload_n 0, 1) := by decide +kernel
theorem dX1_shiftLeft_12 : decode cX1_shiftLeft 12 = .ok (.getfield 15, 3) := by decide +kernel
theorem dX1_shiftLeft_15 : decode cX1_shiftLeft 15 = .ok (.iconst 1, 1) := by decide +kernel
theorem dX1_shiftLeft_16 : decode cX1_shiftLeft 16 = .ok (.isub, 1) := by decide +kernel
theorem dX1_shiftLeft_17 : decode cX1_shiftLeft 17 = .ok (.istore_n 2, 1) := by decide +kernel
theorem dX1_shiftLeft_18 : decode cX1_shiftLeft 18 = .ok (.iload_n 2, 1) := by decide +kernel
theorem dX1_shiftLeft_19 : decode cX1_shiftLeft 19 = .ok (.ifCond .le 21, 3) := by decide +kernel
theorem dX1_shiftLeft_22 : decode cX1_shiftLeft 22 = .ok (.aload_n 0, 1) := by decide +kernel
theorem dX1_shiftLeft_23 : decode cX1_shiftLeft 23 = .ok (.iload_n 2, 1) := by decide +kernel
theorem dX1_shiftLeft_24 : decode cX1_shiftLeft 24 = .ok (.aload_n 0, 1) := by decide +kernel
theorem dX1_shiftLeft_25 : decode cX1_shiftLeft 25 = .ok (.iload_n 2, 1) := by decide +kernel
theorem dX1_shiftLeft_26 : decode cX1_shiftLeft 26 = .ok (.iconst 1, 1) := by decide +kernel
theorem dX1_shiftLeft_27 : decode cX1_shiftLeft 27 = .ok (.isub, 1) := by decide +kernel
theorem dX1_shiftLeft_28 : decode cX1_shiftLeft 28 = .ok (.invokevirtual 72, 3) := by decide +kernel
theorem dX1_shiftLeft_31 : decode cX1_shiftLeft 31 = .ok (.invokevirtual 104, 3) := by decide +kernel
theorem dX1_shiftLeft_34 : decode cX1_shiftLeft 34 = .ok (.iinc 2 (-1), 3) := by decide +kernel
theorem dX1_shiftLeft_37 : decode cX1_shiftLeft 37 = .ok (.goto (-19), 3) := by decide +kernel
theorem dX1_shiftLeft_40 : decode cX1_shiftLeft 40 = .ok (.aload_n 0, 1) := by decide +kernel
theorem dX1_shiftLeft_41 : decode cX1_shiftLeft 41 = .ok (.iconst 0, 1) := by decide +kernel
theorem dX1_shiftLeft_42 : decode cX1_shiftLeft 42 = .ok (.iconst 0, 1) := by decide +kernel
theorem dX1_shiftLeft_43 : decode cX1_shiftLeft 43 = .ok (.invokevirtual 104, 3) := by decide +kernel
theorem dX1_shiftLeft_46 : decode cX1_shiftLeft 46 = .ok (.aload_n 0, 1) := by decide +kernel
theorem dX1_shiftLeft_47 : decode cX1_shiftLeft 47 = .ok (.dup, 1) := by decide +kernel
theorem dX1_shiftLeft_48 : decode cX1_shiftLeft 48 = .ok (.getfield 60, 3) := by decide +kernel
theorem dX1_shiftLeft_51 : decode cX1_shiftLeft 51 = .ok (.iload_n 1, 1) := by decide +kernel
theorem dX1_shiftLeft_52 : decode cX1_shiftLeft 52 = .ok (.iadd, 1) := by decide +kernel
theorem dX1_shiftLeft_53 : decode cX1_shiftLeft 53 = .ok (.putfield 60, 3) := by decide +kernel
theorem dX1_shiftLeft_56 : decode cX1_shiftLeft 56 = .ok (.iload_n 1, 1) := by decide +kernel
theorem dX1_shiftLeft_57 : decode cX1_shiftLeft 57 = .ok (.ireturn, 1) := by decide +kernel
theorem dX1_shiftRight_0 : decode cX1_shiftRight 0 = .ok (.aload_n 0, 1) := by decide +kernel
theorem dX1_shiftRight_1 : decode cX1_shiftRight 1 = .ok (.iconst 0, 1) := by decide +kernel
theorem dX1_shiftRight_2 : decode cX1_shiftRight 2 = .ok (.invokevirtual 72, 3) := by decide +kernel
theorem dX1_shiftRight_5 : decode cX1_shiftRight 5 = .ok (.istore_n 1, 1) := by decide +kernel
theorem dX1_shiftRight_6 : decode cX1_shiftRight 6 = .ok (.iconst 0, 1) := by decide +kernel
theorem dX1_shiftRight_7 : decode cX1_shiftRight 7 = .ok (.istore_n 2, 1) := by decide +kernel
theorem dX1_shiftRight_8 : decode cX1_shiftRight 8 = .ok (.iload_n 2, 1) := by decide +kernel
theorem dX1_shiftRight_9 : decode cX1_shiftRight 9 = .ok (.aload_n 0, 1) := by decide +kernel
theorem dX1_shiftRight_10 : decode cX1_shiftRight 10 = .ok (.getfield 15, 3) := by decide +kernel
theorem dX1_shiftRight_13 : decode cX1_shiftRight 13 = .ok (.iconst 1, 1) := by decide +kernel
theorem dX1_shiftRight_14 : decode cX1_shiftRight 14 = .ok (.isub, 1) := by decide +kernel
theorem dX1_shiftRight_15 : decode cX1_shiftRight 15 = .ok (.if_icmp .ge 21, 3) := by decide +kernel
theorem dX1_shiftRight_18 : decode cX1_shiftRight 18 = .ok (.aload_n 0, 1) := by decide +kernel
theorem dX1_shiftRight_19 : decode cX1_shiftRight 19 = .ok (.iload_n 2, 1) := by decide +kernel
theorem dX1_shiftRight_20 : decode cX1_shiftRight 20 = .ok (.aload_n 0, 1) := by decide +kernel
theorem dX1_shiftRight_21 : decode cX1_shiftRight 21 = .ok (.iload_n 2, 1) := by decide +kernel
theorem dX1_shiftRight_22 : decode cX1_shiftRight 22 = .ok (.iconst 1, 1) := by decide +kernel
theorem dX1_shiftRight_23 : decode cX1_shiftRight 23 = .ok (.iadd, 1) := by decide +kernel
theorem dX1_shiftRight_24 : decode cX1_shiftRight 24 = .ok (.invokevirtual 72, 3) := by decide +kernel
theorem dX1_shiftRight_27 : decode cX1_shiftRight 27 = .ok (.invokevirtual 104, 3) := by decide +kernel
theorem dX1_shiftRight_30 : decode cX1_shiftRight 30 = .ok (.iinc 2 1, 3) := by decide +kernel
theorem dX1_shiftRight_33 : decode cX1_shiftRight 33 = .ok (.goto (-25), 3) := by decide +kernel
theorem dX1_shiftRight_36 : decode cX1_shiftRight 36 = .ok (.aload_n 0, 1) := by decide +kernel
theorem dX1_shiftRight_37 : decode cX1_shiftRight 37 = .ok (.aload_n 0, 1) := by decide +kernel
theorem dX1_shiftRight_38 : decode cX1_shiftRight 38 = .ok (.getfield 15, 3) := by decide +kernel
theorem dX1_shiftRight_41 : decode cX1_shiftRight 41 = .ok (.iconst 1, 1) := by decide +kernel
theorem dX1_shiftRight_42 : decode cX1_shiftRight 42 = .ok (.isub, 1) := by decide +kernel
theorem dX1_shiftRight_43 : decode cX1_shiftRight 43 = .ok (.iconst 0, 1) := by decide +kernel
theorem dX1_shiftRight_44 : decode cX1_shiftRight 44 = .ok (.invokevirtual 104, 3) := by decide +kernel
theorem dX1_shiftRight_47 : decode cX1_shiftRight 47 = .ok (.iload_n 1, 1) := by decide +kernel
theorem dX1_shiftRight_48 : decode cX1_shiftRight 48 = .ok (.ireturn, 1) := by decide +kernel
theorem dX1_tidyRods_0 : decode cX1_tidyRods 0 = .ok (.iconst 0, 1) := by decide +kernel
theorem dX1_tidyRods_1 : decode cX1_tidyRods 1 = .ok (.istore_n 1, 1) := by decide +kernel
theorem dX1_tidyRods_2 : decode cX1_tidyRods 2 = .ok (.iload_n 1, 1) := by decide +kernel
theorem dX1_tidyRods_3 : decode cX1_tidyRods 3 = .ok (.aload_n 0, 1) := by decide +kernel
theorem dX1_tidyRods_4 : decode cX1_tidyRods 4 = .ok (.getfield 15, 3) := by decide +kernel
theorem dX1_tidyRods_7 : decode cX1_tidyRods 7 = .ok (.if_icmp .ge 48, 3) := by decide +kernel
theorem dX1_tidyRods_10 : decode cX1_tidyRods 10 = .ok (.aload_n 0, 1) := by decide +kernel
theorem dX1_tidyRods_11 : decode cX1_tidyRods 11 = .ok (.iload_n 1, 1) := by decide +kernel
theorem dX1_tidyRods_12 : decode cX1_tidyRods 12 = .ok (.invokevirtual 72, 3) := by decide +kernel
theorem dX1_tidyRods_15 : decode cX1_tidyRods 15 = .ok (.istore_n 2, 1) := by decide +kernel
theorem dX1_tidyRods_16 : decode cX1_tidyRods 16 = .ok (.iload_n 2, 1) := by decide +kernel
theorem dX1_tidyRods_17 : decode cX1_tidyRods 17 = .ok (.bipush 9, 2) := by decide +kernel
theorem dX1_tidyRods_19 : decode cX1_tidyRods 19 = .ok (.if_icmp .le 30, 3) := by decide +kernel
theorem dX1_tidyRods_22 : decode cX1_tidyRods 22 = .ok (.aload_n 0, 1) := by decide +kernel
theorem dX1_tidyRods_23 : decode cX1_tidyRods 23 = .ok (.iload_n 1, 1) := by decide +kernel
theorem dX1_tidyRods_24 : decode cX1_tidyRods 24 = .ok (.iload_n 2, 1) := by decide +kernel
theorem dX1_tidyRods_25 : decode cX1_tidyRods 25 = .ok (.bipush 10, 2) := by decide +kernel
theorem dX1_tidyRods_27 : decode cX1_tidyRods 27 = .ok (.isub, 1) := by decide +kernel
theorem dX1_tidyRods_28 : decode cX1_tidyRods 28 = .ok (.invokevirtual 104, 3) := by decide +kernel
theorem dX1_tidyRods_31 : decode cX1_tidyRods 31 = .ok (.aload_n 0, 1) := by decide +kernel
theorem dX1_tidyRods_32 : decode cX1_tidyRods 32 = .ok (.dup, 1) := by decide +kernel
theorem dX1_tidyRods_33 : decode cX1_tidyRods 33 = .ok (.getfield 54, 3) := by decide +kernel
theorem dX1_tidyRods_36 : decode cX1_tidyRods 36 = .ok (.iconst 1, 1) := by decide +kernel
theorem dX1_tidyRods_37 : decode cX1_tidyRods 37 = .ok (.iadd, 1) := by decide +kernel
theorem dX1_tidyRods_38 : decode cX1_tidyRods 38 = .ok (.putfield 54, 3) := by decide +kernel
theorem dX1_tidyRods_41 : decode cX1_tidyRods 41 = .ok (.aload_n 0, 1) := by decide +kernel
theorem dX1_tidyRods_42 : decode cX1_tidyRods 42 = .ok (.iload_n 1, 1) := by decide +kernel
theorem dX1_tidyRods_43 : decode cX1_tidyRods 43 = .ok (.iconst 1, 1) := by decide +kernel
theorem dX1_tidyRods_44 : decode cX1_tidyRods 44 = .ok (.iadd, 1) := by decide +kernel
theorem dX1_tidyRods_45 : decode cX1_tidyRods 45 = .ok (.iconst 1, 1) := by decide +kernel
theorem dX1_tidyRods_46 : decode cX1_tidyRods 46 = .ok (.invokevirtual 108, 3) := by decide +kernel
theorem dX1_tidyRods_49 : decode cX1_tidyRods 49 = .ok (.iinc 1 1, 3) := by decide +kernel
theorem dX1_tidyRods_52 : decode cX1_tidyRods 52 = .ok (.goto (-50), 3) := by decide +kernel
theorem dX1_tidyRods_55 : decode cX1_tidyRods 55 = .ok (.return_, 1) := by decide +kernel
theorem dX1_keepBeads_0 : decode cX1_keepBeads 0 = .ok (.aload_n 0, 1) := by decide +kernel
theorem dX1_keepBeads_1 : decode cX1_keepBeads 1 = .ok (.getfield 27, 3) := by decide +kernel
theorem dX1_keepBeads_4 : decode cX1_keepBeads 4 = .ok (.aload_n 0, 1) := by decide +kernel
theorem dX1_keepBeads_5 : decode cX1_keepBeads 5 = .ok (.getfield 114, 3) := by decide +kernel
theorem dX1_keepBeads_8 : decode cX1_keepBeads 8 = .ok (.invokevirtual 117, 3) := by decide +kernel
theorem dX1_keepBeads_11 : decode cX1_keepBeads 11 = .ok (.aload_n 0, 1) := by decide +kernel
theorem dX1_keepBeads_12 : decode cX1_keepBeads 12 = .ok (.getfield 34, 3) := by decide +kernel
theorem dX1_keepBeads_15 : decode cX1_keepBeads 15 = .ok (.aload_n 0, 1) := by decide +kernel
theorem dX1_keepBeads_16 : decode cX1_keepBeads 16 = .ok (.getfield 114, 3) := by decide +kernel
theorem dX1_keepBeads_19 : decode cX1_keepBeads 19 = .ok (.invokevirtual 117, 3) := by decide +kernel
theorem dX1_keepBeads_22 : decode cX1_keepBeads 22 = .ok (.aload_n 0, 1) := by decide +kernel
theorem dX1_keepBeads_23 : decode cX1_keepBeads 23 = .ok (.aload_n 0, 1) := by decide +kernel
theorem dX1_keepBeads_24 : decode cX1_keepBeads 24 = .ok (.getfield 114, 3) := by decide +kernel
theorem dX1_keepBeads_27 : decode cX1_keepBeads 27 = .ok (.iconst 1, 1) := by decide +kernel
theorem dX1_keepBeads_28 : decode cX1_keepBeads 28 = .ok (.iadd, 1) := by decide +kernel
theorem dX1_keepBeads_29 : decode cX1_keepBeads 29 = .ok (.bipush 12, 2) := by decide +kernel
theorem dX1_keepBeads_31 : decode cX1_keepBeads 31 = .ok (.irem, 1) := by decide +kernel
theorem dX1_keepBeads_32 : decode cX1_keepBeads 32 = .ok (.putfield 114, 3) := by decide +kernel
theorem dX1_keepBeads_35 : decode cX1_keepBeads 35 = .ok (.aload_n 0, 1) := by decide +kernel
theorem dX1_keepBeads_36 : decode cX1_keepBeads 36 = .ok (.getfield 120, 3) := by decide +kernel
theorem dX1_keepBeads_39 : decode cX1_keepBeads 39 = .ok (.bipush 12, 2) := by decide +kernel
theorem dX1_keepBeads_41 : decode cX1_keepBeads 41 = .ok (.if_icmp .ge 13, 3) := by decide +kernel
theorem dX1_keepBeads_44 : decode cX1_keepBeads 44 = .ok (.aload_n 0, 1) := by decide +kernel
theorem dX1_keepBeads_45 : decode cX1_keepBeads 45 = .ok (.dup, 1) := by decide +kernel
theorem dX1_keepBeads_46 : decode cX1_keepBeads 46 = .ok (.getfield 120, 3) := by decide +kernel
theorem dX1_keepBeads_49 : decode cX1_keepBeads 49 = .ok (.iconst 1, 1) := by decide +kernel
theorem dX1_keepBeads_50 : decode cX1_keepBeads 50 = .ok (.iadd, 1) := by decide +kernel
theorem dX1_keepBeads_51 : decode cX1_keepBeads 51 = .ok (.putfield 120, 3) := by decide +kernel
theorem dX1_keepBeads_54 : decode cX1_keepBeads 54 = .ok (.return_, 1) := by decide +kernel
theorem dX1_restoreBeads_0 : decode cX1_restoreBeads 0 = .ok (.aload_n 0, 1) := by decide +kernel
theorem dX1_restoreBeads_1 : decode cX1_restoreBeads 1 = .ok (.aload_n 0, 1) := by decide +kernel
theorem dX1_restoreBeads_2 : decode cX1_restoreBeads 2 = .ok (.getfield 114, 3) := by decide +kernel
theorem dX1_restoreBeads_5 : decode cX1_restoreBeads 5 = .ok (.bipush 12, 2) := by decide +kernel
theorem dX1_restoreBeads_7 : decode cX1_restoreBeads 7 = .ok (.iadd, 1) := by decide +kernel
theorem dX1_restoreBeads_8 : decode cX1_restoreBeads 8 = .ok (.iconst 1, 1) := by decide +kernel
theorem dX1_restoreBeads_9 : decode cX1_restoreBeads 9 = .ok (.isub, 1) := by decide +kernel
theorem dX1_restoreBeads_10 : decode cX1_restoreBeads 10 = .ok (.bipush 12, 2) := by decide +kernel
theorem dX1_restoreBeads_12 : decode cX1_restoreBeads 12 = .ok (.irem, 1) := by decide +kernel
theorem dX1_restoreBeads_13 : decode cX1_restoreBeads 13 = .ok (.putfield 114, 3) := by decide +kernel
theorem dX1_restoreBeads_16 : decode cX1_restoreBeads 16 = .ok (.aload_n 0, 1) := by decide +kernel
theorem dX1_restoreBeads_17 : decode cX1_restoreBeads 17 = .ok (.getfield 27, 3) := by decide +kernel
theorem dX1_restoreBeads_20 : decode cX1_restoreBeads 20 = .ok (.aload_n 0, 1) := by decide +kernel
theorem dX1_restoreBeads_21 : decode cX1_restoreBeads 21 = .ok (.getfield 114, 3) := by decide +kernel
theorem dX1_restoreBeads_24 : decode cX1_restoreBeads 24 = .ok (.invokevirtual 123, 3) := by decide +kernel
theorem dX1_restoreBeads_27 : decode cX1_restoreBeads 27 = .ok (.aload_n 0, 1) := by decide +kernel
theorem dX1_restoreBeads_28 : decode cX1_restoreBeads 28 = .ok (.getfield 34, 3) := by decide +kernel
theorem dX1_restoreBeads_31 : decode cX1_restoreBeads 31 = .ok (.aload_n 0, 1) := by decide +kernel
theorem dX1_restoreBeads_32 : decode cX1_restoreBeads 32 = .ok (.getfield 114, 3) := by decide +kernel
theorem dX1_restoreBeads_35 : decode cX1_restoreBeads 35 = .ok (.invokevirtual 123, 3) := by decide +kernel
theorem dX1_restoreBeads_38 : decode cX1_restoreBeads 38 = .ok (.aload_n 0, 1) := by decide +kernel
theorem dX1_restoreBeads_39 : decode cX1_restoreBeads 39 = .ok (.dup, 1) := by decide +kernel
theorem dX1_restoreBeads_40 : decode cX1_restoreBeads 40 = .ok (.getfield 120, 3) := by decide +kernel
theorem dX1_restoreBeads_43 : decode cX1_restoreBeads 43 = .ok (.iconst 1, 1) := by decide +kernel
theorem dX1_restoreBeads_44 : decode cX1_restoreBeads 44 = .ok (.isub, 1) := by decide +kernel
theorem dX1_restoreBeads_45 : decode cX1_restoreBeads 45 = .ok (.putfield 120, 3) := by decide +kernel
theorem dX1_restoreBeads_48 : decode cX1_restoreBeads 48 = .ok (.return_, 1) := by decide +kernel
theorem dX1_greaseRod_0 : decode cX1_greaseRod 0 = .ok (.aload_n 0, 1) := by decide +kernel
theorem dX1_greaseRod_1 : decode cX1_greaseRod 1 = .ok (.getfield 27, 3) := by decide +kernel
theorem dX1_greaseRod_4 : decode cX1_greaseRod 4 = .ok (.iload_n 1, 1) := by decide +kernel
theorem dX1_greaseRod_5 : decode cX1_greaseRod 5 = .ok (.invokevirtual 126, 3) := by decide +kernel
theorem dX1_greaseRod_8 : decode cX1_greaseRod 8 = .ok (.aload_n 0, 1) := by decide +kernel
theorem dX1_greaseRod_9 : decode cX1_greaseRod 9 = .ok (.getfield 34, 3) := by decide +kernel
theorem dX1_greaseRod_12 : decode cX1_greaseRod 12 = .ok (.iload_n 1, 1) := by decide +kernel
theorem dX1_greaseRod_13 : decode cX1_greaseRod 13 = .ok (.invokevirtual 126, 3) := by decide +kernel
theorem dX1_greaseRod_16 : decode cX1_greaseRod 16 = .ok (.iadd, 1) := by decide +kernel
theorem dX1_greaseRod_17 : decode cX1_greaseRod 17 = .ok (.istore_n 2, 1) := by decide +kernel
theorem dX1_greaseRod_18 : decode cX1_greaseRod 18 = .ok (.aload_n 0, 1) := by decide +kernel
theorem dX1_greaseRod_19 : decode cX1_greaseRod 19 = .ok (.getfield 27, 3) := by decide +kernel
theorem dX1_greaseRod_22 : decode cX1_greaseRod 22 = .ok (.iload_n 1, 1) := by decide +kernel
theorem dX1_greaseRod_23 : decode cX1_greaseRod 23 = .ok (.invokevirtual 129, 3) := by decide +kernel
theorem dX1_greaseRod_26 : decode cX1_greaseRod 26 = .ok (.aload_n 0, 1) := by decide +kernel
theorem dX1_greaseRod_27 : decode cX1_greaseRod 27 = .ok (.getfield 34, 3) := by decide +kernel
theorem dX1_greaseRod_30 : decode cX1_greaseRod 30 = .ok (.iload_n 1, 1) := by decide +kernel
theorem dX1_greaseRod_31 : decode cX1_greaseRod 31 = .ok (.invokevirtual 129, 3) := by decide +kernel
theorem dX1_greaseRod_34 : decode cX1_greaseRod 34 = .ok (.aload_n 0, 1) := by decide +kernel
theorem dX1_greaseRod_35 : decode cX1_greaseRod 35 = .ok (.aload_n 0, 1) := by decide +kernel
theorem dX1_greaseRod_36 : decode cX1_greaseRod 36 = .ok (.getfield 44, 3) := by decide +kernel
theorem dX1_greaseRod_39 : decode cX1_greaseRod 39 = .ok (.fconst 2, 1) := by decide +kernel
theorem dX1_greaseRod_40 : decode cX1_greaseRod 40 = .ok (.fadd, 1) := by decide +kernel
theorem dX1_greaseRod_41 : decode cX1_greaseRod 41 = .ok (.putfield 44, 3) := by decide +kernel
theorem dX1_greaseRod_44 : decode cX1_greaseRod 44 = .ok (.iload_n 2, 1) := by decide +kernel
theorem dX1_greaseRod_45 : decode cX1_greaseRod 45 = .ok (.ireturn, 1) := by decide +kernel
theorem dX1_factOfRod_0 : decode cX1_factOfRod 0 = .ok (.iload_n 2, 1) := by decide +kernel
theorem dX1_factOfRod_1 : decode cX1_factOfRod 1 = .ok (.tableswitch 77 0 4 #[35, 41, 50, 59, 68], 35) := by decide +kernel
theorem dX1_factOfRod_36 : decode cX1_factOfRod 36 = .ok (.aload_n 0, 1) := by decide +kernel
theorem dX1_factOfRod_37 : decode cX1_factOfRod 37 = .ok (.iload_n 1, 1) := by decide +kernel
theorem dX1_factOfRod_38 : decode cX1_factOfRod 38 = .ok (.invokevirtual 72, 3) := by decide +kernel
theorem dX1_factOfRod_41 : decode cX1_factOfRod 41 = .ok (.ireturn, 1) := by decide +kernel
theorem dX1_factOfRod_42 : decode cX1_factOfRod 42 = .ok (.aload_n 0, 1) := by decide +kernel
theorem dX1_factOfRod_43 : decode cX1_factOfRod 43 = .ok (.getfield 27, 3) := by decide +kernel
theorem dX1_factOfRod_46 : decode cX1_factOfRod 46 = .ok (.iload_n 1, 1) := by decide +kernel
theorem dX1_factOfRod_47 : decode cX1_factOfRod 47 = .ok (.invokevirtual 65, 3) := by decide +kernel
theorem dX1_factOfRod_50 : decode cX1_factOfRod 50 = .ok (.ireturn, 1) := by decide +kernel
theorem dX1_factOfRod_51 : decode cX1_factOfRod 51 = .ok (.aload_n 0, 1) := by decide +kernel
theorem dX1_factOfRod_52 : decode cX1_factOfRod 52 = .ok (.getfield 34, 3) := by decide +kernel
theorem dX1_factOfRod_55 : decode cX1_factOfRod 55 = .ok (.iload_n 1, 1) := by decide +kernel
theorem dX1_factOfRod_56 : decode cX1_factOfRod 56 = .ok (.invokevirtual 65, 3) := by decide +kernel
theorem dX1_factOfRod_59 : decode cX1_factOfRod 59 = .ok (.ireturn, 1) := by decide +kernel
theorem dX1_factOfRod_60 : decode cX1_factOfRod 60 = .ok (.aload_n 0, 1) := by decide +kernel
theorem dX1_factOfRod_61 : decode cX1_factOfRod 61 = .ok (.getfield 27, 3) := by decide +kernel
theorem dX1_factOfRod_64 : decode cX1_factOfRod 64 = .ok (.iload_n 1, 1) := by decide +kernel
theorem dX1_factOfRod_65 : decode cX1_factOfRod 65 = .ok (.invokevirtual 126, 3) := by decide +kernel
theorem dX1_factOfRod_68 : decode cX1_factOfRod 68 = .ok (.ireturn, 1) := by decide +kernel
theorem dX1_factOfRod_69 : decode cX1_factOfRod 69 = .ok (.aload_n 0, 1) := by decide +kernel
theorem dX1_factOfRod_70 : decode cX1_factOfRod 70 = .ok (.getfield 34, 3) := by decide +kernel
theorem dX1_factOfRod_73 : decode cX1_factOfRod 73 = .ok (.iload_n 1, 1) := by decide +kernel
theorem dX1_factOfRod_74 : decode cX1_factOfRod 74 = .ok (.invokevirtual 126, 3) := by decide +kernel
theorem dX1_factOfRod_77 : decode cX1_factOfRod 77 = .ok (.ireturn, 1) := by decide +kernel
theorem dX1_factOfRod_78 : decode cX1_factOfRod 78 = .ok (.aload_n 0, 1) := by decide +kernel
theorem dX1_factOfRod_79 : decode cX1_factOfRod 79 = .ok (.getfield 27, 3) := by decide +kernel
theorem dX1_factOfRod_82 : decode cX1_factOfRod 82 = .ok (.iload_n 1, 1) := by decide +kernel
theorem dX1_factOfRod_83 : decode cX1_factOfRod 83 = .ok (.invokevirtual 132, 3) := by decide +kernel
theorem dX1_factOfRod_86 : decode cX1_factOfRod 86 = .ok (.ifCond .eq 7, 3) := by decide +kernel
theorem dX1_factOfRod_89 : decode cX1_factOfRod 89 = .ok (.iconst 1, 1) := by decide +kernel
theorem dX1_factOfRod_90 : decode cX1_factOfRod 90 = .ok (.goto 4, 3) := by decide +kernel
theorem dX1_factOfRod_93 : decode cX1_factOfRod 93 = .ok (.iconst 0, 1) := by decide +kernel
theorem dX1_factOfRod_94 : decode cX1_factOfRod 94 = .ok (.aload_n 0, 1) := by decide +kernel
theorem dX1_factOfRod_95 : decode cX1_factOfRod 95 = .ok (.getfield 34, 3) := by decide +kernel
theorem dX1_factOfRod_98 : decode cX1_factOfRod 98 = .ok (.iload_n 1, 1) := by decide +kernel
theorem dX1_factOfRod_99 : decode cX1_factOfRod 99 = .ok (.invokevirtual 132, 3) := by decide +kernel
theorem dX1_factOfRod_102 : decode cX1_factOfRod 102 = .ok (.ifCond .eq 7, 3) := by decide +kernel
theorem dX1_factOfRod_105 : decode cX1_factOfRod 105 = .ok (.iconst 1, 1) := by decide +kernel
theorem dX1_factOfRod_106 : decode cX1_factOfRod 106 = .ok (.goto 4, 3) := by decide +kernel
theorem dX1_factOfRod_109 : decode cX1_factOfRod 109 = .ok (.iconst 0, 1) := by decide +kernel
theorem dX1_factOfRod_110 : decode cX1_factOfRod 110 = .ok (.iadd, 1) := by decide +kernel
theorem dX1_factOfRod_111 : decode cX1_factOfRod 111 = .ok (.ireturn, 1) := by decide +kernel
end
section
-- laid by wip/p30/names.py
theorem dX1_factOfFrame_0 : decode cX1_factOfFrame 0 = .ok (.iload_n 1, 1) := by decide +kernel
theorem dX1_factOfFrame_1 : decode cX1_factOfFrame 1 = .ok (.tableswitch 136 0 11 #[63, 68, 73, 78, 83, 88, 93, 98, 103, 108, 121, 126], 63) := by decide +kernel
theorem dX1_factOfFrame_64 : decode cX1_factOfFrame 64 = .ok (.aload_n 0, 1) := by decide +kernel
theorem dX1_factOfFrame_65 : decode cX1_factOfFrame 65 = .ok (.getfield 9, 3) := by decide +kernel
theorem dX1_factOfFrame_68 : decode cX1_factOfFrame 68 = .ok (.ireturn, 1) := by decide +kernel
theorem dX1_factOfFrame_69 : decode cX1_factOfFrame 69 = .ok (.aload_n 0, 1) := by decide +kernel
theorem dX1_factOfFrame_70 : decode cX1_factOfFrame 70 = .ok (.getfield 15, 3) := by decide +kernel
theorem dX1_factOfFrame_73 : decode cX1_factOfFrame 73 = .ok (.ireturn, 1) := by decide +kernel
theorem dX1_factOfFrame_74 : decode cX1_factOfFrame 74 = .ok (.aload_n 0, 1) := by decide +kernel
theorem dX1_factOfFrame_75 : decode cX1_factOfFrame 75 = .ok (.getfield 48, 3) := by decide +kernel
theorem dX1_factOfFrame_78 : decode cX1_factOfFrame 78 = .ok (.ireturn, 1) := by decide +kernel
theorem dX1_factOfFrame_79 : decode cX1_factOfFrame 79 = .ok (.aload_n 0, 1) := by decide +kernel
theorem dX1_factOfFrame_80 : decode cX1_factOfFrame 80 = .ok (.getfield 51, 3) := by decide +kernel
theorem dX1_factOfFrame_83 : decode cX1_factOfFrame 83 = .ok (.ireturn, 1) := by decide +kernel
theorem dX1_factOfFrame_84 : decode cX1_factOfFrame 84 = .ok (.aload_n 0, 1) := by decide +kernel
theorem dX1_factOfFrame_85 : decode cX1_factOfFrame 85 = .ok (.getfield 54, 3) := by decide +kernel
theorem dX1_factOfFrame_88 : decode cX1_factOfFrame 88 = .ok (.ireturn, 1) := by decide +kernel
theorem dX1_factOfFrame_89 : decode cX1_factOfFrame 89 = .ok (.aload_n 0, 1) := by decide +kernel
theorem dX1_factOfFrame_90 : decode cX1_factOfFrame 90 = .ok (.getfield 57, 3) := by decide +kernel
theorem dX1_factOfFrame_93 : decode cX1_factOfFrame 93 = .ok (.ireturn, 1) := by decide +kernel
theorem dX1_factOfFrame_94 : decode cX1_factOfFrame 94 = .ok (.aload_n 0, 1) := by decide +kernel
theorem dX1_factOfFrame_95 : decode cX1_factOfFrame 95 = .ok (.getfield 60, 3) := by decide +kernel
theorem dX1_factOfFrame_98 : decode cX1_factOfFrame 98 = .ok (.ireturn, 1) := by decide +kernel
theorem dX1_factOfFrame_99 : decode cX1_factOfFrame 99 = .ok (.aload_n 0, 1) := by decide +kernel
theorem dX1_factOfFrame_100 : decode cX1_factOfFrame 100 = .ok (.getfield 41, 3) := by decide +kernel
theorem dX1_factOfFrame_103 : decode cX1_factOfFrame 103 = .ok (.ireturn, 1) := by decide +kernel
theorem dX1_factOfFrame_104 : decode cX1_factOfFrame 104 = .ok (.aload_n 0, 1) := by decide +kernel
theorem dX1_factOfFrame_105 : decode cX1_factOfFrame 105 = .ok (.getfield 120, 3) := by decide +kernel
theorem dX1_factOfFrame_108 : decode cX1_factOfFrame 108 = .ok (.ireturn, 1) := by decide +kernel
theorem dX1_factOfFrame_109 : decode cX1_factOfFrame 109 = .ok (.aload_n 0, 1) := by decide +kernel
theorem dX1_factOfFrame_110 : decode cX1_factOfFrame 110 = .ok (.invokevirtual 136, 3) := by decide +kernel
theorem dX1_factOfFrame_113 : decode cX1_factOfFrame 113 = .ok (.ifCond .eq 7, 3) := by decide +kernel
theorem dX1_factOfFrame_116 : decode cX1_factOfFrame 116 = .ok (.iconst 1, 1) := by decide +kernel
theorem dX1_factOfFrame_117 : decode cX1_factOfFrame 117 = .ok (.goto 4, 3) := by decide +kernel
theorem dX1_factOfFrame_120 : decode cX1_factOfFrame 120 = .ok (.iconst 0, 1) := by decide +kernel
theorem dX1_factOfFrame_121 : decode cX1_factOfFrame 121 = .ok (.ireturn, 1) := by decide +kernel
theorem dX1_factOfFrame_122 : decode cX1_factOfFrame 122 = .ok (.aload_n 0, 1) := by decide +kernel
theorem dX1_factOfFrame_123 : decode cX1_factOfFrame 123 = .ok (.invokevirtual 140, 3) := by decide +kernel
theorem dX1_factOfFrame_126 : decode cX1_factOfFrame 126 = .ok (.ireturn, 1) := by decide +kernel
theorem dX1_factOfFrame_127 : decode cX1_factOfFrame 127 = .ok (.aload_n 0, 1) := by decide +kernel
theorem dX1_factOfFrame_128 : decode cX1_factOfFrame 128 = .ok (.invokevirtual 144, 3) := by decide +kernel
theorem dX1_factOfFrame_131 : decode cX1_factOfFrame 131 = .ok (.ldc2_w 148, 3) := by decide +kernel
theorem dX1_factOfFrame_134 : decode cX1_factOfFrame 134 = .ok (.lrem, 1) := by decide +kernel
theorem dX1_factOfFrame_135 : decode cX1_factOfFrame 135 = .ok (.l2i, 1) := by decide +kernel
theorem dX1_factOfFrame_136 : decode cX1_factOfFrame 136 = .ok (.ireturn, 1) := by decide +kernel
theorem dX1_factOfFrame_137 : decode cX1_factOfFrame 137 = .ok (.aload_n 0, 1) := by decide +kernel
theorem dX1_factOfFrame_138 : decode cX1_factOfFrame 138 = .ok (.invokevirtual 150, 3) := by decide +kernel
theorem dX1_factOfFrame_141 : decode cX1_factOfFrame 141 = .ok (.ireturn, 1) := by decide +kernel
theorem dX1_sumOfValues_0 : decode cX1_sumOfValues 0 = .ok (.iconst 0, 1) := by decide +kernel
theorem dX1_sumOfValues_1 : decode cX1_sumOfValues 1 = .ok (.istore_n 1, 1) := by decide +kernel
theorem dX1_sumOfValues_2 : decode cX1_sumOfValues 2 = .ok (.iconst 0, 1) := by decide +kernel
theorem dX1_sumOfValues_3 : decode cX1_sumOfValues 3 = .ok (.istore_n 2, 1) := by decide +kernel
theorem dX1_sumOfValues_4 : decode cX1_sumOfValues 4 = .ok (.iload_n 2, 1) := by decide +kernel
theorem dX1_sumOfValues_5 : decode cX1_sumOfValues 5 = .ok (.aload_n 0, 1) := by decide +kernel
theorem dX1_sumOfValues_6 : decode cX1_sumOfValues 6 = .ok (.getfield 15, 3) := by decide +kernel
theorem dX1_sumOfValues_9 : decode cX1_sumOfValues 9 = .ok (.if_icmp .ge 17, 3) := by decide +kernel
theorem dX1_sumOfValues_12 : decode cX1_sumOfValues 12 = .ok (.iload_n 1, 1) := by decide +kernel
theorem dX1_sumOfValues_13 : decode cX1_sumOfValues 13 = .ok (.aload_n 0, 1) := by decide +kernel
theorem dX1_sumOfValues_14 : decode cX1_sumOfValues 14 = .ok (.iload_n 2, 1) := by decide +kernel
theorem dX1_sumOfValues_15 : decode cX1_sumOfValues 15 = .ok (.invokevirtual 72, 3) := by decide +kernel
theorem dX1_sumOfValues_18 : decode cX1_sumOfValues 18 = .ok (.iadd, 1) := by decide +kernel
theorem dX1_sumOfValues_19 : decode cX1_sumOfValues 19 = .ok (.istore_n 1, 1) := by decide +kernel
theorem dX1_sumOfValues_20 : decode cX1_sumOfValues 20 = .ok (.iinc 2 1, 3) := by decide +kernel
theorem dX1_sumOfValues_23 : decode cX1_sumOfValues 23 = .ok (.goto (-19), 3) := by decide +kernel
theorem dX1_sumOfValues_26 : decode cX1_sumOfValues 26 = .ok (.iload_n 1, 1) := by decide +kernel
theorem dX1_sumOfValues_27 : decode cX1_sumOfValues 27 = .ok (.ireturn, 1) := by decide +kernel
theorem dX1_beadsThatCount_0 : decode cX1_beadsThatCount 0 = .ok (.iconst 0, 1) := by decide +kernel
theorem dX1_beadsThatCount_1 : decode cX1_beadsThatCount 1 = .ok (.istore_n 1, 1) := by decide +kernel
theorem dX1_beadsThatCount_2 : decode cX1_beadsThatCount 2 = .ok (.iconst 0, 1) := by decide +kernel
theorem dX1_beadsThatCount_3 : decode cX1_beadsThatCount 3 = .ok (.istore_n 2, 1) := by decide +kernel
theorem dX1_beadsThatCount_4 : decode cX1_beadsThatCount 4 = .ok (.iload_n 2, 1) := by decide +kernel
theorem dX1_beadsThatCount_5 : decode cX1_beadsThatCount 5 = .ok (.aload_n 0, 1) := by decide +kernel
theorem dX1_beadsThatCount_6 : decode cX1_beadsThatCount 6 = .ok (.getfield 15, 3) := by decide +kernel
theorem dX1_beadsThatCount_9 : decode cX1_beadsThatCount 9 = .ok (.if_icmp .ge 29, 3) := by decide +kernel
theorem dX1_beadsThatCount_12 : decode cX1_beadsThatCount 12 = .ok (.iload_n 1, 1) := by decide +kernel
theorem dX1_beadsThatCount_13 : decode cX1_beadsThatCount 13 = .ok (.aload_n 0, 1) := by decide +kernel
theorem dX1_beadsThatCount_14 : decode cX1_beadsThatCount 14 = .ok (.getfield 27, 3) := by decide +kernel
theorem dX1_beadsThatCount_17 : decode cX1_beadsThatCount 17 = .ok (.iload_n 2, 1) := by decide +kernel
theorem dX1_beadsThatCount_18 : decode cX1_beadsThatCount 18 = .ok (.invokevirtual 65, 3) := by decide +kernel
theorem dX1_beadsThatCount_21 : decode cX1_beadsThatCount 21 = .ok (.aload_n 0, 1) := by decide +kernel
theorem dX1_beadsThatCount_22 : decode cX1_beadsThatCount 22 = .ok (.getfield 34, 3) := by decide +kernel
theorem dX1_beadsThatCount_25 : decode cX1_beadsThatCount 25 = .ok (.iload_n 2, 1) := by decide +kernel
theorem dX1_beadsThatCount_26 : decode cX1_beadsThatCount 26 = .ok (.invokevirtual 65, 3) := by decide +kernel
theorem dX1_beadsThatCount_29 : decode cX1_beadsThatCount 29 = .ok (.iadd, 1) := by decide +kernel
theorem dX1_beadsThatCount_30 : decode cX1_beadsThatCount 30 = .ok (.iadd, 1) := by decide +kernel
theorem dX1_beadsThatCount_31 : decode cX1_beadsThatCount 31 = .ok (.istore_n 1, 1) := by decide +kernel
theorem dX1_beadsThatCount_32 : decode cX1_beadsThatCount 32 = .ok (.iinc 2 1, 3) := by decide +kernel
theorem dX1_beadsThatCount_35 : decode cX1_beadsThatCount 35 = .ok (.goto (-31), 3) := by decide +kernel
theorem dX1_beadsThatCount_38 : decode cX1_beadsThatCount 38 = .ok (.iload_n 1, 1) := by decide +kernel
theorem dX1_beadsThatCount_39 : decode cX1_beadsThatCount 39 = .ok (.ireturn, 1) := by decide +kernel
theorem dX1_waysToShow_0 : decode cX1_waysToShow 0 = .ok (.lconst 1, 1) := by decide +kernel
theorem dX1_waysToShow_1 : decode cX1_waysToShow 1 = .ok (.lstore_n 1, 1) := by decide +kernel
theorem dX1_waysToShow_2 : decode cX1_waysToShow 2 = .ok (.lconst 0, 1) := by decide +kernel
theorem dX1_waysToShow_3 : decode cX1_waysToShow 3 = .ok (.lstore_n 3, 1) := by decide +kernel
theorem dX1_waysToShow_4 : decode cX1_waysToShow 4 = .ok (.aload_n 0, 1) := by decide +kernel
theorem dX1_waysToShow_5 : decode cX1_waysToShow 5 = .ok (.invokevirtual 144, 3) := by decide +kernel
theorem dX1_waysToShow_8 : decode cX1_waysToShow 8 = .ok (.lstore 5, 2) := by decide +kernel
theorem dX1_waysToShow_10 : decode cX1_waysToShow 10 = .ok (.iconst 0, 1) := by decide +kernel
theorem dX1_waysToShow_11 : decode cX1_waysToShow 11 = .ok (.istore 7, 2) := by decide +kernel
theorem dX1_waysToShow_13 : decode cX1_waysToShow 13 = .ok (.iload 7, 2) := by decide +kernel
theorem dX1_waysToShow_15 : decode cX1_waysToShow 15 = .ok (.aload_n 0, 1) := by decide +kernel
theorem dX1_waysToShow_16 : decode cX1_waysToShow 16 = .ok (.getfield 15, 3) := by decide +kernel
theorem dX1_waysToShow_19 : decode cX1_waysToShow 19 = .ok (.if_icmp .ge 82, 3) := by decide +kernel
theorem dX1_waysToShow_22 : decode cX1_waysToShow 22 = .ok (.lload 5, 2) := by decide +kernel
theorem dX1_waysToShow_24 : decode cX1_waysToShow 24 = .ok (.ldc2_w 63, 3) := by decide +kernel
theorem dX1_waysToShow_27 : decode cX1_waysToShow 27 = .ok (.lrem, 1) := by decide +kernel
theorem dX1_waysToShow_28 : decode cX1_waysToShow 28 = .ok (.l2i, 1) := by decide +kernel
theorem dX1_waysToShow_29 : decode cX1_waysToShow 29 = .ok (.istore 8, 2) := by decide +kernel
theorem dX1_waysToShow_31 : decode cX1_waysToShow 31 = .ok (.lload_n 1, 1) := by decide +kernel
theorem dX1_waysToShow_32 : decode cX1_waysToShow 32 = .ok (.aload_n 0, 1) := by decide +kernel
theorem dX1_waysToShow_33 : decode cX1_waysToShow 33 = .ok (.iload 8, 2) := by decide +kernel
theorem dX1_waysToShow_35 : decode cX1_waysToShow 35 = .ok (.invokevirtual 164, 3) := by decide +kernel
theorem dX1_waysToShow_38 : decode cX1_waysToShow 38 = .ok (.i2l, 1) := by decide +kernel
theorem dX1_waysToShow_39 : decode cX1_waysToShow 39 = .ok (.lmul, 1) := by decide +kernel
theorem dX1_waysToShow_40 : decode cX1_waysToShow 40 = .ok (.lload_n 3, 1) := by decide +kernel
theorem dX1_waysToShow_41 : decode cX1_waysToShow 41 = .ok (.aload_n 0, 1) := by decide +kernel
theorem dX1_waysToShow_42 : decode cX1_waysToShow 42 = .ok (.iload 8, 2) := by decide +kernel
theorem dX1_waysToShow_44 : decode cX1_waysToShow 44 = .ok (.iconst 1, 1) := by decide +kernel
theorem dX1_waysToShow_45 : decode cX1_waysToShow 45 = .ok (.isub, 1) := by decide +kernel
theorem dX1_waysToShow_46 : decode cX1_waysToShow 46 = .ok (.invokevirtual 164, 3) := by decide +kernel
theorem dX1_waysToShow_49 : decode cX1_waysToShow 49 = .ok (.i2l, 1) := by decide +kernel
theorem dX1_waysToShow_50 : decode cX1_waysToShow 50 = .ok (.lmul, 1) := by decide +kernel
theorem dX1_waysToShow_51 : decode cX1_waysToShow 51 = .ok (.ladd, 1) := by decide +kernel
theorem dX1_waysToShow_52 : decode cX1_waysToShow 52 = .ok (.lstore 9, 2) := by decide +kernel
theorem dX1_waysToShow_54 : decode cX1_waysToShow 54 = .ok (.lload_n 1, 1) := by decide +kernel
theorem dX1_waysToShow_55 : decode cX1_waysToShow 55 = .ok (.aload_n 0, 1) := by decide +kernel
theorem dX1_waysToShow_56 : decode cX1_waysToShow 56 = .ok (.iload 8, 2) := by decide +kernel
theorem dX1_waysToShow_58 : decode cX1_waysToShow 58 = .ok (.bipush 10, 2) := by decide +kernel
theorem dX1_waysToShow_60 : decode cX1_waysToShow 60 = .ok (.iadd, 1) := by decide +kernel
theorem dX1_waysToShow_61 : decode cX1_waysToShow 61 = .ok (.invokevirtual 164, 3) := by decide +kernel
theorem dX1_waysToShow_64 : decode cX1_waysToShow 64 = .ok (.i2l, 1) := by decide +kernel
theorem dX1_waysToShow_65 : decode cX1_waysToShow 65 = .ok (.lmul, 1) := by decide +kernel
theorem dX1_waysToShow_66 : decode cX1_waysToShow 66 = .ok (.lload_n 3, 1) := by decide +kernel
theorem dX1_waysToShow_67 : decode cX1_waysToShow 67 = .ok (.aload_n 0, 1) := by decide +kernel
theorem dX1_waysToShow_68 : decode cX1_waysToShow 68 = .ok (.iload 8, 2) := by decide +kernel
theorem dX1_waysToShow_70 : decode cX1_waysToShow 70 = .ok (.bipush 9, 2) := by decide +kernel
theorem dX1_waysToShow_72 : decode cX1_waysToShow 72 = .ok (.iadd, 1) := by decide +kernel
theorem dX1_waysToShow_73 : decode cX1_waysToShow 73 = .ok (.invokevirtual 164, 3) := by decide +kernel
theorem dX1_waysToShow_76 : decode cX1_waysToShow 76 = .ok (.i2l, 1) := by decide +kernel
theorem dX1_waysToShow_77 : decode cX1_waysToShow 77 = .ok (.lmul, 1) := by decide +kernel
theorem dX1_waysToShow_78 : decode cX1_waysToShow 78 = .ok (.ladd, 1) := by decide +kernel
theorem dX1_waysToShow_79 : decode cX1_waysToShow 79 = .ok (.lstore 11, 2) := by decide +kernel
theorem dX1_waysToShow_81 : decode cX1_waysToShow 81 = .ok (.lload 9, 2) := by decide +kernel
theorem dX1_waysToShow_83 : decode cX1_waysToShow 83 = .ok (.lstore_n 1, 1) := by decide +kernel
theorem dX1_waysToShow_84 : decode cX1_waysToShow 84 = .ok (.lload 11, 2) := by decide +kernel
theorem dX1_waysToShow_86 : decode cX1_waysToShow 86 = .ok (.lstore_n 3, 1) := by decide +kernel
theorem dX1_waysToShow_87 : decode cX1_waysToShow 87 = .ok (.lload 5, 2) := by decide +kernel
theorem dX1_waysToShow_89 : decode cX1_waysToShow 89 = .ok (.ldc2_w 63, 3) := by decide +kernel
theorem dX1_waysToShow_92 : decode cX1_waysToShow 92 = .ok (.ldiv, 1) := by decide +kernel
theorem dX1_waysToShow_93 : decode cX1_waysToShow 93 = .ok (.lstore 5, 2) := by decide +kernel
theorem dX1_waysToShow_95 : decode cX1_waysToShow 95 = .ok (.iinc 7 1, 3) := by decide +kernel
theorem dX1_waysToShow_98 : decode cX1_waysToShow 98 = .ok (.goto (-85), 3) := by decide +kernel
theorem dX1_waysToShow_101 : decode cX1_waysToShow 101 = .ok (.lload 5, 2) := by decide +kernel
theorem dX1_waysToShow_103 : decode cX1_waysToShow 103 = .ok (.lconst 0, 1) := by decide +kernel
theorem dX1_waysToShow_104 : decode cX1_waysToShow 104 = .ok (.lcmp, 1) := by decide +kernel
theorem dX1_waysToShow_105 : decode cX1_waysToShow 105 = .ok (.ifCond .ne 7, 3) := by decide +kernel
theorem dX1_waysToShow_108 : decode cX1_waysToShow 108 = .ok (.lload_n 1, 1) := by decide +kernel
theorem dX1_waysToShow_109 : decode cX1_waysToShow 109 = .ok (.goto 4, 3) := by decide +kernel
theorem dX1_waysToShow_112 : decode cX1_waysToShow 112 = .ok (.lload_n 3, 1) := by decide +kernel
theorem dX1_waysToShow_113 : decode cX1_waysToShow 113 = .ok (.lreturn, 1) := by decide +kernel
theorem dX1_waysOfRod_0 : decode cX1_waysOfRod 0 = .ok (.iconst 0, 1) := by decide +kernel
theorem dX1_waysOfRod_1 : decode cX1_waysOfRod 1 = .ok (.istore_n 2, 1) := by decide +kernel
theorem dX1_waysOfRod_2 : decode cX1_waysOfRod 2 = .ok (.iconst 0, 1) := by decide +kernel
theorem dX1_waysOfRod_3 : decode cX1_waysOfRod 3 = .ok (.istore_n 3, 1) := by decide +kernel
theorem dX1_waysOfRod_4 : decode cX1_waysOfRod 4 = .ok (.iload_n 3, 1) := by decide +kernel
theorem dX1_waysOfRod_5 : decode cX1_waysOfRod 5 = .ok (.aload_n 0, 1) := by decide +kernel
theorem dX1_waysOfRod_6 : decode cX1_waysOfRod 6 = .ok (.getfield 27, 3) := by decide +kernel
theorem dX1_waysOfRod_9 : decode cX1_waysOfRod 9 = .ok (.getfield 69, 3) := by decide +kernel
theorem dX1_waysOfRod_12 : decode cX1_waysOfRod 12 = .ok (.if_icmp .gt 36, 3) := by decide +kernel
theorem dX1_waysOfRod_15 : decode cX1_waysOfRod 15 = .ok (.iload_n 1, 1) := by decide +kernel
theorem dX1_waysOfRod_16 : decode cX1_waysOfRod 16 = .ok (.iconst 5, 1) := by decide +kernel
theorem dX1_waysOfRod_17 : decode cX1_waysOfRod 17 = .ok (.iload_n 3, 1) := by decide +kernel
theorem dX1_waysOfRod_18 : decode cX1_waysOfRod 18 = .ok (.imul, 1) := by decide +kernel
theorem dX1_waysOfRod_19 : decode cX1_waysOfRod 19 = .ok (.isub, 1) := by decide +kernel
theorem dX1_waysOfRod_20 : decode cX1_waysOfRod 20 = .ok (.istore 4, 2) := by decide +kernel
theorem dX1_waysOfRod_22 : decode cX1_waysOfRod 22 = .ok (.iload 4, 2) := by decide +kernel
theorem dX1_waysOfRod_24 : decode cX1_waysOfRod 24 = .ok (.ifCond .lt 18, 3) := by decide +kernel
theorem dX1_waysOfRod_27 : decode cX1_waysOfRod 27 = .ok (.iload 4, 2) := by decide +kernel
theorem dX1_waysOfRod_29 : decode cX1_waysOfRod 29 = .ok (.aload_n 0, 1) := by decide +kernel
theorem dX1_waysOfRod_30 : decode cX1_waysOfRod 30 = .ok (.getfield 34, 3) := by decide +kernel
theorem dX1_waysOfRod_33 : decode cX1_waysOfRod 33 = .ok (.getfield 69, 3) := by decide +kernel
theorem dX1_waysOfRod_36 : decode cX1_waysOfRod 36 = .ok (.if_icmp .gt 6, 3) := by decide +kernel
theorem dX1_waysOfRod_39 : decode cX1_waysOfRod 39 = .ok (.iinc 2 1, 3) := by decide +kernel
theorem dX1_waysOfRod_42 : decode cX1_waysOfRod 42 = .ok (.iinc 3 1, 3) := by decide +kernel
theorem dX1_waysOfRod_45 : decode cX1_waysOfRod 45 = .ok (.goto (-41), 3) := by decide +kernel
theorem dX1_waysOfRod_48 : decode cX1_waysOfRod 48 = .ok (.iload_n 2, 1) := by decide +kernel
theorem dX1_waysOfRod_49 : decode cX1_waysOfRod 49 = .ok (.ireturn, 1) := by decide +kernel
theorem dX1_fewestBeadsToShow_0 : decode cX1_fewestBeadsToShow 0 = .ok (.iconst 0, 1) := by decide +kernel
theorem dX1_fewestBeadsToShow_1 : decode cX1_fewestBeadsToShow 1 = .ok (.istore_n 1, 1) := by decide +kernel
theorem dX1_fewestBeadsToShow_2 : decode cX1_fewestBeadsToShow 2 = .ok (.sipush 1000, 3) := by decide +kernel
theorem dX1_fewestBeadsToShow_5 : decode cX1_fewestBeadsToShow 5 = .ok (.istore_n 2, 1) := by decide +kernel
theorem dX1_fewestBeadsToShow_6 : decode cX1_fewestBeadsToShow 6 = .ok (.aload_n 0, 1) := by decide +kernel
theorem dX1_fewestBeadsToShow_7 : decode cX1_fewestBeadsToShow 7 = .ok (.invokevirtual 144, 3) := by decide +kernel
theorem dX1_fewestBeadsToShow_10 : decode cX1_fewestBeadsToShow 10 = .ok (.lstore_n 3, 1) := by decide +kernel
theorem dX1_fewestBeadsToShow_11 : decode cX1_fewestBeadsToShow 11 = .ok (.iconst 0, 1) := by decide +kernel
theorem dX1_fewestBeadsToShow_12 : decode cX1_fewestBeadsToShow 12 = .ok (.istore 5, 2) := by decide +kernel
theorem dX1_fewestBeadsToShow_14 : decode cX1_fewestBeadsToShow 14 = .ok (.iload 5, 2) := by decide +kernel
theorem dX1_fewestBeadsToShow_16 : decode cX1_fewestBeadsToShow 16 = .ok (.aload_n 0, 1) := by decide +kernel
theorem dX1_fewestBeadsToShow_17 : decode cX1_fewestBeadsToShow 17 = .ok (.getfield 15, 3) := by decide +kernel
theorem dX1_fewestBeadsToShow_20 : decode cX1_fewestBeadsToShow 20 = .ok (.if_icmp .ge 79, 3) := by decide +kernel
theorem dX1_fewestBeadsToShow_23 : decode cX1_fewestBeadsToShow 23 = .ok (.lload_n 3, 1) := by decide +kernel
theorem dX1_fewestBeadsToShow_24 : decode cX1_fewestBeadsToShow 24 = .ok (.ldc2_w 63, 3) := by decide +kernel
theorem dX1_fewestBeadsToShow_27 : decode cX1_fewestBeadsToShow 27 = .ok (.lrem, 1) := by decide +kernel
theorem dX1_fewestBeadsToShow_28 : decode cX1_fewestBeadsToShow 28 = .ok (.l2i, 1) := by decide +kernel
theorem dX1_fewestBeadsToShow_29 : decode cX1_fewestBeadsToShow 29 = .ok (.istore 6, 2) := by decide +kernel
theorem dX1_fewestBeadsToShow_31 : decode cX1_fewestBeadsToShow 31 = .ok (.iload_n 1, 1) := by decide +kernel
theorem dX1_fewestBeadsToShow_32 : decode cX1_fewestBeadsToShow 32 = .ok (.aload_n 0, 1) := by decide +kernel
theorem dX1_fewestBeadsToShow_33 : decode cX1_fewestBeadsToShow 33 = .ok (.iload 6, 2) := by decide +kernel
theorem dX1_fewestBeadsToShow_35 : decode cX1_fewestBeadsToShow 35 = .ok (.invokevirtual 167, 3) := by decide +kernel
theorem dX1_fewestBeadsToShow_38 : decode cX1_fewestBeadsToShow 38 = .ok (.iadd, 1) := by decide +kernel
theorem dX1_fewestBeadsToShow_39 : decode cX1_fewestBeadsToShow 39 = .ok (.iload_n 2, 1) := by decide +kernel
theorem dX1_fewestBeadsToShow_40 : decode cX1_fewestBeadsToShow 40 = .ok (.aload_n 0, 1) := by decide +kernel
theorem dX1_fewestBeadsToShow_41 : decode cX1_fewestBeadsToShow 41 = .ok (.iload 6, 2) := by decide +kernel
theorem dX1_fewestBeadsToShow_43 : decode cX1_fewestBeadsToShow 43 = .ok (.iconst 1, 1) := by decide +kernel
theorem dX1_fewestBeadsToShow_44 : decode cX1_fewestBeadsToShow 44 = .ok (.isub, 1) := by decide +kernel
theorem dX1_fewestBeadsToShow_45 : decode cX1_fewestBeadsToShow 45 = .ok (.invokevirtual 167, 3) := by decide +kernel
theorem dX1_fewestBeadsToShow_48 : decode cX1_fewestBeadsToShow 48 = .ok (.iadd, 1) := by decide +kernel
theorem dX1_fewestBeadsToShow_49 : decode cX1_fewestBeadsToShow 49 = .ok (.invokestatic 170, 3) := by decide +kernel
theorem dX1_fewestBeadsToShow_52 : decode cX1_fewestBeadsToShow 52 = .ok (.istore 7, 2) := by decide +kernel
theorem dX1_fewestBeadsToShow_54 : decode cX1_fewestBeadsToShow 54 = .ok (.iload_n 1, 1) := by decide +kernel
theorem dX1_fewestBeadsToShow_55 : decode cX1_fewestBeadsToShow 55 = .ok (.aload_n 0, 1) := by decide +kernel
theorem dX1_fewestBeadsToShow_56 : decode cX1_fewestBeadsToShow 56 = .ok (.iload 6, 2) := by decide +kernel
theorem dX1_fewestBeadsToShow_58 : decode cX1_fewestBeadsToShow 58 = .ok (.bipush 10, 2) := by decide +kernel
theorem dX1_fewestBeadsToShow_60 : decode cX1_fewestBeadsToShow 60 = .ok (.iadd, 1) := by decide +kernel
theorem dX1_fewestBeadsToShow_61 : decode cX1_fewestBeadsToShow 61 = .ok (.invokevirtual 167, 3) := by decide +kernel
theorem dX1_fewestBeadsToShow_64 : decode cX1_fewestBeadsToShow 64 = .ok (.iadd, 1) := by decide +kernel
theorem dX1_fewestBeadsToShow_65 : decode cX1_fewestBeadsToShow 65 = .ok (.iload_n 2, 1) := by decide +kernel
theorem dX1_fewestBeadsToShow_66 : decode cX1_fewestBeadsToShow 66 = .ok (.aload_n 0, 1) := by decide +kernel
theorem dX1_fewestBeadsToShow_67 : decode cX1_fewestBeadsToShow 67 = .ok (.iload 6, 2) := by decide +kernel
theorem dX1_fewestBeadsToShow_69 : decode cX1_fewestBeadsToShow 69 = .ok (.bipush 9, 2) := by decide +kernel
theorem dX1_fewestBeadsToShow_71 : decode cX1_fewestBeadsToShow 71 = .ok (.iadd, 1) := by decide +kernel
theorem dX1_fewestBeadsToShow_72 : decode cX1_fewestBeadsToShow 72 = .ok (.invokevirtual 167, 3) := by decide +kernel
theorem dX1_fewestBeadsToShow_75 : decode cX1_fewestBeadsToShow 75 = .ok (.iadd, 1) := by decide +kernel
theorem dX1_fewestBeadsToShow_76 : decode cX1_fewestBeadsToShow 76 = .ok (.invokestatic 170, 3) := by decide +kernel
theorem dX1_fewestBeadsToShow_79 : decode cX1_fewestBeadsToShow 79 = .ok (.istore 8, 2) := by decide +kernel
theorem dX1_fewestBeadsToShow_81 : decode cX1_fewestBeadsToShow 81 = .ok (.iload 7, 2) := by decide +kernel
theorem dX1_fewestBeadsToShow_83 : decode cX1_fewestBeadsToShow 83 = .ok (.istore_n 1, 1) := by decide +kernel
theorem dX1_fewestBeadsToShow_84 : decode cX1_fewestBeadsToShow 84 = .ok (.iload 8, 2) := by decide +kernel
theorem dX1_fewestBeadsToShow_86 : decode cX1_fewestBeadsToShow 86 = .ok (.istore_n 2, 1) := by decide +kernel
theorem dX1_fewestBeadsToShow_87 : decode cX1_fewestBeadsToShow 87 = .ok (.lload_n 3, 1) := by decide +kernel
theorem dX1_fewestBeadsToShow_88 : decode cX1_fewestBeadsToShow 88 = .ok (.ldc2_w 63, 3) := by decide +kernel
theorem dX1_fewestBeadsToShow_91 : decode cX1_fewestBeadsToShow 91 = .ok (.ldiv, 1) := by decide +kernel
theorem dX1_fewestBeadsToShow_92 : decode cX1_fewestBeadsToShow 92 = .ok (.lstore_n 3, 1) := by decide +kernel
theorem dX1_fewestBeadsToShow_93 : decode cX1_fewestBeadsToShow 93 = .ok (.iinc 5 1, 3) := by decide +kernel
theorem dX1_fewestBeadsToShow_96 : decode cX1_fewestBeadsToShow 96 = .ok (.goto (-82), 3) := by decide +kernel
theorem dX1_fewestBeadsToShow_99 : decode cX1_fewestBeadsToShow 99 = .ok (.lload_n 3, 1) := by decide +kernel
theorem dX1_fewestBeadsToShow_100 : decode cX1_fewestBeadsToShow 100 = .ok (.lconst 0, 1) := by decide +kernel
theorem dX1_fewestBeadsToShow_101 : decode cX1_fewestBeadsToShow 101 = .ok (.lcmp, 1) := by decide +kernel
theorem dX1_fewestBeadsToShow_102 : decode cX1_fewestBeadsToShow 102 = .ok (.ifCond .ne 7, 3) := by decide +kernel
theorem dX1_fewestBeadsToShow_105 : decode cX1_fewestBeadsToShow 105 = .ok (.iload_n 1, 1) := by decide +kernel
theorem dX1_fewestBeadsToShow_106 : decode cX1_fewestBeadsToShow 106 = .ok (.goto 4, 3) := by decide +kernel
theorem dX1_fewestBeadsToShow_109 : decode cX1_fewestBeadsToShow 109 = .ok (.iload_n 2, 1) := by decide +kernel
theorem dX1_fewestBeadsToShow_110 : decode cX1_fewestBeadsToShow 110 = .ok (.ireturn, 1) := by decide +kernel
theorem dX1_fewestOfRod_0 : decode cX1_fewestOfRod 0 = .ok (.sipush 1000, 3) := by decide +kernel
theorem dX1_fewestOfRod_3 : decode cX1_fewestOfRod 3 = .ok (.istore_n 2, 1) := by decide +kernel
theorem dX1_fewestOfRod_4 : decode cX1_fewestOfRod 4 = .ok (.iconst 0, 1) := by decide +kernel
theorem dX1_fewestOfRod_5 : decode cX1_fewestOfRod 5 = .ok (.istore_n 3, 1) := by decide +kernel
theorem dX1_fewestOfRod_6 : decode cX1_fewestOfRod 6 = .ok (.iload_n 3, 1) := by decide +kernel
theorem dX1_fewestOfRod_7 : decode cX1_fewestOfRod 7 = .ok (.aload_n 0, 1) := by decide +kernel
theorem dX1_fewestOfRod_8 : decode cX1_fewestOfRod 8 = .ok (.getfield 27, 3) := by decide +kernel
theorem dX1_fewestOfRod_11 : decode cX1_fewestOfRod 11 = .ok (.getfield 69, 3) := by decide +kernel
theorem dX1_fewestOfRod_14 : decode cX1_fewestOfRod 14 = .ok (.if_icmp .gt 42, 3) := by decide +kernel
theorem dX1_fewestOfRod_17 : decode cX1_fewestOfRod 17 = .ok (.iload_n 1, 1) := by decide +kernel
theorem dX1_fewestOfRod_18 : decode cX1_fewestOfRod 18 = .ok (.iconst 5, 1) := by decide +kernel
theorem dX1_fewestOfRod_19 : decode cX1_fewestOfRod 19 = .ok (.iload_n 3, 1) := by decide +kernel
theorem dX1_fewestOfRod_20 : decode cX1_fewestOfRod 20 = .ok (.imul, 1) := by decide +kernel
theorem dX1_fewestOfRod_21 : decode cX1_fewestOfRod 21 = .ok (.isub, 1) := by decide +kernel
theorem dX1_fewestOfRod_22 : decode cX1_fewestOfRod 22 = .ok (.istore 4, 2) := by decide +kernel
theorem dX1_fewestOfRod_24 : decode cX1_fewestOfRod 24 = .ok (.iload 4, 2) := by decide +kernel
theorem dX1_fewestOfRod_26 : decode cX1_fewestOfRod 26 = .ok (.ifCond .lt 24, 3) := by decide +kernel
theorem dX1_fewestOfRod_29 : decode cX1_fewestOfRod 29 = .ok (.iload 4, 2) := by decide +kernel
theorem dX1_fewestOfRod_31 : decode cX1_fewestOfRod 31 = .ok (.aload_n 0, 1) := by decide +kernel
theorem dX1_fewestOfRod_32 : decode cX1_fewestOfRod 32 = .ok (.getfield 34, 3) := by decide +kernel
theorem dX1_fewestOfRod_35 : decode cX1_fewestOfRod 35 = .ok (.getfield 69, 3) := by decide +kernel
theorem dX1_fewestOfRod_38 : decode cX1_fewestOfRod 38 = .ok (.if_icmp .gt 12, 3) := by decide +kernel
theorem dX1_fewestOfRod_41 : decode cX1_fewestOfRod 41 = .ok (.iload_n 2, 1) := by decide +kernel
theorem dX1_fewestOfRod_42 : decode cX1_fewestOfRod 42 = .ok (.iload_n 3, 1) := by decide +kernel
theorem dX1_fewestOfRod_43 : decode cX1_fewestOfRod 43 = .ok (.iload 4, 2) := by decide +kernel
theorem dX1_fewestOfRod_45 : decode cX1_fewestOfRod 45 = .ok (.iadd, 1) := by decide +kernel
theorem dX1_fewestOfRod_46 : decode cX1_fewestOfRod 46 = .ok (.invokestatic 170, 3) := by decide +kernel
theorem dX1_fewestOfRod_49 : decode cX1_fewestOfRod 49 = .ok (.istore_n 2, 1) := by decide +kernel
theorem dX1_fewestOfRod_50 : decode cX1_fewestOfRod 50 = .ok (.iinc 3 1, 3) := by decide +kernel
theorem dX1_fewestOfRod_53 : decode cX1_fewestOfRod 53 = .ok (.goto (-47), 3) := by decide +kernel
theorem dX1_fewestOfRod_56 : decode cX1_fewestOfRod 56 = .ok (.iload_n 2, 1) := by decide +kernel
theorem dX1_fewestOfRod_57 : decode cX1_fewestOfRod 57 = .ok (.ireturn, 1) := by decide +kernel
theorem dX2_init_0 : decode cX2_init 0 = .ok (.aload_n 0, 1) := by decide +kernel
theorem dX2_init_1 : decode cX2_init 1 = .ok (.invokespecial 1, 3) := by decide +kernel
theorem dX2_init_4 : decode cX2_init 4 = .ok (.aload_n 0, 1) := by decide +kernel
theorem dX2_init_5 : decode cX2_init 5 = .ok (.iconst 4, 1) := by decide +kernel
theorem dX2_init_6 : decode cX2_init 6 = .ok (.anewarray 9, 3) := by decide +kernel
theorem dX2_init_9 : decode cX2_init 9 = .ok (.putfield 11, 3) := by decide +kernel
theorem dX2_init_12 : decode cX2_init 12 = .ok (.aload_n 0, 1) := by decide +kernel
theorem dX2_init_13 : decode cX2_init 13 = .ok (.new 9, 3) := by decide +kernel
theorem dX2_init_16 : decode cX2_init 16 = .ok (.dup, 1) := by decide +kernel
theorem dX2_init_17 : decode cX2_init 17 = .ok (.iconst 0, 1) := by decide +kernel
theorem dX2_init_18 : decode cX2_init 18 = .ok (.iconst 2, 1) := by decide +kernel
theorem dX2_init_19 : decode cX2_init 19 = .ok (.invokespecial 15, 3) := by decide +kernel
theorem dX2_init_22 : decode cX2_init 22 = .ok (.putfield 18, 3) := by decide +kernel
theorem dX2_init_25 : decode cX2_init 25 = .ok (.return_, 1) := by decide +kernel
theorem dX2_frame_0 : decode cX2_frame 0 = .ok (.iload_n 1, 1) := by decide +kernel
theorem dX2_frame_1 : decode cX2_frame 1 = .ok (.ifCond .lt 22, 3) := by decide +kernel
theorem dX2_frame_4 : decode cX2_frame 4 = .ok (.iload_n 1, 1) := by decide +kernel
theorem dX2_frame_5 : decode cX2_frame 5 = .ok (.getstatic 22, 3) := by decide +kernel
theorem dX2_frame_8 : decode cX2_frame 8 = .ok (.arraylength, 1) := by decide +kernel
theorem dX2_frame_9 : decode cX2_frame 9 = .ok (.if_icmp .ge 14, 3) := by decide +kernel
theorem dX2_frame_12 : decode cX2_frame 12 = .ok (.iload_n 2, 1) := by decide +kernel
theorem dX2_frame_13 : decode cX2_frame 13 = .ok (.iconst 2, 1) := by decide +kernel
theorem dX2_frame_14 : decode cX2_frame 14 = .ok (.if_icmp .lt 9, 3) := by decide +kernel
theorem dX2_frame_17 : decode cX2_frame 17 = .ok (.iload_n 2, 1) := by decide +kernel
theorem dX2_frame_18 : decode cX2_frame 18 = .ok (.bipush 8, 2) := by decide +kernel
theorem dX2_frame_20 : decode cX2_frame 20 = .ok (.if_icmp .le 13, 3) := by decide +kernel
theorem dX2_frame_23 : decode cX2_frame 23 = .ok (.new 26, 3) := by decide +kernel
theorem dX2_frame_26 : decode cX2_frame 26 = .ok (.dup, 1) := by decide +kernel
theorem dX2_frame_27 : decode cX2_frame 27 = .ok (.ldc 28, 2) := by decide +kernel
theorem dX2_frame_29 : decode cX2_frame 29 = .ok (.invokespecial 30, 3) := by decide +kernel
theorem dX2_frame_32 : decode cX2_frame 32 = .ok (.athrow, 1) := by decide +kernel
theorem dX2_frame_33 : decode cX2_frame 33 = .ok (.aload_n 0, 1) := by decide +kernel
theorem dX2_frame_34 : decode cX2_frame 34 = .ok (.getfield 33, 3) := by decide +kernel
theorem dX2_frame_37 : decode cX2_frame 37 = .ok (.ifCond .lt 15, 3) := by decide +kernel
theorem dX2_frame_40 : decode cX2_frame 40 = .ok (.aload_n 0, 1) := by decide +kernel
theorem dX2_frame_41 : decode cX2_frame 41 = .ok (.getfield 33, 3) := by decide +kernel
theorem dX2_frame_44 : decode cX2_frame 44 = .ok (.aload_n 0, 1) := by decide +kernel
theorem dX2_frame_45 : decode cX2_frame 45 = .ok (.getfield 11, 3) := by decide +kernel
theorem dX2_frame_48 : decode cX2_frame 48 = .ok (.arraylength, 1) := by decide +kernel
theorem dX2_frame_49 : decode cX2_frame 49 = .ok (.if_icmp .lt 13, 3) := by decide +kernel
theorem dX2_frame_52 : decode cX2_frame 52 = .ok (.new 37, 3) := by decide +kernel
theorem dX2_frame_55 : decode cX2_frame 55 = .ok (.dup, 1) := by decide +kernel
theorem dX2_frame_56 : decode cX2_frame 56 = .ok (.ldc 39, 2) := by decide +kernel
theorem dX2_frame_58 : decode cX2_frame 58 = .ok (.invokespecial 41, 3) := by decide +kernel
theorem dX2_frame_61 : decode cX2_frame 61 = .ok (.athrow, 1) := by decide +kernel
theorem dX2_frame_62 : decode cX2_frame 62 = .ok (.aload_n 0, 1) := by decide +kernel
theorem dX2_frame_63 : decode cX2_frame 63 = .ok (.getfield 33, 3) := by decide +kernel
theorem dX2_frame_66 : decode cX2_frame 66 = .ok (.istore_n 3, 1) := by decide +kernel
theorem dX2_frame_67 : decode cX2_frame 67 = .ok (.aload_n 0, 1) := by decide +kernel
theorem dX2_frame_68 : decode cX2_frame 68 = .ok (.getfield 11, 3) := by decide +kernel
theorem dX2_frame_71 : decode cX2_frame 71 = .ok (.iload_n 3, 1) := by decide +kernel
theorem dX2_frame_72 : decode cX2_frame 72 = .ok (.new 9, 3) := by decide +kernel
theorem dX2_frame_75 : decode cX2_frame 75 = .ok (.dup, 1) := by decide +kernel
theorem dX2_frame_76 : decode cX2_frame 76 = .ok (.iload_n 1, 1) := by decide +kernel
theorem dX2_frame_77 : decode cX2_frame 77 = .ok (.iload_n 2, 1) := by decide +kernel
theorem dX2_frame_78 : decode cX2_frame 78 = .ok (.invokespecial 15, 3) := by decide +kernel
theorem dX2_frame_81 : decode cX2_frame 81 = .ok (.aastore, 1) := by decide +kernel
theorem dX2_frame_82 : decode cX2_frame 82 = .ok (.aload_n 0, 1) := by decide +kernel
theorem dX2_frame_83 : decode cX2_frame 83 = .ok (.iload_n 3, 1) := by decide +kernel
theorem dX2_frame_84 : decode cX2_frame 84 = .ok (.iconst 1, 1) := by decide +kernel
theorem dX2_frame_85 : decode cX2_frame 85 = .ok (.iadd, 1) := by decide +kernel
theorem dX2_frame_86 : decode cX2_frame 86 = .ok (.putfield 33, 3) := by decide +kernel
theorem dX2_frame_89 : decode cX2_frame 89 = .ok (.iload_n 3, 1) := by decide +kernel
theorem dX2_frame_90 : decode cX2_frame 90 = .ok (.ireturn, 1) := by decide +kernel
theorem dX2_push_0 : decode cX2_push 0 = .ok (.aload_n 0, 1) := by decide +kernel
theorem dX2_push_1 : decode cX2_push 1 = .ok (.iload_n 1, 1) := by decide +kernel
theorem dX2_push_2 : decode cX2_push 2 = .ok (.iload_n 2, 1) := by decide +kernel
theorem dX2_push_3 : decode cX2_push 3 = .ok (.invokevirtual 42, 3) := by decide +kernel
theorem dX2_push_6 : decode cX2_push 6 = .ok (.astore 5, 2) := by decide +kernel
theorem dX2_push_8 : decode cX2_push 8 = .ok (.iload 4, 2) := by decide +kernel
theorem dX2_push_10 : decode cX2_push 10 = .ok (.ifCond .ne 13, 3) := by decide +kernel
theorem dX2_push_13 : decode cX2_push 13 = .ok (.new 26, 3) := by decide +kernel
theorem dX2_push_16 : decode cX2_push 16 = .ok (.dup, 1) := by decide +kernel
theorem dX2_push_17 : decode cX2_push 17 = .ok (.ldc 46, 2) := by decide +kernel
theorem dX2_push_19 : decode cX2_push 19 = .ok (.invokespecial 30, 3) := by decide +kernel
theorem dX2_push_22 : decode cX2_push 22 = .ok (.athrow, 1) := by decide +kernel
theorem dX2_push_23 : decode cX2_push 23 = .ok (.iload_n 3, 1) := by decide +kernel
theorem dX2_push_24 : decode cX2_push 24 = .ok (.ifCond .eq 11, 3) := by decide +kernel
theorem dX2_push_27 : decode cX2_push 27 = .ok (.aload 5, 2) := by decide +kernel
theorem dX2_push_29 : decode cX2_push 29 = .ok (.getfield 48, 3) := by decide +kernel
theorem dX2_push_32 : decode cX2_push 32 = .ok (.goto 8, 3) := by decide +kernel
theorem dX2_push_35 : decode cX2_push 35 = .ok (.aload 5, 2) := by decide +kernel
theorem dX2_push_37 : decode cX2_push 37 = .ok (.getfield 52, 3) := by decide +kernel
theorem dX2_push_40 : decode cX2_push 40 = .ok (.astore 6, 2) := by decide +kernel
theorem dX2_push_42 : decode cX2_push 42 = .ok (.aload 6, 2) := by decide +kernel
theorem dX2_push_44 : decode cX2_push 44 = .ok (.iload_n 2, 1) := by decide +kernel
theorem dX2_push_45 : decode cX2_push 45 = .ok (.iload 4, 2) := by decide +kernel
theorem dX2_push_47 : decode cX2_push 47 = .ok (.invokevirtual 55, 3) := by decide +kernel
theorem dX2_push_50 : decode cX2_push 50 = .ok (.ifCond .ne 13, 3) := by decide +kernel
theorem dX2_push_53 : decode cX2_push 53 = .ok (.new 37, 3) := by decide +kernel
theorem dX2_push_56 : decode cX2_push 56 = .ok (.dup, 1) := by decide +kernel
theorem dX2_push_57 : decode cX2_push 57 = .ok (.ldc 61, 2) := by decide +kernel
theorem dX2_push_59 : decode cX2_push 59 = .ok (.invokespecial 41, 3) := by decide +kernel
theorem dX2_push_62 : decode cX2_push 62 = .ok (.athrow, 1) := by decide +kernel
theorem dX2_push_63 : decode cX2_push 63 = .ok (.aload 5, 2) := by decide +kernel
theorem dX2_push_65 : decode cX2_push 65 = .ok (.invokevirtual 63, 3) := by decide +kernel
theorem dX2_push_68 : decode cX2_push 68 = .ok (.aload 5, 2) := by decide +kernel
theorem dX2_push_70 : decode cX2_push 70 = .ok (.iload_n 2, 1) := by decide +kernel
theorem dX2_push_71 : decode cX2_push 71 = .ok (.invokevirtual 66, 3) := by decide +kernel
theorem dX2_push_74 : decode cX2_push 74 = .ok (.aload 5, 2) := by decide +kernel
theorem dX2_push_76 : decode cX2_push 76 = .ok (.aload 6, 2) := by decide +kernel
theorem dX2_push_78 : decode cX2_push 78 = .ok (.iload_n 2, 1) := by decide +kernel
theorem dX2_push_79 : decode cX2_push 79 = .ok (.iload 4, 2) := by decide +kernel
theorem dX2_push_81 : decode cX2_push 81 = .ok (.invokevirtual 70, 3) := by decide +kernel
theorem dX2_push_84 : decode cX2_push 84 = .ok (.aload 5, 2) := by decide +kernel
theorem dX2_push_86 : decode cX2_push 86 = .ok (.iload_n 2, 1) := by decide +kernel
theorem dX2_push_87 : decode cX2_push 87 = .ok (.invokevirtual 74, 3) := by decide +kernel
theorem dX2_push_90 : decode cX2_push 90 = .ok (.ireturn, 1) := by decide +kernel
theorem dX2_set_0 : decode cX2_set 0 = .ok (.aload_n 0, 1) := by decide +kernel
theorem dX2_set_1 : decode cX2_set 1 = .ok (.iload_n 1, 1) := by decide +kernel
theorem dX2_set_2 : decode cX2_set 2 = .ok (.iload_n 2, 1) := by decide +kernel
theorem dX2_set_3 : decode cX2_set 3 = .ok (.invokevirtual 42, 3) := by decide +kernel
theorem dX2_set_6 : decode cX2_set 6 = .ok (.astore 4, 2) := by decide +kernel
theorem dX2_set_8 : decode cX2_set 8 = .ok (.iload_n 3, 1) := by decide +kernel
theorem dX2_set_9 : decode cX2_set 9 = .ok (.ifCond .lt 12, 3) := by decide +kernel
theorem dX2_set_12 : decode cX2_set 12 = .ok (.iload_n 3, 1) := by decide +kernel
theorem dX2_set_13 : decode cX2_set 13 = .ok (.aload 4, 2) := by decide +kernel
theorem dX2_set_15 : decode cX2_set 15 = .ok (.invokevirtual 78, 3) := by decide +kernel
theorem dX2_set_18 : decode cX2_set 18 = .ok (.if_icmp .le 13, 3) := by decide +kernel
theorem dX2_set_21 : decode cX2_set 21 = .ok (.new 26, 3) := by decide +kernel
theorem dX2_set_24 : decode cX2_set 24 = .ok (.dup, 1) := by decide +kernel
theorem dX2_set_25 : decode cX2_set 25 = .ok (.ldc 82, 2) := by decide +kernel
theorem dX2_set_27 : decode cX2_set 27 = .ok (.invokespecial 30, 3) := by decide +kernel
theorem dX2_set_30 : decode cX2_set 30 = .ok (.athrow, 1) := by decide +kernel
theorem dX2_set_31 : decode cX2_set 31 = .ok (.aload 4, 2) := by decide +kernel
theorem dX2_set_33 : decode cX2_set 33 = .ok (.getfield 84, 3) := by decide +kernel
theorem dX2_set_36 : decode cX2_set 36 = .ok (.istore 5, 2) := by decide +kernel
theorem dX2_set_38 : decode cX2_set 38 = .ok (.aload 4, 2) := by decide +kernel
theorem dX2_set_40 : decode cX2_set 40 = .ok (.invokevirtual 63, 3) := by decide +kernel
theorem dX2_set_43 : decode cX2_set 43 = .ok (.aload 4, 2) := by decide +kernel
theorem dX2_set_45 : decode cX2_set 45 = .ok (.iload_n 2, 1) := by decide +kernel
theorem dX2_set_46 : decode cX2_set 46 = .ok (.iload_n 3, 1) := by decide +kernel
theorem dX2_set_47 : decode cX2_set 47 = .ok (.invokevirtual 87, 3) := by decide +kernel
theorem dX2_set_50 : decode cX2_set 50 = .ok (.aload 4, 2) := by decide +kernel
theorem dX2_set_52 : decode cX2_set 52 = .ok (.getfield 84, 3) := by decide +kernel
theorem dX2_set_55 : decode cX2_set 55 = .ok (.iload 5, 2) := by decide +kernel
theorem dX2_set_57 : decode cX2_set 57 = .ok (.isub, 1) := by decide +kernel
theorem dX2_set_58 : decode cX2_set 58 = .ok (.ireturn, 1) := by decide +kernel
theorem dX2_add_0 : decode cX2_add 0 = .ok (.aload_n 0, 1) := by decide +kernel
theorem dX2_add_1 : decode cX2_add 1 = .ok (.iload_n 1, 1) := by decide +kernel
theorem dX2_add_2 : decode cX2_add 2 = .ok (.invokevirtual 90, 3) := by decide +kernel
theorem dX2_add_5 : decode cX2_add 5 = .ok (.astore_n 3, 1) := by decide +kernel
theorem dX2_add_6 : decode cX2_add 6 = .ok (.aload_n 3, 1) := by decide +kernel
theorem dX2_add_7 : decode cX2_add 7 = .ok (.iload_n 2, 1) := by decide +kernel
theorem dX2_add_8 : decode cX2_add 8 = .ok (.invokestatic 94, 3) := by decide +kernel
theorem dX2_add_11 : decode cX2_add 11 = .ok (.aload_n 3, 1) := by decide +kernel
theorem dX2_add_12 : decode cX2_add 12 = .ok (.getfield 84, 3) := by decide +kernel
theorem dX2_add_15 : decode cX2_add 15 = .ok (.istore 4, 2) := by decide +kernel
theorem dX2_add_17 : decode cX2_add 17 = .ok (.aload_n 3, 1) := by decide +kernel
theorem dX2_add_18 : decode cX2_add 18 = .ok (.invokevirtual 63, 3) := by decide +kernel
theorem dX2_add_21 : decode cX2_add 21 = .ok (.aload_n 3, 1) := by decide +kernel
theorem dX2_add_22 : decode cX2_add 22 = .ok (.iload_n 2, 1) := by decide +kernel
theorem dX2_add_23 : decode cX2_add 23 = .ok (.i2l, 1) := by decide +kernel
theorem dX2_add_24 : decode cX2_add 24 = .ok (.invokevirtual 98, 3) := by decide +kernel
theorem dX2_add_27 : decode cX2_add 27 = .ok (.aload_n 3, 1) := by decide +kernel
theorem dX2_add_28 : decode cX2_add 28 = .ok (.getfield 84, 3) := by decide +kernel
theorem dX2_add_31 : decode cX2_add 31 = .ok (.iload 4, 2) := by decide +kernel
theorem dX2_add_33 : decode cX2_add 33 = .ok (.isub, 1) := by decide +kernel
theorem dX2_add_34 : decode cX2_add 34 = .ok (.ireturn, 1) := by decide +kernel
theorem dX2_off_0 : decode cX2_off 0 = .ok (.aload_n 0, 1) := by decide +kernel
theorem dX2_off_1 : decode cX2_off 1 = .ok (.iload_n 1, 1) := by decide +kernel
theorem dX2_off_2 : decode cX2_off 2 = .ok (.invokevirtual 90, 3) := by decide +kernel
theorem dX2_off_5 : decode cX2_off 5 = .ok (.astore_n 3, 1) := by decide +kernel
theorem dX2_off_6 : decode cX2_off 6 = .ok (.aload_n 3, 1) := by decide +kernel
theorem dX2_off_7 : decode cX2_off 7 = .ok (.iload_n 2, 1) := by decide +kernel
theorem dX2_off_8 : decode cX2_off 8 = .ok (.invokestatic 94, 3) := by decide +kernel
theorem dX2_off_11 : decode cX2_off 11 = .ok (.aload_n 3, 1) := by decide +kernel
theorem dX2_off_12 : decode cX2_off 12 = .ok (.invokevirtual 102, 3) := by decide +kernel
theorem dX2_off_15 : decode cX2_off 15 = .ok (.ifCond .eq 13, 3) := by decide +kernel
theorem dX2_off_18 : decode cX2_off 18 = .ok (.iload_n 2, 1) := by decide +kernel
theorem dX2_off_19 : decode cX2_off 19 = .ok (.i2l, 1) := by decide +kernel
theorem dX2_off_20 : decode cX2_off 20 = .ok (.aload_n 3, 1) := by decide +kernel
theorem dX2_off_21 : decode cX2_off 21 = .ok (.invokevirtual 106, 3) := by decide +kernel
theorem dX2_off_24 : decode cX2_off 24 = .ok (.lcmp, 1) := by decide +kernel
theorem dX2_off_25 : decode cX2_off 25 = .ok (.ifCond .le 6, 3) := by decide +kernel
theorem dX2_off_28 : decode cX2_off 28 = .ok (.bipush (-2), 2) := by decide +kernel
theorem dX2_off_30 : decode cX2_off 30 = .ok (.ireturn, 1) := by decide +kernel
theorem dX2_off_31 : decode cX2_off 31 = .ok (.aload_n 3, 1) := by decide +kernel
theorem dX2_off_32 : decode cX2_off 32 = .ok (.getfield 84, 3) := by decide +kernel
theorem dX2_off_35 : decode cX2_off 35 = .ok (.istore 4, 2) := by decide +kernel
theorem dX2_off_37 : decode cX2_off 37 = .ok (.aload_n 3, 1) := by decide +kernel
theorem dX2_off_38 : decode cX2_off 38 = .ok (.invokevirtual 63, 3) := by decide +kernel
theorem dX2_off_41 : decode cX2_off 41 = .ok (.aload_n 3, 1) := by decide +kernel
theorem dX2_off_42 : decode cX2_off 42 = .ok (.iload_n 2, 1) := by decide +kernel
theorem dX2_off_43 : decode cX2_off 43 = .ok (.i2l, 1) := by decide +kernel
theorem dX2_off_44 : decode cX2_off 44 = .ok (.invokevirtual 110, 3) := by decide +kernel
theorem dX2_off_47 : decode cX2_off 47 = .ok (.aload_n 3, 1) := by decide +kernel
theorem dX2_off_48 : decode cX2_off 48 = .ok (.getfield 84, 3) := by decide +kernel
theorem dX2_off_51 : decode cX2_off 51 = .ok (.iload 4, 2) := by decide +kernel
theorem dX2_off_53 : decode cX2_off 53 = .ok (.isub, 1) := by decide +kernel
theorem dX2_off_54 : decode cX2_off 54 = .ok (.ireturn, 1) := by decide +kernel
theorem dX2_times_0 : decode cX2_times 0 = .ok (.aload_n 0, 1) := by decide +kernel
theorem dX2_times_1 : decode cX2_times 1 = .ok (.iload_n 1, 1) := by decide +kernel
theorem dX2_times_2 : decode cX2_times 2 = .ok (.invokevirtual 90, 3) := by decide +kernel
theorem dX2_times_5 : decode cX2_times 5 = .ok (.astore_n 3, 1) := by decide +kernel
theorem dX2_times_6 : decode cX2_times 6 = .ok (.iload_n 2, 1) := by decide +kernel
theorem dX2_times_7 : decode cX2_times 7 = .ok (.ifCond .lt 9, 3) := by decide +kernel
theorem dX2_times_10 : decode cX2_times 10 = .ok (.iload_n 2, 1) := by decide +kernel
theorem dX2_times_11 : decode cX2_times 11 = .ok (.bipush 9, 2) := by decide +kernel
theorem dX2_times_13 : decode cX2_times 13 = .ok (.if_icmp .le 13, 3) := by decide +kernel
theorem dX2_times_16 : decode cX2_times 16 = .ok (.new 26, 3) := by decide +kernel
theorem dX2_times_19 : decode cX2_times 19 = .ok (.dup, 1) := by decide +kernel
theorem dX2_times_20 : decode cX2_times 20 = .ok (.ldc 113, 2) := by decide +kernel
theorem dX2_times_22 : decode cX2_times 22 = .ok (.invokespecial 30, 3) := by decide +kernel
theorem dX2_times_25 : decode cX2_times 25 = .ok (.athrow, 1) := by decide +kernel
theorem dX2_times_26 : decode cX2_times 26 = .ok (.aload_n 3, 1) := by decide +kernel
theorem dX2_times_27 : decode cX2_times 27 = .ok (.getfield 115, 3) := by decide +kernel
theorem dX2_times_30 : decode cX2_times 30 = .ok (.istore 4, 2) := by decide +kernel
theorem dX2_times_32 : decode cX2_times 32 = .ok (.aload_n 3, 1) := by decide +kernel
theorem dX2_times_33 : decode cX2_times 33 = .ok (.invokevirtual 63, 3) := by decide +kernel
theorem dX2_times_36 : decode cX2_times 36 = .ok (.aload_n 3, 1) := by decide +kernel
theorem dX2_times_37 : decode cX2_times 37 = .ok (.iload_n 2, 1) := by decide +kernel
theorem dX2_times_38 : decode cX2_times 38 = .ok (.invokevirtual 118, 3) := by decide +kernel
theorem dX2_times_41 : decode cX2_times 41 = .ok (.aload_n 3, 1) := by decide +kernel
theorem dX2_times_42 : decode cX2_times 42 = .ok (.getfield 115, 3) := by decide +kernel
theorem dX2_times_45 : decode cX2_times 45 = .ok (.iload 4, 2) := by decide +kernel
theorem dX2_times_47 : decode cX2_times 47 = .ok (.isub, 1) := by decide +kernel
theorem dX2_times_48 : decode cX2_times 48 = .ok (.ireturn, 1) := by decide +kernel
theorem dX2_divide_0 : decode cX2_divide 0 = .ok (.aload_n 0, 1) := by decide +kernel
theorem dX2_divide_1 : decode cX2_divide 1 = .ok (.iload_n 1, 1) := by decide +kernel
theorem dX2_divide_2 : decode cX2_divide 2 = .ok (.invokevirtual 90, 3) := by decide +kernel
theorem dX2_divide_5 : decode cX2_divide 5 = .ok (.astore_n 3, 1) := by decide +kernel
theorem dX2_divide_6 : decode cX2_divide 6 = .ok (.iload_n 2, 1) := by decide +kernel
theorem dX2_divide_7 : decode cX2_divide 7 = .ok (.iconst 1, 1) := by decide +kernel
theorem dX2_divide_8 : decode cX2_divide 8 = .ok (.if_icmp .lt 9, 3) := by decide +kernel
theorem dX2_divide_11 : decode cX2_divide 11 = .ok (.iload_n 2, 1) := by decide +kernel
theorem dX2_divide_12 : decode cX2_divide 12 = .ok (.bipush 9, 2) := by decide +kernel
theorem dX2_divide_14 : decode cX2_divide 14 = .ok (.if_icmp .le 13, 3) := by decide +kernel
theorem dX2_divide_17 : decode cX2_divide 17 = .ok (.new 26, 3) := by decide +kernel
theorem dX2_divide_20 : decode cX2_divide 20 = .ok (.dup, 1) := by decide +kernel
theorem dX2_divide_21 : decode cX2_divide 21 = .ok (.ldc 121, 2) := by decide +kernel
theorem dX2_divide_23 : decode cX2_divide 23 = .ok (.invokespecial 30, 3) := by decide +kernel
theorem dX2_divide_26 : decode cX2_divide 26 = .ok (.athrow, 1) := by decide +kernel
theorem dX2_divide_27 : decode cX2_divide 27 = .ok (.aload_n 3, 1) := by decide +kernel
theorem dX2_divide_28 : decode cX2_divide 28 = .ok (.invokevirtual 63, 3) := by decide +kernel
theorem dX2_divide_31 : decode cX2_divide 31 = .ok (.aload_n 3, 1) := by decide +kernel
theorem dX2_divide_32 : decode cX2_divide 32 = .ok (.iload_n 2, 1) := by decide +kernel
theorem dX2_divide_33 : decode cX2_divide 33 = .ok (.invokevirtual 123, 3) := by decide +kernel
theorem dX2_divide_36 : decode cX2_divide 36 = .ok (.ireturn, 1) := by decide +kernel
theorem dX2_shift_0 : decode cX2_shift 0 = .ok (.aload_n 0, 1) := by decide +kernel
theorem dX2_shift_1 : decode cX2_shift 1 = .ok (.iload_n 1, 1) := by decide +kernel
theorem dX2_shift_2 : decode cX2_shift 2 = .ok (.invokevirtual 90, 3) := by decide +kernel
theorem dX2_shift_5 : decode cX2_shift 5 = .ok (.astore_n 3, 1) := by decide +kernel
theorem dX2_shift_6 : decode cX2_shift 6 = .ok (.aload_n 3, 1) := by decide +kernel
theorem dX2_shift_7 : decode cX2_shift 7 = .ok (.invokevirtual 63, 3) := by decide +kernel
theorem dX2_shift_10 : decode cX2_shift 10 = .ok (.iload_n 2, 1) := by decide +kernel
theorem dX2_shift_11 : decode cX2_shift 11 = .ok (.ifCond .eq 10, 3) := by decide +kernel
theorem dX2_shift_14 : decode cX2_shift 14 = .ok (.aload_n 3, 1) := by decide +kernel
theorem dX2_shift_15 : decode cX2_shift 15 = .ok (.invokevirtual 126, 3) := by decide +kernel
theorem dX2_shift_18 : decode cX2_shift 18 = .ok (.goto 7, 3) := by decide +kernel
theorem dX2_shift_21 : decode cX2_shift 21 = .ok (.aload_n 3, 1) := by decide +kernel
theorem dX2_shift_22 : decode cX2_shift 22 = .ok (.invokevirtual 129, 3) := by decide +kernel
theorem dX2_shift_25 : decode cX2_shift 25 = .ok (.ireturn, 1) := by decide +kernel
theorem dX2_tidy_0 : decode cX2_tidy 0 = .ok (.aload_n 0, 1) := by decide +kernel
theorem dX2_tidy_1 : decode cX2_tidy 1 = .ok (.iload_n 1, 1) := by decide +kernel
theorem dX2_tidy_2 : decode cX2_tidy 2 = .ok (.invokevirtual 90, 3) := by decide +kernel
theorem dX2_tidy_5 : decode cX2_tidy 5 = .ok (.astore_n 2, 1) := by decide +kernel
theorem dX2_tidy_6 : decode cX2_tidy 6 = .ok (.aload_n 2, 1) := by decide +kernel
theorem dX2_tidy_7 : decode cX2_tidy 7 = .ok (.getfield 132, 3) := by decide +kernel
theorem dX2_tidy_10 : decode cX2_tidy 10 = .ok (.istore_n 3, 1) := by decide +kernel
theorem dX2_tidy_11 : decode cX2_tidy 11 = .ok (.aload_n 2, 1) := by decide +kernel
theorem dX2_tidy_12 : decode cX2_tidy 12 = .ok (.invokevirtual 63, 3) := by decide +kernel
theorem dX2_tidy_15 : decode cX2_tidy 15 = .ok (.aload_n 2, 1) := by decide +kernel
theorem dX2_tidy_16 : decode cX2_tidy 16 = .ok (.invokevirtual 135, 3) := by decide +kernel
theorem dX2_tidy_19 : decode cX2_tidy 19 = .ok (.aload_n 2, 1) := by decide +kernel
theorem dX2_tidy_20 : decode cX2_tidy 20 = .ok (.getfield 132, 3) := by decide +kernel
theorem dX2_tidy_23 : decode cX2_tidy 23 = .ok (.iload_n 3, 1) := by decide +kernel
theorem dX2_tidy_24 : decode cX2_tidy 24 = .ok (.isub, 1) := by decide +kernel
theorem dX2_tidy_25 : decode cX2_tidy 25 = .ok (.ireturn, 1) := by decide +kernel
theorem dX2_show_0 : decode cX2_show 0 = .ok (.aload_n 0, 1) := by decide +kernel
theorem dX2_show_1 : decode cX2_show 1 = .ok (.iload_n 1, 1) := by decide +kernel
theorem dX2_show_2 : decode cX2_show 2 = .ok (.invokevirtual 90, 3) := by decide +kernel
theorem dX2_show_5 : decode cX2_show 5 = .ok (.invokevirtual 106, 3) := by decide +kernel
theorem dX2_show_8 : decode cX2_show 8 = .ok (.lstore_n 3, 1) := by decide +kernel
theorem dX2_show_9 : decode cX2_show 9 = .ok (.aload_n 0, 1) := by decide +kernel
theorem dX2_show_10 : decode cX2_show 10 = .ok (.iload_n 2, 1) := by decide +kernel
theorem dX2_show_11 : decode cX2_show 11 = .ok (.invokevirtual 90, 3) := by decide +kernel
theorem dX2_show_14 : decode cX2_show 14 = .ok (.astore 5, 2) := by decide +kernel
theorem dX2_show_16 : decode cX2_show 16 = .ok (.aload 5, 2) := by decide +kernel
theorem dX2_show_18 : decode cX2_show 18 = .ok (.lload_n 3, 1) := by decide +kernel
theorem dX2_show_19 : decode cX2_show 19 = .ok (.invokevirtual 138, 3) := by decide +kernel
theorem dX2_show_22 : decode cX2_show 22 = .ok (.ifCond .ne 6, 3) := by decide +kernel
theorem dX2_show_25 : decode cX2_show 25 = .ok (.bipush (-2), 2) := by decide +kernel
theorem dX2_show_27 : decode cX2_show 27 = .ok (.ireturn, 1) := by decide +kernel
theorem dX2_show_28 : decode cX2_show 28 = .ok (.aload 5, 2) := by decide +kernel
theorem dX2_show_30 : decode cX2_show 30 = .ok (.getfield 84, 3) := by decide +kernel
theorem dX2_show_33 : decode cX2_show 33 = .ok (.istore 6, 2) := by decide +kernel
theorem dX2_show_35 : decode cX2_show 35 = .ok (.aload 5, 2) := by decide +kernel
theorem dX2_show_37 : decode cX2_show 37 = .ok (.invokevirtual 63, 3) := by decide +kernel
theorem dX2_show_40 : decode cX2_show 40 = .ok (.aload 5, 2) := by decide +kernel
theorem dX2_show_42 : decode cX2_show 42 = .ok (.lload_n 3, 1) := by decide +kernel
theorem dX2_show_43 : decode cX2_show 43 = .ok (.invokevirtual 142, 3) := by decide +kernel
theorem dX2_show_46 : decode cX2_show 46 = .ok (.aload 5, 2) := by decide +kernel
theorem dX2_show_48 : decode cX2_show 48 = .ok (.getfield 84, 3) := by decide +kernel
theorem dX2_show_51 : decode cX2_show 51 = .ok (.iload 6, 2) := by decide +kernel
theorem dX2_show_53 : decode cX2_show 53 = .ok (.isub, 1) := by decide +kernel
theorem dX2_show_54 : decode cX2_show 54 = .ok (.ireturn, 1) := by decide +kernel
theorem dX2_clear_0 : decode cX2_clear 0 = .ok (.aload_n 0, 1) := by decide +kernel
theorem dX2_clear_1 : decode cX2_clear 1 = .ok (.iload_n 1, 1) := by decide +kernel
theorem dX2_clear_2 : decode cX2_clear 2 = .ok (.invokevirtual 90, 3) := by decide +kernel
theorem dX2_clear_5 : decode cX2_clear 5 = .ok (.astore_n 2, 1) := by decide +kernel
theorem dX2_clear_6 : decode cX2_clear 6 = .ok (.aload_n 2, 1) := by decide +kernel
theorem dX2_clear_7 : decode cX2_clear 7 = .ok (.getfield 84, 3) := by decide +kernel
theorem dX2_clear_10 : decode cX2_clear 10 = .ok (.istore_n 3, 1) := by decide +kernel
theorem dX2_clear_11 : decode cX2_clear 11 = .ok (.aload_n 2, 1) := by decide +kernel
theorem dX2_clear_12 : decode cX2_clear 12 = .ok (.invokevirtual 63, 3) := by decide +kernel
theorem dX2_clear_15 : decode cX2_clear 15 = .ok (.aload_n 2, 1) := by decide +kernel
theorem dX2_clear_16 : decode cX2_clear 16 = .ok (.lconst 0, 1) := by decide +kernel
theorem dX2_clear_17 : decode cX2_clear 17 = .ok (.invokevirtual 142, 3) := by decide +kernel
theorem dX2_clear_20 : decode cX2_clear 20 = .ok (.aload_n 2, 1) := by decide +kernel
theorem dX2_clear_21 : decode cX2_clear 21 = .ok (.getfield 84, 3) := by decide +kernel
theorem dX2_clear_24 : decode cX2_clear 24 = .ok (.iload_n 3, 1) := by decide +kernel
theorem dX2_clear_25 : decode cX2_clear 25 = .ok (.isub, 1) := by decide +kernel
theorem dX2_clear_26 : decode cX2_clear 26 = .ok (.ireturn, 1) := by decide +kernel
theorem dX2_back_0 : decode cX2_back 0 = .ok (.aload_n 0, 1) := by decide +kernel
theorem dX2_back_1 : decode cX2_back 1 = .ok (.iload_n 1, 1) := by decide +kernel
theorem dX2_back_2 : decode cX2_back 2 = .ok (.invokevirtual 90, 3) := by decide +kernel
theorem dX2_back_5 : decode cX2_back 5 = .ok (.astore_n 2, 1) := by decide +kernel
theorem dX2_back_6 : decode cX2_back 6 = .ok (.aload_n 2, 1) := by decide +kernel
theorem dX2_back_7 : decode cX2_back 7 = .ok (.getfield 145, 3) := by decide +kernel
theorem dX2_back_10 : decode cX2_back 10 = .ok (.ifCond .gt 13, 3) := by decide +kernel
theorem dX2_back_13 : decode cX2_back 13 = .ok (.new 37, 3) := by decide +kernel
theorem dX2_back_16 : decode cX2_back 16 = .ok (.dup, 1) := by decide +kernel
theorem dX2_back_17 : decode cX2_back 17 = .ok (.ldc 148, 2) := by decide +kernel
theorem dX2_back_19 : decode cX2_back 19 = .ok (.invokespecial 41, 3) := by decide +kernel
theorem dX2_back_22 : decode cX2_back 22 = .ok (.athrow, 1) := by decide +kernel
theorem dX2_back_23 : decode cX2_back 23 = .ok (.aload_n 2, 1) := by decide +kernel
theorem dX2_back_24 : decode cX2_back 24 = .ok (.invokevirtual 150, 3) := by decide +kernel
theorem dX2_back_27 : decode cX2_back 27 = .ok (.aload_n 2, 1) := by decide +kernel
theorem dX2_back_28 : decode cX2_back 28 = .ok (.getfield 145, 3) := by decide +kernel
theorem dX2_back_31 : decode cX2_back 31 = .ok (.ireturn, 1) := by decide +kernel
theorem dX2_grease_0 : decode cX2_grease 0 = .ok (.aload_n 0, 1) := by decide +kernel
theorem dX2_grease_1 : decode cX2_grease 1 = .ok (.iload_n 1, 1) := by decide +kernel
theorem dX2_grease_2 : decode cX2_grease 2 = .ok (.iload_n 2, 1) := by decide +kernel
theorem dX2_grease_3 : decode cX2_grease 3 = .ok (.invokevirtual 42, 3) := by decide +kernel
theorem dX2_grease_6 : decode cX2_grease 6 = .ok (.astore_n 3, 1) := by decide +kernel
theorem dX2_grease_7 : decode cX2_grease 7 = .ok (.aload_n 3, 1) := by decide +kernel
theorem dX2_grease_8 : decode cX2_grease 8 = .ok (.iload_n 2, 1) := by decide +kernel
theorem dX2_grease_9 : decode cX2_grease 9 = .ok (.invokevirtual 153, 3) := by decide +kernel
theorem dX2_grease_12 : decode cX2_grease 12 = .ok (.ireturn, 1) := by decide +kernel
theorem dX2_number_0 : decode cX2_number 0 = .ok (.aload_n 0, 1) := by decide +kernel
theorem dX2_number_1 : decode cX2_number 1 = .ok (.iload_n 1, 1) := by decide +kernel
theorem dX2_number_2 : decode cX2_number 2 = .ok (.invokevirtual 90, 3) := by decide +kernel
theorem dX2_number_5 : decode cX2_number 5 = .ok (.astore_n 2, 1) := by decide +kernel
theorem dX2_number_6 : decode cX2_number 6 = .ok (.aload_n 2, 1) := by decide +kernel
theorem dX2_number_7 : decode cX2_number 7 = .ok (.invokevirtual 106, 3) := by decide +kernel
theorem dX2_number_10 : decode cX2_number 10 = .ok (.lreturn, 1) := by decide +kernel
theorem dX2_ofFrame_0 : decode cX2_ofFrame 0 = .ok (.aload_n 0, 1) := by decide +kernel
theorem dX2_ofFrame_1 : decode cX2_ofFrame 1 = .ok (.iload_n 1, 1) := by decide +kernel
theorem dX2_ofFrame_2 : decode cX2_ofFrame 2 = .ok (.invokevirtual 90, 3) := by decide +kernel
theorem dX2_ofFrame_5 : decode cX2_ofFrame 5 = .ok (.astore_n 3, 1) := by decide +kernel
theorem dX2_ofFrame_6 : decode cX2_ofFrame 6 = .ok (.iload_n 2, 1) := by decide +kernel
theorem dX2_ofFrame_7 : decode cX2_ofFrame 7 = .ok (.bipush 13, 2) := by decide +kernel
theorem dX2_ofFrame_9 : decode cX2_ofFrame 9 = .ok (.invokestatic 159, 3) := by decide +kernel
theorem dX2_ofFrame_12 : decode cX2_ofFrame 12 = .ok (.aload_n 3, 1) := by decide +kernel
theorem dX2_ofFrame_13 : decode cX2_ofFrame 13 = .ok (.iload_n 2, 1) := by decide +kernel
theorem dX2_ofFrame_14 : decode cX2_ofFrame 14 = .ok (.invokevirtual 166, 3) := by decide +kernel
theorem dX2_ofFrame_17 : decode cX2_ofFrame 17 = .ok (.ireturn, 1) := by decide +kernel
theorem dX2_seconds_0 : decode cX2_seconds 0 = .ok (.aload_n 0, 1) := by decide +kernel
theorem dX2_seconds_1 : decode cX2_seconds 1 = .ok (.iload_n 1, 1) := by decide +kernel
theorem dX2_seconds_2 : decode cX2_seconds 2 = .ok (.invokevirtual 90, 3) := by decide +kernel
theorem dX2_seconds_5 : decode cX2_seconds 5 = .ok (.astore_n 2, 1) := by decide +kernel
theorem dX2_seconds_6 : decode cX2_seconds 6 = .ok (.aload_n 2, 1) := by decide +kernel
theorem dX2_seconds_7 : decode cX2_seconds 7 = .ok (.getfield 169, 3) := by decide +kernel
theorem dX2_seconds_10 : decode cX2_seconds 10 = .ok (.f2d, 1) := by decide +kernel
theorem dX2_seconds_11 : decode cX2_seconds 11 = .ok (.dreturn, 1) := by decide +kernel
theorem dX2_many_0 : decode cX2_many 0 = .ok (.iload_n 1, 1) := by decide +kernel
theorem dX2_many_1 : decode cX2_many 1 = .ok (.iconst 5, 1) := by decide +kernel
theorem dX2_many_2 : decode cX2_many 2 = .ok (.invokestatic 159, 3) := by decide +kernel
theorem dX2_many_5 : decode cX2_many 5 = .ok (.aload_n 0, 1) := by decide +kernel
theorem dX2_many_6 : decode cX2_many 6 = .ok (.iload_n 1, 1) := by decide +kernel
theorem dX2_many_7 : decode cX2_many 7 = .ok (.invokevirtual 177, 3) := by decide +kernel
theorem dX2_many_10 : decode cX2_many 10 = .ok (.ireturn, 1) := by decide +kernel
theorem dX2_would_0 : decode cX2_would 0 = .ok (.aload_n 0, 1) := by decide +kernel
theorem dX2_would_1 : decode cX2_would 1 = .ok (.iload_n 1, 1) := by decide +kernel
theorem dX2_would_2 : decode cX2_would 2 = .ok (.invokevirtual 90, 3) := by decide +kernel
theorem dX2_would_5 : decode cX2_would 5 = .ok (.astore 4, 2) := by decide +kernel
theorem dX2_would_7 : decode cX2_would 7 = .ok (.aload 4, 2) := by decide +kernel
theorem dX2_would_9 : decode cX2_would 9 = .ok (.iload_n 2, 1) := by decide +kernel
theorem dX2_would_10 : decode cX2_would 10 = .ok (.invokestatic 94, 3) := by decide +kernel
theorem dX2_would_13 : decode cX2_would 13 = .ok (.iload_n 3, 1) := by decide +kernel
theorem dX2_would_14 : decode cX2_would 14 = .ok (.iconst 4, 1) := by decide +kernel
theorem dX2_would_15 : decode cX2_would 15 = .ok (.invokestatic 159, 3) := by decide +kernel
theorem dX2_would_18 : decode cX2_would 18 = .ok (.aload_n 0, 1) := by decide +kernel
theorem dX2_would_19 : decode cX2_would 19 = .ok (.aload 4, 2) := by decide +kernel
theorem dX2_would_21 : decode cX2_would 21 = .ok (.iload_n 2, 1) := by decide +kernel
theorem dX2_would_22 : decode cX2_would 22 = .ok (.iload_n 3, 1) := by decide +kernel
theorem dX2_would_23 : decode cX2_would 23 = .ok (.invokevirtual 186, 3) := by decide +kernel
theorem dX2_would_26 : decode cX2_would 26 = .ok (.ireturn, 1) := by decide +kernel
theorem dX2_wouldTake_0 : decode cX2_wouldTake 0 = .ok (.aload_n 0, 1) := by decide +kernel
theorem dX2_wouldTake_1 : decode cX2_wouldTake 1 = .ok (.iload_n 1, 1) := by decide +kernel
theorem dX2_wouldTake_2 : decode cX2_wouldTake 2 = .ok (.invokevirtual 90, 3) := by decide +kernel
theorem dX2_wouldTake_5 : decode cX2_wouldTake 5 = .ok (.astore_n 3, 1) := by decide +kernel
theorem dX2_wouldTake_6 : decode cX2_wouldTake 6 = .ok (.aload_n 3, 1) := by decide +kernel
theorem dX2_wouldTake_7 : decode cX2_wouldTake 7 = .ok (.iload_n 2, 1) := by decide +kernel
theorem dX2_wouldTake_8 : decode cX2_wouldTake 8 = .ok (.invokestatic 94, 3) := by decide +kernel
theorem dX2_wouldTake_11 : decode cX2_wouldTake 11 = .ok (.aload_n 0, 1) := by decide +kernel
theorem dX2_wouldTake_12 : decode cX2_wouldTake 12 = .ok (.aload_n 3, 1) := by decide +kernel
theorem dX2_wouldTake_13 : decode cX2_wouldTake 13 = .ok (.iload_n 2, 1) := by decide +kernel
theorem dX2_wouldTake_14 : decode cX2_wouldTake 14 = .ok (.invokevirtual 190, 3) := by decide +kernel
theorem dX2_wouldTake_17 : decode cX2_wouldTake 17 = .ok (.dreturn, 1) := by decide +kernel
theorem dX2_quicker_0 : decode cX2_quicker 0 = .ok (.aload_n 0, 1) := by decide +kernel
theorem dX2_quicker_1 : decode cX2_quicker 1 = .ok (.iload_n 1, 1) := by decide +kernel
theorem dX2_quicker_2 : decode cX2_quicker 2 = .ok (.invokevirtual 90, 3) := by decide +kernel
theorem dX2_quicker_5 : decode cX2_quicker 5 = .ok (.astore 4, 2) := by decide +kernel
theorem dX2_quicker_7 : decode cX2_quicker 7 = .ok (.aload_n 0, 1) := by decide +kernel
theorem dX2_quicker_8 : decode cX2_quicker 8 = .ok (.iload_n 2, 1) := by decide +kernel
theorem dX2_quicker_9 : decode cX2_quicker 9 = .ok (.invokevirtual 90, 3) := by decide +kernel
theorem dX2_quicker_12 : decode cX2_quicker 12 = .ok (.astore 5, 2) := by decide +kernel
theorem dX2_quicker_14 : decode cX2_quicker 14 = .ok (.iload_n 3, 1) := by decide +kernel
theorem dX2_quicker_15 : decode cX2_quicker 15 = .ok (.ifCond .ge 13, 3) := by decide +kernel
theorem dX2_quicker_18 : decode cX2_quicker 18 = .ok (.new 26, 3) := by decide +kernel
theorem dX2_quicker_21 : decode cX2_quicker 21 = .ok (.dup, 1) := by decide +kernel
theorem dX2_quicker_22 : decode cX2_quicker 22 = .ok (.ldc 194, 2) := by decide +kernel
theorem dX2_quicker_24 : decode cX2_quicker 24 = .ok (.invokespecial 30, 3) := by decide +kernel
theorem dX2_quicker_27 : decode cX2_quicker 27 = .ok (.athrow, 1) := by decide +kernel
theorem dX2_quicker_28 : decode cX2_quicker 28 = .ok (.aload 4, 2) := by decide +kernel
theorem dX2_quicker_30 : decode cX2_quicker 30 = .ok (.iload_n 3, 1) := by decide +kernel
theorem dX2_quicker_31 : decode cX2_quicker 31 = .ok (.i2l, 1) := by decide +kernel
theorem dX2_quicker_32 : decode cX2_quicker 32 = .ok (.invokevirtual 138, 3) := by decide +kernel
theorem dX2_quicker_35 : decode cX2_quicker 35 = .ok (.ifCond .eq 13, 3) := by decide +kernel
theorem dX2_quicker_38 : decode cX2_quicker 38 = .ok (.aload 5, 2) := by decide +kernel
theorem dX2_quicker_40 : decode cX2_quicker 40 = .ok (.iload_n 3, 1) := by decide +kernel
theorem dX2_quicker_41 : decode cX2_quicker 41 = .ok (.i2l, 1) := by decide +kernel
theorem dX2_quicker_42 : decode cX2_quicker 42 = .ok (.invokevirtual 138, 3) := by decide +kernel
theorem dX2_quicker_45 : decode cX2_quicker 45 = .ok (.ifCond .ne 5, 3) := by decide +kernel
theorem dX2_quicker_48 : decode cX2_quicker 48 = .ok (.iconst (-1), 1) := by decide +kernel
theorem dX2_quicker_49 : decode cX2_quicker 49 = .ok (.ireturn, 1) := by decide +kernel
theorem dX2_quicker_50 : decode cX2_quicker 50 = .ok (.aload_n 0, 1) := by decide +kernel
theorem dX2_quicker_51 : decode cX2_quicker 51 = .ok (.iload_n 1, 1) := by decide +kernel
theorem dX2_quicker_52 : decode cX2_quicker 52 = .ok (.iload_n 2, 1) := by decide +kernel
theorem dX2_quicker_53 : decode cX2_quicker 53 = .ok (.iload_n 3, 1) := by decide +kernel
theorem dX2_quicker_54 : decode cX2_quicker 54 = .ok (.invokevirtual 196, 3) := by decide +kernel
theorem dX2_quicker_57 : decode cX2_quicker 57 = .ok (.ireturn, 1) := by decide +kernel
theorem dX2_hardest_0 : decode cX2_hardest 0 = .ok (.aload_n 0, 1) := by decide +kernel
theorem dX2_hardest_1 : decode cX2_hardest 1 = .ok (.iload_n 1, 1) := by decide +kernel
theorem dX2_hardest_2 : decode cX2_hardest 2 = .ok (.iload_n 2, 1) := by decide +kernel
theorem dX2_hardest_3 : decode cX2_hardest 3 = .ok (.invokevirtual 42, 3) := by decide +kernel
theorem dX2_hardest_6 : decode cX2_hardest 6 = .ok (.astore_n 3, 1) := by decide +kernel
theorem dX2_hardest_7 : decode cX2_hardest 7 = .ok (.aload_n 0, 1) := by decide +kernel
theorem dX2_hardest_8 : decode cX2_hardest 8 = .ok (.aload_n 3, 1) := by decide +kernel
theorem dX2_hardest_9 : decode cX2_hardest 9 = .ok (.iload_n 2, 1) := by decide +kernel
theorem dX2_hardest_10 : decode cX2_hardest 10 = .ok (.invokevirtual 200, 3) := by decide +kernel
theorem dX2_hardest_13 : decode cX2_hardest 13 = .ok (.ireturn, 1) := by decide +kernel
theorem dX2_digest_0 : decode cX2_digest 0 = .ok (.ldc2_w 204, 3) := by decide +kernel
theorem dX2_digest_3 : decode cX2_digest 3 = .ok (.lstore_n 1, 1) := by decide +kernel
theorem dX2_digest_4 : decode cX2_digest 4 = .ok (.iconst 0, 1) := by decide +kernel
theorem dX2_digest_5 : decode cX2_digest 5 = .ok (.istore_n 3, 1) := by decide +kernel
theorem dX2_digest_6 : decode cX2_digest 6 = .ok (.iload_n 3, 1) := by decide +kernel
theorem dX2_digest_7 : decode cX2_digest 7 = .ok (.iconst 5, 1) := by decide +kernel
theorem dX2_digest_8 : decode cX2_digest 8 = .ok (.if_icmp .ge 20, 3) := by decide +kernel
theorem dX2_digest_11 : decode cX2_digest 11 = .ok (.lload_n 1, 1) := by decide +kernel
theorem dX2_digest_12 : decode cX2_digest 12 = .ok (.aload_n 0, 1) := by decide +kernel
theorem dX2_digest_13 : decode cX2_digest 13 = .ok (.iload_n 3, 1) := by decide +kernel
theorem dX2_digest_14 : decode cX2_digest 14 = .ok (.invokevirtual 177, 3) := by decide +kernel
theorem dX2_digest_17 : decode cX2_digest 17 = .ok (.i2l, 1) := by decide +kernel
theorem dX2_digest_18 : decode cX2_digest 18 = .ok (.invokestatic 206, 3) := by decide +kernel
theorem dX2_digest_21 : decode cX2_digest 21 = .ok (.lstore_n 1, 1) := by decide +kernel
theorem dX2_digest_22 : decode cX2_digest 22 = .ok (.iinc 3 1, 3) := by decide +kernel
theorem dX2_digest_25 : decode cX2_digest 25 = .ok (.goto (-19), 3) := by decide +kernel
theorem dX2_digest_28 : decode cX2_digest 28 = .ok (.iconst 0, 1) := by decide +kernel
theorem dX2_digest_29 : decode cX2_digest 29 = .ok (.istore_n 3, 1) := by decide +kernel
theorem dX2_digest_30 : decode cX2_digest 30 = .ok (.iload_n 3, 1) := by decide +kernel
theorem dX2_digest_31 : decode cX2_digest 31 = .ok (.aload_n 0, 1) := by decide +kernel
theorem dX2_digest_32 : decode cX2_digest 32 = .ok (.getfield 11, 3) := by decide +kernel
theorem dX2_digest_35 : decode cX2_digest 35 = .ok (.arraylength, 1) := by decide +kernel
theorem dX2_digest_36 : decode cX2_digest 36 = .ok (.if_icmp .ge 30, 3) := by decide +kernel
theorem dX2_digest_39 : decode cX2_digest 39 = .ok (.aload_n 0, 1) := by decide +kernel
theorem dX2_digest_40 : decode cX2_digest 40 = .ok (.getfield 11, 3) := by decide +kernel
theorem dX2_digest_43 : decode cX2_digest 43 = .ok (.iload_n 3, 1) := by decide +kernel
theorem dX2_digest_44 : decode cX2_digest 44 = .ok (.aaload, 1) := by decide +kernel
theorem dX2_digest_45 : decode cX2_digest 45 = .ok (.astore 4, 2) := by decide +kernel
theorem dX2_digest_47 : decode cX2_digest 47 = .ok (.aload 4, 2) := by decide +kernel
theorem dX2_digest_49 : decode cX2_digest 49 = .ok (.ifnull 11, 3) := by decide +kernel
theorem dX2_digest_52 : decode cX2_digest 52 = .ok (.aload_n 0, 1) := by decide +kernel
theorem dX2_digest_53 : decode cX2_digest 53 = .ok (.lload_n 1, 1) := by decide +kernel
theorem dX2_digest_54 : decode cX2_digest 54 = .ok (.aload 4, 2) := by decide +kernel
theorem dX2_digest_56 : decode cX2_digest 56 = .ok (.invokevirtual 210, 3) := by decide +kernel
theorem dX2_digest_59 : decode cX2_digest 59 = .ok (.lstore_n 1, 1) := by decide +kernel
theorem dX2_digest_60 : decode cX2_digest 60 = .ok (.iinc 3 1, 3) := by decide +kernel
theorem dX2_digest_63 : decode cX2_digest 63 = .ok (.goto (-33), 3) := by decide +kernel
theorem dX2_digest_66 : decode cX2_digest 66 = .ok (.aload_n 0, 1) := by decide +kernel
theorem dX2_digest_67 : decode cX2_digest 67 = .ok (.getfield 33, 3) := by decide +kernel
theorem dX2_digest_70 : decode cX2_digest 70 = .ok (.ifCond .le 22, 3) := by decide +kernel
theorem dX2_digest_73 : decode cX2_digest 73 = .ok (.lload_n 1, 1) := by decide +kernel
theorem dX2_digest_74 : decode cX2_digest 74 = .ok (.aload_n 0, 1) := by decide +kernel
theorem dX2_digest_75 : decode cX2_digest 75 = .ok (.iconst 0, 1) := by decide +kernel
theorem dX2_digest_76 : decode cX2_digest 76 = .ok (.aload_n 0, 1) := by decide +kernel
theorem dX2_digest_77 : decode cX2_digest 77 = .ok (.getfield 33, 3) := by decide +kernel
theorem dX2_digest_80 : decode cX2_digest 80 = .ok (.iconst 1, 1) := by decide +kernel
theorem dX2_digest_81 : decode cX2_digest 81 = .ok (.isub, 1) := by decide +kernel
theorem dX2_digest_82 : decode cX2_digest 82 = .ok (.bipush 25, 2) := by decide +kernel
theorem dX2_digest_84 : decode cX2_digest 84 = .ok (.invokevirtual 196, 3) := by decide +kernel
theorem dX2_digest_87 : decode cX2_digest 87 = .ok (.i2l, 1) := by decide +kernel
theorem dX2_digest_88 : decode cX2_digest 88 = .ok (.invokestatic 206, 3) := by decide +kernel
theorem dX2_digest_91 : decode cX2_digest 91 = .ok (.lstore_n 1, 1) := by decide +kernel
theorem dX2_digest_92 : decode cX2_digest 92 = .ok (.lload_n 1, 1) := by decide +kernel
theorem dX2_digest_93 : decode cX2_digest 93 = .ok (.lreturn, 1) := by decide +kernel
theorem dX2_frameAt_0 : decode cX2_frameAt 0 = .ok (.iload_n 1, 1) := by decide +kernel
theorem dX2_frameAt_1 : decode cX2_frameAt 1 = .ok (.ifCond .lt 21, 3) := by decide +kernel
theorem dX2_frameAt_4 : decode cX2_frameAt 4 = .ok (.iload_n 1, 1) := by decide +kernel
theorem dX2_frameAt_5 : decode cX2_frameAt 5 = .ok (.aload_n 0, 1) := by decide +kernel
theorem dX2_frameAt_6 : decode cX2_frameAt 6 = .ok (.getfield 11, 3) := by decide +kernel
theorem dX2_frameAt_9 : decode cX2_frameAt 9 = .ok (.arraylength, 1) := by decide +kernel
theorem dX2_frameAt_10 : decode cX2_frameAt 10 = .ok (.if_icmp .ge 12, 3) := by decide +kernel
theorem dX2_frameAt_13 : decode cX2_frameAt 13 = .ok (.aload_n 0, 1) := by decide +kernel
theorem dX2_frameAt_14 : decode cX2_frameAt 14 = .ok (.getfield 11, 3) := by decide +kernel
theorem dX2_frameAt_17 : decode cX2_frameAt 17 = .ok (.iload_n 1, 1) := by decide +kernel
theorem dX2_frameAt_18 : decode cX2_frameAt 18 = .ok (.aaload, 1) := by decide +kernel
theorem dX2_frameAt_19 : decode cX2_frameAt 19 = .ok (.goto 4, 3) := by decide +kernel
theorem dX2_frameAt_22 : decode cX2_frameAt 22 = .ok (.aconst_null, 1) := by decide +kernel
theorem dX2_frameAt_23 : decode cX2_frameAt 23 = .ok (.areturn, 1) := by decide +kernel
theorem dX2_foundFrame_0 : decode cX2_foundFrame 0 = .ok (.aload_n 0, 1) := by decide +kernel
theorem dX2_foundFrame_1 : decode cX2_foundFrame 1 = .ok (.iload_n 1, 1) := by decide +kernel
theorem dX2_foundFrame_2 : decode cX2_foundFrame 2 = .ok (.invokevirtual 214, 3) := by decide +kernel
theorem dX2_foundFrame_5 : decode cX2_foundFrame 5 = .ok (.astore_n 2, 1) := by decide +kernel
theorem dX2_foundFrame_6 : decode cX2_foundFrame 6 = .ok (.aload_n 2, 1) := by decide +kernel
theorem dX2_foundFrame_7 : decode cX2_foundFrame 7 = .ok (.ifnonnull 13, 3) := by decide +kernel
theorem dX2_foundFrame_10 : decode cX2_foundFrame 10 = .ok (.new 217, 3) := by decide +kernel
theorem dX2_foundFrame_13 : decode cX2_foundFrame 13 = .ok (.dup, 1) := by decide +kernel
theorem dX2_foundFrame_14 : decode cX2_foundFrame 14 = .ok (.ldc 219, 2) := by decide +kernel
theorem dX2_foundFrame_16 : decode cX2_foundFrame 16 = .ok (.invokespecial 221, 3) := by decide +kernel
theorem dX2_foundFrame_19 : decode cX2_foundFrame 19 = .ok (.athrow, 1) := by decide +kernel
theorem dX2_foundFrame_20 : decode cX2_foundFrame 20 = .ok (.aload_n 2, 1) := by decide +kernel
theorem dX2_foundFrame_21 : decode cX2_foundFrame 21 = .ok (.areturn, 1) := by decide +kernel
theorem dX2_foundFrameWithRod_0 : decode cX2_foundFrameWithRod 0 = .ok (.aload_n 0, 1) := by decide +kernel
theorem dX2_foundFrameWithRod_1 : decode cX2_foundFrameWithRod 1 = .ok (.iload_n 1, 1) := by decide +kernel
theorem dX2_foundFrameWithRod_2 : decode cX2_foundFrameWithRod 2 = .ok (.invokevirtual 90, 3) := by decide +kernel
theorem dX2_foundFrameWithRod_5 : decode cX2_foundFrameWithRod 5 = .ok (.astore_n 3, 1) := by decide +kernel
theorem dX2_foundFrameWithRod_6 : decode cX2_foundFrameWithRod 6 = .ok (.aload_n 3, 1) := by decide +kernel
theorem dX2_foundFrameWithRod_7 : decode cX2_foundFrameWithRod 7 = .ok (.iload_n 2, 1) := by decide +kernel
theorem dX2_foundFrameWithRod_8 : decode cX2_foundFrameWithRod 8 = .ok (.invokevirtual 222, 3) := by decide +kernel
theorem dX2_foundFrameWithRod_11 : decode cX2_foundFrameWithRod 11 = .ok (.ifCond .ne 13, 3) := by decide +kernel
theorem dX2_foundFrameWithRod_14 : decode cX2_foundFrameWithRod 14 = .ok (.new 217, 3) := by decide +kernel
theorem dX2_foundFrameWithRod_17 : decode cX2_foundFrameWithRod 17 = .ok (.dup, 1) := by decide +kernel
theorem dX2_foundFrameWithRod_18 : decode cX2_foundFrameWithRod 18 = .ok (.ldc 226, 2) := by decide +kernel
theorem dX2_foundFrameWithRod_20 : decode cX2_foundFrameWithRod 20 = .ok (.invokespecial 221, 3) := by decide +kernel
theorem dX2_foundFrameWithRod_23 : decode cX2_foundFrameWithRod 23 = .ok (.athrow, 1) := by decide +kernel
theorem dX2_foundFrameWithRod_24 : decode cX2_foundFrameWithRod 24 = .ok (.aload_n 3, 1) := by decide +kernel
theorem dX2_foundFrameWithRod_25 : decode cX2_foundFrameWithRod 25 = .ok (.areturn, 1) := by decide +kernel
theorem dX2_refuseUnlessFits_0 : decode cX2_refuseUnlessFits 0 = .ok (.aload_n 0, 1) := by decide +kernel
theorem dX2_refuseUnlessFits_1 : decode cX2_refuseUnlessFits 1 = .ok (.iload_n 1, 1) := by decide +kernel
theorem dX2_refuseUnlessFits_2 : decode cX2_refuseUnlessFits 2 = .ok (.i2l, 1) := by decide +kernel
theorem dX2_refuseUnlessFits_3 : decode cX2_refuseUnlessFits 3 = .ok (.invokevirtual 138, 3) := by decide +kernel
theorem dX2_refuseUnlessFits_6 : decode cX2_refuseUnlessFits 6 = .ok (.ifCond .ne 13, 3) := by decide +kernel
theorem dX2_refuseUnlessFits_9 : decode cX2_refuseUnlessFits 9 = .ok (.new 26, 3) := by decide +kernel
theorem dX2_refuseUnlessFits_12 : decode cX2_refuseUnlessFits 12 = .ok (.dup, 1) := by decide +kernel
theorem dX2_refuseUnlessFits_13 : decode cX2_refuseUnlessFits 13 = .ok (.ldc 228, 2) := by decide +kernel
theorem dX2_refuseUnlessFits_15 : decode cX2_refuseUnlessFits 15 = .ok (.invokespecial 30, 3) := by decide +kernel
theorem dX2_refuseUnlessFits_18 : decode cX2_refuseUnlessFits 18 = .ok (.athrow, 1) := by decide +kernel
theorem dX2_refuseUnlessFits_19 : decode cX2_refuseUnlessFits 19 = .ok (.return_, 1) := by decide +kernel
theorem dX2_refuseUnlessBelow_0 : decode cX2_refuseUnlessBelow 0 = .ok (.iload_n 0, 1) := by decide +kernel
theorem dX2_refuseUnlessBelow_1 : decode cX2_refuseUnlessBelow 1 = .ok (.ifCond .lt 8, 3) := by decide +kernel
theorem dX2_refuseUnlessBelow_4 : decode cX2_refuseUnlessBelow 4 = .ok (.iload_n 0, 1) := by decide +kernel
theorem dX2_refuseUnlessBelow_5 : decode cX2_refuseUnlessBelow 5 = .ok (.iload_n 1, 1) := by decide +kernel
theorem dX2_refuseUnlessBelow_6 : decode cX2_refuseUnlessBelow 6 = .ok (.if_icmp .lt 13, 3) := by decide +kernel
theorem dX2_refuseUnlessBelow_9 : decode cX2_refuseUnlessBelow 9 = .ok (.new 26, 3) := by decide +kernel
theorem dX2_refuseUnlessBelow_12 : decode cX2_refuseUnlessBelow 12 = .ok (.dup, 1) := by decide +kernel
theorem dX2_refuseUnlessBelow_13 : decode cX2_refuseUnlessBelow 13 = .ok (.ldc 230, 2) := by decide +kernel
theorem dX2_refuseUnlessBelow_15 : decode cX2_refuseUnlessBelow 15 = .ok (.invokespecial 30, 3) := by decide +kernel
theorem dX2_refuseUnlessBelow_18 : decode cX2_refuseUnlessBelow 18 = .ok (.athrow, 1) := by decide +kernel
theorem dX2_refuseUnlessBelow_19 : decode cX2_refuseUnlessBelow 19 = .ok (.return_, 1) := by decide +kernel
theorem dX2_factOfHall_0 : decode cX2_factOfHall 0 = .ok (.iload_n 1, 1) := by decide +kernel
theorem dX2_factOfHall_1 : decode cX2_factOfHall 1 = .ok (.tableswitch 51 0 3 #[31, 36, 41, 46], 31) := by decide +kernel
theorem dX2_factOfHall_32 : decode cX2_factOfHall 32 = .ok (.aload_n 0, 1) := by decide +kernel
theorem dX2_factOfHall_33 : decode cX2_factOfHall 33 = .ok (.getfield 33, 3) := by decide +kernel
theorem dX2_factOfHall_36 : decode cX2_factOfHall 36 = .ok (.ireturn, 1) := by decide +kernel
theorem dX2_factOfHall_37 : decode cX2_factOfHall 37 = .ok (.aload_n 0, 1) := by decide +kernel
theorem dX2_factOfHall_38 : decode cX2_factOfHall 38 = .ok (.getfield 156, 3) := by decide +kernel
theorem dX2_factOfHall_41 : decode cX2_factOfHall 41 = .ok (.ireturn, 1) := by decide +kernel
theorem dX2_factOfHall_42 : decode cX2_factOfHall 42 = .ok (.aload_n 0, 1) := by decide +kernel
theorem dX2_factOfHall_43 : decode cX2_factOfHall 43 = .ok (.invokevirtual 232, 3) := by decide +kernel
theorem dX2_factOfHall_46 : decode cX2_factOfHall 46 = .ok (.ireturn, 1) := by decide +kernel
theorem dX2_factOfHall_47 : decode cX2_factOfHall 47 = .ok (.aload_n 0, 1) := by decide +kernel
theorem dX2_factOfHall_48 : decode cX2_factOfHall 48 = .ok (.invokevirtual 235, 3) := by decide +kernel
theorem dX2_factOfHall_51 : decode cX2_factOfHall 51 = .ok (.ireturn, 1) := by decide +kernel
theorem dX2_factOfHall_52 : decode cX2_factOfHall 52 = .ok (.aload_n 0, 1) := by decide +kernel
theorem dX2_factOfHall_53 : decode cX2_factOfHall 53 = .ok (.invokevirtual 238, 3) := by decide +kernel
theorem dX2_factOfHall_56 : decode cX2_factOfHall 56 = .ok (.ireturn, 1) := by decide +kernel
theorem dX2_pushesOfAll_0 : decode cX2_pushesOfAll 0 = .ok (.iconst 0, 1) := by decide +kernel
theorem dX2_pushesOfAll_1 : decode cX2_pushesOfAll 1 = .ok (.istore_n 1, 1) := by decide +kernel
theorem dX2_pushesOfAll_2 : decode cX2_pushesOfAll 2 = .ok (.iconst 0, 1) := by decide +kernel
theorem dX2_pushesOfAll_3 : decode cX2_pushesOfAll 3 = .ok (.istore_n 2, 1) := by decide +kernel
theorem dX2_pushesOfAll_4 : decode cX2_pushesOfAll 4 = .ok (.iload_n 2, 1) := by decide +kernel
theorem dX2_pushesOfAll_5 : decode cX2_pushesOfAll 5 = .ok (.aload_n 0, 1) := by decide +kernel
theorem dX2_pushesOfAll_6 : decode cX2_pushesOfAll 6 = .ok (.getfield 11, 3) := by decide +kernel
theorem dX2_pushesOfAll_9 : decode cX2_pushesOfAll 9 = .ok (.arraylength, 1) := by decide +kernel
theorem dX2_pushesOfAll_10 : decode cX2_pushesOfAll 10 = .ok (.if_icmp .ge 27, 3) := by decide +kernel
theorem dX2_pushesOfAll_13 : decode cX2_pushesOfAll 13 = .ok (.aload_n 0, 1) := by decide +kernel
theorem dX2_pushesOfAll_14 : decode cX2_pushesOfAll 14 = .ok (.getfield 11, 3) := by decide +kernel
theorem dX2_pushesOfAll_17 : decode cX2_pushesOfAll 17 = .ok (.iload_n 2, 1) := by decide +kernel
theorem dX2_pushesOfAll_18 : decode cX2_pushesOfAll 18 = .ok (.aaload, 1) := by decide +kernel
theorem dX2_pushesOfAll_19 : decode cX2_pushesOfAll 19 = .ok (.astore_n 3, 1) := by decide +kernel
theorem dX2_pushesOfAll_20 : decode cX2_pushesOfAll 20 = .ok (.aload_n 3, 1) := by decide +kernel
theorem dX2_pushesOfAll_21 : decode cX2_pushesOfAll 21 = .ok (.ifnull 10, 3) := by decide +kernel
theorem dX2_pushesOfAll_24 : decode cX2_pushesOfAll 24 = .ok (.iload_n 1, 1) := by decide +kernel
theorem dX2_pushesOfAll_25 : decode cX2_pushesOfAll 25 = .ok (.aload_n 3, 1) := by decide +kernel
theorem dX2_pushesOfAll_26 : decode cX2_pushesOfAll 26 = .ok (.getfield 84, 3) := by decide +kernel
theorem dX2_pushesOfAll_29 : decode cX2_pushesOfAll 29 = .ok (.iadd, 1) := by decide +kernel
theorem dX2_pushesOfAll_30 : decode cX2_pushesOfAll 30 = .ok (.istore_n 1, 1) := by decide +kernel
theorem dX2_pushesOfAll_31 : decode cX2_pushesOfAll 31 = .ok (.iinc 2 1, 3) := by decide +kernel
theorem dX2_pushesOfAll_34 : decode cX2_pushesOfAll 34 = .ok (.goto (-30), 3) := by decide +kernel
theorem dX2_pushesOfAll_37 : decode cX2_pushesOfAll 37 = .ok (.iload_n 1, 1) := by decide +kernel
theorem dX2_pushesOfAll_38 : decode cX2_pushesOfAll 38 = .ok (.ireturn, 1) := by decide +kernel
theorem dX2_spilledByAll_0 : decode cX2_spilledByAll 0 = .ok (.iconst 0, 1) := by decide +kernel
theorem dX2_spilledByAll_1 : decode cX2_spilledByAll 1 = .ok (.istore_n 1, 1) := by decide +kernel
theorem dX2_spilledByAll_2 : decode cX2_spilledByAll 2 = .ok (.iconst 0, 1) := by decide +kernel
theorem dX2_spilledByAll_3 : decode cX2_spilledByAll 3 = .ok (.istore_n 2, 1) := by decide +kernel
theorem dX2_spilledByAll_4 : decode cX2_spilledByAll 4 = .ok (.iload_n 2, 1) := by decide +kernel
theorem dX2_spilledByAll_5 : decode cX2_spilledByAll 5 = .ok (.aload_n 0, 1) := by decide +kernel
theorem dX2_spilledByAll_6 : decode cX2_spilledByAll 6 = .ok (.getfield 11, 3) := by decide +kernel
theorem dX2_spilledByAll_9 : decode cX2_spilledByAll 9 = .ok (.arraylength, 1) := by decide +kernel
theorem dX2_spilledByAll_10 : decode cX2_spilledByAll 10 = .ok (.if_icmp .ge 27, 3) := by decide +kernel
theorem dX2_spilledByAll_13 : decode cX2_spilledByAll 13 = .ok (.aload_n 0, 1) := by decide +kernel
theorem dX2_spilledByAll_14 : decode cX2_spilledByAll 14 = .ok (.getfield 11, 3) := by decide +kernel
theorem dX2_spilledByAll_17 : decode cX2_spilledByAll 17 = .ok (.iload_n 2, 1) := by decide +kernel
theorem dX2_spilledByAll_18 : decode cX2_spilledByAll 18 = .ok (.aaload, 1) := by decide +kernel
theorem dX2_spilledByAll_19 : decode cX2_spilledByAll 19 = .ok (.astore_n 3, 1) := by decide +kernel
theorem dX2_spilledByAll_20 : decode cX2_spilledByAll 20 = .ok (.aload_n 3, 1) := by decide +kernel
theorem dX2_spilledByAll_21 : decode cX2_spilledByAll 21 = .ok (.ifnull 10, 3) := by decide +kernel
theorem dX2_spilledByAll_24 : decode cX2_spilledByAll 24 = .ok (.iload_n 1, 1) := by decide +kernel
theorem dX2_spilledByAll_25 : decode cX2_spilledByAll 25 = .ok (.aload_n 3, 1) := by decide +kernel
theorem dX2_spilledByAll_26 : decode cX2_spilledByAll 26 = .ok (.getfield 115, 3) := by decide +kernel
theorem dX2_spilledByAll_29 : decode cX2_spilledByAll 29 = .ok (.iadd, 1) := by decide +kernel
theorem dX2_spilledByAll_30 : decode cX2_spilledByAll 30 = .ok (.istore_n 1, 1) := by decide +kernel
theorem dX2_spilledByAll_31 : decode cX2_spilledByAll 31 = .ok (.iinc 2 1, 3) := by decide +kernel
theorem dX2_spilledByAll_34 : decode cX2_spilledByAll 34 = .ok (.goto (-30), 3) := by decide +kernel
theorem dX2_spilledByAll_37 : decode cX2_spilledByAll 37 = .ok (.iload_n 1, 1) := by decide +kernel
theorem dX2_spilledByAll_38 : decode cX2_spilledByAll 38 = .ok (.ireturn, 1) := by decide +kernel
theorem dX2_pairsThatShowTheSame_0 : decode cX2_pairsThatShowTheSame 0 = .ok (.iconst 0, 1) := by decide +kernel
theorem dX2_pairsThatShowTheSame_1 : decode cX2_pairsThatShowTheSame 1 = .ok (.istore_n 1, 1) := by decide +kernel
theorem dX2_pairsThatShowTheSame_2 : decode cX2_pairsThatShowTheSame 2 = .ok (.iconst 0, 1) := by decide +kernel
theorem dX2_pairsThatShowTheSame_3 : decode cX2_pairsThatShowTheSame 3 = .ok (.istore_n 2, 1) := by decide +kernel
theorem dX2_pairsThatShowTheSame_4 : decode cX2_pairsThatShowTheSame 4 = .ok (.iload_n 2, 1) := by decide +kernel
theorem dX2_pairsThatShowTheSame_5 : decode cX2_pairsThatShowTheSame 5 = .ok (.aload_n 0, 1) := by decide +kernel
theorem dX2_pairsThatShowTheSame_6 : decode cX2_pairsThatShowTheSame 6 = .ok (.getfield 11, 3) := by decide +kernel
theorem dX2_pairsThatShowTheSame_9 : decode cX2_pairsThatShowTheSame 9 = .ok (.arraylength, 1) := by decide +kernel
theorem dX2_pairsThatShowTheSame_10 : decode cX2_pairsThatShowTheSame 10 = .ok (.if_icmp .ge 71, 3) := by decide +kernel
theorem dX2_pairsThatShowTheSame_13 : decode cX2_pairsThatShowTheSame 13 = .ok (.iload_n 2, 1) := by decide +kernel
theorem dX2_pairsThatShowTheSame_14 : decode cX2_pairsThatShowTheSame 14 = .ok (.iconst 1, 1) := by decide +kernel
theorem dX2_pairsThatShowTheSame_15 : decode cX2_pairsThatShowTheSame 15 = .ok (.iadd, 1) := by decide +kernel
theorem dX2_pairsThatShowTheSame_16 : decode cX2_pairsThatShowTheSame 16 = .ok (.istore_n 3, 1) := by decide +kernel
theorem dX2_pairsThatShowTheSame_17 : decode cX2_pairsThatShowTheSame 17 = .ok (.iload_n 3, 1) := by decide +kernel
theorem dX2_pairsThatShowTheSame_18 : decode cX2_pairsThatShowTheSame 18 = .ok (.aload_n 0, 1) := by decide +kernel
theorem dX2_pairsThatShowTheSame_19 : decode cX2_pairsThatShowTheSame 19 = .ok (.getfield 11, 3) := by decide +kernel
theorem dX2_pairsThatShowTheSame_22 : decode cX2_pairsThatShowTheSame 22 = .ok (.arraylength, 1) := by decide +kernel
theorem dX2_pairsThatShowTheSame_23 : decode cX2_pairsThatShowTheSame 23 = .ok (.if_icmp .ge 52, 3) := by decide +kernel
theorem dX2_pairsThatShowTheSame_26 : decode cX2_pairsThatShowTheSame 26 = .ok (.aload_n 0, 1) := by decide +kernel
theorem dX2_pairsThatShowTheSame_27 : decode cX2_pairsThatShowTheSame 27 = .ok (.getfield 11, 3) := by decide +kernel
theorem dX2_pairsThatShowTheSame_30 : decode cX2_pairsThatShowTheSame 30 = .ok (.iload_n 2, 1) := by decide +kernel
theorem dX2_pairsThatShowTheSame_31 : decode cX2_pairsThatShowTheSame 31 = .ok (.aaload, 1) := by decide +kernel
theorem dX2_pairsThatShowTheSame_32 : decode cX2_pairsThatShowTheSame 32 = .ok (.astore 4, 2) := by decide +kernel
theorem dX2_pairsThatShowTheSame_34 : decode cX2_pairsThatShowTheSame 34 = .ok (.aload_n 0, 1) := by decide +kernel
theorem dX2_pairsThatShowTheSame_35 : decode cX2_pairsThatShowTheSame 35 = .ok (.getfield 11, 3) := by decide +kernel
theorem dX2_pairsThatShowTheSame_38 : decode cX2_pairsThatShowTheSame 38 = .ok (.iload_n 3, 1) := by decide +kernel
theorem dX2_pairsThatShowTheSame_39 : decode cX2_pairsThatShowTheSame 39 = .ok (.aaload, 1) := by decide +kernel
theorem dX2_pairsThatShowTheSame_40 : decode cX2_pairsThatShowTheSame 40 = .ok (.astore 5, 2) := by decide +kernel
theorem dX2_pairsThatShowTheSame_42 : decode cX2_pairsThatShowTheSame 42 = .ok (.aload 4, 2) := by decide +kernel
theorem dX2_pairsThatShowTheSame_44 : decode cX2_pairsThatShowTheSame 44 = .ok (.ifnull 25, 3) := by decide +kernel
theorem dX2_pairsThatShowTheSame_47 : decode cX2_pairsThatShowTheSame 47 = .ok (.aload 5, 2) := by decide +kernel
theorem dX2_pairsThatShowTheSame_49 : decode cX2_pairsThatShowTheSame 49 = .ok (.ifnull 20, 3) := by decide +kernel
theorem dX2_pairsThatShowTheSame_52 : decode cX2_pairsThatShowTheSame 52 = .ok (.aload 4, 2) := by decide +kernel
theorem dX2_pairsThatShowTheSame_54 : decode cX2_pairsThatShowTheSame 54 = .ok (.invokevirtual 106, 3) := by decide +kernel
theorem dX2_pairsThatShowTheSame_57 : decode cX2_pairsThatShowTheSame 57 = .ok (.aload 5, 2) := by decide +kernel
theorem dX2_pairsThatShowTheSame_59 : decode cX2_pairsThatShowTheSame 59 = .ok (.invokevirtual 106, 3) := by decide +kernel
theorem dX2_pairsThatShowTheSame_62 : decode cX2_pairsThatShowTheSame 62 = .ok (.lcmp, 1) := by decide +kernel
theorem dX2_pairsThatShowTheSame_63 : decode cX2_pairsThatShowTheSame 63 = .ok (.ifCond .ne 6, 3) := by decide +kernel
theorem dX2_pairsThatShowTheSame_66 : decode cX2_pairsThatShowTheSame 66 = .ok (.iinc 1 1, 3) := by decide +kernel
theorem dX2_pairsThatShowTheSame_69 : decode cX2_pairsThatShowTheSame 69 = .ok (.iinc 3 1, 3) := by decide +kernel
theorem dX2_pairsThatShowTheSame_72 : decode cX2_pairsThatShowTheSame 72 = .ok (.goto (-55), 3) := by decide +kernel
theorem dX2_pairsThatShowTheSame_75 : decode cX2_pairsThatShowTheSame 75 = .ok (.iinc 2 1, 3) := by decide +kernel
theorem dX2_pairsThatShowTheSame_78 : decode cX2_pairsThatShowTheSame 78 = .ok (.goto (-74), 3) := by decide +kernel
theorem dX2_pairsThatShowTheSame_81 : decode cX2_pairsThatShowTheSame 81 = .ok (.iload_n 1, 1) := by decide +kernel
theorem dX2_pairsThatShowTheSame_82 : decode cX2_pairsThatShowTheSame 82 = .ok (.ireturn, 1) := by decide +kernel
theorem dX2_countByAdding_0 : decode cX2_countByAdding 0 = .ok (.aload_n 0, 1) := by decide +kernel
theorem dX2_countByAdding_1 : decode cX2_countByAdding 1 = .ok (.getfield 18, 3) := by decide +kernel
theorem dX2_countByAdding_4 : decode cX2_countByAdding 4 = .ok (.aload_n 1, 1) := by decide +kernel
theorem dX2_countByAdding_5 : decode cX2_countByAdding 5 = .ok (.invokevirtual 241, 3) := by decide +kernel
theorem dX2_countByAdding_8 : decode cX2_countByAdding 8 = .ok (.aload_n 0, 1) := by decide +kernel
theorem dX2_countByAdding_9 : decode cX2_countByAdding 9 = .ok (.getfield 18, 3) := by decide +kernel
theorem dX2_countByAdding_12 : decode cX2_countByAdding 12 = .ok (.iload_n 2, 1) := by decide +kernel
theorem dX2_countByAdding_13 : decode cX2_countByAdding 13 = .ok (.i2l, 1) := by decide +kernel
theorem dX2_countByAdding_14 : decode cX2_countByAdding 14 = .ok (.invokevirtual 98, 3) := by decide +kernel
theorem dX2_countByAdding_17 : decode cX2_countByAdding 17 = .ok (.iload_n 3, 1) := by decide +kernel
theorem dX2_countByAdding_18 : decode cX2_countByAdding 18 = .ok (.tableswitch 65 0 2 #[26, 39, 52], 26) := by decide +kernel
theorem dX2_countByAdding_44 : decode cX2_countByAdding 44 = .ok (.aload_n 0, 1) := by decide +kernel
theorem dX2_countByAdding_45 : decode cX2_countByAdding 45 = .ok (.getfield 18, 3) := by decide +kernel
theorem dX2_countByAdding_48 : decode cX2_countByAdding 48 = .ok (.getfield 84, 3) := by decide +kernel
theorem dX2_countByAdding_51 : decode cX2_countByAdding 51 = .ok (.aload_n 1, 1) := by decide +kernel
theorem dX2_countByAdding_52 : decode cX2_countByAdding 52 = .ok (.getfield 84, 3) := by decide +kernel
theorem dX2_countByAdding_55 : decode cX2_countByAdding 55 = .ok (.isub, 1) := by decide +kernel
theorem dX2_countByAdding_56 : decode cX2_countByAdding 56 = .ok (.ireturn, 1) := by decide +kernel
theorem dX2_countByAdding_57 : decode cX2_countByAdding 57 = .ok (.aload_n 0, 1) := by decide +kernel
theorem dX2_countByAdding_58 : decode cX2_countByAdding 58 = .ok (.getfield 18, 3) := by decide +kernel
theorem dX2_countByAdding_61 : decode cX2_countByAdding 61 = .ok (.getfield 245, 3) := by decide +kernel
theorem dX2_countByAdding_64 : decode cX2_countByAdding 64 = .ok (.aload_n 1, 1) := by decide +kernel
theorem dX2_countByAdding_65 : decode cX2_countByAdding 65 = .ok (.getfield 245, 3) := by decide +kernel
theorem dX2_countByAdding_68 : decode cX2_countByAdding 68 = .ok (.isub, 1) := by decide +kernel
theorem dX2_countByAdding_69 : decode cX2_countByAdding 69 = .ok (.ireturn, 1) := by decide +kernel
theorem dX2_countByAdding_70 : decode cX2_countByAdding 70 = .ok (.aload_n 0, 1) := by decide +kernel
theorem dX2_countByAdding_71 : decode cX2_countByAdding 71 = .ok (.getfield 18, 3) := by decide +kernel
theorem dX2_countByAdding_74 : decode cX2_countByAdding 74 = .ok (.getfield 132, 3) := by decide +kernel
theorem dX2_countByAdding_77 : decode cX2_countByAdding 77 = .ok (.aload_n 1, 1) := by decide +kernel
theorem dX2_countByAdding_78 : decode cX2_countByAdding 78 = .ok (.getfield 132, 3) := by decide +kernel
theorem dX2_countByAdding_81 : decode cX2_countByAdding 81 = .ok (.isub, 1) := by decide +kernel
theorem dX2_countByAdding_82 : decode cX2_countByAdding 82 = .ok (.ireturn, 1) := by decide +kernel
theorem dX2_countByAdding_83 : decode cX2_countByAdding 83 = .ok (.aload_n 0, 1) := by decide +kernel
theorem dX2_countByAdding_84 : decode cX2_countByAdding 84 = .ok (.getfield 18, 3) := by decide +kernel
theorem dX2_countByAdding_87 : decode cX2_countByAdding 87 = .ok (.getfield 115, 3) := by decide +kernel
theorem dX2_countByAdding_90 : decode cX2_countByAdding 90 = .ok (.aload_n 1, 1) := by decide +kernel
theorem dX2_countByAdding_91 : decode cX2_countByAdding 91 = .ok (.getfield 115, 3) := by decide +kernel
theorem dX2_countByAdding_94 : decode cX2_countByAdding 94 = .ok (.isub, 1) := by decide +kernel
theorem dX2_countByAdding_95 : decode cX2_countByAdding 95 = .ok (.ireturn, 1) := by decide +kernel
theorem dX2_secondsByAdding_0 : decode cX2_secondsByAdding 0 = .ok (.aload_n 0, 1) := by decide +kernel
theorem dX2_secondsByAdding_1 : decode cX2_secondsByAdding 1 = .ok (.getfield 18, 3) := by decide +kernel
theorem dX2_secondsByAdding_4 : decode cX2_secondsByAdding 4 = .ok (.aload_n 1, 1) := by decide +kernel
theorem dX2_secondsByAdding_5 : decode cX2_secondsByAdding 5 = .ok (.invokevirtual 241, 3) := by decide +kernel
theorem dX2_secondsByAdding_8 : decode cX2_secondsByAdding 8 = .ok (.aload_n 0, 1) := by decide +kernel
theorem dX2_secondsByAdding_9 : decode cX2_secondsByAdding 9 = .ok (.getfield 18, 3) := by decide +kernel
theorem dX2_secondsByAdding_12 : decode cX2_secondsByAdding 12 = .ok (.iload_n 2, 1) := by decide +kernel
theorem dX2_secondsByAdding_13 : decode cX2_secondsByAdding 13 = .ok (.i2l, 1) := by decide +kernel
theorem dX2_secondsByAdding_14 : decode cX2_secondsByAdding 14 = .ok (.invokevirtual 98, 3) := by decide +kernel
theorem dX2_secondsByAdding_17 : decode cX2_secondsByAdding 17 = .ok (.aload_n 0, 1) := by decide +kernel
theorem dX2_secondsByAdding_18 : decode cX2_secondsByAdding 18 = .ok (.getfield 18, 3) := by decide +kernel
theorem dX2_secondsByAdding_21 : decode cX2_secondsByAdding 21 = .ok (.getfield 169, 3) := by decide +kernel
theorem dX2_secondsByAdding_24 : decode cX2_secondsByAdding 24 = .ok (.f2d, 1) := by decide +kernel
theorem dX2_secondsByAdding_25 : decode cX2_secondsByAdding 25 = .ok (.aload_n 1, 1) := by decide +kernel
theorem dX2_secondsByAdding_26 : decode cX2_secondsByAdding 26 = .ok (.getfield 169, 3) := by decide +kernel
theorem dX2_secondsByAdding_29 : decode cX2_secondsByAdding 29 = .ok (.f2d, 1) := by decide +kernel
theorem dX2_secondsByAdding_30 : decode cX2_secondsByAdding 30 = .ok (.dsub, 1) := by decide +kernel
theorem dX2_secondsByAdding_31 : decode cX2_secondsByAdding 31 = .ok (.dreturn, 1) := by decide +kernel
theorem dX2_quickerToAdd_0 : decode cX2_quickerToAdd 0 = .ok (.aload_n 0, 1) := by decide +kernel
theorem dX2_quickerToAdd_1 : decode cX2_quickerToAdd 1 = .ok (.iload_n 1, 1) := by decide +kernel
theorem dX2_quickerToAdd_2 : decode cX2_quickerToAdd 2 = .ok (.invokevirtual 214, 3) := by decide +kernel
theorem dX2_quickerToAdd_5 : decode cX2_quickerToAdd 5 = .ok (.astore 4, 2) := by decide +kernel
theorem dX2_quickerToAdd_7 : decode cX2_quickerToAdd 7 = .ok (.aload_n 0, 1) := by decide +kernel
theorem dX2_quickerToAdd_8 : decode cX2_quickerToAdd 8 = .ok (.iload_n 2, 1) := by decide +kernel
theorem dX2_quickerToAdd_9 : decode cX2_quickerToAdd 9 = .ok (.invokevirtual 214, 3) := by decide +kernel
theorem dX2_quickerToAdd_12 : decode cX2_quickerToAdd 12 = .ok (.astore 5, 2) := by decide +kernel
theorem dX2_quickerToAdd_14 : decode cX2_quickerToAdd 14 = .ok (.aload 4, 2) := by decide +kernel
theorem dX2_quickerToAdd_16 : decode cX2_quickerToAdd 16 = .ok (.ifnull 8, 3) := by decide +kernel
theorem dX2_quickerToAdd_19 : decode cX2_quickerToAdd 19 = .ok (.aload 5, 2) := by decide +kernel
theorem dX2_quickerToAdd_21 : decode cX2_quickerToAdd 21 = .ok (.ifnonnull 5, 3) := by decide +kernel
theorem dX2_quickerToAdd_24 : decode cX2_quickerToAdd 24 = .ok (.iconst (-1), 1) := by decide +kernel
theorem dX2_quickerToAdd_25 : decode cX2_quickerToAdd 25 = .ok (.ireturn, 1) := by decide +kernel
theorem dX2_quickerToAdd_26 : decode cX2_quickerToAdd 26 = .ok (.aload_n 0, 1) := by decide +kernel
theorem dX2_quickerToAdd_27 : decode cX2_quickerToAdd 27 = .ok (.aload 4, 2) := by decide +kernel
theorem dX2_quickerToAdd_29 : decode cX2_quickerToAdd 29 = .ok (.iload_n 3, 1) := by decide +kernel
theorem dX2_quickerToAdd_30 : decode cX2_quickerToAdd 30 = .ok (.invokevirtual 190, 3) := by decide +kernel
theorem dX2_quickerToAdd_33 : decode cX2_quickerToAdd 33 = .ok (.dstore 6, 2) := by decide +kernel
theorem dX2_quickerToAdd_35 : decode cX2_quickerToAdd 35 = .ok (.aload_n 0, 1) := by decide +kernel
theorem dX2_quickerToAdd_36 : decode cX2_quickerToAdd 36 = .ok (.aload 5, 2) := by decide +kernel
theorem dX2_quickerToAdd_38 : decode cX2_quickerToAdd 38 = .ok (.iload_n 3, 1) := by decide +kernel
theorem dX2_quickerToAdd_39 : decode cX2_quickerToAdd 39 = .ok (.invokevirtual 190, 3) := by decide +kernel
theorem dX2_quickerToAdd_42 : decode cX2_quickerToAdd 42 = .ok (.dstore 8, 2) := by decide +kernel
theorem dX2_quickerToAdd_44 : decode cX2_quickerToAdd 44 = .ok (.dload 6, 2) := by decide +kernel
theorem dX2_quickerToAdd_46 : decode cX2_quickerToAdd 46 = .ok (.dload 8, 2) := by decide +kernel
theorem dX2_quickerToAdd_48 : decode cX2_quickerToAdd 48 = .ok (.dcmp .l, 1) := by decide +kernel
theorem dX2_quickerToAdd_49 : decode cX2_quickerToAdd 49 = .ok (.ifCond .ne 9, 3) := by decide +kernel
theorem dX2_quickerToAdd_52 : decode cX2_quickerToAdd 52 = .ok (.iload_n 1, 1) := by decide +kernel
theorem dX2_quickerToAdd_53 : decode cX2_quickerToAdd 53 = .ok (.iload_n 2, 1) := by decide +kernel
theorem dX2_quickerToAdd_54 : decode cX2_quickerToAdd 54 = .ok (.invokestatic 248, 3) := by decide +kernel
theorem dX2_quickerToAdd_57 : decode cX2_quickerToAdd 57 = .ok (.ireturn, 1) := by decide +kernel
theorem dX2_quickerToAdd_58 : decode cX2_quickerToAdd 58 = .ok (.dload 6, 2) := by decide +kernel
theorem dX2_quickerToAdd_60 : decode cX2_quickerToAdd 60 = .ok (.dload 8, 2) := by decide +kernel
theorem dX2_quickerToAdd_62 : decode cX2_quickerToAdd 62 = .ok (.dcmp .g, 1) := by decide +kernel
theorem dX2_quickerToAdd_63 : decode cX2_quickerToAdd 63 = .ok (.ifCond .ge 7, 3) := by decide +kernel
theorem dX2_quickerToAdd_66 : decode cX2_quickerToAdd 66 = .ok (.iload_n 1, 1) := by decide +kernel
theorem dX2_quickerToAdd_67 : decode cX2_quickerToAdd 67 = .ok (.goto 4, 3) := by decide +kernel
theorem dX2_quickerToAdd_70 : decode cX2_quickerToAdd 70 = .ok (.iload_n 2, 1) := by decide +kernel
theorem dX2_quickerToAdd_71 : decode cX2_quickerToAdd 71 = .ok (.ireturn, 1) := by decide +kernel
theorem dX2_hardestDigit_0 : decode cX2_hardestDigit 0 = .ok (.iconst (-1), 1) := by decide +kernel
theorem dX2_hardestDigit_1 : decode cX2_hardestDigit 1 = .ok (.istore_n 3, 1) := by decide +kernel
theorem dX2_hardestDigit_2 : decode cX2_hardestDigit 2 = .ok (.iconst (-1), 1) := by decide +kernel
theorem dX2_hardestDigit_3 : decode cX2_hardestDigit 3 = .ok (.istore 4, 2) := by decide +kernel
theorem dX2_hardestDigit_5 : decode cX2_hardestDigit 5 = .ok (.iconst 1, 1) := by decide +kernel
theorem dX2_hardestDigit_6 : decode cX2_hardestDigit 6 = .ok (.istore 5, 2) := by decide +kernel
theorem dX2_hardestDigit_8 : decode cX2_hardestDigit 8 = .ok (.iload 5, 2) := by decide +kernel
theorem dX2_hardestDigit_10 : decode cX2_hardestDigit 10 = .ok (.bipush 9, 2) := by decide +kernel
theorem dX2_hardestDigit_12 : decode cX2_hardestDigit 12 = .ok (.if_icmp .gt 55, 3) := by decide +kernel
theorem dX2_hardestDigit_15 : decode cX2_hardestDigit 15 = .ok (.aload_n 0, 1) := by decide +kernel
theorem dX2_hardestDigit_16 : decode cX2_hardestDigit 16 = .ok (.getfield 18, 3) := by decide +kernel
theorem dX2_hardestDigit_19 : decode cX2_hardestDigit 19 = .ok (.aload_n 1, 1) := by decide +kernel
theorem dX2_hardestDigit_20 : decode cX2_hardestDigit 20 = .ok (.invokevirtual 241, 3) := by decide +kernel
theorem dX2_hardestDigit_23 : decode cX2_hardestDigit 23 = .ok (.aload_n 0, 1) := by decide +kernel
theorem dX2_hardestDigit_24 : decode cX2_hardestDigit 24 = .ok (.getfield 18, 3) := by decide +kernel
theorem dX2_hardestDigit_27 : decode cX2_hardestDigit 27 = .ok (.iload_n 2, 1) := by decide +kernel
theorem dX2_hardestDigit_28 : decode cX2_hardestDigit 28 = .ok (.iload 5, 2) := by decide +kernel
theorem dX2_hardestDigit_30 : decode cX2_hardestDigit 30 = .ok (.invokevirtual 253, 3) := by decide +kernel
theorem dX2_hardestDigit_33 : decode cX2_hardestDigit 33 = .ok (.aload_n 0, 1) := by decide +kernel
theorem dX2_hardestDigit_34 : decode cX2_hardestDigit 34 = .ok (.getfield 18, 3) := by decide +kernel
theorem dX2_hardestDigit_37 : decode cX2_hardestDigit 37 = .ok (.getfield 84, 3) := by decide +kernel
theorem dX2_hardestDigit_40 : decode cX2_hardestDigit 40 = .ok (.aload_n 1, 1) := by decide +kernel
theorem dX2_hardestDigit_41 : decode cX2_hardestDigit 41 = .ok (.getfield 84, 3) := by decide +kernel
theorem dX2_hardestDigit_44 : decode cX2_hardestDigit 44 = .ok (.isub, 1) := by decide +kernel
theorem dX2_hardestDigit_45 : decode cX2_hardestDigit 45 = .ok (.istore 6, 2) := by decide +kernel
theorem dX2_hardestDigit_47 : decode cX2_hardestDigit 47 = .ok (.iload 6, 2) := by decide +kernel
theorem dX2_hardestDigit_49 : decode cX2_hardestDigit 49 = .ok (.iload 4, 2) := by decide +kernel
theorem dX2_hardestDigit_51 : decode cX2_hardestDigit 51 = .ok (.if_icmp .le 10, 3) := by decide +kernel
theorem dX2_hardestDigit_54 : decode cX2_hardestDigit 54 = .ok (.iload 6, 2) := by decide +kernel
theorem dX2_hardestDigit_56 : decode cX2_hardestDigit 56 = .ok (.istore 4, 2) := by decide +kernel
theorem dX2_hardestDigit_58 : decode cX2_hardestDigit 58 = .ok (.iload 5, 2) := by decide +kernel
theorem dX2_hardestDigit_60 : decode cX2_hardestDigit 60 = .ok (.istore_n 3, 1) := by decide +kernel
theorem dX2_hardestDigit_61 : decode cX2_hardestDigit 61 = .ok (.iinc 5 1, 3) := by decide +kernel
theorem dX2_hardestDigit_64 : decode cX2_hardestDigit 64 = .ok (.goto (-56), 3) := by decide +kernel
theorem dX2_hardestDigit_67 : decode cX2_hardestDigit 67 = .ok (.iload_n 3, 1) := by decide +kernel
theorem dX2_hardestDigit_68 : decode cX2_hardestDigit 68 = .ok (.ireturn, 1) := by decide +kernel
end
section
-- laid by wip/p30/names.py
theorem dX2_mixed_0 : decode cX2_mixed 0 = .ok (.lload_n 0, 1) := by decide +kernel
theorem dX2_mixed_1 : decode cX2_mixed 1 = .ok (.ldc2_w 256, 3) := by decide +kernel
theorem dX2_mixed_4 : decode cX2_mixed 4 = .ok (.lmul, 1) := by decide +kernel
theorem dX2_mixed_5 : decode cX2_mixed 5 = .ok (.lload_n 2, 1) := by decide +kernel
theorem dX2_mixed_6 : decode cX2_mixed 6 = .ok (.ladd, 1) := by decide +kernel
theorem dX2_mixed_7 : decode cX2_mixed 7 = .ok (.lreturn, 1) := by decide +kernel
theorem dX2_mixedWithFrame_0 : decode cX2_mixedWithFrame 0 = .ok (.lload_n 1, 1) := by decide +kernel
theorem dX2_mixedWithFrame_1 : decode cX2_mixedWithFrame 1 = .ok (.lstore 4, 2) := by decide +kernel
theorem dX2_mixedWithFrame_3 : decode cX2_mixedWithFrame 3 = .ok (.iconst 0, 1) := by decide +kernel
theorem dX2_mixedWithFrame_4 : decode cX2_mixedWithFrame 4 = .ok (.istore 6, 2) := by decide +kernel
theorem dX2_mixedWithFrame_6 : decode cX2_mixedWithFrame 6 = .ok (.iload 6, 2) := by decide +kernel
theorem dX2_mixedWithFrame_8 : decode cX2_mixedWithFrame 8 = .ok (.bipush 13, 2) := by decide +kernel
theorem dX2_mixedWithFrame_10 : decode cX2_mixedWithFrame 10 = .ok (.if_icmp .ge 23, 3) := by decide +kernel
theorem dX2_mixedWithFrame_13 : decode cX2_mixedWithFrame 13 = .ok (.lload 4, 2) := by decide +kernel
theorem dX2_mixedWithFrame_15 : decode cX2_mixedWithFrame 15 = .ok (.aload_n 3, 1) := by decide +kernel
theorem dX2_mixedWithFrame_16 : decode cX2_mixedWithFrame 16 = .ok (.iload 6, 2) := by decide +kernel
theorem dX2_mixedWithFrame_18 : decode cX2_mixedWithFrame 18 = .ok (.invokevirtual 166, 3) := by decide +kernel
theorem dX2_mixedWithFrame_21 : decode cX2_mixedWithFrame 21 = .ok (.i2l, 1) := by decide +kernel
theorem dX2_mixedWithFrame_22 : decode cX2_mixedWithFrame 22 = .ok (.invokestatic 206, 3) := by decide +kernel
theorem dX2_mixedWithFrame_25 : decode cX2_mixedWithFrame 25 = .ok (.lstore 4, 2) := by decide +kernel
theorem dX2_mixedWithFrame_27 : decode cX2_mixedWithFrame 27 = .ok (.iinc 6 1, 3) := by decide +kernel
theorem dX2_mixedWithFrame_30 : decode cX2_mixedWithFrame 30 = .ok (.goto (-24), 3) := by decide +kernel
theorem dX2_mixedWithFrame_33 : decode cX2_mixedWithFrame 33 = .ok (.lload 4, 2) := by decide +kernel
theorem dX2_mixedWithFrame_35 : decode cX2_mixedWithFrame 35 = .ok (.aload_n 3, 1) := by decide +kernel
theorem dX2_mixedWithFrame_36 : decode cX2_mixedWithFrame 36 = .ok (.invokevirtual 106, 3) := by decide +kernel
theorem dX2_mixedWithFrame_39 : decode cX2_mixedWithFrame 39 = .ok (.invokestatic 206, 3) := by decide +kernel
theorem dX2_mixedWithFrame_42 : decode cX2_mixedWithFrame 42 = .ok (.lstore 4, 2) := by decide +kernel
theorem dX2_mixedWithFrame_44 : decode cX2_mixedWithFrame 44 = .ok (.lload 4, 2) := by decide +kernel
theorem dX2_mixedWithFrame_46 : decode cX2_mixedWithFrame 46 = .ok (.ldc2_w 258, 3) := by decide +kernel
theorem dX2_mixedWithFrame_49 : decode cX2_mixedWithFrame 49 = .ok (.aload_n 3, 1) := by decide +kernel
theorem dX2_mixedWithFrame_50 : decode cX2_mixedWithFrame 50 = .ok (.getfield 169, 3) := by decide +kernel
theorem dX2_mixedWithFrame_53 : decode cX2_mixedWithFrame 53 = .ok (.f2d, 1) := by decide +kernel
theorem dX2_mixedWithFrame_54 : decode cX2_mixedWithFrame 54 = .ok (.dmul, 1) := by decide +kernel
theorem dX2_mixedWithFrame_55 : decode cX2_mixedWithFrame 55 = .ok (.d2l, 1) := by decide +kernel
theorem dX2_mixedWithFrame_56 : decode cX2_mixedWithFrame 56 = .ok (.invokestatic 206, 3) := by decide +kernel
theorem dX2_mixedWithFrame_59 : decode cX2_mixedWithFrame 59 = .ok (.lstore 4, 2) := by decide +kernel
theorem dX2_mixedWithFrame_61 : decode cX2_mixedWithFrame 61 = .ok (.lload 4, 2) := by decide +kernel
theorem dX2_mixedWithFrame_63 : decode cX2_mixedWithFrame 63 = .ok (.aload_n 3, 1) := by decide +kernel
theorem dX2_mixedWithFrame_64 : decode cX2_mixedWithFrame 64 = .ok (.invokevirtual 180, 3) := by decide +kernel
theorem dX2_mixedWithFrame_67 : decode cX2_mixedWithFrame 67 = .ok (.invokestatic 206, 3) := by decide +kernel
theorem dX2_mixedWithFrame_70 : decode cX2_mixedWithFrame 70 = .ok (.lstore 4, 2) := by decide +kernel
theorem dX2_mixedWithFrame_72 : decode cX2_mixedWithFrame 72 = .ok (.lload 4, 2) := by decide +kernel
theorem dX2_mixedWithFrame_74 : decode cX2_mixedWithFrame 74 = .ok (.aload_n 3, 1) := by decide +kernel
theorem dX2_mixedWithFrame_75 : decode cX2_mixedWithFrame 75 = .ok (.invokevirtual 183, 3) := by decide +kernel
theorem dX2_mixedWithFrame_78 : decode cX2_mixedWithFrame 78 = .ok (.i2l, 1) := by decide +kernel
theorem dX2_mixedWithFrame_79 : decode cX2_mixedWithFrame 79 = .ok (.invokestatic 206, 3) := by decide +kernel
theorem dX2_mixedWithFrame_82 : decode cX2_mixedWithFrame 82 = .ok (.lstore 4, 2) := by decide +kernel
theorem dX2_mixedWithFrame_84 : decode cX2_mixedWithFrame 84 = .ok (.iconst 0, 1) := by decide +kernel
theorem dX2_mixedWithFrame_85 : decode cX2_mixedWithFrame 85 = .ok (.istore 6, 2) := by decide +kernel
theorem dX2_mixedWithFrame_87 : decode cX2_mixedWithFrame 87 = .ok (.iload 6, 2) := by decide +kernel
theorem dX2_mixedWithFrame_89 : decode cX2_mixedWithFrame 89 = .ok (.iconst 4, 1) := by decide +kernel
theorem dX2_mixedWithFrame_90 : decode cX2_mixedWithFrame 90 = .ok (.if_icmp .ge 26, 3) := by decide +kernel
theorem dX2_mixedWithFrame_93 : decode cX2_mixedWithFrame 93 = .ok (.lload 4, 2) := by decide +kernel
theorem dX2_mixedWithFrame_95 : decode cX2_mixedWithFrame 95 = .ok (.aload_n 0, 1) := by decide +kernel
theorem dX2_mixedWithFrame_96 : decode cX2_mixedWithFrame 96 = .ok (.aload_n 3, 1) := by decide +kernel
theorem dX2_mixedWithFrame_97 : decode cX2_mixedWithFrame 97 = .ok (.bipush 7, 2) := by decide +kernel
theorem dX2_mixedWithFrame_99 : decode cX2_mixedWithFrame 99 = .ok (.iload 6, 2) := by decide +kernel
theorem dX2_mixedWithFrame_101 : decode cX2_mixedWithFrame 101 = .ok (.invokevirtual 186, 3) := by decide +kernel
theorem dX2_mixedWithFrame_104 : decode cX2_mixedWithFrame 104 = .ok (.i2l, 1) := by decide +kernel
theorem dX2_mixedWithFrame_105 : decode cX2_mixedWithFrame 105 = .ok (.invokestatic 206, 3) := by decide +kernel
theorem dX2_mixedWithFrame_108 : decode cX2_mixedWithFrame 108 = .ok (.lstore 4, 2) := by decide +kernel
theorem dX2_mixedWithFrame_110 : decode cX2_mixedWithFrame 110 = .ok (.iinc 6 1, 3) := by decide +kernel
theorem dX2_mixedWithFrame_113 : decode cX2_mixedWithFrame 113 = .ok (.goto (-26), 3) := by decide +kernel
theorem dX2_mixedWithFrame_116 : decode cX2_mixedWithFrame 116 = .ok (.lload 4, 2) := by decide +kernel
theorem dX2_mixedWithFrame_118 : decode cX2_mixedWithFrame 118 = .ok (.ldc2_w 258, 3) := by decide +kernel
theorem dX2_mixedWithFrame_121 : decode cX2_mixedWithFrame 121 = .ok (.aload_n 0, 1) := by decide +kernel
theorem dX2_mixedWithFrame_122 : decode cX2_mixedWithFrame 122 = .ok (.aload_n 3, 1) := by decide +kernel
theorem dX2_mixedWithFrame_123 : decode cX2_mixedWithFrame 123 = .ok (.bipush 7, 2) := by decide +kernel
theorem dX2_mixedWithFrame_125 : decode cX2_mixedWithFrame 125 = .ok (.invokevirtual 190, 3) := by decide +kernel
theorem dX2_mixedWithFrame_128 : decode cX2_mixedWithFrame 128 = .ok (.dmul, 1) := by decide +kernel
theorem dX2_mixedWithFrame_129 : decode cX2_mixedWithFrame 129 = .ok (.d2l, 1) := by decide +kernel
theorem dX2_mixedWithFrame_130 : decode cX2_mixedWithFrame 130 = .ok (.invokestatic 206, 3) := by decide +kernel
theorem dX2_mixedWithFrame_133 : decode cX2_mixedWithFrame 133 = .ok (.lstore 4, 2) := by decide +kernel
theorem dX2_mixedWithFrame_135 : decode cX2_mixedWithFrame 135 = .ok (.iconst 0, 1) := by decide +kernel
theorem dX2_mixedWithFrame_136 : decode cX2_mixedWithFrame 136 = .ok (.istore 6, 2) := by decide +kernel
theorem dX2_mixedWithFrame_138 : decode cX2_mixedWithFrame 138 = .ok (.iload 6, 2) := by decide +kernel
theorem dX2_mixedWithFrame_140 : decode cX2_mixedWithFrame 140 = .ok (.aload_n 3, 1) := by decide +kernel
theorem dX2_mixedWithFrame_141 : decode cX2_mixedWithFrame 141 = .ok (.getfield 260, 3) := by decide +kernel
theorem dX2_mixedWithFrame_144 : decode cX2_mixedWithFrame 144 = .ok (.if_icmp .ge 56, 3) := by decide +kernel
theorem dX2_mixedWithFrame_147 : decode cX2_mixedWithFrame 147 = .ok (.iconst 0, 1) := by decide +kernel
theorem dX2_mixedWithFrame_148 : decode cX2_mixedWithFrame 148 = .ok (.istore 7, 2) := by decide +kernel
theorem dX2_mixedWithFrame_150 : decode cX2_mixedWithFrame 150 = .ok (.iload 7, 2) := by decide +kernel
theorem dX2_mixedWithFrame_152 : decode cX2_mixedWithFrame 152 = .ok (.bipush 6, 2) := by decide +kernel
theorem dX2_mixedWithFrame_154 : decode cX2_mixedWithFrame 154 = .ok (.if_icmp .ge 25, 3) := by decide +kernel
theorem dX2_mixedWithFrame_157 : decode cX2_mixedWithFrame 157 = .ok (.lload 4, 2) := by decide +kernel
theorem dX2_mixedWithFrame_159 : decode cX2_mixedWithFrame 159 = .ok (.aload_n 3, 1) := by decide +kernel
theorem dX2_mixedWithFrame_160 : decode cX2_mixedWithFrame 160 = .ok (.iload 6, 2) := by decide +kernel
theorem dX2_mixedWithFrame_162 : decode cX2_mixedWithFrame 162 = .ok (.iload 7, 2) := by decide +kernel
theorem dX2_mixedWithFrame_164 : decode cX2_mixedWithFrame 164 = .ok (.invokevirtual 162, 3) := by decide +kernel
theorem dX2_mixedWithFrame_167 : decode cX2_mixedWithFrame 167 = .ok (.i2l, 1) := by decide +kernel
theorem dX2_mixedWithFrame_168 : decode cX2_mixedWithFrame 168 = .ok (.invokestatic 206, 3) := by decide +kernel
theorem dX2_mixedWithFrame_171 : decode cX2_mixedWithFrame 171 = .ok (.lstore 4, 2) := by decide +kernel
theorem dX2_mixedWithFrame_173 : decode cX2_mixedWithFrame 173 = .ok (.iinc 7 1, 3) := by decide +kernel
theorem dX2_mixedWithFrame_176 : decode cX2_mixedWithFrame 176 = .ok (.goto (-26), 3) := by decide +kernel
theorem dX2_mixedWithFrame_179 : decode cX2_mixedWithFrame 179 = .ok (.lload 4, 2) := by decide +kernel
theorem dX2_mixedWithFrame_181 : decode cX2_mixedWithFrame 181 = .ok (.aload_n 0, 1) := by decide +kernel
theorem dX2_mixedWithFrame_182 : decode cX2_mixedWithFrame 182 = .ok (.aload_n 3, 1) := by decide +kernel
theorem dX2_mixedWithFrame_183 : decode cX2_mixedWithFrame 183 = .ok (.iload 6, 2) := by decide +kernel
theorem dX2_mixedWithFrame_185 : decode cX2_mixedWithFrame 185 = .ok (.invokevirtual 200, 3) := by decide +kernel
theorem dX2_mixedWithFrame_188 : decode cX2_mixedWithFrame 188 = .ok (.i2l, 1) := by decide +kernel
theorem dX2_mixedWithFrame_189 : decode cX2_mixedWithFrame 189 = .ok (.invokestatic 206, 3) := by decide +kernel
theorem dX2_mixedWithFrame_192 : decode cX2_mixedWithFrame 192 = .ok (.lstore 4, 2) := by decide +kernel
theorem dX2_mixedWithFrame_194 : decode cX2_mixedWithFrame 194 = .ok (.iinc 6 1, 3) := by decide +kernel
theorem dX2_mixedWithFrame_197 : decode cX2_mixedWithFrame 197 = .ok (.goto (-59), 3) := by decide +kernel
theorem dX2_mixedWithFrame_200 : decode cX2_mixedWithFrame 200 = .ok (.lload 4, 2) := by decide +kernel
theorem dX2_mixedWithFrame_202 : decode cX2_mixedWithFrame 202 = .ok (.lreturn, 1) := by decide +kernel
theorem dX3_init_0 : decode cX3_init 0 = .ok (.aload_n 0, 1) := by decide +kernel
theorem dX3_init_1 : decode cX3_init 1 = .ok (.invokespecial 1, 3) := by decide +kernel
theorem dX3_init_4 : decode cX3_init 4 = .ok (.aload_n 0, 1) := by decide +kernel
theorem dX3_init_5 : decode cX3_init 5 = .ok (.iconst 0, 1) := by decide +kernel
theorem dX3_init_6 : decode cX3_init 6 = .ok (.anewarray 7, 3) := by decide +kernel
theorem dX3_init_9 : decode cX3_init 9 = .ok (.putfield 9, 3) := by decide +kernel
theorem dX3_init_12 : decode cX3_init 12 = .ok (.aload_n 0, 1) := by decide +kernel
theorem dX3_init_13 : decode cX3_init 13 = .ok (.iconst 5, 1) := by decide +kernel
theorem dX3_init_14 : decode cX3_init 14 = .ok (.newarray .int, 2) := by decide +kernel
theorem dX3_init_16 : decode cX3_init 16 = .ok (.putfield 15, 3) := by decide +kernel
theorem dX3_init_19 : decode cX3_init 19 = .ok (.aload_n 0, 1) := by decide +kernel
theorem dX3_init_20 : decode cX3_init 20 = .ok (.aload_n 1, 1) := by decide +kernel
theorem dX3_init_21 : decode cX3_init 21 = .ok (.putfield 18, 3) := by decide +kernel
theorem dX3_init_24 : decode cX3_init 24 = .ok (.aload_n 0, 1) := by decide +kernel
theorem dX3_init_25 : decode cX3_init 25 = .ok (.aload_n 2, 1) := by decide +kernel
theorem dX3_init_26 : decode cX3_init 26 = .ok (.putfield 22, 3) := by decide +kernel
theorem dX3_init_29 : decode cX3_init 29 = .ok (.aload_n 0, 1) := by decide +kernel
theorem dX3_init_30 : decode cX3_init 30 = .ok (.iload_n 3, 1) := by decide +kernel
theorem dX3_init_31 : decode cX3_init 31 = .ok (.putfield 25, 3) := by decide +kernel
theorem dX3_init_34 : decode cX3_init 34 = .ok (.return_, 1) := by decide +kernel
theorem dX3_draw_0 : decode cX3_draw 0 = .ok (.aload_n 0, 1) := by decide +kernel
theorem dX3_draw_1 : decode cX3_draw 1 = .ok (.getfield 22, 3) := by decide +kernel
theorem dX3_draw_4 : decode cX3_draw 4 = .ok (.aload_n 0, 1) := by decide +kernel
theorem dX3_draw_5 : decode cX3_draw 5 = .ok (.getfield 25, 3) := by decide +kernel
theorem dX3_draw_8 : decode cX3_draw 8 = .ok (.bipush 24, 2) := by decide +kernel
theorem dX3_draw_10 : decode cX3_draw 10 = .ok (.irem, 1) := by decide +kernel
theorem dX3_draw_11 : decode cX3_draw 11 = .ok (.invokestatic 29, 3) := by decide +kernel
theorem dX3_draw_14 : decode cX3_draw 14 = .ok (.aload_n 0, 1) := by decide +kernel
theorem dX3_draw_15 : decode cX3_draw 15 = .ok (.getfield 25, 3) := by decide +kernel
theorem dX3_draw_18 : decode cX3_draw 18 = .ok (.bipush 24, 2) := by decide +kernel
theorem dX3_draw_20 : decode cX3_draw 20 = .ok (.idiv, 1) := by decide +kernel
theorem dX3_draw_21 : decode cX3_draw 21 = .ok (.bipush 8, 2) := by decide +kernel
theorem dX3_draw_23 : decode cX3_draw 23 = .ok (.irem, 1) := by decide +kernel
theorem dX3_draw_24 : decode cX3_draw 24 = .ok (.ishr, 1) := by decide +kernel
theorem dX3_draw_25 : decode cX3_draw 25 = .ok (.sipush 439, 3) := by decide +kernel
theorem dX3_draw_28 : decode cX3_draw 28 = .ok (.aload_n 0, 1) := by decide +kernel
theorem dX3_draw_29 : decode cX3_draw 29 = .ok (.getfield 25, 3) := by decide +kernel
theorem dX3_draw_32 : decode cX3_draw 32 = .ok (.imul, 1) := by decide +kernel
theorem dX3_draw_33 : decode cX3_draw 33 = .ok (.iadd, 1) := by decide +kernel
theorem dX3_draw_34 : decode cX3_draw 34 = .ok (.iload_n 1, 1) := by decide +kernel
theorem dX3_draw_35 : decode cX3_draw 35 = .ok (.invokestatic 35, 3) := by decide +kernel
theorem dX3_draw_38 : decode cX3_draw 38 = .ok (.istore_n 2, 1) := by decide +kernel
theorem dX3_draw_39 : decode cX3_draw 39 = .ok (.aload_n 0, 1) := by decide +kernel
theorem dX3_draw_40 : decode cX3_draw 40 = .ok (.dup, 1) := by decide +kernel
theorem dX3_draw_41 : decode cX3_draw 41 = .ok (.getfield 25, 3) := by decide +kernel
theorem dX3_draw_44 : decode cX3_draw 44 = .ok (.iconst 1, 1) := by decide +kernel
theorem dX3_draw_45 : decode cX3_draw 45 = .ok (.iadd, 1) := by decide +kernel
theorem dX3_draw_46 : decode cX3_draw 46 = .ok (.putfield 25, 3) := by decide +kernel
theorem dX3_draw_49 : decode cX3_draw 49 = .ok (.iload_n 2, 1) := by decide +kernel
theorem dX3_draw_50 : decode cX3_draw 50 = .ok (.ireturn, 1) := by decide +kernel
theorem dX3_frame_0 : decode cX3_frame 0 = .ok (.aload_n 0, 1) := by decide +kernel
theorem dX3_frame_1 : decode cX3_frame 1 = .ok (.iload_n 1, 1) := by decide +kernel
theorem dX3_frame_2 : decode cX3_frame 2 = .ok (.putfield 39, 3) := by decide +kernel
theorem dX3_frame_5 : decode cX3_frame 5 = .ok (.aload_n 0, 1) := by decide +kernel
theorem dX3_frame_6 : decode cX3_frame 6 = .ok (.aload_n 0, 1) := by decide +kernel
theorem dX3_frame_7 : decode cX3_frame 7 = .ok (.iconst 3, 1) := by decide +kernel
theorem dX3_frame_8 : decode cX3_frame 8 = .ok (.invokevirtual 42, 3) := by decide +kernel
theorem dX3_frame_11 : decode cX3_frame 11 = .ok (.putfield 46, 3) := by decide +kernel
theorem dX3_frame_14 : decode cX3_frame 14 = .ok (.iconst 2, 1) := by decide +kernel
theorem dX3_frame_15 : decode cX3_frame 15 = .ok (.aload_n 0, 1) := by decide +kernel
theorem dX3_frame_16 : decode cX3_frame 16 = .ok (.bipush 7, 2) := by decide +kernel
theorem dX3_frame_18 : decode cX3_frame 18 = .ok (.invokevirtual 42, 3) := by decide +kernel
theorem dX3_frame_21 : decode cX3_frame 21 = .ok (.iadd, 1) := by decide +kernel
theorem dX3_frame_22 : decode cX3_frame 22 = .ok (.istore_n 2, 1) := by decide +kernel
theorem dX3_frame_23 : decode cX3_frame 23 = .ok (.aload_n 0, 1) := by decide +kernel
theorem dX3_frame_24 : decode cX3_frame 24 = .ok (.iload_n 2, 1) := by decide +kernel
theorem dX3_frame_25 : decode cX3_frame 25 = .ok (.newarray .int, 2) := by decide +kernel
theorem dX3_frame_27 : decode cX3_frame 27 = .ok (.putfield 49, 3) := by decide +kernel
theorem dX3_frame_30 : decode cX3_frame 30 = .ok (.aload_n 0, 1) := by decide +kernel
theorem dX3_frame_31 : decode cX3_frame 31 = .ok (.iload_n 2, 1) := by decide +kernel
theorem dX3_frame_32 : decode cX3_frame 32 = .ok (.newarray .int, 2) := by decide +kernel
theorem dX3_frame_34 : decode cX3_frame 34 = .ok (.putfield 52, 3) := by decide +kernel
theorem dX3_frame_37 : decode cX3_frame 37 = .ok (.aload_n 0, 1) := by decide +kernel
theorem dX3_frame_38 : decode cX3_frame 38 = .ok (.iconst 2, 1) := by decide +kernel
theorem dX3_frame_39 : decode cX3_frame 39 = .ok (.iload_n 2, 1) := by decide +kernel
theorem dX3_frame_40 : decode cX3_frame 40 = .ok (.multianewarray 55 2, 4) := by decide +kernel
theorem dX3_frame_44 : decode cX3_frame 44 = .ok (.putfield 56, 3) := by decide +kernel
theorem dX3_frame_47 : decode cX3_frame 47 = .ok (.aload_n 0, 1) := by decide +kernel
theorem dX3_frame_48 : decode cX3_frame 48 = .ok (.getfield 18, 3) := by decide +kernel
theorem dX3_frame_51 : decode cX3_frame 51 = .ok (.aload_n 0, 1) := by decide +kernel
theorem dX3_frame_52 : decode cX3_frame 52 = .ok (.getfield 46, 3) := by decide +kernel
theorem dX3_frame_55 : decode cX3_frame 55 = .ok (.iload_n 2, 1) := by decide +kernel
theorem dX3_frame_56 : decode cX3_frame 56 = .ok (.invokevirtual 59, 3) := by decide +kernel
theorem dX3_frame_59 : decode cX3_frame 59 = .ok (.iload_n 1, 1) := by decide +kernel
theorem dX3_frame_60 : decode cX3_frame 60 = .ok (.if_icmp .ne 7, 3) := by decide +kernel
theorem dX3_frame_63 : decode cX3_frame 63 = .ok (.iconst 1, 1) := by decide +kernel
theorem dX3_frame_64 : decode cX3_frame 64 = .ok (.goto 4, 3) := by decide +kernel
theorem dX3_frame_67 : decode cX3_frame 67 = .ok (.iconst 0, 1) := by decide +kernel
theorem dX3_frame_68 : decode cX3_frame 68 = .ok (.ireturn, 1) := by decide +kernel
theorem dX3_ups_0 : decode cX3_ups 0 = .ok (.aload_n 0, 1) := by decide +kernel
theorem dX3_ups_1 : decode cX3_ups 1 = .ok (.getfield 46, 3) := by decide +kernel
theorem dX3_ups_4 : decode cX3_ups 4 = .ok (.ifCond .ne 7, 3) := by decide +kernel
theorem dX3_ups_7 : decode cX3_ups 7 = .ok (.iconst 1, 1) := by decide +kernel
theorem dX3_ups_8 : decode cX3_ups 8 = .ok (.goto 16, 3) := by decide +kernel
theorem dX3_ups_11 : decode cX3_ups 11 = .ok (.aload_n 0, 1) := by decide +kernel
theorem dX3_ups_12 : decode cX3_ups 12 = .ok (.getfield 46, 3) := by decide +kernel
theorem dX3_ups_15 : decode cX3_ups 15 = .ok (.iconst 1, 1) := by decide +kernel
theorem dX3_ups_16 : decode cX3_ups 16 = .ok (.if_icmp .ne 7, 3) := by decide +kernel
theorem dX3_ups_19 : decode cX3_ups 19 = .ok (.iconst 2, 1) := by decide +kernel
theorem dX3_ups_20 : decode cX3_ups 20 = .ok (.goto 4, 3) := by decide +kernel
theorem dX3_ups_23 : decode cX3_ups 23 = .ok (.iconst 0, 1) := by decide +kernel
theorem dX3_ups_24 : decode cX3_ups 24 = .ok (.ireturn, 1) := by decide +kernel
theorem dX3_downs_0 : decode cX3_downs 0 = .ok (.aload_n 0, 1) := by decide +kernel
theorem dX3_downs_1 : decode cX3_downs 1 = .ok (.getfield 46, 3) := by decide +kernel
theorem dX3_downs_4 : decode cX3_downs 4 = .ok (.ifCond .ne 7, 3) := by decide +kernel
theorem dX3_downs_7 : decode cX3_downs 7 = .ok (.iconst 4, 1) := by decide +kernel
theorem dX3_downs_8 : decode cX3_downs 8 = .ok (.goto 17, 3) := by decide +kernel
theorem dX3_downs_11 : decode cX3_downs 11 = .ok (.aload_n 0, 1) := by decide +kernel
theorem dX3_downs_12 : decode cX3_downs 12 = .ok (.getfield 46, 3) := by decide +kernel
theorem dX3_downs_15 : decode cX3_downs 15 = .ok (.iconst 1, 1) := by decide +kernel
theorem dX3_downs_16 : decode cX3_downs 16 = .ok (.if_icmp .ne 7, 3) := by decide +kernel
theorem dX3_downs_19 : decode cX3_downs 19 = .ok (.iconst 5, 1) := by decide +kernel
theorem dX3_downs_20 : decode cX3_downs 20 = .ok (.goto 5, 3) := by decide +kernel
theorem dX3_downs_23 : decode cX3_downs 23 = .ok (.bipush 10, 2) := by decide +kernel
theorem dX3_downs_25 : decode cX3_downs 25 = .ok (.ireturn, 1) := by decide +kernel
theorem dX3_most_0 : decode cX3_most 0 = .ok (.aload_n 0, 1) := by decide +kernel
theorem dX3_most_1 : decode cX3_most 1 = .ok (.invokevirtual 64, 3) := by decide +kernel
theorem dX3_most_4 : decode cX3_most 4 = .ok (.iconst 5, 1) := by decide +kernel
theorem dX3_most_5 : decode cX3_most 5 = .ok (.imul, 1) := by decide +kernel
theorem dX3_most_6 : decode cX3_most 6 = .ok (.aload_n 0, 1) := by decide +kernel
theorem dX3_most_7 : decode cX3_most 7 = .ok (.invokevirtual 68, 3) := by decide +kernel
theorem dX3_most_10 : decode cX3_most 10 = .ok (.iadd, 1) := by decide +kernel
theorem dX3_most_11 : decode cX3_most 11 = .ok (.ireturn, 1) := by decide +kernel
theorem dX3_value_0 : decode cX3_value 0 = .ok (.aload_n 0, 1) := by decide +kernel
theorem dX3_value_1 : decode cX3_value 1 = .ok (.getfield 49, 3) := by decide +kernel
theorem dX3_value_4 : decode cX3_value 4 = .ok (.iload_n 1, 1) := by decide +kernel
theorem dX3_value_5 : decode cX3_value 5 = .ok (.iaload, 1) := by decide +kernel
theorem dX3_value_6 : decode cX3_value 6 = .ok (.iconst 5, 1) := by decide +kernel
theorem dX3_value_7 : decode cX3_value 7 = .ok (.imul, 1) := by decide +kernel
theorem dX3_value_8 : decode cX3_value 8 = .ok (.aload_n 0, 1) := by decide +kernel
theorem dX3_value_9 : decode cX3_value 9 = .ok (.getfield 52, 3) := by decide +kernel
theorem dX3_value_12 : decode cX3_value 12 = .ok (.iload_n 1, 1) := by decide +kernel
theorem dX3_value_13 : decode cX3_value 13 = .ok (.iaload, 1) := by decide +kernel
theorem dX3_value_14 : decode cX3_value 14 = .ok (.iadd, 1) := by decide +kernel
theorem dX3_value_15 : decode cX3_value 15 = .ok (.ireturn, 1) := by decide +kernel
theorem dX3_total_0 : decode cX3_total 0 = .ok (.lconst 0, 1) := by decide +kernel
theorem dX3_total_1 : decode cX3_total 1 = .ok (.lstore_n 1, 1) := by decide +kernel
theorem dX3_total_2 : decode cX3_total 2 = .ok (.lconst 1, 1) := by decide +kernel
theorem dX3_total_3 : decode cX3_total 3 = .ok (.lstore_n 3, 1) := by decide +kernel
theorem dX3_total_4 : decode cX3_total 4 = .ok (.iconst 0, 1) := by decide +kernel
theorem dX3_total_5 : decode cX3_total 5 = .ok (.istore 5, 2) := by decide +kernel
theorem dX3_total_7 : decode cX3_total 7 = .ok (.iload 5, 2) := by decide +kernel
theorem dX3_total_9 : decode cX3_total 9 = .ok (.aload_n 0, 1) := by decide +kernel
theorem dX3_total_10 : decode cX3_total 10 = .ok (.getfield 49, 3) := by decide +kernel
theorem dX3_total_13 : decode cX3_total 13 = .ok (.arraylength, 1) := by decide +kernel
theorem dX3_total_14 : decode cX3_total 14 = .ok (.if_icmp .ge 27, 3) := by decide +kernel
theorem dX3_total_17 : decode cX3_total 17 = .ok (.lload_n 1, 1) := by decide +kernel
theorem dX3_total_18 : decode cX3_total 18 = .ok (.lload_n 3, 1) := by decide +kernel
theorem dX3_total_19 : decode cX3_total 19 = .ok (.aload_n 0, 1) := by decide +kernel
theorem dX3_total_20 : decode cX3_total 20 = .ok (.iload 5, 2) := by decide +kernel
theorem dX3_total_22 : decode cX3_total 22 = .ok (.invokevirtual 71, 3) := by decide +kernel
theorem dX3_total_25 : decode cX3_total 25 = .ok (.i2l, 1) := by decide +kernel
theorem dX3_total_26 : decode cX3_total 26 = .ok (.lmul, 1) := by decide +kernel
theorem dX3_total_27 : decode cX3_total 27 = .ok (.ladd, 1) := by decide +kernel
theorem dX3_total_28 : decode cX3_total 28 = .ok (.lstore_n 1, 1) := by decide +kernel
theorem dX3_total_29 : decode cX3_total 29 = .ok (.iinc 5 1, 3) := by decide +kernel
theorem dX3_total_32 : decode cX3_total 32 = .ok (.lload_n 3, 1) := by decide +kernel
theorem dX3_total_33 : decode cX3_total 33 = .ok (.ldc2_w 74, 3) := by decide +kernel
theorem dX3_total_36 : decode cX3_total 36 = .ok (.lmul, 1) := by decide +kernel
theorem dX3_total_37 : decode cX3_total 37 = .ok (.lstore_n 3, 1) := by decide +kernel
theorem dX3_total_38 : decode cX3_total 38 = .ok (.goto (-31), 3) := by decide +kernel
theorem dX3_total_41 : decode cX3_total 41 = .ok (.lload_n 1, 1) := by decide +kernel
theorem dX3_total_42 : decode cX3_total 42 = .ok (.lreturn, 1) := by decide +kernel
theorem dX3_isTidy_0 : decode cX3_isTidy 0 = .ok (.iconst 1, 1) := by decide +kernel
theorem dX3_isTidy_1 : decode cX3_isTidy 1 = .ok (.istore_n 1, 1) := by decide +kernel
theorem dX3_isTidy_2 : decode cX3_isTidy 2 = .ok (.iconst 0, 1) := by decide +kernel
theorem dX3_isTidy_3 : decode cX3_isTidy 3 = .ok (.istore_n 2, 1) := by decide +kernel
theorem dX3_isTidy_4 : decode cX3_isTidy 4 = .ok (.iload_n 2, 1) := by decide +kernel
theorem dX3_isTidy_5 : decode cX3_isTidy 5 = .ok (.aload_n 0, 1) := by decide +kernel
theorem dX3_isTidy_6 : decode cX3_isTidy 6 = .ok (.getfield 49, 3) := by decide +kernel
theorem dX3_isTidy_9 : decode cX3_isTidy 9 = .ok (.arraylength, 1) := by decide +kernel
theorem dX3_isTidy_10 : decode cX3_isTidy 10 = .ok (.if_icmp .ge 27, 3) := by decide +kernel
theorem dX3_isTidy_13 : decode cX3_isTidy 13 = .ok (.iload_n 1, 1) := by decide +kernel
theorem dX3_isTidy_14 : decode cX3_isTidy 14 = .ok (.aload_n 0, 1) := by decide +kernel
theorem dX3_isTidy_15 : decode cX3_isTidy 15 = .ok (.iload_n 2, 1) := by decide +kernel
theorem dX3_isTidy_16 : decode cX3_isTidy 16 = .ok (.invokevirtual 71, 3) := by decide +kernel
theorem dX3_isTidy_19 : decode cX3_isTidy 19 = .ok (.bipush 10, 2) := by decide +kernel
theorem dX3_isTidy_21 : decode cX3_isTidy 21 = .ok (.if_icmp .ge 7, 3) := by decide +kernel
theorem dX3_isTidy_24 : decode cX3_isTidy 24 = .ok (.iconst 1, 1) := by decide +kernel
theorem dX3_isTidy_25 : decode cX3_isTidy 25 = .ok (.goto 4, 3) := by decide +kernel
theorem dX3_isTidy_28 : decode cX3_isTidy 28 = .ok (.iconst 0, 1) := by decide +kernel
theorem dX3_isTidy_29 : decode cX3_isTidy 29 = .ok (.iand, 1) := by decide +kernel
theorem dX3_isTidy_30 : decode cX3_isTidy 30 = .ok (.istore_n 1, 1) := by decide +kernel
theorem dX3_isTidy_31 : decode cX3_isTidy 31 = .ok (.iinc 2 1, 3) := by decide +kernel
theorem dX3_isTidy_34 : decode cX3_isTidy 34 = .ok (.goto (-30), 3) := by decide +kernel
theorem dX3_isTidy_37 : decode cX3_isTidy 37 = .ok (.iload_n 1, 1) := by decide +kernel
theorem dX3_isTidy_38 : decode cX3_isTidy 38 = .ok (.ireturn, 1) := by decide +kernel
theorem dX3_keep_0 : decode cX3_keep 0 = .ok (.iconst 2, 1) := by decide +kernel
theorem dX3_keep_1 : decode cX3_keep 1 = .ok (.aload_n 0, 1) := by decide +kernel
theorem dX3_keep_2 : decode cX3_keep 2 = .ok (.getfield 49, 3) := by decide +kernel
theorem dX3_keep_5 : decode cX3_keep 5 = .ok (.arraylength, 1) := by decide +kernel
theorem dX3_keep_6 : decode cX3_keep 6 = .ok (.imul, 1) := by decide +kernel
theorem dX3_keep_7 : decode cX3_keep 7 = .ok (.newarray .int, 2) := by decide +kernel
theorem dX3_keep_9 : decode cX3_keep 9 = .ok (.astore_n 1, 1) := by decide +kernel
theorem dX3_keep_10 : decode cX3_keep 10 = .ok (.aload_n 0, 1) := by decide +kernel
theorem dX3_keep_11 : decode cX3_keep 11 = .ok (.getfield 49, 3) := by decide +kernel
theorem dX3_keep_14 : decode cX3_keep 14 = .ok (.iconst 0, 1) := by decide +kernel
theorem dX3_keep_15 : decode cX3_keep 15 = .ok (.aload_n 1, 1) := by decide +kernel
theorem dX3_keep_16 : decode cX3_keep 16 = .ok (.iconst 0, 1) := by decide +kernel
theorem dX3_keep_17 : decode cX3_keep 17 = .ok (.aload_n 0, 1) := by decide +kernel
theorem dX3_keep_18 : decode cX3_keep 18 = .ok (.getfield 49, 3) := by decide +kernel
theorem dX3_keep_21 : decode cX3_keep 21 = .ok (.arraylength, 1) := by decide +kernel
theorem dX3_keep_22 : decode cX3_keep 22 = .ok (.invokestatic 76, 3) := by decide +kernel
theorem dX3_keep_25 : decode cX3_keep 25 = .ok (.aload_n 0, 1) := by decide +kernel
theorem dX3_keep_26 : decode cX3_keep 26 = .ok (.getfield 52, 3) := by decide +kernel
theorem dX3_keep_29 : decode cX3_keep 29 = .ok (.iconst 0, 1) := by decide +kernel
theorem dX3_keep_30 : decode cX3_keep 30 = .ok (.aload_n 1, 1) := by decide +kernel
theorem dX3_keep_31 : decode cX3_keep 31 = .ok (.aload_n 0, 1) := by decide +kernel
theorem dX3_keep_32 : decode cX3_keep 32 = .ok (.getfield 49, 3) := by decide +kernel
theorem dX3_keep_35 : decode cX3_keep 35 = .ok (.arraylength, 1) := by decide +kernel
theorem dX3_keep_36 : decode cX3_keep 36 = .ok (.aload_n 0, 1) := by decide +kernel
theorem dX3_keep_37 : decode cX3_keep 37 = .ok (.getfield 49, 3) := by decide +kernel
theorem dX3_keep_40 : decode cX3_keep 40 = .ok (.arraylength, 1) := by decide +kernel
theorem dX3_keep_41 : decode cX3_keep 41 = .ok (.invokestatic 76, 3) := by decide +kernel
theorem dX3_keep_44 : decode cX3_keep 44 = .ok (.aload_n 0, 1) := by decide +kernel
theorem dX3_keep_45 : decode cX3_keep 45 = .ok (.getfield 9, 3) := by decide +kernel
theorem dX3_keep_48 : decode cX3_keep 48 = .ok (.arraylength, 1) := by decide +kernel
theorem dX3_keep_49 : decode cX3_keep 49 = .ok (.bipush 12, 2) := by decide +kernel
theorem dX3_keep_51 : decode cX3_keep 51 = .ok (.if_icmp .ne 7, 3) := by decide +kernel
theorem dX3_keep_54 : decode cX3_keep 54 = .ok (.iconst 1, 1) := by decide +kernel
theorem dX3_keep_55 : decode cX3_keep 55 = .ok (.goto 4, 3) := by decide +kernel
theorem dX3_keep_58 : decode cX3_keep 58 = .ok (.iconst 0, 1) := by decide +kernel
theorem dX3_keep_59 : decode cX3_keep 59 = .ok (.istore_n 2, 1) := by decide +kernel
theorem dX3_keep_60 : decode cX3_keep 60 = .ok (.aload_n 0, 1) := by decide +kernel
theorem dX3_keep_61 : decode cX3_keep 61 = .ok (.getfield 9, 3) := by decide +kernel
theorem dX3_keep_64 : decode cX3_keep 64 = .ok (.arraylength, 1) := by decide +kernel
theorem dX3_keep_65 : decode cX3_keep 65 = .ok (.iload_n 2, 1) := by decide +kernel
theorem dX3_keep_66 : decode cX3_keep 66 = .ok (.isub, 1) := by decide +kernel
theorem dX3_keep_67 : decode cX3_keep 67 = .ok (.iconst 1, 1) := by decide +kernel
theorem dX3_keep_68 : decode cX3_keep 68 = .ok (.iadd, 1) := by decide +kernel
theorem dX3_keep_69 : decode cX3_keep 69 = .ok (.anewarray 7, 3) := by decide +kernel
theorem dX3_keep_72 : decode cX3_keep 72 = .ok (.astore_n 3, 1) := by decide +kernel
theorem dX3_keep_73 : decode cX3_keep 73 = .ok (.aload_n 0, 1) := by decide +kernel
theorem dX3_keep_74 : decode cX3_keep 74 = .ok (.getfield 9, 3) := by decide +kernel
theorem dX3_keep_77 : decode cX3_keep 77 = .ok (.iload_n 2, 1) := by decide +kernel
theorem dX3_keep_78 : decode cX3_keep 78 = .ok (.aload_n 3, 1) := by decide +kernel
theorem dX3_keep_79 : decode cX3_keep 79 = .ok (.iconst 0, 1) := by decide +kernel
theorem dX3_keep_80 : decode cX3_keep 80 = .ok (.aload_n 0, 1) := by decide +kernel
theorem dX3_keep_81 : decode cX3_keep 81 = .ok (.getfield 9, 3) := by decide +kernel
theorem dX3_keep_84 : decode cX3_keep 84 = .ok (.arraylength, 1) := by decide +kernel
theorem dX3_keep_85 : decode cX3_keep 85 = .ok (.iload_n 2, 1) := by decide +kernel
theorem dX3_keep_86 : decode cX3_keep 86 = .ok (.isub, 1) := by decide +kernel
theorem dX3_keep_87 : decode cX3_keep 87 = .ok (.invokestatic 76, 3) := by decide +kernel
theorem dX3_keep_90 : decode cX3_keep 90 = .ok (.aload_n 3, 1) := by decide +kernel
theorem dX3_keep_91 : decode cX3_keep 91 = .ok (.aload_n 3, 1) := by decide +kernel
theorem dX3_keep_92 : decode cX3_keep 92 = .ok (.arraylength, 1) := by decide +kernel
theorem dX3_keep_93 : decode cX3_keep 93 = .ok (.iconst 1, 1) := by decide +kernel
theorem dX3_keep_94 : decode cX3_keep 94 = .ok (.isub, 1) := by decide +kernel
theorem dX3_keep_95 : decode cX3_keep 95 = .ok (.aload_n 1, 1) := by decide +kernel
theorem dX3_keep_96 : decode cX3_keep 96 = .ok (.aastore, 1) := by decide +kernel
theorem dX3_keep_97 : decode cX3_keep 97 = .ok (.aload_n 0, 1) := by decide +kernel
theorem dX3_keep_98 : decode cX3_keep 98 = .ok (.aload_n 3, 1) := by decide +kernel
theorem dX3_keep_99 : decode cX3_keep 99 = .ok (.putfield 9, 3) := by decide +kernel
theorem dX3_keep_102 : decode cX3_keep 102 = .ok (.return_, 1) := by decide +kernel
theorem dX3_move_0 : decode cX3_move 0 = .ok (.iload_n 3, 1) := by decide +kernel
theorem dX3_move_1 : decode cX3_move 1 = .ok (.ifCond .ne 4, 3) := by decide +kernel
theorem dX3_move_4 : decode cX3_move 4 = .ok (.return_, 1) := by decide +kernel
theorem dX3_move_5 : decode cX3_move 5 = .ok (.iload_n 3, 1) := by decide +kernel
theorem dX3_move_6 : decode cX3_move 6 = .ok (.invokestatic 82, 3) := by decide +kernel
theorem dX3_move_9 : decode cX3_move 9 = .ok (.istore 4, 2) := by decide +kernel
theorem dX3_move_11 : decode cX3_move 11 = .ok (.aload_n 0, 1) := by decide +kernel
theorem dX3_move_12 : decode cX3_move 12 = .ok (.dup, 1) := by decide +kernel
theorem dX3_move_13 : decode cX3_move 13 = .ok (.getfield 87, 3) := by decide +kernel
theorem dX3_move_16 : decode cX3_move 16 = .ok (.iconst 2, 1) := by decide +kernel
theorem dX3_move_17 : decode cX3_move 17 = .ok (.aload_n 0, 1) := by decide +kernel
theorem dX3_move_18 : decode cX3_move 18 = .ok (.getfield 91, 3) := by decide +kernel
theorem dX3_move_21 : decode cX3_move 21 = .ok (.iload_n 1, 1) := by decide +kernel
theorem dX3_move_22 : decode cX3_move 22 = .ok (.isub, 1) := by decide +kernel
theorem dX3_move_23 : decode cX3_move 23 = .ok (.invokestatic 82, 3) := by decide +kernel
theorem dX3_move_26 : decode cX3_move 26 = .ok (.imul, 1) := by decide +kernel
theorem dX3_move_27 : decode cX3_move 27 = .ok (.iconst 4, 1) := by decide +kernel
theorem dX3_move_28 : decode cX3_move 28 = .ok (.iload 4, 2) := by decide +kernel
theorem dX3_move_30 : decode cX3_move 30 = .ok (.iadd, 1) := by decide +kernel
theorem dX3_move_31 : decode cX3_move 31 = .ok (.aload_n 0, 1) := by decide +kernel
theorem dX3_move_32 : decode cX3_move 32 = .ok (.getfield 56, 3) := by decide +kernel
theorem dX3_move_35 : decode cX3_move 35 = .ok (.iload_n 2, 1) := by decide +kernel
theorem dX3_move_36 : decode cX3_move 36 = .ok (.aaload, 1) := by decide +kernel
theorem dX3_move_37 : decode cX3_move 37 = .ok (.iload_n 1, 1) := by decide +kernel
theorem dX3_move_38 : decode cX3_move 38 = .ok (.iaload, 1) := by decide +kernel
theorem dX3_move_39 : decode cX3_move 39 = .ok (.bipush 40, 2) := by decide +kernel
theorem dX3_move_41 : decode cX3_move 41 = .ok (.if_icmp .lt 7, 3) := by decide +kernel
theorem dX3_move_44 : decode cX3_move 44 = .ok (.iconst 2, 1) := by decide +kernel
theorem dX3_move_45 : decode cX3_move 45 = .ok (.goto 4, 3) := by decide +kernel
theorem dX3_move_48 : decode cX3_move 48 = .ok (.iconst 1, 1) := by decide +kernel
theorem dX3_move_49 : decode cX3_move 49 = .ok (.imul, 1) := by decide +kernel
theorem dX3_move_50 : decode cX3_move 50 = .ok (.iadd, 1) := by decide +kernel
theorem dX3_move_51 : decode cX3_move 51 = .ok (.i2l, 1) := by decide +kernel
theorem dX3_move_52 : decode cX3_move 52 = .ok (.ladd, 1) := by decide +kernel
theorem dX3_move_53 : decode cX3_move 53 = .ok (.putfield 87, 3) := by decide +kernel
theorem dX3_move_56 : decode cX3_move 56 = .ok (.aload_n 0, 1) := by decide +kernel
theorem dX3_move_57 : decode cX3_move 57 = .ok (.iload_n 1, 1) := by decide +kernel
theorem dX3_move_58 : decode cX3_move 58 = .ok (.putfield 91, 3) := by decide +kernel
theorem dX3_move_61 : decode cX3_move 61 = .ok (.aload_n 0, 1) := by decide +kernel
theorem dX3_move_62 : decode cX3_move 62 = .ok (.getfield 56, 3) := by decide +kernel
theorem dX3_move_65 : decode cX3_move 65 = .ok (.iload_n 2, 1) := by decide +kernel
theorem dX3_move_66 : decode cX3_move 66 = .ok (.aaload, 1) := by decide +kernel
theorem dX3_move_67 : decode cX3_move 67 = .ok (.iload_n 1, 1) := by decide +kernel
theorem dX3_move_68 : decode cX3_move 68 = .ok (.dup2, 1) := by decide +kernel
theorem dX3_move_69 : decode cX3_move 69 = .ok (.iaload, 1) := by decide +kernel
theorem dX3_move_70 : decode cX3_move 70 = .ok (.iload 4, 2) := by decide +kernel
theorem dX3_move_72 : decode cX3_move 72 = .ok (.iadd, 1) := by decide +kernel
theorem dX3_move_73 : decode cX3_move 73 = .ok (.iastore, 1) := by decide +kernel
theorem dX3_move_74 : decode cX3_move 74 = .ok (.aload_n 0, 1) := by decide +kernel
theorem dX3_move_75 : decode cX3_move 75 = .ok (.getfield 15, 3) := by decide +kernel
theorem dX3_move_78 : decode cX3_move 78 = .ok (.iconst 0, 1) := by decide +kernel
theorem dX3_move_79 : decode cX3_move 79 = .ok (.dup2, 1) := by decide +kernel
theorem dX3_move_80 : decode cX3_move 80 = .ok (.iaload, 1) := by decide +kernel
theorem dX3_move_81 : decode cX3_move 81 = .ok (.iconst 1, 1) := by decide +kernel
theorem dX3_move_82 : decode cX3_move 82 = .ok (.iadd, 1) := by decide +kernel
theorem dX3_move_83 : decode cX3_move 83 = .ok (.iastore, 1) := by decide +kernel
theorem dX3_move_84 : decode cX3_move 84 = .ok (.aload_n 0, 1) := by decide +kernel
theorem dX3_move_85 : decode cX3_move 85 = .ok (.getfield 15, 3) := by decide +kernel
theorem dX3_move_88 : decode cX3_move 88 = .ok (.iconst 1, 1) := by decide +kernel
theorem dX3_move_89 : decode cX3_move 89 = .ok (.dup2, 1) := by decide +kernel
theorem dX3_move_90 : decode cX3_move 90 = .ok (.iaload, 1) := by decide +kernel
theorem dX3_move_91 : decode cX3_move 91 = .ok (.iload 4, 2) := by decide +kernel
theorem dX3_move_93 : decode cX3_move 93 = .ok (.iadd, 1) := by decide +kernel
theorem dX3_move_94 : decode cX3_move 94 = .ok (.iastore, 1) := by decide +kernel
theorem dX3_move_95 : decode cX3_move 95 = .ok (.iload_n 2, 1) := by decide +kernel
theorem dX3_move_96 : decode cX3_move 96 = .ok (.ifCond .ne 16, 3) := by decide +kernel
theorem dX3_move_99 : decode cX3_move 99 = .ok (.aload_n 0, 1) := by decide +kernel
theorem dX3_move_100 : decode cX3_move 100 = .ok (.getfield 49, 3) := by decide +kernel
theorem dX3_move_103 : decode cX3_move 103 = .ok (.iload_n 1, 1) := by decide +kernel
theorem dX3_move_104 : decode cX3_move 104 = .ok (.dup2, 1) := by decide +kernel
theorem dX3_move_105 : decode cX3_move 105 = .ok (.iaload, 1) := by decide +kernel
theorem dX3_move_106 : decode cX3_move 106 = .ok (.iload_n 3, 1) := by decide +kernel
theorem dX3_move_107 : decode cX3_move 107 = .ok (.iadd, 1) := by decide +kernel
theorem dX3_move_108 : decode cX3_move 108 = .ok (.iastore, 1) := by decide +kernel
theorem dX3_move_109 : decode cX3_move 109 = .ok (.goto 13, 3) := by decide +kernel
theorem dX3_move_112 : decode cX3_move 112 = .ok (.aload_n 0, 1) := by decide +kernel
theorem dX3_move_113 : decode cX3_move 113 = .ok (.getfield 52, 3) := by decide +kernel
theorem dX3_move_116 : decode cX3_move 116 = .ok (.iload_n 1, 1) := by decide +kernel
theorem dX3_move_117 : decode cX3_move 117 = .ok (.dup2, 1) := by decide +kernel
theorem dX3_move_118 : decode cX3_move 118 = .ok (.iaload, 1) := by decide +kernel
theorem dX3_move_119 : decode cX3_move 119 = .ok (.iload_n 3, 1) := by decide +kernel
theorem dX3_move_120 : decode cX3_move 120 = .ok (.iadd, 1) := by decide +kernel
theorem dX3_move_121 : decode cX3_move 121 = .ok (.iastore, 1) := by decide +kernel
theorem dX3_move_122 : decode cX3_move 122 = .ok (.return_, 1) := by decide +kernel
theorem dX3_set_0 : decode cX3_set 0 = .ok (.iconst (-1), 1) := by decide +kernel
theorem dX3_set_1 : decode cX3_set 1 = .ok (.istore_n 3, 1) := by decide +kernel
theorem dX3_set_2 : decode cX3_set 2 = .ok (.aload_n 0, 1) := by decide +kernel
theorem dX3_set_3 : decode cX3_set 3 = .ok (.invokevirtual 64, 3) := by decide +kernel
theorem dX3_set_6 : decode cX3_set 6 = .ok (.istore 4, 2) := by decide +kernel
theorem dX3_set_8 : decode cX3_set 8 = .ok (.iload 4, 2) := by decide +kernel
theorem dX3_set_10 : decode cX3_set 10 = .ok (.ifCond .lt 110, 3) := by decide +kernel
theorem dX3_set_13 : decode cX3_set 13 = .ok (.iload_n 2, 1) := by decide +kernel
theorem dX3_set_14 : decode cX3_set 14 = .ok (.iconst 5, 1) := by decide +kernel
theorem dX3_set_15 : decode cX3_set 15 = .ok (.iload 4, 2) := by decide +kernel
theorem dX3_set_17 : decode cX3_set 17 = .ok (.imul, 1) := by decide +kernel
theorem dX3_set_18 : decode cX3_set 18 = .ok (.isub, 1) := by decide +kernel
theorem dX3_set_19 : decode cX3_set 19 = .ok (.istore 5, 2) := by decide +kernel
theorem dX3_set_21 : decode cX3_set 21 = .ok (.iload 5, 2) := by decide +kernel
theorem dX3_set_23 : decode cX3_set 23 = .ok (.ifCond .lt 91, 3) := by decide +kernel
theorem dX3_set_26 : decode cX3_set 26 = .ok (.iload 5, 2) := by decide +kernel
theorem dX3_set_28 : decode cX3_set 28 = .ok (.aload_n 0, 1) := by decide +kernel
theorem dX3_set_29 : decode cX3_set 29 = .ok (.invokevirtual 68, 3) := by decide +kernel
theorem dX3_set_32 : decode cX3_set 32 = .ok (.if_icmp .le 6, 3) := by decide +kernel
theorem dX3_set_35 : decode cX3_set 35 = .ok (.goto 79, 3) := by decide +kernel
theorem dX3_set_38 : decode cX3_set 38 = .ok (.iload_n 3, 1) := by decide +kernel
theorem dX3_set_39 : decode cX3_set 39 = .ok (.ifCond .lt 72, 3) := by decide +kernel
theorem dX3_set_42 : decode cX3_set 42 = .ok (.aload_n 0, 1) := by decide +kernel
theorem dX3_set_43 : decode cX3_set 43 = .ok (.iload_n 1, 1) := by decide +kernel
theorem dX3_set_44 : decode cX3_set 44 = .ok (.iload 4, 2) := by decide +kernel
theorem dX3_set_46 : decode cX3_set 46 = .ok (.iload 5, 2) := by decide +kernel
theorem dX3_set_48 : decode cX3_set 48 = .ok (.invokevirtual 94, 3) := by decide +kernel
theorem dX3_set_51 : decode cX3_set 51 = .ok (.aload_n 0, 1) := by decide +kernel
theorem dX3_set_52 : decode cX3_set 52 = .ok (.iload_n 1, 1) := by decide +kernel
theorem dX3_set_53 : decode cX3_set 53 = .ok (.iload_n 3, 1) := by decide +kernel
theorem dX3_set_54 : decode cX3_set 54 = .ok (.iload_n 2, 1) := by decide +kernel
theorem dX3_set_55 : decode cX3_set 55 = .ok (.iconst 5, 1) := by decide +kernel
theorem dX3_set_56 : decode cX3_set 56 = .ok (.iload_n 3, 1) := by decide +kernel
theorem dX3_set_57 : decode cX3_set 57 = .ok (.imul, 1) := by decide +kernel
theorem dX3_set_58 : decode cX3_set 58 = .ok (.isub, 1) := by decide +kernel
theorem dX3_set_59 : decode cX3_set 59 = .ok (.invokevirtual 94, 3) := by decide +kernel
theorem dX3_set_62 : decode cX3_set 62 = .ok (.if_icmp .lt 49, 3) := by decide +kernel
theorem dX3_set_65 : decode cX3_set 65 = .ok (.aload_n 0, 1) := by decide +kernel
theorem dX3_set_66 : decode cX3_set 66 = .ok (.iload_n 1, 1) := by decide +kernel
theorem dX3_set_67 : decode cX3_set 67 = .ok (.iload 4, 2) := by decide +kernel
theorem dX3_set_69 : decode cX3_set 69 = .ok (.iload 5, 2) := by decide +kernel
theorem dX3_set_71 : decode cX3_set 71 = .ok (.invokevirtual 94, 3) := by decide +kernel
theorem dX3_set_74 : decode cX3_set 74 = .ok (.aload_n 0, 1) := by decide +kernel
theorem dX3_set_75 : decode cX3_set 75 = .ok (.iload_n 1, 1) := by decide +kernel
theorem dX3_set_76 : decode cX3_set 76 = .ok (.iload_n 3, 1) := by decide +kernel
theorem dX3_set_77 : decode cX3_set 77 = .ok (.iload_n 2, 1) := by decide +kernel
theorem dX3_set_78 : decode cX3_set 78 = .ok (.iconst 5, 1) := by decide +kernel
theorem dX3_set_79 : decode cX3_set 79 = .ok (.iload_n 3, 1) := by decide +kernel
theorem dX3_set_80 : decode cX3_set 80 = .ok (.imul, 1) := by decide +kernel
theorem dX3_set_81 : decode cX3_set 81 = .ok (.isub, 1) := by decide +kernel
theorem dX3_set_82 : decode cX3_set 82 = .ok (.invokevirtual 94, 3) := by decide +kernel
theorem dX3_set_85 : decode cX3_set 85 = .ok (.if_icmp .ne 29, 3) := by decide +kernel
theorem dX3_set_88 : decode cX3_set 88 = .ok (.aload_n 0, 1) := by decide +kernel
theorem dX3_set_89 : decode cX3_set 89 = .ok (.iload_n 1, 1) := by decide +kernel
theorem dX3_set_90 : decode cX3_set 90 = .ok (.iload 4, 2) := by decide +kernel
theorem dX3_set_92 : decode cX3_set 92 = .ok (.iload 5, 2) := by decide +kernel
theorem dX3_set_94 : decode cX3_set 94 = .ok (.invokevirtual 98, 3) := by decide +kernel
theorem dX3_set_97 : decode cX3_set 97 = .ok (.aload_n 0, 1) := by decide +kernel
theorem dX3_set_98 : decode cX3_set 98 = .ok (.iload_n 1, 1) := by decide +kernel
theorem dX3_set_99 : decode cX3_set 99 = .ok (.iload_n 3, 1) := by decide +kernel
theorem dX3_set_100 : decode cX3_set 100 = .ok (.iload_n 2, 1) := by decide +kernel
theorem dX3_set_101 : decode cX3_set 101 = .ok (.iconst 5, 1) := by decide +kernel
theorem dX3_set_102 : decode cX3_set 102 = .ok (.iload_n 3, 1) := by decide +kernel
theorem dX3_set_103 : decode cX3_set 103 = .ok (.imul, 1) := by decide +kernel
theorem dX3_set_104 : decode cX3_set 104 = .ok (.isub, 1) := by decide +kernel
theorem dX3_set_105 : decode cX3_set 105 = .ok (.invokevirtual 98, 3) := by decide +kernel
theorem dX3_set_108 : decode cX3_set 108 = .ok (.if_icmp .ge 6, 3) := by decide +kernel
theorem dX3_set_111 : decode cX3_set 111 = .ok (.iload 4, 2) := by decide +kernel
theorem dX3_set_113 : decode cX3_set 113 = .ok (.istore_n 3, 1) := by decide +kernel
theorem dX3_set_114 : decode cX3_set 114 = .ok (.iinc 4 (-1), 3) := by decide +kernel
theorem dX3_set_117 : decode cX3_set 117 = .ok (.goto (-109), 3) := by decide +kernel
theorem dX3_set_120 : decode cX3_set 120 = .ok (.iload_n 2, 1) := by decide +kernel
theorem dX3_set_121 : decode cX3_set 121 = .ok (.iconst 5, 1) := by decide +kernel
theorem dX3_set_122 : decode cX3_set 122 = .ok (.iload_n 3, 1) := by decide +kernel
theorem dX3_set_123 : decode cX3_set 123 = .ok (.imul, 1) := by decide +kernel
theorem dX3_set_124 : decode cX3_set 124 = .ok (.isub, 1) := by decide +kernel
theorem dX3_set_125 : decode cX3_set 125 = .ok (.istore 4, 2) := by decide +kernel
theorem dX3_set_127 : decode cX3_set 127 = .ok (.aload_n 0, 1) := by decide +kernel
theorem dX3_set_128 : decode cX3_set 128 = .ok (.iload_n 1, 1) := by decide +kernel
theorem dX3_set_129 : decode cX3_set 129 = .ok (.iconst 0, 1) := by decide +kernel
theorem dX3_set_130 : decode cX3_set 130 = .ok (.iload_n 3, 1) := by decide +kernel
theorem dX3_set_131 : decode cX3_set 131 = .ok (.aload_n 0, 1) := by decide +kernel
theorem dX3_set_132 : decode cX3_set 132 = .ok (.getfield 49, 3) := by decide +kernel
theorem dX3_set_135 : decode cX3_set 135 = .ok (.iload_n 1, 1) := by decide +kernel
theorem dX3_set_136 : decode cX3_set 136 = .ok (.iaload, 1) := by decide +kernel
theorem dX3_set_137 : decode cX3_set 137 = .ok (.isub, 1) := by decide +kernel
theorem dX3_set_138 : decode cX3_set 138 = .ok (.invokevirtual 101, 3) := by decide +kernel
theorem dX3_set_141 : decode cX3_set 141 = .ok (.aload_n 0, 1) := by decide +kernel
theorem dX3_set_142 : decode cX3_set 142 = .ok (.iload_n 1, 1) := by decide +kernel
theorem dX3_set_143 : decode cX3_set 143 = .ok (.iconst 1, 1) := by decide +kernel
theorem dX3_set_144 : decode cX3_set 144 = .ok (.iload 4, 2) := by decide +kernel
theorem dX3_set_146 : decode cX3_set 146 = .ok (.aload_n 0, 1) := by decide +kernel
theorem dX3_set_147 : decode cX3_set 147 = .ok (.getfield 52, 3) := by decide +kernel
theorem dX3_set_150 : decode cX3_set 150 = .ok (.iload_n 1, 1) := by decide +kernel
theorem dX3_set_151 : decode cX3_set 151 = .ok (.iaload, 1) := by decide +kernel
theorem dX3_set_152 : decode cX3_set 152 = .ok (.isub, 1) := by decide +kernel
theorem dX3_set_153 : decode cX3_set 153 = .ok (.invokevirtual 101, 3) := by decide +kernel
theorem dX3_set_156 : decode cX3_set 156 = .ok (.return_, 1) := by decide +kernel
theorem dX3_pushes_0 : decode cX3_pushes 0 = .ok (.iload_n 2, 1) := by decide +kernel
theorem dX3_pushes_1 : decode cX3_pushes 1 = .ok (.aload_n 0, 1) := by decide +kernel
theorem dX3_pushes_2 : decode cX3_pushes 2 = .ok (.getfield 49, 3) := by decide +kernel
theorem dX3_pushes_5 : decode cX3_pushes 5 = .ok (.iload_n 1, 1) := by decide +kernel
theorem dX3_pushes_6 : decode cX3_pushes 6 = .ok (.iaload, 1) := by decide +kernel
theorem dX3_pushes_7 : decode cX3_pushes 7 = .ok (.if_icmp .ne 7, 3) := by decide +kernel
theorem dX3_pushes_10 : decode cX3_pushes 10 = .ok (.iconst 0, 1) := by decide +kernel
theorem dX3_pushes_11 : decode cX3_pushes 11 = .ok (.goto 4, 3) := by decide +kernel
theorem dX3_pushes_14 : decode cX3_pushes 14 = .ok (.iconst 1, 1) := by decide +kernel
theorem dX3_pushes_15 : decode cX3_pushes 15 = .ok (.iload_n 3, 1) := by decide +kernel
theorem dX3_pushes_16 : decode cX3_pushes 16 = .ok (.aload_n 0, 1) := by decide +kernel
theorem dX3_pushes_17 : decode cX3_pushes 17 = .ok (.getfield 52, 3) := by decide +kernel
theorem dX3_pushes_20 : decode cX3_pushes 20 = .ok (.iload_n 1, 1) := by decide +kernel
theorem dX3_pushes_21 : decode cX3_pushes 21 = .ok (.iaload, 1) := by decide +kernel
theorem dX3_pushes_22 : decode cX3_pushes 22 = .ok (.if_icmp .ne 7, 3) := by decide +kernel
theorem dX3_pushes_25 : decode cX3_pushes 25 = .ok (.iconst 0, 1) := by decide +kernel
theorem dX3_pushes_26 : decode cX3_pushes 26 = .ok (.goto 4, 3) := by decide +kernel
theorem dX3_pushes_29 : decode cX3_pushes 29 = .ok (.iconst 1, 1) := by decide +kernel
theorem dX3_pushes_30 : decode cX3_pushes 30 = .ok (.iadd, 1) := by decide +kernel
theorem dX3_pushes_31 : decode cX3_pushes 31 = .ok (.ireturn, 1) := by decide +kernel
theorem dX3_beads_0 : decode cX3_beads 0 = .ok (.iload_n 2, 1) := by decide +kernel
theorem dX3_beads_1 : decode cX3_beads 1 = .ok (.aload_n 0, 1) := by decide +kernel
theorem dX3_beads_2 : decode cX3_beads 2 = .ok (.getfield 49, 3) := by decide +kernel
theorem dX3_beads_5 : decode cX3_beads 5 = .ok (.iload_n 1, 1) := by decide +kernel
theorem dX3_beads_6 : decode cX3_beads 6 = .ok (.iaload, 1) := by decide +kernel
theorem dX3_beads_7 : decode cX3_beads 7 = .ok (.isub, 1) := by decide +kernel
theorem dX3_beads_8 : decode cX3_beads 8 = .ok (.invokestatic 82, 3) := by decide +kernel
theorem dX3_beads_11 : decode cX3_beads 11 = .ok (.iload_n 3, 1) := by decide +kernel
theorem dX3_beads_12 : decode cX3_beads 12 = .ok (.aload_n 0, 1) := by decide +kernel
theorem dX3_beads_13 : decode cX3_beads 13 = .ok (.getfield 52, 3) := by decide +kernel
theorem dX3_beads_16 : decode cX3_beads 16 = .ok (.iload_n 1, 1) := by decide +kernel
theorem dX3_beads_17 : decode cX3_beads 17 = .ok (.iaload, 1) := by decide +kernel
theorem dX3_beads_18 : decode cX3_beads 18 = .ok (.isub, 1) := by decide +kernel
theorem dX3_beads_19 : decode cX3_beads 19 = .ok (.invokestatic 82, 3) := by decide +kernel
theorem dX3_beads_22 : decode cX3_beads 22 = .ok (.iadd, 1) := by decide +kernel
theorem dX3_beads_23 : decode cX3_beads 23 = .ok (.ireturn, 1) := by decide +kernel
theorem dX3_bring_0 : decode cX3_bring 0 = .ok (.iload_n 2, 1) := by decide +kernel
theorem dX3_bring_1 : decode cX3_bring 1 = .ok (.istore_n 3, 1) := by decide +kernel
theorem dX3_bring_2 : decode cX3_bring 2 = .ok (.iload_n 1, 1) := by decide +kernel
theorem dX3_bring_3 : decode cX3_bring 3 = .ok (.istore 4, 2) := by decide +kernel
theorem dX3_bring_5 : decode cX3_bring 5 = .ok (.iload_n 3, 1) := by decide +kernel
theorem dX3_bring_6 : decode cX3_bring 6 = .ok (.ifCond .le 76, 3) := by decide +kernel
theorem dX3_bring_9 : decode cX3_bring 9 = .ok (.iload 4, 2) := by decide +kernel
theorem dX3_bring_11 : decode cX3_bring 11 = .ok (.aload_n 0, 1) := by decide +kernel
theorem dX3_bring_12 : decode cX3_bring 12 = .ok (.getfield 49, 3) := by decide +kernel
theorem dX3_bring_15 : decode cX3_bring 15 = .ok (.arraylength, 1) := by decide +kernel
theorem dX3_bring_16 : decode cX3_bring 16 = .ok (.if_icmp .lt 14, 3) := by decide +kernel
theorem dX3_bring_19 : decode cX3_bring 19 = .ok (.aload_n 0, 1) := by decide +kernel
theorem dX3_bring_20 : decode cX3_bring 20 = .ok (.getfield 15, 3) := by decide +kernel
theorem dX3_bring_23 : decode cX3_bring 23 = .ok (.iconst 4, 1) := by decide +kernel
theorem dX3_bring_24 : decode cX3_bring 24 = .ok (.dup2, 1) := by decide +kernel
theorem dX3_bring_25 : decode cX3_bring 25 = .ok (.iaload, 1) := by decide +kernel
theorem dX3_bring_26 : decode cX3_bring 26 = .ok (.iload_n 3, 1) := by decide +kernel
theorem dX3_bring_27 : decode cX3_bring 27 = .ok (.iadd, 1) := by decide +kernel
theorem dX3_bring_28 : decode cX3_bring 28 = .ok (.iastore, 1) := by decide +kernel
theorem dX3_bring_29 : decode cX3_bring 29 = .ok (.return_, 1) := by decide +kernel
theorem dX3_bring_30 : decode cX3_bring 30 = .ok (.aload_n 0, 1) := by decide +kernel
theorem dX3_bring_31 : decode cX3_bring 31 = .ok (.iload 4, 2) := by decide +kernel
theorem dX3_bring_33 : decode cX3_bring 33 = .ok (.invokevirtual 71, 3) := by decide +kernel
theorem dX3_bring_36 : decode cX3_bring 36 = .ok (.iload_n 3, 1) := by decide +kernel
theorem dX3_bring_37 : decode cX3_bring 37 = .ok (.iadd, 1) := by decide +kernel
theorem dX3_bring_38 : decode cX3_bring 38 = .ok (.istore 5, 2) := by decide +kernel
theorem dX3_bring_40 : decode cX3_bring 40 = .ok (.iload 5, 2) := by decide +kernel
theorem dX3_bring_42 : decode cX3_bring 42 = .ok (.bipush 9, 2) := by decide +kernel
theorem dX3_bring_44 : decode cX3_bring 44 = .ok (.if_icmp .le 7, 3) := by decide +kernel
theorem dX3_bring_47 : decode cX3_bring 47 = .ok (.iconst 1, 1) := by decide +kernel
theorem dX3_bring_48 : decode cX3_bring 48 = .ok (.goto 4, 3) := by decide +kernel
theorem dX3_bring_51 : decode cX3_bring 51 = .ok (.iconst 0, 1) := by decide +kernel
theorem dX3_bring_52 : decode cX3_bring 52 = .ok (.istore_n 3, 1) := by decide +kernel
theorem dX3_bring_53 : decode cX3_bring 53 = .ok (.aload_n 0, 1) := by decide +kernel
theorem dX3_bring_54 : decode cX3_bring 54 = .ok (.iload 4, 2) := by decide +kernel
theorem dX3_bring_56 : decode cX3_bring 56 = .ok (.iload 5, 2) := by decide +kernel
theorem dX3_bring_58 : decode cX3_bring 58 = .ok (.bipush 10, 2) := by decide +kernel
theorem dX3_bring_60 : decode cX3_bring 60 = .ok (.iload_n 3, 1) := by decide +kernel
theorem dX3_bring_61 : decode cX3_bring 61 = .ok (.imul, 1) := by decide +kernel
theorem dX3_bring_62 : decode cX3_bring 62 = .ok (.isub, 1) := by decide +kernel
theorem dX3_bring_63 : decode cX3_bring 63 = .ok (.invokevirtual 105, 3) := by decide +kernel
theorem dX3_bring_66 : decode cX3_bring 66 = .ok (.aload_n 0, 1) := by decide +kernel
theorem dX3_bring_67 : decode cX3_bring 67 = .ok (.getfield 15, 3) := by decide +kernel
theorem dX3_bring_70 : decode cX3_bring 70 = .ok (.iconst 2, 1) := by decide +kernel
theorem dX3_bring_71 : decode cX3_bring 71 = .ok (.dup2, 1) := by decide +kernel
theorem dX3_bring_72 : decode cX3_bring 72 = .ok (.iaload, 1) := by decide +kernel
theorem dX3_bring_73 : decode cX3_bring 73 = .ok (.iload_n 3, 1) := by decide +kernel
theorem dX3_bring_74 : decode cX3_bring 74 = .ok (.iadd, 1) := by decide +kernel
theorem dX3_bring_75 : decode cX3_bring 75 = .ok (.iastore, 1) := by decide +kernel
theorem dX3_bring_76 : decode cX3_bring 76 = .ok (.iinc 4 1, 3) := by decide +kernel
theorem dX3_bring_79 : decode cX3_bring 79 = .ok (.goto (-74), 3) := by decide +kernel
theorem dX3_bring_82 : decode cX3_bring 82 = .ok (.return_, 1) := by decide +kernel
theorem dX3_digits_0 : decode cX3_digits 0 = .ok (.iload_n 2, 1) := by decide +kernel
theorem dX3_digits_1 : decode cX3_digits 1 = .ok (.newarray .int, 2) := by decide +kernel
theorem dX3_digits_3 : decode cX3_digits 3 = .ok (.astore_n 3, 1) := by decide +kernel
theorem dX3_digits_4 : decode cX3_digits 4 = .ok (.lload_n 0, 1) := by decide +kernel
theorem dX3_digits_5 : decode cX3_digits 5 = .ok (.lstore 4, 2) := by decide +kernel
theorem dX3_digits_7 : decode cX3_digits 7 = .ok (.iconst 0, 1) := by decide +kernel
theorem dX3_digits_8 : decode cX3_digits 8 = .ok (.istore 6, 2) := by decide +kernel
theorem dX3_digits_10 : decode cX3_digits 10 = .ok (.iload 6, 2) := by decide +kernel
theorem dX3_digits_12 : decode cX3_digits 12 = .ok (.iload_n 2, 1) := by decide +kernel
theorem dX3_digits_13 : decode cX3_digits 13 = .ok (.if_icmp .ge 28, 3) := by decide +kernel
theorem dX3_digits_16 : decode cX3_digits 16 = .ok (.aload_n 3, 1) := by decide +kernel
theorem dX3_digits_17 : decode cX3_digits 17 = .ok (.iload 6, 2) := by decide +kernel
theorem dX3_digits_19 : decode cX3_digits 19 = .ok (.lload 4, 2) := by decide +kernel
theorem dX3_digits_21 : decode cX3_digits 21 = .ok (.ldc2_w 74, 3) := by decide +kernel
theorem dX3_digits_24 : decode cX3_digits 24 = .ok (.lrem, 1) := by decide +kernel
theorem dX3_digits_25 : decode cX3_digits 25 = .ok (.l2i, 1) := by decide +kernel
theorem dX3_digits_26 : decode cX3_digits 26 = .ok (.iastore, 1) := by decide +kernel
theorem dX3_digits_27 : decode cX3_digits 27 = .ok (.iinc 6 1, 3) := by decide +kernel
theorem dX3_digits_30 : decode cX3_digits 30 = .ok (.lload 4, 2) := by decide +kernel
theorem dX3_digits_32 : decode cX3_digits 32 = .ok (.ldc2_w 74, 3) := by decide +kernel
theorem dX3_digits_35 : decode cX3_digits 35 = .ok (.ldiv, 1) := by decide +kernel
theorem dX3_digits_36 : decode cX3_digits 36 = .ok (.lstore 4, 2) := by decide +kernel
theorem dX3_digits_38 : decode cX3_digits 38 = .ok (.goto (-28), 3) := by decide +kernel
theorem dX3_digits_41 : decode cX3_digits 41 = .ok (.aload_n 3, 1) := by decide +kernel
theorem dX3_digits_42 : decode cX3_digits 42 = .ok (.areturn, 1) := by decide +kernel
theorem dX3_adds_0 : decode cX3_adds 0 = .ok (.iload_n 1, 1) := by decide +kernel
theorem dX3_adds_1 : decode cX3_adds 1 = .ok (.i2l, 1) := by decide +kernel
theorem dX3_adds_2 : decode cX3_adds 2 = .ok (.aload_n 0, 1) := by decide +kernel
theorem dX3_adds_3 : decode cX3_adds 3 = .ok (.getfield 49, 3) := by decide +kernel
theorem dX3_adds_6 : decode cX3_adds 6 = .ok (.arraylength, 1) := by decide +kernel
theorem dX3_adds_7 : decode cX3_adds 7 = .ok (.invokestatic 109, 3) := by decide +kernel
theorem dX3_adds_10 : decode cX3_adds 10 = .ok (.astore_n 2, 1) := by decide +kernel
theorem dX3_adds_11 : decode cX3_adds 11 = .ok (.aload_n 0, 1) := by decide +kernel
theorem dX3_adds_12 : decode cX3_adds 12 = .ok (.getfield 49, 3) := by decide +kernel
theorem dX3_adds_15 : decode cX3_adds 15 = .ok (.arraylength, 1) := by decide +kernel
theorem dX3_adds_16 : decode cX3_adds 16 = .ok (.iconst 1, 1) := by decide +kernel
theorem dX3_adds_17 : decode cX3_adds 17 = .ok (.isub, 1) := by decide +kernel
theorem dX3_adds_18 : decode cX3_adds 18 = .ok (.istore_n 3, 1) := by decide +kernel
theorem dX3_adds_19 : decode cX3_adds 19 = .ok (.iload_n 3, 1) := by decide +kernel
theorem dX3_adds_20 : decode cX3_adds 20 = .ok (.ifCond .lt 17, 3) := by decide +kernel
theorem dX3_adds_23 : decode cX3_adds 23 = .ok (.aload_n 0, 1) := by decide +kernel
theorem dX3_adds_24 : decode cX3_adds 24 = .ok (.iload_n 3, 1) := by decide +kernel
theorem dX3_adds_25 : decode cX3_adds 25 = .ok (.aload_n 2, 1) := by decide +kernel
theorem dX3_adds_26 : decode cX3_adds 26 = .ok (.iload_n 3, 1) := by decide +kernel
theorem dX3_adds_27 : decode cX3_adds 27 = .ok (.iaload, 1) := by decide +kernel
theorem dX3_adds_28 : decode cX3_adds 28 = .ok (.invokevirtual 113, 3) := by decide +kernel
theorem dX3_adds_31 : decode cX3_adds 31 = .ok (.iinc 3 (-1), 3) := by decide +kernel
theorem dX3_adds_34 : decode cX3_adds 34 = .ok (.goto (-15), 3) := by decide +kernel
theorem dX3_adds_37 : decode cX3_adds 37 = .ok (.return_, 1) := by decide +kernel
theorem dX3_some_0 : decode cX3_some 0 = .ok (.iconst 1, 1) := by decide +kernel
theorem dX3_some_1 : decode cX3_some 1 = .ok (.aload_n 0, 1) := by decide +kernel
theorem dX3_some_2 : decode cX3_some 2 = .ok (.aload_n 0, 1) := by decide +kernel
theorem dX3_some_3 : decode cX3_some 3 = .ok (.getfield 49, 3) := by decide +kernel
theorem dX3_some_6 : decode cX3_some 6 = .ok (.arraylength, 1) := by decide +kernel
theorem dX3_some_7 : decode cX3_some 7 = .ok (.invokevirtual 42, 3) := by decide +kernel
theorem dX3_some_10 : decode cX3_some 10 = .ok (.iadd, 1) := by decide +kernel
theorem dX3_some_11 : decode cX3_some 11 = .ok (.istore_n 1, 1) := by decide +kernel
theorem dX3_some_12 : decode cX3_some 12 = .ok (.iconst 0, 1) := by decide +kernel
theorem dX3_some_13 : decode cX3_some 13 = .ok (.istore_n 2, 1) := by decide +kernel
theorem dX3_some_14 : decode cX3_some 14 = .ok (.iconst 0, 1) := by decide +kernel
theorem dX3_some_15 : decode cX3_some 15 = .ok (.istore_n 3, 1) := by decide +kernel
theorem dX3_some_16 : decode cX3_some 16 = .ok (.iload_n 3, 1) := by decide +kernel
theorem dX3_some_17 : decode cX3_some 17 = .ok (.iload_n 1, 1) := by decide +kernel
theorem dX3_some_18 : decode cX3_some 18 = .ok (.if_icmp .ge 33, 3) := by decide +kernel
theorem dX3_some_21 : decode cX3_some 21 = .ok (.bipush 10, 2) := by decide +kernel
theorem dX3_some_23 : decode cX3_some 23 = .ok (.iload_n 2, 1) := by decide +kernel
theorem dX3_some_24 : decode cX3_some 24 = .ok (.imul, 1) := by decide +kernel
theorem dX3_some_25 : decode cX3_some 25 = .ok (.aload_n 0, 1) := by decide +kernel
theorem dX3_some_26 : decode cX3_some 26 = .ok (.aload_n 0, 1) := by decide +kernel
theorem dX3_some_27 : decode cX3_some 27 = .ok (.iconst 3, 1) := by decide +kernel
theorem dX3_some_28 : decode cX3_some 28 = .ok (.invokevirtual 42, 3) := by decide +kernel
theorem dX3_some_31 : decode cX3_some 31 = .ok (.ifCond .ne 7, 3) := by decide +kernel
theorem dX3_some_34 : decode cX3_some 34 = .ok (.iconst 3, 1) := by decide +kernel
theorem dX3_some_35 : decode cX3_some 35 = .ok (.goto 5, 3) := by decide +kernel
theorem dX3_some_38 : decode cX3_some 38 = .ok (.bipush 10, 2) := by decide +kernel
theorem dX3_some_40 : decode cX3_some 40 = .ok (.invokevirtual 42, 3) := by decide +kernel
theorem dX3_some_43 : decode cX3_some 43 = .ok (.iadd, 1) := by decide +kernel
theorem dX3_some_44 : decode cX3_some 44 = .ok (.istore_n 2, 1) := by decide +kernel
theorem dX3_some_45 : decode cX3_some 45 = .ok (.iinc 3 1, 3) := by decide +kernel
theorem dX3_some_48 : decode cX3_some 48 = .ok (.goto (-32), 3) := by decide +kernel
theorem dX3_some_51 : decode cX3_some 51 = .ok (.iload_n 2, 1) := by decide +kernel
theorem dX3_some_52 : decode cX3_some 52 = .ok (.ireturn, 1) := by decide +kernel
theorem dX3_add_0 : decode cX3_add 0 = .ok (.aload_n 0, 1) := by decide +kernel
theorem dX3_add_1 : decode cX3_add 1 = .ok (.invokevirtual 116, 3) := by decide +kernel
theorem dX3_add_4 : decode cX3_add 4 = .ok (.istore_n 1, 1) := by decide +kernel
theorem dX3_add_5 : decode cX3_add 5 = .ok (.aload_n 0, 1) := by decide +kernel
theorem dX3_add_6 : decode cX3_add 6 = .ok (.getfield 15, 3) := by decide +kernel
theorem dX3_add_9 : decode cX3_add 9 = .ok (.iconst 0, 1) := by decide +kernel
theorem dX3_add_10 : decode cX3_add 10 = .ok (.iaload, 1) := by decide +kernel
theorem dX3_add_11 : decode cX3_add 11 = .ok (.istore_n 2, 1) := by decide +kernel
theorem dX3_add_12 : decode cX3_add 12 = .ok (.aload_n 0, 1) := by decide +kernel
theorem dX3_add_13 : decode cX3_add 13 = .ok (.invokevirtual 119, 3) := by decide +kernel
theorem dX3_add_16 : decode cX3_add 16 = .ok (.aload_n 0, 1) := by decide +kernel
theorem dX3_add_17 : decode cX3_add 17 = .ok (.iload_n 1, 1) := by decide +kernel
theorem dX3_add_18 : decode cX3_add 18 = .ok (.invokevirtual 122, 3) := by decide +kernel
theorem dX3_add_21 : decode cX3_add 21 = .ok (.aload_n 0, 1) := by decide +kernel
theorem dX3_add_22 : decode cX3_add 22 = .ok (.getfield 18, 3) := by decide +kernel
theorem dX3_add_25 : decode cX3_add 25 = .ok (.aload_n 0, 1) := by decide +kernel
theorem dX3_add_26 : decode cX3_add 26 = .ok (.getfield 39, 3) := by decide +kernel
theorem dX3_add_29 : decode cX3_add 29 = .ok (.iload_n 1, 1) := by decide +kernel
theorem dX3_add_30 : decode cX3_add 30 = .ok (.invokevirtual 126, 3) := by decide +kernel
theorem dX3_add_33 : decode cX3_add 33 = .ok (.aload_n 0, 1) := by decide +kernel
theorem dX3_add_34 : decode cX3_add 34 = .ok (.getfield 15, 3) := by decide +kernel
theorem dX3_add_37 : decode cX3_add 37 = .ok (.iconst 0, 1) := by decide +kernel
theorem dX3_add_38 : decode cX3_add 38 = .ok (.iaload, 1) := by decide +kernel
theorem dX3_add_39 : decode cX3_add 39 = .ok (.iload_n 2, 1) := by decide +kernel
theorem dX3_add_40 : decode cX3_add 40 = .ok (.isub, 1) := by decide +kernel
theorem dX3_add_41 : decode cX3_add 41 = .ok (.if_icmp .ne 7, 3) := by decide +kernel
theorem dX3_add_44 : decode cX3_add 44 = .ok (.iconst 1, 1) := by decide +kernel
theorem dX3_add_45 : decode cX3_add 45 = .ok (.goto 4, 3) := by decide +kernel
theorem dX3_add_48 : decode cX3_add 48 = .ok (.iconst 0, 1) := by decide +kernel
theorem dX3_add_49 : decode cX3_add 49 = .ok (.ireturn, 1) := by decide +kernel
theorem dX3_off_0 : decode cX3_off 0 = .ok (.aload_n 0, 1) := by decide +kernel
theorem dX3_off_1 : decode cX3_off 1 = .ok (.iconst 2, 1) := by decide +kernel
theorem dX3_off_2 : decode cX3_off 2 = .ok (.invokevirtual 42, 3) := by decide +kernel
theorem dX3_off_5 : decode cX3_off 5 = .ok (.ifCond .ne 10, 3) := by decide +kernel
theorem dX3_off_8 : decode cX3_off 8 = .ok (.aload_n 0, 1) := by decide +kernel
theorem dX3_off_9 : decode cX3_off 9 = .ok (.invokevirtual 116, 3) := by decide +kernel
theorem dX3_off_12 : decode cX3_off 12 = .ok (.goto 18, 3) := by decide +kernel
theorem dX3_off_15 : decode cX3_off 15 = .ok (.aload_n 0, 1) := by decide +kernel
theorem dX3_off_16 : decode cX3_off 16 = .ok (.invokevirtual 129, 3) := by decide +kernel
theorem dX3_off_19 : decode cX3_off 19 = .ok (.iconst 1, 1) := by decide +kernel
theorem dX3_off_20 : decode cX3_off 20 = .ok (.aload_n 0, 1) := by decide +kernel
theorem dX3_off_21 : decode cX3_off 21 = .ok (.bipush 9, 2) := by decide +kernel
theorem dX3_off_23 : decode cX3_off 23 = .ok (.invokevirtual 42, 3) := by decide +kernel
theorem dX3_off_26 : decode cX3_off 26 = .ok (.iadd, 1) := by decide +kernel
theorem dX3_off_27 : decode cX3_off 27 = .ok (.i2l, 1) := by decide +kernel
theorem dX3_off_28 : decode cX3_off 28 = .ok (.ldiv, 1) := by decide +kernel
theorem dX3_off_29 : decode cX3_off 29 = .ok (.l2i, 1) := by decide +kernel
theorem dX3_off_30 : decode cX3_off 30 = .ok (.istore_n 1, 1) := by decide +kernel
theorem dX3_off_31 : decode cX3_off 31 = .ok (.iload_n 1, 1) := by decide +kernel
theorem dX3_off_32 : decode cX3_off 32 = .ok (.ldc 133, 2) := by decide +kernel
theorem dX3_off_34 : decode cX3_off 34 = .ok (.if_icmp .gt 19, 3) := by decide +kernel
theorem dX3_off_37 : decode cX3_off 37 = .ok (.iload_n 1, 1) := by decide +kernel
theorem dX3_off_38 : decode cX3_off 38 = .ok (.i2l, 1) := by decide +kernel
theorem dX3_off_39 : decode cX3_off 39 = .ok (.bipush 10, 2) := by decide +kernel
theorem dX3_off_41 : decode cX3_off 41 = .ok (.invokestatic 109, 3) := by decide +kernel
theorem dX3_off_44 : decode cX3_off 44 = .ok (.aload_n 0, 1) := by decide +kernel
theorem dX3_off_45 : decode cX3_off 45 = .ok (.getfield 49, 3) := by decide +kernel
theorem dX3_off_48 : decode cX3_off 48 = .ok (.arraylength, 1) := by decide +kernel
theorem dX3_off_49 : decode cX3_off 49 = .ok (.iaload, 1) := by decide +kernel
theorem dX3_off_50 : decode cX3_off 50 = .ok (.ifCond .le 5, 3) := by decide +kernel
theorem dX3_off_53 : decode cX3_off 53 = .ok (.iconst 1, 1) := by decide +kernel
theorem dX3_off_54 : decode cX3_off 54 = .ok (.ireturn, 1) := by decide +kernel
theorem dX3_off_55 : decode cX3_off 55 = .ok (.aload_n 0, 1) := by decide +kernel
theorem dX3_off_56 : decode cX3_off 56 = .ok (.invokevirtual 134, 3) := by decide +kernel
theorem dX3_off_59 : decode cX3_off 59 = .ok (.ifCond .eq 13, 3) := by decide +kernel
theorem dX3_off_62 : decode cX3_off 62 = .ok (.iload_n 1, 1) := by decide +kernel
theorem dX3_off_63 : decode cX3_off 63 = .ok (.i2l, 1) := by decide +kernel
theorem dX3_off_64 : decode cX3_off 64 = .ok (.aload_n 0, 1) := by decide +kernel
theorem dX3_off_65 : decode cX3_off 65 = .ok (.invokevirtual 129, 3) := by decide +kernel
theorem dX3_off_68 : decode cX3_off 68 = .ok (.lcmp, 1) := by decide +kernel
theorem dX3_off_69 : decode cX3_off 69 = .ok (.ifCond .le 26, 3) := by decide +kernel
theorem dX3_off_72 : decode cX3_off 72 = .ok (.aload_n 0, 1) := by decide +kernel
theorem dX3_off_73 : decode cX3_off 73 = .ok (.getfield 18, 3) := by decide +kernel
theorem dX3_off_76 : decode cX3_off 76 = .ok (.aload_n 0, 1) := by decide +kernel
theorem dX3_off_77 : decode cX3_off 77 = .ok (.getfield 39, 3) := by decide +kernel
theorem dX3_off_80 : decode cX3_off 80 = .ok (.iload_n 1, 1) := by decide +kernel
theorem dX3_off_81 : decode cX3_off 81 = .ok (.invokevirtual 138, 3) := by decide +kernel
theorem dX3_off_84 : decode cX3_off 84 = .ok (.bipush (-2), 2) := by decide +kernel
theorem dX3_off_86 : decode cX3_off 86 = .ok (.if_icmp .ne 7, 3) := by decide +kernel
theorem dX3_off_89 : decode cX3_off 89 = .ok (.iconst 1, 1) := by decide +kernel
theorem dX3_off_90 : decode cX3_off 90 = .ok (.goto 4, 3) := by decide +kernel
theorem dX3_off_93 : decode cX3_off 93 = .ok (.iconst 0, 1) := by decide +kernel
theorem dX3_off_94 : decode cX3_off 94 = .ok (.ireturn, 1) := by decide +kernel
theorem dX3_off_95 : decode cX3_off 95 = .ok (.aload_n 0, 1) := by decide +kernel
theorem dX3_off_96 : decode cX3_off 96 = .ok (.getfield 15, 3) := by decide +kernel
theorem dX3_off_99 : decode cX3_off 99 = .ok (.iconst 0, 1) := by decide +kernel
theorem dX3_off_100 : decode cX3_off 100 = .ok (.iaload, 1) := by decide +kernel
theorem dX3_off_101 : decode cX3_off 101 = .ok (.istore_n 2, 1) := by decide +kernel
theorem dX3_off_102 : decode cX3_off 102 = .ok (.aload_n 0, 1) := by decide +kernel
theorem dX3_off_103 : decode cX3_off 103 = .ok (.invokevirtual 119, 3) := by decide +kernel
theorem dX3_off_106 : decode cX3_off 106 = .ok (.iload_n 1, 1) := by decide +kernel
theorem dX3_off_107 : decode cX3_off 107 = .ok (.i2l, 1) := by decide +kernel
theorem dX3_off_108 : decode cX3_off 108 = .ok (.aload_n 0, 1) := by decide +kernel
theorem dX3_off_109 : decode cX3_off 109 = .ok (.getfield 49, 3) := by decide +kernel
theorem dX3_off_112 : decode cX3_off 112 = .ok (.arraylength, 1) := by decide +kernel
theorem dX3_off_113 : decode cX3_off 113 = .ok (.invokestatic 109, 3) := by decide +kernel
theorem dX3_off_116 : decode cX3_off 116 = .ok (.astore_n 3, 1) := by decide +kernel
theorem dX3_off_117 : decode cX3_off 117 = .ok (.aload_n 0, 1) := by decide +kernel
theorem dX3_off_118 : decode cX3_off 118 = .ok (.getfield 49, 3) := by decide +kernel
theorem dX3_off_121 : decode cX3_off 121 = .ok (.arraylength, 1) := by decide +kernel
theorem dX3_off_122 : decode cX3_off 122 = .ok (.iconst 1, 1) := by decide +kernel
theorem dX3_off_123 : decode cX3_off 123 = .ok (.isub, 1) := by decide +kernel
theorem dX3_off_124 : decode cX3_off 124 = .ok (.istore 4, 2) := by decide +kernel
theorem dX3_off_126 : decode cX3_off 126 = .ok (.iload 4, 2) := by decide +kernel
theorem dX3_off_128 : decode cX3_off 128 = .ok (.ifCond .lt 110, 3) := by decide +kernel
theorem dX3_off_131 : decode cX3_off 131 = .ok (.aload_n 0, 1) := by decide +kernel
theorem dX3_off_132 : decode cX3_off 132 = .ok (.iload 4, 2) := by decide +kernel
theorem dX3_off_134 : decode cX3_off 134 = .ok (.invokevirtual 71, 3) := by decide +kernel
theorem dX3_off_137 : decode cX3_off 137 = .ok (.aload_n 3, 1) := by decide +kernel
theorem dX3_off_138 : decode cX3_off 138 = .ok (.iload 4, 2) := by decide +kernel
theorem dX3_off_140 : decode cX3_off 140 = .ok (.iaload, 1) := by decide +kernel
theorem dX3_off_141 : decode cX3_off 141 = .ok (.isub, 1) := by decide +kernel
theorem dX3_off_142 : decode cX3_off 142 = .ok (.istore 5, 2) := by decide +kernel
theorem dX3_off_144 : decode cX3_off 144 = .ok (.iload 5, 2) := by decide +kernel
theorem dX3_off_146 : decode cX3_off 146 = .ok (.ifCond .ge 78, 3) := by decide +kernel
theorem dX3_off_149 : decode cX3_off 149 = .ok (.iload 4, 2) := by decide +kernel
theorem dX3_off_151 : decode cX3_off 151 = .ok (.iconst 1, 1) := by decide +kernel
theorem dX3_off_152 : decode cX3_off 152 = .ok (.iadd, 1) := by decide +kernel
theorem dX3_off_153 : decode cX3_off 153 = .ok (.istore 6, 2) := by decide +kernel
theorem dX3_off_155 : decode cX3_off 155 = .ok (.aload_n 0, 1) := by decide +kernel
theorem dX3_off_156 : decode cX3_off 156 = .ok (.iload 6, 2) := by decide +kernel
theorem dX3_off_158 : decode cX3_off 158 = .ok (.invokevirtual 71, 3) := by decide +kernel
theorem dX3_off_161 : decode cX3_off 161 = .ok (.ifCond .ne 9, 3) := by decide +kernel
theorem dX3_off_164 : decode cX3_off 164 = .ok (.iinc 6 1, 3) := by decide +kernel
theorem dX3_off_167 : decode cX3_off 167 = .ok (.goto (-12), 3) := by decide +kernel
theorem dX3_off_170 : decode cX3_off 170 = .ok (.aload_n 0, 1) := by decide +kernel
theorem dX3_off_171 : decode cX3_off 171 = .ok (.iload 6, 2) := by decide +kernel
theorem dX3_off_173 : decode cX3_off 173 = .ok (.aload_n 0, 1) := by decide +kernel
theorem dX3_off_174 : decode cX3_off 174 = .ok (.iload 6, 2) := by decide +kernel
theorem dX3_off_176 : decode cX3_off 176 = .ok (.invokevirtual 71, 3) := by decide +kernel
theorem dX3_off_179 : decode cX3_off 179 = .ok (.iconst 1, 1) := by decide +kernel
theorem dX3_off_180 : decode cX3_off 180 = .ok (.isub, 1) := by decide +kernel
theorem dX3_off_181 : decode cX3_off 181 = .ok (.invokevirtual 105, 3) := by decide +kernel
theorem dX3_off_184 : decode cX3_off 184 = .ok (.iload 6, 2) := by decide +kernel
theorem dX3_off_186 : decode cX3_off 186 = .ok (.iconst 1, 1) := by decide +kernel
theorem dX3_off_187 : decode cX3_off 187 = .ok (.isub, 1) := by decide +kernel
theorem dX3_off_188 : decode cX3_off 188 = .ok (.istore 7, 2) := by decide +kernel
theorem dX3_off_190 : decode cX3_off 190 = .ok (.iload 7, 2) := by decide +kernel
theorem dX3_off_192 : decode cX3_off 192 = .ok (.iload 4, 2) := by decide +kernel
theorem dX3_off_194 : decode cX3_off 194 = .ok (.if_icmp .le 17, 3) := by decide +kernel
theorem dX3_off_197 : decode cX3_off 197 = .ok (.aload_n 0, 1) := by decide +kernel
theorem dX3_off_198 : decode cX3_off 198 = .ok (.iload 7, 2) := by decide +kernel
theorem dX3_off_200 : decode cX3_off 200 = .ok (.bipush 9, 2) := by decide +kernel
theorem dX3_off_202 : decode cX3_off 202 = .ok (.invokevirtual 105, 3) := by decide +kernel
theorem dX3_off_205 : decode cX3_off 205 = .ok (.iinc 7 (-1), 3) := by decide +kernel
theorem dX3_off_208 : decode cX3_off 208 = .ok (.goto (-18), 3) := by decide +kernel
theorem dX3_off_211 : decode cX3_off 211 = .ok (.iinc 5 10, 3) := by decide +kernel
theorem dX3_off_214 : decode cX3_off 214 = .ok (.aload_n 0, 1) := by decide +kernel
theorem dX3_off_215 : decode cX3_off 215 = .ok (.getfield 15, 3) := by decide +kernel
theorem dX3_off_218 : decode cX3_off 218 = .ok (.iconst 3, 1) := by decide +kernel
theorem dX3_off_219 : decode cX3_off 219 = .ok (.dup2, 1) := by decide +kernel
theorem dX3_off_220 : decode cX3_off 220 = .ok (.iaload, 1) := by decide +kernel
theorem dX3_off_221 : decode cX3_off 221 = .ok (.iconst 1, 1) := by decide +kernel
theorem dX3_off_222 : decode cX3_off 222 = .ok (.iadd, 1) := by decide +kernel
theorem dX3_off_223 : decode cX3_off 223 = .ok (.iastore, 1) := by decide +kernel
theorem dX3_off_224 : decode cX3_off 224 = .ok (.aload_n 0, 1) := by decide +kernel
theorem dX3_off_225 : decode cX3_off 225 = .ok (.iload 4, 2) := by decide +kernel
theorem dX3_off_227 : decode cX3_off 227 = .ok (.iload 5, 2) := by decide +kernel
theorem dX3_off_229 : decode cX3_off 229 = .ok (.invokevirtual 105, 3) := by decide +kernel
theorem dX3_off_232 : decode cX3_off 232 = .ok (.iinc 4 (-1), 3) := by decide +kernel
theorem dX3_off_235 : decode cX3_off 235 = .ok (.goto (-109), 3) := by decide +kernel
theorem dX3_off_238 : decode cX3_off 238 = .ok (.aload_n 0, 1) := by decide +kernel
theorem dX3_off_239 : decode cX3_off 239 = .ok (.getfield 18, 3) := by decide +kernel
theorem dX3_off_242 : decode cX3_off 242 = .ok (.aload_n 0, 1) := by decide +kernel
theorem dX3_off_243 : decode cX3_off 243 = .ok (.getfield 39, 3) := by decide +kernel
theorem dX3_off_246 : decode cX3_off 246 = .ok (.iload_n 1, 1) := by decide +kernel
theorem dX3_off_247 : decode cX3_off 247 = .ok (.invokevirtual 138, 3) := by decide +kernel
theorem dX3_off_250 : decode cX3_off 250 = .ok (.aload_n 0, 1) := by decide +kernel
theorem dX3_off_251 : decode cX3_off 251 = .ok (.getfield 15, 3) := by decide +kernel
theorem dX3_off_254 : decode cX3_off 254 = .ok (.iconst 0, 1) := by decide +kernel
theorem dX3_off_255 : decode cX3_off 255 = .ok (.iaload, 1) := by decide +kernel
theorem dX3_off_256 : decode cX3_off 256 = .ok (.iload_n 2, 1) := by decide +kernel
theorem dX3_off_257 : decode cX3_off 257 = .ok (.isub, 1) := by decide +kernel
theorem dX3_off_258 : decode cX3_off 258 = .ok (.if_icmp .ne 7, 3) := by decide +kernel
theorem dX3_off_261 : decode cX3_off 261 = .ok (.iconst 1, 1) := by decide +kernel
theorem dX3_off_262 : decode cX3_off 262 = .ok (.goto 4, 3) := by decide +kernel
theorem dX3_off_265 : decode cX3_off 265 = .ok (.iconst 0, 1) := by decide +kernel
theorem dX3_off_266 : decode cX3_off 266 = .ok (.ireturn, 1) := by decide +kernel
theorem dX3_times_0 : decode cX3_times 0 = .ok (.aload_n 0, 1) := by decide +kernel
theorem dX3_times_1 : decode cX3_times 1 = .ok (.bipush 10, 2) := by decide +kernel
theorem dX3_times_3 : decode cX3_times 3 = .ok (.invokevirtual 42, 3) := by decide +kernel
theorem dX3_times_6 : decode cX3_times 6 = .ok (.istore_n 1, 1) := by decide +kernel
theorem dX3_times_7 : decode cX3_times 7 = .ok (.aload_n 0, 1) := by decide +kernel
theorem dX3_times_8 : decode cX3_times 8 = .ok (.getfield 15, 3) := by decide +kernel
theorem dX3_times_11 : decode cX3_times 11 = .ok (.iconst 4, 1) := by decide +kernel
theorem dX3_times_12 : decode cX3_times 12 = .ok (.iaload, 1) := by decide +kernel
theorem dX3_times_13 : decode cX3_times 13 = .ok (.istore_n 2, 1) := by decide +kernel
theorem dX3_times_14 : decode cX3_times 14 = .ok (.aload_n 0, 1) := by decide +kernel
theorem dX3_times_15 : decode cX3_times 15 = .ok (.invokevirtual 119, 3) := by decide +kernel
theorem dX3_times_18 : decode cX3_times 18 = .ok (.aload_n 0, 1) := by decide +kernel
theorem dX3_times_19 : decode cX3_times 19 = .ok (.getfield 49, 3) := by decide +kernel
theorem dX3_times_22 : decode cX3_times 22 = .ok (.arraylength, 1) := by decide +kernel
theorem dX3_times_23 : decode cX3_times 23 = .ok (.iconst 1, 1) := by decide +kernel
theorem dX3_times_24 : decode cX3_times 24 = .ok (.isub, 1) := by decide +kernel
theorem dX3_times_25 : decode cX3_times 25 = .ok (.istore_n 3, 1) := by decide +kernel
theorem dX3_times_26 : decode cX3_times 26 = .ok (.iload_n 3, 1) := by decide +kernel
theorem dX3_times_27 : decode cX3_times 27 = .ok (.ifCond .lt 57, 3) := by decide +kernel
theorem dX3_times_30 : decode cX3_times 30 = .ok (.iload_n 1, 1) := by decide +kernel
theorem dX3_times_31 : decode cX3_times 31 = .ok (.aload_n 0, 1) := by decide +kernel
theorem dX3_times_32 : decode cX3_times 32 = .ok (.iload_n 3, 1) := by decide +kernel
theorem dX3_times_33 : decode cX3_times 33 = .ok (.invokevirtual 71, 3) := by decide +kernel
theorem dX3_times_36 : decode cX3_times 36 = .ok (.imul, 1) := by decide +kernel
theorem dX3_times_37 : decode cX3_times 37 = .ok (.i2l, 1) := by decide +kernel
theorem dX3_times_38 : decode cX3_times 38 = .ok (.iconst 3, 1) := by decide +kernel
theorem dX3_times_39 : decode cX3_times 39 = .ok (.invokestatic 109, 3) := by decide +kernel
theorem dX3_times_42 : decode cX3_times 42 = .ok (.astore 4, 2) := by decide +kernel
theorem dX3_times_44 : decode cX3_times 44 = .ok (.aload_n 0, 1) := by decide +kernel
theorem dX3_times_45 : decode cX3_times 45 = .ok (.iload_n 3, 1) := by decide +kernel
theorem dX3_times_46 : decode cX3_times 46 = .ok (.iconst 0, 1) := by decide +kernel
theorem dX3_times_47 : decode cX3_times 47 = .ok (.invokevirtual 105, 3) := by decide +kernel
theorem dX3_times_50 : decode cX3_times 50 = .ok (.iconst 0, 1) := by decide +kernel
theorem dX3_times_51 : decode cX3_times 51 = .ok (.istore 5, 2) := by decide +kernel
theorem dX3_times_53 : decode cX3_times 53 = .ok (.iload 5, 2) := by decide +kernel
theorem dX3_times_55 : decode cX3_times 55 = .ok (.iconst 3, 1) := by decide +kernel
theorem dX3_times_56 : decode cX3_times 56 = .ok (.if_icmp .ge 22, 3) := by decide +kernel
theorem dX3_times_59 : decode cX3_times 59 = .ok (.aload_n 0, 1) := by decide +kernel
theorem dX3_times_60 : decode cX3_times 60 = .ok (.iload_n 3, 1) := by decide +kernel
theorem dX3_times_61 : decode cX3_times 61 = .ok (.iload 5, 2) := by decide +kernel
theorem dX3_times_63 : decode cX3_times 63 = .ok (.iadd, 1) := by decide +kernel
theorem dX3_times_64 : decode cX3_times 64 = .ok (.aload 4, 2) := by decide +kernel
theorem dX3_times_66 : decode cX3_times 66 = .ok (.iload 5, 2) := by decide +kernel
theorem dX3_times_68 : decode cX3_times 68 = .ok (.iaload, 1) := by decide +kernel
theorem dX3_times_69 : decode cX3_times 69 = .ok (.invokevirtual 113, 3) := by decide +kernel
theorem dX3_times_72 : decode cX3_times 72 = .ok (.iinc 5 1, 3) := by decide +kernel
theorem dX3_times_75 : decode cX3_times 75 = .ok (.goto (-22), 3) := by decide +kernel
theorem dX3_times_78 : decode cX3_times 78 = .ok (.iinc 3 (-1), 3) := by decide +kernel
theorem dX3_times_81 : decode cX3_times 81 = .ok (.goto (-55), 3) := by decide +kernel
theorem dX3_times_84 : decode cX3_times 84 = .ok (.aload_n 0, 1) := by decide +kernel
theorem dX3_times_85 : decode cX3_times 85 = .ok (.getfield 18, 3) := by decide +kernel
theorem dX3_times_88 : decode cX3_times 88 = .ok (.aload_n 0, 1) := by decide +kernel
theorem dX3_times_89 : decode cX3_times 89 = .ok (.getfield 39, 3) := by decide +kernel
theorem dX3_times_92 : decode cX3_times 92 = .ok (.iload_n 1, 1) := by decide +kernel
theorem dX3_times_93 : decode cX3_times 93 = .ok (.invokevirtual 141, 3) := by decide +kernel
theorem dX3_times_96 : decode cX3_times 96 = .ok (.aload_n 0, 1) := by decide +kernel
theorem dX3_times_97 : decode cX3_times 97 = .ok (.getfield 15, 3) := by decide +kernel
theorem dX3_times_100 : decode cX3_times 100 = .ok (.iconst 4, 1) := by decide +kernel
theorem dX3_times_101 : decode cX3_times 101 = .ok (.iaload, 1) := by decide +kernel
theorem dX3_times_102 : decode cX3_times 102 = .ok (.iload_n 2, 1) := by decide +kernel
theorem dX3_times_103 : decode cX3_times 103 = .ok (.isub, 1) := by decide +kernel
theorem dX3_times_104 : decode cX3_times 104 = .ok (.if_icmp .ne 7, 3) := by decide +kernel
theorem dX3_times_107 : decode cX3_times 107 = .ok (.iconst 1, 1) := by decide +kernel
theorem dX3_times_108 : decode cX3_times 108 = .ok (.goto 4, 3) := by decide +kernel
theorem dX3_times_111 : decode cX3_times 111 = .ok (.iconst 0, 1) := by decide +kernel
theorem dX3_times_112 : decode cX3_times 112 = .ok (.ireturn, 1) := by decide +kernel
theorem dX3_divide_0 : decode cX3_divide 0 = .ok (.iconst 1, 1) := by decide +kernel
theorem dX3_divide_1 : decode cX3_divide 1 = .ok (.aload_n 0, 1) := by decide +kernel
theorem dX3_divide_2 : decode cX3_divide 2 = .ok (.bipush 9, 2) := by decide +kernel
theorem dX3_divide_4 : decode cX3_divide 4 = .ok (.invokevirtual 42, 3) := by decide +kernel
theorem dX3_divide_7 : decode cX3_divide 7 = .ok (.iadd, 1) := by decide +kernel
theorem dX3_divide_8 : decode cX3_divide 8 = .ok (.istore_n 1, 1) := by decide +kernel
theorem dX3_divide_9 : decode cX3_divide 9 = .ok (.iconst 0, 1) := by decide +kernel
theorem dX3_divide_10 : decode cX3_divide 10 = .ok (.istore_n 2, 1) := by decide +kernel
theorem dX3_divide_11 : decode cX3_divide 11 = .ok (.aload_n 0, 1) := by decide +kernel
theorem dX3_divide_12 : decode cX3_divide 12 = .ok (.invokevirtual 119, 3) := by decide +kernel
theorem dX3_divide_15 : decode cX3_divide 15 = .ok (.aload_n 0, 1) := by decide +kernel
theorem dX3_divide_16 : decode cX3_divide 16 = .ok (.getfield 49, 3) := by decide +kernel
theorem dX3_divide_19 : decode cX3_divide 19 = .ok (.arraylength, 1) := by decide +kernel
theorem dX3_divide_20 : decode cX3_divide 20 = .ok (.iconst 1, 1) := by decide +kernel
theorem dX3_divide_21 : decode cX3_divide 21 = .ok (.isub, 1) := by decide +kernel
theorem dX3_divide_22 : decode cX3_divide 22 = .ok (.istore_n 3, 1) := by decide +kernel
theorem dX3_divide_23 : decode cX3_divide 23 = .ok (.iload_n 3, 1) := by decide +kernel
theorem dX3_divide_24 : decode cX3_divide 24 = .ok (.ifCond .lt 40, 3) := by decide +kernel
theorem dX3_divide_27 : decode cX3_divide 27 = .ok (.bipush 10, 2) := by decide +kernel
theorem dX3_divide_29 : decode cX3_divide 29 = .ok (.iload_n 2, 1) := by decide +kernel
theorem dX3_divide_30 : decode cX3_divide 30 = .ok (.imul, 1) := by decide +kernel
theorem dX3_divide_31 : decode cX3_divide 31 = .ok (.aload_n 0, 1) := by decide +kernel
theorem dX3_divide_32 : decode cX3_divide 32 = .ok (.iload_n 3, 1) := by decide +kernel
theorem dX3_divide_33 : decode cX3_divide 33 = .ok (.invokevirtual 71, 3) := by decide +kernel
theorem dX3_divide_36 : decode cX3_divide 36 = .ok (.iadd, 1) := by decide +kernel
theorem dX3_divide_37 : decode cX3_divide 37 = .ok (.istore 4, 2) := by decide +kernel
theorem dX3_divide_39 : decode cX3_divide 39 = .ok (.aload_n 0, 1) := by decide +kernel
theorem dX3_divide_40 : decode cX3_divide 40 = .ok (.iload_n 3, 1) := by decide +kernel
theorem dX3_divide_41 : decode cX3_divide 41 = .ok (.iload 4, 2) := by decide +kernel
theorem dX3_divide_43 : decode cX3_divide 43 = .ok (.iload_n 1, 1) := by decide +kernel
theorem dX3_divide_44 : decode cX3_divide 44 = .ok (.idiv, 1) := by decide +kernel
theorem dX3_divide_45 : decode cX3_divide 45 = .ok (.invokevirtual 105, 3) := by decide +kernel
theorem dX3_divide_48 : decode cX3_divide 48 = .ok (.iload 4, 2) := by decide +kernel
theorem dX3_divide_50 : decode cX3_divide 50 = .ok (.iload 4, 2) := by decide +kernel
theorem dX3_divide_52 : decode cX3_divide 52 = .ok (.iload_n 1, 1) := by decide +kernel
theorem dX3_divide_53 : decode cX3_divide 53 = .ok (.idiv, 1) := by decide +kernel
theorem dX3_divide_54 : decode cX3_divide 54 = .ok (.iload_n 1, 1) := by decide +kernel
theorem dX3_divide_55 : decode cX3_divide 55 = .ok (.imul, 1) := by decide +kernel
theorem dX3_divide_56 : decode cX3_divide 56 = .ok (.isub, 1) := by decide +kernel
theorem dX3_divide_57 : decode cX3_divide 57 = .ok (.istore_n 2, 1) := by decide +kernel
theorem dX3_divide_58 : decode cX3_divide 58 = .ok (.iinc 3 (-1), 3) := by decide +kernel
theorem dX3_divide_61 : decode cX3_divide 61 = .ok (.goto (-38), 3) := by decide +kernel
theorem dX3_divide_64 : decode cX3_divide 64 = .ok (.aload_n 0, 1) := by decide +kernel
theorem dX3_divide_65 : decode cX3_divide 65 = .ok (.getfield 18, 3) := by decide +kernel
theorem dX3_divide_68 : decode cX3_divide 68 = .ok (.aload_n 0, 1) := by decide +kernel
theorem dX3_divide_69 : decode cX3_divide 69 = .ok (.getfield 39, 3) := by decide +kernel
theorem dX3_divide_72 : decode cX3_divide 72 = .ok (.iload_n 1, 1) := by decide +kernel
theorem dX3_divide_73 : decode cX3_divide 73 = .ok (.invokevirtual 144, 3) := by decide +kernel
theorem dX3_divide_76 : decode cX3_divide 76 = .ok (.iload_n 2, 1) := by decide +kernel
theorem dX3_divide_77 : decode cX3_divide 77 = .ok (.if_icmp .ne 7, 3) := by decide +kernel
theorem dX3_divide_80 : decode cX3_divide 80 = .ok (.iconst 1, 1) := by decide +kernel
theorem dX3_divide_81 : decode cX3_divide 81 = .ok (.goto 4, 3) := by decide +kernel
theorem dX3_divide_84 : decode cX3_divide 84 = .ok (.iconst 0, 1) := by decide +kernel
theorem dX3_divide_85 : decode cX3_divide 85 = .ok (.ireturn, 1) := by decide +kernel
theorem dX3_shift_0 : decode cX3_shift 0 = .ok (.aload_n 0, 1) := by decide +kernel
theorem dX3_shift_1 : decode cX3_shift 1 = .ok (.iconst 2, 1) := by decide +kernel
theorem dX3_shift_2 : decode cX3_shift 2 = .ok (.invokevirtual 42, 3) := by decide +kernel
theorem dX3_shift_5 : decode cX3_shift 5 = .ok (.ifCond .ne 7, 3) := by decide +kernel
theorem dX3_shift_8 : decode cX3_shift 8 = .ok (.iconst 1, 1) := by decide +kernel
theorem dX3_shift_9 : decode cX3_shift 9 = .ok (.goto 4, 3) := by decide +kernel
theorem dX3_shift_12 : decode cX3_shift 12 = .ok (.iconst 0, 1) := by decide +kernel
theorem dX3_shift_13 : decode cX3_shift 13 = .ok (.istore_n 1, 1) := by decide +kernel
theorem dX3_shift_14 : decode cX3_shift 14 = .ok (.aload_n 0, 1) := by decide +kernel
theorem dX3_shift_15 : decode cX3_shift 15 = .ok (.getfield 49, 3) := by decide +kernel
theorem dX3_shift_18 : decode cX3_shift 18 = .ok (.arraylength, 1) := by decide +kernel
theorem dX3_shift_19 : decode cX3_shift 19 = .ok (.newarray .int, 2) := by decide +kernel
theorem dX3_shift_21 : decode cX3_shift 21 = .ok (.astore_n 2, 1) := by decide +kernel
theorem dX3_shift_22 : decode cX3_shift 22 = .ok (.iconst 0, 1) := by decide +kernel
theorem dX3_shift_23 : decode cX3_shift 23 = .ok (.istore_n 3, 1) := by decide +kernel
theorem dX3_shift_24 : decode cX3_shift 24 = .ok (.iload_n 3, 1) := by decide +kernel
theorem dX3_shift_25 : decode cX3_shift 25 = .ok (.aload_n 2, 1) := by decide +kernel
theorem dX3_shift_26 : decode cX3_shift 26 = .ok (.arraylength, 1) := by decide +kernel
theorem dX3_shift_27 : decode cX3_shift 27 = .ok (.if_icmp .ge 17, 3) := by decide +kernel
theorem dX3_shift_30 : decode cX3_shift 30 = .ok (.aload_n 2, 1) := by decide +kernel
theorem dX3_shift_31 : decode cX3_shift 31 = .ok (.iload_n 3, 1) := by decide +kernel
theorem dX3_shift_32 : decode cX3_shift 32 = .ok (.aload_n 0, 1) := by decide +kernel
theorem dX3_shift_33 : decode cX3_shift 33 = .ok (.iload_n 3, 1) := by decide +kernel
theorem dX3_shift_34 : decode cX3_shift 34 = .ok (.invokevirtual 71, 3) := by decide +kernel
theorem dX3_shift_37 : decode cX3_shift 37 = .ok (.iastore, 1) := by decide +kernel
theorem dX3_shift_38 : decode cX3_shift 38 = .ok (.iinc 3 1, 3) := by decide +kernel
theorem dX3_shift_41 : decode cX3_shift 41 = .ok (.goto (-17), 3) := by decide +kernel
theorem dX3_shift_44 : decode cX3_shift 44 = .ok (.aload_n 0, 1) := by decide +kernel
theorem dX3_shift_45 : decode cX3_shift 45 = .ok (.invokevirtual 119, 3) := by decide +kernel
theorem dX3_shift_48 : decode cX3_shift 48 = .ok (.aload_n 2, 1) := by decide +kernel
theorem dX3_shift_49 : decode cX3_shift 49 = .ok (.arraylength, 1) := by decide +kernel
theorem dX3_shift_50 : decode cX3_shift 50 = .ok (.iconst 1, 1) := by decide +kernel
theorem dX3_shift_51 : decode cX3_shift 51 = .ok (.isub, 1) := by decide +kernel
theorem dX3_shift_52 : decode cX3_shift 52 = .ok (.istore_n 3, 1) := by decide +kernel
theorem dX3_shift_53 : decode cX3_shift 53 = .ok (.iload_n 3, 1) := by decide +kernel
theorem dX3_shift_54 : decode cX3_shift 54 = .ok (.istore 4, 2) := by decide +kernel
theorem dX3_shift_56 : decode cX3_shift 56 = .ok (.iload 4, 2) := by decide +kernel
theorem dX3_shift_58 : decode cX3_shift 58 = .ok (.ifCond .lt 34, 3) := by decide +kernel
theorem dX3_shift_61 : decode cX3_shift 61 = .ok (.iload_n 1, 1) := by decide +kernel
theorem dX3_shift_62 : decode cX3_shift 62 = .ok (.ifCond .eq 30, 3) := by decide +kernel
theorem dX3_shift_65 : decode cX3_shift 65 = .ok (.aload_n 0, 1) := by decide +kernel
theorem dX3_shift_66 : decode cX3_shift 66 = .ok (.iload 4, 2) := by decide +kernel
theorem dX3_shift_68 : decode cX3_shift 68 = .ok (.iload 4, 2) := by decide +kernel
theorem dX3_shift_70 : decode cX3_shift 70 = .ok (.ifCond .ne 7, 3) := by decide +kernel
theorem dX3_shift_73 : decode cX3_shift 73 = .ok (.iconst 0, 1) := by decide +kernel
theorem dX3_shift_74 : decode cX3_shift 74 = .ok (.goto 9, 3) := by decide +kernel
theorem dX3_shift_77 : decode cX3_shift 77 = .ok (.aload_n 2, 1) := by decide +kernel
theorem dX3_shift_78 : decode cX3_shift 78 = .ok (.iload 4, 2) := by decide +kernel
theorem dX3_shift_80 : decode cX3_shift 80 = .ok (.iconst 1, 1) := by decide +kernel
theorem dX3_shift_81 : decode cX3_shift 81 = .ok (.isub, 1) := by decide +kernel
theorem dX3_shift_82 : decode cX3_shift 82 = .ok (.iaload, 1) := by decide +kernel
theorem dX3_shift_83 : decode cX3_shift 83 = .ok (.invokevirtual 105, 3) := by decide +kernel
theorem dX3_shift_86 : decode cX3_shift 86 = .ok (.iinc 4 (-1), 3) := by decide +kernel
theorem dX3_shift_89 : decode cX3_shift 89 = .ok (.goto (-33), 3) := by decide +kernel
theorem dX3_shift_92 : decode cX3_shift 92 = .ok (.iconst 0, 1) := by decide +kernel
theorem dX3_shift_93 : decode cX3_shift 93 = .ok (.istore 4, 2) := by decide +kernel
theorem dX3_shift_95 : decode cX3_shift 95 = .ok (.iload 4, 2) := by decide +kernel
theorem dX3_shift_97 : decode cX3_shift 97 = .ok (.iload_n 3, 1) := by decide +kernel
theorem dX3_shift_98 : decode cX3_shift 98 = .ok (.if_icmp .gt 35, 3) := by decide +kernel
theorem dX3_shift_101 : decode cX3_shift 101 = .ok (.iload_n 1, 1) := by decide +kernel
theorem dX3_shift_102 : decode cX3_shift 102 = .ok (.ifCond .ne 31, 3) := by decide +kernel
theorem dX3_shift_105 : decode cX3_shift 105 = .ok (.aload_n 0, 1) := by decide +kernel
theorem dX3_shift_106 : decode cX3_shift 106 = .ok (.iload 4, 2) := by decide +kernel
theorem dX3_shift_108 : decode cX3_shift 108 = .ok (.iload 4, 2) := by decide +kernel
theorem dX3_shift_110 : decode cX3_shift 110 = .ok (.iload_n 3, 1) := by decide +kernel
theorem dX3_shift_111 : decode cX3_shift 111 = .ok (.if_icmp .ne 7, 3) := by decide +kernel
theorem dX3_shift_114 : decode cX3_shift 114 = .ok (.iconst 0, 1) := by decide +kernel
theorem dX3_shift_115 : decode cX3_shift 115 = .ok (.goto 9, 3) := by decide +kernel
theorem dX3_shift_118 : decode cX3_shift 118 = .ok (.aload_n 2, 1) := by decide +kernel
theorem dX3_shift_119 : decode cX3_shift 119 = .ok (.iload 4, 2) := by decide +kernel
theorem dX3_shift_121 : decode cX3_shift 121 = .ok (.iconst 1, 1) := by decide +kernel
theorem dX3_shift_122 : decode cX3_shift 122 = .ok (.iadd, 1) := by decide +kernel
theorem dX3_shift_123 : decode cX3_shift 123 = .ok (.iaload, 1) := by decide +kernel
theorem dX3_shift_124 : decode cX3_shift 124 = .ok (.invokevirtual 105, 3) := by decide +kernel
theorem dX3_shift_127 : decode cX3_shift 127 = .ok (.iinc 4 1, 3) := by decide +kernel
theorem dX3_shift_130 : decode cX3_shift 130 = .ok (.goto (-35), 3) := by decide +kernel
theorem dX3_shift_133 : decode cX3_shift 133 = .ok (.aload_n 0, 1) := by decide +kernel
theorem dX3_shift_134 : decode cX3_shift 134 = .ok (.getfield 15, 3) := by decide +kernel
theorem dX3_shift_137 : decode cX3_shift 137 = .ok (.iconst 4, 1) := by decide +kernel
theorem dX3_shift_138 : decode cX3_shift 138 = .ok (.dup2, 1) := by decide +kernel
theorem dX3_shift_139 : decode cX3_shift 139 = .ok (.iaload, 1) := by decide +kernel
theorem dX3_shift_140 : decode cX3_shift 140 = .ok (.iload_n 1, 1) := by decide +kernel
theorem dX3_shift_141 : decode cX3_shift 141 = .ok (.ifCond .eq 9, 3) := by decide +kernel
theorem dX3_shift_144 : decode cX3_shift 144 = .ok (.aload_n 2, 1) := by decide +kernel
theorem dX3_shift_145 : decode cX3_shift 145 = .ok (.iload_n 3, 1) := by decide +kernel
theorem dX3_shift_146 : decode cX3_shift 146 = .ok (.iaload, 1) := by decide +kernel
theorem dX3_shift_147 : decode cX3_shift 147 = .ok (.goto 4, 3) := by decide +kernel
theorem dX3_shift_150 : decode cX3_shift 150 = .ok (.iconst 0, 1) := by decide +kernel
theorem dX3_shift_151 : decode cX3_shift 151 = .ok (.iadd, 1) := by decide +kernel
theorem dX3_shift_152 : decode cX3_shift 152 = .ok (.iastore, 1) := by decide +kernel
theorem dX3_shift_153 : decode cX3_shift 153 = .ok (.aload_n 0, 1) := by decide +kernel
theorem dX3_shift_154 : decode cX3_shift 154 = .ok (.getfield 18, 3) := by decide +kernel
theorem dX3_shift_157 : decode cX3_shift 157 = .ok (.aload_n 0, 1) := by decide +kernel
theorem dX3_shift_158 : decode cX3_shift 158 = .ok (.getfield 39, 3) := by decide +kernel
theorem dX3_shift_161 : decode cX3_shift 161 = .ok (.iload_n 1, 1) := by decide +kernel
theorem dX3_shift_162 : decode cX3_shift 162 = .ok (.invokevirtual 147, 3) := by decide +kernel
theorem dX3_shift_165 : decode cX3_shift 165 = .ok (.iload_n 1, 1) := by decide +kernel
theorem dX3_shift_166 : decode cX3_shift 166 = .ok (.ifCond .eq 9, 3) := by decide +kernel
theorem dX3_shift_169 : decode cX3_shift 169 = .ok (.aload_n 2, 1) := by decide +kernel
theorem dX3_shift_170 : decode cX3_shift 170 = .ok (.iload_n 3, 1) := by decide +kernel
theorem dX3_shift_171 : decode cX3_shift 171 = .ok (.iaload, 1) := by decide +kernel
theorem dX3_shift_172 : decode cX3_shift 172 = .ok (.goto 6, 3) := by decide +kernel
theorem dX3_shift_175 : decode cX3_shift 175 = .ok (.aload_n 2, 1) := by decide +kernel
theorem dX3_shift_176 : decode cX3_shift 176 = .ok (.iconst 0, 1) := by decide +kernel
theorem dX3_shift_177 : decode cX3_shift 177 = .ok (.iaload, 1) := by decide +kernel
theorem dX3_shift_178 : decode cX3_shift 178 = .ok (.if_icmp .ne 7, 3) := by decide +kernel
theorem dX3_shift_181 : decode cX3_shift 181 = .ok (.iconst 1, 1) := by decide +kernel
theorem dX3_shift_182 : decode cX3_shift 182 = .ok (.goto 4, 3) := by decide +kernel
theorem dX3_shift_185 : decode cX3_shift 185 = .ok (.iconst 0, 1) := by decide +kernel
theorem dX3_shift_186 : decode cX3_shift 186 = .ok (.ireturn, 1) := by decide +kernel
end
section
-- laid by wip/p30/names.py
theorem dX3_tidy_0 : decode cX3_tidy 0 = .ok (.aload_n 0, 1) := by decide +kernel
theorem dX3_tidy_1 : decode cX3_tidy 1 = .ok (.getfield 15, 3) := by decide +kernel
theorem dX3_tidy_4 : decode cX3_tidy 4 = .ok (.iconst 2, 1) := by decide +kernel
theorem dX3_tidy_5 : decode cX3_tidy 5 = .ok (.iaload, 1) := by decide +kernel
theorem dX3_tidy_6 : decode cX3_tidy 6 = .ok (.istore_n 1, 1) := by decide +kernel
theorem dX3_tidy_7 : decode cX3_tidy 7 = .ok (.aload_n 0, 1) := by decide +kernel
theorem dX3_tidy_8 : decode cX3_tidy 8 = .ok (.invokevirtual 119, 3) := by decide +kernel
theorem dX3_tidy_11 : decode cX3_tidy 11 = .ok (.iconst 0, 1) := by decide +kernel
theorem dX3_tidy_12 : decode cX3_tidy 12 = .ok (.istore_n 2, 1) := by decide +kernel
theorem dX3_tidy_13 : decode cX3_tidy 13 = .ok (.iload_n 2, 1) := by decide +kernel
theorem dX3_tidy_14 : decode cX3_tidy 14 = .ok (.aload_n 0, 1) := by decide +kernel
theorem dX3_tidy_15 : decode cX3_tidy 15 = .ok (.getfield 49, 3) := by decide +kernel
theorem dX3_tidy_18 : decode cX3_tidy 18 = .ok (.arraylength, 1) := by decide +kernel
theorem dX3_tidy_19 : decode cX3_tidy 19 = .ok (.if_icmp .ge 53, 3) := by decide +kernel
theorem dX3_tidy_22 : decode cX3_tidy 22 = .ok (.aload_n 0, 1) := by decide +kernel
theorem dX3_tidy_23 : decode cX3_tidy 23 = .ok (.iload_n 2, 1) := by decide +kernel
theorem dX3_tidy_24 : decode cX3_tidy 24 = .ok (.invokevirtual 71, 3) := by decide +kernel
theorem dX3_tidy_27 : decode cX3_tidy 27 = .ok (.bipush 10, 2) := by decide +kernel
theorem dX3_tidy_29 : decode cX3_tidy 29 = .ok (.if_icmp .ge 6, 3) := by decide +kernel
theorem dX3_tidy_32 : decode cX3_tidy 32 = .ok (.goto 34, 3) := by decide +kernel
theorem dX3_tidy_35 : decode cX3_tidy 35 = .ok (.aload_n 0, 1) := by decide +kernel
theorem dX3_tidy_36 : decode cX3_tidy 36 = .ok (.iload_n 2, 1) := by decide +kernel
theorem dX3_tidy_37 : decode cX3_tidy 37 = .ok (.aload_n 0, 1) := by decide +kernel
theorem dX3_tidy_38 : decode cX3_tidy 38 = .ok (.iload_n 2, 1) := by decide +kernel
theorem dX3_tidy_39 : decode cX3_tidy 39 = .ok (.invokevirtual 71, 3) := by decide +kernel
theorem dX3_tidy_42 : decode cX3_tidy 42 = .ok (.bipush 10, 2) := by decide +kernel
theorem dX3_tidy_44 : decode cX3_tidy 44 = .ok (.isub, 1) := by decide +kernel
theorem dX3_tidy_45 : decode cX3_tidy 45 = .ok (.invokevirtual 105, 3) := by decide +kernel
theorem dX3_tidy_48 : decode cX3_tidy 48 = .ok (.aload_n 0, 1) := by decide +kernel
theorem dX3_tidy_49 : decode cX3_tidy 49 = .ok (.getfield 15, 3) := by decide +kernel
theorem dX3_tidy_52 : decode cX3_tidy 52 = .ok (.iconst 2, 1) := by decide +kernel
theorem dX3_tidy_53 : decode cX3_tidy 53 = .ok (.dup2, 1) := by decide +kernel
theorem dX3_tidy_54 : decode cX3_tidy 54 = .ok (.iaload, 1) := by decide +kernel
theorem dX3_tidy_55 : decode cX3_tidy 55 = .ok (.iconst 1, 1) := by decide +kernel
theorem dX3_tidy_56 : decode cX3_tidy 56 = .ok (.iadd, 1) := by decide +kernel
theorem dX3_tidy_57 : decode cX3_tidy 57 = .ok (.iastore, 1) := by decide +kernel
theorem dX3_tidy_58 : decode cX3_tidy 58 = .ok (.aload_n 0, 1) := by decide +kernel
theorem dX3_tidy_59 : decode cX3_tidy 59 = .ok (.iload_n 2, 1) := by decide +kernel
theorem dX3_tidy_60 : decode cX3_tidy 60 = .ok (.iconst 1, 1) := by decide +kernel
theorem dX3_tidy_61 : decode cX3_tidy 61 = .ok (.iadd, 1) := by decide +kernel
theorem dX3_tidy_62 : decode cX3_tidy 62 = .ok (.iconst 1, 1) := by decide +kernel
theorem dX3_tidy_63 : decode cX3_tidy 63 = .ok (.invokevirtual 113, 3) := by decide +kernel
theorem dX3_tidy_66 : decode cX3_tidy 66 = .ok (.iinc 2 1, 3) := by decide +kernel
theorem dX3_tidy_69 : decode cX3_tidy 69 = .ok (.goto (-56), 3) := by decide +kernel
theorem dX3_tidy_72 : decode cX3_tidy 72 = .ok (.aload_n 0, 1) := by decide +kernel
theorem dX3_tidy_73 : decode cX3_tidy 73 = .ok (.getfield 18, 3) := by decide +kernel
theorem dX3_tidy_76 : decode cX3_tidy 76 = .ok (.aload_n 0, 1) := by decide +kernel
theorem dX3_tidy_77 : decode cX3_tidy 77 = .ok (.getfield 39, 3) := by decide +kernel
theorem dX3_tidy_80 : decode cX3_tidy 80 = .ok (.invokevirtual 151, 3) := by decide +kernel
theorem dX3_tidy_83 : decode cX3_tidy 83 = .ok (.aload_n 0, 1) := by decide +kernel
theorem dX3_tidy_84 : decode cX3_tidy 84 = .ok (.getfield 15, 3) := by decide +kernel
theorem dX3_tidy_87 : decode cX3_tidy 87 = .ok (.iconst 2, 1) := by decide +kernel
theorem dX3_tidy_88 : decode cX3_tidy 88 = .ok (.iaload, 1) := by decide +kernel
theorem dX3_tidy_89 : decode cX3_tidy 89 = .ok (.iload_n 1, 1) := by decide +kernel
theorem dX3_tidy_90 : decode cX3_tidy 90 = .ok (.isub, 1) := by decide +kernel
theorem dX3_tidy_91 : decode cX3_tidy 91 = .ok (.if_icmp .ne 7, 3) := by decide +kernel
theorem dX3_tidy_94 : decode cX3_tidy 94 = .ok (.iconst 1, 1) := by decide +kernel
theorem dX3_tidy_95 : decode cX3_tidy 95 = .ok (.goto 4, 3) := by decide +kernel
theorem dX3_tidy_98 : decode cX3_tidy 98 = .ok (.iconst 0, 1) := by decide +kernel
theorem dX3_tidy_99 : decode cX3_tidy 99 = .ok (.ireturn, 1) := by decide +kernel
theorem dX3_clear_0 : decode cX3_clear 0 = .ok (.aload_n 0, 1) := by decide +kernel
theorem dX3_clear_1 : decode cX3_clear 1 = .ok (.getfield 15, 3) := by decide +kernel
theorem dX3_clear_4 : decode cX3_clear 4 = .ok (.iconst 0, 1) := by decide +kernel
theorem dX3_clear_5 : decode cX3_clear 5 = .ok (.iaload, 1) := by decide +kernel
theorem dX3_clear_6 : decode cX3_clear 6 = .ok (.istore_n 1, 1) := by decide +kernel
theorem dX3_clear_7 : decode cX3_clear 7 = .ok (.aload_n 0, 1) := by decide +kernel
theorem dX3_clear_8 : decode cX3_clear 8 = .ok (.invokevirtual 119, 3) := by decide +kernel
theorem dX3_clear_11 : decode cX3_clear 11 = .ok (.aload_n 0, 1) := by decide +kernel
theorem dX3_clear_12 : decode cX3_clear 12 = .ok (.getfield 49, 3) := by decide +kernel
theorem dX3_clear_15 : decode cX3_clear 15 = .ok (.arraylength, 1) := by decide +kernel
theorem dX3_clear_16 : decode cX3_clear 16 = .ok (.iconst 1, 1) := by decide +kernel
theorem dX3_clear_17 : decode cX3_clear 17 = .ok (.isub, 1) := by decide +kernel
theorem dX3_clear_18 : decode cX3_clear 18 = .ok (.istore_n 2, 1) := by decide +kernel
theorem dX3_clear_19 : decode cX3_clear 19 = .ok (.iload_n 2, 1) := by decide +kernel
theorem dX3_clear_20 : decode cX3_clear 20 = .ok (.ifCond .lt 15, 3) := by decide +kernel
theorem dX3_clear_23 : decode cX3_clear 23 = .ok (.aload_n 0, 1) := by decide +kernel
theorem dX3_clear_24 : decode cX3_clear 24 = .ok (.iload_n 2, 1) := by decide +kernel
theorem dX3_clear_25 : decode cX3_clear 25 = .ok (.iconst 0, 1) := by decide +kernel
theorem dX3_clear_26 : decode cX3_clear 26 = .ok (.invokevirtual 105, 3) := by decide +kernel
theorem dX3_clear_29 : decode cX3_clear 29 = .ok (.iinc 2 (-1), 3) := by decide +kernel
theorem dX3_clear_32 : decode cX3_clear 32 = .ok (.goto (-13), 3) := by decide +kernel
theorem dX3_clear_35 : decode cX3_clear 35 = .ok (.aload_n 0, 1) := by decide +kernel
theorem dX3_clear_36 : decode cX3_clear 36 = .ok (.getfield 18, 3) := by decide +kernel
theorem dX3_clear_39 : decode cX3_clear 39 = .ok (.aload_n 0, 1) := by decide +kernel
theorem dX3_clear_40 : decode cX3_clear 40 = .ok (.getfield 39, 3) := by decide +kernel
theorem dX3_clear_43 : decode cX3_clear 43 = .ok (.invokevirtual 154, 3) := by decide +kernel
theorem dX3_clear_46 : decode cX3_clear 46 = .ok (.aload_n 0, 1) := by decide +kernel
theorem dX3_clear_47 : decode cX3_clear 47 = .ok (.getfield 15, 3) := by decide +kernel
theorem dX3_clear_50 : decode cX3_clear 50 = .ok (.iconst 0, 1) := by decide +kernel
theorem dX3_clear_51 : decode cX3_clear 51 = .ok (.iaload, 1) := by decide +kernel
theorem dX3_clear_52 : decode cX3_clear 52 = .ok (.iload_n 1, 1) := by decide +kernel
theorem dX3_clear_53 : decode cX3_clear 53 = .ok (.isub, 1) := by decide +kernel
theorem dX3_clear_54 : decode cX3_clear 54 = .ok (.if_icmp .ne 7, 3) := by decide +kernel
theorem dX3_clear_57 : decode cX3_clear 57 = .ok (.iconst 1, 1) := by decide +kernel
theorem dX3_clear_58 : decode cX3_clear 58 = .ok (.goto 4, 3) := by decide +kernel
theorem dX3_clear_61 : decode cX3_clear 61 = .ok (.iconst 0, 1) := by decide +kernel
theorem dX3_clear_62 : decode cX3_clear 62 = .ok (.ireturn, 1) := by decide +kernel
theorem dX3_sets_0 : decode cX3_sets 0 = .ok (.aload_n 0, 1) := by decide +kernel
theorem dX3_sets_1 : decode cX3_sets 1 = .ok (.aload_n 0, 1) := by decide +kernel
theorem dX3_sets_2 : decode cX3_sets 2 = .ok (.getfield 49, 3) := by decide +kernel
theorem dX3_sets_5 : decode cX3_sets 5 = .ok (.arraylength, 1) := by decide +kernel
theorem dX3_sets_6 : decode cX3_sets 6 = .ok (.invokevirtual 42, 3) := by decide +kernel
theorem dX3_sets_9 : decode cX3_sets 9 = .ok (.istore_n 1, 1) := by decide +kernel
theorem dX3_sets_10 : decode cX3_sets 10 = .ok (.aload_n 0, 1) := by decide +kernel
theorem dX3_sets_11 : decode cX3_sets 11 = .ok (.aload_n 0, 1) := by decide +kernel
theorem dX3_sets_12 : decode cX3_sets 12 = .ok (.invokevirtual 157, 3) := by decide +kernel
theorem dX3_sets_15 : decode cX3_sets 15 = .ok (.iconst 1, 1) := by decide +kernel
theorem dX3_sets_16 : decode cX3_sets 16 = .ok (.iadd, 1) := by decide +kernel
theorem dX3_sets_17 : decode cX3_sets 17 = .ok (.invokevirtual 42, 3) := by decide +kernel
theorem dX3_sets_20 : decode cX3_sets 20 = .ok (.istore_n 2, 1) := by decide +kernel
theorem dX3_sets_21 : decode cX3_sets 21 = .ok (.aload_n 0, 1) := by decide +kernel
theorem dX3_sets_22 : decode cX3_sets 22 = .ok (.getfield 15, 3) := by decide +kernel
theorem dX3_sets_25 : decode cX3_sets 25 = .ok (.iconst 0, 1) := by decide +kernel
theorem dX3_sets_26 : decode cX3_sets 26 = .ok (.iaload, 1) := by decide +kernel
theorem dX3_sets_27 : decode cX3_sets 27 = .ok (.istore_n 3, 1) := by decide +kernel
theorem dX3_sets_28 : decode cX3_sets 28 = .ok (.aload_n 0, 1) := by decide +kernel
theorem dX3_sets_29 : decode cX3_sets 29 = .ok (.invokevirtual 119, 3) := by decide +kernel
theorem dX3_sets_32 : decode cX3_sets 32 = .ok (.aload_n 0, 1) := by decide +kernel
theorem dX3_sets_33 : decode cX3_sets 33 = .ok (.iload_n 1, 1) := by decide +kernel
theorem dX3_sets_34 : decode cX3_sets 34 = .ok (.iload_n 2, 1) := by decide +kernel
theorem dX3_sets_35 : decode cX3_sets 35 = .ok (.invokevirtual 105, 3) := by decide +kernel
theorem dX3_sets_38 : decode cX3_sets 38 = .ok (.aload_n 0, 1) := by decide +kernel
theorem dX3_sets_39 : decode cX3_sets 39 = .ok (.getfield 18, 3) := by decide +kernel
theorem dX3_sets_42 : decode cX3_sets 42 = .ok (.aload_n 0, 1) := by decide +kernel
theorem dX3_sets_43 : decode cX3_sets 43 = .ok (.getfield 39, 3) := by decide +kernel
theorem dX3_sets_46 : decode cX3_sets 46 = .ok (.iload_n 1, 1) := by decide +kernel
theorem dX3_sets_47 : decode cX3_sets 47 = .ok (.iload_n 2, 1) := by decide +kernel
theorem dX3_sets_48 : decode cX3_sets 48 = .ok (.invokevirtual 160, 3) := by decide +kernel
theorem dX3_sets_51 : decode cX3_sets 51 = .ok (.aload_n 0, 1) := by decide +kernel
theorem dX3_sets_52 : decode cX3_sets 52 = .ok (.getfield 15, 3) := by decide +kernel
theorem dX3_sets_55 : decode cX3_sets 55 = .ok (.iconst 0, 1) := by decide +kernel
theorem dX3_sets_56 : decode cX3_sets 56 = .ok (.iaload, 1) := by decide +kernel
theorem dX3_sets_57 : decode cX3_sets 57 = .ok (.iload_n 3, 1) := by decide +kernel
theorem dX3_sets_58 : decode cX3_sets 58 = .ok (.isub, 1) := by decide +kernel
theorem dX3_sets_59 : decode cX3_sets 59 = .ok (.if_icmp .ne 7, 3) := by decide +kernel
theorem dX3_sets_62 : decode cX3_sets 62 = .ok (.iconst 1, 1) := by decide +kernel
theorem dX3_sets_63 : decode cX3_sets 63 = .ok (.goto 4, 3) := by decide +kernel
theorem dX3_sets_66 : decode cX3_sets 66 = .ok (.iconst 0, 1) := by decide +kernel
theorem dX3_sets_67 : decode cX3_sets 67 = .ok (.ireturn, 1) := by decide +kernel
theorem dX3_push_0 : decode cX3_push 0 = .ok (.aload_n 0, 1) := by decide +kernel
theorem dX3_push_1 : decode cX3_push 1 = .ok (.aload_n 0, 1) := by decide +kernel
theorem dX3_push_2 : decode cX3_push 2 = .ok (.getfield 49, 3) := by decide +kernel
theorem dX3_push_5 : decode cX3_push 5 = .ok (.arraylength, 1) := by decide +kernel
theorem dX3_push_6 : decode cX3_push 6 = .ok (.invokevirtual 42, 3) := by decide +kernel
theorem dX3_push_9 : decode cX3_push 9 = .ok (.istore_n 1, 1) := by decide +kernel
theorem dX3_push_10 : decode cX3_push 10 = .ok (.aload_n 0, 1) := by decide +kernel
theorem dX3_push_11 : decode cX3_push 11 = .ok (.invokevirtual 64, 3) := by decide +kernel
theorem dX3_push_14 : decode cX3_push 14 = .ok (.ifCond .le 15, 3) := by decide +kernel
theorem dX3_push_17 : decode cX3_push 17 = .ok (.aload_n 0, 1) := by decide +kernel
theorem dX3_push_18 : decode cX3_push 18 = .ok (.iconst 2, 1) := by decide +kernel
theorem dX3_push_19 : decode cX3_push 19 = .ok (.invokevirtual 42, 3) := by decide +kernel
theorem dX3_push_22 : decode cX3_push 22 = .ok (.ifCond .ne 7, 3) := by decide +kernel
theorem dX3_push_25 : decode cX3_push 25 = .ok (.iconst 1, 1) := by decide +kernel
theorem dX3_push_26 : decode cX3_push 26 = .ok (.goto 4, 3) := by decide +kernel
theorem dX3_push_29 : decode cX3_push 29 = .ok (.iconst 0, 1) := by decide +kernel
theorem dX3_push_30 : decode cX3_push 30 = .ok (.istore_n 2, 1) := by decide +kernel
theorem dX3_push_31 : decode cX3_push 31 = .ok (.iload_n 2, 1) := by decide +kernel
theorem dX3_push_32 : decode cX3_push 32 = .ok (.ifCond .eq 12, 3) := by decide +kernel
theorem dX3_push_35 : decode cX3_push 35 = .ok (.aload_n 0, 1) := by decide +kernel
theorem dX3_push_36 : decode cX3_push 36 = .ok (.getfield 49, 3) := by decide +kernel
theorem dX3_push_39 : decode cX3_push 39 = .ok (.iload_n 1, 1) := by decide +kernel
theorem dX3_push_40 : decode cX3_push 40 = .ok (.iaload, 1) := by decide +kernel
theorem dX3_push_41 : decode cX3_push 41 = .ok (.goto 9, 3) := by decide +kernel
theorem dX3_push_44 : decode cX3_push 44 = .ok (.aload_n 0, 1) := by decide +kernel
theorem dX3_push_45 : decode cX3_push 45 = .ok (.getfield 52, 3) := by decide +kernel
theorem dX3_push_48 : decode cX3_push 48 = .ok (.iload_n 1, 1) := by decide +kernel
theorem dX3_push_49 : decode cX3_push 49 = .ok (.iaload, 1) := by decide +kernel
theorem dX3_push_50 : decode cX3_push 50 = .ok (.istore_n 3, 1) := by decide +kernel
theorem dX3_push_51 : decode cX3_push 51 = .ok (.aload_n 0, 1) := by decide +kernel
theorem dX3_push_52 : decode cX3_push 52 = .ok (.iload_n 2, 1) := by decide +kernel
theorem dX3_push_53 : decode cX3_push 53 = .ok (.ifCond .eq 10, 3) := by decide +kernel
theorem dX3_push_56 : decode cX3_push 56 = .ok (.aload_n 0, 1) := by decide +kernel
theorem dX3_push_57 : decode cX3_push 57 = .ok (.invokevirtual 64, 3) := by decide +kernel
theorem dX3_push_60 : decode cX3_push 60 = .ok (.goto 7, 3) := by decide +kernel
theorem dX3_push_63 : decode cX3_push 63 = .ok (.aload_n 0, 1) := by decide +kernel
theorem dX3_push_64 : decode cX3_push 64 = .ok (.invokevirtual 68, 3) := by decide +kernel
theorem dX3_push_67 : decode cX3_push 67 = .ok (.iconst 1, 1) := by decide +kernel
theorem dX3_push_68 : decode cX3_push 68 = .ok (.iadd, 1) := by decide +kernel
theorem dX3_push_69 : decode cX3_push 69 = .ok (.invokevirtual 42, 3) := by decide +kernel
theorem dX3_push_72 : decode cX3_push 72 = .ok (.istore 4, 2) := by decide +kernel
theorem dX3_push_74 : decode cX3_push 74 = .ok (.iload 4, 2) := by decide +kernel
theorem dX3_push_76 : decode cX3_push 76 = .ok (.iload_n 3, 1) := by decide +kernel
theorem dX3_push_77 : decode cX3_push 77 = .ok (.if_icmp .ne 5, 3) := by decide +kernel
theorem dX3_push_80 : decode cX3_push 80 = .ok (.iconst 1, 1) := by decide +kernel
theorem dX3_push_81 : decode cX3_push 81 = .ok (.ireturn, 1) := by decide +kernel
theorem dX3_push_82 : decode cX3_push 82 = .ok (.aload_n 0, 1) := by decide +kernel
theorem dX3_push_83 : decode cX3_push 83 = .ok (.invokevirtual 119, 3) := by decide +kernel
theorem dX3_push_86 : decode cX3_push 86 = .ok (.aload_n 0, 1) := by decide +kernel
theorem dX3_push_87 : decode cX3_push 87 = .ok (.iload_n 1, 1) := by decide +kernel
theorem dX3_push_88 : decode cX3_push 88 = .ok (.iload_n 2, 1) := by decide +kernel
theorem dX3_push_89 : decode cX3_push 89 = .ok (.ifCond .eq 7, 3) := by decide +kernel
theorem dX3_push_92 : decode cX3_push 92 = .ok (.iconst 0, 1) := by decide +kernel
theorem dX3_push_93 : decode cX3_push 93 = .ok (.goto 4, 3) := by decide +kernel
theorem dX3_push_96 : decode cX3_push 96 = .ok (.iconst 1, 1) := by decide +kernel
theorem dX3_push_97 : decode cX3_push 97 = .ok (.iload 4, 2) := by decide +kernel
theorem dX3_push_99 : decode cX3_push 99 = .ok (.iload_n 3, 1) := by decide +kernel
theorem dX3_push_100 : decode cX3_push 100 = .ok (.isub, 1) := by decide +kernel
theorem dX3_push_101 : decode cX3_push 101 = .ok (.invokevirtual 101, 3) := by decide +kernel
theorem dX3_push_104 : decode cX3_push 104 = .ok (.aload_n 0, 1) := by decide +kernel
theorem dX3_push_105 : decode cX3_push 105 = .ok (.getfield 18, 3) := by decide +kernel
theorem dX3_push_108 : decode cX3_push 108 = .ok (.aload_n 0, 1) := by decide +kernel
theorem dX3_push_109 : decode cX3_push 109 = .ok (.getfield 39, 3) := by decide +kernel
theorem dX3_push_112 : decode cX3_push 112 = .ok (.iload_n 1, 1) := by decide +kernel
theorem dX3_push_113 : decode cX3_push 113 = .ok (.iload_n 2, 1) := by decide +kernel
theorem dX3_push_114 : decode cX3_push 114 = .ok (.iload 4, 2) := by decide +kernel
theorem dX3_push_116 : decode cX3_push 116 = .ok (.iload_n 3, 1) := by decide +kernel
theorem dX3_push_117 : decode cX3_push 117 = .ok (.isub, 1) := by decide +kernel
theorem dX3_push_118 : decode cX3_push 118 = .ok (.invokevirtual 162, 3) := by decide +kernel
theorem dX3_push_121 : decode cX3_push 121 = .ok (.aload_n 0, 1) := by decide +kernel
theorem dX3_push_122 : decode cX3_push 122 = .ok (.iload_n 1, 1) := by decide +kernel
theorem dX3_push_123 : decode cX3_push 123 = .ok (.invokevirtual 71, 3) := by decide +kernel
theorem dX3_push_126 : decode cX3_push 126 = .ok (.if_icmp .ne 7, 3) := by decide +kernel
theorem dX3_push_129 : decode cX3_push 129 = .ok (.iconst 1, 1) := by decide +kernel
theorem dX3_push_130 : decode cX3_push 130 = .ok (.goto 4, 3) := by decide +kernel
theorem dX3_push_133 : decode cX3_push 133 = .ok (.iconst 0, 1) := by decide +kernel
theorem dX3_push_134 : decode cX3_push 134 = .ok (.ireturn, 1) := by decide +kernel
theorem dX3_back_0 : decode cX3_back 0 = .ok (.aload_n 0, 1) := by decide +kernel
theorem dX3_back_1 : decode cX3_back 1 = .ok (.getfield 9, 3) := by decide +kernel
theorem dX3_back_4 : decode cX3_back 4 = .ok (.arraylength, 1) := by decide +kernel
theorem dX3_back_5 : decode cX3_back 5 = .ok (.ifCond .ne 5, 3) := by decide +kernel
theorem dX3_back_8 : decode cX3_back 8 = .ok (.iconst 1, 1) := by decide +kernel
theorem dX3_back_9 : decode cX3_back 9 = .ok (.ireturn, 1) := by decide +kernel
theorem dX3_back_10 : decode cX3_back 10 = .ok (.aload_n 0, 1) := by decide +kernel
theorem dX3_back_11 : decode cX3_back 11 = .ok (.getfield 9, 3) := by decide +kernel
theorem dX3_back_14 : decode cX3_back 14 = .ok (.aload_n 0, 1) := by decide +kernel
theorem dX3_back_15 : decode cX3_back 15 = .ok (.getfield 9, 3) := by decide +kernel
theorem dX3_back_18 : decode cX3_back 18 = .ok (.arraylength, 1) := by decide +kernel
theorem dX3_back_19 : decode cX3_back 19 = .ok (.iconst 1, 1) := by decide +kernel
theorem dX3_back_20 : decode cX3_back 20 = .ok (.isub, 1) := by decide +kernel
theorem dX3_back_21 : decode cX3_back 21 = .ok (.aaload, 1) := by decide +kernel
theorem dX3_back_22 : decode cX3_back 22 = .ok (.astore_n 1, 1) := by decide +kernel
theorem dX3_back_23 : decode cX3_back 23 = .ok (.aload_n 1, 1) := by decide +kernel
theorem dX3_back_24 : decode cX3_back 24 = .ok (.iconst 0, 1) := by decide +kernel
theorem dX3_back_25 : decode cX3_back 25 = .ok (.aload_n 0, 1) := by decide +kernel
theorem dX3_back_26 : decode cX3_back 26 = .ok (.getfield 49, 3) := by decide +kernel
theorem dX3_back_29 : decode cX3_back 29 = .ok (.iconst 0, 1) := by decide +kernel
theorem dX3_back_30 : decode cX3_back 30 = .ok (.aload_n 0, 1) := by decide +kernel
theorem dX3_back_31 : decode cX3_back 31 = .ok (.getfield 49, 3) := by decide +kernel
theorem dX3_back_34 : decode cX3_back 34 = .ok (.arraylength, 1) := by decide +kernel
theorem dX3_back_35 : decode cX3_back 35 = .ok (.invokestatic 76, 3) := by decide +kernel
theorem dX3_back_38 : decode cX3_back 38 = .ok (.aload_n 1, 1) := by decide +kernel
theorem dX3_back_39 : decode cX3_back 39 = .ok (.aload_n 0, 1) := by decide +kernel
theorem dX3_back_40 : decode cX3_back 40 = .ok (.getfield 49, 3) := by decide +kernel
theorem dX3_back_43 : decode cX3_back 43 = .ok (.arraylength, 1) := by decide +kernel
theorem dX3_back_44 : decode cX3_back 44 = .ok (.aload_n 0, 1) := by decide +kernel
theorem dX3_back_45 : decode cX3_back 45 = .ok (.getfield 52, 3) := by decide +kernel
theorem dX3_back_48 : decode cX3_back 48 = .ok (.iconst 0, 1) := by decide +kernel
theorem dX3_back_49 : decode cX3_back 49 = .ok (.aload_n 0, 1) := by decide +kernel
theorem dX3_back_50 : decode cX3_back 50 = .ok (.getfield 49, 3) := by decide +kernel
theorem dX3_back_53 : decode cX3_back 53 = .ok (.arraylength, 1) := by decide +kernel
theorem dX3_back_54 : decode cX3_back 54 = .ok (.invokestatic 76, 3) := by decide +kernel
theorem dX3_back_57 : decode cX3_back 57 = .ok (.aload_n 0, 1) := by decide +kernel
theorem dX3_back_58 : decode cX3_back 58 = .ok (.getfield 9, 3) := by decide +kernel
theorem dX3_back_61 : decode cX3_back 61 = .ok (.arraylength, 1) := by decide +kernel
theorem dX3_back_62 : decode cX3_back 62 = .ok (.iconst 1, 1) := by decide +kernel
theorem dX3_back_63 : decode cX3_back 63 = .ok (.isub, 1) := by decide +kernel
theorem dX3_back_64 : decode cX3_back 64 = .ok (.anewarray 7, 3) := by decide +kernel
theorem dX3_back_67 : decode cX3_back 67 = .ok (.astore_n 2, 1) := by decide +kernel
theorem dX3_back_68 : decode cX3_back 68 = .ok (.aload_n 0, 1) := by decide +kernel
theorem dX3_back_69 : decode cX3_back 69 = .ok (.getfield 9, 3) := by decide +kernel
theorem dX3_back_72 : decode cX3_back 72 = .ok (.iconst 0, 1) := by decide +kernel
theorem dX3_back_73 : decode cX3_back 73 = .ok (.aload_n 2, 1) := by decide +kernel
theorem dX3_back_74 : decode cX3_back 74 = .ok (.iconst 0, 1) := by decide +kernel
theorem dX3_back_75 : decode cX3_back 75 = .ok (.aload_n 2, 1) := by decide +kernel
theorem dX3_back_76 : decode cX3_back 76 = .ok (.arraylength, 1) := by decide +kernel
theorem dX3_back_77 : decode cX3_back 77 = .ok (.invokestatic 76, 3) := by decide +kernel
theorem dX3_back_80 : decode cX3_back 80 = .ok (.aload_n 0, 1) := by decide +kernel
theorem dX3_back_81 : decode cX3_back 81 = .ok (.aload_n 2, 1) := by decide +kernel
theorem dX3_back_82 : decode cX3_back 82 = .ok (.putfield 9, 3) := by decide +kernel
theorem dX3_back_85 : decode cX3_back 85 = .ok (.aload_n 0, 1) := by decide +kernel
theorem dX3_back_86 : decode cX3_back 86 = .ok (.getfield 18, 3) := by decide +kernel
theorem dX3_back_89 : decode cX3_back 89 = .ok (.aload_n 0, 1) := by decide +kernel
theorem dX3_back_90 : decode cX3_back 90 = .ok (.getfield 39, 3) := by decide +kernel
theorem dX3_back_93 : decode cX3_back 93 = .ok (.invokevirtual 166, 3) := by decide +kernel
theorem dX3_back_96 : decode cX3_back 96 = .ok (.aload_n 2, 1) := by decide +kernel
theorem dX3_back_97 : decode cX3_back 97 = .ok (.arraylength, 1) := by decide +kernel
theorem dX3_back_98 : decode cX3_back 98 = .ok (.if_icmp .ne 7, 3) := by decide +kernel
theorem dX3_back_101 : decode cX3_back 101 = .ok (.iconst 1, 1) := by decide +kernel
theorem dX3_back_102 : decode cX3_back 102 = .ok (.goto 4, 3) := by decide +kernel
theorem dX3_back_105 : decode cX3_back 105 = .ok (.iconst 0, 1) := by decide +kernel
theorem dX3_back_106 : decode cX3_back 106 = .ok (.ireturn, 1) := by decide +kernel
theorem dX3_grease_0 : decode cX3_grease 0 = .ok (.aload_n 0, 1) := by decide +kernel
theorem dX3_grease_1 : decode cX3_grease 1 = .ok (.aload_n 0, 1) := by decide +kernel
theorem dX3_grease_2 : decode cX3_grease 2 = .ok (.getfield 49, 3) := by decide +kernel
theorem dX3_grease_5 : decode cX3_grease 5 = .ok (.arraylength, 1) := by decide +kernel
theorem dX3_grease_6 : decode cX3_grease 6 = .ok (.invokevirtual 42, 3) := by decide +kernel
theorem dX3_grease_9 : decode cX3_grease 9 = .ok (.istore_n 1, 1) := by decide +kernel
theorem dX3_grease_10 : decode cX3_grease 10 = .ok (.aload_n 0, 1) := by decide +kernel
theorem dX3_grease_11 : decode cX3_grease 11 = .ok (.getfield 56, 3) := by decide +kernel
theorem dX3_grease_14 : decode cX3_grease 14 = .ok (.iconst 0, 1) := by decide +kernel
theorem dX3_grease_15 : decode cX3_grease 15 = .ok (.aaload, 1) := by decide +kernel
theorem dX3_grease_16 : decode cX3_grease 16 = .ok (.iload_n 1, 1) := by decide +kernel
theorem dX3_grease_17 : decode cX3_grease 17 = .ok (.iaload, 1) := by decide +kernel
theorem dX3_grease_18 : decode cX3_grease 18 = .ok (.aload_n 0, 1) := by decide +kernel
theorem dX3_grease_19 : decode cX3_grease 19 = .ok (.getfield 56, 3) := by decide +kernel
theorem dX3_grease_22 : decode cX3_grease 22 = .ok (.iconst 1, 1) := by decide +kernel
theorem dX3_grease_23 : decode cX3_grease 23 = .ok (.aaload, 1) := by decide +kernel
theorem dX3_grease_24 : decode cX3_grease 24 = .ok (.iload_n 1, 1) := by decide +kernel
theorem dX3_grease_25 : decode cX3_grease 25 = .ok (.iaload, 1) := by decide +kernel
theorem dX3_grease_26 : decode cX3_grease 26 = .ok (.iadd, 1) := by decide +kernel
theorem dX3_grease_27 : decode cX3_grease 27 = .ok (.istore_n 2, 1) := by decide +kernel
theorem dX3_grease_28 : decode cX3_grease 28 = .ok (.aload_n 0, 1) := by decide +kernel
theorem dX3_grease_29 : decode cX3_grease 29 = .ok (.getfield 56, 3) := by decide +kernel
theorem dX3_grease_32 : decode cX3_grease 32 = .ok (.iconst 0, 1) := by decide +kernel
theorem dX3_grease_33 : decode cX3_grease 33 = .ok (.aaload, 1) := by decide +kernel
theorem dX3_grease_34 : decode cX3_grease 34 = .ok (.iload_n 1, 1) := by decide +kernel
theorem dX3_grease_35 : decode cX3_grease 35 = .ok (.iconst 0, 1) := by decide +kernel
theorem dX3_grease_36 : decode cX3_grease 36 = .ok (.iastore, 1) := by decide +kernel
theorem dX3_grease_37 : decode cX3_grease 37 = .ok (.aload_n 0, 1) := by decide +kernel
theorem dX3_grease_38 : decode cX3_grease 38 = .ok (.getfield 56, 3) := by decide +kernel
theorem dX3_grease_41 : decode cX3_grease 41 = .ok (.iconst 1, 1) := by decide +kernel
theorem dX3_grease_42 : decode cX3_grease 42 = .ok (.aaload, 1) := by decide +kernel
theorem dX3_grease_43 : decode cX3_grease 43 = .ok (.iload_n 1, 1) := by decide +kernel
theorem dX3_grease_44 : decode cX3_grease 44 = .ok (.iconst 0, 1) := by decide +kernel
theorem dX3_grease_45 : decode cX3_grease 45 = .ok (.iastore, 1) := by decide +kernel
theorem dX3_grease_46 : decode cX3_grease 46 = .ok (.aload_n 0, 1) := by decide +kernel
theorem dX3_grease_47 : decode cX3_grease 47 = .ok (.dup, 1) := by decide +kernel
theorem dX3_grease_48 : decode cX3_grease 48 = .ok (.getfield 87, 3) := by decide +kernel
theorem dX3_grease_51 : decode cX3_grease 51 = .ok (.ldc2_w 169, 3) := by decide +kernel
theorem dX3_grease_54 : decode cX3_grease 54 = .ok (.ladd, 1) := by decide +kernel
theorem dX3_grease_55 : decode cX3_grease 55 = .ok (.putfield 87, 3) := by decide +kernel
theorem dX3_grease_58 : decode cX3_grease 58 = .ok (.aload_n 0, 1) := by decide +kernel
theorem dX3_grease_59 : decode cX3_grease 59 = .ok (.getfield 18, 3) := by decide +kernel
theorem dX3_grease_62 : decode cX3_grease 62 = .ok (.aload_n 0, 1) := by decide +kernel
theorem dX3_grease_63 : decode cX3_grease 63 = .ok (.getfield 39, 3) := by decide +kernel
theorem dX3_grease_66 : decode cX3_grease 66 = .ok (.iload_n 1, 1) := by decide +kernel
theorem dX3_grease_67 : decode cX3_grease 67 = .ok (.invokevirtual 171, 3) := by decide +kernel
theorem dX3_grease_70 : decode cX3_grease 70 = .ok (.iload_n 2, 1) := by decide +kernel
theorem dX3_grease_71 : decode cX3_grease 71 = .ok (.if_icmp .ne 7, 3) := by decide +kernel
theorem dX3_grease_74 : decode cX3_grease 74 = .ok (.iconst 1, 1) := by decide +kernel
theorem dX3_grease_75 : decode cX3_grease 75 = .ok (.goto 4, 3) := by decide +kernel
theorem dX3_grease_78 : decode cX3_grease 78 = .ok (.iconst 0, 1) := by decide +kernel
theorem dX3_grease_79 : decode cX3_grease 79 = .ok (.ireturn, 1) := by decide +kernel
theorem dX3_act_0 : decode cX3_act 0 = .ok (.aload_n 0, 1) := by decide +kernel
theorem dX3_act_1 : decode cX3_act 1 = .ok (.bipush 17, 2) := by decide +kernel
theorem dX3_act_3 : decode cX3_act 3 = .ok (.invokevirtual 42, 3) := by decide +kernel
theorem dX3_act_6 : decode cX3_act 6 = .ok (.tableswitch 144 0 15 #[78, 78, 78, 78, 83, 83, 88, 93, 98, 103, 108, 129, 129, 134, 134, 139], 78) := by decide +kernel
theorem dX3_act_84 : decode cX3_act 84 = .ok (.aload_n 0, 1) := by decide +kernel
theorem dX3_act_85 : decode cX3_act 85 = .ok (.invokevirtual 174, 3) := by decide +kernel
theorem dX3_act_88 : decode cX3_act 88 = .ok (.ireturn, 1) := by decide +kernel
theorem dX3_act_89 : decode cX3_act 89 = .ok (.aload_n 0, 1) := by decide +kernel
theorem dX3_act_90 : decode cX3_act 90 = .ok (.invokevirtual 176, 3) := by decide +kernel
theorem dX3_act_93 : decode cX3_act 93 = .ok (.ireturn, 1) := by decide +kernel
theorem dX3_act_94 : decode cX3_act 94 = .ok (.aload_n 0, 1) := by decide +kernel
theorem dX3_act_95 : decode cX3_act 95 = .ok (.invokevirtual 178, 3) := by decide +kernel
theorem dX3_act_98 : decode cX3_act 98 = .ok (.ireturn, 1) := by decide +kernel
theorem dX3_act_99 : decode cX3_act 99 = .ok (.aload_n 0, 1) := by decide +kernel
theorem dX3_act_100 : decode cX3_act 100 = .ok (.invokevirtual 180, 3) := by decide +kernel
theorem dX3_act_103 : decode cX3_act 103 = .ok (.ireturn, 1) := by decide +kernel
theorem dX3_act_104 : decode cX3_act 104 = .ok (.aload_n 0, 1) := by decide +kernel
theorem dX3_act_105 : decode cX3_act 105 = .ok (.invokevirtual 182, 3) := by decide +kernel
theorem dX3_act_108 : decode cX3_act 108 = .ok (.ireturn, 1) := by decide +kernel
theorem dX3_act_109 : decode cX3_act 109 = .ok (.aload_n 0, 1) := by decide +kernel
theorem dX3_act_110 : decode cX3_act 110 = .ok (.invokevirtual 184, 3) := by decide +kernel
theorem dX3_act_113 : decode cX3_act 113 = .ok (.ireturn, 1) := by decide +kernel
theorem dX3_act_114 : decode cX3_act 114 = .ok (.aload_n 0, 1) := by decide +kernel
theorem dX3_act_115 : decode cX3_act 115 = .ok (.iconst 3, 1) := by decide +kernel
theorem dX3_act_116 : decode cX3_act 116 = .ok (.invokevirtual 42, 3) := by decide +kernel
theorem dX3_act_119 : decode cX3_act 119 = .ok (.ifCond .gt 10, 3) := by decide +kernel
theorem dX3_act_122 : decode cX3_act 122 = .ok (.aload_n 0, 1) := by decide +kernel
theorem dX3_act_123 : decode cX3_act 123 = .ok (.invokevirtual 186, 3) := by decide +kernel
theorem dX3_act_126 : decode cX3_act 126 = .ok (.ifCond .eq 7, 3) := by decide +kernel
theorem dX3_act_129 : decode cX3_act 129 = .ok (.iconst 1, 1) := by decide +kernel
theorem dX3_act_130 : decode cX3_act 130 = .ok (.goto 4, 3) := by decide +kernel
theorem dX3_act_133 : decode cX3_act 133 = .ok (.iconst 0, 1) := by decide +kernel
theorem dX3_act_134 : decode cX3_act 134 = .ok (.ireturn, 1) := by decide +kernel
theorem dX3_act_135 : decode cX3_act 135 = .ok (.aload_n 0, 1) := by decide +kernel
theorem dX3_act_136 : decode cX3_act 136 = .ok (.invokevirtual 188, 3) := by decide +kernel
theorem dX3_act_139 : decode cX3_act 139 = .ok (.ireturn, 1) := by decide +kernel
theorem dX3_act_140 : decode cX3_act 140 = .ok (.aload_n 0, 1) := by decide +kernel
theorem dX3_act_141 : decode cX3_act 141 = .ok (.invokevirtual 191, 3) := by decide +kernel
theorem dX3_act_144 : decode cX3_act 144 = .ok (.ireturn, 1) := by decide +kernel
theorem dX3_act_145 : decode cX3_act 145 = .ok (.aload_n 0, 1) := by decide +kernel
theorem dX3_act_146 : decode cX3_act 146 = .ok (.invokevirtual 193, 3) := by decide +kernel
theorem dX3_act_149 : decode cX3_act 149 = .ok (.ireturn, 1) := by decide +kernel
theorem dX3_act_150 : decode cX3_act 150 = .ok (.aload_n 0, 1) := by decide +kernel
theorem dX3_act_151 : decode cX3_act 151 = .ok (.iconst 2, 1) := by decide +kernel
theorem dX3_act_152 : decode cX3_act 152 = .ok (.invokevirtual 42, 3) := by decide +kernel
theorem dX3_act_155 : decode cX3_act 155 = .ok (.ifCond .eq 10, 3) := by decide +kernel
theorem dX3_act_158 : decode cX3_act 158 = .ok (.aload_n 0, 1) := by decide +kernel
theorem dX3_act_159 : decode cX3_act 159 = .ok (.invokevirtual 195, 3) := by decide +kernel
theorem dX3_act_162 : decode cX3_act 162 = .ok (.ifCond .eq 7, 3) := by decide +kernel
theorem dX3_act_165 : decode cX3_act 165 = .ok (.iconst 1, 1) := by decide +kernel
theorem dX3_act_166 : decode cX3_act 166 = .ok (.goto 4, 3) := by decide +kernel
theorem dX3_act_169 : decode cX3_act 169 = .ok (.iconst 0, 1) := by decide +kernel
theorem dX3_act_170 : decode cX3_act 170 = .ok (.ireturn, 1) := by decide +kernel
theorem dJ9_abs_0f7a4_0 : decode cJ9_abs_0f7a4 0 = .ok (.iload_n 0, 1) := by decide +kernel
theorem dJ9_abs_0f7a4_1 : decode cJ9_abs_0f7a4 1 = .ok (.ifCond .ge 8, 3) := by decide +kernel
theorem dJ9_abs_0f7a4_4 : decode cJ9_abs_0f7a4 4 = .ok (.iload_n 0, 1) := by decide +kernel
theorem dJ9_abs_0f7a4_5 : decode cJ9_abs_0f7a4 5 = .ok (.ineg, 1) := by decide +kernel
theorem dJ9_abs_0f7a4_6 : decode cJ9_abs_0f7a4 6 = .ok (.goto 4, 3) := by decide +kernel
theorem dJ9_abs_0f7a4_9 : decode cJ9_abs_0f7a4 9 = .ok (.iload_n 0, 1) := by decide +kernel
theorem dJ9_abs_0f7a4_10 : decode cJ9_abs_0f7a4 10 = .ok (.ireturn, 1) := by decide +kernel
theorem dJ9_min_7cf53_0 : decode cJ9_min_7cf53 0 = .ok (.iload_n 0, 1) := by decide +kernel
theorem dJ9_min_7cf53_1 : decode cJ9_min_7cf53 1 = .ok (.iload_n 1, 1) := by decide +kernel
theorem dJ9_min_7cf53_2 : decode cJ9_min_7cf53 2 = .ok (.if_icmp .gt 7, 3) := by decide +kernel
theorem dJ9_min_7cf53_5 : decode cJ9_min_7cf53 5 = .ok (.iload_n 0, 1) := by decide +kernel
theorem dJ9_min_7cf53_6 : decode cJ9_min_7cf53 6 = .ok (.goto 4, 3) := by decide +kernel
theorem dJ9_min_7cf53_9 : decode cJ9_min_7cf53 9 = .ok (.iload_n 1, 1) := by decide +kernel
theorem dJ9_min_7cf53_10 : decode cJ9_min_7cf53 10 = .ok (.ireturn, 1) := by decide +kernel
theorem dL_below_0 : decode cL_below 0 = .ok (.iload_n 0, 1) := by decide +kernel
theorem dL_below_1 : decode cL_below 1 = .ok (.ldc 7, 2) := by decide +kernel
theorem dL_below_3 : decode cL_below 3 = .ok (.iand, 1) := by decide +kernel
theorem dL_below_4 : decode cL_below 4 = .ok (.iload_n 1, 1) := by decide +kernel
theorem dL_below_5 : decode cL_below 5 = .ok (.irem, 1) := by decide +kernel
theorem dL_below_6 : decode cL_below 6 = .ok (.ireturn, 1) := by decide +kernel
theorem dL_cell_0 : decode cL_cell 0 = .ok (.iload_n 1, 1) := by decide +kernel
theorem dL_cell_1 : decode cL_cell 1 = .ok (.aload_n 0, 1) := by decide +kernel
theorem dL_cell_2 : decode cL_cell 2 = .ok (.arraylength, 1) := by decide +kernel
theorem dL_cell_3 : decode cL_cell 3 = .ok (.if_icmp .ge 9, 3) := by decide +kernel
theorem dL_cell_6 : decode cL_cell 6 = .ok (.aload_n 0, 1) := by decide +kernel
theorem dL_cell_7 : decode cL_cell 7 = .ok (.iload_n 1, 1) := by decide +kernel
theorem dL_cell_8 : decode cL_cell 8 = .ok (.iaload, 1) := by decide +kernel
theorem dL_cell_9 : decode cL_cell 9 = .ok (.goto 9, 3) := by decide +kernel
theorem dL_cell_12 : decode cL_cell 12 = .ok (.ldc 8, 2) := by decide +kernel
theorem dL_cell_14 : decode cL_cell 14 = .ok (.iload_n 1, 1) := by decide +kernel
theorem dL_cell_15 : decode cL_cell 15 = .ok (.iconst 3, 1) := by decide +kernel
theorem dL_cell_16 : decode cL_cell 16 = .ok (.iadd, 1) := by decide +kernel
theorem dL_cell_17 : decode cL_cell 17 = .ok (.imul, 1) := by decide +kernel
theorem dL_cell_18 : decode cL_cell 18 = .ok (.ireturn, 1) := by decide +kernel
theorem dL_law_0 : decode cL_law 0 = .ok (.iconst 0, 1) := by decide +kernel
theorem dL_law_1 : decode cL_law 1 = .ok (.istore_n 1, 1) := by decide +kernel
theorem dL_law_2 : decode cL_law 2 = .ok (.iload_n 1, 1) := by decide +kernel
theorem dL_law_3 : decode cL_law 3 = .ok (.iconst 3, 1) := by decide +kernel
theorem dL_law_4 : decode cL_law 4 = .ok (.if_icmp .ge 581, 3) := by decide +kernel
theorem dL_law_7 : decode cL_law 7 = .ok (.new 9, 3) := by decide +kernel
theorem dL_law_10 : decode cL_law 10 = .ok (.dup, 1) := by decide +kernel
theorem dL_law_11 : decode cL_law 11 = .ok (.invokespecial 11, 3) := by decide +kernel
theorem dL_law_14 : decode cL_law 14 = .ok (.astore_n 2, 1) := by decide +kernel
theorem dL_law_15 : decode cL_law 15 = .ok (.new 12, 3) := by decide +kernel
theorem dL_law_18 : decode cL_law 18 = .ok (.dup, 1) := by decide +kernel
theorem dL_law_19 : decode cL_law 19 = .ok (.aload_n 2, 1) := by decide +kernel
theorem dL_law_20 : decode cL_law 20 = .ok (.aload_n 0, 1) := by decide +kernel
theorem dL_law_21 : decode cL_law 21 = .ok (.bipush 31, 2) := by decide +kernel
theorem dL_law_23 : decode cL_law 23 = .ok (.iload_n 1, 1) := by decide +kernel
theorem dL_law_24 : decode cL_law 24 = .ok (.imul, 1) := by decide +kernel
theorem dL_law_25 : decode cL_law 25 = .ok (.bipush 7, 2) := by decide +kernel
theorem dL_law_27 : decode cL_law 27 = .ok (.iadd, 1) := by decide +kernel
theorem dL_law_28 : decode cL_law 28 = .ok (.invokespecial 14, 3) := by decide +kernel
theorem dL_law_31 : decode cL_law 31 = .ok (.astore_n 3, 1) := by decide +kernel
theorem dL_law_32 : decode cL_law 32 = .ok (.new 12, 3) := by decide +kernel
theorem dL_law_35 : decode cL_law 35 = .ok (.dup, 1) := by decide +kernel
theorem dL_law_36 : decode cL_law 36 = .ok (.aload_n 2, 1) := by decide +kernel
theorem dL_law_37 : decode cL_law 37 = .ok (.aload_n 0, 1) := by decide +kernel
theorem dL_law_38 : decode cL_law 38 = .ok (.bipush 31, 2) := by decide +kernel
theorem dL_law_40 : decode cL_law 40 = .ok (.iload_n 1, 1) := by decide +kernel
theorem dL_law_41 : decode cL_law 41 = .ok (.imul, 1) := by decide +kernel
theorem dL_law_42 : decode cL_law 42 = .ok (.bipush 111, 2) := by decide +kernel
theorem dL_law_44 : decode cL_law 44 = .ok (.iadd, 1) := by decide +kernel
theorem dL_law_45 : decode cL_law 45 = .ok (.invokespecial 14, 3) := by decide +kernel
theorem dL_law_48 : decode cL_law 48 = .ok (.astore 4, 2) := by decide +kernel
theorem dL_law_50 : decode cL_law 50 = .ok (.aload_n 3, 1) := by decide +kernel
theorem dL_law_51 : decode cL_law 51 = .ok (.iconst 0, 1) := by decide +kernel
theorem dL_law_52 : decode cL_law 52 = .ok (.invokevirtual 17, 3) := by decide +kernel
theorem dL_law_55 : decode cL_law 55 = .ok (.ifCond .eq 12, 3) := by decide +kernel
theorem dL_law_58 : decode cL_law 58 = .ok (.aload 4, 2) := by decide +kernel
theorem dL_law_60 : decode cL_law 60 = .ok (.iconst 1, 1) := by decide +kernel
theorem dL_law_61 : decode cL_law 61 = .ok (.invokevirtual 17, 3) := by decide +kernel
theorem dL_law_64 : decode cL_law 64 = .ok (.ifCond .ne 5, 3) := by decide +kernel
theorem dL_law_67 : decode cL_law 67 = .ok (.iconst 0, 1) := by decide +kernel
theorem dL_law_68 : decode cL_law 68 = .ok (.ireturn, 1) := by decide +kernel
theorem dL_law_69 : decode cL_law 69 = .ok (.iconst 0, 1) := by decide +kernel
theorem dL_law_70 : decode cL_law 70 = .ok (.istore 5, 2) := by decide +kernel
theorem dL_law_72 : decode cL_law 72 = .ok (.iload 5, 2) := by decide +kernel
theorem dL_law_74 : decode cL_law 74 = .ok (.iconst 5, 1) := by decide +kernel
theorem dL_law_75 : decode cL_law 75 = .ok (.if_icmp .ge 26, 3) := by decide +kernel
theorem dL_law_78 : decode cL_law 78 = .ok (.aload_n 3, 1) := by decide +kernel
theorem dL_law_79 : decode cL_law 79 = .ok (.invokevirtual 21, 3) := by decide +kernel
theorem dL_law_82 : decode cL_law 82 = .ok (.ifCond .eq 11, 3) := by decide +kernel
theorem dL_law_85 : decode cL_law 85 = .ok (.aload 4, 2) := by decide +kernel
theorem dL_law_87 : decode cL_law 87 = .ok (.invokevirtual 21, 3) := by decide +kernel
theorem dL_law_90 : decode cL_law 90 = .ok (.ifCond .ne 5, 3) := by decide +kernel
theorem dL_law_93 : decode cL_law 93 = .ok (.iconst 0, 1) := by decide +kernel
theorem dL_law_94 : decode cL_law 94 = .ok (.ireturn, 1) := by decide +kernel
theorem dL_law_95 : decode cL_law 95 = .ok (.iinc 5 1, 3) := by decide +kernel
theorem dL_law_98 : decode cL_law 98 = .ok (.goto (-26), 3) := by decide +kernel
theorem dL_law_101 : decode cL_law 101 = .ok (.iconst 0, 1) := by decide +kernel
theorem dL_law_102 : decode cL_law 102 = .ok (.istore 5, 2) := by decide +kernel
theorem dL_law_104 : decode cL_law 104 = .ok (.iload 5, 2) := by decide +kernel
theorem dL_law_106 : decode cL_law 106 = .ok (.iconst 4, 1) := by decide +kernel
theorem dL_law_107 : decode cL_law 107 = .ok (.if_icmp .ge 472, 3) := by decide +kernel
theorem dL_law_110 : decode cL_law 110 = .ok (.aload_n 3, 1) := by decide +kernel
theorem dL_law_111 : decode cL_law 111 = .ok (.iconst 3, 1) := by decide +kernel
theorem dL_law_112 : decode cL_law 112 = .ok (.invokevirtual 25, 3) := by decide +kernel
theorem dL_law_115 : decode cL_law 115 = .ok (.ifCond .ne 12, 3) := by decide +kernel
theorem dL_law_118 : decode cL_law 118 = .ok (.aload_n 3, 1) := by decide +kernel
theorem dL_law_119 : decode cL_law 119 = .ok (.bipush 100, 2) := by decide +kernel
theorem dL_law_121 : decode cL_law 121 = .ok (.invokevirtual 25, 3) := by decide +kernel
theorem dL_law_124 : decode cL_law 124 = .ok (.goto 9, 3) := by decide +kernel
theorem dL_law_127 : decode cL_law 127 = .ok (.aload_n 3, 1) := by decide +kernel
theorem dL_law_128 : decode cL_law 128 = .ok (.bipush 10, 2) := by decide +kernel
theorem dL_law_130 : decode cL_law 130 = .ok (.invokevirtual 25, 3) := by decide +kernel
theorem dL_law_133 : decode cL_law 133 = .ok (.istore 6, 2) := by decide +kernel
theorem dL_law_135 : decode cL_law 135 = .ok (.aload_n 2, 1) := by decide +kernel
theorem dL_law_136 : decode cL_law 136 = .ok (.invokevirtual 29, 3) := by decide +kernel
theorem dL_law_139 : decode cL_law 139 = .ok (.lstore 7, 2) := by decide +kernel
theorem dL_law_141 : decode cL_law 141 = .ok (.aload_n 2, 1) := by decide +kernel
theorem dL_law_142 : decode cL_law 142 = .ok (.iconst 0, 1) := by decide +kernel
theorem dL_law_143 : decode cL_law 143 = .ok (.iconst 1, 1) := by decide +kernel
theorem dL_law_144 : decode cL_law 144 = .ok (.iload 6, 2) := by decide +kernel
theorem dL_law_146 : decode cL_law 146 = .ok (.invokevirtual 33, 3) := by decide +kernel
theorem dL_law_149 : decode cL_law 149 = .ok (.istore 9, 2) := by decide +kernel
theorem dL_law_151 : decode cL_law 151 = .ok (.iconst 2, 1) := by decide +kernel
theorem dL_law_152 : decode cL_law 152 = .ok (.newarray .double, 2) := by decide +kernel
theorem dL_law_154 : decode cL_law 154 = .ok (.dup, 1) := by decide +kernel
theorem dL_law_155 : decode cL_law 155 = .ok (.iconst 0, 1) := by decide +kernel
theorem dL_law_156 : decode cL_law 156 = .ok (.aload_n 2, 1) := by decide +kernel
theorem dL_law_157 : decode cL_law 157 = .ok (.iconst 0, 1) := by decide +kernel
theorem dL_law_158 : decode cL_law 158 = .ok (.iload 6, 2) := by decide +kernel
theorem dL_law_160 : decode cL_law 160 = .ok (.invokevirtual 37, 3) := by decide +kernel
theorem dL_law_163 : decode cL_law 163 = .ok (.dastore, 1) := by decide +kernel
theorem dL_law_164 : decode cL_law 164 = .ok (.dup, 1) := by decide +kernel
theorem dL_law_165 : decode cL_law 165 = .ok (.iconst 1, 1) := by decide +kernel
theorem dL_law_166 : decode cL_law 166 = .ok (.aload_n 2, 1) := by decide +kernel
theorem dL_law_167 : decode cL_law 167 = .ok (.iconst 1, 1) := by decide +kernel
theorem dL_law_168 : decode cL_law 168 = .ok (.iload 6, 2) := by decide +kernel
theorem dL_law_170 : decode cL_law 170 = .ok (.invokevirtual 37, 3) := by decide +kernel
theorem dL_law_173 : decode cL_law 173 = .ok (.dastore, 1) := by decide +kernel
theorem dL_law_174 : decode cL_law 174 = .ok (.astore 10, 2) := by decide +kernel
theorem dL_law_176 : decode cL_law 176 = .ok (.aload_n 3, 1) := by decide +kernel
theorem dL_law_177 : decode cL_law 177 = .ok (.aload_n 3, 1) := by decide +kernel
theorem dL_law_178 : decode cL_law 178 = .ok (.getfield 41, 3) := by decide +kernel
theorem dL_law_181 : decode cL_law 181 = .ok (.arraylength, 1) := by decide +kernel
theorem dL_law_182 : decode cL_law 182 = .ok (.invokevirtual 25, 3) := by decide +kernel
theorem dL_law_185 : decode cL_law 185 = .ok (.istore 11, 2) := by decide +kernel
theorem dL_law_187 : decode cL_law 187 = .ok (.aload_n 2, 1) := by decide +kernel
theorem dL_law_188 : decode cL_law 188 = .ok (.iconst 0, 1) := by decide +kernel
theorem dL_law_189 : decode cL_law 189 = .ok (.iload 11, 2) := by decide +kernel
theorem dL_law_191 : decode cL_law 191 = .ok (.invokevirtual 45, 3) := by decide +kernel
theorem dL_law_194 : decode cL_law 194 = .ok (.istore 12, 2) := by decide +kernel
theorem dL_law_196 : decode cL_law 196 = .ok (.aload_n 2, 1) := by decide +kernel
theorem dL_law_197 : decode cL_law 197 = .ok (.invokevirtual 29, 3) := by decide +kernel
theorem dL_law_200 : decode cL_law 200 = .ok (.lload 7, 2) := by decide +kernel
theorem dL_law_202 : decode cL_law 202 = .ok (.lcmp, 1) := by decide +kernel
theorem dL_law_203 : decode cL_law 203 = .ok (.ifCond .ne 49, 3) := by decide +kernel
theorem dL_law_206 : decode cL_law 206 = .ok (.aload 10, 2) := by decide +kernel
theorem dL_law_208 : decode cL_law 208 = .ok (.iload 9, 2) := by decide +kernel
theorem dL_law_210 : decode cL_law 210 = .ok (.daload, 1) := by decide +kernel
theorem dL_law_211 : decode cL_law 211 = .ok (.aload 10, 2) := by decide +kernel
theorem dL_law_213 : decode cL_law 213 = .ok (.iconst 1, 1) := by decide +kernel
theorem dL_law_214 : decode cL_law 214 = .ok (.iload 9, 2) := by decide +kernel
theorem dL_law_216 : decode cL_law 216 = .ok (.isub, 1) := by decide +kernel
theorem dL_law_217 : decode cL_law 217 = .ok (.daload, 1) := by decide +kernel
theorem dL_law_218 : decode cL_law 218 = .ok (.dcmp .l, 1) := by decide +kernel
theorem dL_law_219 : decode cL_law 219 = .ok (.ifCond .gt 33, 3) := by decide +kernel
theorem dL_law_222 : decode cL_law 222 = .ok (.aload 10, 2) := by decide +kernel
theorem dL_law_224 : decode cL_law 224 = .ok (.iconst 0, 1) := by decide +kernel
theorem dL_law_225 : decode cL_law 225 = .ok (.daload, 1) := by decide +kernel
theorem dL_law_226 : decode cL_law 226 = .ok (.aload 10, 2) := by decide +kernel
theorem dL_law_228 : decode cL_law 228 = .ok (.iconst 1, 1) := by decide +kernel
theorem dL_law_229 : decode cL_law 229 = .ok (.daload, 1) := by decide +kernel
theorem dL_law_230 : decode cL_law 230 = .ok (.dcmp .l, 1) := by decide +kernel
theorem dL_law_231 : decode cL_law 231 = .ok (.ifCond .ne 8, 3) := by decide +kernel
theorem dL_law_234 : decode cL_law 234 = .ok (.iload 9, 2) := by decide +kernel
theorem dL_law_236 : decode cL_law 236 = .ok (.ifCond .ne 16, 3) := by decide +kernel
theorem dL_law_239 : decode cL_law 239 = .ok (.iload 12, 2) := by decide +kernel
theorem dL_law_241 : decode cL_law 241 = .ok (.iconst 1, 1) := by decide +kernel
theorem dL_law_242 : decode cL_law 242 = .ok (.if_icmp .lt 10, 3) := by decide +kernel
theorem dL_law_245 : decode cL_law 245 = .ok (.iload 12, 2) := by decide +kernel
theorem dL_law_247 : decode cL_law 247 = .ok (.bipush 9, 2) := by decide +kernel
theorem dL_law_249 : decode cL_law 249 = .ok (.if_icmp .le 5, 3) := by decide +kernel
theorem dL_law_252 : decode cL_law 252 = .ok (.iconst 0, 1) := by decide +kernel
theorem dL_law_253 : decode cL_law 253 = .ok (.ireturn, 1) := by decide +kernel
theorem dL_law_254 : decode cL_law 254 = .ok (.iconst 0, 1) := by decide +kernel
theorem dL_law_255 : decode cL_law 255 = .ok (.istore 13, 2) := by decide +kernel
theorem dL_law_257 : decode cL_law 257 = .ok (.iload 13, 2) := by decide +kernel
theorem dL_law_259 : decode cL_law 259 = .ok (.iconst 2, 1) := by decide +kernel
theorem dL_law_260 : decode cL_law 260 = .ok (.if_icmp .ge 203, 3) := by decide +kernel
theorem dL_law_263 : decode cL_law 263 = .ok (.aload_n 2, 1) := by decide +kernel
theorem dL_law_264 : decode cL_law 264 = .ok (.iload 13, 2) := by decide +kernel
theorem dL_law_266 : decode cL_law 266 = .ok (.invokevirtual 49, 3) := by decide +kernel
theorem dL_law_269 : decode cL_law 269 = .ok (.dstore 14, 2) := by decide +kernel
theorem dL_law_271 : decode cL_law 271 = .ok (.iconst 4, 1) := by decide +kernel
theorem dL_law_272 : decode cL_law 272 = .ok (.newarray .int, 2) := by decide +kernel
theorem dL_law_274 : decode cL_law 274 = .ok (.dup, 1) := by decide +kernel
theorem dL_law_275 : decode cL_law 275 = .ok (.iconst 0, 1) := by decide +kernel
theorem dL_law_276 : decode cL_law 276 = .ok (.aload_n 2, 1) := by decide +kernel
theorem dL_law_277 : decode cL_law 277 = .ok (.iload 13, 2) := by decide +kernel
theorem dL_law_279 : decode cL_law 279 = .ok (.iload 6, 2) := by decide +kernel
theorem dL_law_281 : decode cL_law 281 = .ok (.iconst 0, 1) := by decide +kernel
theorem dL_law_282 : decode cL_law 282 = .ok (.invokevirtual 53, 3) := by decide +kernel
theorem dL_law_285 : decode cL_law 285 = .ok (.iastore, 1) := by decide +kernel
theorem dL_law_286 : decode cL_law 286 = .ok (.dup, 1) := by decide +kernel
theorem dL_law_287 : decode cL_law 287 = .ok (.iconst 1, 1) := by decide +kernel
theorem dL_law_288 : decode cL_law 288 = .ok (.aload_n 2, 1) := by decide +kernel
theorem dL_law_289 : decode cL_law 289 = .ok (.iload 13, 2) := by decide +kernel
theorem dL_law_291 : decode cL_law 291 = .ok (.iload 6, 2) := by decide +kernel
theorem dL_law_293 : decode cL_law 293 = .ok (.iconst 1, 1) := by decide +kernel
theorem dL_law_294 : decode cL_law 294 = .ok (.invokevirtual 53, 3) := by decide +kernel
theorem dL_law_297 : decode cL_law 297 = .ok (.iastore, 1) := by decide +kernel
theorem dL_law_298 : decode cL_law 298 = .ok (.dup, 1) := by decide +kernel
theorem dL_law_299 : decode cL_law 299 = .ok (.iconst 2, 1) := by decide +kernel
theorem dL_law_300 : decode cL_law 300 = .ok (.aload_n 2, 1) := by decide +kernel
theorem dL_law_301 : decode cL_law 301 = .ok (.iload 13, 2) := by decide +kernel
theorem dL_law_303 : decode cL_law 303 = .ok (.iload 6, 2) := by decide +kernel
theorem dL_law_305 : decode cL_law 305 = .ok (.iconst 2, 1) := by decide +kernel
theorem dL_law_306 : decode cL_law 306 = .ok (.invokevirtual 53, 3) := by decide +kernel
theorem dL_law_309 : decode cL_law 309 = .ok (.iastore, 1) := by decide +kernel
theorem dL_law_310 : decode cL_law 310 = .ok (.dup, 1) := by decide +kernel
theorem dL_law_311 : decode cL_law 311 = .ok (.iconst 3, 1) := by decide +kernel
theorem dL_law_312 : decode cL_law 312 = .ok (.aload_n 2, 1) := by decide +kernel
theorem dL_law_313 : decode cL_law 313 = .ok (.iload 13, 2) := by decide +kernel
theorem dL_law_315 : decode cL_law 315 = .ok (.iload 6, 2) := by decide +kernel
theorem dL_law_317 : decode cL_law 317 = .ok (.iconst 3, 1) := by decide +kernel
theorem dL_law_318 : decode cL_law 318 = .ok (.invokevirtual 53, 3) := by decide +kernel
theorem dL_law_321 : decode cL_law 321 = .ok (.iastore, 1) := by decide +kernel
theorem dL_law_322 : decode cL_law 322 = .ok (.astore 16, 2) := by decide +kernel
theorem dL_law_324 : decode cL_law 324 = .ok (.iconst 4, 1) := by decide +kernel
theorem dL_law_325 : decode cL_law 325 = .ok (.newarray .int, 2) := by decide +kernel
theorem dL_law_327 : decode cL_law 327 = .ok (.dup, 1) := by decide +kernel
theorem dL_law_328 : decode cL_law 328 = .ok (.iconst 0, 1) := by decide +kernel
theorem dL_law_329 : decode cL_law 329 = .ok (.aload_n 2, 1) := by decide +kernel
theorem dL_law_330 : decode cL_law 330 = .ok (.iload 13, 2) := by decide +kernel
theorem dL_law_332 : decode cL_law 332 = .ok (.iconst 2, 1) := by decide +kernel
theorem dL_law_333 : decode cL_law 333 = .ok (.invokevirtual 56, 3) := by decide +kernel
theorem dL_law_336 : decode cL_law 336 = .ok (.iastore, 1) := by decide +kernel
theorem dL_law_337 : decode cL_law 337 = .ok (.dup, 1) := by decide +kernel
theorem dL_law_338 : decode cL_law 338 = .ok (.iconst 1, 1) := by decide +kernel
theorem dL_law_339 : decode cL_law 339 = .ok (.aload_n 2, 1) := by decide +kernel
theorem dL_law_340 : decode cL_law 340 = .ok (.iload 13, 2) := by decide +kernel
theorem dL_law_342 : decode cL_law 342 = .ok (.iconst 3, 1) := by decide +kernel
theorem dL_law_343 : decode cL_law 343 = .ok (.invokevirtual 56, 3) := by decide +kernel
theorem dL_law_346 : decode cL_law 346 = .ok (.iastore, 1) := by decide +kernel
theorem dL_law_347 : decode cL_law 347 = .ok (.dup, 1) := by decide +kernel
theorem dL_law_348 : decode cL_law 348 = .ok (.iconst 2, 1) := by decide +kernel
theorem dL_law_349 : decode cL_law 349 = .ok (.aload_n 2, 1) := by decide +kernel
theorem dL_law_350 : decode cL_law 350 = .ok (.iload 13, 2) := by decide +kernel
theorem dL_law_352 : decode cL_law 352 = .ok (.iconst 4, 1) := by decide +kernel
theorem dL_law_353 : decode cL_law 353 = .ok (.invokevirtual 56, 3) := by decide +kernel
theorem dL_law_356 : decode cL_law 356 = .ok (.iastore, 1) := by decide +kernel
theorem dL_law_357 : decode cL_law 357 = .ok (.dup, 1) := by decide +kernel
theorem dL_law_358 : decode cL_law 358 = .ok (.iconst 3, 1) := by decide +kernel
theorem dL_law_359 : decode cL_law 359 = .ok (.aload_n 2, 1) := by decide +kernel
theorem dL_law_360 : decode cL_law 360 = .ok (.iload 13, 2) := by decide +kernel
theorem dL_law_362 : decode cL_law 362 = .ok (.bipush 6, 2) := by decide +kernel
theorem dL_law_364 : decode cL_law 364 = .ok (.invokevirtual 56, 3) := by decide +kernel
theorem dL_law_367 : decode cL_law 367 = .ok (.iastore, 1) := by decide +kernel
theorem dL_law_368 : decode cL_law 368 = .ok (.astore 17, 2) := by decide +kernel
theorem dL_law_370 : decode cL_law 370 = .ok (.aload_n 2, 1) := by decide +kernel
theorem dL_law_371 : decode cL_law 371 = .ok (.iload 13, 2) := by decide +kernel
theorem dL_law_373 : decode cL_law 373 = .ok (.iload 6, 2) := by decide +kernel
theorem dL_law_375 : decode cL_law 375 = .ok (.invokevirtual 59, 3) := by decide +kernel
theorem dL_law_378 : decode cL_law 378 = .ok (.aload 16, 2) := by decide +kernel
theorem dL_law_380 : decode cL_law 380 = .ok (.iconst 0, 1) := by decide +kernel
theorem dL_law_381 : decode cL_law 381 = .ok (.iaload, 1) := by decide +kernel
theorem dL_law_382 : decode cL_law 382 = .ok (.if_icmp .ne 21, 3) := by decide +kernel
theorem dL_law_385 : decode cL_law 385 = .ok (.aload_n 2, 1) := by decide +kernel
theorem dL_law_386 : decode cL_law 386 = .ok (.iload 13, 2) := by decide +kernel
theorem dL_law_388 : decode cL_law 388 = .ok (.invokevirtual 49, 3) := by decide +kernel
theorem dL_law_391 : decode cL_law 391 = .ok (.dload 14, 2) := by decide +kernel
theorem dL_law_393 : decode cL_law 393 = .ok (.aload 10, 2) := by decide +kernel
theorem dL_law_395 : decode cL_law 395 = .ok (.iload 13, 2) := by decide +kernel
theorem dL_law_397 : decode cL_law 397 = .ok (.daload, 1) := by decide +kernel
theorem dL_law_398 : decode cL_law 398 = .ok (.dadd, 1) := by decide +kernel
theorem dL_law_399 : decode cL_law 399 = .ok (.dcmp .l, 1) := by decide +kernel
theorem dL_law_400 : decode cL_law 400 = .ok (.ifCond .eq 5, 3) := by decide +kernel
theorem dL_law_403 : decode cL_law 403 = .ok (.iconst 0, 1) := by decide +kernel
theorem dL_law_404 : decode cL_law 404 = .ok (.ireturn, 1) := by decide +kernel
theorem dL_law_405 : decode cL_law 405 = .ok (.iconst 0, 1) := by decide +kernel
theorem dL_law_406 : decode cL_law 406 = .ok (.istore 18, 2) := by decide +kernel
theorem dL_law_408 : decode cL_law 408 = .ok (.iload 18, 2) := by decide +kernel
theorem dL_law_410 : decode cL_law 410 = .ok (.iconst 4, 1) := by decide +kernel
theorem dL_law_411 : decode cL_law 411 = .ok (.if_icmp .ge 46, 3) := by decide +kernel
theorem dL_law_414 : decode cL_law 414 = .ok (.aload_n 2, 1) := by decide +kernel
theorem dL_law_415 : decode cL_law 415 = .ok (.iload 13, 2) := by decide +kernel
theorem dL_law_417 : decode cL_law 417 = .ok (.iload 18, 2) := by decide +kernel
theorem dL_law_419 : decode cL_law 419 = .ok (.iconst 3, 1) := by decide +kernel
theorem dL_law_420 : decode cL_law 420 = .ok (.if_icmp .ne 8, 3) := by decide +kernel
theorem dL_law_423 : decode cL_law 423 = .ok (.bipush 6, 2) := by decide +kernel
theorem dL_law_425 : decode cL_law 425 = .ok (.goto 7, 3) := by decide +kernel
theorem dL_law_428 : decode cL_law 428 = .ok (.iconst 2, 1) := by decide +kernel
theorem dL_law_429 : decode cL_law 429 = .ok (.iload 18, 2) := by decide +kernel
theorem dL_law_431 : decode cL_law 431 = .ok (.iadd, 1) := by decide +kernel
theorem dL_law_432 : decode cL_law 432 = .ok (.invokevirtual 56, 3) := by decide +kernel
theorem dL_law_435 : decode cL_law 435 = .ok (.aload 17, 2) := by decide +kernel
theorem dL_law_437 : decode cL_law 437 = .ok (.iload 18, 2) := by decide +kernel
theorem dL_law_439 : decode cL_law 439 = .ok (.iaload, 1) := by decide +kernel
theorem dL_law_440 : decode cL_law 440 = .ok (.aload 16, 2) := by decide +kernel
theorem dL_law_442 : decode cL_law 442 = .ok (.iload 18, 2) := by decide +kernel
theorem dL_law_444 : decode cL_law 444 = .ok (.iaload, 1) := by decide +kernel
theorem dL_law_445 : decode cL_law 445 = .ok (.iadd, 1) := by decide +kernel
theorem dL_law_446 : decode cL_law 446 = .ok (.if_icmp .eq 5, 3) := by decide +kernel
theorem dL_law_449 : decode cL_law 449 = .ok (.iconst 0, 1) := by decide +kernel
theorem dL_law_450 : decode cL_law 450 = .ok (.ireturn, 1) := by decide +kernel
theorem dL_law_451 : decode cL_law 451 = .ok (.iinc 18 1, 3) := by decide +kernel
theorem dL_law_454 : decode cL_law 454 = .ok (.goto (-46), 3) := by decide +kernel
theorem dL_law_457 : decode cL_law 457 = .ok (.iinc 13 1, 3) := by decide +kernel
theorem dL_law_460 : decode cL_law 460 = .ok (.goto (-203), 3) := by decide +kernel
theorem dL_law_463 : decode cL_law 463 = .ok (.iconst 1, 1) := by decide +kernel
theorem dL_law_464 : decode cL_law 464 = .ok (.istore 13, 2) := by decide +kernel
theorem dL_law_466 : decode cL_law 466 = .ok (.iconst 0, 1) := by decide +kernel
theorem dL_law_467 : decode cL_law 467 = .ok (.istore 14, 2) := by decide +kernel
theorem dL_law_469 : decode cL_law 469 = .ok (.iload 14, 2) := by decide +kernel
theorem dL_law_471 : decode cL_law 471 = .ok (.iload 11, 2) := by decide +kernel
theorem dL_law_473 : decode cL_law 473 = .ok (.if_icmp .ge 16, 3) := by decide +kernel
theorem dL_law_476 : decode cL_law 476 = .ok (.iload 13, 2) := by decide +kernel
theorem dL_law_478 : decode cL_law 478 = .ok (.bipush 10, 2) := by decide +kernel
theorem dL_law_480 : decode cL_law 480 = .ok (.imul, 1) := by decide +kernel
theorem dL_law_481 : decode cL_law 481 = .ok (.istore 13, 2) := by decide +kernel
theorem dL_law_483 : decode cL_law 483 = .ok (.iinc 14 1, 3) := by decide +kernel
theorem dL_law_486 : decode cL_law 486 = .ok (.goto (-17), 3) := by decide +kernel
theorem dL_law_489 : decode cL_law 489 = .ok (.aload_n 2, 1) := by decide +kernel
theorem dL_law_490 : decode cL_law 490 = .ok (.iconst 0, 1) := by decide +kernel
theorem dL_law_491 : decode cL_law 491 = .ok (.iload 11, 2) := by decide +kernel
theorem dL_law_493 : decode cL_law 493 = .ok (.invokevirtual 45, 3) := by decide +kernel
theorem dL_law_496 : decode cL_law 496 = .ok (.istore 12, 2) := by decide +kernel
theorem dL_law_498 : decode cL_law 498 = .ok (.aload_n 2, 1) := by decide +kernel
theorem dL_law_499 : decode cL_law 499 = .ok (.iconst 0, 1) := by decide +kernel
theorem dL_law_500 : decode cL_law 500 = .ok (.iload 12, 2) := by decide +kernel
theorem dL_law_502 : decode cL_law 502 = .ok (.iload 13, 2) := by decide +kernel
theorem dL_law_504 : decode cL_law 504 = .ok (.imul, 1) := by decide +kernel
theorem dL_law_505 : decode cL_law 505 = .ok (.iconst 0, 1) := by decide +kernel
theorem dL_law_506 : decode cL_law 506 = .ok (.invokevirtual 53, 3) := by decide +kernel
theorem dL_law_509 : decode cL_law 509 = .ok (.istore 14, 2) := by decide +kernel
theorem dL_law_511 : decode cL_law 511 = .ok (.iconst 1, 1) := by decide +kernel
theorem dL_law_512 : decode cL_law 512 = .ok (.istore 15, 2) := by decide +kernel
theorem dL_law_514 : decode cL_law 514 = .ok (.iload 15, 2) := by decide +kernel
theorem dL_law_516 : decode cL_law 516 = .ok (.bipush 10, 2) := by decide +kernel
theorem dL_law_518 : decode cL_law 518 = .ok (.if_icmp .ge 45, 3) := by decide +kernel
theorem dL_law_521 : decode cL_law 521 = .ok (.aload_n 2, 1) := by decide +kernel
theorem dL_law_522 : decode cL_law 522 = .ok (.iconst 0, 1) := by decide +kernel
theorem dL_law_523 : decode cL_law 523 = .ok (.iload 15, 2) := by decide +kernel
theorem dL_law_525 : decode cL_law 525 = .ok (.iload 13, 2) := by decide +kernel
theorem dL_law_527 : decode cL_law 527 = .ok (.imul, 1) := by decide +kernel
theorem dL_law_528 : decode cL_law 528 = .ok (.iconst 0, 1) := by decide +kernel
theorem dL_law_529 : decode cL_law 529 = .ok (.invokevirtual 53, 3) := by decide +kernel
theorem dL_law_532 : decode cL_law 532 = .ok (.istore 16, 2) := by decide +kernel
theorem dL_law_534 : decode cL_law 534 = .ok (.iload 16, 2) := by decide +kernel
theorem dL_law_536 : decode cL_law 536 = .ok (.iload 14, 2) := by decide +kernel
theorem dL_law_538 : decode cL_law 538 = .ok (.if_icmp .gt 17, 3) := by decide +kernel
theorem dL_law_541 : decode cL_law 541 = .ok (.iload 16, 2) := by decide +kernel
theorem dL_law_543 : decode cL_law 543 = .ok (.iload 14, 2) := by decide +kernel
theorem dL_law_545 : decode cL_law 545 = .ok (.if_icmp .ne 12, 3) := by decide +kernel
theorem dL_law_548 : decode cL_law 548 = .ok (.iload 15, 2) := by decide +kernel
theorem dL_law_550 : decode cL_law 550 = .ok (.iload 12, 2) := by decide +kernel
theorem dL_law_552 : decode cL_law 552 = .ok (.if_icmp .ge 5, 3) := by decide +kernel
theorem dL_law_555 : decode cL_law 555 = .ok (.iconst 0, 1) := by decide +kernel
theorem dL_law_556 : decode cL_law 556 = .ok (.ireturn, 1) := by decide +kernel
theorem dL_law_557 : decode cL_law 557 = .ok (.iinc 15 1, 3) := by decide +kernel
theorem dL_law_560 : decode cL_law 560 = .ok (.goto (-46), 3) := by decide +kernel
theorem dL_law_563 : decode cL_law 563 = .ok (.aload_n 2, 1) := by decide +kernel
theorem dL_law_564 : decode cL_law 564 = .ok (.aload_n 3, 1) := by decide +kernel
theorem dL_law_565 : decode cL_law 565 = .ok (.invokestatic 62, 3) := by decide +kernel
theorem dL_law_568 : decode cL_law 568 = .ok (.ifCond .ne 5, 3) := by decide +kernel
theorem dL_law_571 : decode cL_law 571 = .ok (.iconst 0, 1) := by decide +kernel
theorem dL_law_572 : decode cL_law 572 = .ok (.ireturn, 1) := by decide +kernel
theorem dL_law_573 : decode cL_law 573 = .ok (.iinc 5 1, 3) := by decide +kernel
theorem dL_law_576 : decode cL_law 576 = .ok (.goto (-472), 3) := by decide +kernel
theorem dL_law_579 : decode cL_law 579 = .ok (.iinc 1 1, 3) := by decide +kernel
theorem dL_law_582 : decode cL_law 582 = .ok (.goto (-580), 3) := by decide +kernel
theorem dL_law_585 : decode cL_law 585 = .ok (.iconst 1, 1) := by decide +kernel
theorem dL_law_586 : decode cL_law 586 = .ok (.ireturn, 1) := by decide +kernel
theorem dL_isTogether_0 : decode cL_isTogether 0 = .ok (.aload_n 0, 1) := by decide +kernel
theorem dL_isTogether_1 : decode cL_isTogether 1 = .ok (.iconst 0, 1) := by decide +kernel
theorem dL_isTogether_2 : decode cL_isTogether 2 = .ok (.invokevirtual 68, 3) := by decide +kernel
theorem dL_isTogether_5 : decode cL_isTogether 5 = .ok (.ifCond .lt 20, 3) := by decide +kernel
theorem dL_isTogether_8 : decode cL_isTogether 8 = .ok (.aload_n 0, 1) := by decide +kernel
theorem dL_isTogether_9 : decode cL_isTogether 9 = .ok (.iconst 1, 1) := by decide +kernel
theorem dL_isTogether_10 : decode cL_isTogether 10 = .ok (.invokevirtual 68, 3) := by decide +kernel
theorem dL_isTogether_13 : decode cL_isTogether 13 = .ok (.ifCond .lt 12, 3) := by decide +kernel
theorem dL_isTogether_16 : decode cL_isTogether 16 = .ok (.aload_n 0, 1) := by decide +kernel
theorem dL_isTogether_17 : decode cL_isTogether 17 = .ok (.iconst 4, 1) := by decide +kernel
theorem dL_isTogether_18 : decode cL_isTogether 18 = .ok (.invokevirtual 71, 3) := by decide +kernel
theorem dL_isTogether_21 : decode cL_isTogether 21 = .ok (.iconst 1, 1) := by decide +kernel
theorem dL_isTogether_22 : decode cL_isTogether 22 = .ok (.if_icmp .eq 5, 3) := by decide +kernel
theorem dL_isTogether_25 : decode cL_isTogether 25 = .ok (.iconst 0, 1) := by decide +kernel
theorem dL_isTogether_26 : decode cL_isTogether 26 = .ok (.ireturn, 1) := by decide +kernel
theorem dL_isTogether_27 : decode cL_isTogether 27 = .ok (.aload_n 1, 1) := by decide +kernel
theorem dL_isTogether_28 : decode cL_isTogether 28 = .ok (.bipush 90, 2) := by decide +kernel
theorem dL_isTogether_30 : decode cL_isTogether 30 = .ok (.invokevirtual 25, 3) := by decide +kernel
theorem dL_isTogether_33 : decode cL_isTogether 33 = .ok (.istore_n 2, 1) := by decide +kernel
theorem dL_isTogether_34 : decode cL_isTogether 34 = .ok (.iconst 2, 1) := by decide +kernel
theorem dL_isTogether_35 : decode cL_isTogether 35 = .ok (.aload_n 1, 1) := by decide +kernel
theorem dL_isTogether_36 : decode cL_isTogether 36 = .ok (.bipush 8, 2) := by decide +kernel
theorem dL_isTogether_38 : decode cL_isTogether 38 = .ok (.invokevirtual 25, 3) := by decide +kernel
theorem dL_isTogether_41 : decode cL_isTogether 41 = .ok (.iadd, 1) := by decide +kernel
theorem dL_isTogether_42 : decode cL_isTogether 42 = .ok (.istore_n 3, 1) := by decide +kernel
theorem dL_isTogether_43 : decode cL_isTogether 43 = .ok (.aload_n 0, 1) := by decide +kernel
theorem dL_isTogether_44 : decode cL_isTogether 44 = .ok (.iconst 3, 1) := by decide +kernel
theorem dL_isTogether_45 : decode cL_isTogether 45 = .ok (.invokevirtual 71, 3) := by decide +kernel
theorem dL_isTogether_48 : decode cL_isTogether 48 = .ok (.istore 4, 2) := by decide +kernel
theorem dL_isTogether_50 : decode cL_isTogether 50 = .ok (.aload_n 1, 1) := by decide +kernel
theorem dL_isTogether_51 : decode cL_isTogether 51 = .ok (.iload_n 2, 1) := by decide +kernel
theorem dL_isTogether_52 : decode cL_isTogether 52 = .ok (.iconst 1, 1) := by decide +kernel
theorem dL_isTogether_53 : decode cL_isTogether 53 = .ok (.iadd, 1) := by decide +kernel
theorem dL_isTogether_54 : decode cL_isTogether 54 = .ok (.invokevirtual 25, 3) := by decide +kernel
theorem dL_isTogether_57 : decode cL_isTogether 57 = .ok (.istore 5, 2) := by decide +kernel
theorem dL_isTogether_59 : decode cL_isTogether 59 = .ok (.iconst 0, 1) := by decide +kernel
theorem dL_isTogether_60 : decode cL_isTogether 60 = .ok (.istore 6, 2) := by decide +kernel
theorem dL_isTogether_62 : decode cL_isTogether 62 = .ok (.iload 6, 2) := by decide +kernel
theorem dL_isTogether_64 : decode cL_isTogether 64 = .ok (.iconst 2, 1) := by decide +kernel
theorem dL_isTogether_65 : decode cL_isTogether 65 = .ok (.if_icmp .ge 47, 3) := by decide +kernel
theorem dL_isTogether_68 : decode cL_isTogether 68 = .ok (.aload_n 0, 1) := by decide +kernel
theorem dL_isTogether_69 : decode cL_isTogether 69 = .ok (.iload 6, 2) := by decide +kernel
theorem dL_isTogether_71 : decode cL_isTogether 71 = .ok (.iload_n 2, 1) := by decide +kernel
theorem dL_isTogether_72 : decode cL_isTogether 72 = .ok (.invokevirtual 59, 3) := by decide +kernel
theorem dL_isTogether_75 : decode cL_isTogether 75 = .ok (.ifCond .lt 29, 3) := by decide +kernel
theorem dL_isTogether_78 : decode cL_isTogether 78 = .ok (.aload_n 0, 1) := by decide +kernel
theorem dL_isTogether_79 : decode cL_isTogether 79 = .ok (.iload 6, 2) := by decide +kernel
theorem dL_isTogether_81 : decode cL_isTogether 81 = .ok (.iload 5, 2) := by decide +kernel
theorem dL_isTogether_83 : decode cL_isTogether 83 = .ok (.invokevirtual 74, 3) := by decide +kernel
theorem dL_isTogether_86 : decode cL_isTogether 86 = .ok (.ifCond .lt 18, 3) := by decide +kernel
theorem dL_isTogether_89 : decode cL_isTogether 89 = .ok (.aload_n 0, 1) := by decide +kernel
theorem dL_isTogether_90 : decode cL_isTogether 90 = .ok (.iload 6, 2) := by decide +kernel
theorem dL_isTogether_92 : decode cL_isTogether 92 = .ok (.invokevirtual 77, 3) := by decide +kernel
theorem dL_isTogether_95 : decode cL_isTogether 95 = .ok (.iload_n 2, 1) := by decide +kernel
theorem dL_isTogether_96 : decode cL_isTogether 96 = .ok (.iload 5, 2) := by decide +kernel
theorem dL_isTogether_98 : decode cL_isTogether 98 = .ok (.isub, 1) := by decide +kernel
theorem dL_isTogether_99 : decode cL_isTogether 99 = .ok (.i2l, 1) := by decide +kernel
theorem dL_isTogether_100 : decode cL_isTogether 100 = .ok (.lcmp, 1) := by decide +kernel
theorem dL_isTogether_101 : decode cL_isTogether 101 = .ok (.ifCond .eq 5, 3) := by decide +kernel
theorem dL_isTogether_104 : decode cL_isTogether 104 = .ok (.iconst 0, 1) := by decide +kernel
theorem dL_isTogether_105 : decode cL_isTogether 105 = .ok (.ireturn, 1) := by decide +kernel
theorem dL_isTogether_106 : decode cL_isTogether 106 = .ok (.iinc 6 1, 3) := by decide +kernel
theorem dL_isTogether_109 : decode cL_isTogether 109 = .ok (.goto (-47), 3) := by decide +kernel
theorem dL_isTogether_112 : decode cL_isTogether 112 = .ok (.aload_n 0, 1) := by decide +kernel
theorem dL_isTogether_113 : decode cL_isTogether 113 = .ok (.iconst 0, 1) := by decide +kernel
theorem dL_isTogether_114 : decode cL_isTogether 114 = .ok (.iload_n 3, 1) := by decide +kernel
theorem dL_isTogether_115 : decode cL_isTogether 115 = .ok (.invokevirtual 81, 3) := by decide +kernel
theorem dL_isTogether_118 : decode cL_isTogether 118 = .ok (.istore 6, 2) := by decide +kernel
theorem dL_isTogether_120 : decode cL_isTogether 120 = .ok (.aload_n 0, 1) := by decide +kernel
theorem dL_isTogether_121 : decode cL_isTogether 121 = .ok (.iconst 1, 1) := by decide +kernel
theorem dL_isTogether_122 : decode cL_isTogether 122 = .ok (.iload_n 3, 1) := by decide +kernel
theorem dL_isTogether_123 : decode cL_isTogether 123 = .ok (.invokevirtual 81, 3) := by decide +kernel
theorem dL_isTogether_126 : decode cL_isTogether 126 = .ok (.iload 6, 2) := by decide +kernel
theorem dL_isTogether_128 : decode cL_isTogether 128 = .ok (.if_icmp .ne 49, 3) := by decide +kernel
theorem dL_isTogether_131 : decode cL_isTogether 131 = .ok (.iload 6, 2) := by decide +kernel
theorem dL_isTogether_133 : decode cL_isTogether 133 = .ok (.iload_n 2, 1) := by decide +kernel
theorem dL_isTogether_134 : decode cL_isTogether 134 = .ok (.iload 5, 2) := by decide +kernel
theorem dL_isTogether_136 : decode cL_isTogether 136 = .ok (.isub, 1) := by decide +kernel
theorem dL_isTogether_137 : decode cL_isTogether 137 = .ok (.iload_n 3, 1) := by decide +kernel
theorem dL_isTogether_138 : decode cL_isTogether 138 = .ok (.irem, 1) := by decide +kernel
theorem dL_isTogether_139 : decode cL_isTogether 139 = .ok (.if_icmp .ne 38, 3) := by decide +kernel
theorem dL_isTogether_142 : decode cL_isTogether 142 = .ok (.aload_n 0, 1) := by decide +kernel
theorem dL_isTogether_143 : decode cL_isTogether 143 = .ok (.iconst 0, 1) := by decide +kernel
theorem dL_isTogether_144 : decode cL_isTogether 144 = .ok (.invokevirtual 77, 3) := by decide +kernel
theorem dL_isTogether_147 : decode cL_isTogether 147 = .ok (.iload_n 2, 1) := by decide +kernel
theorem dL_isTogether_148 : decode cL_isTogether 148 = .ok (.iload 5, 2) := by decide +kernel
theorem dL_isTogether_150 : decode cL_isTogether 150 = .ok (.isub, 1) := by decide +kernel
theorem dL_isTogether_151 : decode cL_isTogether 151 = .ok (.iload_n 3, 1) := by decide +kernel
theorem dL_isTogether_152 : decode cL_isTogether 152 = .ok (.idiv, 1) := by decide +kernel
theorem dL_isTogether_153 : decode cL_isTogether 153 = .ok (.i2l, 1) := by decide +kernel
theorem dL_isTogether_154 : decode cL_isTogether 154 = .ok (.lcmp, 1) := by decide +kernel
theorem dL_isTogether_155 : decode cL_isTogether 155 = .ok (.ifCond .ne 22, 3) := by decide +kernel
theorem dL_isTogether_158 : decode cL_isTogether 158 = .ok (.aload_n 0, 1) := by decide +kernel
theorem dL_isTogether_159 : decode cL_isTogether 159 = .ok (.iconst 4, 1) := by decide +kernel
theorem dL_isTogether_160 : decode cL_isTogether 160 = .ok (.invokevirtual 71, 3) := by decide +kernel
theorem dL_isTogether_163 : decode cL_isTogether 163 = .ok (.iconst 1, 1) := by decide +kernel
theorem dL_isTogether_164 : decode cL_isTogether 164 = .ok (.if_icmp .ne 13, 3) := by decide +kernel
theorem dL_isTogether_167 : decode cL_isTogether 167 = .ok (.aload_n 0, 1) := by decide +kernel
theorem dL_isTogether_168 : decode cL_isTogether 168 = .ok (.iconst 3, 1) := by decide +kernel
theorem dL_isTogether_169 : decode cL_isTogether 169 = .ok (.invokevirtual 71, 3) := by decide +kernel
theorem dL_isTogether_172 : decode cL_isTogether 172 = .ok (.iload 4, 2) := by decide +kernel
theorem dL_isTogether_174 : decode cL_isTogether 174 = .ok (.if_icmp .eq 5, 3) := by decide +kernel
theorem dL_isTogether_177 : decode cL_isTogether 177 = .ok (.iconst 0, 1) := by decide +kernel
theorem dL_isTogether_178 : decode cL_isTogether 178 = .ok (.ireturn, 1) := by decide +kernel
theorem dL_isTogether_179 : decode cL_isTogether 179 = .ok (.aload_n 0, 1) := by decide +kernel
theorem dL_isTogether_180 : decode cL_isTogether 180 = .ok (.iconst 0, 1) := by decide +kernel
theorem dL_isTogether_181 : decode cL_isTogether 181 = .ok (.iload_n 3, 1) := by decide +kernel
theorem dL_isTogether_182 : decode cL_isTogether 182 = .ok (.invokevirtual 84, 3) := by decide +kernel
theorem dL_isTogether_185 : decode cL_isTogether 185 = .ok (.ifCond .ne 45, 3) := by decide +kernel
theorem dL_isTogether_188 : decode cL_isTogether 188 = .ok (.aload_n 0, 1) := by decide +kernel
theorem dL_isTogether_189 : decode cL_isTogether 189 = .ok (.iconst 0, 1) := by decide +kernel
theorem dL_isTogether_190 : decode cL_isTogether 190 = .ok (.iload 6, 2) := by decide +kernel
theorem dL_isTogether_192 : decode cL_isTogether 192 = .ok (.invokevirtual 59, 3) := by decide +kernel
theorem dL_isTogether_195 : decode cL_isTogether 195 = .ok (.ifCond .lt 35, 3) := by decide +kernel
theorem dL_isTogether_198 : decode cL_isTogether 198 = .ok (.aload_n 0, 1) := by decide +kernel
theorem dL_isTogether_199 : decode cL_isTogether 199 = .ok (.iconst 0, 1) := by decide +kernel
theorem dL_isTogether_200 : decode cL_isTogether 200 = .ok (.invokevirtual 77, 3) := by decide +kernel
theorem dL_isTogether_203 : decode cL_isTogether 203 = .ok (.iload_n 2, 1) := by decide +kernel
theorem dL_isTogether_204 : decode cL_isTogether 204 = .ok (.iload 5, 2) := by decide +kernel
theorem dL_isTogether_206 : decode cL_isTogether 206 = .ok (.isub, 1) := by decide +kernel
theorem dL_isTogether_207 : decode cL_isTogether 207 = .ok (.i2l, 1) := by decide +kernel
theorem dL_isTogether_208 : decode cL_isTogether 208 = .ok (.lcmp, 1) := by decide +kernel
theorem dL_isTogether_209 : decode cL_isTogether 209 = .ok (.ifCond .ne 21, 3) := by decide +kernel
theorem dL_isTogether_212 : decode cL_isTogether 212 = .ok (.aload_n 0, 1) := by decide +kernel
theorem dL_isTogether_213 : decode cL_isTogether 213 = .ok (.iconst 0, 1) := by decide +kernel
theorem dL_isTogether_214 : decode cL_isTogether 214 = .ok (.iconst 1, 1) := by decide +kernel
theorem dL_isTogether_215 : decode cL_isTogether 215 = .ok (.invokevirtual 87, 3) := by decide +kernel
theorem dL_isTogether_218 : decode cL_isTogether 218 = .ok (.ifCond .lt 12, 3) := by decide +kernel
theorem dL_isTogether_221 : decode cL_isTogether 221 = .ok (.aload_n 0, 1) := by decide +kernel
theorem dL_isTogether_222 : decode cL_isTogether 222 = .ok (.iconst 4, 1) := by decide +kernel
theorem dL_isTogether_223 : decode cL_isTogether 223 = .ok (.invokevirtual 71, 3) := by decide +kernel
theorem dL_isTogether_226 : decode cL_isTogether 226 = .ok (.iconst 1, 1) := by decide +kernel
theorem dL_isTogether_227 : decode cL_isTogether 227 = .ok (.if_icmp .eq 5, 3) := by decide +kernel
theorem dL_isTogether_230 : decode cL_isTogether 230 = .ok (.iconst 0, 1) := by decide +kernel
theorem dL_isTogether_231 : decode cL_isTogether 231 = .ok (.ireturn, 1) := by decide +kernel
theorem dL_isTogether_232 : decode cL_isTogether 232 = .ok (.aload_n 0, 1) := by decide +kernel
theorem dL_isTogether_233 : decode cL_isTogether 233 = .ok (.iconst 0, 1) := by decide +kernel
theorem dL_isTogether_234 : decode cL_isTogether 234 = .ok (.iconst 0, 1) := by decide +kernel
theorem dL_isTogether_235 : decode cL_isTogether 235 = .ok (.invokevirtual 90, 3) := by decide +kernel
theorem dL_isTogether_238 : decode cL_isTogether 238 = .ok (.iload_n 2, 1) := by decide +kernel
theorem dL_isTogether_239 : decode cL_isTogether 239 = .ok (.iload 5, 2) := by decide +kernel
theorem dL_isTogether_241 : decode cL_isTogether 241 = .ok (.isub, 1) := by decide +kernel
theorem dL_isTogether_242 : decode cL_isTogether 242 = .ok (.bipush 10, 2) := by decide +kernel
theorem dL_isTogether_244 : decode cL_isTogether 244 = .ok (.irem, 1) := by decide +kernel
theorem dL_isTogether_245 : decode cL_isTogether 245 = .ok (.if_icmp .ne 39, 3) := by decide +kernel
theorem dL_isTogether_248 : decode cL_isTogether 248 = .ok (.aload_n 0, 1) := by decide +kernel
theorem dL_isTogether_249 : decode cL_isTogether 249 = .ok (.iconst 0, 1) := by decide +kernel
theorem dL_isTogether_250 : decode cL_isTogether 250 = .ok (.invokevirtual 77, 3) := by decide +kernel
theorem dL_isTogether_253 : decode cL_isTogether 253 = .ok (.iload_n 2, 1) := by decide +kernel
theorem dL_isTogether_254 : decode cL_isTogether 254 = .ok (.iload 5, 2) := by decide +kernel
theorem dL_isTogether_256 : decode cL_isTogether 256 = .ok (.isub, 1) := by decide +kernel
theorem dL_isTogether_257 : decode cL_isTogether 257 = .ok (.bipush 10, 2) := by decide +kernel
theorem dL_isTogether_259 : decode cL_isTogether 259 = .ok (.idiv, 1) := by decide +kernel
theorem dL_isTogether_260 : decode cL_isTogether 260 = .ok (.i2l, 1) := by decide +kernel
theorem dL_isTogether_261 : decode cL_isTogether 261 = .ok (.lcmp, 1) := by decide +kernel
theorem dL_isTogether_262 : decode cL_isTogether 262 = .ok (.ifCond .ne 22, 3) := by decide +kernel
theorem dL_isTogether_265 : decode cL_isTogether 265 = .ok (.aload_n 0, 1) := by decide +kernel
theorem dL_isTogether_266 : decode cL_isTogether 266 = .ok (.iconst 0, 1) := by decide +kernel
theorem dL_isTogether_267 : decode cL_isTogether 267 = .ok (.iconst 1, 1) := by decide +kernel
theorem dL_isTogether_268 : decode cL_isTogether 268 = .ok (.invokevirtual 90, 3) := by decide +kernel
theorem dL_isTogether_271 : decode cL_isTogether 271 = .ok (.ifCond .ne 13, 3) := by decide +kernel
theorem dL_isTogether_274 : decode cL_isTogether 274 = .ok (.aload_n 0, 1) := by decide +kernel
theorem dL_isTogether_275 : decode cL_isTogether 275 = .ok (.iconst 3, 1) := by decide +kernel
theorem dL_isTogether_276 : decode cL_isTogether 276 = .ok (.invokevirtual 71, 3) := by decide +kernel
theorem dL_isTogether_279 : decode cL_isTogether 279 = .ok (.iload 4, 2) := by decide +kernel
theorem dL_isTogether_281 : decode cL_isTogether 281 = .ok (.if_icmp .eq 5, 3) := by decide +kernel
theorem dL_isTogether_284 : decode cL_isTogether 284 = .ok (.iconst 0, 1) := by decide +kernel
theorem dL_isTogether_285 : decode cL_isTogether 285 = .ok (.ireturn, 1) := by decide +kernel
theorem dL_isTogether_286 : decode cL_isTogether 286 = .ok (.aload_n 0, 1) := by decide +kernel
theorem dL_isTogether_287 : decode cL_isTogether 287 = .ok (.iconst 0, 1) := by decide +kernel
theorem dL_isTogether_288 : decode cL_isTogether 288 = .ok (.invokevirtual 77, 3) := by decide +kernel
theorem dL_isTogether_291 : decode cL_isTogether 291 = .ok (.iload_n 2, 1) := by decide +kernel
theorem dL_isTogether_292 : decode cL_isTogether 292 = .ok (.iload 5, 2) := by decide +kernel
theorem dL_isTogether_294 : decode cL_isTogether 294 = .ok (.isub, 1) := by decide +kernel
theorem dL_isTogether_295 : decode cL_isTogether 295 = .ok (.bipush 10, 2) := by decide +kernel
theorem dL_isTogether_297 : decode cL_isTogether 297 = .ok (.idiv, 1) := by decide +kernel
theorem dL_isTogether_298 : decode cL_isTogether 298 = .ok (.bipush 10, 2) := by decide +kernel
theorem dL_isTogether_300 : decode cL_isTogether 300 = .ok (.imul, 1) := by decide +kernel
theorem dL_isTogether_301 : decode cL_isTogether 301 = .ok (.i2l, 1) := by decide +kernel
theorem dL_isTogether_302 : decode cL_isTogether 302 = .ok (.lcmp, 1) := by decide +kernel
theorem dL_isTogether_303 : decode cL_isTogether 303 = .ok (.ifCond .ne 7, 3) := by decide +kernel
theorem dL_isTogether_306 : decode cL_isTogether 306 = .ok (.iconst 1, 1) := by decide +kernel
theorem dL_isTogether_307 : decode cL_isTogether 307 = .ok (.goto 4, 3) := by decide +kernel
theorem dL_isTogether_310 : decode cL_isTogether 310 = .ok (.iconst 0, 1) := by decide +kernel
theorem dL_isTogether_311 : decode cL_isTogether 311 = .ok (.ireturn, 1) := by decide +kernel
end
section
-- laid by wip/p30/lib.py
/-- a value gets a name -/
def bnd {α β : Type} (x : α) (k : α → Option β) : Option β := k x
theorem bnd_all {α β : Type} {x : α} {k : α → Option β} {r : Option β} (h : bnd x k = r) : ∀ y, y = x → k y = r := by
  intro y hy
  subst hy
  exact h
/-- a guard -/
def gd {β : Type} (b : Bool) (k : Option β) : Option β := match b with
  | true => k
  | false => none
theorem gd_e {β : Type} {b : Bool} {k : Option β} {r : β} (h : gd b k = some r) : b = true ∧ k = some r := by
  cases b
  · cases h
  · exact ⟨rfl, h⟩
/-- what a callee answers -/
def obd {α β : Type} (x : Option α) (k : α → Option β) : Option β := match x with
  | none => none
  | some a => k a
theorem obd_e {α β : Type} {x : Option α} {k : α → Option β} {r : β} (h : obd x k = some r) : ∃ a, x = some a ∧ k a = some r := by
  cases x with
  | none => cases h
  | some a => exact ⟨a, rfl, h⟩
def jn {α β : Type} (x : α) (k : α → Option β) : Option β := k x
theorem jn_e {α β : Type} {x : α} {k : α → Option β} {r : β} (h : jn x k = some r) : ∃ y, y = x ∧ k y = some r := ⟨x, rfl, h⟩
theorem ite_t {c : Prop} [Decidable c] {α : Type} {a b r : α} (h : (if c then a else b) = r) (hc : c) : a = r := by rw [if_pos hc] at h; exact h
theorem ite_f {c : Prop} [Decidable c] {α : Type} {a b r : α} (h : (if c then a else b) = r) (hc : ¬ c) : b = r := by rw [if_neg hc] at h; exact h
def gin (i : Int32) (n : Nat) : Bool := decide (0 ≤ i.toInt) && decide (i.toInt < (n : Int))
theorem gin_in {i : Int32} {n : Nat} (h : gin i n = true) : vp_in i n := by
  simp only [gin, Bool.and_eq_true, decide_eq_true_eq] at h
  exact vp_in_iff.mpr h
def nn32 (r : UInt32) : Bool := decide (r &&& 0x7fffffff ≤ 0x7f800000)
theorem nn32_e {r : UInt32} (h : nn32 r = true) : vf_n32 r := by
  unfold nn32 at h
  unfold vf_n32
  simpa using h
def nn64 (r : UInt64) : Bool := decide (r &&& 0x7fffffffffffffff ≤ 0x7ff0000000000000)
theorem nn64_e {r : UInt64} (h : nn64 r = true) : vf_n64 r := by
  unfold nn64 at h
  unfold vf_n64
  simpa using h
def nz32 (x : Int32) : Bool := decide (x ≠ 0)
theorem nz32_e {x : Int32} (h : nz32 x = true) : ¬ x = 0 := by
  unfold nz32 at h
  simpa using h
def nz64 (x : Int64) : Bool := decide (x ≠ 0)
theorem nz64_e {x : Int64} (h : nz64 x = true) : ¬ x = 0 := by
  unfold nz64 at h
  simpa using h
/-- a method's start: its cells, apart, the classes, and what else it asks -/
abbrev sbPre (D : va_G) (tys : List (ClassId × FieldType)) (wc : va_W) (E : Nat → State → Prop) (sz : Nat) (avs : List Value) : Array Value → State → Prop :=
  va_Pc avs (fun U => U.heap.size = sz ∧ va_P D vwCl wc U.heap ∧ va_K D vwCl tys U ∧ va_D (fun _ => True) wc ∧ E sz U)
/-- its end -/
abbrev sbEnd {S : Type} (D : va_G) (w1 : S → va_W) (A : Nat → Prop) : S → State → Prop := fun u t => va_P D vwCl (w1 u) t.heap ∧ va_D A (w1 u)
abbrev E0 : Nat → State → Prop := fun _ _ => True
theorem sb_blind {D : va_G} {tys : List (ClassId × FieldType)} {wc : va_W} {E : Nat → State → Prop} {sz : Nat} {avs : List Value} (hE : ∀ (U : State) (g : JFrame) (mk : MethodId) (a : Array Value), E sz U → E sz (U.calling g mk a)) : FrameBlind (sbPre D tys wc E sz avs) := by
  intro a U g mk q
  obtain ⟨q0, q1, qP, qK, qD, qE⟩ := q
  exact ⟨q0, q1, qP, va_K.moved (u := U) (U := U.calling g mk a) (Vm.Alike.refl U.vm) qK, qD, hE U g mk a qE⟩
theorem sb_sub {D : va_G} {cl : List vw_C} {ws wc : va_W} {H : Heap} (hP : va_P D cl ws H) (is : List Nat) (hC : is.map (fun i => ws[i]?) = wc.map some) : va_P D cl wc H := by
  intro k q hq
  have h1 : (is.map (fun i => ws[i]?))[k]? = some (some q) := by rw [hC, List.getElem?_map, hq]; rfl
  rw [List.getElem?_map] at h1
  cases hi : is[k]? with
  | none => rw [hi] at h1; cases h1
  | some i => rw [hi] at h1; exact hP i q (Option.some.inj h1)
abbrev ws_ (y : MethodName) (b : ByteArray) (n : Nat) (r : Option FieldType) : List Cond := .code y b n r :: LW
theorem lw_good1 {w : Cond} (h : w ∈ LW) : goodWord w = true := List.all_eq_true.mp LW_good w h
theorem g_ws {y : MethodName} {b : ByteArray} {n : Nat} {r : Option FieldType} (h : (Cond.code y b n r) ∈ LW) : GoodIn LW (ws_ y b n r) := by
  intro w hw
  rcases List.mem_cons.mp hw with rfl | hw
  · exact ⟨h, good_of_word (lw_good1 h)⟩
  · exact ⟨hw, good_of_word (lw_good1 hw)⟩
theorem g_V {own C : String} {idx : Nat} {y : MethodName} {b : ByteArray} {n : Nat} {r : Option FieldType} (h1 : (Cond.methodLink own idx y) ∈ LW) (h2 : (Cond.instanceMethod y) ∈ LW) (h3 : (Cond.selects C y y) ∈ LW) (h4 : (Cond.initialized C) ∈ LW) (h5 : (Cond.code y b n r) ∈ LW) : GoodIn LW (wsV own idx C y (ws_ y b n r)) := by
  intro w hw
  rcases List.mem_append.mp hw with hw | hw
  · simp only [List.mem_cons, List.not_mem_nil, or_false] at hw
    rcases hw with rfl | rfl | rfl | rfl
    · exact ⟨h1, good_of_word (lw_good1 h1)⟩
    · exact ⟨h2, good_of_word (lw_good1 h2)⟩
    · exact ⟨h3, good_of_word (lw_good1 h3)⟩
    · exact ⟨h4, good_of_word (lw_good1 h4)⟩
  · exact g_ws h5 w hw
theorem g_S {own : String} {idx : Nat} {y : MethodName} {b : ByteArray} {n : Nat} {r : Option FieldType} (h1 : (Cond.methodLink own idx y) ∈ LW) (h2 : (Cond.static y) ∈ LW) (h4 : (Cond.initialized y.cls) ∈ LW) (h5 : (Cond.code y b n r) ∈ LW) : GoodIn LW (va_wsS own idx y (ws_ y b n r)) := by
  intro w hw
  rcases List.mem_append.mp hw with hw | hw
  · simp only [List.mem_cons, List.not_mem_nil, or_false] at hw
    rcases hw with rfl | rfl | rfl
    · exact ⟨h1, good_of_word (lw_good1 h1)⟩
    · exact ⟨h2, good_of_word (lw_good1 h2)⟩
    · exact ⟨h4, good_of_word (lw_good1 h4)⟩
  · exact g_ws h5 w hw

section SBCALL
variable {p : Program} {l : Launch} {e : Env} {R : Room} {s : State} {m : MethodId} {args : Array Value} {below : List Frame} {meth : Method} {c : Code} {H : Heap} {locs : List Loc} {cells slots : Nat} {Q : State → Prop}
variable {pc : Nat} {ls : Array Slot} {rest st0 : List Value} {A0 : Nat → Prop} {mc ms nL maxL n idx : Nat} {cc bytes : ByteArray} {own C : String} {y : MethodName} {ret : Option FieldType} {rm : Room} {D : va_G} {tys : List (ClassId × FieldType)} {ws wc : va_W} {E : Nat → State → Prop} {b : Nat} {As : List Value}
theorem sb_Vi {S : Type} {post : Int32 → S → Prop} {w1 : S → va_W} (Sx : CallFix p m c cc nL s args LW own)
    (hM : ∀ sz : Nat, Met l y (ws_ y bytes maxL ret) rm (sbPre D tys wc E sz (.ref b :: As)) (va_Qi post (sbEnd D w1 (va_A wc sz)) (va_A wc sz)) mc ms (va_A wc sz))
    (cw : CallW R s args own C idx y bytes maxL ret (ws_ y bytes maxL ret) rm mc ms n) (q0 ci : Nat) {fs : List Value} {T : u_T} {N : Nat} (hc : vwCl[ci]? = some (C, T, N)) (he : wc[q0]? = some (b, .inr (ci, fs)))
    (hK : va_K D vwCl tys s) (hP : va_P D vwCl ws H) (hD : va_D A0 ws) (hS : va_S A0 s.heap H locs) (hA : ∀ q, s.heap.size ≤ q → A0 q)
    (isC isR : List Nat) (hC : isC.map (fun i => ws[i]?) = wc.map some) (hR : isR.map (fun i => ws[i]?) = (isR.filterMap (fun i => ws[i]?)).map some) (hnC : va_nd isC = true) (hn : va_nd isR = true) (hdis : ∀ i ∈ isR, i ∉ isC)
    (hEb : ∀ (U : State) (g : JFrame) (mk : MethodId) (a : Array Value), E H.size U → E H.size (U.calling g mk a)) (hE : ∀ U : State, U.heap = H → s.WarmedH U.vm → E H.size U)
    (hst : st0 = As.reverse ++ .ref b :: rest) (hlen : As.length = n) (hsz : ls.size = nL) (hroom : (rest.map fun v => v.category).sum ≤ 8) (hdg : decode cc pc = .ok (.invokevirtual idx, 3)) (hf : cells + mc ≤ R.cells ∧ slots + ms ≤ R.slots)
    (kk : ∀ (r : Int32) (u : S) (H1 : Heap) (locs1 : List Loc), post r u → va_P D vwCl (isR.filterMap (fun i => ws[i]?) ++ w1 u) H1 → va_D A0 (isR.filterMap (fun i => ws[i]?) ++ w1 u) → va_S A0 s.heap H1 locs1 → W p l e R s m args below meth c H1 locs1 (cells + mc) (slots + ms) Q (F0 m (pc + 3) ls (.int r :: rest))) :
    W p l e R s m args below meth c H locs cells slots Q (F0 m pc ls st0) := by
  have hPc := sb_sub hP isC hC
  have hDc := hD.sub isC hnC hC
  have hFc := va_free hD hS hA isC hC
  have pre : ∀ U : State, U.heap = H → s.WarmedH U.vm → sbPre D tys wc E H.size (.ref b :: As) (.ref b :: As).toArray U := fun U hU hW => ⟨rfl, by rw [hU], by rw [hU]; exact hPc, va_K.moved hW.alike hK, hDc.weaken (fun _ _ _ _ => trivial), hE U hU hW⟩
  refine va_calli (va_runV (As := As) (rest := rest) Sx (hM H.size) cw ⟨sb_blind hEb, va_recv hK hPc hc he, pre⟩ rfl hlen hsz hst (lv_room (pc := pc) (ls := ls) (rest := st0) (m := m) hroom) hdg hf) hS (fun q _ h => hFc q h) hFc (fun r u t H1 locs1 ht hvm hw hB hz1 hk1 hS => ?_)
  obtain ⟨hP1, hD1⟩ := hB
  rw [ht] at hP1
  obtain ⟨hP, hD⟩ := va_join hP hD isC isR hC hR hn hdis hk1 hFc hP1 hD1
  exact kk r u H1 locs1 hw hP hD hS
theorem sb_Vl {S : Type} {post : Int64 → S → Prop} {w1 : S → va_W} (Sx : CallFix p m c cc nL s args LW own)
    (hM : ∀ sz : Nat, Met l y (ws_ y bytes maxL ret) rm (sbPre D tys wc E sz (.ref b :: As)) (va_Ql post (sbEnd D w1 (va_A wc sz)) (va_A wc sz)) mc ms (va_A wc sz))
    (cw : CallW R s args own C idx y bytes maxL ret (ws_ y bytes maxL ret) rm mc ms n) (q0 ci : Nat) {fs : List Value} {T : u_T} {N : Nat} (hc : vwCl[ci]? = some (C, T, N)) (he : wc[q0]? = some (b, .inr (ci, fs)))
    (hK : va_K D vwCl tys s) (hP : va_P D vwCl ws H) (hD : va_D A0 ws) (hS : va_S A0 s.heap H locs) (hA : ∀ q, s.heap.size ≤ q → A0 q)
    (isC isR : List Nat) (hC : isC.map (fun i => ws[i]?) = wc.map some) (hR : isR.map (fun i => ws[i]?) = (isR.filterMap (fun i => ws[i]?)).map some) (hnC : va_nd isC = true) (hn : va_nd isR = true) (hdis : ∀ i ∈ isR, i ∉ isC)
    (hEb : ∀ (U : State) (g : JFrame) (mk : MethodId) (a : Array Value), E H.size U → E H.size (U.calling g mk a)) (hE : ∀ U : State, U.heap = H → s.WarmedH U.vm → E H.size U)
    (hst : st0 = As.reverse ++ .ref b :: rest) (hlen : As.length = n) (hsz : ls.size = nL) (hroom : (rest.map fun v => v.category).sum ≤ 8) (hdg : decode cc pc = .ok (.invokevirtual idx, 3)) (hf : cells + mc ≤ R.cells ∧ slots + ms ≤ R.slots)
    (kk : ∀ (r : Int64) (u : S) (H1 : Heap) (locs1 : List Loc), post r u → va_P D vwCl (isR.filterMap (fun i => ws[i]?) ++ w1 u) H1 → va_D A0 (isR.filterMap (fun i => ws[i]?) ++ w1 u) → va_S A0 s.heap H1 locs1 → W p l e R s m args below meth c H1 locs1 (cells + mc) (slots + ms) Q (F0 m (pc + 3) ls (.long r :: rest))) :
    W p l e R s m args below meth c H locs cells slots Q (F0 m pc ls st0) := by
  have hPc := sb_sub hP isC hC
  have hDc := hD.sub isC hnC hC
  have hFc := va_free hD hS hA isC hC
  have pre : ∀ U : State, U.heap = H → s.WarmedH U.vm → sbPre D tys wc E H.size (.ref b :: As) (.ref b :: As).toArray U := fun U hU hW => ⟨rfl, by rw [hU], by rw [hU]; exact hPc, va_K.moved hW.alike hK, hDc.weaken (fun _ _ _ _ => trivial), hE U hU hW⟩
  refine va_calll (va_runV (As := As) (rest := rest) Sx (hM H.size) cw ⟨sb_blind hEb, va_recv hK hPc hc he, pre⟩ rfl hlen hsz hst (lv_room (pc := pc) (ls := ls) (rest := st0) (m := m) hroom) hdg hf) hS (fun q _ h => hFc q h) hFc (fun r u t H1 locs1 ht hvm hw hB hz1 hk1 hS => ?_)
  obtain ⟨hP1, hD1⟩ := hB
  rw [ht] at hP1
  obtain ⟨hP, hD⟩ := va_join hP hD isC isR hC hR hn hdis hk1 hFc hP1 hD1
  exact kk r u H1 locs1 hw hP hD hS
theorem sb_Vd {S : Type} {post : UInt64 → S → Prop} {w1 : S → va_W} (Sx : CallFix p m c cc nL s args LW own)
    (hM : ∀ sz : Nat, Met l y (ws_ y bytes maxL ret) rm (sbPre D tys wc E sz (.ref b :: As)) (va_Qd post (sbEnd D w1 (va_A wc sz)) (va_A wc sz)) mc ms (va_A wc sz))
    (cw : CallW R s args own C idx y bytes maxL ret (ws_ y bytes maxL ret) rm mc ms n) (q0 ci : Nat) {fs : List Value} {T : u_T} {N : Nat} (hc : vwCl[ci]? = some (C, T, N)) (he : wc[q0]? = some (b, .inr (ci, fs)))
    (hK : va_K D vwCl tys s) (hP : va_P D vwCl ws H) (hD : va_D A0 ws) (hS : va_S A0 s.heap H locs) (hA : ∀ q, s.heap.size ≤ q → A0 q)
    (isC isR : List Nat) (hC : isC.map (fun i => ws[i]?) = wc.map some) (hR : isR.map (fun i => ws[i]?) = (isR.filterMap (fun i => ws[i]?)).map some) (hnC : va_nd isC = true) (hn : va_nd isR = true) (hdis : ∀ i ∈ isR, i ∉ isC)
    (hEb : ∀ (U : State) (g : JFrame) (mk : MethodId) (a : Array Value), E H.size U → E H.size (U.calling g mk a)) (hE : ∀ U : State, U.heap = H → s.WarmedH U.vm → E H.size U)
    (hst : st0 = As.reverse ++ .ref b :: rest) (hlen : As.length = n) (hsz : ls.size = nL) (hroom : (rest.map fun v => v.category).sum ≤ 8) (hdg : decode cc pc = .ok (.invokevirtual idx, 3)) (hf : cells + mc ≤ R.cells ∧ slots + ms ≤ R.slots)
    (kk : ∀ (r : UInt64) (u : S) (H1 : Heap) (locs1 : List Loc), post r u → va_P D vwCl (isR.filterMap (fun i => ws[i]?) ++ w1 u) H1 → va_D A0 (isR.filterMap (fun i => ws[i]?) ++ w1 u) → va_S A0 s.heap H1 locs1 → W p l e R s m args below meth c H1 locs1 (cells + mc) (slots + ms) Q (F0 m (pc + 3) ls (.double r :: rest))) :
    W p l e R s m args below meth c H locs cells slots Q (F0 m pc ls st0) := by
  have hPc := sb_sub hP isC hC
  have hDc := hD.sub isC hnC hC
  have hFc := va_free hD hS hA isC hC
  have pre : ∀ U : State, U.heap = H → s.WarmedH U.vm → sbPre D tys wc E H.size (.ref b :: As) (.ref b :: As).toArray U := fun U hU hW => ⟨rfl, by rw [hU], by rw [hU]; exact hPc, va_K.moved hW.alike hK, hDc.weaken (fun _ _ _ _ => trivial), hE U hU hW⟩
  refine va_calld (va_runV (As := As) (rest := rest) Sx (hM H.size) cw ⟨sb_blind hEb, va_recv hK hPc hc he, pre⟩ rfl hlen hsz hst (lv_room (pc := pc) (ls := ls) (rest := st0) (m := m) hroom) hdg hf) hS (fun q _ h => hFc q h) hFc (fun r u t H1 locs1 ht hvm hw hB hz1 hk1 hS => ?_)
  obtain ⟨hP1, hD1⟩ := hB
  rw [ht] at hP1
  obtain ⟨hP, hD⟩ := va_join hP hD isC isR hC hR hn hdis hk1 hFc hP1 hD1
  exact kk r u H1 locs1 hw hP hD hS
theorem sb_Vv {S : Type} {post : S → Prop} {w1 : S → va_W} (Sx : CallFix p m c cc nL s args LW own)
    (hM : ∀ sz : Nat, Met l y (ws_ y bytes maxL ret) rm (sbPre D tys wc E sz (.ref b :: As)) (va_Qv post (sbEnd D w1 (va_A wc sz)) (va_A wc sz)) mc ms (va_A wc sz))
    (cw : CallW R s args own C idx y bytes maxL ret (ws_ y bytes maxL ret) rm mc ms n) (q0 ci : Nat) {fs : List Value} {T : u_T} {N : Nat} (hc : vwCl[ci]? = some (C, T, N)) (he : wc[q0]? = some (b, .inr (ci, fs)))
    (hK : va_K D vwCl tys s) (hP : va_P D vwCl ws H) (hD : va_D A0 ws) (hS : va_S A0 s.heap H locs) (hA : ∀ q, s.heap.size ≤ q → A0 q)
    (isC isR : List Nat) (hC : isC.map (fun i => ws[i]?) = wc.map some) (hR : isR.map (fun i => ws[i]?) = (isR.filterMap (fun i => ws[i]?)).map some) (hnC : va_nd isC = true) (hn : va_nd isR = true) (hdis : ∀ i ∈ isR, i ∉ isC)
    (hEb : ∀ (U : State) (g : JFrame) (mk : MethodId) (a : Array Value), E H.size U → E H.size (U.calling g mk a)) (hE : ∀ U : State, U.heap = H → s.WarmedH U.vm → E H.size U)
    (hst : st0 = As.reverse ++ .ref b :: rest) (hlen : As.length = n) (hsz : ls.size = nL) (hroom : (rest.map fun v => v.category).sum ≤ 8) (hdg : decode cc pc = .ok (.invokevirtual idx, 3)) (hf : cells + mc ≤ R.cells ∧ slots + ms ≤ R.slots)
    (kk : ∀ (u : S) (H1 : Heap) (locs1 : List Loc), post u → va_P D vwCl (isR.filterMap (fun i => ws[i]?) ++ w1 u) H1 → va_D A0 (isR.filterMap (fun i => ws[i]?) ++ w1 u) → va_S A0 s.heap H1 locs1 → W p l e R s m args below meth c H1 locs1 (cells + mc) (slots + ms) Q (F0 m (pc + 3) ls (rest))) :
    W p l e R s m args below meth c H locs cells slots Q (F0 m pc ls st0) := by
  have hPc := sb_sub hP isC hC
  have hDc := hD.sub isC hnC hC
  have hFc := va_free hD hS hA isC hC
  have pre : ∀ U : State, U.heap = H → s.WarmedH U.vm → sbPre D tys wc E H.size (.ref b :: As) (.ref b :: As).toArray U := fun U hU hW => ⟨rfl, by rw [hU], by rw [hU]; exact hPc, va_K.moved hW.alike hK, hDc.weaken (fun _ _ _ _ => trivial), hE U hU hW⟩
  refine va_callv (va_runV (As := As) (rest := rest) Sx (hM H.size) cw ⟨sb_blind hEb, va_recv hK hPc hc he, pre⟩ rfl hlen hsz hst (lv_room (pc := pc) (ls := ls) (rest := st0) (m := m) hroom) hdg hf) hS (fun q _ h => hFc q h) hFc (fun u t H1 locs1 ht hvm hw hB hz1 hk1 hS => ?_)
  obtain ⟨hP1, hD1⟩ := hB
  rw [ht] at hP1
  obtain ⟨hP, hD⟩ := va_join hP hD isC isR hC hR hn hdis hk1 hFc hP1 hD1
  exact kk u H1 locs1 hw hP hD hS
theorem sb_Vq {S : Type} {post : Option Nat → S → Prop} {w1 : S → va_W} (Sx : CallFix p m c cc nL s args LW own)
    (hM : ∀ sz : Nat, Met l y (ws_ y bytes maxL ret) rm (sbPre D tys wc E sz (.ref b :: As)) (va_Qq post (sbEnd D w1 (va_A wc sz)) (va_A wc sz)) mc ms (va_A wc sz))
    (cw : CallW R s args own C idx y bytes maxL ret (ws_ y bytes maxL ret) rm mc ms n) (q0 ci : Nat) {fs : List Value} {T : u_T} {N : Nat} (hc : vwCl[ci]? = some (C, T, N)) (he : wc[q0]? = some (b, .inr (ci, fs)))
    (hK : va_K D vwCl tys s) (hP : va_P D vwCl ws H) (hD : va_D A0 ws) (hS : va_S A0 s.heap H locs) (hA : ∀ q, s.heap.size ≤ q → A0 q)
    (isC isR : List Nat) (hC : isC.map (fun i => ws[i]?) = wc.map some) (hR : isR.map (fun i => ws[i]?) = (isR.filterMap (fun i => ws[i]?)).map some) (hnC : va_nd isC = true) (hn : va_nd isR = true) (hdis : ∀ i ∈ isR, i ∉ isC)
    (hEb : ∀ (U : State) (g : JFrame) (mk : MethodId) (a : Array Value), E H.size U → E H.size (U.calling g mk a)) (hE : ∀ U : State, U.heap = H → s.WarmedH U.vm → E H.size U)
    (hst : st0 = As.reverse ++ .ref b :: rest) (hlen : As.length = n) (hsz : ls.size = nL) (hroom : (rest.map fun v => v.category).sum ≤ 8) (hdg : decode cc pc = .ok (.invokevirtual idx, 3)) (hf : cells + mc ≤ R.cells ∧ slots + ms ≤ R.slots)
    (kk : ∀ (r : Option Nat) (u : S) (H1 : Heap) (locs1 : List Loc), post r u → va_P D vwCl (isR.filterMap (fun i => ws[i]?) ++ w1 u) H1 → va_D A0 (isR.filterMap (fun i => ws[i]?) ++ w1 u) → va_S A0 s.heap H1 locs1 → W p l e R s m args below meth c H1 locs1 (cells + mc) (slots + ms) Q (F0 m (pc + 3) ls (va_rf r :: rest))) :
    W p l e R s m args below meth c H locs cells slots Q (F0 m pc ls st0) := by
  have hPc := sb_sub hP isC hC
  have hDc := hD.sub isC hnC hC
  have hFc := va_free hD hS hA isC hC
  have pre : ∀ U : State, U.heap = H → s.WarmedH U.vm → sbPre D tys wc E H.size (.ref b :: As) (.ref b :: As).toArray U := fun U hU hW => ⟨rfl, by rw [hU], by rw [hU]; exact hPc, va_K.moved hW.alike hK, hDc.weaken (fun _ _ _ _ => trivial), hE U hU hW⟩
  refine va_callq (va_runV (As := As) (rest := rest) Sx (hM H.size) cw ⟨sb_blind hEb, va_recv hK hPc hc he, pre⟩ rfl hlen hsz hst (lv_room (pc := pc) (ls := ls) (rest := st0) (m := m) hroom) hdg hf) hS (fun q _ h => hFc q h) hFc (fun r u t H1 locs1 ht hvm hw hB hz1 hk1 hS => ?_)
  obtain ⟨hP1, hD1⟩ := hB
  rw [ht] at hP1
  obtain ⟨hP, hD⟩ := va_join hP hD isC isR hC hR hn hdis hk1 hFc hP1 hD1
  exact kk r u H1 locs1 hw hP hD hS
theorem sb_Si {S : Type} {post : Int32 → S → Prop} {w1 : S → va_W} (Sx : CallFix p m c cc nL s args LW own)
    (hM : ∀ sz : Nat, Met l y (ws_ y bytes maxL ret) rm (sbPre D tys wc E sz As) (va_Qi post (sbEnd D w1 (va_A wc sz)) (va_A wc sz)) mc ms (va_A wc sz))
    (cw : CallB R s args own idx y bytes maxL ret (ws_ y bytes maxL ret) rm mc ms n ∧ (Cond.static y).before args s = true) 
    (hK : va_K D vwCl tys s) (hP : va_P D vwCl ws H) (hD : va_D A0 ws) (hS : va_S A0 s.heap H locs) (hA : ∀ q, s.heap.size ≤ q → A0 q)
    (isC isR : List Nat) (hC : isC.map (fun i => ws[i]?) = wc.map some) (hR : isR.map (fun i => ws[i]?) = (isR.filterMap (fun i => ws[i]?)).map some) (hnC : va_nd isC = true) (hn : va_nd isR = true) (hdis : ∀ i ∈ isR, i ∉ isC)
    (hEb : ∀ (U : State) (g : JFrame) (mk : MethodId) (a : Array Value), E H.size U → E H.size (U.calling g mk a)) (hE : ∀ U : State, U.heap = H → s.WarmedH U.vm → E H.size U)
    (hst : st0 = As.reverse ++ rest) (hlen : As.length = n) (hsz : ls.size = nL) (hroom : (rest.map fun v => v.category).sum ≤ 8) (hdg : decode cc pc = .ok (.invokestatic idx, 3)) (hf : cells + mc ≤ R.cells ∧ slots + ms ≤ R.slots)
    (kk : ∀ (r : Int32) (u : S) (H1 : Heap) (locs1 : List Loc), post r u → va_P D vwCl (isR.filterMap (fun i => ws[i]?) ++ w1 u) H1 → va_D A0 (isR.filterMap (fun i => ws[i]?) ++ w1 u) → va_S A0 s.heap H1 locs1 → W p l e R s m args below meth c H1 locs1 (cells + mc) (slots + ms) Q (F0 m (pc + 3) ls (.int r :: rest))) :
    W p l e R s m args below meth c H locs cells slots Q (F0 m pc ls st0) := by
  have hPc := sb_sub hP isC hC
  have hDc := hD.sub isC hnC hC
  have hFc := va_free hD hS hA isC hC
  have pre : ∀ U : State, U.heap = H → s.WarmedH U.vm → sbPre D tys wc E H.size As (As).toArray U := fun U hU hW => ⟨rfl, by rw [hU], by rw [hU]; exact hPc, va_K.moved hW.alike hK, hDc.weaken (fun _ _ _ _ => trivial), hE U hU hW⟩
  refine va_calli (va_runS (As := As) (rest := rest) Sx (hM H.size) cw ⟨sb_blind hEb, pre⟩ rfl hlen hsz hst (lv_room (pc := pc) (ls := ls) (rest := st0) (m := m) hroom) hdg hf) hS (fun q _ h => hFc q h) hFc (fun r u t H1 locs1 ht hvm hw hB hz1 hk1 hS => ?_)
  obtain ⟨hP1, hD1⟩ := hB
  rw [ht] at hP1
  obtain ⟨hP, hD⟩ := va_join hP hD isC isR hC hR hn hdis hk1 hFc hP1 hD1
  exact kk r u H1 locs1 hw hP hD hS
theorem sb_Sl {S : Type} {post : Int64 → S → Prop} {w1 : S → va_W} (Sx : CallFix p m c cc nL s args LW own)
    (hM : ∀ sz : Nat, Met l y (ws_ y bytes maxL ret) rm (sbPre D tys wc E sz As) (va_Ql post (sbEnd D w1 (va_A wc sz)) (va_A wc sz)) mc ms (va_A wc sz))
    (cw : CallB R s args own idx y bytes maxL ret (ws_ y bytes maxL ret) rm mc ms n ∧ (Cond.static y).before args s = true) 
    (hK : va_K D vwCl tys s) (hP : va_P D vwCl ws H) (hD : va_D A0 ws) (hS : va_S A0 s.heap H locs) (hA : ∀ q, s.heap.size ≤ q → A0 q)
    (isC isR : List Nat) (hC : isC.map (fun i => ws[i]?) = wc.map some) (hR : isR.map (fun i => ws[i]?) = (isR.filterMap (fun i => ws[i]?)).map some) (hnC : va_nd isC = true) (hn : va_nd isR = true) (hdis : ∀ i ∈ isR, i ∉ isC)
    (hEb : ∀ (U : State) (g : JFrame) (mk : MethodId) (a : Array Value), E H.size U → E H.size (U.calling g mk a)) (hE : ∀ U : State, U.heap = H → s.WarmedH U.vm → E H.size U)
    (hst : st0 = As.reverse ++ rest) (hlen : As.length = n) (hsz : ls.size = nL) (hroom : (rest.map fun v => v.category).sum ≤ 8) (hdg : decode cc pc = .ok (.invokestatic idx, 3)) (hf : cells + mc ≤ R.cells ∧ slots + ms ≤ R.slots)
    (kk : ∀ (r : Int64) (u : S) (H1 : Heap) (locs1 : List Loc), post r u → va_P D vwCl (isR.filterMap (fun i => ws[i]?) ++ w1 u) H1 → va_D A0 (isR.filterMap (fun i => ws[i]?) ++ w1 u) → va_S A0 s.heap H1 locs1 → W p l e R s m args below meth c H1 locs1 (cells + mc) (slots + ms) Q (F0 m (pc + 3) ls (.long r :: rest))) :
    W p l e R s m args below meth c H locs cells slots Q (F0 m pc ls st0) := by
  have hPc := sb_sub hP isC hC
  have hDc := hD.sub isC hnC hC
  have hFc := va_free hD hS hA isC hC
  have pre : ∀ U : State, U.heap = H → s.WarmedH U.vm → sbPre D tys wc E H.size As (As).toArray U := fun U hU hW => ⟨rfl, by rw [hU], by rw [hU]; exact hPc, va_K.moved hW.alike hK, hDc.weaken (fun _ _ _ _ => trivial), hE U hU hW⟩
  refine va_calll (va_runS (As := As) (rest := rest) Sx (hM H.size) cw ⟨sb_blind hEb, pre⟩ rfl hlen hsz hst (lv_room (pc := pc) (ls := ls) (rest := st0) (m := m) hroom) hdg hf) hS (fun q _ h => hFc q h) hFc (fun r u t H1 locs1 ht hvm hw hB hz1 hk1 hS => ?_)
  obtain ⟨hP1, hD1⟩ := hB
  rw [ht] at hP1
  obtain ⟨hP, hD⟩ := va_join hP hD isC isR hC hR hn hdis hk1 hFc hP1 hD1
  exact kk r u H1 locs1 hw hP hD hS
theorem sb_Sv {S : Type} {post : S → Prop} {w1 : S → va_W} (Sx : CallFix p m c cc nL s args LW own)
    (hM : ∀ sz : Nat, Met l y (ws_ y bytes maxL ret) rm (sbPre D tys wc E sz As) (va_Qv post (sbEnd D w1 (va_A wc sz)) (va_A wc sz)) mc ms (va_A wc sz))
    (cw : CallB R s args own idx y bytes maxL ret (ws_ y bytes maxL ret) rm mc ms n ∧ (Cond.static y).before args s = true) 
    (hK : va_K D vwCl tys s) (hP : va_P D vwCl ws H) (hD : va_D A0 ws) (hS : va_S A0 s.heap H locs) (hA : ∀ q, s.heap.size ≤ q → A0 q)
    (isC isR : List Nat) (hC : isC.map (fun i => ws[i]?) = wc.map some) (hR : isR.map (fun i => ws[i]?) = (isR.filterMap (fun i => ws[i]?)).map some) (hnC : va_nd isC = true) (hn : va_nd isR = true) (hdis : ∀ i ∈ isR, i ∉ isC)
    (hEb : ∀ (U : State) (g : JFrame) (mk : MethodId) (a : Array Value), E H.size U → E H.size (U.calling g mk a)) (hE : ∀ U : State, U.heap = H → s.WarmedH U.vm → E H.size U)
    (hst : st0 = As.reverse ++ rest) (hlen : As.length = n) (hsz : ls.size = nL) (hroom : (rest.map fun v => v.category).sum ≤ 8) (hdg : decode cc pc = .ok (.invokestatic idx, 3)) (hf : cells + mc ≤ R.cells ∧ slots + ms ≤ R.slots)
    (kk : ∀ (u : S) (H1 : Heap) (locs1 : List Loc), post u → va_P D vwCl (isR.filterMap (fun i => ws[i]?) ++ w1 u) H1 → va_D A0 (isR.filterMap (fun i => ws[i]?) ++ w1 u) → va_S A0 s.heap H1 locs1 → W p l e R s m args below meth c H1 locs1 (cells + mc) (slots + ms) Q (F0 m (pc + 3) ls (rest))) :
    W p l e R s m args below meth c H locs cells slots Q (F0 m pc ls st0) := by
  have hPc := sb_sub hP isC hC
  have hDc := hD.sub isC hnC hC
  have hFc := va_free hD hS hA isC hC
  have pre : ∀ U : State, U.heap = H → s.WarmedH U.vm → sbPre D tys wc E H.size As (As).toArray U := fun U hU hW => ⟨rfl, by rw [hU], by rw [hU]; exact hPc, va_K.moved hW.alike hK, hDc.weaken (fun _ _ _ _ => trivial), hE U hU hW⟩
  refine va_callv (va_runS (As := As) (rest := rest) Sx (hM H.size) cw ⟨sb_blind hEb, pre⟩ rfl hlen hsz hst (lv_room (pc := pc) (ls := ls) (rest := st0) (m := m) hroom) hdg hf) hS (fun q _ h => hFc q h) hFc (fun u t H1 locs1 ht hvm hw hB hz1 hk1 hS => ?_)
  obtain ⟨hP1, hD1⟩ := hB
  rw [ht] at hP1
  obtain ⟨hP, hD⟩ := va_join hP hD isC isR hC hR hn hdis hk1 hFc hP1 hD1
  exact kk u H1 locs1 hw hP hD hS
theorem sb_Iv {S : Type} {post : S → Prop} {w1 : S → va_W} (Sx : CallFix p m c cc nL s args LW own)
    (hM : ∀ sz : Nat, Met l y (ws_ y bytes maxL none) rm (sbPre D tys wc E sz (.ref b :: As)) (va_Qv post (sbEnd D w1 (va_A wc sz)) (va_A wc sz)) mc ms (va_A wc sz))
    (cw : CallB R s args own idx y bytes maxL none (ws_ y bytes maxL none) rm mc ms n ∧ y.name = "<init>" ∧ (Cond.instanceMethod y).before args s = true) 
    (hK : va_K D vwCl tys s) (hP : va_P D vwCl ws H) (hD : va_D A0 ws) (hS : va_S A0 s.heap H locs) (hA : ∀ q, s.heap.size ≤ q → A0 q)
    (isC isR : List Nat) (hC : isC.map (fun i => ws[i]?) = wc.map some) (hR : isR.map (fun i => ws[i]?) = (isR.filterMap (fun i => ws[i]?)).map some) (hnC : va_nd isC = true) (hn : va_nd isR = true) (hdis : ∀ i ∈ isR, i ∉ isC)
    (hEb : ∀ (U : State) (g : JFrame) (mk : MethodId) (a : Array Value), E H.size U → E H.size (U.calling g mk a)) (hE : ∀ U : State, U.heap = H → s.WarmedH U.vm → E H.size U)
    (hst : st0 = As.reverse ++ .ref b :: rest) (hlen : As.length = n) (hsz : ls.size = nL) (hroom : (rest.map fun v => v.category).sum ≤ 8) (hdg : decode cc pc = .ok (.invokespecial idx, 3)) (hf : cells + mc ≤ R.cells ∧ slots + ms ≤ R.slots)
    (kk : ∀ (u : S) (H1 : Heap) (locs1 : List Loc), post u → va_P D vwCl (isR.filterMap (fun i => ws[i]?) ++ w1 u) H1 → va_D A0 (isR.filterMap (fun i => ws[i]?) ++ w1 u) → va_S A0 s.heap H1 locs1 → W p l e R s m args below meth c H1 locs1 (cells + mc) (slots + ms) Q (F0 m (pc + 3) ls (rest))) :
    W p l e R s m args below meth c H locs cells slots Q (F0 m pc ls st0) := by
  have hPc := sb_sub hP isC hC
  have hDc := hD.sub isC hnC hC
  have hFc := va_free hD hS hA isC hC
  have pre : ∀ U : State, U.heap = H → s.WarmedH U.vm → sbPre D tys wc E H.size (.ref b :: As) (.ref b :: As).toArray U := fun U hU hW => ⟨rfl, by rw [hU], by rw [hU]; exact hPc, va_K.moved hW.alike hK, hDc.weaken (fun _ _ _ _ => trivial), hE U hU hW⟩
  refine va_callv (va_runI (As := As) (rest := rest) Sx (hM H.size) cw ⟨sb_blind hEb, pre⟩ rfl hlen hsz hst (lv_room (pc := pc) (ls := ls) (rest := st0) (m := m) hroom) hdg hf) hS (fun q _ h => hFc q h) hFc (fun u t H1 locs1 ht hvm hw hB hz1 hk1 hS => ?_)
  obtain ⟨hP1, hD1⟩ := hB
  rw [ht] at hP1
  obtain ⟨hP, hD⟩ := va_join hP hD isC isR hC hR hn hdis hk1 hFc hP1 hD1
  exact kk u H1 locs1 hw hP hD hS
theorem sb_Ni {S : Type} {host : String} {post : Int32 → S → Prop} {w1 : S → va_W} (Sx : CallFix p m c cc nL s args LW own)
    (hM : ∀ sz : Nat, Met l y (ws_ y bytes maxL ret) rm (sbPre D tys wc E sz As) (va_Qi post (sbEnd D w1 (va_A wc sz)) (va_A wc sz)) mc ms (va_A wc sz))
    (cw : va_CN R s args own idx y host bytes maxL ret (ws_ y bytes maxL ret) rm mc ms n ∧ (Cond.static y).before args s = true ∧ True) 
    (hK : va_K D vwCl tys s) (hP : va_P D vwCl ws H) (hD : va_D A0 ws) (hS : va_S A0 s.heap H locs) (hA : ∀ q, s.heap.size ≤ q → A0 q)
    (isC isR : List Nat) (hC : isC.map (fun i => ws[i]?) = wc.map some) (hR : isR.map (fun i => ws[i]?) = (isR.filterMap (fun i => ws[i]?)).map some) (hnC : va_nd isC = true) (hn : va_nd isR = true) (hdis : ∀ i ∈ isR, i ∉ isC)
    (hEb : ∀ (U : State) (g : JFrame) (mk : MethodId) (a : Array Value), E H.size U → E H.size (U.calling g mk a)) (hE : ∀ U : State, U.heap = H → s.WarmedH U.vm → E H.size U)
    (hst : st0 = As.reverse ++ rest) (hlen : As.length = n) (hsz : ls.size = nL) (hroom : (rest.map fun v => v.category).sum ≤ 8) (hdg : decode cc pc = .ok (.invokestatic idx, 3)) (hf : cells + mc ≤ R.cells ∧ slots + ms ≤ R.slots)
    (kk : ∀ (r : Int32) (u : S) (H1 : Heap) (locs1 : List Loc), post r u → va_P D vwCl (isR.filterMap (fun i => ws[i]?) ++ w1 u) H1 → va_D A0 (isR.filterMap (fun i => ws[i]?) ++ w1 u) → va_S A0 s.heap H1 locs1 → W p l e R s m args below meth c H1 locs1 (cells + mc) (slots + ms) Q (F0 m (pc + 3) ls (.int r :: rest))) :
    W p l e R s m args below meth c H locs cells slots Q (F0 m pc ls st0) := by
  have hPc := sb_sub hP isC hC
  have hDc := hD.sub isC hnC hC
  have hFc := va_free hD hS hA isC hC
  have pre : ∀ U : State, U.heap = H → s.WarmedH U.vm → sbPre D tys wc E H.size As (As).toArray U := fun U hU hW => ⟨rfl, by rw [hU], by rw [hU]; exact hPc, va_K.moved hW.alike hK, hDc.weaken (fun _ _ _ _ => trivial), hE U hU hW⟩
  refine va_calli (va_runSN (As := As) (rest := rest) Sx (hM H.size) cw ⟨sb_blind hEb, pre⟩ rfl hlen hsz hst (lv_room (pc := pc) (ls := ls) (rest := st0) (m := m) hroom) hdg hf) hS (fun q _ h => hFc q h) hFc (fun r u t H1 locs1 ht hvm hw hB hz1 hk1 hS => ?_)
  obtain ⟨hP1, hD1⟩ := hB
  rw [ht] at hP1
  obtain ⟨hP, hD⟩ := va_join hP hD isC isR hC hR hn hdis hk1 hFc hP1 hD1
  exact kk r u H1 locs1 hw hP hD hS
end SBCALL
end
section
-- laid by wip/p30/gen.py: the states
abbrev DK : Type := Int32 × (Nat → Int32) × (Nat → Int32) × (Nat → Int32)
abbrev dSz (x : DK) : Int32 := x.1
abbrev dCn (x : DK) : (Nat → Int32) := x.2.1
abbrev dWe (x : DK) : (Nat → Int32) := x.2.2.1
abbrev dKp (x : DK) : (Nat → Int32) := x.2.2.2
abbrev sdSz (x : DK) (v : Int32) : DK := (v, x.2.1, x.2.2.1, x.2.2.2)
abbrev sdCn (x : DK) (v : (Nat → Int32)) : DK := (x.1, v, x.2.2.1, x.2.2.2)
abbrev sdWe (x : DK) (v : (Nat → Int32)) : DK := (x.1, x.2.1, v, x.2.2.2)
abbrev sdKp (x : DK) (v : (Nat → Int32)) : DK := (x.1, x.2.1, x.2.2.1, v)
abbrev FR : Type := Int32 × Int32 × DK × DK × Int32 × UInt32 × Int32 × Int32 × Int32 × Int32 × Int32 × Int32 × Int32
abbrev fKd (x : FR) : Int32 := x.1
abbrev fRd (x : FR) : Int32 := x.2.1
abbrev fAb (x : FR) : DK := x.2.2.1
abbrev fBe (x : FR) : DK := x.2.2.2.1
abbrev fHa (x : FR) : Int32 := x.2.2.2.2.1
abbrev fSe (x : FR) : UInt32 := x.2.2.2.2.2.1
abbrev fPu (x : FR) : Int32 := x.2.2.2.2.2.2.1
abbrev fBd (x : FR) : Int32 := x.2.2.2.2.2.2.2.1
abbrev fCa (x : FR) : Int32 := x.2.2.2.2.2.2.2.2.1
abbrev fLo (x : FR) : Int32 := x.2.2.2.2.2.2.2.2.2.1
abbrev fSp (x : FR) : Int32 := x.2.2.2.2.2.2.2.2.2.2.1
abbrev fKc (x : FR) : Int32 := x.2.2.2.2.2.2.2.2.2.2.2.1
abbrev fNs (x : FR) : Int32 := x.2.2.2.2.2.2.2.2.2.2.2.2
abbrev sfKd (x : FR) (v : Int32) : FR := (v, x.2.1, x.2.2.1, x.2.2.2.1, x.2.2.2.2.1, x.2.2.2.2.2.1, x.2.2.2.2.2.2.1, x.2.2.2.2.2.2.2.1, x.2.2.2.2.2.2.2.2.1, x.2.2.2.2.2.2.2.2.2.1, x.2.2.2.2.2.2.2.2.2.2.1, x.2.2.2.2.2.2.2.2.2.2.2.1, x.2.2.2.2.2.2.2.2.2.2.2.2)
abbrev sfRd (x : FR) (v : Int32) : FR := (x.1, v, x.2.2.1, x.2.2.2.1, x.2.2.2.2.1, x.2.2.2.2.2.1, x.2.2.2.2.2.2.1, x.2.2.2.2.2.2.2.1, x.2.2.2.2.2.2.2.2.1, x.2.2.2.2.2.2.2.2.2.1, x.2.2.2.2.2.2.2.2.2.2.1, x.2.2.2.2.2.2.2.2.2.2.2.1, x.2.2.2.2.2.2.2.2.2.2.2.2)
abbrev sfAb (x : FR) (v : DK) : FR := (x.1, x.2.1, v, x.2.2.2.1, x.2.2.2.2.1, x.2.2.2.2.2.1, x.2.2.2.2.2.2.1, x.2.2.2.2.2.2.2.1, x.2.2.2.2.2.2.2.2.1, x.2.2.2.2.2.2.2.2.2.1, x.2.2.2.2.2.2.2.2.2.2.1, x.2.2.2.2.2.2.2.2.2.2.2.1, x.2.2.2.2.2.2.2.2.2.2.2.2)
abbrev sfBe (x : FR) (v : DK) : FR := (x.1, x.2.1, x.2.2.1, v, x.2.2.2.2.1, x.2.2.2.2.2.1, x.2.2.2.2.2.2.1, x.2.2.2.2.2.2.2.1, x.2.2.2.2.2.2.2.2.1, x.2.2.2.2.2.2.2.2.2.1, x.2.2.2.2.2.2.2.2.2.2.1, x.2.2.2.2.2.2.2.2.2.2.2.1, x.2.2.2.2.2.2.2.2.2.2.2.2)
abbrev sfHa (x : FR) (v : Int32) : FR := (x.1, x.2.1, x.2.2.1, x.2.2.2.1, v, x.2.2.2.2.2.1, x.2.2.2.2.2.2.1, x.2.2.2.2.2.2.2.1, x.2.2.2.2.2.2.2.2.1, x.2.2.2.2.2.2.2.2.2.1, x.2.2.2.2.2.2.2.2.2.2.1, x.2.2.2.2.2.2.2.2.2.2.2.1, x.2.2.2.2.2.2.2.2.2.2.2.2)
abbrev sfSe (x : FR) (v : UInt32) : FR := (x.1, x.2.1, x.2.2.1, x.2.2.2.1, x.2.2.2.2.1, v, x.2.2.2.2.2.2.1, x.2.2.2.2.2.2.2.1, x.2.2.2.2.2.2.2.2.1, x.2.2.2.2.2.2.2.2.2.1, x.2.2.2.2.2.2.2.2.2.2.1, x.2.2.2.2.2.2.2.2.2.2.2.1, x.2.2.2.2.2.2.2.2.2.2.2.2)
abbrev sfPu (x : FR) (v : Int32) : FR := (x.1, x.2.1, x.2.2.1, x.2.2.2.1, x.2.2.2.2.1, x.2.2.2.2.2.1, v, x.2.2.2.2.2.2.2.1, x.2.2.2.2.2.2.2.2.1, x.2.2.2.2.2.2.2.2.2.1, x.2.2.2.2.2.2.2.2.2.2.1, x.2.2.2.2.2.2.2.2.2.2.2.1, x.2.2.2.2.2.2.2.2.2.2.2.2)
abbrev sfBd (x : FR) (v : Int32) : FR := (x.1, x.2.1, x.2.2.1, x.2.2.2.1, x.2.2.2.2.1, x.2.2.2.2.2.1, x.2.2.2.2.2.2.1, v, x.2.2.2.2.2.2.2.2.1, x.2.2.2.2.2.2.2.2.2.1, x.2.2.2.2.2.2.2.2.2.2.1, x.2.2.2.2.2.2.2.2.2.2.2.1, x.2.2.2.2.2.2.2.2.2.2.2.2)
abbrev sfCa (x : FR) (v : Int32) : FR := (x.1, x.2.1, x.2.2.1, x.2.2.2.1, x.2.2.2.2.1, x.2.2.2.2.2.1, x.2.2.2.2.2.2.1, x.2.2.2.2.2.2.2.1, v, x.2.2.2.2.2.2.2.2.2.1, x.2.2.2.2.2.2.2.2.2.2.1, x.2.2.2.2.2.2.2.2.2.2.2.1, x.2.2.2.2.2.2.2.2.2.2.2.2)
abbrev sfLo (x : FR) (v : Int32) : FR := (x.1, x.2.1, x.2.2.1, x.2.2.2.1, x.2.2.2.2.1, x.2.2.2.2.2.1, x.2.2.2.2.2.2.1, x.2.2.2.2.2.2.2.1, x.2.2.2.2.2.2.2.2.1, v, x.2.2.2.2.2.2.2.2.2.2.1, x.2.2.2.2.2.2.2.2.2.2.2.1, x.2.2.2.2.2.2.2.2.2.2.2.2)
abbrev sfSp (x : FR) (v : Int32) : FR := (x.1, x.2.1, x.2.2.1, x.2.2.2.1, x.2.2.2.2.1, x.2.2.2.2.2.1, x.2.2.2.2.2.2.1, x.2.2.2.2.2.2.2.1, x.2.2.2.2.2.2.2.2.1, x.2.2.2.2.2.2.2.2.2.1, v, x.2.2.2.2.2.2.2.2.2.2.2.1, x.2.2.2.2.2.2.2.2.2.2.2.2)
abbrev sfKc (x : FR) (v : Int32) : FR := (x.1, x.2.1, x.2.2.1, x.2.2.2.1, x.2.2.2.2.1, x.2.2.2.2.2.1, x.2.2.2.2.2.2.1, x.2.2.2.2.2.2.2.1, x.2.2.2.2.2.2.2.2.1, x.2.2.2.2.2.2.2.2.2.1, x.2.2.2.2.2.2.2.2.2.2.1, v, x.2.2.2.2.2.2.2.2.2.2.2.2)
abbrev sfNs (x : FR) (v : Int32) : FR := (x.1, x.2.1, x.2.2.1, x.2.2.2.1, x.2.2.2.2.1, x.2.2.2.2.2.1, x.2.2.2.2.2.2.1, x.2.2.2.2.2.2.2.1, x.2.2.2.2.2.2.2.2.1, x.2.2.2.2.2.2.2.2.2.1, x.2.2.2.2.2.2.2.2.2.2.1, x.2.2.2.2.2.2.2.2.2.2.2.1, v)
abbrev HB : Type := (Nat → Option Nat) × Int32 × Int32
abbrev hRw (x : HB) : (Nat → Option Nat) := x.1
abbrev hFc (x : HB) : Int32 := x.2.1
abbrev hRf (x : HB) : Int32 := x.2.2
abbrev shRw (x : HB) (v : (Nat → Option Nat)) : HB := (v, x.2.1, x.2.2)
abbrev shFc (x : HB) (v : Int32) : HB := (x.1, v, x.2.2)
abbrev shRf (x : HB) (v : Int32) : HB := (x.1, x.2.1, v)
abbrev TD : Type := Int32 × Int32 × Int32 × Nat × (Nat → Int32) × (Nat → Int32) × (Nat → Int32) × (Nat → Int32) × (Nat → Int32) × Int32 × Int64
abbrev tDr (x : TD) : Int32 := x.1
abbrev tNu (x : TD) : Int32 := x.2.1
abbrev tKi (x : TD) : Int32 := x.2.2.1
abbrev tN (x : TD) : Nat := x.2.2.2.1
abbrev tUp (x : TD) : (Nat → Int32) := x.2.2.2.2.1
abbrev tDn (x : TD) : (Nat → Int32) := x.2.2.2.2.2.1
abbrev tWa (x : TD) : (Nat → Int32) := x.2.2.2.2.2.2.1
abbrev tWb (x : TD) : (Nat → Int32) := x.2.2.2.2.2.2.2.1
abbrev tSm (x : TD) : (Nat → Int32) := x.2.2.2.2.2.2.2.2.1
abbrev tHa (x : TD) : Int32 := x.2.2.2.2.2.2.2.2.2.1
abbrev tTi (x : TD) : Int64 := x.2.2.2.2.2.2.2.2.2.2
abbrev stDr (x : TD) (v : Int32) : TD := (v, x.2.1, x.2.2.1, x.2.2.2.1, x.2.2.2.2.1, x.2.2.2.2.2.1, x.2.2.2.2.2.2.1, x.2.2.2.2.2.2.2.1, x.2.2.2.2.2.2.2.2.1, x.2.2.2.2.2.2.2.2.2.1, x.2.2.2.2.2.2.2.2.2.2)
abbrev stNu (x : TD) (v : Int32) : TD := (x.1, v, x.2.2.1, x.2.2.2.1, x.2.2.2.2.1, x.2.2.2.2.2.1, x.2.2.2.2.2.2.1, x.2.2.2.2.2.2.2.1, x.2.2.2.2.2.2.2.2.1, x.2.2.2.2.2.2.2.2.2.1, x.2.2.2.2.2.2.2.2.2.2)
abbrev stKi (x : TD) (v : Int32) : TD := (x.1, x.2.1, v, x.2.2.2.1, x.2.2.2.2.1, x.2.2.2.2.2.1, x.2.2.2.2.2.2.1, x.2.2.2.2.2.2.2.1, x.2.2.2.2.2.2.2.2.1, x.2.2.2.2.2.2.2.2.2.1, x.2.2.2.2.2.2.2.2.2.2)
abbrev stN (x : TD) (v : Nat) : TD := (x.1, x.2.1, x.2.2.1, v, x.2.2.2.2.1, x.2.2.2.2.2.1, x.2.2.2.2.2.2.1, x.2.2.2.2.2.2.2.1, x.2.2.2.2.2.2.2.2.1, x.2.2.2.2.2.2.2.2.2.1, x.2.2.2.2.2.2.2.2.2.2)
abbrev stUp (x : TD) (v : (Nat → Int32)) : TD := (x.1, x.2.1, x.2.2.1, x.2.2.2.1, v, x.2.2.2.2.2.1, x.2.2.2.2.2.2.1, x.2.2.2.2.2.2.2.1, x.2.2.2.2.2.2.2.2.1, x.2.2.2.2.2.2.2.2.2.1, x.2.2.2.2.2.2.2.2.2.2)
abbrev stDn (x : TD) (v : (Nat → Int32)) : TD := (x.1, x.2.1, x.2.2.1, x.2.2.2.1, x.2.2.2.2.1, v, x.2.2.2.2.2.2.1, x.2.2.2.2.2.2.2.1, x.2.2.2.2.2.2.2.2.1, x.2.2.2.2.2.2.2.2.2.1, x.2.2.2.2.2.2.2.2.2.2)
abbrev stWa (x : TD) (v : (Nat → Int32)) : TD := (x.1, x.2.1, x.2.2.1, x.2.2.2.1, x.2.2.2.2.1, x.2.2.2.2.2.1, v, x.2.2.2.2.2.2.2.1, x.2.2.2.2.2.2.2.2.1, x.2.2.2.2.2.2.2.2.2.1, x.2.2.2.2.2.2.2.2.2.2)
abbrev stWb (x : TD) (v : (Nat → Int32)) : TD := (x.1, x.2.1, x.2.2.1, x.2.2.2.1, x.2.2.2.2.1, x.2.2.2.2.2.1, x.2.2.2.2.2.2.1, v, x.2.2.2.2.2.2.2.2.1, x.2.2.2.2.2.2.2.2.2.1, x.2.2.2.2.2.2.2.2.2.2)
abbrev stSm (x : TD) (v : (Nat → Int32)) : TD := (x.1, x.2.1, x.2.2.1, x.2.2.2.1, x.2.2.2.2.1, x.2.2.2.2.2.1, x.2.2.2.2.2.2.1, x.2.2.2.2.2.2.2.1, v, x.2.2.2.2.2.2.2.2.2.1, x.2.2.2.2.2.2.2.2.2.2)
abbrev stHa (x : TD) (v : Int32) : TD := (x.1, x.2.1, x.2.2.1, x.2.2.2.1, x.2.2.2.2.1, x.2.2.2.2.2.1, x.2.2.2.2.2.2.1, x.2.2.2.2.2.2.2.1, x.2.2.2.2.2.2.2.2.1, v, x.2.2.2.2.2.2.2.2.2.2)
abbrev stTi (x : TD) (v : Int64) : TD := (x.1, x.2.1, x.2.2.1, x.2.2.2.1, x.2.2.2.2.1, x.2.2.2.2.2.1, x.2.2.2.2.2.2.1, x.2.2.2.2.2.2.2.1, x.2.2.2.2.2.2.2.2.1, x.2.2.2.2.2.2.2.2.2.1, v)
abbrev wDK (cI cF cJ : ClassId) (q0 q1 q2 q3 : Nat) (x : DK) : va_W := [(q0, .inr (0, [.int (dSz x), .ref q1, .ref q2, .ref q3])), (q1, .inl (cI, 8, .inl (dCn x))), (q2, .inl (cI, 8, .inl (dWe x))), (q3, .inl (cI, 96, .inl (dKp x)))]
abbrev wFR (cI cF cJ : ClassId) (q0 q1 q2 q3 q4 q5 q6 q7 q8 : Nat) (x : FR) : va_W := [(q0, .inr (1, [.int (fKd x), .int (fRd x), .ref q1, .ref q5, .int (fHa x), .float (fSe x), .int (fPu x), .int (fBd x), .int (fCa x), .int (fLo x), .int (fSp x), .int (fKc x), .int (fNs x)])), (q1, .inr (0, [.int (dSz (fAb x)), .ref q2, .ref q3, .ref q4])), (q2, .inl (cI, 8, .inl (dCn (fAb x)))), (q3, .inl (cI, 8, .inl (dWe (fAb x)))), (q4, .inl (cI, 96, .inl (dKp (fAb x)))), (q5, .inr (0, [.int (dSz (fBe x)), .ref q6, .ref q7, .ref q8])), (q6, .inl (cI, 8, .inl (dCn (fBe x)))), (q7, .inl (cI, 8, .inl (dWe (fBe x)))), (q8, .inl (cI, 96, .inl (dKp (fBe x))))]
abbrev wHB (cI cF cJ : ClassId) (q0 q1 q2 : Nat) (x : HB) : va_W := [(q0, .inr (2, [.ref q1, .ref q2, .int (hFc x), .int (hRf x)])), (q1, .inl (cF, 4, .inr (.inr (.inr (.inr (hRw x))))))]
abbrev wTD (cI cF cJ : ClassId) (q0 q1 q2 q3 q4 q5 q6 q7 q8 q9 : Nat) (x : TD) : va_W := [(q0, .inr (3, [.ref q1, .ref q2, .int (tDr x), .int (tNu x), .int (tKi x), .ref q3, .ref q4, .ref q5, .ref q8, .ref q9, .int (tHa x), .long (tTi x)])), (q3, .inl (cI, (tN x), .inl (tUp x))), (q4, .inl (cI, (tN x), .inl (tDn x))), (q5, .inl (cJ, 2, .inr (.inr (.inr (.inr (fun i => if i = 0 then some q6 else some q7)))))), (q6, .inl (cI, (tN x), .inl (tWa x))), (q7, .inl (cI, (tN x), .inl (tWb x))), (q9, .inl (cI, 5, .inl (tSm x)))]
abbrev TY (cI cF cJ cD : ClassId) : List (ClassId × FieldType) := [(cI, .int), (cF, .object "SorobanHall$Frame"), (cJ, .array .int), (cD, .double)]
end
section
-- laid by wip/p30/specs.py
noncomputable def f_X0_countAt (D : DK) (p0 : Int32) : Option (Int32) := if p0 < 0 then (some 0) else (if (8 : Int32) ≤ p0 then (some 0) else (gd (gin p0 8) <| bnd ((dCn D) (Int32.toNatClampNeg p0)) fun (v4 : Int32) => some v4))
theorem pc_X0_countAt : yX0_countAt.cls = RX0 ∧ yX0_countAt.cls ≠ "java/lang/invoke/MethodHandle" ∧ yX0_countAt.cls ≠ "java/lang/invoke/VarHandle" ∧ (parseMethodDescriptor yX0_countAt.desc).map (fun d => d.parameters.length) = some 1 := by decide +kernel
abbrev rm_X0_countAt : Room := { frames := 1, cells := 0, slots := 0, locals := 21 }
set_option maxHeartbeats 4000000 in
set_option maxRecDepth 100000 in
theorem c_X0_countAt (l : Launch) (dC : Nat → ClassId) (dI : Nat → Nat → Nat) (cI cF cJ cD : ClassId) (q0 q1 q2 q3 : Nat) (D : DK) (p0 : Int32) (res : (Int32)) (hf : f_X0_countAt D p0 = some res) (sz : Nat) : Met l yX0_countAt (ws_ yX0_countAt cX0_countAt 2 (some .int)) rm_X0_countAt (sbPre (dC, dI) (TY cI cF cJ cD) (wDK cI cF cJ q0 q1 q2 q3 D) E0 sz [.ref q0, .int p0]) (va_Qi (fun (r : Int32) (_ : Unit) => r = res) (sbEnd (dC, dI) (fun _ => wDK cI cF cJ q0 q1 q2 q3 D) (va_A (wDK cI cF cJ q0 q1 q2 q3 D) sz)) (va_A (wDK cI cF cJ q0 q1 q2 q3 D) sz)) 0 0 (va_A (wDK cI cF cJ q0 q1 q2 q3 D) sz) := by
  refine Met.ofW (cc := cX0_countAt) (maxL := 2) (ret := (some .int)) (by decide) rfl ?_
  intro p e s m args below meth c s₁ B hml hv
  obtain ⟨rfl, hsz, hP, hK, hD0, hE⟩ := hv
  have hx := B.exec
  have hb := B.bytes
  have hr := B.returns
  have hts0 := atoms_spec (ws := ws_ yX0_countAt cX0_countAt 2 (some .int)) B.pre
  have hts := fun (w : Cond) (h : w ∈ LW) => hts0 w (List.mem_cons_of_mem _ h)
  have hown : s.vm.findClass RX0 = some m.cls := findClass_of_methodNamed B.named
  have hlocks := B.notSynchronized
  subst hsz
  have hD := hD0.self (sz := s.heap.size)
  generalize hAe : va_A (wDK cI cF cJ q0 q1 q2 q3 D) s.heap.size = A at hD ⊢
  have hA : ∀ q : Nat, s.heap.size ≤ q → A q := fun q h => by rw [← hAe]; exact Or.inr h
  have hS : va_S A s.heap s.heap [] := va_S.rf
  have hkc := Nat.zero_le rm_X0_countAt.cells
  have hks := Nat.zero_le rm_X0_countAt.slots
  have hl := lv_entry ([.ref q0, .int p0]) (n := 2) (Nat.le_of_ble_eq_true rfl)
  rw [lg_entry_eq]
  generalize (lg_sl ([.ref q0, .int p0]) ++ List.replicate (2 - (lg_sl ([.ref q0, .int p0])).length) Slot.unset).toArray = ls at hl ⊢
  have hl : lv_has ls 2 [(0, .ref q0), (1, .int p0)] := hl
  rw [f_X0_countAt] at hf
  refine lv_iload_n hx hb dX0_countAt_0 rfl (lv_at hl 1 rfl) ?_
  refine lv_if_lt (tgt := 22) hx hb dX0_countAt_1 (by decide) (fun c1 => ?_) (fun c1 => ?_)
  · have hf := ite_t hf c1
    refine lv_iconst (v := 0) hx hb dX0_countAt_22 (by decide) ?_
    obtain rfl := Option.some.inj hf
    exact W.iret (v := 0) hx hb hr (fun t ht hW => ⟨⟨_, (), rfl, rfl, by rw [ht]; exact hP, hD⟩, hS.F ht⟩) hS.2.2 dX0_countAt_23
  · have hf := ite_f hf c1
    refine lv_iload_n hx hb dX0_countAt_4 rfl (lv_at hl 1 rfl) ?_
    refine lv_aload_n hx hb dX0_countAt_5 rfl (lv_at hl 0 rfl) ?_
    refine va_get (D := (dC, dI)) (ci := 0) (v := .ref q1) (C := RX0) (T := TX0) (N := 4) hx hb hts iX0 hown hK hP 0 rfl rfl 1 (by decide) (hts _ q5) (fun _ h9 => h9) rfl dX0_countAt_6 ?_
    refine va_alen (v := 8) hx hb hK hP 1 0 rfl rfl rfl dX0_countAt_9 ?_
    refine lv_icmp_ge (tgt := 22) hx hb dX0_countAt_10 (by decide) (fun c2 => ?_) (fun c2 => ?_)
    · have hf := ite_t hf c2
      refine lv_iconst (v := 0) hx hb dX0_countAt_22 (by decide) ?_
      obtain rfl := Option.some.inj hf
      exact W.iret (v := 0) hx hb hr (fun t ht hW => ⟨⟨_, (), rfl, rfl, by rw [ht]; exact hP, hD⟩, hS.F ht⟩) hS.2.2 dX0_countAt_23
    · have hf := ite_f hf c2
      refine lv_aload_n hx hb dX0_countAt_13 rfl (lv_at hl 0 rfl) ?_
      refine va_get (D := (dC, dI)) (ci := 0) (v := .ref q1) (C := RX0) (T := TX0) (N := 4) hx hb hts iX0 hown hK hP 0 rfl rfl 1 (by decide) (hts _ q5) (fun _ h9 => h9) rfl dX0_countAt_14 ?_
      refine lv_iload_n hx hb dX0_countAt_17 rfl (lv_at hl 1 rfl) ?_
      obtain ⟨g3, hf⟩ := gd_e hf
      refine va_iald hx hb hK hP 1 0 rfl rfl (gin_in g3) dX0_countAt_18 ?_
      refine lv_topi (fun v4 ev4 => ?_)
      have hf := bnd_all hf v4 ev4
      refine lv_goto (tgt := 23) hx hb dX0_countAt_19 (by decide) ?_
      obtain rfl := Option.some.inj hf
      exact W.iret (v := v4) hx hb hr (fun t ht hW => ⟨⟨_, (), rfl, rfl, by rw [ht]; exact hP, hD⟩, hS.F ht⟩) hS.2.2 dX0_countAt_23
noncomputable def f_X0_wearAt (D : DK) (p0 : Int32) : Option (Int32) := if p0 < 0 then (some 0) else (if (8 : Int32) ≤ p0 then (some 0) else (gd (gin p0 8) <| bnd ((dWe D) (Int32.toNatClampNeg p0)) fun (v4 : Int32) => some v4))
theorem pc_X0_wearAt : yX0_wearAt.cls = RX0 ∧ yX0_wearAt.cls ≠ "java/lang/invoke/MethodHandle" ∧ yX0_wearAt.cls ≠ "java/lang/invoke/VarHandle" ∧ (parseMethodDescriptor yX0_wearAt.desc).map (fun d => d.parameters.length) = some 1 := by decide +kernel
abbrev rm_X0_wearAt : Room := { frames := 1, cells := 0, slots := 0, locals := 21 }
set_option maxHeartbeats 4000000 in
set_option maxRecDepth 100000 in
theorem c_X0_wearAt (l : Launch) (dC : Nat → ClassId) (dI : Nat → Nat → Nat) (cI cF cJ cD : ClassId) (q0 q1 q2 q3 : Nat) (D : DK) (p0 : Int32) (res : (Int32)) (hf : f_X0_wearAt D p0 = some res) (sz : Nat) : Met l yX0_wearAt (ws_ yX0_wearAt cX0_wearAt 2 (some .int)) rm_X0_wearAt (sbPre (dC, dI) (TY cI cF cJ cD) (wDK cI cF cJ q0 q1 q2 q3 D) E0 sz [.ref q0, .int p0]) (va_Qi (fun (r : Int32) (_ : Unit) => r = res) (sbEnd (dC, dI) (fun _ => wDK cI cF cJ q0 q1 q2 q3 D) (va_A (wDK cI cF cJ q0 q1 q2 q3 D) sz)) (va_A (wDK cI cF cJ q0 q1 q2 q3 D) sz)) 0 0 (va_A (wDK cI cF cJ q0 q1 q2 q3 D) sz) := by
  refine Met.ofW (cc := cX0_wearAt) (maxL := 2) (ret := (some .int)) (by decide) rfl ?_
  intro p e s m args below meth c s₁ B hml hv
  obtain ⟨rfl, hsz, hP, hK, hD0, hE⟩ := hv
  have hx := B.exec
  have hb := B.bytes
  have hr := B.returns
  have hts0 := atoms_spec (ws := ws_ yX0_wearAt cX0_wearAt 2 (some .int)) B.pre
  have hts := fun (w : Cond) (h : w ∈ LW) => hts0 w (List.mem_cons_of_mem _ h)
  have hown : s.vm.findClass RX0 = some m.cls := findClass_of_methodNamed B.named
  have hlocks := B.notSynchronized
  subst hsz
  have hD := hD0.self (sz := s.heap.size)
  generalize hAe : va_A (wDK cI cF cJ q0 q1 q2 q3 D) s.heap.size = A at hD ⊢
  have hA : ∀ q : Nat, s.heap.size ≤ q → A q := fun q h => by rw [← hAe]; exact Or.inr h
  have hS : va_S A s.heap s.heap [] := va_S.rf
  have hkc := Nat.zero_le rm_X0_wearAt.cells
  have hks := Nat.zero_le rm_X0_wearAt.slots
  have hl := lv_entry ([.ref q0, .int p0]) (n := 2) (Nat.le_of_ble_eq_true rfl)
  rw [lg_entry_eq]
  generalize (lg_sl ([.ref q0, .int p0]) ++ List.replicate (2 - (lg_sl ([.ref q0, .int p0])).length) Slot.unset).toArray = ls at hl ⊢
  have hl : lv_has ls 2 [(0, .ref q0), (1, .int p0)] := hl
  rw [f_X0_wearAt] at hf
  refine lv_iload_n hx hb dX0_wearAt_0 rfl (lv_at hl 1 rfl) ?_
  refine lv_if_lt (tgt := 22) hx hb dX0_wearAt_1 (by decide) (fun c1 => ?_) (fun c1 => ?_)
  · have hf := ite_t hf c1
    refine lv_iconst (v := 0) hx hb dX0_wearAt_22 (by decide) ?_
    obtain rfl := Option.some.inj hf
    exact W.iret (v := 0) hx hb hr (fun t ht hW => ⟨⟨_, (), rfl, rfl, by rw [ht]; exact hP, hD⟩, hS.F ht⟩) hS.2.2 dX0_wearAt_23
  · have hf := ite_f hf c1
    refine lv_iload_n hx hb dX0_wearAt_4 rfl (lv_at hl 1 rfl) ?_
    refine lv_aload_n hx hb dX0_wearAt_5 rfl (lv_at hl 0 rfl) ?_
    refine va_get (D := (dC, dI)) (ci := 0) (v := .ref q2) (C := RX0) (T := TX0) (N := 4) hx hb hts iX0 hown hK hP 0 rfl rfl 2 (by decide) (hts _ q6) (fun _ h9 => h9) rfl dX0_wearAt_6 ?_
    refine va_alen (v := 8) hx hb hK hP 2 0 rfl rfl rfl dX0_wearAt_9 ?_
    refine lv_icmp_ge (tgt := 22) hx hb dX0_wearAt_10 (by decide) (fun c2 => ?_) (fun c2 => ?_)
    · have hf := ite_t hf c2
      refine lv_iconst (v := 0) hx hb dX0_wearAt_22 (by decide) ?_
      obtain rfl := Option.some.inj hf
      exact W.iret (v := 0) hx hb hr (fun t ht hW => ⟨⟨_, (), rfl, rfl, by rw [ht]; exact hP, hD⟩, hS.F ht⟩) hS.2.2 dX0_wearAt_23
    · have hf := ite_f hf c2
      refine lv_aload_n hx hb dX0_wearAt_13 rfl (lv_at hl 0 rfl) ?_
      refine va_get (D := (dC, dI)) (ci := 0) (v := .ref q2) (C := RX0) (T := TX0) (N := 4) hx hb hts iX0 hown hK hP 0 rfl rfl 2 (by decide) (hts _ q6) (fun _ h9 => h9) rfl dX0_wearAt_14 ?_
      refine lv_iload_n hx hb dX0_wearAt_17 rfl (lv_at hl 1 rfl) ?_
      obtain ⟨g3, hf⟩ := gd_e hf
      refine va_iald hx hb hK hP 2 0 rfl rfl (gin_in g3) dX0_wearAt_18 ?_
      refine lv_topi (fun v4 ev4 => ?_)
      have hf := bnd_all hf v4 ev4
      refine lv_goto (tgt := 23) hx hb dX0_wearAt_19 (by decide) ?_
      obtain rfl := Option.some.inj hf
      exact W.iret (v := v4) hx hb hr (fun t ht hW => ⟨⟨_, (), rfl, rfl, by rw [ht]; exact hP, hD⟩, hS.F ht⟩) hS.2.2 dX0_wearAt_23
noncomputable def f_X0_isWornAt (D : DK) (p0 : Int32) : Option (Int32) := obd (f_X0_wearAt D p0) fun x1 => if x1 < 40 then (some 0) else (some 1)
theorem pc_X0_isWornAt : yX0_isWornAt.cls = RX0 ∧ yX0_isWornAt.cls ≠ "java/lang/invoke/MethodHandle" ∧ yX0_isWornAt.cls ≠ "java/lang/invoke/VarHandle" ∧ (parseMethodDescriptor yX0_isWornAt.desc).map (fun d => d.parameters.length) = some 1 := by decide +kernel
abbrev rm_X0_isWornAt : Room := { frames := 2, cells := 0, slots := 0, locals := 42 }
set_option maxHeartbeats 4000000 in
set_option maxRecDepth 100000 in
theorem c_X0_isWornAt (l : Launch) (dC : Nat → ClassId) (dI : Nat → Nat → Nat) (cI cF cJ cD : ClassId) (q0 q1 q2 q3 : Nat) (D : DK) (p0 : Int32) (res : (Int32)) (hf : f_X0_isWornAt D p0 = some res) (sz : Nat) : Met l yX0_isWornAt (ws_ yX0_isWornAt cX0_isWornAt 2 (some .boolean)) rm_X0_isWornAt (sbPre (dC, dI) (TY cI cF cJ cD) (wDK cI cF cJ q0 q1 q2 q3 D) E0 sz [.ref q0, .int p0]) (va_Qi (fun (r : Int32) (_ : Unit) => r = res) (sbEnd (dC, dI) (fun _ => wDK cI cF cJ q0 q1 q2 q3 D) (va_A (wDK cI cF cJ q0 q1 q2 q3 D) sz)) (va_A (wDK cI cF cJ q0 q1 q2 q3 D) sz)) 0 0 (va_A (wDK cI cF cJ q0 q1 q2 q3 D) sz) := by
  refine Met.ofW (cc := cX0_isWornAt) (maxL := 2) (ret := (some .boolean)) (by decide) rfl ?_
  intro p e s m args below meth c s₁ B hml hv
  obtain ⟨rfl, hsz, hP, hK, hD0, hE⟩ := hv
  have hx := B.exec
  have hb := B.bytes
  have hr := B.returns
  have hts0 := atoms_spec (ws := ws_ yX0_isWornAt cX0_isWornAt 2 (some .boolean)) B.pre
  have hts := fun (w : Cond) (h : w ∈ LW) => hts0 w (List.mem_cons_of_mem _ h)
  have hown : s.vm.findClass RX0 = some m.cls := findClass_of_methodNamed B.named
  have hlocks := B.notSynchronized
  subst hsz
  have hD := hD0.self (sz := s.heap.size)
  generalize hAe : va_A (wDK cI cF cJ q0 q1 q2 q3 D) s.heap.size = A at hD ⊢
  have hA : ∀ q : Nat, s.heap.size ≤ q → A q := fun q h => by rw [← hAe]; exact Or.inr h
  have hS : va_S A s.heap s.heap [] := va_S.rf
  have hkc := Nat.zero_le rm_X0_isWornAt.cells
  have hks := Nat.zero_le rm_X0_isWornAt.slots
  have hl := lv_entry ([.ref q0, .int p0]) (n := 2) (Nat.le_of_ble_eq_true rfl)
  rw [lg_entry_eq]
  generalize (lg_sl ([.ref q0, .int p0]) ++ List.replicate (2 - (lg_sl ([.ref q0, .int p0])).length) Slot.unset).toArray = ls at hl ⊢
  have hl : lv_has ls 2 [(0, .ref q0), (1, .int p0)] := hl
  rw [f_X0_isWornAt] at hf
  refine lv_aload_n hx hb dX0_isWornAt_0 rfl (lv_at hl 0 rfl) ?_
  refine lv_iload_n hx hb dX0_isWornAt_1 rfl (lv_at hl 1 rfl) ?_
  obtain ⟨x1, hx1, hf⟩ := obd_e hf
  refine sb_Vi (As := [.int p0]) (rest := []) ⟨hx, hb, hml, hown, hts⟩ (fun sz => c_X0_wearAt l dC dI cI cF cJ cD q0 q1 q2 q3 D p0  x1 hx1 sz) (cwV 1 hts (g_V q12 q13 q14 q15 q10) rfl rfl rfl pc_X0_wearAt ⟨Nat.le_of_ble_eq_true rfl, Nat.le_of_ble_eq_true rfl⟩) 0 0 rfl rfl hK hP hD hS hA [0, 1, 2, 3] [] rfl rfl (by decide) (by decide) (by decide) (fun _ _ _ _ h => h) (fun _ _ _ => trivial) rfl rfl hl.1 (Nat.le_of_ble_eq_true rfl) dX0_isWornAt_2 ⟨hkc, hks⟩ (fun r9 u H locs hr9 hP hD hS => ?_)
  have hr9 := Eq.symm hr9
  subst hr9
  have hP : va_P (dC, dI) vwCl (wDK cI cF cJ q0 q1 q2 q3 D) H := hP
  have hD : va_D A (wDK cI cF cJ q0 q1 q2 q3 D) := hD
  refine lv_bipush (v := 40) hx hb dX0_isWornAt_5 (by decide) ?_
  refine lv_icmp_lt (tgt := 14) hx hb dX0_isWornAt_7 (by decide) (fun c2 => ?_) (fun c2 => ?_)
  · have hf := ite_t hf c2
    refine lv_iconst (v := 0) hx hb dX0_isWornAt_14 (by decide) ?_
    obtain rfl := Option.some.inj hf
    exact W.zret (v := 0) hx hb hr (by rfl) (fun t ht hW => ⟨⟨_, (), rfl, rfl, by rw [ht]; exact hP, hD⟩, hS.F ht⟩) hS.2.2 dX0_isWornAt_15
  · have hf := ite_f hf c2
    refine lv_iconst (v := 1) hx hb dX0_isWornAt_10 (by decide) ?_
    refine lv_goto (tgt := 15) hx hb dX0_isWornAt_11 (by decide) ?_
    obtain rfl := Option.some.inj hf
    exact W.zret (v := 1) hx hb hr (by rfl) (fun t ht hW => ⟨⟨_, (), rfl, rfl, by rw [ht]; exact hP, hD⟩, hS.F ht⟩) hS.2.2 dX0_isWornAt_15
noncomputable def f_X0_canMove (D : DK) (p0 : Int32) (p1 : Int32) : Option (Int32) := obd (f_X0_countAt D p0) fun x1 => bnd (x1.toInt64) fun (v2 : Int64) => bnd (p1.toInt64) fun (v3 : Int64) => bnd (v2 + v3) fun (v4 : Int64) => bnd (lg_cmp v4 (0 : Int64)) fun (v5 : Int32) => if v5 < 0 then (some 0) else (bnd ((dSz D).toInt64) fun (v7 : Int64) => bnd (lg_cmp v4 v7) fun (v8 : Int32) => if (0 : Int32) < v8 then (some 0) else (some 1))
theorem pc_X0_canMove : yX0_canMove.cls = RX0 ∧ yX0_canMove.cls ≠ "java/lang/invoke/MethodHandle" ∧ yX0_canMove.cls ≠ "java/lang/invoke/VarHandle" ∧ (parseMethodDescriptor yX0_canMove.desc).map (fun d => d.parameters.length) = some 2 := by decide +kernel
abbrev rm_X0_canMove : Room := { frames := 2, cells := 0, slots := 0, locals := 42 }
set_option maxHeartbeats 4000000 in
set_option maxRecDepth 100000 in
theorem c_X0_canMove (l : Launch) (dC : Nat → ClassId) (dI : Nat → Nat → Nat) (cI cF cJ cD : ClassId) (q0 q1 q2 q3 : Nat) (D : DK) (p0 : Int32) (p1 : Int32) (res : (Int32)) (hf : f_X0_canMove D p0 p1 = some res) (sz : Nat) : Met l yX0_canMove (ws_ yX0_canMove cX0_canMove 5 (some .boolean)) rm_X0_canMove (sbPre (dC, dI) (TY cI cF cJ cD) (wDK cI cF cJ q0 q1 q2 q3 D) E0 sz [.ref q0, .int p0, .int p1]) (va_Qi (fun (r : Int32) (_ : Unit) => r = res) (sbEnd (dC, dI) (fun _ => wDK cI cF cJ q0 q1 q2 q3 D) (va_A (wDK cI cF cJ q0 q1 q2 q3 D) sz)) (va_A (wDK cI cF cJ q0 q1 q2 q3 D) sz)) 0 0 (va_A (wDK cI cF cJ q0 q1 q2 q3 D) sz) := by
  refine Met.ofW (cc := cX0_canMove) (maxL := 5) (ret := (some .boolean)) (by decide) rfl ?_
  intro p e s m args below meth c s₁ B hml hv
  obtain ⟨rfl, hsz, hP, hK, hD0, hE⟩ := hv
  have hx := B.exec
  have hb := B.bytes
  have hr := B.returns
  have hts0 := atoms_spec (ws := ws_ yX0_canMove cX0_canMove 5 (some .boolean)) B.pre
  have hts := fun (w : Cond) (h : w ∈ LW) => hts0 w (List.mem_cons_of_mem _ h)
  have hown : s.vm.findClass RX0 = some m.cls := findClass_of_methodNamed B.named
  have hlocks := B.notSynchronized
  subst hsz
  have hD := hD0.self (sz := s.heap.size)
  generalize hAe : va_A (wDK cI cF cJ q0 q1 q2 q3 D) s.heap.size = A at hD ⊢
  have hA : ∀ q : Nat, s.heap.size ≤ q → A q := fun q h => by rw [← hAe]; exact Or.inr h
  have hS : va_S A s.heap s.heap [] := va_S.rf
  have hkc := Nat.zero_le rm_X0_canMove.cells
  have hks := Nat.zero_le rm_X0_canMove.slots
  have hl := lv_entry ([.ref q0, .int p0, .int p1]) (n := 5) (Nat.le_of_ble_eq_true rfl)
  rw [lg_entry_eq]
  generalize (lg_sl ([.ref q0, .int p0, .int p1]) ++ List.replicate (5 - (lg_sl ([.ref q0, .int p0, .int p1])).length) Slot.unset).toArray = ls at hl ⊢
  have hl : lv_has ls 5 [(0, .ref q0), (1, .int p0), (2, .int p1)] := hl
  rw [f_X0_canMove] at hf
  refine lv_aload_n hx hb dX0_canMove_0 rfl (lv_at hl 0 rfl) ?_
  refine lv_iload_n hx hb dX0_canMove_1 rfl (lv_at hl 1 rfl) ?_
  obtain ⟨x1, hx1, hf⟩ := obd_e hf
  refine sb_Vi (As := [.int p0]) (rest := []) ⟨hx, hb, hml, hown, hts⟩ (fun sz => c_X0_countAt l dC dI cI cF cJ cD q0 q1 q2 q3 D p0  x1 hx1 sz) (cwV 1 hts (g_V q17 q18 q19 q15 q9) rfl rfl rfl pc_X0_countAt ⟨Nat.le_of_ble_eq_true rfl, Nat.le_of_ble_eq_true rfl⟩) 0 0 rfl rfl hK hP hD hS hA [0, 1, 2, 3] [] rfl rfl (by decide) (by decide) (by decide) (fun _ _ _ _ h => h) (fun _ _ _ => trivial) rfl rfl hl.1 (Nat.le_of_ble_eq_true rfl) dX0_canMove_2 ⟨hkc, hks⟩ (fun r9 u H locs hr9 hP hD hS => ?_)
  have hr9 := Eq.symm hr9
  subst hr9
  have hP : va_P (dC, dI) vwCl (wDK cI cF cJ q0 q1 q2 q3 D) H := hP
  have hD : va_D A (wDK cI cF cJ q0 q1 q2 q3 D) := hD
  refine lv_i2l hx hb dX0_canMove_5 rfl ?_
  refine lv_topl (fun v2 ev2 => ?_)
  have hf := bnd_all hf v2 ev2
  refine lv_iload_n hx hb dX0_canMove_6 rfl (lv_at hl 2 rfl) ?_
  refine lv_i2l hx hb dX0_canMove_7 rfl ?_
  refine lv_topl (fun v3 ev3 => ?_)
  have hf := bnd_all hf v3 ev3
  refine lv_ladd hx hb dX0_canMove_8 ?_
  refine lv_topl (fun v4 ev4 => ?_)
  have hf := bnd_all hf v4 ev4
  refine lv_lstore_n (lv' := [(3, .long v4), (0, .ref q0), (1, .int p0), (2, .int p1)]) hx hb dX0_canMove_9 rfl hl (by decide) rfl (fun ls hl => ?_)
  refine lv_lload_n hx hb dX0_canMove_10 rfl (lv_at hl 0 rfl) ?_
  refine lv_lconst (v := 0) hx hb dX0_canMove_11 (by decide) ?_
  refine W.lcmp hx hb dX0_canMove_12 ?_
  refine lv_topi (fun v5 ev5 => ?_)
  have hf := bnd_all hf v5 ev5
  refine lv_if_lt (tgt := 30) hx hb dX0_canMove_13 (by decide) (fun c6 => ?_) (fun c6 => ?_)
  · have hf := ite_t hf c6
    refine lv_iconst (v := 0) hx hb dX0_canMove_30 (by decide) ?_
    obtain rfl := Option.some.inj hf
    exact W.zret (v := 0) hx hb hr (by rfl) (fun t ht hW => ⟨⟨_, (), rfl, rfl, by rw [ht]; exact hP, hD⟩, hS.F ht⟩) hS.2.2 dX0_canMove_31
  · have hf := ite_f hf c6
    refine lv_lload_n hx hb dX0_canMove_16 rfl (lv_at hl 0 rfl) ?_
    refine lv_aload_n hx hb dX0_canMove_17 rfl (lv_at hl 1 rfl) ?_
    refine va_get (D := (dC, dI)) (ci := 0) (v := .int (dSz D)) (C := RX0) (T := TX0) (N := 4) hx hb hts iX0 hown hK hP 0 rfl rfl 0 (by decide) (hts _ q8) (fun _ h9 => h9) rfl dX0_canMove_18 ?_
    refine lv_i2l hx hb dX0_canMove_21 rfl ?_
    refine lv_topl (fun v7 ev7 => ?_)
    have hf := bnd_all hf v7 ev7
    refine W.lcmp hx hb dX0_canMove_22 ?_
    refine lv_topi (fun v8 ev8 => ?_)
    have hf := bnd_all hf v8 ev8
    refine lv_if_gt (tgt := 30) hx hb dX0_canMove_23 (by decide) (fun c9 => ?_) (fun c9 => ?_)
    · have hf := ite_t hf c9
      refine lv_iconst (v := 0) hx hb dX0_canMove_30 (by decide) ?_
      obtain rfl := Option.some.inj hf
      exact W.zret (v := 0) hx hb hr (by rfl) (fun t ht hW => ⟨⟨_, (), rfl, rfl, by rw [ht]; exact hP, hD⟩, hS.F ht⟩) hS.2.2 dX0_canMove_31
    · have hf := ite_f hf c9
      refine lv_iconst (v := 1) hx hb dX0_canMove_26 (by decide) ?_
      refine lv_goto (tgt := 31) hx hb dX0_canMove_27 (by decide) ?_
      obtain rfl := Option.some.inj hf
      exact W.zret (v := 1) hx hb hr (by rfl) (fun t ht hW => ⟨⟨_, (), rfl, rfl, by rw [ht]; exact hP, hD⟩, hS.F ht⟩) hS.2.2 dX0_canMove_31
noncomputable def f_X0_freshen (D : DK) (p0 : Int32) : Option (DK) := if p0 < 0 then (some D) else (if (8 : Int32) ≤ p0 then (some D) else (gd (gin p0 8) <| some (sdWe D (upd (dWe D) (Int32.toNatClampNeg p0) 0))))
theorem pc_X0_freshen : yX0_freshen.cls = RX0 ∧ yX0_freshen.cls ≠ "java/lang/invoke/MethodHandle" ∧ yX0_freshen.cls ≠ "java/lang/invoke/VarHandle" ∧ (parseMethodDescriptor yX0_freshen.desc).map (fun d => d.parameters.length) = some 1 := by decide +kernel
abbrev rm_X0_freshen : Room := { frames := 1, cells := 0, slots := 0, locals := 21 }
set_option maxHeartbeats 4000000 in
set_option maxRecDepth 100000 in
theorem c_X0_freshen (l : Launch) (dC : Nat → ClassId) (dI : Nat → Nat → Nat) (cI cF cJ cD : ClassId) (q0 q1 q2 q3 : Nat) (D : DK) (p0 : Int32) (res : (DK)) (hf : f_X0_freshen D p0 = some res) (sz : Nat) : Met l yX0_freshen (ws_ yX0_freshen cX0_freshen 2 none) rm_X0_freshen (sbPre (dC, dI) (TY cI cF cJ cD) (wDK cI cF cJ q0 q1 q2 q3 D) E0 sz [.ref q0, .int p0]) (va_Qv (fun (_ : Unit) => True) (sbEnd (dC, dI) (fun _ => wDK cI cF cJ q0 q1 q2 q3 res) (va_A (wDK cI cF cJ q0 q1 q2 q3 D) sz)) (va_A (wDK cI cF cJ q0 q1 q2 q3 D) sz)) 0 0 (va_A (wDK cI cF cJ q0 q1 q2 q3 D) sz) := by
  refine Met.ofW (cc := cX0_freshen) (maxL := 2) (ret := none) (by decide) rfl ?_
  intro p e s m args below meth c s₁ B hml hv
  obtain ⟨rfl, hsz, hP, hK, hD0, hE⟩ := hv
  have hx := B.exec
  have hb := B.bytes
  have hr := B.returns
  have hts0 := atoms_spec (ws := ws_ yX0_freshen cX0_freshen 2 none) B.pre
  have hts := fun (w : Cond) (h : w ∈ LW) => hts0 w (List.mem_cons_of_mem _ h)
  have hown : s.vm.findClass RX0 = some m.cls := findClass_of_methodNamed B.named
  have hlocks := B.notSynchronized
  subst hsz
  have hD := hD0.self (sz := s.heap.size)
  generalize hAe : va_A (wDK cI cF cJ q0 q1 q2 q3 D) s.heap.size = A at hD ⊢
  have hA : ∀ q : Nat, s.heap.size ≤ q → A q := fun q h => by rw [← hAe]; exact Or.inr h
  have hS : va_S A s.heap s.heap [] := va_S.rf
  have hkc := Nat.zero_le rm_X0_freshen.cells
  have hks := Nat.zero_le rm_X0_freshen.slots
  have hl := lv_entry ([.ref q0, .int p0]) (n := 2) (Nat.le_of_ble_eq_true rfl)
  rw [lg_entry_eq]
  generalize (lg_sl ([.ref q0, .int p0]) ++ List.replicate (2 - (lg_sl ([.ref q0, .int p0])).length) Slot.unset).toArray = ls at hl ⊢
  have hl : lv_has ls 2 [(0, .ref q0), (1, .int p0)] := hl
  rw [f_X0_freshen] at hf
  refine lv_iload_n hx hb dX0_freshen_0 rfl (lv_at hl 1 rfl) ?_
  refine lv_if_lt (tgt := 20) hx hb dX0_freshen_1 (by decide) (fun c1 => ?_) (fun c1 => ?_)
  · have hf := ite_t hf c1
    obtain rfl := Option.some.inj hf
    exact W.vret hx hb hr (fun t ht hW => ⟨⟨(), rfl, trivial, by rw [ht]; exact hP, hD⟩, hS.F ht⟩) hS.2.2 dX0_freshen_20
  · have hf := ite_f hf c1
    refine lv_iload_n hx hb dX0_freshen_4 rfl (lv_at hl 1 rfl) ?_
    refine lv_aload_n hx hb dX0_freshen_5 rfl (lv_at hl 0 rfl) ?_
    refine va_get (D := (dC, dI)) (ci := 0) (v := .ref q2) (C := RX0) (T := TX0) (N := 4) hx hb hts iX0 hown hK hP 0 rfl rfl 2 (by decide) (hts _ q6) (fun _ h9 => h9) rfl dX0_freshen_6 ?_
    refine va_alen (v := 8) hx hb hK hP 2 0 rfl rfl rfl dX0_freshen_9 ?_
    refine lv_icmp_ge (tgt := 20) hx hb dX0_freshen_10 (by decide) (fun c2 => ?_) (fun c2 => ?_)
    · have hf := ite_t hf c2
      obtain rfl := Option.some.inj hf
      exact W.vret hx hb hr (fun t ht hW => ⟨⟨(), rfl, trivial, by rw [ht]; exact hP, hD⟩, hS.F ht⟩) hS.2.2 dX0_freshen_20
    · have hf := ite_f hf c2
      refine lv_aload_n hx hb dX0_freshen_13 rfl (lv_at hl 0 rfl) ?_
      refine va_get (D := (dC, dI)) (ci := 0) (v := .ref q2) (C := RX0) (T := TX0) (N := 4) hx hb hts iX0 hown hK hP 0 rfl rfl 2 (by decide) (hts _ q6) (fun _ h9 => h9) rfl dX0_freshen_14 ?_
      refine lv_iload_n hx hb dX0_freshen_17 rfl (lv_at hl 1 rfl) ?_
      refine lv_iconst (v := 0) hx hb dX0_freshen_18 (by decide) ?_
      obtain ⟨g3, hf⟩ := gd_e hf
      refine va_iast hx hb hK hP hD hS 2 0 rfl rfl (gin_in g3) dX0_freshen_19 (fun H locs hP hD hS => ?_)
      have hP : va_P (dC, dI) vwCl (wDK cI cF cJ q0 q1 q2 q3 (sdWe D (upd (dWe D) (Int32.toNatClampNeg p0) 0))) H := hP
      have hD : va_D A (wDK cI cF cJ q0 q1 q2 q3 (sdWe D (upd (dWe D) (Int32.toNatClampNeg p0) 0))) := hD
      obtain rfl := Option.some.inj hf
      exact W.vret hx hb hr (fun t ht hW => ⟨⟨(), rfl, trivial, by rw [ht]; exact hP, hD⟩, hS.F ht⟩) hS.2.2 dX0_freshen_20
end
section
-- laid by wip/p30/specs.py
noncomputable def f_X1_hasRod (F : FR) (p0 : Int32) : Option (Int32) := if p0 < 0 then (some 0) else (if (fRd F) ≤ p0 then (some 0) else (some 1))
theorem pc_X1_hasRod : yX1_hasRod.cls = RX1 ∧ yX1_hasRod.cls ≠ "java/lang/invoke/MethodHandle" ∧ yX1_hasRod.cls ≠ "java/lang/invoke/VarHandle" ∧ (parseMethodDescriptor yX1_hasRod.desc).map (fun d => d.parameters.length) = some 1 := by decide +kernel
abbrev rm_X1_hasRod : Room := { frames := 1, cells := 0, slots := 0, locals := 21 }
set_option maxHeartbeats 4000000 in
set_option maxRecDepth 100000 in
theorem c_X1_hasRod (l : Launch) (dC : Nat → ClassId) (dI : Nat → Nat → Nat) (cI cF cJ cD : ClassId) (q0 q1 q2 q3 q4 q5 q6 q7 q8 : Nat) (F : FR) (p0 : Int32) (res : (Int32)) (hf : f_X1_hasRod F p0 = some res) (sz : Nat) : Met l yX1_hasRod (ws_ yX1_hasRod cX1_hasRod 2 (some .boolean)) rm_X1_hasRod (sbPre (dC, dI) (TY cI cF cJ cD) (wFR cI cF cJ q0 q1 q2 q3 q4 q5 q6 q7 q8 F) E0 sz [.ref q0, .int p0]) (va_Qi (fun (r : Int32) (_ : Unit) => r = res) (sbEnd (dC, dI) (fun _ => wFR cI cF cJ q0 q1 q2 q3 q4 q5 q6 q7 q8 F) (va_A (wFR cI cF cJ q0 q1 q2 q3 q4 q5 q6 q7 q8 F) sz)) (va_A (wFR cI cF cJ q0 q1 q2 q3 q4 q5 q6 q7 q8 F) sz)) 0 0 (va_A (wFR cI cF cJ q0 q1 q2 q3 q4 q5 q6 q7 q8 F) sz) := by
  refine Met.ofW (cc := cX1_hasRod) (maxL := 2) (ret := (some .boolean)) (by decide) rfl ?_
  intro p e s m args below meth c s₁ B hml hv
  obtain ⟨rfl, hsz, hP, hK, hD0, hE⟩ := hv
  have hx := B.exec
  have hb := B.bytes
  have hr := B.returns
  have hts0 := atoms_spec (ws := ws_ yX1_hasRod cX1_hasRod 2 (some .boolean)) B.pre
  have hts := fun (w : Cond) (h : w ∈ LW) => hts0 w (List.mem_cons_of_mem _ h)
  have hown : s.vm.findClass RX1 = some m.cls := findClass_of_methodNamed B.named
  have hlocks := B.notSynchronized
  subst hsz
  have hD := hD0.self (sz := s.heap.size)
  generalize hAe : va_A (wFR cI cF cJ q0 q1 q2 q3 q4 q5 q6 q7 q8 F) s.heap.size = A at hD ⊢
  have hA : ∀ q : Nat, s.heap.size ≤ q → A q := fun q h => by rw [← hAe]; exact Or.inr h
  have hS : va_S A s.heap s.heap [] := va_S.rf
  have hkc := Nat.zero_le rm_X1_hasRod.cells
  have hks := Nat.zero_le rm_X1_hasRod.slots
  have hl := lv_entry ([.ref q0, .int p0]) (n := 2) (Nat.le_of_ble_eq_true rfl)
  rw [lg_entry_eq]
  generalize (lg_sl ([.ref q0, .int p0]) ++ List.replicate (2 - (lg_sl ([.ref q0, .int p0])).length) Slot.unset).toArray = ls at hl ⊢
  have hl : lv_has ls 2 [(0, .ref q0), (1, .int p0)] := hl
  rw [f_X1_hasRod] at hf
  refine lv_iload_n hx hb dX1_hasRod_0 rfl (lv_at hl 1 rfl) ?_
  refine lv_if_lt (tgt := 16) hx hb dX1_hasRod_1 (by decide) (fun c1 => ?_) (fun c1 => ?_)
  · have hf := ite_t hf c1
    refine lv_iconst (v := 0) hx hb dX1_hasRod_16 (by decide) ?_
    obtain rfl := Option.some.inj hf
    exact W.zret (v := 0) hx hb hr (by rfl) (fun t ht hW => ⟨⟨_, (), rfl, rfl, by rw [ht]; exact hP, hD⟩, hS.F ht⟩) hS.2.2 dX1_hasRod_17
  · have hf := ite_f hf c1
    refine lv_iload_n hx hb dX1_hasRod_4 rfl (lv_at hl 1 rfl) ?_
    refine lv_aload_n hx hb dX1_hasRod_5 rfl (lv_at hl 0 rfl) ?_
    refine va_get (D := (dC, dI)) (ci := 1) (v := .int (fRd F)) (C := RX1) (T := TX1) (N := 13) hx hb hts iX1 hown hK hP 0 rfl rfl 1 (by decide) (hts _ q27) (fun _ h9 => h9) rfl dX1_hasRod_6 ?_
    refine lv_icmp_ge (tgt := 16) hx hb dX1_hasRod_9 (by decide) (fun c2 => ?_) (fun c2 => ?_)
    · have hf := ite_t hf c2
      refine lv_iconst (v := 0) hx hb dX1_hasRod_16 (by decide) ?_
      obtain rfl := Option.some.inj hf
      exact W.zret (v := 0) hx hb hr (by rfl) (fun t ht hW => ⟨⟨_, (), rfl, rfl, by rw [ht]; exact hP, hD⟩, hS.F ht⟩) hS.2.2 dX1_hasRod_17
    · have hf := ite_f hf c2
      refine lv_iconst (v := 1) hx hb dX1_hasRod_12 (by decide) ?_
      refine lv_goto (tgt := 17) hx hb dX1_hasRod_13 (by decide) ?_
      obtain rfl := Option.some.inj hf
      exact W.zret (v := 1) hx hb hr (by rfl) (fun t ht hW => ⟨⟨_, (), rfl, rfl, by rw [ht]; exact hP, hD⟩, hS.F ht⟩) hS.2.2 dX1_hasRod_17
noncomputable def l_X1_hasRodsFor_5 (c1 : Int64) (R0 : FR) (k : Int64 → Int32 → Option (Int32)) : Nat → Int64 → Int32 → Option (Int32)
  | 0, _, _ => none
  | n + 1, a1, a2 => if (fRd R0) ≤ a2 then (k a1 a2) else (bnd (a1 * 10) fun (v4 : Int64) => bnd (a2 + 1) fun (v5 : Int32) => l_X1_hasRodsFor_5 c1 R0 k n v4 v5)
noncomputable def f_X1_hasRodsFor (F : FR) (p0 : Int64) : Option (Int32) := l_X1_hasRodsFor_5 p0 F (fun (a13 : Int64) (a14 : Int32) => bnd (lg_cmp p0 (0 : Int64)) fun (v15 : Int32) => if v15 < 0 then (some 0) else (bnd (lg_cmp p0 a13) fun (v17 : Int32) => if (0 : Int32) ≤ v17 then (some 0) else (some 1))) 16 1 0
theorem pc_X1_hasRodsFor : yX1_hasRodsFor.cls = RX1 ∧ yX1_hasRodsFor.cls ≠ "java/lang/invoke/MethodHandle" ∧ yX1_hasRodsFor.cls ≠ "java/lang/invoke/VarHandle" ∧ (parseMethodDescriptor yX1_hasRodsFor.desc).map (fun d => d.parameters.length) = some 1 := by decide +kernel
abbrev rm_X1_hasRodsFor : Room := { frames := 1, cells := 0, slots := 0, locals := 21 }
set_option maxHeartbeats 4000000 in
set_option maxRecDepth 100000 in
theorem c_X1_hasRodsFor (l : Launch) (dC : Nat → ClassId) (dI : Nat → Nat → Nat) (cI cF cJ cD : ClassId) (q0 q1 q2 q3 q4 q5 q6 q7 q8 : Nat) (F : FR) (p0 : Int64) (res : (Int32)) (hf : f_X1_hasRodsFor F p0 = some res) (sz : Nat) : Met l yX1_hasRodsFor (ws_ yX1_hasRodsFor cX1_hasRodsFor 6 (some .boolean)) rm_X1_hasRodsFor (sbPre (dC, dI) (TY cI cF cJ cD) (wFR cI cF cJ q0 q1 q2 q3 q4 q5 q6 q7 q8 F) E0 sz [.ref q0, .long p0]) (va_Qi (fun (r : Int32) (_ : Unit) => r = res) (sbEnd (dC, dI) (fun _ => wFR cI cF cJ q0 q1 q2 q3 q4 q5 q6 q7 q8 F) (va_A (wFR cI cF cJ q0 q1 q2 q3 q4 q5 q6 q7 q8 F) sz)) (va_A (wFR cI cF cJ q0 q1 q2 q3 q4 q5 q6 q7 q8 F) sz)) 0 0 (va_A (wFR cI cF cJ q0 q1 q2 q3 q4 q5 q6 q7 q8 F) sz) := by
  refine Met.ofW (cc := cX1_hasRodsFor) (maxL := 6) (ret := (some .boolean)) (by decide) rfl ?_
  intro p e s m args below meth c s₁ B hml hv
  obtain ⟨rfl, hsz, hP, hK, hD0, hE⟩ := hv
  have hx := B.exec
  have hb := B.bytes
  have hr := B.returns
  have hts0 := atoms_spec (ws := ws_ yX1_hasRodsFor cX1_hasRodsFor 6 (some .boolean)) B.pre
  have hts := fun (w : Cond) (h : w ∈ LW) => hts0 w (List.mem_cons_of_mem _ h)
  have hown : s.vm.findClass RX1 = some m.cls := findClass_of_methodNamed B.named
  have hlocks := B.notSynchronized
  subst hsz
  have hD := hD0.self (sz := s.heap.size)
  generalize hAe : va_A (wFR cI cF cJ q0 q1 q2 q3 q4 q5 q6 q7 q8 F) s.heap.size = A at hD ⊢
  have hA : ∀ q : Nat, s.heap.size ≤ q → A q := fun q h => by rw [← hAe]; exact Or.inr h
  have hS : va_S A s.heap s.heap [] := va_S.rf
  have hkc := Nat.zero_le rm_X1_hasRodsFor.cells
  have hks := Nat.zero_le rm_X1_hasRodsFor.slots
  have hl := lv_entry ([.ref q0, .long p0]) (n := 6) (Nat.le_of_ble_eq_true rfl)
  rw [lg_entry_eq]
  generalize (lg_sl ([.ref q0, .long p0]) ++ List.replicate (6 - (lg_sl ([.ref q0, .long p0])).length) Slot.unset).toArray = ls at hl ⊢
  have hl : lv_has ls 6 [(0, .ref q0), (1, .long p0)] := hl
  rw [f_X1_hasRodsFor] at hf
  refine lv_lconst (v := 1) hx hb dX1_hasRodsFor_0 (by decide) ?_
  refine lv_lstore_n (lv' := [(3, .long 1), (0, .ref q0), (1, .long p0)]) hx hb dX1_hasRodsFor_1 rfl hl (by decide) rfl (fun ls hl => ?_)
  refine lv_iconst (v := 0) hx hb dX1_hasRodsFor_2 (by decide) ?_
  refine lv_istore (lv' := [(5, .int 0), (3, .long 1), (0, .ref q0), (1, .long p0)]) hx hb dX1_hasRodsFor_3 hl (by decide) rfl (fun ls hl => ?_)
  have L5 : ∀ (k : Int64 → Int32 → Option (Int32)), (∀ (a6 : Int64) (a7 : Int32) (H : Heap) (locs : List Loc) (ls : Array Slot), va_P (dC, dI) vwCl (wFR cI cF cJ q0 q1 q2 q3 q4 q5 q6 q7 q8 F) H → va_D A (wFR cI cF cJ q0 q1 q2 q3 q4 q5 q6 q7 q8 F) → va_S A s.heap H locs → lv_has ls 6 [(3, .long a6), (1, .long p0)] → k a6 a7 = some res → W p l e (headSpec (ws_ yX1_hasRodsFor cX1_hasRodsFor 6 (some .boolean)) rm_X1_hasRodsFor).room s m ([.ref q0, .long p0].toArray) below meth c H locs 0 0 (MQ below (va_Qi (fun (r : Int32) (_ : Unit) => r = res) (sbEnd (dC, dI) (fun _ => wFR cI cF cJ q0 q1 q2 q3 q4 q5 q6 q7 q8 F) (A)) (A)) ([.ref q0, .long p0].toArray) s 0 0 A) (F0 m 26 ls [])) → ∀ (n : Nat) (a6 : Int64) (a7 : Int32) (H : Heap) (locs : List Loc) (ls : Array Slot), va_P (dC, dI) vwCl (wFR cI cF cJ q0 q1 q2 q3 q4 q5 q6 q7 q8 F) H → va_D A (wFR cI cF cJ q0 q1 q2 q3 q4 q5 q6 q7 q8 F) → va_S A s.heap H locs → lv_has ls 6 [(3, .long a6), (5, .int a7), (0, .ref q0), (1, .long p0)] → l_X1_hasRodsFor_5 p0 F k n a6 a7 = some res → W p l e (headSpec (ws_ yX1_hasRodsFor cX1_hasRodsFor 6 (some .boolean)) rm_X1_hasRodsFor).room s m ([.ref q0, .long p0].toArray) below meth c H locs 0 0 (MQ below (va_Qi (fun (r : Int32) (_ : Unit) => r = res) (sbEnd (dC, dI) (fun _ => wFR cI cF cJ q0 q1 q2 q3 q4 q5 q6 q7 q8 F) (A)) (A)) ([.ref q0, .long p0].toArray) s 0 0 A) (F0 m 5 ls []) := by
    intro k hk n
    induction n with
    | zero =>
      intro a8 a9 H locs ls hP hD hS hl hf
      rw [l_X1_hasRodsFor_5] at hf
      cases hf
    | succ n ih =>
      intro a8 a9 H locs ls hP hD hS hl hf
      rw [l_X1_hasRodsFor_5] at hf
      refine lv_iload hx hb dX1_hasRodsFor_5 (lv_at hl 1 rfl) ?_
      refine lv_aload_n hx hb dX1_hasRodsFor_7 rfl (lv_at hl 2 rfl) ?_
      refine va_get (D := (dC, dI)) (ci := 1) (v := .int (fRd F)) (C := RX1) (T := TX1) (N := 13) hx hb hts iX1 hown hK hP 0 rfl rfl 1 (by decide) (hts _ q27) (fun _ h9 => h9) rfl dX1_hasRodsFor_8 ?_
      refine lv_icmp_ge (tgt := 26) hx hb dX1_hasRodsFor_11 (by decide) (fun c10 => ?_) (fun c10 => ?_)
      · have hf := ite_t hf c10
        exact hk a8 a9 _ _ _ hP hD hS (lv_sub hl [0, 3] rfl) hf
      · have hf := ite_f hf c10
        refine lv_lload_n hx hb dX1_hasRodsFor_14 rfl (lv_at hl 0 rfl) ?_
        refine lv_ldc2 hx hb hown (hts _ q47) dX1_hasRodsFor_15 ?_
        refine lv_lmul hx hb dX1_hasRodsFor_18 ?_
        refine lv_topl (fun v11 ev11 => ?_)
        have hf := bnd_all hf v11 ev11
        refine lv_lstore_n (lv' := [(3, .long v11), (5, .int a9), (0, .ref q0), (1, .long p0)]) hx hb dX1_hasRodsFor_19 rfl hl (by decide) rfl (fun ls hl => ?_)
        obtain ⟨v12, ev12⟩ : ∃ y : Int32, y = a9 + 1 := ⟨_, rfl⟩
        have hf := bnd_all hf v12 ev12
        refine lv_iinc (v := v12) (lv' := [(5, .int v12), (3, .long v11), (0, .ref q0), (1, .long p0)]) hx hb dX1_hasRodsFor_20 hl (k := 1) rfl (by rw [ev12]; rfl) (by decide) rfl (fun ls hl => ?_)
        refine lv_goto (tgt := 5) hx hb dX1_hasRodsFor_23 (by decide) ?_
        exact ih v11 v12 _ _ _ hP hD hS (lv_sub hl [1, 0, 2, 3] rfl) hf
  refine L5 _ (fun a13 a14 H locs ls hP hD hS hl hf => ?_) 16 1 0 _ _ _ hP hD hS (lv_sub hl [1, 0, 2, 3] rfl) hf
  refine lv_lload_n hx hb dX1_hasRodsFor_26 rfl (lv_at hl 1 rfl) ?_
  refine lv_lconst (v := 0) hx hb dX1_hasRodsFor_27 (by decide) ?_
  refine W.lcmp hx hb dX1_hasRodsFor_28 ?_
  refine lv_topi (fun v15 ev15 => ?_)
  have hf := bnd_all hf v15 ev15
  refine lv_if_lt (tgt := 42) hx hb dX1_hasRodsFor_29 (by decide) (fun c16 => ?_) (fun c16 => ?_)
  · have hf := ite_t hf c16
    refine lv_iconst (v := 0) hx hb dX1_hasRodsFor_42 (by decide) ?_
    obtain rfl := Option.some.inj hf
    exact W.zret (v := 0) hx hb hr (by rfl) (fun t ht hW => ⟨⟨_, (), rfl, rfl, by rw [ht]; exact hP, hD⟩, hS.F ht⟩) hS.2.2 dX1_hasRodsFor_43
  · have hf := ite_f hf c16
    refine lv_lload_n hx hb dX1_hasRodsFor_32 rfl (lv_at hl 1 rfl) ?_
    refine lv_lload_n hx hb dX1_hasRodsFor_33 rfl (lv_at hl 0 rfl) ?_
    refine W.lcmp hx hb dX1_hasRodsFor_34 ?_
    refine lv_topi (fun v17 ev17 => ?_)
    have hf := bnd_all hf v17 ev17
    refine lv_if_ge (tgt := 42) hx hb dX1_hasRodsFor_35 (by decide) (fun c18 => ?_) (fun c18 => ?_)
    · have hf := ite_t hf c18
      refine lv_iconst (v := 0) hx hb dX1_hasRodsFor_42 (by decide) ?_
      obtain rfl := Option.some.inj hf
      exact W.zret (v := 0) hx hb hr (by rfl) (fun t ht hW => ⟨⟨_, (), rfl, rfl, by rw [ht]; exact hP, hD⟩, hS.F ht⟩) hS.2.2 dX1_hasRodsFor_43
    · have hf := ite_f hf c18
      refine lv_iconst (v := 1) hx hb dX1_hasRodsFor_38 (by decide) ?_
      refine lv_goto (tgt := 43) hx hb dX1_hasRodsFor_39 (by decide) ?_
      obtain rfl := Option.some.inj hf
      exact W.zret (v := 1) hx hb hr (by rfl) (fun t ht hW => ⟨⟨_, (), rfl, rfl, by rw [ht]; exact hP, hD⟩, hS.F ht⟩) hS.2.2 dX1_hasRodsFor_43
noncomputable def f_X1_valueAt (F : FR) (p0 : Int32) : Option (Int32) := obd (f_X0_countAt (fAb F) p0) fun x1 => bnd (5 * x1) fun (v2 : Int32) => obd (f_X0_countAt (fBe F) p0) fun x3 => bnd (v2 + x3) fun (v4 : Int32) => some v4
theorem pc_X1_valueAt : yX1_valueAt.cls = RX1 ∧ yX1_valueAt.cls ≠ "java/lang/invoke/MethodHandle" ∧ yX1_valueAt.cls ≠ "java/lang/invoke/VarHandle" ∧ (parseMethodDescriptor yX1_valueAt.desc).map (fun d => d.parameters.length) = some 1 := by decide +kernel
abbrev rm_X1_valueAt : Room := { frames := 2, cells := 0, slots := 0, locals := 42 }
set_option maxHeartbeats 4000000 in
set_option maxRecDepth 100000 in
theorem c_X1_valueAt (l : Launch) (dC : Nat → ClassId) (dI : Nat → Nat → Nat) (cI cF cJ cD : ClassId) (q0 q1 q2 q3 q4 q5 q6 q7 q8 : Nat) (F : FR) (p0 : Int32) (res : (Int32)) (hf : f_X1_valueAt F p0 = some res) (sz : Nat) : Met l yX1_valueAt (ws_ yX1_valueAt cX1_valueAt 2 (some .int)) rm_X1_valueAt (sbPre (dC, dI) (TY cI cF cJ cD) (wFR cI cF cJ q0 q1 q2 q3 q4 q5 q6 q7 q8 F) E0 sz [.ref q0, .int p0]) (va_Qi (fun (r : Int32) (_ : Unit) => r = res) (sbEnd (dC, dI) (fun _ => wFR cI cF cJ q0 q1 q2 q3 q4 q5 q6 q7 q8 F) (va_A (wFR cI cF cJ q0 q1 q2 q3 q4 q5 q6 q7 q8 F) sz)) (va_A (wFR cI cF cJ q0 q1 q2 q3 q4 q5 q6 q7 q8 F) sz)) 0 0 (va_A (wFR cI cF cJ q0 q1 q2 q3 q4 q5 q6 q7 q8 F) sz) := by
  refine Met.ofW (cc := cX1_valueAt) (maxL := 2) (ret := (some .int)) (by decide) rfl ?_
  intro p e s m args below meth c s₁ B hml hv
  obtain ⟨rfl, hsz, hP, hK, hD0, hE⟩ := hv
  have hx := B.exec
  have hb := B.bytes
  have hr := B.returns
  have hts0 := atoms_spec (ws := ws_ yX1_valueAt cX1_valueAt 2 (some .int)) B.pre
  have hts := fun (w : Cond) (h : w ∈ LW) => hts0 w (List.mem_cons_of_mem _ h)
  have hown : s.vm.findClass RX1 = some m.cls := findClass_of_methodNamed B.named
  have hlocks := B.notSynchronized
  subst hsz
  have hD := hD0.self (sz := s.heap.size)
  generalize hAe : va_A (wFR cI cF cJ q0 q1 q2 q3 q4 q5 q6 q7 q8 F) s.heap.size = A at hD ⊢
  have hA : ∀ q : Nat, s.heap.size ≤ q → A q := fun q h => by rw [← hAe]; exact Or.inr h
  have hS : va_S A s.heap s.heap [] := va_S.rf
  have hkc := Nat.zero_le rm_X1_valueAt.cells
  have hks := Nat.zero_le rm_X1_valueAt.slots
  have hl := lv_entry ([.ref q0, .int p0]) (n := 2) (Nat.le_of_ble_eq_true rfl)
  rw [lg_entry_eq]
  generalize (lg_sl ([.ref q0, .int p0]) ++ List.replicate (2 - (lg_sl ([.ref q0, .int p0])).length) Slot.unset).toArray = ls at hl ⊢
  have hl : lv_has ls 2 [(0, .ref q0), (1, .int p0)] := hl
  rw [f_X1_valueAt] at hf
  refine lv_iconst (v := 5) hx hb dX1_valueAt_0 (by decide) ?_
  refine lv_aload_n hx hb dX1_valueAt_1 rfl (lv_at hl 0 rfl) ?_
  refine va_get (D := (dC, dI)) (ci := 1) (v := .ref q1) (C := RX1) (T := TX1) (N := 13) hx hb hts iX1 hown hK hP 0 rfl rfl 2 (by decide) (hts _ q30) (fun _ h9 => h9) rfl dX1_valueAt_2 ?_
  refine lv_iload_n hx hb dX1_valueAt_5 rfl (lv_at hl 1 rfl) ?_
  obtain ⟨x1, hx1, hf⟩ := obd_e hf
  refine sb_Vi (As := [.int p0]) (rest := [.int 5]) ⟨hx, hb, hml, hown, hts⟩ (fun sz => c_X0_countAt l dC dI cI cF cJ cD q1 q2 q3 q4 (fAb F) p0  x1 hx1 sz) (cwV 1 hts (g_V q49 q18 q19 q15 q9) rfl rfl rfl pc_X0_countAt ⟨Nat.le_of_ble_eq_true rfl, Nat.le_of_ble_eq_true rfl⟩) 0 0 rfl rfl hK hP hD hS hA [1, 2, 3, 4] [0, 5, 6, 7, 8] rfl rfl (by decide) (by decide) (by decide) (fun _ _ _ _ h => h) (fun _ _ _ => trivial) rfl rfl hl.1 (Nat.le_of_ble_eq_true rfl) dX1_valueAt_6 ⟨hkc, hks⟩ (fun r9 u H locs hr9 hP hD hS => ?_)
  have hr9 := Eq.symm hr9
  subst hr9
  have hP : va_P (dC, dI) vwCl (wFR cI cF cJ q0 q1 q2 q3 q4 q5 q6 q7 q8 F) H := hP.sub [0, 5, 6, 7, 8, 1, 2, 3, 4] rfl
  have hD : va_D A (wFR cI cF cJ q0 q1 q2 q3 q4 q5 q6 q7 q8 F) := hD.sub [0, 5, 6, 7, 8, 1, 2, 3, 4] (by decide) rfl
  refine lv_imul hx hb dX1_valueAt_9 ?_
  refine lv_topi (fun v2 ev2 => ?_)
  have hf := bnd_all hf v2 ev2
  refine lv_aload_n hx hb dX1_valueAt_10 rfl (lv_at hl 0 rfl) ?_
  refine va_get (D := (dC, dI)) (ci := 1) (v := .ref q5) (C := RX1) (T := TX1) (N := 13) hx hb hts iX1 hown hK hP 0 rfl rfl 3 (by decide) (hts _ q31) (fun _ h9 => h9) rfl dX1_valueAt_11 ?_
  refine lv_iload_n hx hb dX1_valueAt_14 rfl (lv_at hl 1 rfl) ?_
  obtain ⟨x3, hx3, hf⟩ := obd_e hf
  refine sb_Vi (As := [.int p0]) (rest := [.int v2]) ⟨hx, hb, hml, hown, hts⟩ (fun sz => c_X0_countAt l dC dI cI cF cJ cD q5 q6 q7 q8 (fBe F) p0  x3 hx3 sz) (cwV 1 hts (g_V q49 q18 q19 q15 q9) rfl rfl rfl pc_X0_countAt ⟨Nat.le_of_ble_eq_true rfl, Nat.le_of_ble_eq_true rfl⟩) 0 0 rfl rfl hK hP hD hS hA [5, 6, 7, 8] [0, 1, 2, 3, 4] rfl rfl (by decide) (by decide) (by decide) (fun _ _ _ _ h => h) (fun _ _ _ => trivial) rfl rfl hl.1 (Nat.le_of_ble_eq_true rfl) dX1_valueAt_15 ⟨hkc, hks⟩ (fun r9 u H locs hr9 hP hD hS => ?_)
  have hr9 := Eq.symm hr9
  subst hr9
  have hP : va_P (dC, dI) vwCl (wFR cI cF cJ q0 q1 q2 q3 q4 q5 q6 q7 q8 F) H := hP
  have hD : va_D A (wFR cI cF cJ q0 q1 q2 q3 q4 q5 q6 q7 q8 F) := hD
  refine lv_iadd hx hb dX1_valueAt_18 ?_
  refine lv_topi (fun v4 ev4 => ?_)
  have hf := bnd_all hf v4 ev4
  obtain rfl := Option.some.inj hf
  exact W.iret (v := v4) hx hb hr (fun t ht hW => ⟨⟨_, (), rfl, rfl, by rw [ht]; exact hP, hD⟩, hS.F ht⟩) hS.2.2 dX1_valueAt_19
noncomputable def f_X1_mostOfRod (F : FR) : Option (Int32) := bnd (5 * (dSz (fAb F))) fun (v1 : Int32) => bnd (v1 + (dSz (fBe F))) fun (v2 : Int32) => some v2
theorem pc_X1_mostOfRod : yX1_mostOfRod.cls = RX1 ∧ yX1_mostOfRod.cls ≠ "java/lang/invoke/MethodHandle" ∧ yX1_mostOfRod.cls ≠ "java/lang/invoke/VarHandle" ∧ (parseMethodDescriptor yX1_mostOfRod.desc).map (fun d => d.parameters.length) = some 0 := by decide +kernel
abbrev rm_X1_mostOfRod : Room := { frames := 1, cells := 0, slots := 0, locals := 21 }
set_option maxHeartbeats 4000000 in
set_option maxRecDepth 100000 in
theorem c_X1_mostOfRod (l : Launch) (dC : Nat → ClassId) (dI : Nat → Nat → Nat) (cI cF cJ cD : ClassId) (q0 q1 q2 q3 q4 q5 q6 q7 q8 : Nat) (F : FR) (res : (Int32)) (hf : f_X1_mostOfRod F = some res) (sz : Nat) : Met l yX1_mostOfRod (ws_ yX1_mostOfRod cX1_mostOfRod 1 (some .int)) rm_X1_mostOfRod (sbPre (dC, dI) (TY cI cF cJ cD) (wFR cI cF cJ q0 q1 q2 q3 q4 q5 q6 q7 q8 F) E0 sz [.ref q0]) (va_Qi (fun (r : Int32) (_ : Unit) => r = res) (sbEnd (dC, dI) (fun _ => wFR cI cF cJ q0 q1 q2 q3 q4 q5 q6 q7 q8 F) (va_A (wFR cI cF cJ q0 q1 q2 q3 q4 q5 q6 q7 q8 F) sz)) (va_A (wFR cI cF cJ q0 q1 q2 q3 q4 q5 q6 q7 q8 F) sz)) 0 0 (va_A (wFR cI cF cJ q0 q1 q2 q3 q4 q5 q6 q7 q8 F) sz) := by
  refine Met.ofW (cc := cX1_mostOfRod) (maxL := 1) (ret := (some .int)) (by decide) rfl ?_
  intro p e s m args below meth c s₁ B hml hv
  obtain ⟨rfl, hsz, hP, hK, hD0, hE⟩ := hv
  have hx := B.exec
  have hb := B.bytes
  have hr := B.returns
  have hts0 := atoms_spec (ws := ws_ yX1_mostOfRod cX1_mostOfRod 1 (some .int)) B.pre
  have hts := fun (w : Cond) (h : w ∈ LW) => hts0 w (List.mem_cons_of_mem _ h)
  have hown : s.vm.findClass RX1 = some m.cls := findClass_of_methodNamed B.named
  have hlocks := B.notSynchronized
  subst hsz
  have hD := hD0.self (sz := s.heap.size)
  generalize hAe : va_A (wFR cI cF cJ q0 q1 q2 q3 q4 q5 q6 q7 q8 F) s.heap.size = A at hD ⊢
  have hA : ∀ q : Nat, s.heap.size ≤ q → A q := fun q h => by rw [← hAe]; exact Or.inr h
  have hS : va_S A s.heap s.heap [] := va_S.rf
  have hkc := Nat.zero_le rm_X1_mostOfRod.cells
  have hks := Nat.zero_le rm_X1_mostOfRod.slots
  have hl := lv_entry ([.ref q0]) (n := 1) (Nat.le_of_ble_eq_true rfl)
  rw [lg_entry_eq]
  generalize (lg_sl ([.ref q0]) ++ List.replicate (1 - (lg_sl ([.ref q0])).length) Slot.unset).toArray = ls at hl ⊢
  have hl : lv_has ls 1 [(0, .ref q0)] := hl
  rw [f_X1_mostOfRod] at hf
  refine lv_iconst (v := 5) hx hb dX1_mostOfRod_0 (by decide) ?_
  refine lv_aload_n hx hb dX1_mostOfRod_1 rfl (lv_at hl 0 rfl) ?_
  refine va_get (D := (dC, dI)) (ci := 1) (v := .ref q1) (C := RX1) (T := TX1) (N := 13) hx hb hts iX1 hown hK hP 0 rfl rfl 2 (by decide) (hts _ q30) (fun _ h9 => h9) rfl dX1_mostOfRod_2 ?_
  refine va_get (D := (dC, dI)) (ci := 0) (v := .int (dSz (fAb F))) (C := RX0) (T := TX0) (N := 4) hx hb hts iX0 hown hK hP 1 rfl rfl 0 (by decide) (hts _ q51) (fun _ h9 => h9) rfl dX1_mostOfRod_5 ?_
  refine lv_imul hx hb dX1_mostOfRod_8 ?_
  refine lv_topi (fun v1 ev1 => ?_)
  have hf := bnd_all hf v1 ev1
  refine lv_aload_n hx hb dX1_mostOfRod_9 rfl (lv_at hl 0 rfl) ?_
  refine va_get (D := (dC, dI)) (ci := 1) (v := .ref q5) (C := RX1) (T := TX1) (N := 13) hx hb hts iX1 hown hK hP 0 rfl rfl 3 (by decide) (hts _ q31) (fun _ h9 => h9) rfl dX1_mostOfRod_10 ?_
  refine va_get (D := (dC, dI)) (ci := 0) (v := .int (dSz (fBe F))) (C := RX0) (T := TX0) (N := 4) hx hb hts iX0 hown hK hP 5 rfl rfl 0 (by decide) (hts _ q51) (fun _ h9 => h9) rfl dX1_mostOfRod_13 ?_
  refine lv_iadd hx hb dX1_mostOfRod_16 ?_
  refine lv_topi (fun v2 ev2 => ?_)
  have hf := bnd_all hf v2 ev2
  obtain rfl := Option.some.inj hf
  exact W.iret (v := v2) hx hb hr (fun t ht hW => ⟨⟨_, (), rfl, rfl, by rw [ht]; exact hP, hD⟩, hS.F ht⟩) hS.2.2 dX1_mostOfRod_17
noncomputable def l_X1_shownNumber_9 (R0 : FR) (k : Int64 → Int32 → Option (Int64)) : Nat → Int64 → Int32 → Option (Int64)
  | 0, _, _ => none
  | n + 1, a2, a3 => if a3 < 0 then (k a2 a3) else (bnd (a2 * 10) fun (v5 : Int64) => obd (f_X1_valueAt R0 a3) fun x6 => bnd (x6.toInt64) fun (v7 : Int64) => bnd (v5 + v7) fun (v8 : Int64) => bnd (a3 + (-1)) fun (v9 : Int32) => l_X1_shownNumber_9 R0 k n v8 v9)
noncomputable def f_X1_shownNumber (F : FR) : Option (Int64) := bnd ((fRd F) - 1) fun (v1 : Int32) => l_X1_shownNumber_9 F (fun (a20 : Int64) (a21 : Int32) => some a20) 16 0 v1
theorem pc_X1_shownNumber : yX1_shownNumber.cls = RX1 ∧ yX1_shownNumber.cls ≠ "java/lang/invoke/MethodHandle" ∧ yX1_shownNumber.cls ≠ "java/lang/invoke/VarHandle" ∧ (parseMethodDescriptor yX1_shownNumber.desc).map (fun d => d.parameters.length) = some 0 := by decide +kernel
abbrev rm_X1_shownNumber : Room := { frames := 3, cells := 0, slots := 0, locals := 63 }
set_option maxHeartbeats 4000000 in
set_option maxRecDepth 100000 in
theorem c_X1_shownNumber (l : Launch) (dC : Nat → ClassId) (dI : Nat → Nat → Nat) (cI cF cJ cD : ClassId) (q0 q1 q2 q3 q4 q5 q6 q7 q8 : Nat) (F : FR) (res : (Int64)) (hf : f_X1_shownNumber F = some res) (sz : Nat) : Met l yX1_shownNumber (ws_ yX1_shownNumber cX1_shownNumber 4 (some .long)) rm_X1_shownNumber (sbPre (dC, dI) (TY cI cF cJ cD) (wFR cI cF cJ q0 q1 q2 q3 q4 q5 q6 q7 q8 F) E0 sz [.ref q0]) (va_Ql (fun (r : Int64) (_ : Unit) => r = res) (sbEnd (dC, dI) (fun _ => wFR cI cF cJ q0 q1 q2 q3 q4 q5 q6 q7 q8 F) (va_A (wFR cI cF cJ q0 q1 q2 q3 q4 q5 q6 q7 q8 F) sz)) (va_A (wFR cI cF cJ q0 q1 q2 q3 q4 q5 q6 q7 q8 F) sz)) 0 0 (va_A (wFR cI cF cJ q0 q1 q2 q3 q4 q5 q6 q7 q8 F) sz) := by
  refine Met.ofW (cc := cX1_shownNumber) (maxL := 4) (ret := (some .long)) (by decide) rfl ?_
  intro p e s m args below meth c s₁ B hml hv
  obtain ⟨rfl, hsz, hP, hK, hD0, hE⟩ := hv
  have hx := B.exec
  have hb := B.bytes
  have hr := B.returns
  have hts0 := atoms_spec (ws := ws_ yX1_shownNumber cX1_shownNumber 4 (some .long)) B.pre
  have hts := fun (w : Cond) (h : w ∈ LW) => hts0 w (List.mem_cons_of_mem _ h)
  have hown : s.vm.findClass RX1 = some m.cls := findClass_of_methodNamed B.named
  have hlocks := B.notSynchronized
  subst hsz
  have hD := hD0.self (sz := s.heap.size)
  generalize hAe : va_A (wFR cI cF cJ q0 q1 q2 q3 q4 q5 q6 q7 q8 F) s.heap.size = A at hD ⊢
  have hA : ∀ q : Nat, s.heap.size ≤ q → A q := fun q h => by rw [← hAe]; exact Or.inr h
  have hS : va_S A s.heap s.heap [] := va_S.rf
  have hkc := Nat.zero_le rm_X1_shownNumber.cells
  have hks := Nat.zero_le rm_X1_shownNumber.slots
  have hl := lv_entry ([.ref q0]) (n := 4) (Nat.le_of_ble_eq_true rfl)
  rw [lg_entry_eq]
  generalize (lg_sl ([.ref q0]) ++ List.replicate (4 - (lg_sl ([.ref q0])).length) Slot.unset).toArray = ls at hl ⊢
  have hl : lv_has ls 4 [(0, .ref q0)] := hl
  rw [f_X1_shownNumber] at hf
  refine lv_lconst (v := 0) hx hb dX1_shownNumber_0 (by decide) ?_
  refine lv_lstore_n (lv' := [(1, .long 0), (0, .ref q0)]) hx hb dX1_shownNumber_1 rfl hl (by decide) rfl (fun ls hl => ?_)
  refine lv_aload_n hx hb dX1_shownNumber_2 rfl (lv_at hl 1 rfl) ?_
  refine va_get (D := (dC, dI)) (ci := 1) (v := .int (fRd F)) (C := RX1) (T := TX1) (N := 13) hx hb hts iX1 hown hK hP 0 rfl rfl 1 (by decide) (hts _ q27) (fun _ h9 => h9) rfl dX1_shownNumber_3 ?_
  refine lv_iconst (v := 1) hx hb dX1_shownNumber_6 (by decide) ?_
  refine lv_isub hx hb dX1_shownNumber_7 ?_
  refine lv_topi (fun v1 ev1 => ?_)
  have hf := bnd_all hf v1 ev1
  refine lv_istore_n (lv' := [(3, .int v1), (1, .long 0), (0, .ref q0)]) hx hb dX1_shownNumber_8 rfl hl (by decide) rfl (fun ls hl => ?_)
  have L9 : ∀ (k : Int64 → Int32 → Option (Int64)), (∀ (a10 : Int64) (a11 : Int32) (H : Heap) (locs : List Loc) (ls : Array Slot), va_P (dC, dI) vwCl (wFR cI cF cJ q0 q1 q2 q3 q4 q5 q6 q7 q8 F) H → va_D A (wFR cI cF cJ q0 q1 q2 q3 q4 q5 q6 q7 q8 F) → va_S A s.heap H locs → lv_has ls 4 [(1, .long a10)] → k a10 a11 = some res → W p l e (headSpec (ws_ yX1_shownNumber cX1_shownNumber 4 (some .long)) rm_X1_shownNumber).room s m ([.ref q0].toArray) below meth c H locs 0 0 (MQ below (va_Ql (fun (r : Int64) (_ : Unit) => r = res) (sbEnd (dC, dI) (fun _ => wFR cI cF cJ q0 q1 q2 q3 q4 q5 q6 q7 q8 F) (A)) (A)) ([.ref q0].toArray) s 0 0 A) (F0 m 32 ls [])) → ∀ (n : Nat) (a10 : Int64) (a11 : Int32) (H : Heap) (locs : List Loc) (ls : Array Slot), va_P (dC, dI) vwCl (wFR cI cF cJ q0 q1 q2 q3 q4 q5 q6 q7 q8 F) H → va_D A (wFR cI cF cJ q0 q1 q2 q3 q4 q5 q6 q7 q8 F) → va_S A s.heap H locs → lv_has ls 4 [(1, .long a10), (3, .int a11), (0, .ref q0)] → l_X1_shownNumber_9 F k n a10 a11 = some res → W p l e (headSpec (ws_ yX1_shownNumber cX1_shownNumber 4 (some .long)) rm_X1_shownNumber).room s m ([.ref q0].toArray) below meth c H locs 0 0 (MQ below (va_Ql (fun (r : Int64) (_ : Unit) => r = res) (sbEnd (dC, dI) (fun _ => wFR cI cF cJ q0 q1 q2 q3 q4 q5 q6 q7 q8 F) (A)) (A)) ([.ref q0].toArray) s 0 0 A) (F0 m 9 ls []) := by
    intro k hk n
    induction n with
    | zero =>
      intro a12 a13 H locs ls hP hD hS hl hf
      rw [l_X1_shownNumber_9] at hf
      cases hf
    | succ n ih =>
      intro a12 a13 H locs ls hP hD hS hl hf
      rw [l_X1_shownNumber_9] at hf
      refine lv_iload_n hx hb dX1_shownNumber_9 rfl (lv_at hl 1 rfl) ?_
      refine lv_if_lt (tgt := 32) hx hb dX1_shownNumber_10 (by decide) (fun c14 => ?_) (fun c14 => ?_)
      · have hf := ite_t hf c14
        exact hk a12 a13 _ _ _ hP hD hS (lv_sub hl [0] rfl) hf
      · have hf := ite_f hf c14
        refine lv_lload_n hx hb dX1_shownNumber_13 rfl (lv_at hl 0 rfl) ?_
        refine lv_ldc2 hx hb hown (hts _ q47) dX1_shownNumber_14 ?_
        refine lv_lmul hx hb dX1_shownNumber_17 ?_
        refine lv_topl (fun v15 ev15 => ?_)
        have hf := bnd_all hf v15 ev15
        refine lv_aload_n hx hb dX1_shownNumber_18 rfl (lv_at hl 2 rfl) ?_
        refine lv_iload_n hx hb dX1_shownNumber_19 rfl (lv_at hl 1 rfl) ?_
        obtain ⟨x16, hx16, hf⟩ := obd_e hf
        refine sb_Vi (As := [.int a13]) (rest := [.long v15]) ⟨hx, hb, hml, hown, hts⟩ (fun sz => c_X1_valueAt l dC dI cI cF cJ cD q0 q1 q2 q3 q4 q5 q6 q7 q8 F a13  x16 hx16 sz) (cwV 1 hts (g_V q53 q54 q55 q56 q48) rfl rfl rfl pc_X1_valueAt ⟨Nat.le_of_ble_eq_true rfl, Nat.le_of_ble_eq_true rfl⟩) 0 1 rfl rfl hK hP hD hS hA [0, 1, 2, 3, 4, 5, 6, 7, 8] [] rfl rfl (by decide) (by decide) (by decide) (fun _ _ _ _ h => h) (fun _ _ _ => trivial) rfl rfl hl.1 (Nat.le_of_ble_eq_true rfl) dX1_shownNumber_20 ⟨hkc, hks⟩ (fun r9 u H locs hr9 hP hD hS => ?_)
        have hr9 := Eq.symm hr9
        subst hr9
        have hP : va_P (dC, dI) vwCl (wFR cI cF cJ q0 q1 q2 q3 q4 q5 q6 q7 q8 F) H := hP
        have hD : va_D A (wFR cI cF cJ q0 q1 q2 q3 q4 q5 q6 q7 q8 F) := hD
        refine lv_i2l hx hb dX1_shownNumber_23 rfl ?_
        refine lv_topl (fun v17 ev17 => ?_)
        have hf := bnd_all hf v17 ev17
        refine lv_ladd hx hb dX1_shownNumber_24 ?_
        refine lv_topl (fun v18 ev18 => ?_)
        have hf := bnd_all hf v18 ev18
        refine lv_lstore_n (lv' := [(1, .long v18), (3, .int a13), (0, .ref q0)]) hx hb dX1_shownNumber_25 rfl hl (by decide) rfl (fun ls hl => ?_)
        obtain ⟨v19, ev19⟩ : ∃ y : Int32, y = a13 + (-1) := ⟨_, rfl⟩
        have hf := bnd_all hf v19 ev19
        refine lv_iinc (v := v19) (lv' := [(3, .int v19), (1, .long v18), (0, .ref q0)]) hx hb dX1_shownNumber_26 hl (k := 1) rfl (by rw [ev19]; rfl) (by decide) rfl (fun ls hl => ?_)
        refine lv_goto (tgt := 9) hx hb dX1_shownNumber_29 (by decide) ?_
        exact ih v18 v19 _ _ _ hP hD hS (lv_sub hl [1, 0, 2] rfl) hf
  refine L9 _ (fun a20 a21 H locs ls hP hD hS hl hf => ?_) 16 0 v1 _ _ _ hP hD hS (lv_sub hl [1, 0, 2] rfl) hf
  refine lv_lload_n hx hb dX1_shownNumber_32 rfl (lv_at hl 0 rfl) ?_
  obtain rfl := Option.some.inj hf
  exact W.lret (v := a20) hx hb hr (fun t ht hW => ⟨⟨_, (), rfl, rfl, by rw [ht]; exact hP, hD⟩, hS.F ht⟩) hS.2.2 dX1_shownNumber_33
noncomputable def l_X1_isTidy_2 (R0 : FR) (k : Int32 → Option (Int32)) : Nat → Int32 → Option (Int32)
  | 0, _ => none
  | n + 1, a1 => if (fRd R0) ≤ a1 then (k a1) else (obd (f_X1_valueAt R0 a1) fun x3 => if x3 ≤ 9 then (bnd (a1 + 1) fun (v5 : Int32) => l_X1_isTidy_2 R0 k n v5) else (some 0))
noncomputable def f_X1_isTidy (F : FR) : Option (Int32) := l_X1_isTidy_2 F (fun (a12 : Int32) => some 1) 16 0
theorem pc_X1_isTidy : yX1_isTidy.cls = RX1 ∧ yX1_isTidy.cls ≠ "java/lang/invoke/MethodHandle" ∧ yX1_isTidy.cls ≠ "java/lang/invoke/VarHandle" ∧ (parseMethodDescriptor yX1_isTidy.desc).map (fun d => d.parameters.length) = some 0 := by decide +kernel
abbrev rm_X1_isTidy : Room := { frames := 3, cells := 0, slots := 0, locals := 63 }
set_option maxHeartbeats 4000000 in
set_option maxRecDepth 100000 in
theorem c_X1_isTidy (l : Launch) (dC : Nat → ClassId) (dI : Nat → Nat → Nat) (cI cF cJ cD : ClassId) (q0 q1 q2 q3 q4 q5 q6 q7 q8 : Nat) (F : FR) (res : (Int32)) (hf : f_X1_isTidy F = some res) (sz : Nat) : Met l yX1_isTidy (ws_ yX1_isTidy cX1_isTidy 2 (some .boolean)) rm_X1_isTidy (sbPre (dC, dI) (TY cI cF cJ cD) (wFR cI cF cJ q0 q1 q2 q3 q4 q5 q6 q7 q8 F) E0 sz [.ref q0]) (va_Qi (fun (r : Int32) (_ : Unit) => r = res) (sbEnd (dC, dI) (fun _ => wFR cI cF cJ q0 q1 q2 q3 q4 q5 q6 q7 q8 F) (va_A (wFR cI cF cJ q0 q1 q2 q3 q4 q5 q6 q7 q8 F) sz)) (va_A (wFR cI cF cJ q0 q1 q2 q3 q4 q5 q6 q7 q8 F) sz)) 0 0 (va_A (wFR cI cF cJ q0 q1 q2 q3 q4 q5 q6 q7 q8 F) sz) := by
  refine Met.ofW (cc := cX1_isTidy) (maxL := 2) (ret := (some .boolean)) (by decide) rfl ?_
  intro p e s m args below meth c s₁ B hml hv
  obtain ⟨rfl, hsz, hP, hK, hD0, hE⟩ := hv
  have hx := B.exec
  have hb := B.bytes
  have hr := B.returns
  have hts0 := atoms_spec (ws := ws_ yX1_isTidy cX1_isTidy 2 (some .boolean)) B.pre
  have hts := fun (w : Cond) (h : w ∈ LW) => hts0 w (List.mem_cons_of_mem _ h)
  have hown : s.vm.findClass RX1 = some m.cls := findClass_of_methodNamed B.named
  have hlocks := B.notSynchronized
  subst hsz
  have hD := hD0.self (sz := s.heap.size)
  generalize hAe : va_A (wFR cI cF cJ q0 q1 q2 q3 q4 q5 q6 q7 q8 F) s.heap.size = A at hD ⊢
  have hA : ∀ q : Nat, s.heap.size ≤ q → A q := fun q h => by rw [← hAe]; exact Or.inr h
  have hS : va_S A s.heap s.heap [] := va_S.rf
  have hkc := Nat.zero_le rm_X1_isTidy.cells
  have hks := Nat.zero_le rm_X1_isTidy.slots
  have hl := lv_entry ([.ref q0]) (n := 2) (Nat.le_of_ble_eq_true rfl)
  rw [lg_entry_eq]
  generalize (lg_sl ([.ref q0]) ++ List.replicate (2 - (lg_sl ([.ref q0])).length) Slot.unset).toArray = ls at hl ⊢
  have hl : lv_has ls 2 [(0, .ref q0)] := hl
  rw [f_X1_isTidy] at hf
  refine lv_iconst (v := 0) hx hb dX1_isTidy_0 (by decide) ?_
  refine lv_istore_n (lv' := [(1, .int 0), (0, .ref q0)]) hx hb dX1_isTidy_1 rfl hl (by decide) rfl (fun ls hl => ?_)
  have L2 : ∀ (k : Int32 → Option (Int32)), (∀ (a6 : Int32) (H : Heap) (locs : List Loc) (ls : Array Slot), va_P (dC, dI) vwCl (wFR cI cF cJ q0 q1 q2 q3 q4 q5 q6 q7 q8 F) H → va_D A (wFR cI cF cJ q0 q1 q2 q3 q4 q5 q6 q7 q8 F) → va_S A s.heap H locs → lv_has ls 2 [] → k a6 = some res → W p l e (headSpec (ws_ yX1_isTidy cX1_isTidy 2 (some .boolean)) rm_X1_isTidy).room s m ([.ref q0].toArray) below meth c H locs 0 0 (MQ below (va_Qi (fun (r : Int32) (_ : Unit) => r = res) (sbEnd (dC, dI) (fun _ => wFR cI cF cJ q0 q1 q2 q3 q4 q5 q6 q7 q8 F) (A)) (A)) ([.ref q0].toArray) s 0 0 A) (F0 m 28 ls [])) → ∀ (n : Nat) (a6 : Int32) (H : Heap) (locs : List Loc) (ls : Array Slot), va_P (dC, dI) vwCl (wFR cI cF cJ q0 q1 q2 q3 q4 q5 q6 q7 q8 F) H → va_D A (wFR cI cF cJ q0 q1 q2 q3 q4 q5 q6 q7 q8 F) → va_S A s.heap H locs → lv_has ls 2 [(1, .int a6), (0, .ref q0)] → l_X1_isTidy_2 F k n a6 = some res → W p l e (headSpec (ws_ yX1_isTidy cX1_isTidy 2 (some .boolean)) rm_X1_isTidy).room s m ([.ref q0].toArray) below meth c H locs 0 0 (MQ below (va_Qi (fun (r : Int32) (_ : Unit) => r = res) (sbEnd (dC, dI) (fun _ => wFR cI cF cJ q0 q1 q2 q3 q4 q5 q6 q7 q8 F) (A)) (A)) ([.ref q0].toArray) s 0 0 A) (F0 m 2 ls []) := by
    intro k hk n
    induction n with
    | zero =>
      intro a7 H locs ls hP hD hS hl hf
      rw [l_X1_isTidy_2] at hf
      cases hf
    | succ n ih =>
      intro a7 H locs ls hP hD hS hl hf
      rw [l_X1_isTidy_2] at hf
      refine lv_iload_n hx hb dX1_isTidy_2 rfl (lv_at hl 0 rfl) ?_
      refine lv_aload_n hx hb dX1_isTidy_3 rfl (lv_at hl 1 rfl) ?_
      refine va_get (D := (dC, dI)) (ci := 1) (v := .int (fRd F)) (C := RX1) (T := TX1) (N := 13) hx hb hts iX1 hown hK hP 0 rfl rfl 1 (by decide) (hts _ q27) (fun _ h9 => h9) rfl dX1_isTidy_4 ?_
      refine lv_icmp_ge (tgt := 28) hx hb dX1_isTidy_7 (by decide) (fun c8 => ?_) (fun c8 => ?_)
      · have hf := ite_t hf c8
        exact hk a7 _ _ _ hP hD hS (lv_sub hl [] rfl) hf
      · have hf := ite_f hf c8
        refine lv_aload_n hx hb dX1_isTidy_10 rfl (lv_at hl 1 rfl) ?_
        refine lv_iload_n hx hb dX1_isTidy_11 rfl (lv_at hl 0 rfl) ?_
        obtain ⟨x9, hx9, hf⟩ := obd_e hf
        refine sb_Vi (As := [.int a7]) (rest := []) ⟨hx, hb, hml, hown, hts⟩ (fun sz => c_X1_valueAt l dC dI cI cF cJ cD q0 q1 q2 q3 q4 q5 q6 q7 q8 F a7  x9 hx9 sz) (cwV 1 hts (g_V q53 q54 q55 q56 q48) rfl rfl rfl pc_X1_valueAt ⟨Nat.le_of_ble_eq_true rfl, Nat.le_of_ble_eq_true rfl⟩) 0 1 rfl rfl hK hP hD hS hA [0, 1, 2, 3, 4, 5, 6, 7, 8] [] rfl rfl (by decide) (by decide) (by decide) (fun _ _ _ _ h => h) (fun _ _ _ => trivial) rfl rfl hl.1 (Nat.le_of_ble_eq_true rfl) dX1_isTidy_12 ⟨hkc, hks⟩ (fun r9 u H locs hr9 hP hD hS => ?_)
        have hr9 := Eq.symm hr9
        subst hr9
        have hP : va_P (dC, dI) vwCl (wFR cI cF cJ q0 q1 q2 q3 q4 q5 q6 q7 q8 F) H := hP
        have hD : va_D A (wFR cI cF cJ q0 q1 q2 q3 q4 q5 q6 q7 q8 F) := hD
        refine lv_bipush (v := 9) hx hb dX1_isTidy_15 (by decide) ?_
        refine lv_icmp_le (tgt := 22) hx hb dX1_isTidy_17 (by decide) (fun c10 => ?_) (fun c10 => ?_)
        · have hf := ite_t hf c10
          obtain ⟨v11, ev11⟩ : ∃ y : Int32, y = a7 + 1 := ⟨_, rfl⟩
          have hf := bnd_all hf v11 ev11
          refine lv_iinc (v := v11) (lv' := [(1, .int v11), (0, .ref q0)]) hx hb dX1_isTidy_22 hl (k := 0) rfl (by rw [ev11]; rfl) (by decide) rfl (fun ls hl => ?_)
          refine lv_goto (tgt := 2) hx hb dX1_isTidy_25 (by decide) ?_
          exact ih v11 _ _ _ hP hD hS (lv_sub hl [0, 1] rfl) hf
        · have hf := ite_f hf c10
          refine lv_iconst (v := 0) hx hb dX1_isTidy_20 (by decide) ?_
          obtain rfl := Option.some.inj hf
          exact W.zret (v := 0) hx hb hr (by rfl) (fun t ht hW => ⟨⟨_, (), rfl, rfl, by rw [ht]; exact hP, hD⟩, hS.F ht⟩) hS.2.2 dX1_isTidy_21
  refine L2 _ (fun a12 H locs ls hP hD hS hl hf => ?_) 16 0 _ _ _ hP hD hS (lv_sub hl [0, 1] rfl) hf
  refine lv_iconst (v := 1) hx hb dX1_isTidy_28 (by decide) ?_
  obtain rfl := Option.some.inj hf
  exact W.zret (v := 1) hx hb hr (by rfl) (fun t ht hW => ⟨⟨_, (), rfl, rfl, by rw [ht]; exact hP, hD⟩, hS.F ht⟩) hS.2.2 dX1_isTidy_29
noncomputable def f_X1_moveHand (F : FR) (p0 : Int32) : Option (FR) := bnd (p0 - (fHa F)) fun (v1 : Int32) => bnd (if 0 ≤ v1 then v1 else 0 - v1) fun (v2 : Int32) => if v2 ≤ 0 then (some F) else (bnd (FP.i2f v2) fun (v4 : UInt32) => gd (nn32 (FP.fmul 1040187392 v4)) <| bnd (FP.fmul 1040187392 v4) fun (v6 : UInt32) => gd (nn32 (FP.fadd (fSe F) v6)) <| bnd (FP.fadd (fSe F) v6) fun (v8 : UInt32) => some (sfSe (sfHa F p0) v8))
theorem pc_X1_moveHand : yX1_moveHand.cls = RX1 ∧ yX1_moveHand.cls ≠ "java/lang/invoke/MethodHandle" ∧ yX1_moveHand.cls ≠ "java/lang/invoke/VarHandle" ∧ (parseMethodDescriptor yX1_moveHand.desc).map (fun d => d.parameters.length) = some 1 := by decide +kernel
abbrev rm_X1_moveHand : Room := { frames := 1, cells := 0, slots := 0, locals := 21 }
set_option maxHeartbeats 4000000 in
set_option maxRecDepth 100000 in
theorem c_X1_moveHand (l : Launch) (dC : Nat → ClassId) (dI : Nat → Nat → Nat) (cI cF cJ cD : ClassId) (q0 q1 q2 q3 q4 q5 q6 q7 q8 : Nat) (F : FR) (p0 : Int32) (res : (FR)) (hf : f_X1_moveHand F p0 = some res) (sz : Nat) : Met l yX1_moveHand (ws_ yX1_moveHand cX1_moveHand 3 none) rm_X1_moveHand (sbPre (dC, dI) (TY cI cF cJ cD) (wFR cI cF cJ q0 q1 q2 q3 q4 q5 q6 q7 q8 F) E0 sz [.ref q0, .int p0]) (va_Qv (fun (_ : Unit) => True) (sbEnd (dC, dI) (fun _ => wFR cI cF cJ q0 q1 q2 q3 q4 q5 q6 q7 q8 res) (va_A (wFR cI cF cJ q0 q1 q2 q3 q4 q5 q6 q7 q8 F) sz)) (va_A (wFR cI cF cJ q0 q1 q2 q3 q4 q5 q6 q7 q8 F) sz)) 0 0 (va_A (wFR cI cF cJ q0 q1 q2 q3 q4 q5 q6 q7 q8 F) sz) := by
  refine Met.ofW (cc := cX1_moveHand) (maxL := 3) (ret := none) (by decide) rfl ?_
  intro p e s m args below meth c s₁ B hml hv
  obtain ⟨rfl, hsz, hP, hK, hD0, hE⟩ := hv
  have hx := B.exec
  have hb := B.bytes
  have hr := B.returns
  have hts0 := atoms_spec (ws := ws_ yX1_moveHand cX1_moveHand 3 none) B.pre
  have hts := fun (w : Cond) (h : w ∈ LW) => hts0 w (List.mem_cons_of_mem _ h)
  have hown : s.vm.findClass RX1 = some m.cls := findClass_of_methodNamed B.named
  have hlocks := B.notSynchronized
  subst hsz
  have hD := hD0.self (sz := s.heap.size)
  generalize hAe : va_A (wFR cI cF cJ q0 q1 q2 q3 q4 q5 q6 q7 q8 F) s.heap.size = A at hD ⊢
  have hA : ∀ q : Nat, s.heap.size ≤ q → A q := fun q h => by rw [← hAe]; exact Or.inr h
  have hS : va_S A s.heap s.heap [] := va_S.rf
  have hkc := Nat.zero_le rm_X1_moveHand.cells
  have hks := Nat.zero_le rm_X1_moveHand.slots
  have hl := lv_entry ([.ref q0, .int p0]) (n := 3) (Nat.le_of_ble_eq_true rfl)
  rw [lg_entry_eq]
  generalize (lg_sl ([.ref q0, .int p0]) ++ List.replicate (3 - (lg_sl ([.ref q0, .int p0])).length) Slot.unset).toArray = ls at hl ⊢
  have hl : lv_has ls 3 [(0, .ref q0), (1, .int p0)] := hl
  rw [f_X1_moveHand] at hf
  refine lv_iload_n hx hb dX1_moveHand_0 rfl (lv_at hl 1 rfl) ?_
  refine lv_aload_n hx hb dX1_moveHand_1 rfl (lv_at hl 0 rfl) ?_
  refine va_get (D := (dC, dI)) (ci := 1) (v := .int (fHa F)) (C := RX1) (T := TX1) (N := 13) hx hb hts iX1 hown hK hP 0 rfl rfl 4 (by decide) (hts _ q34) (fun _ h9 => h9) rfl dX1_moveHand_2 ?_
  refine lv_isub hx hb dX1_moveHand_5 ?_
  refine lv_topi (fun v1 ev1 => ?_)
  have hf := bnd_all hf v1 ev1
  refine va_mabs hx hb (hml.trans hl.1.symm) hown (hts _ q59) (hts _ q60) (hts _ q61) (hts _ q62) (Nat.le_of_ble_eq_true rfl) (Nat.le_of_ble_eq_true rfl) hkc hks dX1_moveHand_6 ?_
  refine lv_topi (fun v2 ev2 => ?_)
  have hf := bnd_all hf v2 ev2
  refine lv_istore_n (lv' := [(2, .int v2), (0, .ref q0), (1, .int p0)]) hx hb dX1_moveHand_9 rfl hl (by decide) rfl (fun ls hl => ?_)
  refine lv_iload_n hx hb dX1_moveHand_10 rfl (lv_at hl 0 rfl) ?_
  refine lv_if_le (tgt := 33) hx hb dX1_moveHand_11 (by decide) (fun c3 => ?_) (fun c3 => ?_)
  · have hf := ite_t hf c3
    obtain rfl := Option.some.inj hf
    exact W.vret hx hb hr (fun t ht hW => ⟨⟨(), rfl, trivial, by rw [ht]; exact hP, hD⟩, hS.F ht⟩) hS.2.2 dX1_moveHand_33
  · have hf := ite_f hf c3
    refine lv_aload_n hx hb dX1_moveHand_14 rfl (lv_at hl 1 rfl) ?_
    refine lv_aload_n hx hb dX1_moveHand_15 rfl (lv_at hl 1 rfl) ?_
    refine va_get (D := (dC, dI)) (ci := 1) (v := .float (fSe F)) (C := RX1) (T := TX1) (N := 13) hx hb hts iX1 hown hK hP 0 rfl rfl 5 (by decide) (hts _ q35) (fun _ h9 => h9) rfl dX1_moveHand_16 ?_
    refine lv_ldcf hx hb hown (hts _ q63) dX1_moveHand_19 ?_
    refine lv_iload_n hx hb dX1_moveHand_21 rfl (lv_at hl 0 rfl) ?_
    refine lv_i2f hx hb dX1_moveHand_22 ?_
    refine lv_topf (fun v4 ev4 => ?_)
    have hf := bnd_all hf v4 ev4
    obtain ⟨g5, hf⟩ := gd_e hf
    refine lv_fmul hx hb dX1_moveHand_23 (nn32_e g5) ?_
    refine lv_topf (fun v6 ev6 => ?_)
    have hf := bnd_all hf v6 ev6
    obtain ⟨g7, hf⟩ := gd_e hf
    refine lv_fadd hx hb dX1_moveHand_24 (nn32_e g7) ?_
    refine lv_topf (fun v8 ev8 => ?_)
    have hf := bnd_all hf v8 ev8
    refine va_put (D := (dC, dI)) (ci := 1) (v := .float v8) (ty := .float) (C := RX1) (T := TX1) (N := 13) hx hb hts iX1 tyX1 tyX1_ok nmX1 hown hK hP hD hS 0 rfl rfl 5 (by decide) (hts _ q35) (fun _ h9 => h9) rfl (by decide +kernel) rfl rfl (Nat.le_of_ble_eq_true rfl) dX1_moveHand_25 (fun H locs hP hD hS => ?_)
    have hP : va_P (dC, dI) vwCl (wFR cI cF cJ q0 q1 q2 q3 q4 q5 q6 q7 q8 (sfSe F v8)) H := hP
    have hD : va_D A (wFR cI cF cJ q0 q1 q2 q3 q4 q5 q6 q7 q8 (sfSe F v8)) := hD
    refine lv_aload_n hx hb dX1_moveHand_28 rfl (lv_at hl 1 rfl) ?_
    refine lv_iload_n hx hb dX1_moveHand_29 rfl (lv_at hl 2 rfl) ?_
    refine va_put (D := (dC, dI)) (ci := 1) (v := .int p0) (ty := .int) (C := RX1) (T := TX1) (N := 13) hx hb hts iX1 tyX1 tyX1_ok nmX1 hown hK hP hD hS 0 rfl rfl 4 (by decide) (hts _ q34) (fun _ h9 => h9) rfl (by decide +kernel) rfl rfl (Nat.le_of_ble_eq_true rfl) dX1_moveHand_30 (fun H locs hP hD hS => ?_)
    have hP : va_P (dC, dI) vwCl (wFR cI cF cJ q0 q1 q2 q3 q4 q5 q6 q7 q8 (sfSe (sfHa F p0) v8)) H := hP
    have hD : va_D A (wFR cI cF cJ q0 q1 q2 q3 q4 q5 q6 q7 q8 (sfSe (sfHa F p0) v8)) := hD
    obtain rfl := Option.some.inj hf
    exact W.vret hx hb hr (fun t ht hW => ⟨⟨(), rfl, trivial, by rw [ht]; exact hP, hD⟩, hS.F ht⟩) hS.2.2 dX1_moveHand_33
noncomputable def f_X1_pushDeck (F : FR) (p0 : Int32) (p1 : Int32) : Option (FR) := if p0 < 0 then (some F) else (if (8 : Int32) ≤ p0 then (some F) else (if p0 < 8 then (bnd (if 0 ≤ p1 then p1 else 0 - p1) fun (v4 : Int32) => bnd (FP.i2f v4) fun (v5 : UInt32) => gd (nn32 (FP.fmul 1031798784 v5)) <| bnd (FP.fmul 1031798784 v5) fun (v7 : UInt32) => gd (nn32 (FP.fadd 1048576000 v7)) <| bnd (FP.fadd 1048576000 v7) fun (v9 : UInt32) => gd (gin p0 8) <| bnd ((dWe (fAb F)) (Int32.toNatClampNeg p0)) fun (v11 : Int32) => if v11 < 40 then (gd (nn32 (FP.fadd (fSe F) v9)) <| bnd (FP.fadd (fSe F) v9) fun (v14 : UInt32) => gd (gin p0 8) <| bnd ((dCn (fAb F)) (Int32.toNatClampNeg p0)) fun (v16 : Int32) => bnd (v16 + p1) fun (v17 : Int32) => gd (gin p0 8) <| gd (gin p0 8) <| bnd ((dWe (fAb F)) (Int32.toNatClampNeg p0)) fun (v20 : Int32) => bnd (v20 + v4) fun (v21 : Int32) => gd (gin p0 8) <| bnd ((fPu F) + 1) fun (v23 : Int32) => bnd ((fBd F) + v4) fun (v24 : Int32) => some (sfBd (sfPu (sfSe (sfAb F (sdWe (sdCn (fAb F) (upd (dCn (fAb F)) (Int32.toNatClampNeg p0) v17)) (upd (dWe (fAb F)) (Int32.toNatClampNeg p0) v21))) v14) v23) v24)) else (gd (nn32 (FP.fmul v9 FP.fconst2)) <| bnd (FP.fmul v9 FP.fconst2) fun (v26 : UInt32) => gd (nn32 (FP.fadd (fSe F) v26)) <| bnd (FP.fadd (fSe F) v26) fun (v28 : UInt32) => gd (gin p0 8) <| bnd ((dCn (fAb F)) (Int32.toNatClampNeg p0)) fun (v30 : Int32) => bnd (v30 + p1) fun (v31 : Int32) => gd (gin p0 8) <| gd (gin p0 8) <| bnd ((dWe (fAb F)) (Int32.toNatClampNeg p0)) fun (v34 : Int32) => bnd (v34 + v4) fun (v35 : Int32) => gd (gin p0 8) <| bnd ((fPu F) + 1) fun (v37 : Int32) => bnd ((fBd F) + v4) fun (v38 : Int32) => some (sfBd (sfPu (sfSe (sfAb F (sdWe (sdCn (fAb F) (upd (dCn (fAb F)) (Int32.toNatClampNeg p0) v31)) (upd (dWe (fAb F)) (Int32.toNatClampNeg p0) v35))) v28) v37) v38))) else (some F)))
theorem pc_X1_pushDeck : yX1_pushDeck.cls = RX1 ∧ yX1_pushDeck.cls ≠ "java/lang/invoke/MethodHandle" ∧ yX1_pushDeck.cls ≠ "java/lang/invoke/VarHandle" ∧ (parseMethodDescriptor yX1_pushDeck.desc).map (fun d => d.parameters.length) = some 3 := by decide +kernel
abbrev rm_X1_pushDeck : Room := { frames := 1, cells := 0, slots := 0, locals := 21 }
set_option maxHeartbeats 4000000 in
set_option maxRecDepth 100000 in
theorem c_X1_pushDeck (l : Launch) (dC : Nat → ClassId) (dI : Nat → Nat → Nat) (cI cF cJ cD : ClassId) (q0 q1 q2 q3 q4 q5 q6 q7 q8 : Nat) (F : FR) (p0 : Int32) (p1 : Int32) (res : (FR)) (hf : f_X1_pushDeck F p0 p1 = some res) (sz : Nat) : Met l yX1_pushDeck (ws_ yX1_pushDeck cX1_pushDeck 6 none) rm_X1_pushDeck (sbPre (dC, dI) (TY cI cF cJ cD) (wFR cI cF cJ q0 q1 q2 q3 q4 q5 q6 q7 q8 F) E0 sz [.ref q0, .ref q1, .int p0, .int p1]) (va_Qv (fun (_ : Unit) => True) (sbEnd (dC, dI) (fun _ => wFR cI cF cJ q0 q1 q2 q3 q4 q5 q6 q7 q8 res) (va_A (wFR cI cF cJ q0 q1 q2 q3 q4 q5 q6 q7 q8 F) sz)) (va_A (wFR cI cF cJ q0 q1 q2 q3 q4 q5 q6 q7 q8 F) sz)) 0 0 (va_A (wFR cI cF cJ q0 q1 q2 q3 q4 q5 q6 q7 q8 F) sz) := by
  refine Met.ofW (cc := cX1_pushDeck) (maxL := 6) (ret := none) (by decide) rfl ?_
  intro p e s m args below meth c s₁ B hml hv
  obtain ⟨rfl, hsz, hP, hK, hD0, hE⟩ := hv
  have hx := B.exec
  have hb := B.bytes
  have hr := B.returns
  have hts0 := atoms_spec (ws := ws_ yX1_pushDeck cX1_pushDeck 6 none) B.pre
  have hts := fun (w : Cond) (h : w ∈ LW) => hts0 w (List.mem_cons_of_mem _ h)
  have hown : s.vm.findClass RX1 = some m.cls := findClass_of_methodNamed B.named
  have hlocks := B.notSynchronized
  subst hsz
  have hD := hD0.self (sz := s.heap.size)
  generalize hAe : va_A (wFR cI cF cJ q0 q1 q2 q3 q4 q5 q6 q7 q8 F) s.heap.size = A at hD ⊢
  have hA : ∀ q : Nat, s.heap.size ≤ q → A q := fun q h => by rw [← hAe]; exact Or.inr h
  have hS : va_S A s.heap s.heap [] := va_S.rf
  have hkc := Nat.zero_le rm_X1_pushDeck.cells
  have hks := Nat.zero_le rm_X1_pushDeck.slots
  have hl := lv_entry ([.ref q0, .ref q1, .int p0, .int p1]) (n := 6) (Nat.le_of_ble_eq_true rfl)
  rw [lg_entry_eq]
  generalize (lg_sl ([.ref q0, .ref q1, .int p0, .int p1]) ++ List.replicate (6 - (lg_sl ([.ref q0, .ref q1, .int p0, .int p1])).length) Slot.unset).toArray = ls at hl ⊢
  have hl : lv_has ls 6 [(0, .ref q0), (1, .ref q1), (2, .int p0), (3, .int p1)] := hl
  rw [f_X1_pushDeck] at hf
  refine lv_iload_n hx hb dX1_pushDeck_0 rfl (lv_at hl 2 rfl) ?_
  refine lv_if_lt (tgt := 22) hx hb dX1_pushDeck_1 (by decide) (fun c1 => ?_) (fun c1 => ?_)
  · have hf := ite_t hf c1
    obtain rfl := Option.some.inj hf
    exact W.vret hx hb hr (fun t ht hW => ⟨⟨(), rfl, trivial, by rw [ht]; exact hP, hD⟩, hS.F ht⟩) hS.2.2 dX1_pushDeck_22
  · have hf := ite_f hf c1
    refine lv_iload_n hx hb dX1_pushDeck_4 rfl (lv_at hl 2 rfl) ?_
    refine lv_aload_n hx hb dX1_pushDeck_5 rfl (lv_at hl 1 rfl) ?_
    refine va_get (D := (dC, dI)) (ci := 0) (v := .ref q2) (C := RX0) (T := TX0) (N := 4) hx hb hts iX0 hown hK hP 1 rfl rfl 1 (by decide) (hts _ q65) (fun _ h9 => h9) rfl dX1_pushDeck_6 ?_
    refine va_alen (v := 8) hx hb hK hP 2 0 rfl rfl rfl dX1_pushDeck_9 ?_
    refine lv_icmp_ge (tgt := 22) hx hb dX1_pushDeck_10 (by decide) (fun c2 => ?_) (fun c2 => ?_)
    · have hf := ite_t hf c2
      obtain rfl := Option.some.inj hf
      exact W.vret hx hb hr (fun t ht hW => ⟨⟨(), rfl, trivial, by rw [ht]; exact hP, hD⟩, hS.F ht⟩) hS.2.2 dX1_pushDeck_22
    · have hf := ite_f hf c2
      refine lv_iload_n hx hb dX1_pushDeck_13 rfl (lv_at hl 2 rfl) ?_
      refine lv_aload_n hx hb dX1_pushDeck_14 rfl (lv_at hl 1 rfl) ?_
      refine va_get (D := (dC, dI)) (ci := 0) (v := .ref q3) (C := RX0) (T := TX0) (N := 4) hx hb hts iX0 hown hK hP 1 rfl rfl 2 (by decide) (hts _ q66) (fun _ h9 => h9) rfl dX1_pushDeck_15 ?_
      refine va_alen (v := 8) hx hb hK hP 3 0 rfl rfl rfl dX1_pushDeck_18 ?_
      refine lv_icmp_lt (tgt := 23) hx hb dX1_pushDeck_19 (by decide) (fun c3 => ?_) (fun c3 => ?_)
      · have hf := ite_t hf c3
        refine lv_iload_n hx hb dX1_pushDeck_23 rfl (lv_at hl 3 rfl) ?_
        refine va_mabs hx hb (hml.trans hl.1.symm) hown (hts _ q59) (hts _ q60) (hts _ q61) (hts _ q62) (Nat.le_of_ble_eq_true rfl) (Nat.le_of_ble_eq_true rfl) hkc hks dX1_pushDeck_24 ?_
        refine lv_topi (fun v4 ev4 => ?_)
        have hf := bnd_all hf v4 ev4
        refine lv_istore (lv' := [(4, .int v4), (0, .ref q0), (1, .ref q1), (2, .int p0), (3, .int p1)]) hx hb dX1_pushDeck_27 hl (by decide) rfl (fun ls hl => ?_)
        refine lv_ldcf hx hb hown (hts _ q67) dX1_pushDeck_29 ?_
        refine lv_ldcf hx hb hown (hts _ q68) dX1_pushDeck_31 ?_
        refine lv_iload hx hb dX1_pushDeck_33 (lv_at hl 0 rfl) ?_
        refine lv_i2f hx hb dX1_pushDeck_35 ?_
        refine lv_topf (fun v5 ev5 => ?_)
        have hf := bnd_all hf v5 ev5
        obtain ⟨g6, hf⟩ := gd_e hf
        refine lv_fmul hx hb dX1_pushDeck_36 (nn32_e g6) ?_
        refine lv_topf (fun v7 ev7 => ?_)
        have hf := bnd_all hf v7 ev7
        obtain ⟨g8, hf⟩ := gd_e hf
        refine lv_fadd hx hb dX1_pushDeck_37 (nn32_e g8) ?_
        refine lv_topf (fun v9 ev9 => ?_)
        have hf := bnd_all hf v9 ev9
        refine lv_fstore (lv' := [(5, .float v9), (4, .int v4), (0, .ref q0), (1, .ref q1), (2, .int p0), (3, .int p1)]) hx hb dX1_pushDeck_38 hl (by decide) rfl (fun ls hl => ?_)
        refine lv_aload_n hx hb dX1_pushDeck_40 rfl (lv_at hl 3 rfl) ?_
        refine va_get (D := (dC, dI)) (ci := 0) (v := .ref q3) (C := RX0) (T := TX0) (N := 4) hx hb hts iX0 hown hK hP 1 rfl rfl 2 (by decide) (hts _ q66) (fun _ h9 => h9) rfl dX1_pushDeck_41 ?_
        refine lv_iload_n hx hb dX1_pushDeck_44 rfl (lv_at hl 4 rfl) ?_
        obtain ⟨g10, hf⟩ := gd_e hf
        refine va_iald hx hb hK hP 3 0 rfl rfl (gin_in g10) dX1_pushDeck_45 ?_
        refine lv_topi (fun v11 ev11 => ?_)
        have hf := bnd_all hf v11 ev11
        refine lv_bipush (v := 40) hx hb dX1_pushDeck_46 (by decide) ?_
        refine lv_icmp_lt (tgt := 57) hx hb dX1_pushDeck_48 (by decide) (fun c12 => ?_) (fun c12 => ?_)
        · have hf := ite_t hf c12
          refine lv_aload_n hx hb dX1_pushDeck_57 rfl (lv_at hl 2 rfl) ?_
          refine lv_aload_n hx hb dX1_pushDeck_58 rfl (lv_at hl 2 rfl) ?_
          refine va_get (D := (dC, dI)) (ci := 1) (v := .float (fSe F)) (C := RX1) (T := TX1) (N := 13) hx hb hts iX1 hown hK hP 0 rfl rfl 5 (by decide) (hts _ q35) (fun _ h9 => h9) rfl dX1_pushDeck_59 ?_
          refine lv_fload hx hb dX1_pushDeck_62 (lv_at hl 0 rfl) ?_
          obtain ⟨g13, hf⟩ := gd_e hf
          refine lv_fadd hx hb dX1_pushDeck_64 (nn32_e g13) ?_
          refine lv_topf (fun v14 ev14 => ?_)
          have hf := bnd_all hf v14 ev14
          refine va_put (D := (dC, dI)) (ci := 1) (v := .float v14) (ty := .float) (C := RX1) (T := TX1) (N := 13) hx hb hts iX1 tyX1 tyX1_ok nmX1 hown hK hP hD hS 0 rfl rfl 5 (by decide) (hts _ q35) (fun _ h9 => h9) rfl (by decide +kernel) rfl rfl (Nat.le_of_ble_eq_true rfl) dX1_pushDeck_65 (fun H locs hP hD hS => ?_)
          have hP : va_P (dC, dI) vwCl (wFR cI cF cJ q0 q1 q2 q3 q4 q5 q6 q7 q8 (sfSe F v14)) H := hP
          have hD : va_D A (wFR cI cF cJ q0 q1 q2 q3 q4 q5 q6 q7 q8 (sfSe F v14)) := hD
          refine lv_aload_n hx hb dX1_pushDeck_68 rfl (lv_at hl 3 rfl) ?_
          refine va_get (D := (dC, dI)) (ci := 0) (v := .ref q2) (C := RX0) (T := TX0) (N := 4) hx hb hts iX0 hown hK hP 1 rfl rfl 1 (by decide) (hts _ q65) (fun _ h9 => h9) rfl dX1_pushDeck_69 ?_
          refine lv_iload_n hx hb dX1_pushDeck_72 rfl (lv_at hl 4 rfl) ?_
          refine lv_dup2_11 hx hb dX1_pushDeck_73 rfl rfl ?_
          obtain ⟨g15, hf⟩ := gd_e hf
          refine va_iald hx hb hK hP 2 0 rfl rfl (gin_in g15) dX1_pushDeck_74 ?_
          refine lv_topi (fun v16 ev16 => ?_)
          have hf := bnd_all hf v16 ev16
          refine lv_iload_n hx hb dX1_pushDeck_75 rfl (lv_at hl 5 rfl) ?_
          refine lv_iadd hx hb dX1_pushDeck_76 ?_
          refine lv_topi (fun v17 ev17 => ?_)
          have hf := bnd_all hf v17 ev17
          obtain ⟨g18, hf⟩ := gd_e hf
          refine va_iast hx hb hK hP hD hS 2 0 rfl rfl (gin_in g18) dX1_pushDeck_77 (fun H locs hP hD hS => ?_)
          have hP : va_P (dC, dI) vwCl (wFR cI cF cJ q0 q1 q2 q3 q4 q5 q6 q7 q8 (sfSe (sfAb F (sdCn (fAb F) (upd (dCn (fAb F)) (Int32.toNatClampNeg p0) v17))) v14)) H := hP
          have hD : va_D A (wFR cI cF cJ q0 q1 q2 q3 q4 q5 q6 q7 q8 (sfSe (sfAb F (sdCn (fAb F) (upd (dCn (fAb F)) (Int32.toNatClampNeg p0) v17))) v14)) := hD
          refine lv_aload_n hx hb dX1_pushDeck_78 rfl (lv_at hl 3 rfl) ?_
          refine va_get (D := (dC, dI)) (ci := 0) (v := .ref q3) (C := RX0) (T := TX0) (N := 4) hx hb hts iX0 hown hK hP 1 rfl rfl 2 (by decide) (hts _ q66) (fun _ h9 => h9) rfl dX1_pushDeck_79 ?_
          refine lv_iload_n hx hb dX1_pushDeck_82 rfl (lv_at hl 4 rfl) ?_
          refine lv_dup2_11 hx hb dX1_pushDeck_83 rfl rfl ?_
          obtain ⟨g19, hf⟩ := gd_e hf
          refine va_iald hx hb hK hP 3 0 rfl rfl (gin_in g19) dX1_pushDeck_84 ?_
          refine lv_topi (fun v20 ev20 => ?_)
          have hf := bnd_all hf v20 ev20
          refine lv_iload hx hb dX1_pushDeck_85 (lv_at hl 1 rfl) ?_
          refine lv_iadd hx hb dX1_pushDeck_87 ?_
          refine lv_topi (fun v21 ev21 => ?_)
          have hf := bnd_all hf v21 ev21
          obtain ⟨g22, hf⟩ := gd_e hf
          refine va_iast hx hb hK hP hD hS 3 0 rfl rfl (gin_in g22) dX1_pushDeck_88 (fun H locs hP hD hS => ?_)
          have hP : va_P (dC, dI) vwCl (wFR cI cF cJ q0 q1 q2 q3 q4 q5 q6 q7 q8 (sfSe (sfAb F (sdWe (sdCn (fAb F) (upd (dCn (fAb F)) (Int32.toNatClampNeg p0) v17)) (upd (dWe (fAb F)) (Int32.toNatClampNeg p0) v21))) v14)) H := hP
          have hD : va_D A (wFR cI cF cJ q0 q1 q2 q3 q4 q5 q6 q7 q8 (sfSe (sfAb F (sdWe (sdCn (fAb F) (upd (dCn (fAb F)) (Int32.toNatClampNeg p0) v17)) (upd (dWe (fAb F)) (Int32.toNatClampNeg p0) v21))) v14)) := hD
          refine lv_aload_n hx hb dX1_pushDeck_89 rfl (lv_at hl 2 rfl) ?_
          refine lv_dup hx hb dX1_pushDeck_90 rfl ?_
          refine va_get (D := (dC, dI)) (ci := 1) (v := .int (fPu F)) (C := RX1) (T := TX1) (N := 13) hx hb hts iX1 hown hK hP 0 rfl rfl 6 (by decide) (hts _ q36) (fun _ h9 => h9) rfl dX1_pushDeck_91 ?_
          refine lv_iconst (v := 1) hx hb dX1_pushDeck_94 (by decide) ?_
          refine lv_iadd hx hb dX1_pushDeck_95 ?_
          refine lv_topi (fun v23 ev23 => ?_)
          have hf := bnd_all hf v23 ev23
          refine va_put (D := (dC, dI)) (ci := 1) (v := .int v23) (ty := .int) (C := RX1) (T := TX1) (N := 13) hx hb hts iX1 tyX1 tyX1_ok nmX1 hown hK hP hD hS 0 rfl rfl 6 (by decide) (hts _ q36) (fun _ h9 => h9) rfl (by decide +kernel) rfl rfl (Nat.le_of_ble_eq_true rfl) dX1_pushDeck_96 (fun H locs hP hD hS => ?_)
          have hP : va_P (dC, dI) vwCl (wFR cI cF cJ q0 q1 q2 q3 q4 q5 q6 q7 q8 (sfPu (sfSe (sfAb F (sdWe (sdCn (fAb F) (upd (dCn (fAb F)) (Int32.toNatClampNeg p0) v17)) (upd (dWe (fAb F)) (Int32.toNatClampNeg p0) v21))) v14) v23)) H := hP
          have hD : va_D A (wFR cI cF cJ q0 q1 q2 q3 q4 q5 q6 q7 q8 (sfPu (sfSe (sfAb F (sdWe (sdCn (fAb F) (upd (dCn (fAb F)) (Int32.toNatClampNeg p0) v17)) (upd (dWe (fAb F)) (Int32.toNatClampNeg p0) v21))) v14) v23)) := hD
          refine lv_aload_n hx hb dX1_pushDeck_99 rfl (lv_at hl 2 rfl) ?_
          refine lv_dup hx hb dX1_pushDeck_100 rfl ?_
          refine va_get (D := (dC, dI)) (ci := 1) (v := .int (fBd F)) (C := RX1) (T := TX1) (N := 13) hx hb hts iX1 hown hK hP 0 rfl rfl 7 (by decide) (hts _ q37) (fun _ h9 => h9) rfl dX1_pushDeck_101 ?_
          refine lv_iload hx hb dX1_pushDeck_104 (lv_at hl 1 rfl) ?_
          refine lv_iadd hx hb dX1_pushDeck_106 ?_
          refine lv_topi (fun v24 ev24 => ?_)
          have hf := bnd_all hf v24 ev24
          refine va_put (D := (dC, dI)) (ci := 1) (v := .int v24) (ty := .int) (C := RX1) (T := TX1) (N := 13) hx hb hts iX1 tyX1 tyX1_ok nmX1 hown hK hP hD hS 0 rfl rfl 7 (by decide) (hts _ q37) (fun _ h9 => h9) rfl (by decide +kernel) rfl rfl (Nat.le_of_ble_eq_true rfl) dX1_pushDeck_107 (fun H locs hP hD hS => ?_)
          have hP : va_P (dC, dI) vwCl (wFR cI cF cJ q0 q1 q2 q3 q4 q5 q6 q7 q8 (sfBd (sfPu (sfSe (sfAb F (sdWe (sdCn (fAb F) (upd (dCn (fAb F)) (Int32.toNatClampNeg p0) v17)) (upd (dWe (fAb F)) (Int32.toNatClampNeg p0) v21))) v14) v23) v24)) H := hP
          have hD : va_D A (wFR cI cF cJ q0 q1 q2 q3 q4 q5 q6 q7 q8 (sfBd (sfPu (sfSe (sfAb F (sdWe (sdCn (fAb F) (upd (dCn (fAb F)) (Int32.toNatClampNeg p0) v17)) (upd (dWe (fAb F)) (Int32.toNatClampNeg p0) v21))) v14) v23) v24)) := hD
          obtain rfl := Option.some.inj hf
          exact W.vret hx hb hr (fun t ht hW => ⟨⟨(), rfl, trivial, by rw [ht]; exact hP, hD⟩, hS.F ht⟩) hS.2.2 dX1_pushDeck_110
        · have hf := ite_f hf c12
          refine lv_fload hx hb dX1_pushDeck_51 (lv_at hl 0 rfl) ?_
          refine lv_fconst2 hx hb dX1_pushDeck_53 ?_
          obtain ⟨g25, hf⟩ := gd_e hf
          refine lv_fmul hx hb dX1_pushDeck_54 (nn32_e g25) ?_
          refine lv_topf (fun v26 ev26 => ?_)
          have hf := bnd_all hf v26 ev26
          refine lv_fstore (lv' := [(5, .float v26), (4, .int v4), (0, .ref q0), (1, .ref q1), (2, .int p0), (3, .int p1)]) hx hb dX1_pushDeck_55 hl (by decide) rfl (fun ls hl => ?_)
          refine lv_aload_n hx hb dX1_pushDeck_57 rfl (lv_at hl 2 rfl) ?_
          refine lv_aload_n hx hb dX1_pushDeck_58 rfl (lv_at hl 2 rfl) ?_
          refine va_get (D := (dC, dI)) (ci := 1) (v := .float (fSe F)) (C := RX1) (T := TX1) (N := 13) hx hb hts iX1 hown hK hP 0 rfl rfl 5 (by decide) (hts _ q35) (fun _ h9 => h9) rfl dX1_pushDeck_59 ?_
          refine lv_fload hx hb dX1_pushDeck_62 (lv_at hl 0 rfl) ?_
          obtain ⟨g27, hf⟩ := gd_e hf
          refine lv_fadd hx hb dX1_pushDeck_64 (nn32_e g27) ?_
          refine lv_topf (fun v28 ev28 => ?_)
          have hf := bnd_all hf v28 ev28
          refine va_put (D := (dC, dI)) (ci := 1) (v := .float v28) (ty := .float) (C := RX1) (T := TX1) (N := 13) hx hb hts iX1 tyX1 tyX1_ok nmX1 hown hK hP hD hS 0 rfl rfl 5 (by decide) (hts _ q35) (fun _ h9 => h9) rfl (by decide +kernel) rfl rfl (Nat.le_of_ble_eq_true rfl) dX1_pushDeck_65 (fun H locs hP hD hS => ?_)
          have hP : va_P (dC, dI) vwCl (wFR cI cF cJ q0 q1 q2 q3 q4 q5 q6 q7 q8 (sfSe F v28)) H := hP
          have hD : va_D A (wFR cI cF cJ q0 q1 q2 q3 q4 q5 q6 q7 q8 (sfSe F v28)) := hD
          refine lv_aload_n hx hb dX1_pushDeck_68 rfl (lv_at hl 3 rfl) ?_
          refine va_get (D := (dC, dI)) (ci := 0) (v := .ref q2) (C := RX0) (T := TX0) (N := 4) hx hb hts iX0 hown hK hP 1 rfl rfl 1 (by decide) (hts _ q65) (fun _ h9 => h9) rfl dX1_pushDeck_69 ?_
          refine lv_iload_n hx hb dX1_pushDeck_72 rfl (lv_at hl 4 rfl) ?_
          refine lv_dup2_11 hx hb dX1_pushDeck_73 rfl rfl ?_
          obtain ⟨g29, hf⟩ := gd_e hf
          refine va_iald hx hb hK hP 2 0 rfl rfl (gin_in g29) dX1_pushDeck_74 ?_
          refine lv_topi (fun v30 ev30 => ?_)
          have hf := bnd_all hf v30 ev30
          refine lv_iload_n hx hb dX1_pushDeck_75 rfl (lv_at hl 5 rfl) ?_
          refine lv_iadd hx hb dX1_pushDeck_76 ?_
          refine lv_topi (fun v31 ev31 => ?_)
          have hf := bnd_all hf v31 ev31
          obtain ⟨g32, hf⟩ := gd_e hf
          refine va_iast hx hb hK hP hD hS 2 0 rfl rfl (gin_in g32) dX1_pushDeck_77 (fun H locs hP hD hS => ?_)
          have hP : va_P (dC, dI) vwCl (wFR cI cF cJ q0 q1 q2 q3 q4 q5 q6 q7 q8 (sfSe (sfAb F (sdCn (fAb F) (upd (dCn (fAb F)) (Int32.toNatClampNeg p0) v31))) v28)) H := hP
          have hD : va_D A (wFR cI cF cJ q0 q1 q2 q3 q4 q5 q6 q7 q8 (sfSe (sfAb F (sdCn (fAb F) (upd (dCn (fAb F)) (Int32.toNatClampNeg p0) v31))) v28)) := hD
          refine lv_aload_n hx hb dX1_pushDeck_78 rfl (lv_at hl 3 rfl) ?_
          refine va_get (D := (dC, dI)) (ci := 0) (v := .ref q3) (C := RX0) (T := TX0) (N := 4) hx hb hts iX0 hown hK hP 1 rfl rfl 2 (by decide) (hts _ q66) (fun _ h9 => h9) rfl dX1_pushDeck_79 ?_
          refine lv_iload_n hx hb dX1_pushDeck_82 rfl (lv_at hl 4 rfl) ?_
          refine lv_dup2_11 hx hb dX1_pushDeck_83 rfl rfl ?_
          obtain ⟨g33, hf⟩ := gd_e hf
          refine va_iald hx hb hK hP 3 0 rfl rfl (gin_in g33) dX1_pushDeck_84 ?_
          refine lv_topi (fun v34 ev34 => ?_)
          have hf := bnd_all hf v34 ev34
          refine lv_iload hx hb dX1_pushDeck_85 (lv_at hl 1 rfl) ?_
          refine lv_iadd hx hb dX1_pushDeck_87 ?_
          refine lv_topi (fun v35 ev35 => ?_)
          have hf := bnd_all hf v35 ev35
          obtain ⟨g36, hf⟩ := gd_e hf
          refine va_iast hx hb hK hP hD hS 3 0 rfl rfl (gin_in g36) dX1_pushDeck_88 (fun H locs hP hD hS => ?_)
          have hP : va_P (dC, dI) vwCl (wFR cI cF cJ q0 q1 q2 q3 q4 q5 q6 q7 q8 (sfSe (sfAb F (sdWe (sdCn (fAb F) (upd (dCn (fAb F)) (Int32.toNatClampNeg p0) v31)) (upd (dWe (fAb F)) (Int32.toNatClampNeg p0) v35))) v28)) H := hP
          have hD : va_D A (wFR cI cF cJ q0 q1 q2 q3 q4 q5 q6 q7 q8 (sfSe (sfAb F (sdWe (sdCn (fAb F) (upd (dCn (fAb F)) (Int32.toNatClampNeg p0) v31)) (upd (dWe (fAb F)) (Int32.toNatClampNeg p0) v35))) v28)) := hD
          refine lv_aload_n hx hb dX1_pushDeck_89 rfl (lv_at hl 2 rfl) ?_
          refine lv_dup hx hb dX1_pushDeck_90 rfl ?_
          refine va_get (D := (dC, dI)) (ci := 1) (v := .int (fPu F)) (C := RX1) (T := TX1) (N := 13) hx hb hts iX1 hown hK hP 0 rfl rfl 6 (by decide) (hts _ q36) (fun _ h9 => h9) rfl dX1_pushDeck_91 ?_
          refine lv_iconst (v := 1) hx hb dX1_pushDeck_94 (by decide) ?_
          refine lv_iadd hx hb dX1_pushDeck_95 ?_
          refine lv_topi (fun v37 ev37 => ?_)
          have hf := bnd_all hf v37 ev37
          refine va_put (D := (dC, dI)) (ci := 1) (v := .int v37) (ty := .int) (C := RX1) (T := TX1) (N := 13) hx hb hts iX1 tyX1 tyX1_ok nmX1 hown hK hP hD hS 0 rfl rfl 6 (by decide) (hts _ q36) (fun _ h9 => h9) rfl (by decide +kernel) rfl rfl (Nat.le_of_ble_eq_true rfl) dX1_pushDeck_96 (fun H locs hP hD hS => ?_)
          have hP : va_P (dC, dI) vwCl (wFR cI cF cJ q0 q1 q2 q3 q4 q5 q6 q7 q8 (sfPu (sfSe (sfAb F (sdWe (sdCn (fAb F) (upd (dCn (fAb F)) (Int32.toNatClampNeg p0) v31)) (upd (dWe (fAb F)) (Int32.toNatClampNeg p0) v35))) v28) v37)) H := hP
          have hD : va_D A (wFR cI cF cJ q0 q1 q2 q3 q4 q5 q6 q7 q8 (sfPu (sfSe (sfAb F (sdWe (sdCn (fAb F) (upd (dCn (fAb F)) (Int32.toNatClampNeg p0) v31)) (upd (dWe (fAb F)) (Int32.toNatClampNeg p0) v35))) v28) v37)) := hD
          refine lv_aload_n hx hb dX1_pushDeck_99 rfl (lv_at hl 2 rfl) ?_
          refine lv_dup hx hb dX1_pushDeck_100 rfl ?_
          refine va_get (D := (dC, dI)) (ci := 1) (v := .int (fBd F)) (C := RX1) (T := TX1) (N := 13) hx hb hts iX1 hown hK hP 0 rfl rfl 7 (by decide) (hts _ q37) (fun _ h9 => h9) rfl dX1_pushDeck_101 ?_
          refine lv_iload hx hb dX1_pushDeck_104 (lv_at hl 1 rfl) ?_
          refine lv_iadd hx hb dX1_pushDeck_106 ?_
          refine lv_topi (fun v38 ev38 => ?_)
          have hf := bnd_all hf v38 ev38
          refine va_put (D := (dC, dI)) (ci := 1) (v := .int v38) (ty := .int) (C := RX1) (T := TX1) (N := 13) hx hb hts iX1 tyX1 tyX1_ok nmX1 hown hK hP hD hS 0 rfl rfl 7 (by decide) (hts _ q37) (fun _ h9 => h9) rfl (by decide +kernel) rfl rfl (Nat.le_of_ble_eq_true rfl) dX1_pushDeck_107 (fun H locs hP hD hS => ?_)
          have hP : va_P (dC, dI) vwCl (wFR cI cF cJ q0 q1 q2 q3 q4 q5 q6 q7 q8 (sfBd (sfPu (sfSe (sfAb F (sdWe (sdCn (fAb F) (upd (dCn (fAb F)) (Int32.toNatClampNeg p0) v31)) (upd (dWe (fAb F)) (Int32.toNatClampNeg p0) v35))) v28) v37) v38)) H := hP
          have hD : va_D A (wFR cI cF cJ q0 q1 q2 q3 q4 q5 q6 q7 q8 (sfBd (sfPu (sfSe (sfAb F (sdWe (sdCn (fAb F) (upd (dCn (fAb F)) (Int32.toNatClampNeg p0) v31)) (upd (dWe (fAb F)) (Int32.toNatClampNeg p0) v35))) v28) v37) v38)) := hD
          obtain rfl := Option.some.inj hf
          exact W.vret hx hb hr (fun t ht hW => ⟨⟨(), rfl, trivial, by rw [ht]; exact hP, hD⟩, hS.F ht⟩) hS.2.2 dX1_pushDeck_110
      · have hf := ite_f hf c3
        obtain rfl := Option.some.inj hf
        exact W.vret hx hb hr (fun t ht hW => ⟨⟨(), rfl, trivial, by rw [ht]; exact hP, hD⟩, hS.F ht⟩) hS.2.2 dX1_pushDeck_22
noncomputable def f_X1_pushDeckB (F : FR) (p0 : Int32) (p1 : Int32) : Option (FR) := if p0 < 0 then (some F) else (if (8 : Int32) ≤ p0 then (some F) else (if p0 < 8 then (bnd (if 0 ≤ p1 then p1 else 0 - p1) fun (v4 : Int32) => bnd (FP.i2f v4) fun (v5 : UInt32) => gd (nn32 (FP.fmul 1031798784 v5)) <| bnd (FP.fmul 1031798784 v5) fun (v7 : UInt32) => gd (nn32 (FP.fadd 1048576000 v7)) <| bnd (FP.fadd 1048576000 v7) fun (v9 : UInt32) => gd (gin p0 8) <| bnd ((dWe (fBe F)) (Int32.toNatClampNeg p0)) fun (v11 : Int32) => if v11 < 40 then (gd (nn32 (FP.fadd (fSe F) v9)) <| bnd (FP.fadd (fSe F) v9) fun (v14 : UInt32) => gd (gin p0 8) <| bnd ((dCn (fBe F)) (Int32.toNatClampNeg p0)) fun (v16 : Int32) => bnd (v16 + p1) fun (v17 : Int32) => gd (gin p0 8) <| gd (gin p0 8) <| bnd ((dWe (fBe F)) (Int32.toNatClampNeg p0)) fun (v20 : Int32) => bnd (v20 + v4) fun (v21 : Int32) => gd (gin p0 8) <| bnd ((fPu F) + 1) fun (v23 : Int32) => bnd ((fBd F) + v4) fun (v24 : Int32) => some (sfBd (sfPu (sfSe (sfBe F (sdWe (sdCn (fBe F) (upd (dCn (fBe F)) (Int32.toNatClampNeg p0) v17)) (upd (dWe (fBe F)) (Int32.toNatClampNeg p0) v21))) v14) v23) v24)) else (gd (nn32 (FP.fmul v9 FP.fconst2)) <| bnd (FP.fmul v9 FP.fconst2) fun (v26 : UInt32) => gd (nn32 (FP.fadd (fSe F) v26)) <| bnd (FP.fadd (fSe F) v26) fun (v28 : UInt32) => gd (gin p0 8) <| bnd ((dCn (fBe F)) (Int32.toNatClampNeg p0)) fun (v30 : Int32) => bnd (v30 + p1) fun (v31 : Int32) => gd (gin p0 8) <| gd (gin p0 8) <| bnd ((dWe (fBe F)) (Int32.toNatClampNeg p0)) fun (v34 : Int32) => bnd (v34 + v4) fun (v35 : Int32) => gd (gin p0 8) <| bnd ((fPu F) + 1) fun (v37 : Int32) => bnd ((fBd F) + v4) fun (v38 : Int32) => some (sfBd (sfPu (sfSe (sfBe F (sdWe (sdCn (fBe F) (upd (dCn (fBe F)) (Int32.toNatClampNeg p0) v31)) (upd (dWe (fBe F)) (Int32.toNatClampNeg p0) v35))) v28) v37) v38))) else (some F)))
abbrev rm_X1_pushDeckB : Room := { frames := 1, cells := 0, slots := 0, locals := 21 }
set_option maxHeartbeats 4000000 in
set_option maxRecDepth 100000 in
theorem c_X1_pushDeckB (l : Launch) (dC : Nat → ClassId) (dI : Nat → Nat → Nat) (cI cF cJ cD : ClassId) (q0 q1 q2 q3 q4 q5 q6 q7 q8 : Nat) (F : FR) (p0 : Int32) (p1 : Int32) (res : (FR)) (hf : f_X1_pushDeckB F p0 p1 = some res) (sz : Nat) : Met l yX1_pushDeck (ws_ yX1_pushDeck cX1_pushDeck 6 none) rm_X1_pushDeckB (sbPre (dC, dI) (TY cI cF cJ cD) (wFR cI cF cJ q0 q1 q2 q3 q4 q5 q6 q7 q8 F) E0 sz [.ref q0, .ref q5, .int p0, .int p1]) (va_Qv (fun (_ : Unit) => True) (sbEnd (dC, dI) (fun _ => wFR cI cF cJ q0 q1 q2 q3 q4 q5 q6 q7 q8 res) (va_A (wFR cI cF cJ q0 q1 q2 q3 q4 q5 q6 q7 q8 F) sz)) (va_A (wFR cI cF cJ q0 q1 q2 q3 q4 q5 q6 q7 q8 F) sz)) 0 0 (va_A (wFR cI cF cJ q0 q1 q2 q3 q4 q5 q6 q7 q8 F) sz) := by
  refine Met.ofW (cc := cX1_pushDeck) (maxL := 6) (ret := none) (by decide) rfl ?_
  intro p e s m args below meth c s₁ B hml hv
  obtain ⟨rfl, hsz, hP, hK, hD0, hE⟩ := hv
  have hx := B.exec
  have hb := B.bytes
  have hr := B.returns
  have hts0 := atoms_spec (ws := ws_ yX1_pushDeck cX1_pushDeck 6 none) B.pre
  have hts := fun (w : Cond) (h : w ∈ LW) => hts0 w (List.mem_cons_of_mem _ h)
  have hown : s.vm.findClass RX1 = some m.cls := findClass_of_methodNamed B.named
  have hlocks := B.notSynchronized
  subst hsz
  have hD := hD0.self (sz := s.heap.size)
  generalize hAe : va_A (wFR cI cF cJ q0 q1 q2 q3 q4 q5 q6 q7 q8 F) s.heap.size = A at hD ⊢
  have hA : ∀ q : Nat, s.heap.size ≤ q → A q := fun q h => by rw [← hAe]; exact Or.inr h
  have hS : va_S A s.heap s.heap [] := va_S.rf
  have hkc := Nat.zero_le rm_X1_pushDeckB.cells
  have hks := Nat.zero_le rm_X1_pushDeckB.slots
  have hl := lv_entry ([.ref q0, .ref q5, .int p0, .int p1]) (n := 6) (Nat.le_of_ble_eq_true rfl)
  rw [lg_entry_eq]
  generalize (lg_sl ([.ref q0, .ref q5, .int p0, .int p1]) ++ List.replicate (6 - (lg_sl ([.ref q0, .ref q5, .int p0, .int p1])).length) Slot.unset).toArray = ls at hl ⊢
  have hl : lv_has ls 6 [(0, .ref q0), (1, .ref q5), (2, .int p0), (3, .int p1)] := hl
  rw [f_X1_pushDeckB] at hf
  refine lv_iload_n hx hb dX1_pushDeck_0 rfl (lv_at hl 2 rfl) ?_
  refine lv_if_lt (tgt := 22) hx hb dX1_pushDeck_1 (by decide) (fun c1 => ?_) (fun c1 => ?_)
  · have hf := ite_t hf c1
    obtain rfl := Option.some.inj hf
    exact W.vret hx hb hr (fun t ht hW => ⟨⟨(), rfl, trivial, by rw [ht]; exact hP, hD⟩, hS.F ht⟩) hS.2.2 dX1_pushDeck_22
  · have hf := ite_f hf c1
    refine lv_iload_n hx hb dX1_pushDeck_4 rfl (lv_at hl 2 rfl) ?_
    refine lv_aload_n hx hb dX1_pushDeck_5 rfl (lv_at hl 1 rfl) ?_
    refine va_get (D := (dC, dI)) (ci := 0) (v := .ref q6) (C := RX0) (T := TX0) (N := 4) hx hb hts iX0 hown hK hP 5 rfl rfl 1 (by decide) (hts _ q65) (fun _ h9 => h9) rfl dX1_pushDeck_6 ?_
    refine va_alen (v := 8) hx hb hK hP 6 0 rfl rfl rfl dX1_pushDeck_9 ?_
    refine lv_icmp_ge (tgt := 22) hx hb dX1_pushDeck_10 (by decide) (fun c2 => ?_) (fun c2 => ?_)
    · have hf := ite_t hf c2
      obtain rfl := Option.some.inj hf
      exact W.vret hx hb hr (fun t ht hW => ⟨⟨(), rfl, trivial, by rw [ht]; exact hP, hD⟩, hS.F ht⟩) hS.2.2 dX1_pushDeck_22
    · have hf := ite_f hf c2
      refine lv_iload_n hx hb dX1_pushDeck_13 rfl (lv_at hl 2 rfl) ?_
      refine lv_aload_n hx hb dX1_pushDeck_14 rfl (lv_at hl 1 rfl) ?_
      refine va_get (D := (dC, dI)) (ci := 0) (v := .ref q7) (C := RX0) (T := TX0) (N := 4) hx hb hts iX0 hown hK hP 5 rfl rfl 2 (by decide) (hts _ q66) (fun _ h9 => h9) rfl dX1_pushDeck_15 ?_
      refine va_alen (v := 8) hx hb hK hP 7 0 rfl rfl rfl dX1_pushDeck_18 ?_
      refine lv_icmp_lt (tgt := 23) hx hb dX1_pushDeck_19 (by decide) (fun c3 => ?_) (fun c3 => ?_)
      · have hf := ite_t hf c3
        refine lv_iload_n hx hb dX1_pushDeck_23 rfl (lv_at hl 3 rfl) ?_
        refine va_mabs hx hb (hml.trans hl.1.symm) hown (hts _ q59) (hts _ q60) (hts _ q61) (hts _ q62) (Nat.le_of_ble_eq_true rfl) (Nat.le_of_ble_eq_true rfl) hkc hks dX1_pushDeck_24 ?_
        refine lv_topi (fun v4 ev4 => ?_)
        have hf := bnd_all hf v4 ev4
        refine lv_istore (lv' := [(4, .int v4), (0, .ref q0), (1, .ref q5), (2, .int p0), (3, .int p1)]) hx hb dX1_pushDeck_27 hl (by decide) rfl (fun ls hl => ?_)
        refine lv_ldcf hx hb hown (hts _ q67) dX1_pushDeck_29 ?_
        refine lv_ldcf hx hb hown (hts _ q68) dX1_pushDeck_31 ?_
        refine lv_iload hx hb dX1_pushDeck_33 (lv_at hl 0 rfl) ?_
        refine lv_i2f hx hb dX1_pushDeck_35 ?_
        refine lv_topf (fun v5 ev5 => ?_)
        have hf := bnd_all hf v5 ev5
        obtain ⟨g6, hf⟩ := gd_e hf
        refine lv_fmul hx hb dX1_pushDeck_36 (nn32_e g6) ?_
        refine lv_topf (fun v7 ev7 => ?_)
        have hf := bnd_all hf v7 ev7
        obtain ⟨g8, hf⟩ := gd_e hf
        refine lv_fadd hx hb dX1_pushDeck_37 (nn32_e g8) ?_
        refine lv_topf (fun v9 ev9 => ?_)
        have hf := bnd_all hf v9 ev9
        refine lv_fstore (lv' := [(5, .float v9), (4, .int v4), (0, .ref q0), (1, .ref q5), (2, .int p0), (3, .int p1)]) hx hb dX1_pushDeck_38 hl (by decide) rfl (fun ls hl => ?_)
        refine lv_aload_n hx hb dX1_pushDeck_40 rfl (lv_at hl 3 rfl) ?_
        refine va_get (D := (dC, dI)) (ci := 0) (v := .ref q7) (C := RX0) (T := TX0) (N := 4) hx hb hts iX0 hown hK hP 5 rfl rfl 2 (by decide) (hts _ q66) (fun _ h9 => h9) rfl dX1_pushDeck_41 ?_
        refine lv_iload_n hx hb dX1_pushDeck_44 rfl (lv_at hl 4 rfl) ?_
        obtain ⟨g10, hf⟩ := gd_e hf
        refine va_iald hx hb hK hP 7 0 rfl rfl (gin_in g10) dX1_pushDeck_45 ?_
        refine lv_topi (fun v11 ev11 => ?_)
        have hf := bnd_all hf v11 ev11
        refine lv_bipush (v := 40) hx hb dX1_pushDeck_46 (by decide) ?_
        refine lv_icmp_lt (tgt := 57) hx hb dX1_pushDeck_48 (by decide) (fun c12 => ?_) (fun c12 => ?_)
        · have hf := ite_t hf c12
          refine lv_aload_n hx hb dX1_pushDeck_57 rfl (lv_at hl 2 rfl) ?_
          refine lv_aload_n hx hb dX1_pushDeck_58 rfl (lv_at hl 2 rfl) ?_
          refine va_get (D := (dC, dI)) (ci := 1) (v := .float (fSe F)) (C := RX1) (T := TX1) (N := 13) hx hb hts iX1 hown hK hP 0 rfl rfl 5 (by decide) (hts _ q35) (fun _ h9 => h9) rfl dX1_pushDeck_59 ?_
          refine lv_fload hx hb dX1_pushDeck_62 (lv_at hl 0 rfl) ?_
          obtain ⟨g13, hf⟩ := gd_e hf
          refine lv_fadd hx hb dX1_pushDeck_64 (nn32_e g13) ?_
          refine lv_topf (fun v14 ev14 => ?_)
          have hf := bnd_all hf v14 ev14
          refine va_put (D := (dC, dI)) (ci := 1) (v := .float v14) (ty := .float) (C := RX1) (T := TX1) (N := 13) hx hb hts iX1 tyX1 tyX1_ok nmX1 hown hK hP hD hS 0 rfl rfl 5 (by decide) (hts _ q35) (fun _ h9 => h9) rfl (by decide +kernel) rfl rfl (Nat.le_of_ble_eq_true rfl) dX1_pushDeck_65 (fun H locs hP hD hS => ?_)
          have hP : va_P (dC, dI) vwCl (wFR cI cF cJ q0 q1 q2 q3 q4 q5 q6 q7 q8 (sfSe F v14)) H := hP
          have hD : va_D A (wFR cI cF cJ q0 q1 q2 q3 q4 q5 q6 q7 q8 (sfSe F v14)) := hD
          refine lv_aload_n hx hb dX1_pushDeck_68 rfl (lv_at hl 3 rfl) ?_
          refine va_get (D := (dC, dI)) (ci := 0) (v := .ref q6) (C := RX0) (T := TX0) (N := 4) hx hb hts iX0 hown hK hP 5 rfl rfl 1 (by decide) (hts _ q65) (fun _ h9 => h9) rfl dX1_pushDeck_69 ?_
          refine lv_iload_n hx hb dX1_pushDeck_72 rfl (lv_at hl 4 rfl) ?_
          refine lv_dup2_11 hx hb dX1_pushDeck_73 rfl rfl ?_
          obtain ⟨g15, hf⟩ := gd_e hf
          refine va_iald hx hb hK hP 6 0 rfl rfl (gin_in g15) dX1_pushDeck_74 ?_
          refine lv_topi (fun v16 ev16 => ?_)
          have hf := bnd_all hf v16 ev16
          refine lv_iload_n hx hb dX1_pushDeck_75 rfl (lv_at hl 5 rfl) ?_
          refine lv_iadd hx hb dX1_pushDeck_76 ?_
          refine lv_topi (fun v17 ev17 => ?_)
          have hf := bnd_all hf v17 ev17
          obtain ⟨g18, hf⟩ := gd_e hf
          refine va_iast hx hb hK hP hD hS 6 0 rfl rfl (gin_in g18) dX1_pushDeck_77 (fun H locs hP hD hS => ?_)
          have hP : va_P (dC, dI) vwCl (wFR cI cF cJ q0 q1 q2 q3 q4 q5 q6 q7 q8 (sfSe (sfBe F (sdCn (fBe F) (upd (dCn (fBe F)) (Int32.toNatClampNeg p0) v17))) v14)) H := hP
          have hD : va_D A (wFR cI cF cJ q0 q1 q2 q3 q4 q5 q6 q7 q8 (sfSe (sfBe F (sdCn (fBe F) (upd (dCn (fBe F)) (Int32.toNatClampNeg p0) v17))) v14)) := hD
          refine lv_aload_n hx hb dX1_pushDeck_78 rfl (lv_at hl 3 rfl) ?_
          refine va_get (D := (dC, dI)) (ci := 0) (v := .ref q7) (C := RX0) (T := TX0) (N := 4) hx hb hts iX0 hown hK hP 5 rfl rfl 2 (by decide) (hts _ q66) (fun _ h9 => h9) rfl dX1_pushDeck_79 ?_
          refine lv_iload_n hx hb dX1_pushDeck_82 rfl (lv_at hl 4 rfl) ?_
          refine lv_dup2_11 hx hb dX1_pushDeck_83 rfl rfl ?_
          obtain ⟨g19, hf⟩ := gd_e hf
          refine va_iald hx hb hK hP 7 0 rfl rfl (gin_in g19) dX1_pushDeck_84 ?_
          refine lv_topi (fun v20 ev20 => ?_)
          have hf := bnd_all hf v20 ev20
          refine lv_iload hx hb dX1_pushDeck_85 (lv_at hl 1 rfl) ?_
          refine lv_iadd hx hb dX1_pushDeck_87 ?_
          refine lv_topi (fun v21 ev21 => ?_)
          have hf := bnd_all hf v21 ev21
          obtain ⟨g22, hf⟩ := gd_e hf
          refine va_iast hx hb hK hP hD hS 7 0 rfl rfl (gin_in g22) dX1_pushDeck_88 (fun H locs hP hD hS => ?_)
          have hP : va_P (dC, dI) vwCl (wFR cI cF cJ q0 q1 q2 q3 q4 q5 q6 q7 q8 (sfSe (sfBe F (sdWe (sdCn (fBe F) (upd (dCn (fBe F)) (Int32.toNatClampNeg p0) v17)) (upd (dWe (fBe F)) (Int32.toNatClampNeg p0) v21))) v14)) H := hP
          have hD : va_D A (wFR cI cF cJ q0 q1 q2 q3 q4 q5 q6 q7 q8 (sfSe (sfBe F (sdWe (sdCn (fBe F) (upd (dCn (fBe F)) (Int32.toNatClampNeg p0) v17)) (upd (dWe (fBe F)) (Int32.toNatClampNeg p0) v21))) v14)) := hD
          refine lv_aload_n hx hb dX1_pushDeck_89 rfl (lv_at hl 2 rfl) ?_
          refine lv_dup hx hb dX1_pushDeck_90 rfl ?_
          refine va_get (D := (dC, dI)) (ci := 1) (v := .int (fPu F)) (C := RX1) (T := TX1) (N := 13) hx hb hts iX1 hown hK hP 0 rfl rfl 6 (by decide) (hts _ q36) (fun _ h9 => h9) rfl dX1_pushDeck_91 ?_
          refine lv_iconst (v := 1) hx hb dX1_pushDeck_94 (by decide) ?_
          refine lv_iadd hx hb dX1_pushDeck_95 ?_
          refine lv_topi (fun v23 ev23 => ?_)
          have hf := bnd_all hf v23 ev23
          refine va_put (D := (dC, dI)) (ci := 1) (v := .int v23) (ty := .int) (C := RX1) (T := TX1) (N := 13) hx hb hts iX1 tyX1 tyX1_ok nmX1 hown hK hP hD hS 0 rfl rfl 6 (by decide) (hts _ q36) (fun _ h9 => h9) rfl (by decide +kernel) rfl rfl (Nat.le_of_ble_eq_true rfl) dX1_pushDeck_96 (fun H locs hP hD hS => ?_)
          have hP : va_P (dC, dI) vwCl (wFR cI cF cJ q0 q1 q2 q3 q4 q5 q6 q7 q8 (sfPu (sfSe (sfBe F (sdWe (sdCn (fBe F) (upd (dCn (fBe F)) (Int32.toNatClampNeg p0) v17)) (upd (dWe (fBe F)) (Int32.toNatClampNeg p0) v21))) v14) v23)) H := hP
          have hD : va_D A (wFR cI cF cJ q0 q1 q2 q3 q4 q5 q6 q7 q8 (sfPu (sfSe (sfBe F (sdWe (sdCn (fBe F) (upd (dCn (fBe F)) (Int32.toNatClampNeg p0) v17)) (upd (dWe (fBe F)) (Int32.toNatClampNeg p0) v21))) v14) v23)) := hD
          refine lv_aload_n hx hb dX1_pushDeck_99 rfl (lv_at hl 2 rfl) ?_
          refine lv_dup hx hb dX1_pushDeck_100 rfl ?_
          refine va_get (D := (dC, dI)) (ci := 1) (v := .int (fBd F)) (C := RX1) (T := TX1) (N := 13) hx hb hts iX1 hown hK hP 0 rfl rfl 7 (by decide) (hts _ q37) (fun _ h9 => h9) rfl dX1_pushDeck_101 ?_
          refine lv_iload hx hb dX1_pushDeck_104 (lv_at hl 1 rfl) ?_
          refine lv_iadd hx hb dX1_pushDeck_106 ?_
          refine lv_topi (fun v24 ev24 => ?_)
          have hf := bnd_all hf v24 ev24
          refine va_put (D := (dC, dI)) (ci := 1) (v := .int v24) (ty := .int) (C := RX1) (T := TX1) (N := 13) hx hb hts iX1 tyX1 tyX1_ok nmX1 hown hK hP hD hS 0 rfl rfl 7 (by decide) (hts _ q37) (fun _ h9 => h9) rfl (by decide +kernel) rfl rfl (Nat.le_of_ble_eq_true rfl) dX1_pushDeck_107 (fun H locs hP hD hS => ?_)
          have hP : va_P (dC, dI) vwCl (wFR cI cF cJ q0 q1 q2 q3 q4 q5 q6 q7 q8 (sfBd (sfPu (sfSe (sfBe F (sdWe (sdCn (fBe F) (upd (dCn (fBe F)) (Int32.toNatClampNeg p0) v17)) (upd (dWe (fBe F)) (Int32.toNatClampNeg p0) v21))) v14) v23) v24)) H := hP
          have hD : va_D A (wFR cI cF cJ q0 q1 q2 q3 q4 q5 q6 q7 q8 (sfBd (sfPu (sfSe (sfBe F (sdWe (sdCn (fBe F) (upd (dCn (fBe F)) (Int32.toNatClampNeg p0) v17)) (upd (dWe (fBe F)) (Int32.toNatClampNeg p0) v21))) v14) v23) v24)) := hD
          obtain rfl := Option.some.inj hf
          exact W.vret hx hb hr (fun t ht hW => ⟨⟨(), rfl, trivial, by rw [ht]; exact hP, hD⟩, hS.F ht⟩) hS.2.2 dX1_pushDeck_110
        · have hf := ite_f hf c12
          refine lv_fload hx hb dX1_pushDeck_51 (lv_at hl 0 rfl) ?_
          refine lv_fconst2 hx hb dX1_pushDeck_53 ?_
          obtain ⟨g25, hf⟩ := gd_e hf
          refine lv_fmul hx hb dX1_pushDeck_54 (nn32_e g25) ?_
          refine lv_topf (fun v26 ev26 => ?_)
          have hf := bnd_all hf v26 ev26
          refine lv_fstore (lv' := [(5, .float v26), (4, .int v4), (0, .ref q0), (1, .ref q5), (2, .int p0), (3, .int p1)]) hx hb dX1_pushDeck_55 hl (by decide) rfl (fun ls hl => ?_)
          refine lv_aload_n hx hb dX1_pushDeck_57 rfl (lv_at hl 2 rfl) ?_
          refine lv_aload_n hx hb dX1_pushDeck_58 rfl (lv_at hl 2 rfl) ?_
          refine va_get (D := (dC, dI)) (ci := 1) (v := .float (fSe F)) (C := RX1) (T := TX1) (N := 13) hx hb hts iX1 hown hK hP 0 rfl rfl 5 (by decide) (hts _ q35) (fun _ h9 => h9) rfl dX1_pushDeck_59 ?_
          refine lv_fload hx hb dX1_pushDeck_62 (lv_at hl 0 rfl) ?_
          obtain ⟨g27, hf⟩ := gd_e hf
          refine lv_fadd hx hb dX1_pushDeck_64 (nn32_e g27) ?_
          refine lv_topf (fun v28 ev28 => ?_)
          have hf := bnd_all hf v28 ev28
          refine va_put (D := (dC, dI)) (ci := 1) (v := .float v28) (ty := .float) (C := RX1) (T := TX1) (N := 13) hx hb hts iX1 tyX1 tyX1_ok nmX1 hown hK hP hD hS 0 rfl rfl 5 (by decide) (hts _ q35) (fun _ h9 => h9) rfl (by decide +kernel) rfl rfl (Nat.le_of_ble_eq_true rfl) dX1_pushDeck_65 (fun H locs hP hD hS => ?_)
          have hP : va_P (dC, dI) vwCl (wFR cI cF cJ q0 q1 q2 q3 q4 q5 q6 q7 q8 (sfSe F v28)) H := hP
          have hD : va_D A (wFR cI cF cJ q0 q1 q2 q3 q4 q5 q6 q7 q8 (sfSe F v28)) := hD
          refine lv_aload_n hx hb dX1_pushDeck_68 rfl (lv_at hl 3 rfl) ?_
          refine va_get (D := (dC, dI)) (ci := 0) (v := .ref q6) (C := RX0) (T := TX0) (N := 4) hx hb hts iX0 hown hK hP 5 rfl rfl 1 (by decide) (hts _ q65) (fun _ h9 => h9) rfl dX1_pushDeck_69 ?_
          refine lv_iload_n hx hb dX1_pushDeck_72 rfl (lv_at hl 4 rfl) ?_
          refine lv_dup2_11 hx hb dX1_pushDeck_73 rfl rfl ?_
          obtain ⟨g29, hf⟩ := gd_e hf
          refine va_iald hx hb hK hP 6 0 rfl rfl (gin_in g29) dX1_pushDeck_74 ?_
          refine lv_topi (fun v30 ev30 => ?_)
          have hf := bnd_all hf v30 ev30
          refine lv_iload_n hx hb dX1_pushDeck_75 rfl (lv_at hl 5 rfl) ?_
          refine lv_iadd hx hb dX1_pushDeck_76 ?_
          refine lv_topi (fun v31 ev31 => ?_)
          have hf := bnd_all hf v31 ev31
          obtain ⟨g32, hf⟩ := gd_e hf
          refine va_iast hx hb hK hP hD hS 6 0 rfl rfl (gin_in g32) dX1_pushDeck_77 (fun H locs hP hD hS => ?_)
          have hP : va_P (dC, dI) vwCl (wFR cI cF cJ q0 q1 q2 q3 q4 q5 q6 q7 q8 (sfSe (sfBe F (sdCn (fBe F) (upd (dCn (fBe F)) (Int32.toNatClampNeg p0) v31))) v28)) H := hP
          have hD : va_D A (wFR cI cF cJ q0 q1 q2 q3 q4 q5 q6 q7 q8 (sfSe (sfBe F (sdCn (fBe F) (upd (dCn (fBe F)) (Int32.toNatClampNeg p0) v31))) v28)) := hD
          refine lv_aload_n hx hb dX1_pushDeck_78 rfl (lv_at hl 3 rfl) ?_
          refine va_get (D := (dC, dI)) (ci := 0) (v := .ref q7) (C := RX0) (T := TX0) (N := 4) hx hb hts iX0 hown hK hP 5 rfl rfl 2 (by decide) (hts _ q66) (fun _ h9 => h9) rfl dX1_pushDeck_79 ?_
          refine lv_iload_n hx hb dX1_pushDeck_82 rfl (lv_at hl 4 rfl) ?_
          refine lv_dup2_11 hx hb dX1_pushDeck_83 rfl rfl ?_
          obtain ⟨g33, hf⟩ := gd_e hf
          refine va_iald hx hb hK hP 7 0 rfl rfl (gin_in g33) dX1_pushDeck_84 ?_
          refine lv_topi (fun v34 ev34 => ?_)
          have hf := bnd_all hf v34 ev34
          refine lv_iload hx hb dX1_pushDeck_85 (lv_at hl 1 rfl) ?_
          refine lv_iadd hx hb dX1_pushDeck_87 ?_
          refine lv_topi (fun v35 ev35 => ?_)
          have hf := bnd_all hf v35 ev35
          obtain ⟨g36, hf⟩ := gd_e hf
          refine va_iast hx hb hK hP hD hS 7 0 rfl rfl (gin_in g36) dX1_pushDeck_88 (fun H locs hP hD hS => ?_)
          have hP : va_P (dC, dI) vwCl (wFR cI cF cJ q0 q1 q2 q3 q4 q5 q6 q7 q8 (sfSe (sfBe F (sdWe (sdCn (fBe F) (upd (dCn (fBe F)) (Int32.toNatClampNeg p0) v31)) (upd (dWe (fBe F)) (Int32.toNatClampNeg p0) v35))) v28)) H := hP
          have hD : va_D A (wFR cI cF cJ q0 q1 q2 q3 q4 q5 q6 q7 q8 (sfSe (sfBe F (sdWe (sdCn (fBe F) (upd (dCn (fBe F)) (Int32.toNatClampNeg p0) v31)) (upd (dWe (fBe F)) (Int32.toNatClampNeg p0) v35))) v28)) := hD
          refine lv_aload_n hx hb dX1_pushDeck_89 rfl (lv_at hl 2 rfl) ?_
          refine lv_dup hx hb dX1_pushDeck_90 rfl ?_
          refine va_get (D := (dC, dI)) (ci := 1) (v := .int (fPu F)) (C := RX1) (T := TX1) (N := 13) hx hb hts iX1 hown hK hP 0 rfl rfl 6 (by decide) (hts _ q36) (fun _ h9 => h9) rfl dX1_pushDeck_91 ?_
          refine lv_iconst (v := 1) hx hb dX1_pushDeck_94 (by decide) ?_
          refine lv_iadd hx hb dX1_pushDeck_95 ?_
          refine lv_topi (fun v37 ev37 => ?_)
          have hf := bnd_all hf v37 ev37
          refine va_put (D := (dC, dI)) (ci := 1) (v := .int v37) (ty := .int) (C := RX1) (T := TX1) (N := 13) hx hb hts iX1 tyX1 tyX1_ok nmX1 hown hK hP hD hS 0 rfl rfl 6 (by decide) (hts _ q36) (fun _ h9 => h9) rfl (by decide +kernel) rfl rfl (Nat.le_of_ble_eq_true rfl) dX1_pushDeck_96 (fun H locs hP hD hS => ?_)
          have hP : va_P (dC, dI) vwCl (wFR cI cF cJ q0 q1 q2 q3 q4 q5 q6 q7 q8 (sfPu (sfSe (sfBe F (sdWe (sdCn (fBe F) (upd (dCn (fBe F)) (Int32.toNatClampNeg p0) v31)) (upd (dWe (fBe F)) (Int32.toNatClampNeg p0) v35))) v28) v37)) H := hP
          have hD : va_D A (wFR cI cF cJ q0 q1 q2 q3 q4 q5 q6 q7 q8 (sfPu (sfSe (sfBe F (sdWe (sdCn (fBe F) (upd (dCn (fBe F)) (Int32.toNatClampNeg p0) v31)) (upd (dWe (fBe F)) (Int32.toNatClampNeg p0) v35))) v28) v37)) := hD
          refine lv_aload_n hx hb dX1_pushDeck_99 rfl (lv_at hl 2 rfl) ?_
          refine lv_dup hx hb dX1_pushDeck_100 rfl ?_
          refine va_get (D := (dC, dI)) (ci := 1) (v := .int (fBd F)) (C := RX1) (T := TX1) (N := 13) hx hb hts iX1 hown hK hP 0 rfl rfl 7 (by decide) (hts _ q37) (fun _ h9 => h9) rfl dX1_pushDeck_101 ?_
          refine lv_iload hx hb dX1_pushDeck_104 (lv_at hl 1 rfl) ?_
          refine lv_iadd hx hb dX1_pushDeck_106 ?_
          refine lv_topi (fun v38 ev38 => ?_)
          have hf := bnd_all hf v38 ev38
          refine va_put (D := (dC, dI)) (ci := 1) (v := .int v38) (ty := .int) (C := RX1) (T := TX1) (N := 13) hx hb hts iX1 tyX1 tyX1_ok nmX1 hown hK hP hD hS 0 rfl rfl 7 (by decide) (hts _ q37) (fun _ h9 => h9) rfl (by decide +kernel) rfl rfl (Nat.le_of_ble_eq_true rfl) dX1_pushDeck_107 (fun H locs hP hD hS => ?_)
          have hP : va_P (dC, dI) vwCl (wFR cI cF cJ q0 q1 q2 q3 q4 q5 q6 q7 q8 (sfBd (sfPu (sfSe (sfBe F (sdWe (sdCn (fBe F) (upd (dCn (fBe F)) (Int32.toNatClampNeg p0) v31)) (upd (dWe (fBe F)) (Int32.toNatClampNeg p0) v35))) v28) v37) v38)) H := hP
          have hD : va_D A (wFR cI cF cJ q0 q1 q2 q3 q4 q5 q6 q7 q8 (sfBd (sfPu (sfSe (sfBe F (sdWe (sdCn (fBe F) (upd (dCn (fBe F)) (Int32.toNatClampNeg p0) v31)) (upd (dWe (fBe F)) (Int32.toNatClampNeg p0) v35))) v28) v37) v38)) := hD
          obtain rfl := Option.some.inj hf
          exact W.vret hx hb hr (fun t ht hW => ⟨⟨(), rfl, trivial, by rw [ht]; exact hP, hD⟩, hS.F ht⟩) hS.2.2 dX1_pushDeck_110
      · have hf := ite_f hf c3
        obtain rfl := Option.some.inj hf
        exact W.vret hx hb hr (fun t ht hW => ⟨⟨(), rfl, trivial, by rw [ht]; exact hP, hD⟩, hS.F ht⟩) hS.2.2 dX1_pushDeck_22
end
