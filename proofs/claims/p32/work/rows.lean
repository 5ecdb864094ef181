section
-- ===== PART A: goes FIRST, ahead of the names: the tables' words, and 'selects' of the private methods out of them =====
/-- a private method of a class that the tables say can be made, by its rows of tables_1 -/
def lw_okq (q : MethodName × Nat) : Prop := (q.1.cls ≠ "java/lang/invoke/MethodHandle" ∧ q.1.cls ≠ "java/lang/invoke/VarHandle") ∧ Cond.instantiable q.1.cls q.2 ∈ tables_1 ∧ Cond.privateMethod q.1 ∈ tables_1 ∧ Cond.instanceMethod q.1 ∈ tables_1
theorem lw_p0 : lw_okq (⟨"CartPitches", "recorded", "(I)I"⟩, 6) := ⟨⟨by decide +kernel, by decide +kernel⟩, List.mem_of_getElem? (i := 11) (by decide +kernel), List.mem_of_getElem? (i := 307) (by decide +kernel), List.mem_of_getElem? (i := 308) (by decide +kernel)⟩
theorem lw_p1 : lw_okq (⟨"CartPitches", "aboutCart", "(LCartPitches$Cart;I)I"⟩, 6) := ⟨⟨by decide +kernel, by decide +kernel⟩, List.mem_of_getElem? (i := 11) (by decide +kernel), List.mem_of_getElem? (i := 399) (by decide +kernel), List.mem_of_getElem? (i := 400) (by decide +kernel)⟩
theorem lw_p2 : lw_okq (⟨"CartPitches", "aboutPastOfCart", "(LCartPitches$Cart;I)I"⟩, 6) := ⟨⟨by decide +kernel, by decide +kernel⟩, List.mem_of_getElem? (i := 11) (by decide +kernel), List.mem_of_getElem? (i := 407) (by decide +kernel), List.mem_of_getElem? (i := 408) (by decide +kernel)⟩
theorem lw_p3 : lw_okq (⟨"CartPitches$State", "beginNextDay", "()V"⟩, 15) := ⟨⟨by decide +kernel, by decide +kernel⟩, List.mem_of_getElem? (i := 19) (by decide +kernel), List.mem_of_getElem? (i := 568) (by decide +kernel), List.mem_of_getElem? (i := 569) (by decide +kernel)⟩
theorem lw_p4 : lw_okq (⟨"CartPitches", "performOrder", "(II)I"⟩, 6) := ⟨⟨by decide +kernel, by decide +kernel⟩, List.mem_of_getElem? (i := 11) (by decide +kernel), List.mem_of_getElem? (i := 615) (by decide +kernel), List.mem_of_getElem? (i := 616) (by decide +kernel)⟩
theorem lw_p5 : lw_okq (⟨"CartPitches", "pitchOnTrialDay", "(I)I"⟩, 6) := ⟨⟨by decide +kernel, by decide +kernel⟩, List.mem_of_getElem? (i := 11) (by decide +kernel), List.mem_of_getElem? (i := 686) (by decide +kernel), List.mem_of_getElem? (i := 687) (by decide +kernel)⟩
def lw_privs_1 : List (MethodName × Nat) := [(⟨"CartPitches", "recorded", "(I)I"⟩, 6), (⟨"CartPitches", "aboutCart", "(LCartPitches$Cart;I)I"⟩, 6), (⟨"CartPitches", "aboutPastOfCart", "(LCartPitches$Cart;I)I"⟩, 6), (⟨"CartPitches$State", "beginNextDay", "()V"⟩, 15), (⟨"CartPitches", "performOrder", "(II)I"⟩, 6), (⟨"CartPitches", "pitchOnTrialDay", "(I)I"⟩, 6)]
theorem lw_r1 : ∀ q ∈ lw_privs_1, lw_okq q := List.forall_mem_cons.mpr ⟨lw_p0, List.forall_mem_cons.mpr ⟨lw_p1, List.forall_mem_cons.mpr ⟨lw_p2, List.forall_mem_cons.mpr ⟨lw_p3, List.forall_mem_cons.mpr ⟨lw_p4, List.forall_mem_cons.mpr ⟨lw_p5, fun _ h => absurd h List.not_mem_nil⟩⟩⟩⟩⟩⟩
def lw_privs : List (MethodName × Nat) := lw_privs_1
def lw_tbl : List Cond := k2_sels lw_privs ++ tables_1
theorem lw_privs_ok : ∀ q ∈ lw_privs, lw_okq q := lw_r1
end
section
def RX0 : String := "CartPitches$Cart"
def TX0 : u_T := fun k => match k with
  | 0 => ("CartPitches$Cart", "kind", "I", false)
  | 1 => ("CartPitches$Cart", "hours", "I", false)
  | 2 => ("CartPitches$Cart", "wishCount", "I", false)
  | 3 => ("CartPitches$Cart", "losses", "I", false)
  | 4 => ("CartPitches$Cart", "validUpTo", "I", false)
  | 5 => ("CartPitches$Cart", "waits", "Z", false)
  | 6 => ("CartPitches$Cart", "bannedUpTo", "I", false)
  | 7 => ("CartPitches$Cart", "daysWithPitch", "I", false)
  | 8 => ("CartPitches$Cart", "pitch", "I", false)
  | 9 => ("CartPitches$Cart", "kitchenHour", "I", false)
  | 10 => ("CartPitches$Cart", "reason", "I", false)
  | 11 => ("CartPitches$Cart", "place", "I", false)
  | 12 => ("CartPitches$Cart", "paidIn", "J", false)
  | 13 => ("CartPitches$Cart", "rents", "J", false)
  | 14 => ("CartPitches$Cart", "fines", "J", false)
  | 15 => ("CartPitches$Cart", "swapFees", "J", false)
  | 16 => ("CartPitches$Cart", "wishes", "[I", true)
  | _ => ("CartPitches$Cart", "points", "[I", true)
def tyX0 : Nat → FieldType := fun k => match k with
  | 0 => .int
  | 1 => .int
  | 2 => .int
  | 3 => .int
  | 4 => .int
  | 5 => .boolean
  | 6 => .int
  | 7 => .int
  | 8 => .int
  | 9 => .int
  | 10 => .int
  | 11 => .int
  | 12 => .long
  | 13 => .long
  | 14 => .long
  | 15 => .long
  | 16 => .array .int
  | _ => .array .int
theorem nmX0 : ∀ a, a < 18 → ∀ b, b < 18 → a ≠ b → (TX0 a).2.1 ≠ (TX0 b).2.1 := by decide +kernel
theorem tyX0_ok : ∀ k, k < 18 → parseFieldDescriptor (TX0 k).2.2.1 = some (tyX0 k) := by decide +kernel
abbrev cX0_init : ByteArray := prog_2_method_1_code
def yX0_init : MethodName := ⟨RX0, "<init>", "()V"⟩
abbrev cX0_begin : ByteArray := prog_2_method_2_code
def yX0_begin : MethodName := ⟨RX0, "begin", "(III)V"⟩
abbrev cX0_beginDay : ByteArray := prog_2_method_3_code
def yX0_beginDay : MethodName := ⟨RX0, "beginDay", "()V"⟩
abbrev cX0_copyFrom : ByteArray := prog_2_method_4_code
def yX0_copyFrom : MethodName := ⟨RX0, "copyFrom", "(LCartPitches$Cart;)V"⟩
abbrev cX0_balance : ByteArray := prog_2_method_5_code
def yX0_balance : MethodName := ⟨RX0, "balance", "()J"⟩
abbrev cX0_wishAt : ByteArray := prog_2_method_6_code
def yX0_wishAt : MethodName := ⟨RX0, "wishAt", "(I)I"⟩
abbrev cX0_addPoints : ByteArray := prog_2_method_7_code
def yX0_addPoints : MethodName := ⟨RX0, "addPoints", "(II)V"⟩
abbrev cX0_dropPointsOfSameSpot : ByteArray := prog_2_method_8_code
def yX0_dropPointsOfSameSpot : MethodName := ⟨RX0, "dropPointsOfSameSpot", "(I)V"⟩
abbrev cX0_dropAllPoints : ByteArray := prog_2_method_9_code
def yX0_dropAllPoints : MethodName := ⟨RX0, "dropAllPoints", "()V"⟩
abbrev cX0_pointsLeft : ByteArray := prog_2_method_10_code
def yX0_pointsLeft : MethodName := ⟨RX0, "pointsLeft", "(III)I"⟩
abbrev cX0_reasonBeforeLots : ByteArray := prog_2_method_11_code
def yX0_reasonBeforeLots : MethodName := ⟨RX0, "reasonBeforeLots", "(I)I"⟩
def RX1 : String := "CartPitches$Day"
def TX1 : u_T := fun k => match k with
  | _ => ("", "", "", false)
def tyX1 : Nat → FieldType := fun k => match k with
  | _ => .int
theorem nmX1 : ∀ a, a < 0 → ∀ b, b < 0 → a ≠ b → (TX1 a).2.1 ≠ (TX1 b).2.1 := by decide +kernel
theorem tyX1_ok : ∀ k, k < 0 → parseFieldDescriptor (TX1 k).2.2.1 = some (tyX1 k) := by decide +kernel
abbrev cX1_runChecks : ByteArray := prog_3_method_2_code
def yX1_runChecks : MethodName := ⟨RX1, "runChecks", "(LCartPitches$State;)V"⟩
abbrev cX1_nextToCheck : ByteArray := prog_3_method_3_code
def yX1_nextToCheck : MethodName := ⟨RX1, "nextToCheck", "(LCartPitches$State;)LCartPitches$Cart;"⟩
abbrev cX1_clearLastDay : ByteArray := prog_3_method_4_code
def yX1_clearLastDay : MethodName := ⟨RX1, "clearLastDay", "(LCartPitches$State;)V"⟩
abbrev cX1_drawLots : ByteArray := prog_3_method_5_code
def yX1_drawLots : MethodName := ⟨RX1, "drawLots", "(LCartPitches$State;)V"⟩
abbrev cX1_handOutTickets : ByteArray := prog_3_method_6_code
def yX1_handOutTickets : MethodName := ⟨RX1, "handOutTickets", "(LCartPitches$State;)I"⟩
abbrev cX1_holderOfTicket : ByteArray := prog_3_method_7_code
def yX1_holderOfTicket : MethodName := ⟨RX1, "holderOfTicket", "(LCartPitches$State;I)I"⟩
abbrev cX1_choosePitch : ByteArray := prog_3_method_8_code
def yX1_choosePitch : MethodName := ⟨RX1, "choosePitch", "(LCartPitches$State;I)V"⟩
abbrev cX1_shareKitchens : ByteArray := prog_3_method_9_code
def yX1_shareKitchens : MethodName := ⟨RX1, "shareKitchens", "(LCartPitches$State;)V"⟩
abbrev cX1_makeSwaps : ByteArray := prog_3_method_10_code
def yX1_makeSwaps : MethodName := ⟨RX1, "makeSwaps", "(LCartPitches$State;)V"⟩
abbrev cX1_exchange : ByteArray := prog_3_method_11_code
def yX1_exchange : MethodName := ⟨RX1, "exchange", "(LCartPitches$State;II)Z"⟩
abbrev cX1_trade : ByteArray := prog_3_method_12_code
def yX1_trade : MethodName := ⟨RX1, "trade", "(LCartPitches$State;)V"⟩
def RX2 : String := "CartPitches$History"
def TX2 : u_T := fun k => match k with
  | 0 => ("CartPitches$History", "rows", "[LCartPitches$State;", true)
  | 1 => ("CartPitches$History", "oldest", "I", false)
  | _ => ("CartPitches$History", "kept", "I", false)
def tyX2 : Nat → FieldType := fun k => match k with
  | 0 => .array (.object "CartPitches$State")
  | 1 => .int
  | _ => .int
theorem nmX2 : ∀ a, a < 3 → ∀ b, b < 3 → a ≠ b → (TX2 a).2.1 ≠ (TX2 b).2.1 := by decide +kernel
theorem tyX2_ok : ∀ k, k < 3 → parseFieldDescriptor (TX2 k).2.2.1 = some (tyX2 k) := by decide +kernel
abbrev cX2_init : ByteArray := prog_4_method_1_code
def yX2_init : MethodName := ⟨RX2, "<init>", "()V"⟩
abbrev cX2_prepare : ByteArray := prog_4_method_2_code
def yX2_prepare : MethodName := ⟨RX2, "prepare", "(LCartPitches$State;)V"⟩
abbrev cX2_keepPrepared : ByteArray := prog_4_method_3_code
def yX2_keepPrepared : MethodName := ⟨RX2, "keepPrepared", "()V"⟩
abbrev cX2_takeBack : ByteArray := prog_4_method_4_code
def yX2_takeBack : MethodName := ⟨RX2, "takeBack", "(LCartPitches$State;)V"⟩
def RX3 : String := "CartPitches$Pad"
def TX3 : u_T := fun k => match k with
  | 0 => ("CartPitches$Pad", "signs", "[C", true)
  | _ => ("CartPitches$Pad", "length", "I", false)
def tyX3 : Nat → FieldType := fun k => match k with
  | 0 => .array .char
  | _ => .int
theorem nmX3 : ∀ a, a < 2 → ∀ b, b < 2 → a ≠ b → (TX3 a).2.1 ≠ (TX3 b).2.1 := by decide +kernel
theorem tyX3_ok : ∀ k, k < 2 → parseFieldDescriptor (TX3 k).2.2.1 = some (tyX3 k) := by decide +kernel
abbrev cX3_init : ByteArray := prog_5_method_1_code
def yX3_init : MethodName := ⟨RX3, "<init>", "()V"⟩
abbrev cX3_append : ByteArray := prog_5_method_2_code
def yX3_append : MethodName := ⟨RX3, "append", "(J)I"⟩
abbrev cX3_countGiven : ByteArray := prog_5_method_3_code
def yX3_countGiven : MethodName := ⟨RX3, "countGiven", "(J)I"⟩
abbrev cX3_codeAt : ByteArray := prog_5_method_4_code
def yX3_codeAt : MethodName := ⟨RX3, "codeAt", "(JI)I"⟩
abbrev cX3_signAt : ByteArray := prog_5_method_5_code
def yX3_signAt : MethodName := ⟨RX3, "signAt", "(I)I"⟩
abbrev cX3_findFault : ByteArray := prog_5_method_6_code
def yX3_findFault : MethodName := ⟨RX3, "findFault", "()I"⟩
abbrev cX3_awaitedBehind : ByteArray := prog_5_method_7_code
def yX3_awaitedBehind : MethodName := ⟨RX3, "awaitedBehind", "(II)I"⟩
abbrev cX3_awaitedBehindOrder : ByteArray := prog_5_method_8_code
def yX3_awaitedBehindOrder : MethodName := ⟨RX3, "awaitedBehindOrder", "(I)I"⟩
abbrev cX3_isCart : ByteArray := prog_5_method_9_code
def yX3_isCart : MethodName := ⟨RX3, "isCart", "(I)Z"⟩
abbrev cX3_isDigit : ByteArray := prog_5_method_10_code
def yX3_isDigit : MethodName := ⟨RX3, "isDigit", "(I)Z"⟩
abbrev cX3_endsOrder : ByteArray := prog_5_method_11_code
def yX3_endsOrder : MethodName := ⟨RX3, "endsOrder", "(I)Z"⟩
abbrev cX3_wishAt : ByteArray := prog_5_method_12_code
def yX3_wishAt : MethodName := ⟨RX3, "wishAt", "(II)I"⟩
abbrev cX3_numberAt : ByteArray := prog_5_method_13_code
def yX3_numberAt : MethodName := ⟨RX3, "numberAt", "(II)I"⟩
def RX4 : String := "CartPitches$Pitch"
def TX4 : u_T := fun k => match k with
  | 0 => ("CartPitches$Pitch", "price", "I", false)
  | 1 => ("CartPitches$Pitch", "daysTaken", "I", false)
  | 2 => ("CartPitches$Pitch", "rentsPaid", "I", false)
  | _ => ("CartPitches$Pitch", "holder", "I", false)
def tyX4 : Nat → FieldType := fun k => match k with
  | 0 => .int
  | 1 => .int
  | 2 => .int
  | _ => .int
theorem nmX4 : ∀ a, a < 4 → ∀ b, b < 4 → a ≠ b → (TX4 a).2.1 ≠ (TX4 b).2.1 := by decide +kernel
theorem tyX4_ok : ∀ k, k < 4 → parseFieldDescriptor (TX4 k).2.2.1 = some (tyX4 k) := by decide +kernel
abbrev cX4_init : ByteArray := prog_6_method_1_code
def yX4_init : MethodName := ⟨RX4, "<init>", "()V"⟩
abbrev cX4_begin : ByteArray := prog_6_method_2_code
def yX4_begin : MethodName := ⟨RX4, "begin", "(I)V"⟩
abbrev cX4_copyFrom : ByteArray := prog_6_method_3_code
def yX4_copyFrom : MethodName := ⟨RX4, "copyFrom", "(LCartPitches$Pitch;)V"⟩
def RX5 : String := "CartPitches$State"
def TX5 : u_T := fun k => match k with
  | 0 => ("CartPitches$State", "today", "I", false)
  | 1 => ("CartPitches$State", "lots", "I", false)
  | 2 => ("CartPitches$State", "pitchCount", "I", false)
  | 3 => ("CartPitches$State", "cartCount", "I", false)
  | 4 => ("CartPitches$State", "swapCount", "I", false)
  | 5 => ("CartPitches$State", "swapsDone", "I", false)
  | 6 => ("CartPitches$State", "saved", "Z", false)
  | 7 => ("CartPitches$State", "settings", "[I", true)
  | 8 => ("CartPitches$State", "pitches", "[LCartPitches$Pitch;", true)
  | 9 => ("CartPitches$State", "carts", "[LCartPitches$Cart;", true)
  | 10 => ("CartPitches$State", "swapCart", "[I", true)
  | 11 => ("CartPitches$State", "swapOther", "[I", true)
  | 12 => ("CartPitches$State", "tickets", "[I", true)
  | 13 => ("CartPitches$State", "drawn", "[I", true)
  | _ => ("CartPitches$State", "drawnCount", "I", false)
def tyX5 : Nat → FieldType := fun k => match k with
  | 0 => .int
  | 1 => .int
  | 2 => .int
  | 3 => .int
  | 4 => .int
  | 5 => .int
  | 6 => .boolean
  | 7 => .array .int
  | 8 => .array (.object "CartPitches$Pitch")
  | 9 => .array (.object "CartPitches$Cart")
  | 10 => .array .int
  | 11 => .array .int
  | 12 => .array .int
  | 13 => .array .int
  | _ => .int
theorem nmX5 : ∀ a, a < 15 → ∀ b, b < 15 → a ≠ b → (TX5 a).2.1 ≠ (TX5 b).2.1 := by decide +kernel
theorem tyX5_ok : ∀ k, k < 15 → parseFieldDescriptor (TX5 k).2.2.1 = some (tyX5 k) := by decide +kernel
abbrev cX5_init : ByteArray := prog_7_method_1_code
def yX5_init : MethodName := ⟨RX5, "<init>", "()V"⟩
abbrev cX5_copyFrom : ByteArray := prog_7_method_2_code
def yX5_copyFrom : MethodName := ⟨RX5, "copyFrom", "(LCartPitches$State;)V"⟩
abbrev cX5_hasCart : ByteArray := prog_7_method_3_code
def yX5_hasCart : MethodName := ⟨RX5, "hasCart", "(I)Z"⟩
abbrev cX5_hasPitch : ByteArray := prog_7_method_4_code
def yX5_hasPitch : MethodName := ⟨RX5, "hasPitch", "(I)Z"⟩
abbrev cX5_changeSetting : ByteArray := prog_7_method_5_code
def yX5_changeSetting : MethodName := ⟨RX5, "changeSetting", "(II)I"⟩
abbrev cX5_changeLots : ByteArray := prog_7_method_6_code
def yX5_changeLots : MethodName := ⟨RX5, "changeLots", "(I)I"⟩
abbrev cX5_addPitch : ByteArray := prog_7_method_7_code
def yX5_addPitch : MethodName := ⟨RX5, "addPitch", "(I)I"⟩
abbrev cX5_changeRent : ByteArray := prog_7_method_8_code
def yX5_changeRent : MethodName := ⟨RX5, "changeRent", "(II)I"⟩
abbrev cX5_addCart : ByteArray := prog_7_method_9_code
def yX5_addCart : MethodName := ⟨RX5, "addCart", "(II)I"⟩
abbrev cX5_tellWishes : ByteArray := prog_7_method_10_code
def yX5_tellWishes : MethodName := ⟨RX5, "tellWishes", "(IIII)I"⟩
abbrev cX5_isPitchOrNone : ByteArray := prog_7_method_11_code
def yX5_isPitchOrNone : MethodName := ⟨RX5, "isPitchOrNone", "(I)Z"⟩
abbrev cX5_punish : ByteArray := prog_7_method_12_code
def yX5_punish : MethodName := ⟨RX5, "punish", "(II)I"⟩
abbrev cX5_givePoints : ByteArray := prog_7_method_13_code
def yX5_givePoints : MethodName := ⟨RX5, "givePoints", "(LCartPitches$Cart;I)I"⟩
abbrev cX5_askCheck : ByteArray := prog_7_method_14_code
def yX5_askCheck : MethodName := ⟨RX5, "askCheck", "(I)I"⟩
abbrev cX5_askSwap : ByteArray := prog_7_method_15_code
def yX5_askSwap : MethodName := ⟨RX5, "askSwap", "(II)I"⟩
abbrev cX5_takeMoney : ByteArray := prog_7_method_16_code
def yX5_takeMoney : MethodName := ⟨RX5, "takeMoney", "(II)I"⟩
abbrev cX5_passDays : ByteArray := prog_7_method_17_code
def yX5_passDays : MethodName := ⟨RX5, "passDays", "(I)I"⟩
abbrev cX5_beginNextDay : ByteArray := prog_7_method_18_code
def yX5_beginNextDay : MethodName := ⟨RX5, "beginNextDay", "()V"⟩
abbrev cX5_countWaiting : ByteArray := prog_7_method_19_code
def yX5_countWaiting : MethodName := ⟨RX5, "countWaiting", "()I"⟩
abbrev cX5_countOnPitches : ByteArray := prog_7_method_20_code
def yX5_countOnPitches : MethodName := ⟨RX5, "countOnPitches", "()I"⟩
abbrev cX5_sameKindBeside : ByteArray := prog_7_method_21_code
def yX5_sameKindBeside : MethodName := ⟨RX5, "sameKindBeside", "(II)Z"⟩
abbrev cX5_seat : ByteArray := prog_7_method_22_code
def yX5_seat : MethodName := ⟨RX5, "seat", "(II)V"⟩
abbrev cX5_unseat : ByteArray := prog_7_method_23_code
def yX5_unseat : MethodName := ⟨RX5, "unseat", "(LCartPitches$Cart;)V"⟩
def RX6 : String := "CartPitches"
def TX6 : u_T := fun k => match k with
  | 0 => ("CartPitches", "now", "LCartPitches$State;", true)
  | 1 => ("CartPitches", "trial", "LCartPitches$State;", true)
  | 2 => ("CartPitches", "history", "LCartPitches$History;", true)
  | 3 => ("CartPitches", "firstSlot", "LCartPitches$State;", true)
  | 4 => ("CartPitches", "secondSlot", "LCartPitches$State;", true)
  | _ => ("CartPitches", "pad", "LCartPitches$Pad;", true)
def tyX6 : Nat → FieldType := fun k => match k with
  | 0 => .object "CartPitches$State"
  | 1 => .object "CartPitches$State"
  | 2 => .object "CartPitches$History"
  | 3 => .object "CartPitches$State"
  | 4 => .object "CartPitches$State"
  | _ => .object "CartPitches$Pad"
theorem nmX6 : ∀ a, a < 6 → ∀ b, b < 6 → a ≠ b → (TX6 a).2.1 ≠ (TX6 b).2.1 := by decide +kernel
theorem tyX6_ok : ∀ k, k < 6 → parseFieldDescriptor (TX6 k).2.2.1 = some (tyX6 k) := by decide +kernel
abbrev cX6_init : ByteArray := prog_1_method_1_code
def yX6_init : MethodName := ⟨RX6, "<init>", "()V"⟩
abbrev cX6_set : ByteArray := prog_1_method_2_code
def yX6_set : MethodName := ⟨RX6, "set", "(II)I"⟩
abbrev cX6_seed : ByteArray := prog_1_method_3_code
def yX6_seed : MethodName := ⟨RX6, "seed", "(I)I"⟩
abbrev cX6_pitch : ByteArray := prog_1_method_4_code
def yX6_pitch : MethodName := ⟨RX6, "pitch", "(I)I"⟩
abbrev cX6_rent : ByteArray := prog_1_method_5_code
def yX6_rent : MethodName := ⟨RX6, "rent", "(II)I"⟩
abbrev cX6_cart : ByteArray := prog_1_method_6_code
def yX6_cart : MethodName := ⟨RX6, "cart", "(II)I"⟩
abbrev cX6_wish : ByteArray := prog_1_method_7_code
def yX6_wish : MethodName := ⟨RX6, "wish", "(IIII)I"⟩
abbrev cX6_fine : ByteArray := prog_1_method_8_code
def yX6_fine : MethodName := ⟨RX6, "fine", "(II)I"⟩
abbrev cX6_check : ByteArray := prog_1_method_9_code
def yX6_check : MethodName := ⟨RX6, "check", "(I)I"⟩
abbrev cX6_swap : ByteArray := prog_1_method_10_code
def yX6_swap : MethodName := ⟨RX6, "swap", "(II)I"⟩
abbrev cX6_pay : ByteArray := prog_1_method_11_code
def yX6_pay : MethodName := ⟨RX6, "pay", "(II)I"⟩
abbrev cX6_days : ByteArray := prog_1_method_12_code
def yX6_days : MethodName := ⟨RX6, "days", "(I)I"⟩
abbrev cX6_recorded : ByteArray := prog_1_method_13_code
def yX6_recorded : MethodName := ⟨RX6, "recorded", "(I)I"⟩
abbrev cX6_ofCart : ByteArray := prog_1_method_14_code
def yX6_ofCart : MethodName := ⟨RX6, "ofCart", "(II)I"⟩
abbrev cX6_aboutCart : ByteArray := prog_1_method_15_code
def yX6_aboutCart : MethodName := ⟨RX6, "aboutCart", "(LCartPitches$Cart;I)I"⟩
abbrev cX6_aboutPastOfCart : ByteArray := prog_1_method_16_code
def yX6_aboutPastOfCart : MethodName := ⟨RX6, "aboutPastOfCart", "(LCartPitches$Cart;I)I"⟩
abbrev cX6_money : ByteArray := prog_1_method_17_code
def yX6_money : MethodName := ⟨RX6, "money", "(II)J"⟩
abbrev cX6_ofPitch : ByteArray := prog_1_method_18_code
def yX6_ofPitch : MethodName := ⟨RX6, "ofPitch", "(II)I"⟩
abbrev cX6_count : ByteArray := prog_1_method_19_code
def yX6_count : MethodName := ⟨RX6, "count", "(I)I"⟩
abbrev cX6_pointsOn : ByteArray := prog_1_method_20_code
def yX6_pointsOn : MethodName := ⟨RX6, "pointsOn", "(II)I"⟩
abbrev cX6_wouldHave : ByteArray := prog_1_method_21_code
def yX6_wouldHave : MethodName := ⟨RX6, "wouldHave", "(I)I"⟩
abbrev cX6_ifWished : ByteArray := prog_1_method_22_code
def yX6_ifWished : MethodName := ⟨RX6, "ifWished", "(II)I"⟩
abbrev cX6_firstDay : ByteArray := prog_1_method_23_code
def yX6_firstDay : MethodName := ⟨RX6, "firstDay", "(I)I"⟩
abbrev cX6_daysOf : ByteArray := prog_1_method_24_code
def yX6_daysOf : MethodName := ⟨RX6, "daysOf", "(II)I"⟩
abbrev cX6_luckySeed : ByteArray := prog_1_method_25_code
def yX6_luckySeed : MethodName := ⟨RX6, "luckySeed", "(II)I"⟩
abbrev cX6_whyNot : ByteArray := prog_1_method_26_code
def yX6_whyNot : MethodName := ⟨RX6, "whyNot", "(II)I"⟩
abbrev cX6_pitchOnTrialDay : ByteArray := prog_1_method_27_code
def yX6_pitchOnTrialDay : MethodName := ⟨RX6, "pitchOnTrialDay", "(I)I"⟩
abbrev cX6_put : ByteArray := prog_1_method_28_code
def yX6_put : MethodName := ⟨RX6, "put", "(J)I"⟩
abbrev cX6_wipe : ByteArray := prog_1_method_29_code
def yX6_wipe : MethodName := ⟨RX6, "wipe", "()I"⟩
abbrev cX6_fault : ByteArray := prog_1_method_30_code
def yX6_fault : MethodName := ⟨RX6, "fault", "()I"⟩
abbrev cX6_carryOut : ByteArray := prog_1_method_31_code
def yX6_carryOut : MethodName := ⟨RX6, "carryOut", "()I"⟩
abbrev cX6_performOrder : ByteArray := prog_1_method_32_code
def yX6_performOrder : MethodName := ⟨RX6, "performOrder", "(II)I"⟩
abbrev cX6_undo : ByteArray := prog_1_method_33_code
def yX6_undo : MethodName := ⟨RX6, "undo", "()I"⟩
abbrev cX6_save : ByteArray := prog_1_method_34_code
def yX6_save : MethodName := ⟨RX6, "save", "(I)I"⟩
abbrev cX6_restore : ByteArray := prog_1_method_35_code
def yX6_restore : MethodName := ⟨RX6, "restore", "(I)I"⟩
def RX7 : String := "CartPitchesModel"
def TX7 : u_T := fun k => match k with
  | _ => ("", "", "", false)
def tyX7 : Nat → FieldType := fun k => match k with
  | _ => .int
theorem nmX7 : ∀ a, a < 0 → ∀ b, b < 0 → a ≠ b → (TX7 a).2.1 ≠ (TX7 b).2.1 := by decide +kernel
theorem tyX7_ok : ∀ k, k < 0 → parseFieldDescriptor (TX7 k).2.2.1 = some (tyX7 k) := by decide +kernel
def RJ9 : String := "java/lang/Math"
def TJ9 : u_T := fun k => match k with
  | _ => ("", "", "", false)
def tyJ9 : Nat → FieldType := fun k => match k with
  | _ => .int
theorem nmJ9 : ∀ a, a < 0 → ∀ b, b < 0 → a ≠ b → (TJ9 a).2.1 ≠ (TJ9 b).2.1 := by decide +kernel
theorem tyJ9_ok : ∀ k, k < 0 → parseFieldDescriptor (TJ9 k).2.2.1 = some (tyJ9 k) := by decide +kernel
abbrev cJ9_min_7cf53 : ByteArray := prog_10_method_69_code
def yJ9_min_7cf53 : MethodName := ⟨RJ9, "min", "(II)I"⟩
def RJ10 : String := "java/lang/System"
def TJ10 : u_T := fun k => match k with
  | _ => ("", "", "", false)
def tyJ10 : Nat → FieldType := fun k => match k with
  | _ => .int
theorem nmJ10 : ∀ a, a < 0 → ∀ b, b < 0 → a ≠ b → (TJ10 a).2.1 ≠ (TJ10 b).2.1 := by decide +kernel
theorem tyJ10_ok : ∀ k, k < 0 → parseFieldDescriptor (TJ10 k).2.2.1 = some (tyJ10 k) := by decide +kernel
def RL : String := "CartPitchesLaw"
abbrev cL_cell : ByteArray := method_2_code
def yL_cell : MethodName := ⟨RL, "cell", "([II)I"⟩
abbrev cL_up : ByteArray := method_3_code
def yL_up : MethodName := ⟨RL, "up", "(II)I"⟩
abbrev cL_law : ByteArray := code
def yL_law : MethodName := ⟨RL, "law", "([I)Z"⟩
abbrev cL_least : ByteArray := method_5_code
def yL_least : MethodName := ⟨RL, "least", "(I)I"⟩
abbrev cL_most : ByteArray := method_6_code
def yL_most : MethodName := ⟨RL, "most", "(I)I"⟩
abbrev cL_sets : ByteArray := method_7_code
def yL_sets : MethodName := ⟨RL, "sets", "(LCartPitches;I)Z"⟩
abbrev cL_act : ByteArray := method_8_code
def yL_act : MethodName := ⟨RL, "act", "(LCartPitches;III)Z"⟩
abbrev cL_number : ByteArray := method_9_code
def yL_number : MethodName := ⟨RL, "number", "(LCartPitches;I)V"⟩
abbrev cL_text : ByteArray := method_10_code
def yL_text : MethodName := ⟨RL, "text", "(LCartPitches;II)Z"⟩
abbrev cL_one : ByteArray := method_11_code
def yL_one : MethodName := ⟨RL, "one", "(LCartPitches;[II)I"⟩
abbrev cL_sound : ByteArray := method_12_code
def yL_sound : MethodName := ⟨RL, "sound", "(LCartPitches;)Z"⟩
abbrev cL_comes : ByteArray := method_13_code
def yL_comes : MethodName := ⟨RL, "comes", "(LCartPitches;I)Z"⟩
abbrev cL_lucky : ByteArray := method_14_code
def yL_lucky : MethodName := ⟨RL, "lucky", "(LCartPitches;III)Z"⟩
abbrev cL_told : ByteArray := method_15_code
def yL_told : MethodName := ⟨RL, "told", "(LCartPitches;)I"⟩
abbrev cL_back : ByteArray := method_16_code
def yL_back : MethodName := ⟨RL, "back", "(LCartPitches;I)Z"⟩
abbrev cL_refused : ByteArray := method_17_code
def yL_refused : MethodName := ⟨RL, "refused", "(LCartPitches;I)Z"⟩
abbrev vwCl : List vw_C := [(RX0, TX0, 18), (RX2, TX2, 3), (RX3, TX3, 2), (RX4, TX4, 4), (RX5, TX5, 15), (RX6, TX6, 6)]
end
section
theorem dX0_init_0 : decode cX0_init 0 = .ok (.aload_n 0, 1) := by decide +kernel
theorem dX0_init_1 : decode cX0_init 1 = .ok (.invokespecial 3, 3) := by decide +kernel
theorem dX0_init_4 : decode cX0_init 4 = .ok (.aload_n 0, 1) := by decide +kernel
theorem dX0_init_5 : decode cX0_init 5 = .ok (.iconst 3, 1) := by decide +kernel
theorem dX0_init_6 : decode cX0_init 6 = .ok (.newarray .int, 2) := by decide +kernel
theorem dX0_init_8 : decode cX0_init 8 = .ok (.putfield 9, 3) := by decide +kernel
theorem dX0_init_11 : decode cX0_init 11 = .ok (.aload_n 0, 1) := by decide +kernel
theorem dX0_init_12 : decode cX0_init 12 = .ok (.sipush 200, 3) := by decide +kernel
theorem dX0_init_15 : decode cX0_init 15 = .ok (.newarray .int, 2) := by decide +kernel
theorem dX0_init_17 : decode cX0_init 17 = .ok (.putfield 15, 3) := by decide +kernel
theorem dX0_init_20 : decode cX0_init 20 = .ok (.return_, 1) := by decide +kernel
theorem dX0_begin_0 : decode cX0_begin 0 = .ok (.aload_n 0, 1) := by decide +kernel
theorem dX0_begin_1 : decode cX0_begin 1 = .ok (.iload_n 1, 1) := by decide +kernel
theorem dX0_begin_2 : decode cX0_begin 2 = .ok (.putfield 18, 3) := by decide +kernel
theorem dX0_begin_5 : decode cX0_begin 5 = .ok (.aload_n 0, 1) := by decide +kernel
theorem dX0_begin_6 : decode cX0_begin 6 = .ok (.iload_n 2, 1) := by decide +kernel
theorem dX0_begin_7 : decode cX0_begin 7 = .ok (.putfield 22, 3) := by decide +kernel
theorem dX0_begin_10 : decode cX0_begin 10 = .ok (.aload_n 0, 1) := by decide +kernel
theorem dX0_begin_11 : decode cX0_begin 11 = .ok (.iload_n 3, 1) := by decide +kernel
theorem dX0_begin_12 : decode cX0_begin 12 = .ok (.putfield 25, 3) := by decide +kernel
theorem dX0_begin_15 : decode cX0_begin 15 = .ok (.aload_n 0, 1) := by decide +kernel
theorem dX0_begin_16 : decode cX0_begin 16 = .ok (.iconst 0, 1) := by decide +kernel
theorem dX0_begin_17 : decode cX0_begin 17 = .ok (.putfield 28, 3) := by decide +kernel
theorem dX0_begin_20 : decode cX0_begin 20 = .ok (.aload_n 0, 1) := by decide +kernel
theorem dX0_begin_21 : decode cX0_begin 21 = .ok (.iconst 0, 1) := by decide +kernel
theorem dX0_begin_22 : decode cX0_begin 22 = .ok (.putfield 31, 3) := by decide +kernel
theorem dX0_begin_25 : decode cX0_begin 25 = .ok (.aload_n 0, 1) := by decide +kernel
theorem dX0_begin_26 : decode cX0_begin 26 = .ok (.iconst 0, 1) := by decide +kernel
theorem dX0_begin_27 : decode cX0_begin 27 = .ok (.putfield 34, 3) := by decide +kernel
theorem dX0_begin_30 : decode cX0_begin 30 = .ok (.aload_n 0, 1) := by decide +kernel
theorem dX0_begin_31 : decode cX0_begin 31 = .ok (.bipush (-6), 2) := by decide +kernel
theorem dX0_begin_33 : decode cX0_begin 33 = .ok (.putfield 38, 3) := by decide +kernel
theorem dX0_begin_36 : decode cX0_begin 36 = .ok (.aload_n 0, 1) := by decide +kernel
theorem dX0_begin_37 : decode cX0_begin 37 = .ok (.iconst 0, 1) := by decide +kernel
theorem dX0_begin_38 : decode cX0_begin 38 = .ok (.putfield 41, 3) := by decide +kernel
theorem dX0_begin_41 : decode cX0_begin 41 = .ok (.aload_n 0, 1) := by decide +kernel
theorem dX0_begin_42 : decode cX0_begin 42 = .ok (.lconst 0, 1) := by decide +kernel
theorem dX0_begin_43 : decode cX0_begin 43 = .ok (.putfield 44, 3) := by decide +kernel
theorem dX0_begin_46 : decode cX0_begin 46 = .ok (.aload_n 0, 1) := by decide +kernel
theorem dX0_begin_47 : decode cX0_begin 47 = .ok (.lconst 0, 1) := by decide +kernel
theorem dX0_begin_48 : decode cX0_begin 48 = .ok (.putfield 48, 3) := by decide +kernel
theorem dX0_begin_51 : decode cX0_begin 51 = .ok (.aload_n 0, 1) := by decide +kernel
theorem dX0_begin_52 : decode cX0_begin 52 = .ok (.lconst 0, 1) := by decide +kernel
theorem dX0_begin_53 : decode cX0_begin 53 = .ok (.putfield 51, 3) := by decide +kernel
theorem dX0_begin_56 : decode cX0_begin 56 = .ok (.aload_n 0, 1) := by decide +kernel
theorem dX0_begin_57 : decode cX0_begin 57 = .ok (.lconst 0, 1) := by decide +kernel
theorem dX0_begin_58 : decode cX0_begin 58 = .ok (.putfield 54, 3) := by decide +kernel
theorem dX0_begin_61 : decode cX0_begin 61 = .ok (.aload_n 0, 1) := by decide +kernel
theorem dX0_begin_62 : decode cX0_begin 62 = .ok (.invokevirtual 57, 3) := by decide +kernel
theorem dX0_begin_65 : decode cX0_begin 65 = .ok (.aload_n 0, 1) := by decide +kernel
theorem dX0_begin_66 : decode cX0_begin 66 = .ok (.invokevirtual 60, 3) := by decide +kernel
theorem dX0_begin_69 : decode cX0_begin 69 = .ok (.return_, 1) := by decide +kernel
theorem dX0_beginDay_0 : decode cX0_beginDay 0 = .ok (.aload_n 0, 1) := by decide +kernel
theorem dX0_beginDay_1 : decode cX0_beginDay 1 = .ok (.bipush (-6), 2) := by decide +kernel
theorem dX0_beginDay_3 : decode cX0_beginDay 3 = .ok (.putfield 63, 3) := by decide +kernel
theorem dX0_beginDay_6 : decode cX0_beginDay 6 = .ok (.aload_n 0, 1) := by decide +kernel
theorem dX0_beginDay_7 : decode cX0_beginDay 7 = .ok (.bipush (-6), 2) := by decide +kernel
theorem dX0_beginDay_9 : decode cX0_beginDay 9 = .ok (.putfield 66, 3) := by decide +kernel
theorem dX0_beginDay_12 : decode cX0_beginDay 12 = .ok (.aload_n 0, 1) := by decide +kernel
theorem dX0_beginDay_13 : decode cX0_beginDay 13 = .ok (.iconst 0, 1) := by decide +kernel
theorem dX0_beginDay_14 : decode cX0_beginDay 14 = .ok (.putfield 69, 3) := by decide +kernel
theorem dX0_beginDay_17 : decode cX0_beginDay 17 = .ok (.aload_n 0, 1) := by decide +kernel
theorem dX0_beginDay_18 : decode cX0_beginDay 18 = .ok (.bipush (-6), 2) := by decide +kernel
theorem dX0_beginDay_20 : decode cX0_beginDay 20 = .ok (.putfield 72, 3) := by decide +kernel
theorem dX0_beginDay_23 : decode cX0_beginDay 23 = .ok (.return_, 1) := by decide +kernel
theorem dX0_copyFrom_0 : decode cX0_copyFrom 0 = .ok (.aload_n 0, 1) := by decide +kernel
theorem dX0_copyFrom_1 : decode cX0_copyFrom 1 = .ok (.aload_n 1, 1) := by decide +kernel
theorem dX0_copyFrom_2 : decode cX0_copyFrom 2 = .ok (.getfield 18, 3) := by decide +kernel
theorem dX0_copyFrom_5 : decode cX0_copyFrom 5 = .ok (.putfield 18, 3) := by decide +kernel
theorem dX0_copyFrom_8 : decode cX0_copyFrom 8 = .ok (.aload_n 0, 1) := by decide +kernel
theorem dX0_copyFrom_9 : decode cX0_copyFrom 9 = .ok (.aload_n 1, 1) := by decide +kernel
theorem dX0_copyFrom_10 : decode cX0_copyFrom 10 = .ok (.getfield 22, 3) := by decide +kernel
theorem dX0_copyFrom_13 : decode cX0_copyFrom 13 = .ok (.putfield 22, 3) := by decide +kernel
theorem dX0_copyFrom_16 : decode cX0_copyFrom 16 = .ok (.aload_n 0, 1) := by decide +kernel
theorem dX0_copyFrom_17 : decode cX0_copyFrom 17 = .ok (.aload_n 1, 1) := by decide +kernel
theorem dX0_copyFrom_18 : decode cX0_copyFrom 18 = .ok (.getfield 28, 3) := by decide +kernel
theorem dX0_copyFrom_21 : decode cX0_copyFrom 21 = .ok (.putfield 28, 3) := by decide +kernel
theorem dX0_copyFrom_24 : decode cX0_copyFrom 24 = .ok (.aload_n 0, 1) := by decide +kernel
theorem dX0_copyFrom_25 : decode cX0_copyFrom 25 = .ok (.aload_n 1, 1) := by decide +kernel
theorem dX0_copyFrom_26 : decode cX0_copyFrom 26 = .ok (.getfield 31, 3) := by decide +kernel
theorem dX0_copyFrom_29 : decode cX0_copyFrom 29 = .ok (.putfield 31, 3) := by decide +kernel
theorem dX0_copyFrom_32 : decode cX0_copyFrom 32 = .ok (.aload_n 0, 1) := by decide +kernel
theorem dX0_copyFrom_33 : decode cX0_copyFrom 33 = .ok (.aload_n 1, 1) := by decide +kernel
theorem dX0_copyFrom_34 : decode cX0_copyFrom 34 = .ok (.getfield 25, 3) := by decide +kernel
theorem dX0_copyFrom_37 : decode cX0_copyFrom 37 = .ok (.putfield 25, 3) := by decide +kernel
theorem dX0_copyFrom_40 : decode cX0_copyFrom 40 = .ok (.aload_n 0, 1) := by decide +kernel
theorem dX0_copyFrom_41 : decode cX0_copyFrom 41 = .ok (.aload_n 1, 1) := by decide +kernel
theorem dX0_copyFrom_42 : decode cX0_copyFrom 42 = .ok (.getfield 34, 3) := by decide +kernel
theorem dX0_copyFrom_45 : decode cX0_copyFrom 45 = .ok (.putfield 34, 3) := by decide +kernel
theorem dX0_copyFrom_48 : decode cX0_copyFrom 48 = .ok (.aload_n 0, 1) := by decide +kernel
theorem dX0_copyFrom_49 : decode cX0_copyFrom 49 = .ok (.aload_n 1, 1) := by decide +kernel
theorem dX0_copyFrom_50 : decode cX0_copyFrom 50 = .ok (.getfield 38, 3) := by decide +kernel
theorem dX0_copyFrom_53 : decode cX0_copyFrom 53 = .ok (.putfield 38, 3) := by decide +kernel
theorem dX0_copyFrom_56 : decode cX0_copyFrom 56 = .ok (.aload_n 0, 1) := by decide +kernel
theorem dX0_copyFrom_57 : decode cX0_copyFrom 57 = .ok (.aload_n 1, 1) := by decide +kernel
theorem dX0_copyFrom_58 : decode cX0_copyFrom 58 = .ok (.getfield 41, 3) := by decide +kernel
theorem dX0_copyFrom_61 : decode cX0_copyFrom 61 = .ok (.putfield 41, 3) := by decide +kernel
theorem dX0_copyFrom_64 : decode cX0_copyFrom 64 = .ok (.aload_n 0, 1) := by decide +kernel
theorem dX0_copyFrom_65 : decode cX0_copyFrom 65 = .ok (.aload_n 1, 1) := by decide +kernel
theorem dX0_copyFrom_66 : decode cX0_copyFrom 66 = .ok (.getfield 63, 3) := by decide +kernel
theorem dX0_copyFrom_69 : decode cX0_copyFrom 69 = .ok (.putfield 63, 3) := by decide +kernel
theorem dX0_copyFrom_72 : decode cX0_copyFrom 72 = .ok (.aload_n 0, 1) := by decide +kernel
theorem dX0_copyFrom_73 : decode cX0_copyFrom 73 = .ok (.aload_n 1, 1) := by decide +kernel
theorem dX0_copyFrom_74 : decode cX0_copyFrom 74 = .ok (.getfield 66, 3) := by decide +kernel
theorem dX0_copyFrom_77 : decode cX0_copyFrom 77 = .ok (.putfield 66, 3) := by decide +kernel
theorem dX0_copyFrom_80 : decode cX0_copyFrom 80 = .ok (.aload_n 0, 1) := by decide +kernel
theorem dX0_copyFrom_81 : decode cX0_copyFrom 81 = .ok (.aload_n 1, 1) := by decide +kernel
theorem dX0_copyFrom_82 : decode cX0_copyFrom 82 = .ok (.getfield 69, 3) := by decide +kernel
theorem dX0_copyFrom_85 : decode cX0_copyFrom 85 = .ok (.putfield 69, 3) := by decide +kernel
theorem dX0_copyFrom_88 : decode cX0_copyFrom 88 = .ok (.aload_n 0, 1) := by decide +kernel
theorem dX0_copyFrom_89 : decode cX0_copyFrom 89 = .ok (.aload_n 1, 1) := by decide +kernel
theorem dX0_copyFrom_90 : decode cX0_copyFrom 90 = .ok (.getfield 72, 3) := by decide +kernel
theorem dX0_copyFrom_93 : decode cX0_copyFrom 93 = .ok (.putfield 72, 3) := by decide +kernel
theorem dX0_copyFrom_96 : decode cX0_copyFrom 96 = .ok (.aload_n 0, 1) := by decide +kernel
theorem dX0_copyFrom_97 : decode cX0_copyFrom 97 = .ok (.aload_n 1, 1) := by decide +kernel
theorem dX0_copyFrom_98 : decode cX0_copyFrom 98 = .ok (.getfield 44, 3) := by decide +kernel
theorem dX0_copyFrom_101 : decode cX0_copyFrom 101 = .ok (.putfield 44, 3) := by decide +kernel
theorem dX0_copyFrom_104 : decode cX0_copyFrom 104 = .ok (.aload_n 0, 1) := by decide +kernel
theorem dX0_copyFrom_105 : decode cX0_copyFrom 105 = .ok (.aload_n 1, 1) := by decide +kernel
theorem dX0_copyFrom_106 : decode cX0_copyFrom 106 = .ok (.getfield 48, 3) := by decide +kernel
theorem dX0_copyFrom_109 : decode cX0_copyFrom 109 = .ok (.putfield 48, 3) := by decide +kernel
theorem dX0_copyFrom_112 : decode cX0_copyFrom 112 = .ok (.aload_n 0, 1) := by decide +kernel
theorem dX0_copyFrom_113 : decode cX0_copyFrom 113 = .ok (.aload_n 1, 1) := by decide +kernel
theorem dX0_copyFrom_114 : decode cX0_copyFrom 114 = .ok (.getfield 51, 3) := by decide +kernel
theorem dX0_copyFrom_117 : decode cX0_copyFrom 117 = .ok (.putfield 51, 3) := by decide +kernel
theorem dX0_copyFrom_120 : decode cX0_copyFrom 120 = .ok (.aload_n 0, 1) := by decide +kernel
theorem dX0_copyFrom_121 : decode cX0_copyFrom 121 = .ok (.aload_n 1, 1) := by decide +kernel
theorem dX0_copyFrom_122 : decode cX0_copyFrom 122 = .ok (.getfield 54, 3) := by decide +kernel
theorem dX0_copyFrom_125 : decode cX0_copyFrom 125 = .ok (.putfield 54, 3) := by decide +kernel
theorem dX0_copyFrom_128 : decode cX0_copyFrom 128 = .ok (.aload_n 1, 1) := by decide +kernel
theorem dX0_copyFrom_129 : decode cX0_copyFrom 129 = .ok (.getfield 9, 3) := by decide +kernel
theorem dX0_copyFrom_132 : decode cX0_copyFrom 132 = .ok (.iconst 0, 1) := by decide +kernel
theorem dX0_copyFrom_133 : decode cX0_copyFrom 133 = .ok (.aload_n 0, 1) := by decide +kernel
theorem dX0_copyFrom_134 : decode cX0_copyFrom 134 = .ok (.getfield 9, 3) := by decide +kernel
theorem dX0_copyFrom_137 : decode cX0_copyFrom 137 = .ok (.iconst 0, 1) := by decide +kernel
theorem dX0_copyFrom_138 : decode cX0_copyFrom 138 = .ok (.iconst 3, 1) := by decide +kernel
theorem dX0_copyFrom_139 : decode cX0_copyFrom 139 = .ok (.invokestatic 75, 3) := by decide +kernel
theorem dX0_copyFrom_142 : decode cX0_copyFrom 142 = .ok (.aload_n 1, 1) := by decide +kernel
theorem dX0_copyFrom_143 : decode cX0_copyFrom 143 = .ok (.getfield 15, 3) := by decide +kernel
theorem dX0_copyFrom_146 : decode cX0_copyFrom 146 = .ok (.iconst 0, 1) := by decide +kernel
theorem dX0_copyFrom_147 : decode cX0_copyFrom 147 = .ok (.aload_n 0, 1) := by decide +kernel
theorem dX0_copyFrom_148 : decode cX0_copyFrom 148 = .ok (.getfield 15, 3) := by decide +kernel
theorem dX0_copyFrom_151 : decode cX0_copyFrom 151 = .ok (.iconst 0, 1) := by decide +kernel
theorem dX0_copyFrom_152 : decode cX0_copyFrom 152 = .ok (.sipush 200, 3) := by decide +kernel
theorem dX0_copyFrom_155 : decode cX0_copyFrom 155 = .ok (.invokestatic 75, 3) := by decide +kernel
theorem dX0_copyFrom_158 : decode cX0_copyFrom 158 = .ok (.return_, 1) := by decide +kernel
theorem dX0_balance_0 : decode cX0_balance 0 = .ok (.aload_n 0, 1) := by decide +kernel
theorem dX0_balance_1 : decode cX0_balance 1 = .ok (.getfield 44, 3) := by decide +kernel
theorem dX0_balance_4 : decode cX0_balance 4 = .ok (.aload_n 0, 1) := by decide +kernel
theorem dX0_balance_5 : decode cX0_balance 5 = .ok (.getfield 48, 3) := by decide +kernel
theorem dX0_balance_8 : decode cX0_balance 8 = .ok (.lsub, 1) := by decide +kernel
theorem dX0_balance_9 : decode cX0_balance 9 = .ok (.aload_n 0, 1) := by decide +kernel
theorem dX0_balance_10 : decode cX0_balance 10 = .ok (.getfield 51, 3) := by decide +kernel
theorem dX0_balance_13 : decode cX0_balance 13 = .ok (.lsub, 1) := by decide +kernel
theorem dX0_balance_14 : decode cX0_balance 14 = .ok (.aload_n 0, 1) := by decide +kernel
theorem dX0_balance_15 : decode cX0_balance 15 = .ok (.getfield 54, 3) := by decide +kernel
theorem dX0_balance_18 : decode cX0_balance 18 = .ok (.lsub, 1) := by decide +kernel
theorem dX0_balance_19 : decode cX0_balance 19 = .ok (.lreturn, 1) := by decide +kernel
theorem dX0_wishAt_0 : decode cX0_wishAt 0 = .ok (.iload_n 1, 1) := by decide +kernel
theorem dX0_wishAt_1 : decode cX0_wishAt 1 = .ok (.ifCond .lt 25, 3) := by decide +kernel
theorem dX0_wishAt_4 : decode cX0_wishAt 4 = .ok (.iload_n 1, 1) := by decide +kernel
theorem dX0_wishAt_5 : decode cX0_wishAt 5 = .ok (.aload_n 0, 1) := by decide +kernel
theorem dX0_wishAt_6 : decode cX0_wishAt 6 = .ok (.getfield 28, 3) := by decide +kernel
theorem dX0_wishAt_9 : decode cX0_wishAt 9 = .ok (.if_icmp .ge 17, 3) := by decide +kernel
theorem dX0_wishAt_12 : decode cX0_wishAt 12 = .ok (.iload_n 1, 1) := by decide +kernel
theorem dX0_wishAt_13 : decode cX0_wishAt 13 = .ok (.iconst 3, 1) := by decide +kernel
theorem dX0_wishAt_14 : decode cX0_wishAt 14 = .ok (.if_icmp .ge 12, 3) := by decide +kernel
theorem dX0_wishAt_17 : decode cX0_wishAt 17 = .ok (.aload_n 0, 1) := by decide +kernel
theorem dX0_wishAt_18 : decode cX0_wishAt 18 = .ok (.getfield 9, 3) := by decide +kernel
theorem dX0_wishAt_21 : decode cX0_wishAt 21 = .ok (.iload_n 1, 1) := by decide +kernel
theorem dX0_wishAt_22 : decode cX0_wishAt 22 = .ok (.iaload, 1) := by decide +kernel
theorem dX0_wishAt_23 : decode cX0_wishAt 23 = .ok (.goto 5, 3) := by decide +kernel
theorem dX0_wishAt_26 : decode cX0_wishAt 26 = .ok (.bipush (-6), 2) := by decide +kernel
theorem dX0_wishAt_28 : decode cX0_wishAt 28 = .ok (.ireturn, 1) := by decide +kernel
theorem dX0_addPoints_0 : decode cX0_addPoints 0 = .ok (.iload_n 1, 1) := by decide +kernel
theorem dX0_addPoints_1 : decode cX0_addPoints 1 = .ok (.sipush 200, 3) := by decide +kernel
theorem dX0_addPoints_4 : decode cX0_addPoints 4 = .ok (.irem, 1) := by decide +kernel
theorem dX0_addPoints_5 : decode cX0_addPoints 5 = .ok (.istore_n 3, 1) := by decide +kernel
theorem dX0_addPoints_6 : decode cX0_addPoints 6 = .ok (.iload_n 3, 1) := by decide +kernel
theorem dX0_addPoints_7 : decode cX0_addPoints 7 = .ok (.ifCond .lt 13, 3) := by decide +kernel
theorem dX0_addPoints_10 : decode cX0_addPoints 10 = .ok (.aload_n 0, 1) := by decide +kernel
theorem dX0_addPoints_11 : decode cX0_addPoints 11 = .ok (.getfield 15, 3) := by decide +kernel
theorem dX0_addPoints_14 : decode cX0_addPoints 14 = .ok (.iload_n 3, 1) := by decide +kernel
theorem dX0_addPoints_15 : decode cX0_addPoints 15 = .ok (.dup2, 1) := by decide +kernel
theorem dX0_addPoints_16 : decode cX0_addPoints 16 = .ok (.iaload, 1) := by decide +kernel
theorem dX0_addPoints_17 : decode cX0_addPoints 17 = .ok (.iload_n 2, 1) := by decide +kernel
theorem dX0_addPoints_18 : decode cX0_addPoints 18 = .ok (.iadd, 1) := by decide +kernel
theorem dX0_addPoints_19 : decode cX0_addPoints 19 = .ok (.iastore, 1) := by decide +kernel
theorem dX0_addPoints_20 : decode cX0_addPoints 20 = .ok (.return_, 1) := by decide +kernel
theorem dX0_dropPointsOfSameSpot_0 : decode cX0_dropPointsOfSameSpot 0 = .ok (.iload_n 1, 1) := by decide +kernel
theorem dX0_dropPointsOfSameSpot_1 : decode cX0_dropPointsOfSameSpot 1 = .ok (.sipush 200, 3) := by decide +kernel
theorem dX0_dropPointsOfSameSpot_4 : decode cX0_dropPointsOfSameSpot 4 = .ok (.irem, 1) := by decide +kernel
theorem dX0_dropPointsOfSameSpot_5 : decode cX0_dropPointsOfSameSpot 5 = .ok (.istore_n 2, 1) := by decide +kernel
theorem dX0_dropPointsOfSameSpot_6 : decode cX0_dropPointsOfSameSpot 6 = .ok (.iload_n 2, 1) := by decide +kernel
theorem dX0_dropPointsOfSameSpot_7 : decode cX0_dropPointsOfSameSpot 7 = .ok (.ifCond .lt 10, 3) := by decide +kernel
theorem dX0_dropPointsOfSameSpot_10 : decode cX0_dropPointsOfSameSpot 10 = .ok (.aload_n 0, 1) := by decide +kernel
theorem dX0_dropPointsOfSameSpot_11 : decode cX0_dropPointsOfSameSpot 11 = .ok (.getfield 15, 3) := by decide +kernel
theorem dX0_dropPointsOfSameSpot_14 : decode cX0_dropPointsOfSameSpot 14 = .ok (.iload_n 2, 1) := by decide +kernel
theorem dX0_dropPointsOfSameSpot_15 : decode cX0_dropPointsOfSameSpot 15 = .ok (.iconst 0, 1) := by decide +kernel
theorem dX0_dropPointsOfSameSpot_16 : decode cX0_dropPointsOfSameSpot 16 = .ok (.iastore, 1) := by decide +kernel
theorem dX0_dropPointsOfSameSpot_17 : decode cX0_dropPointsOfSameSpot 17 = .ok (.return_, 1) := by decide +kernel
theorem dX0_dropAllPoints_0 : decode cX0_dropAllPoints 0 = .ok (.iconst 0, 1) := by decide +kernel
theorem dX0_dropAllPoints_1 : decode cX0_dropAllPoints 1 = .ok (.istore_n 1, 1) := by decide +kernel
theorem dX0_dropAllPoints_2 : decode cX0_dropAllPoints 2 = .ok (.iload_n 1, 1) := by decide +kernel
theorem dX0_dropAllPoints_3 : decode cX0_dropAllPoints 3 = .ok (.sipush 200, 3) := by decide +kernel
theorem dX0_dropAllPoints_6 : decode cX0_dropAllPoints 6 = .ok (.if_icmp .ge 16, 3) := by decide +kernel
theorem dX0_dropAllPoints_9 : decode cX0_dropAllPoints 9 = .ok (.aload_n 0, 1) := by decide +kernel
theorem dX0_dropAllPoints_10 : decode cX0_dropAllPoints 10 = .ok (.getfield 15, 3) := by decide +kernel
theorem dX0_dropAllPoints_13 : decode cX0_dropAllPoints 13 = .ok (.iload_n 1, 1) := by decide +kernel
theorem dX0_dropAllPoints_14 : decode cX0_dropAllPoints 14 = .ok (.iconst 0, 1) := by decide +kernel
theorem dX0_dropAllPoints_15 : decode cX0_dropAllPoints 15 = .ok (.iastore, 1) := by decide +kernel
theorem dX0_dropAllPoints_16 : decode cX0_dropAllPoints 16 = .ok (.iinc 1 1, 3) := by decide +kernel
theorem dX0_dropAllPoints_19 : decode cX0_dropAllPoints 19 = .ok (.goto (-17), 3) := by decide +kernel
theorem dX0_dropAllPoints_22 : decode cX0_dropAllPoints 22 = .ok (.return_, 1) := by decide +kernel
theorem dX0_pointsLeft_0 : decode cX0_pointsLeft 0 = .ok (.iconst 0, 1) := by decide +kernel
theorem dX0_pointsLeft_1 : decode cX0_pointsLeft 1 = .ok (.istore 4, 2) := by decide +kernel
theorem dX0_pointsLeft_3 : decode cX0_pointsLeft 3 = .ok (.iconst 0, 1) := by decide +kernel
theorem dX0_pointsLeft_4 : decode cX0_pointsLeft 4 = .ok (.istore 5, 2) := by decide +kernel
theorem dX0_pointsLeft_6 : decode cX0_pointsLeft 6 = .ok (.iload 5, 2) := by decide +kernel
theorem dX0_pointsLeft_8 : decode cX0_pointsLeft 8 = .ok (.iload_n 3, 1) := by decide +kernel
theorem dX0_pointsLeft_9 : decode cX0_pointsLeft 9 = .ok (.if_icmp .ge 50, 3) := by decide +kernel
theorem dX0_pointsLeft_12 : decode cX0_pointsLeft 12 = .ok (.iload 5, 2) := by decide +kernel
theorem dX0_pointsLeft_14 : decode cX0_pointsLeft 14 = .ok (.sipush 200, 3) := by decide +kernel
theorem dX0_pointsLeft_17 : decode cX0_pointsLeft 17 = .ok (.if_icmp .ge 42, 3) := by decide +kernel
theorem dX0_pointsLeft_20 : decode cX0_pointsLeft 20 = .ok (.iload_n 1, 1) := by decide +kernel
theorem dX0_pointsLeft_21 : decode cX0_pointsLeft 21 = .ok (.iload 5, 2) := by decide +kernel
theorem dX0_pointsLeft_23 : decode cX0_pointsLeft 23 = .ok (.isub, 1) := by decide +kernel
theorem dX0_pointsLeft_24 : decode cX0_pointsLeft 24 = .ok (.istore 6, 2) := by decide +kernel
theorem dX0_pointsLeft_26 : decode cX0_pointsLeft 26 = .ok (.iload 6, 2) := by decide +kernel
theorem dX0_pointsLeft_28 : decode cX0_pointsLeft 28 = .ok (.ifCond .lt 25, 3) := by decide +kernel
theorem dX0_pointsLeft_31 : decode cX0_pointsLeft 31 = .ok (.iload 6, 2) := by decide +kernel
theorem dX0_pointsLeft_33 : decode cX0_pointsLeft 33 = .ok (.iload_n 2, 1) := by decide +kernel
theorem dX0_pointsLeft_34 : decode cX0_pointsLeft 34 = .ok (.if_icmp .gt 19, 3) := by decide +kernel
theorem dX0_pointsLeft_37 : decode cX0_pointsLeft 37 = .ok (.iload 4, 2) := by decide +kernel
theorem dX0_pointsLeft_39 : decode cX0_pointsLeft 39 = .ok (.aload_n 0, 1) := by decide +kernel
theorem dX0_pointsLeft_40 : decode cX0_pointsLeft 40 = .ok (.getfield 15, 3) := by decide +kernel
theorem dX0_pointsLeft_43 : decode cX0_pointsLeft 43 = .ok (.iload 6, 2) := by decide +kernel
theorem dX0_pointsLeft_45 : decode cX0_pointsLeft 45 = .ok (.sipush 200, 3) := by decide +kernel
theorem dX0_pointsLeft_48 : decode cX0_pointsLeft 48 = .ok (.irem, 1) := by decide +kernel
theorem dX0_pointsLeft_49 : decode cX0_pointsLeft 49 = .ok (.iaload, 1) := by decide +kernel
theorem dX0_pointsLeft_50 : decode cX0_pointsLeft 50 = .ok (.iadd, 1) := by decide +kernel
theorem dX0_pointsLeft_51 : decode cX0_pointsLeft 51 = .ok (.istore 4, 2) := by decide +kernel
theorem dX0_pointsLeft_53 : decode cX0_pointsLeft 53 = .ok (.iinc 5 1, 3) := by decide +kernel
theorem dX0_pointsLeft_56 : decode cX0_pointsLeft 56 = .ok (.goto (-50), 3) := by decide +kernel
theorem dX0_pointsLeft_59 : decode cX0_pointsLeft 59 = .ok (.iload 4, 2) := by decide +kernel
theorem dX0_pointsLeft_61 : decode cX0_pointsLeft 61 = .ok (.ireturn, 1) := by decide +kernel
theorem dX0_reasonBeforeLots_0 : decode cX0_reasonBeforeLots 0 = .ok (.aload_n 0, 1) := by decide +kernel
theorem dX0_reasonBeforeLots_1 : decode cX0_reasonBeforeLots 1 = .ok (.getfield 28, 3) := by decide +kernel
theorem dX0_reasonBeforeLots_4 : decode cX0_reasonBeforeLots 4 = .ok (.ifCond .ne 5, 3) := by decide +kernel
theorem dX0_reasonBeforeLots_7 : decode cX0_reasonBeforeLots 7 = .ok (.iconst 1, 1) := by decide +kernel
theorem dX0_reasonBeforeLots_8 : decode cX0_reasonBeforeLots 8 = .ok (.ireturn, 1) := by decide +kernel
theorem dX0_reasonBeforeLots_9 : decode cX0_reasonBeforeLots 9 = .ok (.aload_n 0, 1) := by decide +kernel
theorem dX0_reasonBeforeLots_10 : decode cX0_reasonBeforeLots 10 = .ok (.getfield 25, 3) := by decide +kernel
theorem dX0_reasonBeforeLots_13 : decode cX0_reasonBeforeLots 13 = .ok (.iload_n 1, 1) := by decide +kernel
theorem dX0_reasonBeforeLots_14 : decode cX0_reasonBeforeLots 14 = .ok (.if_icmp .ge 5, 3) := by decide +kernel
theorem dX0_reasonBeforeLots_17 : decode cX0_reasonBeforeLots 17 = .ok (.iconst 2, 1) := by decide +kernel
theorem dX0_reasonBeforeLots_18 : decode cX0_reasonBeforeLots 18 = .ok (.ireturn, 1) := by decide +kernel
theorem dX0_reasonBeforeLots_19 : decode cX0_reasonBeforeLots 19 = .ok (.aload_n 0, 1) := by decide +kernel
theorem dX0_reasonBeforeLots_20 : decode cX0_reasonBeforeLots 20 = .ok (.getfield 38, 3) := by decide +kernel
theorem dX0_reasonBeforeLots_23 : decode cX0_reasonBeforeLots 23 = .ok (.iload_n 1, 1) := by decide +kernel
theorem dX0_reasonBeforeLots_24 : decode cX0_reasonBeforeLots 24 = .ok (.if_icmp .lt 7, 3) := by decide +kernel
theorem dX0_reasonBeforeLots_27 : decode cX0_reasonBeforeLots 27 = .ok (.iconst 3, 1) := by decide +kernel
theorem dX0_reasonBeforeLots_28 : decode cX0_reasonBeforeLots 28 = .ok (.goto 4, 3) := by decide +kernel
theorem dX0_reasonBeforeLots_31 : decode cX0_reasonBeforeLots 31 = .ok (.iconst 4, 1) := by decide +kernel
theorem dX0_reasonBeforeLots_32 : decode cX0_reasonBeforeLots 32 = .ok (.ireturn, 1) := by decide +kernel
theorem dX1_runChecks_0 : decode cX1_runChecks 0 = .ok (.iconst 0, 1) := by decide +kernel
theorem dX1_runChecks_1 : decode cX1_runChecks 1 = .ok (.istore_n 1, 1) := by decide +kernel
theorem dX1_runChecks_2 : decode cX1_runChecks 2 = .ok (.iload_n 1, 1) := by decide +kernel
theorem dX1_runChecks_3 : decode cX1_runChecks 3 = .ok (.aload_n 0, 1) := by decide +kernel
theorem dX1_runChecks_4 : decode cX1_runChecks 4 = .ok (.getfield 9, 3) := by decide +kernel
theorem dX1_runChecks_7 : decode cX1_runChecks 7 = .ok (.iconst 2, 1) := by decide +kernel
theorem dX1_runChecks_8 : decode cX1_runChecks 8 = .ok (.iaload, 1) := by decide +kernel
theorem dX1_runChecks_9 : decode cX1_runChecks 9 = .ok (.if_icmp .ge 39, 3) := by decide +kernel
theorem dX1_runChecks_12 : decode cX1_runChecks 12 = .ok (.aload_n 0, 1) := by decide +kernel
theorem dX1_runChecks_13 : decode cX1_runChecks 13 = .ok (.invokestatic 15, 3) := by decide +kernel
theorem dX1_runChecks_16 : decode cX1_runChecks 16 = .ok (.astore_n 2, 1) := by decide +kernel
theorem dX1_runChecks_17 : decode cX1_runChecks 17 = .ok (.aload_n 2, 1) := by decide +kernel
theorem dX1_runChecks_18 : decode cX1_runChecks 18 = .ok (.ifnonnull 4, 3) := by decide +kernel
theorem dX1_runChecks_21 : decode cX1_runChecks 21 = .ok (.return_, 1) := by decide +kernel
theorem dX1_runChecks_22 : decode cX1_runChecks 22 = .ok (.aload_n 2, 1) := by decide +kernel
theorem dX1_runChecks_23 : decode cX1_runChecks 23 = .ok (.aload_n 0, 1) := by decide +kernel
theorem dX1_runChecks_24 : decode cX1_runChecks 24 = .ok (.getfield 21, 3) := by decide +kernel
theorem dX1_runChecks_27 : decode cX1_runChecks 27 = .ok (.aload_n 0, 1) := by decide +kernel
theorem dX1_runChecks_28 : decode cX1_runChecks 28 = .ok (.getfield 9, 3) := by decide +kernel
theorem dX1_runChecks_31 : decode cX1_runChecks 31 = .ok (.iconst 1, 1) := by decide +kernel
theorem dX1_runChecks_32 : decode cX1_runChecks 32 = .ok (.iaload, 1) := by decide +kernel
theorem dX1_runChecks_33 : decode cX1_runChecks 33 = .ok (.iadd, 1) := by decide +kernel
theorem dX1_runChecks_34 : decode cX1_runChecks 34 = .ok (.putfield 25, 3) := by decide +kernel
theorem dX1_runChecks_37 : decode cX1_runChecks 37 = .ok (.aload_n 2, 1) := by decide +kernel
theorem dX1_runChecks_38 : decode cX1_runChecks 38 = .ok (.iconst 0, 1) := by decide +kernel
theorem dX1_runChecks_39 : decode cX1_runChecks 39 = .ok (.putfield 30, 3) := by decide +kernel
theorem dX1_runChecks_42 : decode cX1_runChecks 42 = .ok (.iinc 1 1, 3) := by decide +kernel
theorem dX1_runChecks_45 : decode cX1_runChecks 45 = .ok (.goto (-43), 3) := by decide +kernel
theorem dX1_runChecks_48 : decode cX1_runChecks 48 = .ok (.return_, 1) := by decide +kernel
theorem dX1_nextToCheck_0 : decode cX1_nextToCheck 0 = .ok (.aconst_null, 1) := by decide +kernel
theorem dX1_nextToCheck_1 : decode cX1_nextToCheck 1 = .ok (.astore_n 1, 1) := by decide +kernel
theorem dX1_nextToCheck_2 : decode cX1_nextToCheck 2 = .ok (.iconst 0, 1) := by decide +kernel
theorem dX1_nextToCheck_3 : decode cX1_nextToCheck 3 = .ok (.istore_n 2, 1) := by decide +kernel
theorem dX1_nextToCheck_4 : decode cX1_nextToCheck 4 = .ok (.iload_n 2, 1) := by decide +kernel
theorem dX1_nextToCheck_5 : decode cX1_nextToCheck 5 = .ok (.aload_n 0, 1) := by decide +kernel
theorem dX1_nextToCheck_6 : decode cX1_nextToCheck 6 = .ok (.getfield 34, 3) := by decide +kernel
theorem dX1_nextToCheck_9 : decode cX1_nextToCheck 9 = .ok (.if_icmp .ge 40, 3) := by decide +kernel
theorem dX1_nextToCheck_12 : decode cX1_nextToCheck 12 = .ok (.aload_n 0, 1) := by decide +kernel
theorem dX1_nextToCheck_13 : decode cX1_nextToCheck 13 = .ok (.getfield 37, 3) := by decide +kernel
theorem dX1_nextToCheck_16 : decode cX1_nextToCheck 16 = .ok (.iload_n 2, 1) := by decide +kernel
theorem dX1_nextToCheck_17 : decode cX1_nextToCheck 17 = .ok (.aaload, 1) := by decide +kernel
theorem dX1_nextToCheck_18 : decode cX1_nextToCheck 18 = .ok (.astore_n 3, 1) := by decide +kernel
theorem dX1_nextToCheck_19 : decode cX1_nextToCheck 19 = .ok (.aload_n 3, 1) := by decide +kernel
theorem dX1_nextToCheck_20 : decode cX1_nextToCheck 20 = .ok (.getfield 30, 3) := by decide +kernel
theorem dX1_nextToCheck_23 : decode cX1_nextToCheck 23 = .ok (.ifCond .eq 20, 3) := by decide +kernel
theorem dX1_nextToCheck_26 : decode cX1_nextToCheck 26 = .ok (.aload_n 1, 1) := by decide +kernel
theorem dX1_nextToCheck_27 : decode cX1_nextToCheck 27 = .ok (.ifnull 14, 3) := by decide +kernel
theorem dX1_nextToCheck_30 : decode cX1_nextToCheck 30 = .ok (.aload_n 3, 1) := by decide +kernel
theorem dX1_nextToCheck_31 : decode cX1_nextToCheck 31 = .ok (.getfield 25, 3) := by decide +kernel
theorem dX1_nextToCheck_34 : decode cX1_nextToCheck 34 = .ok (.aload_n 1, 1) := by decide +kernel
theorem dX1_nextToCheck_35 : decode cX1_nextToCheck 35 = .ok (.getfield 25, 3) := by decide +kernel
theorem dX1_nextToCheck_38 : decode cX1_nextToCheck 38 = .ok (.if_icmp .ge 5, 3) := by decide +kernel
theorem dX1_nextToCheck_41 : decode cX1_nextToCheck 41 = .ok (.aload_n 3, 1) := by decide +kernel
theorem dX1_nextToCheck_42 : decode cX1_nextToCheck 42 = .ok (.astore_n 1, 1) := by decide +kernel
theorem dX1_nextToCheck_43 : decode cX1_nextToCheck 43 = .ok (.iinc 2 1, 3) := by decide +kernel
theorem dX1_nextToCheck_46 : decode cX1_nextToCheck 46 = .ok (.goto (-42), 3) := by decide +kernel
theorem dX1_nextToCheck_49 : decode cX1_nextToCheck 49 = .ok (.aload_n 1, 1) := by decide +kernel
theorem dX1_nextToCheck_50 : decode cX1_nextToCheck 50 = .ok (.areturn, 1) := by decide +kernel
theorem dX1_clearLastDay_0 : decode cX1_clearLastDay 0 = .ok (.iconst 0, 1) := by decide +kernel
theorem dX1_clearLastDay_1 : decode cX1_clearLastDay 1 = .ok (.istore_n 1, 1) := by decide +kernel
theorem dX1_clearLastDay_2 : decode cX1_clearLastDay 2 = .ok (.iload_n 1, 1) := by decide +kernel
theorem dX1_clearLastDay_3 : decode cX1_clearLastDay 3 = .ok (.aload_n 0, 1) := by decide +kernel
theorem dX1_clearLastDay_4 : decode cX1_clearLastDay 4 = .ok (.getfield 41, 3) := by decide +kernel
theorem dX1_clearLastDay_7 : decode cX1_clearLastDay 7 = .ok (.if_icmp .ge 20, 3) := by decide +kernel
theorem dX1_clearLastDay_10 : decode cX1_clearLastDay 10 = .ok (.aload_n 0, 1) := by decide +kernel
theorem dX1_clearLastDay_11 : decode cX1_clearLastDay 11 = .ok (.getfield 44, 3) := by decide +kernel
theorem dX1_clearLastDay_14 : decode cX1_clearLastDay 14 = .ok (.iload_n 1, 1) := by decide +kernel
theorem dX1_clearLastDay_15 : decode cX1_clearLastDay 15 = .ok (.aaload, 1) := by decide +kernel
theorem dX1_clearLastDay_16 : decode cX1_clearLastDay 16 = .ok (.bipush (-6), 2) := by decide +kernel
theorem dX1_clearLastDay_18 : decode cX1_clearLastDay 18 = .ok (.putfield 48, 3) := by decide +kernel
theorem dX1_clearLastDay_21 : decode cX1_clearLastDay 21 = .ok (.iinc 1 1, 3) := by decide +kernel
theorem dX1_clearLastDay_24 : decode cX1_clearLastDay 24 = .ok (.goto (-22), 3) := by decide +kernel
theorem dX1_clearLastDay_27 : decode cX1_clearLastDay 27 = .ok (.iconst 0, 1) := by decide +kernel
theorem dX1_clearLastDay_28 : decode cX1_clearLastDay 28 = .ok (.istore_n 1, 1) := by decide +kernel
theorem dX1_clearLastDay_29 : decode cX1_clearLastDay 29 = .ok (.iload_n 1, 1) := by decide +kernel
theorem dX1_clearLastDay_30 : decode cX1_clearLastDay 30 = .ok (.aload_n 0, 1) := by decide +kernel
theorem dX1_clearLastDay_31 : decode cX1_clearLastDay 31 = .ok (.getfield 34, 3) := by decide +kernel
theorem dX1_clearLastDay_34 : decode cX1_clearLastDay 34 = .ok (.if_icmp .ge 18, 3) := by decide +kernel
theorem dX1_clearLastDay_37 : decode cX1_clearLastDay 37 = .ok (.aload_n 0, 1) := by decide +kernel
theorem dX1_clearLastDay_38 : decode cX1_clearLastDay 38 = .ok (.getfield 37, 3) := by decide +kernel
theorem dX1_clearLastDay_41 : decode cX1_clearLastDay 41 = .ok (.iload_n 1, 1) := by decide +kernel
theorem dX1_clearLastDay_42 : decode cX1_clearLastDay 42 = .ok (.aaload, 1) := by decide +kernel
theorem dX1_clearLastDay_43 : decode cX1_clearLastDay 43 = .ok (.invokevirtual 53, 3) := by decide +kernel
theorem dX1_clearLastDay_46 : decode cX1_clearLastDay 46 = .ok (.iinc 1 1, 3) := by decide +kernel
theorem dX1_clearLastDay_49 : decode cX1_clearLastDay 49 = .ok (.goto (-20), 3) := by decide +kernel
theorem dX1_clearLastDay_52 : decode cX1_clearLastDay 52 = .ok (.return_, 1) := by decide +kernel
theorem dX1_drawLots_0 : decode cX1_drawLots 0 = .ok (.aload_n 0, 1) := by decide +kernel
theorem dX1_drawLots_1 : decode cX1_drawLots 1 = .ok (.invokestatic 56, 3) := by decide +kernel
theorem dX1_drawLots_4 : decode cX1_drawLots 4 = .ok (.istore_n 1, 1) := by decide +kernel
theorem dX1_drawLots_5 : decode cX1_drawLots 5 = .ok (.aload_n 0, 1) := by decide +kernel
theorem dX1_drawLots_6 : decode cX1_drawLots 6 = .ok (.iconst 0, 1) := by decide +kernel
theorem dX1_drawLots_7 : decode cX1_drawLots 7 = .ok (.putfield 60, 3) := by decide +kernel
theorem dX1_drawLots_10 : decode cX1_drawLots 10 = .ok (.iconst 0, 1) := by decide +kernel
theorem dX1_drawLots_11 : decode cX1_drawLots 11 = .ok (.istore_n 2, 1) := by decide +kernel
theorem dX1_drawLots_12 : decode cX1_drawLots 12 = .ok (.iload_n 1, 1) := by decide +kernel
theorem dX1_drawLots_13 : decode cX1_drawLots 13 = .ok (.ifCond .le 99, 3) := by decide +kernel
theorem dX1_drawLots_16 : decode cX1_drawLots 16 = .ok (.iload_n 2, 1) := by decide +kernel
theorem dX1_drawLots_17 : decode cX1_drawLots 17 = .ok (.aload_n 0, 1) := by decide +kernel
theorem dX1_drawLots_18 : decode cX1_drawLots 18 = .ok (.getfield 34, 3) := by decide +kernel
theorem dX1_drawLots_21 : decode cX1_drawLots 21 = .ok (.if_icmp .ge 91, 3) := by decide +kernel
theorem dX1_drawLots_24 : decode cX1_drawLots 24 = .ok (.aload_n 0, 1) := by decide +kernel
theorem dX1_drawLots_25 : decode cX1_drawLots 25 = .ok (.bipush 75, 2) := by decide +kernel
theorem dX1_drawLots_27 : decode cX1_drawLots 27 = .ok (.aload_n 0, 1) := by decide +kernel
theorem dX1_drawLots_28 : decode cX1_drawLots 28 = .ok (.getfield 63, 3) := by decide +kernel
theorem dX1_drawLots_31 : decode cX1_drawLots 31 = .ok (.imul, 1) := by decide +kernel
theorem dX1_drawLots_32 : decode cX1_drawLots 32 = .ok (.bipush 74, 2) := by decide +kernel
theorem dX1_drawLots_34 : decode cX1_drawLots 34 = .ok (.iadd, 1) := by decide +kernel
theorem dX1_drawLots_35 : decode cX1_drawLots 35 = .ok (.ldc 66, 2) := by decide +kernel
theorem dX1_drawLots_37 : decode cX1_drawLots 37 = .ok (.irem, 1) := by decide +kernel
theorem dX1_drawLots_38 : decode cX1_drawLots 38 = .ok (.putfield 63, 3) := by decide +kernel
theorem dX1_drawLots_41 : decode cX1_drawLots 41 = .ok (.aload_n 0, 1) := by decide +kernel
theorem dX1_drawLots_42 : decode cX1_drawLots 42 = .ok (.aload_n 0, 1) := by decide +kernel
theorem dX1_drawLots_43 : decode cX1_drawLots 43 = .ok (.getfield 63, 3) := by decide +kernel
theorem dX1_drawLots_46 : decode cX1_drawLots 46 = .ok (.iload_n 1, 1) := by decide +kernel
theorem dX1_drawLots_47 : decode cX1_drawLots 47 = .ok (.irem, 1) := by decide +kernel
theorem dX1_drawLots_48 : decode cX1_drawLots 48 = .ok (.invokestatic 67, 3) := by decide +kernel
theorem dX1_drawLots_51 : decode cX1_drawLots 51 = .ok (.istore_n 3, 1) := by decide +kernel
theorem dX1_drawLots_52 : decode cX1_drawLots 52 = .ok (.aload_n 0, 1) := by decide +kernel
theorem dX1_drawLots_53 : decode cX1_drawLots 53 = .ok (.iload_n 3, 1) := by decide +kernel
theorem dX1_drawLots_54 : decode cX1_drawLots 54 = .ok (.invokevirtual 71, 3) := by decide +kernel
theorem dX1_drawLots_57 : decode cX1_drawLots 57 = .ok (.ifCond .ne 4, 3) := by decide +kernel
theorem dX1_drawLots_60 : decode cX1_drawLots 60 = .ok (.return_, 1) := by decide +kernel
theorem dX1_drawLots_61 : decode cX1_drawLots 61 = .ok (.iload_n 1, 1) := by decide +kernel
theorem dX1_drawLots_62 : decode cX1_drawLots 62 = .ok (.aload_n 0, 1) := by decide +kernel
theorem dX1_drawLots_63 : decode cX1_drawLots 63 = .ok (.getfield 75, 3) := by decide +kernel
theorem dX1_drawLots_66 : decode cX1_drawLots 66 = .ok (.iload_n 3, 1) := by decide +kernel
theorem dX1_drawLots_67 : decode cX1_drawLots 67 = .ok (.iaload, 1) := by decide +kernel
theorem dX1_drawLots_68 : decode cX1_drawLots 68 = .ok (.isub, 1) := by decide +kernel
theorem dX1_drawLots_69 : decode cX1_drawLots 69 = .ok (.istore_n 1, 1) := by decide +kernel
theorem dX1_drawLots_70 : decode cX1_drawLots 70 = .ok (.aload_n 0, 1) := by decide +kernel
theorem dX1_drawLots_71 : decode cX1_drawLots 71 = .ok (.getfield 75, 3) := by decide +kernel
theorem dX1_drawLots_74 : decode cX1_drawLots 74 = .ok (.iload_n 3, 1) := by decide +kernel
theorem dX1_drawLots_75 : decode cX1_drawLots 75 = .ok (.iconst 0, 1) := by decide +kernel
theorem dX1_drawLots_76 : decode cX1_drawLots 76 = .ok (.iastore, 1) := by decide +kernel
theorem dX1_drawLots_77 : decode cX1_drawLots 77 = .ok (.aload_n 0, 1) := by decide +kernel
theorem dX1_drawLots_78 : decode cX1_drawLots 78 = .ok (.getfield 78, 3) := by decide +kernel
theorem dX1_drawLots_81 : decode cX1_drawLots 81 = .ok (.iload_n 2, 1) := by decide +kernel
theorem dX1_drawLots_82 : decode cX1_drawLots 82 = .ok (.iload_n 3, 1) := by decide +kernel
theorem dX1_drawLots_83 : decode cX1_drawLots 83 = .ok (.iastore, 1) := by decide +kernel
theorem dX1_drawLots_84 : decode cX1_drawLots 84 = .ok (.aload_n 0, 1) := by decide +kernel
theorem dX1_drawLots_85 : decode cX1_drawLots 85 = .ok (.iload_n 2, 1) := by decide +kernel
theorem dX1_drawLots_86 : decode cX1_drawLots 86 = .ok (.iconst 1, 1) := by decide +kernel
theorem dX1_drawLots_87 : decode cX1_drawLots 87 = .ok (.iadd, 1) := by decide +kernel
theorem dX1_drawLots_88 : decode cX1_drawLots 88 = .ok (.putfield 60, 3) := by decide +kernel
theorem dX1_drawLots_91 : decode cX1_drawLots 91 = .ok (.aload_n 0, 1) := by decide +kernel
theorem dX1_drawLots_92 : decode cX1_drawLots 92 = .ok (.getfield 37, 3) := by decide +kernel
theorem dX1_drawLots_95 : decode cX1_drawLots 95 = .ok (.iload_n 3, 1) := by decide +kernel
theorem dX1_drawLots_96 : decode cX1_drawLots 96 = .ok (.aaload, 1) := by decide +kernel
theorem dX1_drawLots_97 : decode cX1_drawLots 97 = .ok (.iload_n 2, 1) := by decide +kernel
theorem dX1_drawLots_98 : decode cX1_drawLots 98 = .ok (.putfield 81, 3) := by decide +kernel
theorem dX1_drawLots_101 : decode cX1_drawLots 101 = .ok (.aload_n 0, 1) := by decide +kernel
theorem dX1_drawLots_102 : decode cX1_drawLots 102 = .ok (.iload_n 3, 1) := by decide +kernel
theorem dX1_drawLots_103 : decode cX1_drawLots 103 = .ok (.invokestatic 84, 3) := by decide +kernel
theorem dX1_drawLots_106 : decode cX1_drawLots 106 = .ok (.iinc 2 1, 3) := by decide +kernel
theorem dX1_drawLots_109 : decode cX1_drawLots 109 = .ok (.goto (-97), 3) := by decide +kernel
theorem dX1_drawLots_112 : decode cX1_drawLots 112 = .ok (.return_, 1) := by decide +kernel
theorem dX1_handOutTickets_0 : decode cX1_handOutTickets 0 = .ok (.iconst 0, 1) := by decide +kernel
theorem dX1_handOutTickets_1 : decode cX1_handOutTickets 1 = .ok (.istore_n 1, 1) := by decide +kernel
theorem dX1_handOutTickets_2 : decode cX1_handOutTickets 2 = .ok (.iconst 0, 1) := by decide +kernel
theorem dX1_handOutTickets_3 : decode cX1_handOutTickets 3 = .ok (.istore_n 2, 1) := by decide +kernel
theorem dX1_handOutTickets_4 : decode cX1_handOutTickets 4 = .ok (.iload_n 2, 1) := by decide +kernel
theorem dX1_handOutTickets_5 : decode cX1_handOutTickets 5 = .ok (.aload_n 0, 1) := by decide +kernel
theorem dX1_handOutTickets_6 : decode cX1_handOutTickets 6 = .ok (.getfield 34, 3) := by decide +kernel
theorem dX1_handOutTickets_9 : decode cX1_handOutTickets 9 = .ok (.if_icmp .ge 82, 3) := by decide +kernel
theorem dX1_handOutTickets_12 : decode cX1_handOutTickets 12 = .ok (.aload_n 0, 1) := by decide +kernel
theorem dX1_handOutTickets_13 : decode cX1_handOutTickets 13 = .ok (.getfield 37, 3) := by decide +kernel
theorem dX1_handOutTickets_16 : decode cX1_handOutTickets 16 = .ok (.iload_n 2, 1) := by decide +kernel
theorem dX1_handOutTickets_17 : decode cX1_handOutTickets 17 = .ok (.aaload, 1) := by decide +kernel
theorem dX1_handOutTickets_18 : decode cX1_handOutTickets 18 = .ok (.astore_n 3, 1) := by decide +kernel
theorem dX1_handOutTickets_19 : decode cX1_handOutTickets 19 = .ok (.aload_n 3, 1) := by decide +kernel
theorem dX1_handOutTickets_20 : decode cX1_handOutTickets 20 = .ok (.aload_n 3, 1) := by decide +kernel
theorem dX1_handOutTickets_21 : decode cX1_handOutTickets 21 = .ok (.aload_n 0, 1) := by decide +kernel
theorem dX1_handOutTickets_22 : decode cX1_handOutTickets 22 = .ok (.getfield 21, 3) := by decide +kernel
theorem dX1_handOutTickets_25 : decode cX1_handOutTickets 25 = .ok (.invokevirtual 88, 3) := by decide +kernel
theorem dX1_handOutTickets_28 : decode cX1_handOutTickets 28 = .ok (.putfield 92, 3) := by decide +kernel
theorem dX1_handOutTickets_31 : decode cX1_handOutTickets 31 = .ok (.aload_n 3, 1) := by decide +kernel
theorem dX1_handOutTickets_32 : decode cX1_handOutTickets 32 = .ok (.getfield 92, 3) := by decide +kernel
theorem dX1_handOutTickets_35 : decode cX1_handOutTickets 35 = .ok (.iconst 4, 1) := by decide +kernel
theorem dX1_handOutTickets_36 : decode cX1_handOutTickets 36 = .ok (.if_icmp .ne 7, 3) := by decide +kernel
theorem dX1_handOutTickets_39 : decode cX1_handOutTickets 39 = .ok (.iconst 1, 1) := by decide +kernel
theorem dX1_handOutTickets_40 : decode cX1_handOutTickets 40 = .ok (.goto 4, 3) := by decide +kernel
theorem dX1_handOutTickets_43 : decode cX1_handOutTickets 43 = .ok (.iconst 0, 1) := by decide +kernel
theorem dX1_handOutTickets_44 : decode cX1_handOutTickets 44 = .ok (.istore 4, 2) := by decide +kernel
theorem dX1_handOutTickets_46 : decode cX1_handOutTickets 46 = .ok (.aload_n 0, 1) := by decide +kernel
theorem dX1_handOutTickets_47 : decode cX1_handOutTickets 47 = .ok (.getfield 75, 3) := by decide +kernel
theorem dX1_handOutTickets_50 : decode cX1_handOutTickets 50 = .ok (.iload_n 2, 1) := by decide +kernel
theorem dX1_handOutTickets_51 : decode cX1_handOutTickets 51 = .ok (.iload 4, 2) := by decide +kernel
theorem dX1_handOutTickets_53 : decode cX1_handOutTickets 53 = .ok (.ifCond .eq 21, 3) := by decide +kernel
theorem dX1_handOutTickets_56 : decode cX1_handOutTickets 56 = .ok (.iconst 1, 1) := by decide +kernel
theorem dX1_handOutTickets_57 : decode cX1_handOutTickets 57 = .ok (.aload_n 3, 1) := by decide +kernel
theorem dX1_handOutTickets_58 : decode cX1_handOutTickets 58 = .ok (.getfield 95, 3) := by decide +kernel
theorem dX1_handOutTickets_61 : decode cX1_handOutTickets 61 = .ok (.iadd, 1) := by decide +kernel
theorem dX1_handOutTickets_62 : decode cX1_handOutTickets 62 = .ok (.aload_n 0, 1) := by decide +kernel
theorem dX1_handOutTickets_63 : decode cX1_handOutTickets 63 = .ok (.getfield 9, 3) := by decide +kernel
theorem dX1_handOutTickets_66 : decode cX1_handOutTickets 66 = .ok (.iconst 0, 1) := by decide +kernel
theorem dX1_handOutTickets_67 : decode cX1_handOutTickets 67 = .ok (.iaload, 1) := by decide +kernel
theorem dX1_handOutTickets_68 : decode cX1_handOutTickets 68 = .ok (.invokestatic 98, 3) := by decide +kernel
theorem dX1_handOutTickets_71 : decode cX1_handOutTickets 71 = .ok (.goto 4, 3) := by decide +kernel
theorem dX1_handOutTickets_74 : decode cX1_handOutTickets 74 = .ok (.iconst 0, 1) := by decide +kernel
theorem dX1_handOutTickets_75 : decode cX1_handOutTickets 75 = .ok (.iastore, 1) := by decide +kernel
theorem dX1_handOutTickets_76 : decode cX1_handOutTickets 76 = .ok (.iload_n 1, 1) := by decide +kernel
theorem dX1_handOutTickets_77 : decode cX1_handOutTickets 77 = .ok (.aload_n 0, 1) := by decide +kernel
theorem dX1_handOutTickets_78 : decode cX1_handOutTickets 78 = .ok (.getfield 75, 3) := by decide +kernel
theorem dX1_handOutTickets_81 : decode cX1_handOutTickets 81 = .ok (.iload_n 2, 1) := by decide +kernel
theorem dX1_handOutTickets_82 : decode cX1_handOutTickets 82 = .ok (.iaload, 1) := by decide +kernel
theorem dX1_handOutTickets_83 : decode cX1_handOutTickets 83 = .ok (.iadd, 1) := by decide +kernel
theorem dX1_handOutTickets_84 : decode cX1_handOutTickets 84 = .ok (.istore_n 1, 1) := by decide +kernel
theorem dX1_handOutTickets_85 : decode cX1_handOutTickets 85 = .ok (.iinc 2 1, 3) := by decide +kernel
theorem dX1_handOutTickets_88 : decode cX1_handOutTickets 88 = .ok (.goto (-84), 3) := by decide +kernel
theorem dX1_handOutTickets_91 : decode cX1_handOutTickets 91 = .ok (.iload_n 1, 1) := by decide +kernel
theorem dX1_handOutTickets_92 : decode cX1_handOutTickets 92 = .ok (.ireturn, 1) := by decide +kernel
theorem dX1_holderOfTicket_0 : decode cX1_holderOfTicket 0 = .ok (.iconst 0, 1) := by decide +kernel
theorem dX1_holderOfTicket_1 : decode cX1_holderOfTicket 1 = .ok (.istore_n 2, 1) := by decide +kernel
theorem dX1_holderOfTicket_2 : decode cX1_holderOfTicket 2 = .ok (.iconst 0, 1) := by decide +kernel
theorem dX1_holderOfTicket_3 : decode cX1_holderOfTicket 3 = .ok (.istore_n 3, 1) := by decide +kernel
theorem dX1_holderOfTicket_4 : decode cX1_holderOfTicket 4 = .ok (.iload_n 3, 1) := by decide +kernel
theorem dX1_holderOfTicket_5 : decode cX1_holderOfTicket 5 = .ok (.aload_n 0, 1) := by decide +kernel
theorem dX1_holderOfTicket_6 : decode cX1_holderOfTicket 6 = .ok (.getfield 34, 3) := by decide +kernel
theorem dX1_holderOfTicket_9 : decode cX1_holderOfTicket 9 = .ok (.if_icmp .ge 25, 3) := by decide +kernel
theorem dX1_holderOfTicket_12 : decode cX1_holderOfTicket 12 = .ok (.iload_n 2, 1) := by decide +kernel
theorem dX1_holderOfTicket_13 : decode cX1_holderOfTicket 13 = .ok (.aload_n 0, 1) := by decide +kernel
theorem dX1_holderOfTicket_14 : decode cX1_holderOfTicket 14 = .ok (.getfield 75, 3) := by decide +kernel
theorem dX1_holderOfTicket_17 : decode cX1_holderOfTicket 17 = .ok (.iload_n 3, 1) := by decide +kernel
theorem dX1_holderOfTicket_18 : decode cX1_holderOfTicket 18 = .ok (.iaload, 1) := by decide +kernel
theorem dX1_holderOfTicket_19 : decode cX1_holderOfTicket 19 = .ok (.iadd, 1) := by decide +kernel
theorem dX1_holderOfTicket_20 : decode cX1_holderOfTicket 20 = .ok (.istore_n 2, 1) := by decide +kernel
theorem dX1_holderOfTicket_21 : decode cX1_holderOfTicket 21 = .ok (.iload_n 1, 1) := by decide +kernel
theorem dX1_holderOfTicket_22 : decode cX1_holderOfTicket 22 = .ok (.iload_n 2, 1) := by decide +kernel
theorem dX1_holderOfTicket_23 : decode cX1_holderOfTicket 23 = .ok (.if_icmp .ge 5, 3) := by decide +kernel
theorem dX1_holderOfTicket_26 : decode cX1_holderOfTicket 26 = .ok (.iload_n 3, 1) := by decide +kernel
theorem dX1_holderOfTicket_27 : decode cX1_holderOfTicket 27 = .ok (.ireturn, 1) := by decide +kernel
theorem dX1_holderOfTicket_28 : decode cX1_holderOfTicket 28 = .ok (.iinc 3 1, 3) := by decide +kernel
theorem dX1_holderOfTicket_31 : decode cX1_holderOfTicket 31 = .ok (.goto (-27), 3) := by decide +kernel
theorem dX1_holderOfTicket_34 : decode cX1_holderOfTicket 34 = .ok (.bipush (-6), 2) := by decide +kernel
theorem dX1_holderOfTicket_36 : decode cX1_holderOfTicket 36 = .ok (.ireturn, 1) := by decide +kernel
theorem dX1_choosePitch_0 : decode cX1_choosePitch 0 = .ok (.aload_n 0, 1) := by decide +kernel
theorem dX1_choosePitch_1 : decode cX1_choosePitch 1 = .ok (.iload_n 1, 1) := by decide +kernel
theorem dX1_choosePitch_2 : decode cX1_choosePitch 2 = .ok (.invokevirtual 71, 3) := by decide +kernel
theorem dX1_choosePitch_5 : decode cX1_choosePitch 5 = .ok (.ifCond .ne 4, 3) := by decide +kernel
theorem dX1_choosePitch_8 : decode cX1_choosePitch 8 = .ok (.return_, 1) := by decide +kernel
theorem dX1_choosePitch_9 : decode cX1_choosePitch 9 = .ok (.aload_n 0, 1) := by decide +kernel
theorem dX1_choosePitch_10 : decode cX1_choosePitch 10 = .ok (.getfield 37, 3) := by decide +kernel
theorem dX1_choosePitch_13 : decode cX1_choosePitch 13 = .ok (.iload_n 1, 1) := by decide +kernel
theorem dX1_choosePitch_14 : decode cX1_choosePitch 14 = .ok (.aaload, 1) := by decide +kernel
theorem dX1_choosePitch_15 : decode cX1_choosePitch 15 = .ok (.astore_n 2, 1) := by decide +kernel
theorem dX1_choosePitch_16 : decode cX1_choosePitch 16 = .ok (.iconst 0, 1) := by decide +kernel
theorem dX1_choosePitch_17 : decode cX1_choosePitch 17 = .ok (.istore_n 3, 1) := by decide +kernel
theorem dX1_choosePitch_18 : decode cX1_choosePitch 18 = .ok (.iload_n 3, 1) := by decide +kernel
theorem dX1_choosePitch_19 : decode cX1_choosePitch 19 = .ok (.aload_n 2, 1) := by decide +kernel
theorem dX1_choosePitch_20 : decode cX1_choosePitch 20 = .ok (.getfield 104, 3) := by decide +kernel
theorem dX1_choosePitch_23 : decode cX1_choosePitch 23 = .ok (.if_icmp .ge 63, 3) := by decide +kernel
theorem dX1_choosePitch_26 : decode cX1_choosePitch 26 = .ok (.aload_n 2, 1) := by decide +kernel
theorem dX1_choosePitch_27 : decode cX1_choosePitch 27 = .ok (.iload_n 3, 1) := by decide +kernel
theorem dX1_choosePitch_28 : decode cX1_choosePitch 28 = .ok (.invokevirtual 107, 3) := by decide +kernel
theorem dX1_choosePitch_31 : decode cX1_choosePitch 31 = .ok (.istore 4, 2) := by decide +kernel
theorem dX1_choosePitch_33 : decode cX1_choosePitch 33 = .ok (.aload_n 0, 1) := by decide +kernel
theorem dX1_choosePitch_34 : decode cX1_choosePitch 34 = .ok (.iload 4, 2) := by decide +kernel
theorem dX1_choosePitch_36 : decode cX1_choosePitch 36 = .ok (.invokevirtual 110, 3) := by decide +kernel
theorem dX1_choosePitch_39 : decode cX1_choosePitch 39 = .ok (.ifCond .eq 41, 3) := by decide +kernel
theorem dX1_choosePitch_42 : decode cX1_choosePitch 42 = .ok (.aload_n 0, 1) := by decide +kernel
theorem dX1_choosePitch_43 : decode cX1_choosePitch 43 = .ok (.getfield 44, 3) := by decide +kernel
theorem dX1_choosePitch_46 : decode cX1_choosePitch 46 = .ok (.iload 4, 2) := by decide +kernel
theorem dX1_choosePitch_48 : decode cX1_choosePitch 48 = .ok (.aaload, 1) := by decide +kernel
theorem dX1_choosePitch_49 : decode cX1_choosePitch 49 = .ok (.getfield 48, 3) := by decide +kernel
theorem dX1_choosePitch_52 : decode cX1_choosePitch 52 = .ok (.bipush (-6), 2) := by decide +kernel
theorem dX1_choosePitch_54 : decode cX1_choosePitch 54 = .ok (.if_icmp .ne 26, 3) := by decide +kernel
theorem dX1_choosePitch_57 : decode cX1_choosePitch 57 = .ok (.aload_n 0, 1) := by decide +kernel
theorem dX1_choosePitch_58 : decode cX1_choosePitch 58 = .ok (.iload_n 1, 1) := by decide +kernel
theorem dX1_choosePitch_59 : decode cX1_choosePitch 59 = .ok (.iload 4, 2) := by decide +kernel
theorem dX1_choosePitch_61 : decode cX1_choosePitch 61 = .ok (.invokevirtual 113, 3) := by decide +kernel
theorem dX1_choosePitch_64 : decode cX1_choosePitch 64 = .ok (.ifCond .ne 16, 3) := by decide +kernel
theorem dX1_choosePitch_67 : decode cX1_choosePitch 67 = .ok (.aload_n 0, 1) := by decide +kernel
theorem dX1_choosePitch_68 : decode cX1_choosePitch 68 = .ok (.iload_n 1, 1) := by decide +kernel
theorem dX1_choosePitch_69 : decode cX1_choosePitch 69 = .ok (.iload 4, 2) := by decide +kernel
theorem dX1_choosePitch_71 : decode cX1_choosePitch 71 = .ok (.invokevirtual 117, 3) := by decide +kernel
theorem dX1_choosePitch_74 : decode cX1_choosePitch 74 = .ok (.aload_n 2, 1) := by decide +kernel
theorem dX1_choosePitch_75 : decode cX1_choosePitch 75 = .ok (.iconst 0, 1) := by decide +kernel
theorem dX1_choosePitch_76 : decode cX1_choosePitch 76 = .ok (.putfield 92, 3) := by decide +kernel
theorem dX1_choosePitch_79 : decode cX1_choosePitch 79 = .ok (.return_, 1) := by decide +kernel
theorem dX1_choosePitch_80 : decode cX1_choosePitch 80 = .ok (.iinc 3 1, 3) := by decide +kernel
theorem dX1_choosePitch_83 : decode cX1_choosePitch 83 = .ok (.goto (-65), 3) := by decide +kernel
theorem dX1_choosePitch_86 : decode cX1_choosePitch 86 = .ok (.return_, 1) := by decide +kernel
theorem dX1_shareKitchens_0 : decode cX1_shareKitchens 0 = .ok (.iconst 0, 1) := by decide +kernel
theorem dX1_shareKitchens_1 : decode cX1_shareKitchens 1 = .ok (.istore_n 1, 1) := by decide +kernel
theorem dX1_shareKitchens_2 : decode cX1_shareKitchens 2 = .ok (.iconst 0, 1) := by decide +kernel
theorem dX1_shareKitchens_3 : decode cX1_shareKitchens 3 = .ok (.istore_n 2, 1) := by decide +kernel
theorem dX1_shareKitchens_4 : decode cX1_shareKitchens 4 = .ok (.iconst 0, 1) := by decide +kernel
theorem dX1_shareKitchens_5 : decode cX1_shareKitchens 5 = .ok (.istore_n 3, 1) := by decide +kernel
theorem dX1_shareKitchens_6 : decode cX1_shareKitchens 6 = .ok (.iload_n 3, 1) := by decide +kernel
theorem dX1_shareKitchens_7 : decode cX1_shareKitchens 7 = .ok (.aload_n 0, 1) := by decide +kernel
theorem dX1_shareKitchens_8 : decode cX1_shareKitchens 8 = .ok (.getfield 60, 3) := by decide +kernel
theorem dX1_shareKitchens_11 : decode cX1_shareKitchens 11 = .ok (.if_icmp .ge 149, 3) := by decide +kernel
theorem dX1_shareKitchens_14 : decode cX1_shareKitchens 14 = .ok (.aload_n 0, 1) := by decide +kernel
theorem dX1_shareKitchens_15 : decode cX1_shareKitchens 15 = .ok (.getfield 78, 3) := by decide +kernel
theorem dX1_shareKitchens_18 : decode cX1_shareKitchens 18 = .ok (.iload_n 3, 1) := by decide +kernel
theorem dX1_shareKitchens_19 : decode cX1_shareKitchens 19 = .ok (.iaload, 1) := by decide +kernel
theorem dX1_shareKitchens_20 : decode cX1_shareKitchens 20 = .ok (.istore 4, 2) := by decide +kernel
theorem dX1_shareKitchens_22 : decode cX1_shareKitchens 22 = .ok (.aload_n 0, 1) := by decide +kernel
theorem dX1_shareKitchens_23 : decode cX1_shareKitchens 23 = .ok (.iload 4, 2) := by decide +kernel
theorem dX1_shareKitchens_25 : decode cX1_shareKitchens 25 = .ok (.invokevirtual 71, 3) := by decide +kernel
theorem dX1_shareKitchens_28 : decode cX1_shareKitchens 28 = .ok (.ifCond .eq 126, 3) := by decide +kernel
theorem dX1_shareKitchens_31 : decode cX1_shareKitchens 31 = .ok (.aload_n 0, 1) := by decide +kernel
theorem dX1_shareKitchens_32 : decode cX1_shareKitchens 32 = .ok (.getfield 37, 3) := by decide +kernel
theorem dX1_shareKitchens_35 : decode cX1_shareKitchens 35 = .ok (.iload 4, 2) := by decide +kernel
theorem dX1_shareKitchens_37 : decode cX1_shareKitchens 37 = .ok (.aaload, 1) := by decide +kernel
theorem dX1_shareKitchens_38 : decode cX1_shareKitchens 38 = .ok (.getfield 121, 3) := by decide +kernel
theorem dX1_shareKitchens_41 : decode cX1_shareKitchens 41 = .ok (.bipush (-6), 2) := by decide +kernel
theorem dX1_shareKitchens_43 : decode cX1_shareKitchens 43 = .ok (.if_icmp .ne 6, 3) := by decide +kernel
theorem dX1_shareKitchens_46 : decode cX1_shareKitchens 46 = .ok (.goto 108, 3) := by decide +kernel
theorem dX1_shareKitchens_49 : decode cX1_shareKitchens 49 = .ok (.aload_n 0, 1) := by decide +kernel
theorem dX1_shareKitchens_50 : decode cX1_shareKitchens 50 = .ok (.getfield 37, 3) := by decide +kernel
theorem dX1_shareKitchens_53 : decode cX1_shareKitchens 53 = .ok (.iload 4, 2) := by decide +kernel
theorem dX1_shareKitchens_55 : decode cX1_shareKitchens 55 = .ok (.aaload, 1) := by decide +kernel
theorem dX1_shareKitchens_56 : decode cX1_shareKitchens 56 = .ok (.astore 5, 2) := by decide +kernel
theorem dX1_shareKitchens_58 : decode cX1_shareKitchens 58 = .ok (.iload_n 1, 1) := by decide +kernel
theorem dX1_shareKitchens_59 : decode cX1_shareKitchens 59 = .ok (.iload_n 2, 1) := by decide +kernel
theorem dX1_shareKitchens_60 : decode cX1_shareKitchens 60 = .ok (.invokestatic 98, 3) := by decide +kernel
theorem dX1_shareKitchens_63 : decode cX1_shareKitchens 63 = .ok (.istore 6, 2) := by decide +kernel
theorem dX1_shareKitchens_65 : decode cX1_shareKitchens 65 = .ok (.iload 6, 2) := by decide +kernel
theorem dX1_shareKitchens_67 : decode cX1_shareKitchens 67 = .ok (.aload 5, 2) := by decide +kernel
theorem dX1_shareKitchens_69 : decode cX1_shareKitchens 69 = .ok (.getfield 124, 3) := by decide +kernel
theorem dX1_shareKitchens_72 : decode cX1_shareKitchens 72 = .ok (.iadd, 1) := by decide +kernel
theorem dX1_shareKitchens_73 : decode cX1_shareKitchens 73 = .ok (.aload_n 0, 1) := by decide +kernel
theorem dX1_shareKitchens_74 : decode cX1_shareKitchens 74 = .ok (.getfield 9, 3) := by decide +kernel
theorem dX1_shareKitchens_77 : decode cX1_shareKitchens 77 = .ok (.bipush 8, 2) := by decide +kernel
theorem dX1_shareKitchens_79 : decode cX1_shareKitchens 79 = .ok (.iaload, 1) := by decide +kernel
theorem dX1_shareKitchens_80 : decode cX1_shareKitchens 80 = .ok (.if_icmp .le 42, 3) := by decide +kernel
theorem dX1_shareKitchens_83 : decode cX1_shareKitchens 83 = .ok (.aload_n 0, 1) := by decide +kernel
theorem dX1_shareKitchens_84 : decode cX1_shareKitchens 84 = .ok (.aload 5, 2) := by decide +kernel
theorem dX1_shareKitchens_86 : decode cX1_shareKitchens 86 = .ok (.invokevirtual 127, 3) := by decide +kernel
theorem dX1_shareKitchens_89 : decode cX1_shareKitchens 89 = .ok (.aload 5, 2) := by decide +kernel
theorem dX1_shareKitchens_91 : decode cX1_shareKitchens 91 = .ok (.iconst 5, 1) := by decide +kernel
theorem dX1_shareKitchens_92 : decode cX1_shareKitchens 92 = .ok (.putfield 92, 3) := by decide +kernel
theorem dX1_shareKitchens_95 : decode cX1_shareKitchens 95 = .ok (.aload_n 0, 1) := by decide +kernel
theorem dX1_shareKitchens_96 : decode cX1_shareKitchens 96 = .ok (.getfield 9, 3) := by decide +kernel
theorem dX1_shareKitchens_99 : decode cX1_shareKitchens 99 = .ok (.bipush 7, 2) := by decide +kernel
theorem dX1_shareKitchens_101 : decode cX1_shareKitchens 101 = .ok (.iaload, 1) := by decide +kernel
theorem dX1_shareKitchens_102 : decode cX1_shareKitchens 102 = .ok (.ifCond .le 52, 3) := by decide +kernel
theorem dX1_shareKitchens_105 : decode cX1_shareKitchens 105 = .ok (.aload_n 0, 1) := by decide +kernel
theorem dX1_shareKitchens_106 : decode cX1_shareKitchens 106 = .ok (.aload 5, 2) := by decide +kernel
theorem dX1_shareKitchens_108 : decode cX1_shareKitchens 108 = .ok (.aload_n 0, 1) := by decide +kernel
theorem dX1_shareKitchens_109 : decode cX1_shareKitchens 109 = .ok (.getfield 9, 3) := by decide +kernel
theorem dX1_shareKitchens_112 : decode cX1_shareKitchens 112 = .ok (.bipush 7, 2) := by decide +kernel
theorem dX1_shareKitchens_114 : decode cX1_shareKitchens 114 = .ok (.iaload, 1) := by decide +kernel
theorem dX1_shareKitchens_115 : decode cX1_shareKitchens 115 = .ok (.invokevirtual 131, 3) := by decide +kernel
theorem dX1_shareKitchens_118 : decode cX1_shareKitchens 118 = .ok (.pop, 1) := by decide +kernel
theorem dX1_shareKitchens_119 : decode cX1_shareKitchens 119 = .ok (.goto 35, 3) := by decide +kernel
theorem dX1_shareKitchens_122 : decode cX1_shareKitchens 122 = .ok (.aload 5, 2) := by decide +kernel
theorem dX1_shareKitchens_124 : decode cX1_shareKitchens 124 = .ok (.iload 6, 2) := by decide +kernel
theorem dX1_shareKitchens_126 : decode cX1_shareKitchens 126 = .ok (.putfield 135, 3) := by decide +kernel
theorem dX1_shareKitchens_129 : decode cX1_shareKitchens 129 = .ok (.iload 6, 2) := by decide +kernel
theorem dX1_shareKitchens_131 : decode cX1_shareKitchens 131 = .ok (.iload_n 1, 1) := by decide +kernel
theorem dX1_shareKitchens_132 : decode cX1_shareKitchens 132 = .ok (.if_icmp .ne 14, 3) := by decide +kernel
theorem dX1_shareKitchens_135 : decode cX1_shareKitchens 135 = .ok (.iload_n 1, 1) := by decide +kernel
theorem dX1_shareKitchens_136 : decode cX1_shareKitchens 136 = .ok (.aload 5, 2) := by decide +kernel
theorem dX1_shareKitchens_138 : decode cX1_shareKitchens 138 = .ok (.getfield 124, 3) := by decide +kernel
theorem dX1_shareKitchens_141 : decode cX1_shareKitchens 141 = .ok (.iadd, 1) := by decide +kernel
theorem dX1_shareKitchens_142 : decode cX1_shareKitchens 142 = .ok (.istore_n 1, 1) := by decide +kernel
theorem dX1_shareKitchens_143 : decode cX1_shareKitchens 143 = .ok (.goto 11, 3) := by decide +kernel
theorem dX1_shareKitchens_146 : decode cX1_shareKitchens 146 = .ok (.iload_n 2, 1) := by decide +kernel
theorem dX1_shareKitchens_147 : decode cX1_shareKitchens 147 = .ok (.aload 5, 2) := by decide +kernel
theorem dX1_shareKitchens_149 : decode cX1_shareKitchens 149 = .ok (.getfield 124, 3) := by decide +kernel
theorem dX1_shareKitchens_152 : decode cX1_shareKitchens 152 = .ok (.iadd, 1) := by decide +kernel
theorem dX1_shareKitchens_153 : decode cX1_shareKitchens 153 = .ok (.istore_n 2, 1) := by decide +kernel
theorem dX1_shareKitchens_154 : decode cX1_shareKitchens 154 = .ok (.iinc 3 1, 3) := by decide +kernel
theorem dX1_shareKitchens_157 : decode cX1_shareKitchens 157 = .ok (.goto (-151), 3) := by decide +kernel
theorem dX1_shareKitchens_160 : decode cX1_shareKitchens 160 = .ok (.return_, 1) := by decide +kernel
theorem dX1_makeSwaps_0 : decode cX1_makeSwaps 0 = .ok (.iconst 0, 1) := by decide +kernel
theorem dX1_makeSwaps_1 : decode cX1_makeSwaps 1 = .ok (.istore_n 1, 1) := by decide +kernel
theorem dX1_makeSwaps_2 : decode cX1_makeSwaps 2 = .ok (.iload_n 1, 1) := by decide +kernel
theorem dX1_makeSwaps_3 : decode cX1_makeSwaps 3 = .ok (.aload_n 0, 1) := by decide +kernel
theorem dX1_makeSwaps_4 : decode cX1_makeSwaps 4 = .ok (.getfield 138, 3) := by decide +kernel
theorem dX1_makeSwaps_7 : decode cX1_makeSwaps 7 = .ok (.if_icmp .ge 86, 3) := by decide +kernel
theorem dX1_makeSwaps_10 : decode cX1_makeSwaps 10 = .ok (.aload_n 0, 1) := by decide +kernel
theorem dX1_makeSwaps_11 : decode cX1_makeSwaps 11 = .ok (.getfield 141, 3) := by decide +kernel
theorem dX1_makeSwaps_14 : decode cX1_makeSwaps 14 = .ok (.iload_n 1, 1) := by decide +kernel
theorem dX1_makeSwaps_15 : decode cX1_makeSwaps 15 = .ok (.iaload, 1) := by decide +kernel
theorem dX1_makeSwaps_16 : decode cX1_makeSwaps 16 = .ok (.istore_n 2, 1) := by decide +kernel
theorem dX1_makeSwaps_17 : decode cX1_makeSwaps 17 = .ok (.aload_n 0, 1) := by decide +kernel
theorem dX1_makeSwaps_18 : decode cX1_makeSwaps 18 = .ok (.getfield 144, 3) := by decide +kernel
theorem dX1_makeSwaps_21 : decode cX1_makeSwaps 21 = .ok (.iload_n 1, 1) := by decide +kernel
theorem dX1_makeSwaps_22 : decode cX1_makeSwaps 22 = .ok (.iaload, 1) := by decide +kernel
theorem dX1_makeSwaps_23 : decode cX1_makeSwaps 23 = .ok (.istore_n 3, 1) := by decide +kernel
theorem dX1_makeSwaps_24 : decode cX1_makeSwaps 24 = .ok (.aload_n 0, 1) := by decide +kernel
theorem dX1_makeSwaps_25 : decode cX1_makeSwaps 25 = .ok (.iload_n 2, 1) := by decide +kernel
theorem dX1_makeSwaps_26 : decode cX1_makeSwaps 26 = .ok (.iload_n 3, 1) := by decide +kernel
theorem dX1_makeSwaps_27 : decode cX1_makeSwaps 27 = .ok (.invokestatic 147, 3) := by decide +kernel
theorem dX1_makeSwaps_30 : decode cX1_makeSwaps 30 = .ok (.ifCond .eq 57, 3) := by decide +kernel
theorem dX1_makeSwaps_33 : decode cX1_makeSwaps 33 = .ok (.aload_n 0, 1) := by decide +kernel
theorem dX1_makeSwaps_34 : decode cX1_makeSwaps 34 = .ok (.getfield 37, 3) := by decide +kernel
theorem dX1_makeSwaps_37 : decode cX1_makeSwaps 37 = .ok (.iload_n 2, 1) := by decide +kernel
theorem dX1_makeSwaps_38 : decode cX1_makeSwaps 38 = .ok (.aaload, 1) := by decide +kernel
theorem dX1_makeSwaps_39 : decode cX1_makeSwaps 39 = .ok (.dup, 1) := by decide +kernel
theorem dX1_makeSwaps_40 : decode cX1_makeSwaps 40 = .ok (.getfield 151, 3) := by decide +kernel
theorem dX1_makeSwaps_43 : decode cX1_makeSwaps 43 = .ok (.aload_n 0, 1) := by decide +kernel
theorem dX1_makeSwaps_44 : decode cX1_makeSwaps 44 = .ok (.getfield 9, 3) := by decide +kernel
theorem dX1_makeSwaps_47 : decode cX1_makeSwaps 47 = .ok (.bipush 9, 2) := by decide +kernel
theorem dX1_makeSwaps_49 : decode cX1_makeSwaps 49 = .ok (.iaload, 1) := by decide +kernel
theorem dX1_makeSwaps_50 : decode cX1_makeSwaps 50 = .ok (.i2l, 1) := by decide +kernel
theorem dX1_makeSwaps_51 : decode cX1_makeSwaps 51 = .ok (.ladd, 1) := by decide +kernel
theorem dX1_makeSwaps_52 : decode cX1_makeSwaps 52 = .ok (.putfield 151, 3) := by decide +kernel
theorem dX1_makeSwaps_55 : decode cX1_makeSwaps 55 = .ok (.aload_n 0, 1) := by decide +kernel
theorem dX1_makeSwaps_56 : decode cX1_makeSwaps 56 = .ok (.getfield 37, 3) := by decide +kernel
theorem dX1_makeSwaps_59 : decode cX1_makeSwaps 59 = .ok (.iload_n 3, 1) := by decide +kernel
theorem dX1_makeSwaps_60 : decode cX1_makeSwaps 60 = .ok (.aaload, 1) := by decide +kernel
theorem dX1_makeSwaps_61 : decode cX1_makeSwaps 61 = .ok (.dup, 1) := by decide +kernel
theorem dX1_makeSwaps_62 : decode cX1_makeSwaps 62 = .ok (.getfield 151, 3) := by decide +kernel
theorem dX1_makeSwaps_65 : decode cX1_makeSwaps 65 = .ok (.aload_n 0, 1) := by decide +kernel
theorem dX1_makeSwaps_66 : decode cX1_makeSwaps 66 = .ok (.getfield 9, 3) := by decide +kernel
theorem dX1_makeSwaps_69 : decode cX1_makeSwaps 69 = .ok (.bipush 9, 2) := by decide +kernel
theorem dX1_makeSwaps_71 : decode cX1_makeSwaps 71 = .ok (.iaload, 1) := by decide +kernel
theorem dX1_makeSwaps_72 : decode cX1_makeSwaps 72 = .ok (.i2l, 1) := by decide +kernel
theorem dX1_makeSwaps_73 : decode cX1_makeSwaps 73 = .ok (.ladd, 1) := by decide +kernel
theorem dX1_makeSwaps_74 : decode cX1_makeSwaps 74 = .ok (.putfield 151, 3) := by decide +kernel
theorem dX1_makeSwaps_77 : decode cX1_makeSwaps 77 = .ok (.aload_n 0, 1) := by decide +kernel
theorem dX1_makeSwaps_78 : decode cX1_makeSwaps 78 = .ok (.dup, 1) := by decide +kernel
theorem dX1_makeSwaps_79 : decode cX1_makeSwaps 79 = .ok (.getfield 155, 3) := by decide +kernel
theorem dX1_makeSwaps_82 : decode cX1_makeSwaps 82 = .ok (.iconst 1, 1) := by decide +kernel
theorem dX1_makeSwaps_83 : decode cX1_makeSwaps 83 = .ok (.iadd, 1) := by decide +kernel
theorem dX1_makeSwaps_84 : decode cX1_makeSwaps 84 = .ok (.putfield 155, 3) := by decide +kernel
theorem dX1_makeSwaps_87 : decode cX1_makeSwaps 87 = .ok (.iinc 1 1, 3) := by decide +kernel
theorem dX1_makeSwaps_90 : decode cX1_makeSwaps 90 = .ok (.goto (-88), 3) := by decide +kernel
theorem dX1_makeSwaps_93 : decode cX1_makeSwaps 93 = .ok (.aload_n 0, 1) := by decide +kernel
theorem dX1_makeSwaps_94 : decode cX1_makeSwaps 94 = .ok (.iconst 0, 1) := by decide +kernel
theorem dX1_makeSwaps_95 : decode cX1_makeSwaps 95 = .ok (.putfield 138, 3) := by decide +kernel
theorem dX1_makeSwaps_98 : decode cX1_makeSwaps 98 = .ok (.return_, 1) := by decide +kernel
theorem dX1_exchange_0 : decode cX1_exchange 0 = .ok (.aload_n 0, 1) := by decide +kernel
theorem dX1_exchange_1 : decode cX1_exchange 1 = .ok (.iload_n 1, 1) := by decide +kernel
theorem dX1_exchange_2 : decode cX1_exchange 2 = .ok (.invokevirtual 71, 3) := by decide +kernel
theorem dX1_exchange_5 : decode cX1_exchange 5 = .ok (.ifCond .eq 11, 3) := by decide +kernel
theorem dX1_exchange_8 : decode cX1_exchange 8 = .ok (.aload_n 0, 1) := by decide +kernel
theorem dX1_exchange_9 : decode cX1_exchange 9 = .ok (.iload_n 2, 1) := by decide +kernel
theorem dX1_exchange_10 : decode cX1_exchange 10 = .ok (.invokevirtual 71, 3) := by decide +kernel
theorem dX1_exchange_13 : decode cX1_exchange 13 = .ok (.ifCond .ne 5, 3) := by decide +kernel
theorem dX1_exchange_16 : decode cX1_exchange 16 = .ok (.iconst 0, 1) := by decide +kernel
theorem dX1_exchange_17 : decode cX1_exchange 17 = .ok (.ireturn, 1) := by decide +kernel
theorem dX1_exchange_18 : decode cX1_exchange 18 = .ok (.aload_n 0, 1) := by decide +kernel
theorem dX1_exchange_19 : decode cX1_exchange 19 = .ok (.getfield 37, 3) := by decide +kernel
theorem dX1_exchange_22 : decode cX1_exchange 22 = .ok (.iload_n 1, 1) := by decide +kernel
theorem dX1_exchange_23 : decode cX1_exchange 23 = .ok (.aaload, 1) := by decide +kernel
theorem dX1_exchange_24 : decode cX1_exchange 24 = .ok (.getfield 121, 3) := by decide +kernel
theorem dX1_exchange_27 : decode cX1_exchange 27 = .ok (.istore_n 3, 1) := by decide +kernel
theorem dX1_exchange_28 : decode cX1_exchange 28 = .ok (.aload_n 0, 1) := by decide +kernel
theorem dX1_exchange_29 : decode cX1_exchange 29 = .ok (.getfield 37, 3) := by decide +kernel
theorem dX1_exchange_32 : decode cX1_exchange 32 = .ok (.iload_n 2, 1) := by decide +kernel
theorem dX1_exchange_33 : decode cX1_exchange 33 = .ok (.aaload, 1) := by decide +kernel
theorem dX1_exchange_34 : decode cX1_exchange 34 = .ok (.getfield 121, 3) := by decide +kernel
theorem dX1_exchange_37 : decode cX1_exchange 37 = .ok (.istore 4, 2) := by decide +kernel
theorem dX1_exchange_39 : decode cX1_exchange 39 = .ok (.aload_n 0, 1) := by decide +kernel
theorem dX1_exchange_40 : decode cX1_exchange 40 = .ok (.iload_n 3, 1) := by decide +kernel
theorem dX1_exchange_41 : decode cX1_exchange 41 = .ok (.invokevirtual 110, 3) := by decide +kernel
theorem dX1_exchange_44 : decode cX1_exchange 44 = .ok (.ifCond .eq 12, 3) := by decide +kernel
theorem dX1_exchange_47 : decode cX1_exchange 47 = .ok (.aload_n 0, 1) := by decide +kernel
theorem dX1_exchange_48 : decode cX1_exchange 48 = .ok (.iload 4, 2) := by decide +kernel
theorem dX1_exchange_50 : decode cX1_exchange 50 = .ok (.invokevirtual 110, 3) := by decide +kernel
theorem dX1_exchange_53 : decode cX1_exchange 53 = .ok (.ifCond .ne 5, 3) := by decide +kernel
theorem dX1_exchange_56 : decode cX1_exchange 56 = .ok (.iconst 0, 1) := by decide +kernel
theorem dX1_exchange_57 : decode cX1_exchange 57 = .ok (.ireturn, 1) := by decide +kernel
theorem dX1_exchange_58 : decode cX1_exchange 58 = .ok (.aload_n 0, 1) := by decide +kernel
theorem dX1_exchange_59 : decode cX1_exchange 59 = .ok (.iload_n 1, 1) := by decide +kernel
theorem dX1_exchange_60 : decode cX1_exchange 60 = .ok (.iload 4, 2) := by decide +kernel
theorem dX1_exchange_62 : decode cX1_exchange 62 = .ok (.invokevirtual 117, 3) := by decide +kernel
theorem dX1_exchange_65 : decode cX1_exchange 65 = .ok (.aload_n 0, 1) := by decide +kernel
theorem dX1_exchange_66 : decode cX1_exchange 66 = .ok (.iload_n 2, 1) := by decide +kernel
theorem dX1_exchange_67 : decode cX1_exchange 67 = .ok (.iload_n 3, 1) := by decide +kernel
theorem dX1_exchange_68 : decode cX1_exchange 68 = .ok (.invokevirtual 117, 3) := by decide +kernel
theorem dX1_exchange_71 : decode cX1_exchange 71 = .ok (.aload_n 0, 1) := by decide +kernel
theorem dX1_exchange_72 : decode cX1_exchange 72 = .ok (.iload_n 1, 1) := by decide +kernel
theorem dX1_exchange_73 : decode cX1_exchange 73 = .ok (.iload 4, 2) := by decide +kernel
theorem dX1_exchange_75 : decode cX1_exchange 75 = .ok (.invokevirtual 113, 3) := by decide +kernel
theorem dX1_exchange_78 : decode cX1_exchange 78 = .ok (.ifCond .ne 12, 3) := by decide +kernel
theorem dX1_exchange_81 : decode cX1_exchange 81 = .ok (.aload_n 0, 1) := by decide +kernel
theorem dX1_exchange_82 : decode cX1_exchange 82 = .ok (.iload_n 2, 1) := by decide +kernel
theorem dX1_exchange_83 : decode cX1_exchange 83 = .ok (.iload_n 3, 1) := by decide +kernel
theorem dX1_exchange_84 : decode cX1_exchange 84 = .ok (.invokevirtual 113, 3) := by decide +kernel
theorem dX1_exchange_87 : decode cX1_exchange 87 = .ok (.ifCond .eq 18, 3) := by decide +kernel
theorem dX1_exchange_90 : decode cX1_exchange 90 = .ok (.aload_n 0, 1) := by decide +kernel
theorem dX1_exchange_91 : decode cX1_exchange 91 = .ok (.iload_n 1, 1) := by decide +kernel
theorem dX1_exchange_92 : decode cX1_exchange 92 = .ok (.iload_n 3, 1) := by decide +kernel
theorem dX1_exchange_93 : decode cX1_exchange 93 = .ok (.invokevirtual 117, 3) := by decide +kernel
theorem dX1_exchange_96 : decode cX1_exchange 96 = .ok (.aload_n 0, 1) := by decide +kernel
theorem dX1_exchange_97 : decode cX1_exchange 97 = .ok (.iload_n 2, 1) := by decide +kernel
theorem dX1_exchange_98 : decode cX1_exchange 98 = .ok (.iload 4, 2) := by decide +kernel
theorem dX1_exchange_100 : decode cX1_exchange 100 = .ok (.invokevirtual 117, 3) := by decide +kernel
theorem dX1_exchange_103 : decode cX1_exchange 103 = .ok (.iconst 0, 1) := by decide +kernel
theorem dX1_exchange_104 : decode cX1_exchange 104 = .ok (.ireturn, 1) := by decide +kernel
theorem dX1_exchange_105 : decode cX1_exchange 105 = .ok (.iconst 1, 1) := by decide +kernel
theorem dX1_exchange_106 : decode cX1_exchange 106 = .ok (.ireturn, 1) := by decide +kernel
theorem dX1_trade_0 : decode cX1_trade 0 = .ok (.iconst 0, 1) := by decide +kernel
theorem dX1_trade_1 : decode cX1_trade 1 = .ok (.istore_n 1, 1) := by decide +kernel
theorem dX1_trade_2 : decode cX1_trade 2 = .ok (.iload_n 1, 1) := by decide +kernel
theorem dX1_trade_3 : decode cX1_trade 3 = .ok (.aload_n 0, 1) := by decide +kernel
theorem dX1_trade_4 : decode cX1_trade 4 = .ok (.getfield 34, 3) := by decide +kernel
theorem dX1_trade_7 : decode cX1_trade 7 = .ok (.if_icmp .ge 111, 3) := by decide +kernel
theorem dX1_trade_10 : decode cX1_trade 10 = .ok (.aload_n 0, 1) := by decide +kernel
theorem dX1_trade_11 : decode cX1_trade 11 = .ok (.getfield 37, 3) := by decide +kernel
theorem dX1_trade_14 : decode cX1_trade 14 = .ok (.iload_n 1, 1) := by decide +kernel
theorem dX1_trade_15 : decode cX1_trade 15 = .ok (.aaload, 1) := by decide +kernel
theorem dX1_trade_16 : decode cX1_trade 16 = .ok (.astore_n 2, 1) := by decide +kernel
theorem dX1_trade_17 : decode cX1_trade 17 = .ok (.aload_n 0, 1) := by decide +kernel
theorem dX1_trade_18 : decode cX1_trade 18 = .ok (.aload_n 2, 1) := by decide +kernel
theorem dX1_trade_19 : decode cX1_trade 19 = .ok (.getfield 121, 3) := by decide +kernel
theorem dX1_trade_22 : decode cX1_trade 22 = .ok (.invokevirtual 110, 3) := by decide +kernel
theorem dX1_trade_25 : decode cX1_trade 25 = .ok (.ifCond .eq 68, 3) := by decide +kernel
theorem dX1_trade_28 : decode cX1_trade 28 = .ok (.aload_n 0, 1) := by decide +kernel
theorem dX1_trade_29 : decode cX1_trade 29 = .ok (.getfield 44, 3) := by decide +kernel
theorem dX1_trade_32 : decode cX1_trade 32 = .ok (.aload_n 2, 1) := by decide +kernel
theorem dX1_trade_33 : decode cX1_trade 33 = .ok (.getfield 121, 3) := by decide +kernel
theorem dX1_trade_36 : decode cX1_trade 36 = .ok (.aaload, 1) := by decide +kernel
theorem dX1_trade_37 : decode cX1_trade 37 = .ok (.astore_n 3, 1) := by decide +kernel
theorem dX1_trade_38 : decode cX1_trade 38 = .ok (.aload_n 2, 1) := by decide +kernel
theorem dX1_trade_39 : decode cX1_trade 39 = .ok (.dup, 1) := by decide +kernel
theorem dX1_trade_40 : decode cX1_trade 40 = .ok (.getfield 158, 3) := by decide +kernel
theorem dX1_trade_43 : decode cX1_trade 43 = .ok (.aload_n 3, 1) := by decide +kernel
theorem dX1_trade_44 : decode cX1_trade 44 = .ok (.getfield 161, 3) := by decide +kernel
theorem dX1_trade_47 : decode cX1_trade 47 = .ok (.i2l, 1) := by decide +kernel
theorem dX1_trade_48 : decode cX1_trade 48 = .ok (.ladd, 1) := by decide +kernel
theorem dX1_trade_49 : decode cX1_trade 49 = .ok (.putfield 158, 3) := by decide +kernel
theorem dX1_trade_52 : decode cX1_trade 52 = .ok (.aload_n 2, 1) := by decide +kernel
theorem dX1_trade_53 : decode cX1_trade 53 = .ok (.dup, 1) := by decide +kernel
theorem dX1_trade_54 : decode cX1_trade 54 = .ok (.getfield 164, 3) := by decide +kernel
theorem dX1_trade_57 : decode cX1_trade 57 = .ok (.iconst 1, 1) := by decide +kernel
theorem dX1_trade_58 : decode cX1_trade 58 = .ok (.iadd, 1) := by decide +kernel
theorem dX1_trade_59 : decode cX1_trade 59 = .ok (.putfield 164, 3) := by decide +kernel
theorem dX1_trade_62 : decode cX1_trade 62 = .ok (.aload_n 2, 1) := by decide +kernel
theorem dX1_trade_63 : decode cX1_trade 63 = .ok (.iconst 0, 1) := by decide +kernel
theorem dX1_trade_64 : decode cX1_trade 64 = .ok (.putfield 95, 3) := by decide +kernel
theorem dX1_trade_67 : decode cX1_trade 67 = .ok (.aload_n 3, 1) := by decide +kernel
theorem dX1_trade_68 : decode cX1_trade 68 = .ok (.dup, 1) := by decide +kernel
theorem dX1_trade_69 : decode cX1_trade 69 = .ok (.getfield 167, 3) := by decide +kernel
theorem dX1_trade_72 : decode cX1_trade 72 = .ok (.aload_n 3, 1) := by decide +kernel
theorem dX1_trade_73 : decode cX1_trade 73 = .ok (.getfield 161, 3) := by decide +kernel
theorem dX1_trade_76 : decode cX1_trade 76 = .ok (.iadd, 1) := by decide +kernel
theorem dX1_trade_77 : decode cX1_trade 77 = .ok (.putfield 167, 3) := by decide +kernel
theorem dX1_trade_80 : decode cX1_trade 80 = .ok (.aload_n 3, 1) := by decide +kernel
theorem dX1_trade_81 : decode cX1_trade 81 = .ok (.dup, 1) := by decide +kernel
theorem dX1_trade_82 : decode cX1_trade 82 = .ok (.getfield 170, 3) := by decide +kernel
theorem dX1_trade_85 : decode cX1_trade 85 = .ok (.iconst 1, 1) := by decide +kernel
theorem dX1_trade_86 : decode cX1_trade 86 = .ok (.iadd, 1) := by decide +kernel
theorem dX1_trade_87 : decode cX1_trade 87 = .ok (.putfield 170, 3) := by decide +kernel
theorem dX1_trade_90 : decode cX1_trade 90 = .ok (.goto 22, 3) := by decide +kernel
theorem dX1_trade_93 : decode cX1_trade 93 = .ok (.aload_n 2, 1) := by decide +kernel
theorem dX1_trade_94 : decode cX1_trade 94 = .ok (.getfield 81, 3) := by decide +kernel
theorem dX1_trade_97 : decode cX1_trade 97 = .ok (.bipush (-6), 2) := by decide +kernel
theorem dX1_trade_99 : decode cX1_trade 99 = .ok (.if_icmp .eq 13, 3) := by decide +kernel
theorem dX1_trade_102 : decode cX1_trade 102 = .ok (.aload_n 2, 1) := by decide +kernel
theorem dX1_trade_103 : decode cX1_trade 103 = .ok (.dup, 1) := by decide +kernel
theorem dX1_trade_104 : decode cX1_trade 104 = .ok (.getfield 95, 3) := by decide +kernel
theorem dX1_trade_107 : decode cX1_trade 107 = .ok (.iconst 1, 1) := by decide +kernel
theorem dX1_trade_108 : decode cX1_trade 108 = .ok (.iadd, 1) := by decide +kernel
theorem dX1_trade_109 : decode cX1_trade 109 = .ok (.putfield 95, 3) := by decide +kernel
theorem dX1_trade_112 : decode cX1_trade 112 = .ok (.iinc 1 1, 3) := by decide +kernel
theorem dX1_trade_115 : decode cX1_trade 115 = .ok (.goto (-113), 3) := by decide +kernel
theorem dX1_trade_118 : decode cX1_trade 118 = .ok (.return_, 1) := by decide +kernel
theorem dX2_init_0 : decode cX2_init 0 = .ok (.aload_n 0, 1) := by decide +kernel
theorem dX2_init_1 : decode cX2_init 1 = .ok (.invokespecial 3, 3) := by decide +kernel
theorem dX2_init_4 : decode cX2_init 4 = .ok (.aload_n 0, 1) := by decide +kernel
theorem dX2_init_5 : decode cX2_init 5 = .ok (.bipush 7, 2) := by decide +kernel
theorem dX2_init_7 : decode cX2_init 7 = .ok (.anewarray 11, 3) := by decide +kernel
theorem dX2_init_10 : decode cX2_init 10 = .ok (.putfield 13, 3) := by decide +kernel
theorem dX2_init_13 : decode cX2_init 13 = .ok (.iconst 0, 1) := by decide +kernel
theorem dX2_init_14 : decode cX2_init 14 = .ok (.istore_n 1, 1) := by decide +kernel
theorem dX2_init_15 : decode cX2_init 15 = .ok (.iload_n 1, 1) := by decide +kernel
theorem dX2_init_16 : decode cX2_init 16 = .ok (.bipush 7, 2) := by decide +kernel
theorem dX2_init_18 : decode cX2_init 18 = .ok (.if_icmp .ge 22, 3) := by decide +kernel
theorem dX2_init_21 : decode cX2_init 21 = .ok (.aload_n 0, 1) := by decide +kernel
theorem dX2_init_22 : decode cX2_init 22 = .ok (.getfield 13, 3) := by decide +kernel
theorem dX2_init_25 : decode cX2_init 25 = .ok (.iload_n 1, 1) := by decide +kernel
theorem dX2_init_26 : decode cX2_init 26 = .ok (.new 11, 3) := by decide +kernel
theorem dX2_init_29 : decode cX2_init 29 = .ok (.dup, 1) := by decide +kernel
theorem dX2_init_30 : decode cX2_init 30 = .ok (.invokespecial 17, 3) := by decide +kernel
theorem dX2_init_33 : decode cX2_init 33 = .ok (.aastore, 1) := by decide +kernel
theorem dX2_init_34 : decode cX2_init 34 = .ok (.iinc 1 1, 3) := by decide +kernel
theorem dX2_init_37 : decode cX2_init 37 = .ok (.goto (-22), 3) := by decide +kernel
theorem dX2_init_40 : decode cX2_init 40 = .ok (.return_, 1) := by decide +kernel
theorem dX2_prepare_0 : decode cX2_prepare 0 = .ok (.aload_n 0, 1) := by decide +kernel
theorem dX2_prepare_1 : decode cX2_prepare 1 = .ok (.getfield 13, 3) := by decide +kernel
theorem dX2_prepare_4 : decode cX2_prepare 4 = .ok (.aload_n 0, 1) := by decide +kernel
theorem dX2_prepare_5 : decode cX2_prepare 5 = .ok (.getfield 18, 3) := by decide +kernel
theorem dX2_prepare_8 : decode cX2_prepare 8 = .ok (.aload_n 0, 1) := by decide +kernel
theorem dX2_prepare_9 : decode cX2_prepare 9 = .ok (.getfield 22, 3) := by decide +kernel
theorem dX2_prepare_12 : decode cX2_prepare 12 = .ok (.iadd, 1) := by decide +kernel
theorem dX2_prepare_13 : decode cX2_prepare 13 = .ok (.bipush 7, 2) := by decide +kernel
theorem dX2_prepare_15 : decode cX2_prepare 15 = .ok (.irem, 1) := by decide +kernel
theorem dX2_prepare_16 : decode cX2_prepare 16 = .ok (.aaload, 1) := by decide +kernel
theorem dX2_prepare_17 : decode cX2_prepare 17 = .ok (.aload_n 1, 1) := by decide +kernel
theorem dX2_prepare_18 : decode cX2_prepare 18 = .ok (.invokevirtual 25, 3) := by decide +kernel
theorem dX2_prepare_21 : decode cX2_prepare 21 = .ok (.return_, 1) := by decide +kernel
theorem dX2_keepPrepared_0 : decode cX2_keepPrepared 0 = .ok (.aload_n 0, 1) := by decide +kernel
theorem dX2_keepPrepared_1 : decode cX2_keepPrepared 1 = .ok (.getfield 22, 3) := by decide +kernel
theorem dX2_keepPrepared_4 : decode cX2_keepPrepared 4 = .ok (.bipush 6, 2) := by decide +kernel
theorem dX2_keepPrepared_6 : decode cX2_keepPrepared 6 = .ok (.if_icmp .ge 16, 3) := by decide +kernel
theorem dX2_keepPrepared_9 : decode cX2_keepPrepared 9 = .ok (.aload_n 0, 1) := by decide +kernel
theorem dX2_keepPrepared_10 : decode cX2_keepPrepared 10 = .ok (.dup, 1) := by decide +kernel
theorem dX2_keepPrepared_11 : decode cX2_keepPrepared 11 = .ok (.getfield 22, 3) := by decide +kernel
theorem dX2_keepPrepared_14 : decode cX2_keepPrepared 14 = .ok (.iconst 1, 1) := by decide +kernel
theorem dX2_keepPrepared_15 : decode cX2_keepPrepared 15 = .ok (.iadd, 1) := by decide +kernel
theorem dX2_keepPrepared_16 : decode cX2_keepPrepared 16 = .ok (.putfield 22, 3) := by decide +kernel
theorem dX2_keepPrepared_19 : decode cX2_keepPrepared 19 = .ok (.goto 16, 3) := by decide +kernel
theorem dX2_keepPrepared_22 : decode cX2_keepPrepared 22 = .ok (.aload_n 0, 1) := by decide +kernel
theorem dX2_keepPrepared_23 : decode cX2_keepPrepared 23 = .ok (.aload_n 0, 1) := by decide +kernel
theorem dX2_keepPrepared_24 : decode cX2_keepPrepared 24 = .ok (.getfield 18, 3) := by decide +kernel
theorem dX2_keepPrepared_27 : decode cX2_keepPrepared 27 = .ok (.iconst 1, 1) := by decide +kernel
theorem dX2_keepPrepared_28 : decode cX2_keepPrepared 28 = .ok (.iadd, 1) := by decide +kernel
theorem dX2_keepPrepared_29 : decode cX2_keepPrepared 29 = .ok (.bipush 7, 2) := by decide +kernel
theorem dX2_keepPrepared_31 : decode cX2_keepPrepared 31 = .ok (.irem, 1) := by decide +kernel
theorem dX2_keepPrepared_32 : decode cX2_keepPrepared 32 = .ok (.putfield 18, 3) := by decide +kernel
theorem dX2_keepPrepared_35 : decode cX2_keepPrepared 35 = .ok (.return_, 1) := by decide +kernel
theorem dX2_takeBack_0 : decode cX2_takeBack 0 = .ok (.aload_n 0, 1) := by decide +kernel
theorem dX2_takeBack_1 : decode cX2_takeBack 1 = .ok (.getfield 22, 3) := by decide +kernel
theorem dX2_takeBack_4 : decode cX2_takeBack 4 = .ok (.ifCond .le 34, 3) := by decide +kernel
theorem dX2_takeBack_7 : decode cX2_takeBack 7 = .ok (.aload_n 0, 1) := by decide +kernel
theorem dX2_takeBack_8 : decode cX2_takeBack 8 = .ok (.dup, 1) := by decide +kernel
theorem dX2_takeBack_9 : decode cX2_takeBack 9 = .ok (.getfield 22, 3) := by decide +kernel
theorem dX2_takeBack_12 : decode cX2_takeBack 12 = .ok (.iconst 1, 1) := by decide +kernel
theorem dX2_takeBack_13 : decode cX2_takeBack 13 = .ok (.isub, 1) := by decide +kernel
theorem dX2_takeBack_14 : decode cX2_takeBack 14 = .ok (.putfield 22, 3) := by decide +kernel
theorem dX2_takeBack_17 : decode cX2_takeBack 17 = .ok (.aload_n 1, 1) := by decide +kernel
theorem dX2_takeBack_18 : decode cX2_takeBack 18 = .ok (.aload_n 0, 1) := by decide +kernel
theorem dX2_takeBack_19 : decode cX2_takeBack 19 = .ok (.getfield 13, 3) := by decide +kernel
theorem dX2_takeBack_22 : decode cX2_takeBack 22 = .ok (.aload_n 0, 1) := by decide +kernel
theorem dX2_takeBack_23 : decode cX2_takeBack 23 = .ok (.getfield 18, 3) := by decide +kernel
theorem dX2_takeBack_26 : decode cX2_takeBack 26 = .ok (.aload_n 0, 1) := by decide +kernel
theorem dX2_takeBack_27 : decode cX2_takeBack 27 = .ok (.getfield 22, 3) := by decide +kernel
theorem dX2_takeBack_30 : decode cX2_takeBack 30 = .ok (.iadd, 1) := by decide +kernel
theorem dX2_takeBack_31 : decode cX2_takeBack 31 = .ok (.bipush 7, 2) := by decide +kernel
theorem dX2_takeBack_33 : decode cX2_takeBack 33 = .ok (.irem, 1) := by decide +kernel
theorem dX2_takeBack_34 : decode cX2_takeBack 34 = .ok (.aaload, 1) := by decide +kernel
theorem dX2_takeBack_35 : decode cX2_takeBack 35 = .ok (.invokevirtual 25, 3) := by decide +kernel
theorem dX2_takeBack_38 : decode cX2_takeBack 38 = .ok (.return_, 1) := by decide +kernel
theorem dX3_init_0 : decode cX3_init 0 = .ok (.aload_n 0, 1) := by decide +kernel
theorem dX3_init_1 : decode cX3_init 1 = .ok (.invokespecial 3, 3) := by decide +kernel
theorem dX3_init_4 : decode cX3_init 4 = .ok (.aload_n 0, 1) := by decide +kernel
theorem dX3_init_5 : decode cX3_init 5 = .ok (.bipush 80, 2) := by decide +kernel
theorem dX3_init_7 : decode cX3_init 7 = .ok (.newarray .char, 2) := by decide +kernel
theorem dX3_init_9 : decode cX3_init 9 = .ok (.putfield 9, 3) := by decide +kernel
theorem dX3_init_12 : decode cX3_init 12 = .ok (.return_, 1) := by decide +kernel
theorem dX3_append_0 : decode cX3_append 0 = .ok (.lload_n 1, 1) := by decide +kernel
theorem dX3_append_1 : decode cX3_append 1 = .ok (.invokestatic 15, 3) := by decide +kernel
theorem dX3_append_4 : decode cX3_append 4 = .ok (.istore_n 3, 1) := by decide +kernel
theorem dX3_append_5 : decode cX3_append 5 = .ok (.iload_n 3, 1) := by decide +kernel
theorem dX3_append_6 : decode cX3_append 6 = .ok (.iconst 1, 1) := by decide +kernel
theorem dX3_append_7 : decode cX3_append 7 = .ok (.if_icmp .ge 6, 3) := by decide +kernel
theorem dX3_append_10 : decode cX3_append 10 = .ok (.bipush (-2), 2) := by decide +kernel
theorem dX3_append_12 : decode cX3_append 12 = .ok (.ireturn, 1) := by decide +kernel
theorem dX3_append_13 : decode cX3_append 13 = .ok (.aload_n 0, 1) := by decide +kernel
theorem dX3_append_14 : decode cX3_append 14 = .ok (.getfield 19, 3) := by decide +kernel
theorem dX3_append_17 : decode cX3_append 17 = .ok (.iload_n 3, 1) := by decide +kernel
theorem dX3_append_18 : decode cX3_append 18 = .ok (.iadd, 1) := by decide +kernel
theorem dX3_append_19 : decode cX3_append 19 = .ok (.bipush 80, 2) := by decide +kernel
theorem dX3_append_21 : decode cX3_append 21 = .ok (.if_icmp .le 6, 3) := by decide +kernel
theorem dX3_append_24 : decode cX3_append 24 = .ok (.bipush (-4), 2) := by decide +kernel
theorem dX3_append_26 : decode cX3_append 26 = .ok (.ireturn, 1) := by decide +kernel
theorem dX3_append_27 : decode cX3_append 27 = .ok (.iload_n 3, 1) := by decide +kernel
theorem dX3_append_28 : decode cX3_append 28 = .ok (.iconst 1, 1) := by decide +kernel
theorem dX3_append_29 : decode cX3_append 29 = .ok (.isub, 1) := by decide +kernel
theorem dX3_append_30 : decode cX3_append 30 = .ok (.istore 4, 2) := by decide +kernel
theorem dX3_append_32 : decode cX3_append 32 = .ok (.iload 4, 2) := by decide +kernel
theorem dX3_append_34 : decode cX3_append 34 = .ok (.ifCond .lt 35, 3) := by decide +kernel
theorem dX3_append_37 : decode cX3_append 37 = .ok (.aload_n 0, 1) := by decide +kernel
theorem dX3_append_38 : decode cX3_append 38 = .ok (.getfield 9, 3) := by decide +kernel
theorem dX3_append_41 : decode cX3_append 41 = .ok (.aload_n 0, 1) := by decide +kernel
theorem dX3_append_42 : decode cX3_append 42 = .ok (.getfield 19, 3) := by decide +kernel
theorem dX3_append_45 : decode cX3_append 45 = .ok (.lload_n 1, 1) := by decide +kernel
theorem dX3_append_46 : decode cX3_append 46 = .ok (.iload 4, 2) := by decide +kernel
theorem dX3_append_48 : decode cX3_append 48 = .ok (.invokestatic 23, 3) := by decide +kernel
theorem dX3_append_51 : decode cX3_append 51 = .ok (.i2c, 1) := by decide +kernel
theorem dX3_append_52 : decode cX3_append 52 = .ok (.castore, 1) := by decide +kernel
theorem dX3_append_53 : decode cX3_append 53 = .ok (.aload_n 0, 1) := by decide +kernel
theorem dX3_append_54 : decode cX3_append 54 = .ok (.dup, 1) := by decide +kernel
theorem dX3_append_55 : decode cX3_append 55 = .ok (.getfield 19, 3) := by decide +kernel
theorem dX3_append_58 : decode cX3_append 58 = .ok (.iconst 1, 1) := by decide +kernel
theorem dX3_append_59 : decode cX3_append 59 = .ok (.iadd, 1) := by decide +kernel
theorem dX3_append_60 : decode cX3_append 60 = .ok (.putfield 19, 3) := by decide +kernel
theorem dX3_append_63 : decode cX3_append 63 = .ok (.iinc 4 (-1), 3) := by decide +kernel
theorem dX3_append_66 : decode cX3_append 66 = .ok (.goto (-34), 3) := by decide +kernel
theorem dX3_append_69 : decode cX3_append 69 = .ok (.aload_n 0, 1) := by decide +kernel
theorem dX3_append_70 : decode cX3_append 70 = .ok (.getfield 19, 3) := by decide +kernel
theorem dX3_append_73 : decode cX3_append 73 = .ok (.ireturn, 1) := by decide +kernel
theorem dX3_countGiven_0 : decode cX3_countGiven 0 = .ok (.iconst 0, 1) := by decide +kernel
theorem dX3_countGiven_1 : decode cX3_countGiven 1 = .ok (.istore_n 2, 1) := by decide +kernel
theorem dX3_countGiven_2 : decode cX3_countGiven 2 = .ok (.iconst 0, 1) := by decide +kernel
theorem dX3_countGiven_3 : decode cX3_countGiven 3 = .ok (.istore_n 3, 1) := by decide +kernel
theorem dX3_countGiven_4 : decode cX3_countGiven 4 = .ok (.iload_n 3, 1) := by decide +kernel
theorem dX3_countGiven_5 : decode cX3_countGiven 5 = .ok (.bipush 8, 2) := by decide +kernel
theorem dX3_countGiven_7 : decode cX3_countGiven 7 = .ok (.if_icmp .ge 49, 3) := by decide +kernel
theorem dX3_countGiven_10 : decode cX3_countGiven 10 = .ok (.lload_n 0, 1) := by decide +kernel
theorem dX3_countGiven_11 : decode cX3_countGiven 11 = .ok (.iload_n 3, 1) := by decide +kernel
theorem dX3_countGiven_12 : decode cX3_countGiven 12 = .ok (.invokestatic 23, 3) := by decide +kernel
theorem dX3_countGiven_15 : decode cX3_countGiven 15 = .ok (.istore 4, 2) := by decide +kernel
theorem dX3_countGiven_17 : decode cX3_countGiven 17 = .ok (.iload 4, 2) := by decide +kernel
theorem dX3_countGiven_19 : decode cX3_countGiven 19 = .ok (.ifCond .ne 6, 3) := by decide +kernel
theorem dX3_countGiven_22 : decode cX3_countGiven 22 = .ok (.goto 28, 3) := by decide +kernel
theorem dX3_countGiven_25 : decode cX3_countGiven 25 = .ok (.iload 4, 2) := by decide +kernel
theorem dX3_countGiven_27 : decode cX3_countGiven 27 = .ok (.bipush 33, 2) := by decide +kernel
theorem dX3_countGiven_29 : decode cX3_countGiven 29 = .ok (.if_icmp .lt 15, 3) := by decide +kernel
theorem dX3_countGiven_32 : decode cX3_countGiven 32 = .ok (.iload 4, 2) := by decide +kernel
theorem dX3_countGiven_34 : decode cX3_countGiven 34 = .ok (.bipush 126, 2) := by decide +kernel
theorem dX3_countGiven_36 : decode cX3_countGiven 36 = .ok (.if_icmp .gt 8, 3) := by decide +kernel
theorem dX3_countGiven_39 : decode cX3_countGiven 39 = .ok (.iload_n 2, 1) := by decide +kernel
theorem dX3_countGiven_40 : decode cX3_countGiven 40 = .ok (.iload_n 3, 1) := by decide +kernel
theorem dX3_countGiven_41 : decode cX3_countGiven 41 = .ok (.if_icmp .ge 6, 3) := by decide +kernel
theorem dX3_countGiven_44 : decode cX3_countGiven 44 = .ok (.bipush (-2), 2) := by decide +kernel
theorem dX3_countGiven_46 : decode cX3_countGiven 46 = .ok (.ireturn, 1) := by decide +kernel
theorem dX3_countGiven_47 : decode cX3_countGiven 47 = .ok (.iinc 2 1, 3) := by decide +kernel
theorem dX3_countGiven_50 : decode cX3_countGiven 50 = .ok (.iinc 3 1, 3) := by decide +kernel
theorem dX3_countGiven_53 : decode cX3_countGiven 53 = .ok (.goto (-49), 3) := by decide +kernel
theorem dX3_countGiven_56 : decode cX3_countGiven 56 = .ok (.iload_n 2, 1) := by decide +kernel
theorem dX3_countGiven_57 : decode cX3_countGiven 57 = .ok (.ireturn, 1) := by decide +kernel
theorem dX3_codeAt_0 : decode cX3_codeAt 0 = .ok (.lload_n 0, 1) := by decide +kernel
theorem dX3_codeAt_1 : decode cX3_codeAt 1 = .ok (.bipush 8, 2) := by decide +kernel
theorem dX3_codeAt_3 : decode cX3_codeAt 3 = .ok (.iload_n 2, 1) := by decide +kernel
theorem dX3_codeAt_4 : decode cX3_codeAt 4 = .ok (.imul, 1) := by decide +kernel
theorem dX3_codeAt_5 : decode cX3_codeAt 5 = .ok (.lushr, 1) := by decide +kernel
theorem dX3_codeAt_6 : decode cX3_codeAt 6 = .ok (.l2i, 1) := by decide +kernel
theorem dX3_codeAt_7 : decode cX3_codeAt 7 = .ok (.sipush 255, 3) := by decide +kernel
theorem dX3_codeAt_10 : decode cX3_codeAt 10 = .ok (.iand, 1) := by decide +kernel
theorem dX3_codeAt_11 : decode cX3_codeAt 11 = .ok (.ireturn, 1) := by decide +kernel
theorem dX3_signAt_0 : decode cX3_signAt 0 = .ok (.iload_n 1, 1) := by decide +kernel
theorem dX3_signAt_1 : decode cX3_signAt 1 = .ok (.ifCond .lt 26, 3) := by decide +kernel
theorem dX3_signAt_4 : decode cX3_signAt 4 = .ok (.iload_n 1, 1) := by decide +kernel
theorem dX3_signAt_5 : decode cX3_signAt 5 = .ok (.aload_n 0, 1) := by decide +kernel
theorem dX3_signAt_6 : decode cX3_signAt 6 = .ok (.getfield 19, 3) := by decide +kernel
theorem dX3_signAt_9 : decode cX3_signAt 9 = .ok (.if_icmp .ge 18, 3) := by decide +kernel
theorem dX3_signAt_12 : decode cX3_signAt 12 = .ok (.iload_n 1, 1) := by decide +kernel
theorem dX3_signAt_13 : decode cX3_signAt 13 = .ok (.bipush 80, 2) := by decide +kernel
theorem dX3_signAt_15 : decode cX3_signAt 15 = .ok (.if_icmp .ge 12, 3) := by decide +kernel
theorem dX3_signAt_18 : decode cX3_signAt 18 = .ok (.aload_n 0, 1) := by decide +kernel
theorem dX3_signAt_19 : decode cX3_signAt 19 = .ok (.getfield 9, 3) := by decide +kernel
theorem dX3_signAt_22 : decode cX3_signAt 22 = .ok (.iload_n 1, 1) := by decide +kernel
theorem dX3_signAt_23 : decode cX3_signAt 23 = .ok (.caload, 1) := by decide +kernel
theorem dX3_signAt_24 : decode cX3_signAt 24 = .ok (.goto 4, 3) := by decide +kernel
theorem dX3_signAt_27 : decode cX3_signAt 27 = .ok (.iconst 0, 1) := by decide +kernel
theorem dX3_signAt_28 : decode cX3_signAt 28 = .ok (.ireturn, 1) := by decide +kernel
theorem dX3_findFault_0 : decode cX3_findFault 0 = .ok (.iconst 4, 1) := by decide +kernel
theorem dX3_findFault_1 : decode cX3_findFault 1 = .ok (.istore_n 1, 1) := by decide +kernel
theorem dX3_findFault_2 : decode cX3_findFault 2 = .ok (.iconst 0, 1) := by decide +kernel
theorem dX3_findFault_3 : decode cX3_findFault 3 = .ok (.istore_n 2, 1) := by decide +kernel
theorem dX3_findFault_4 : decode cX3_findFault 4 = .ok (.iload_n 2, 1) := by decide +kernel
theorem dX3_findFault_5 : decode cX3_findFault 5 = .ok (.aload_n 0, 1) := by decide +kernel
theorem dX3_findFault_6 : decode cX3_findFault 6 = .ok (.getfield 19, 3) := by decide +kernel
theorem dX3_findFault_9 : decode cX3_findFault 9 = .ok (.if_icmp .ge 27, 3) := by decide +kernel
theorem dX3_findFault_12 : decode cX3_findFault 12 = .ok (.iload_n 1, 1) := by decide +kernel
theorem dX3_findFault_13 : decode cX3_findFault 13 = .ok (.aload_n 0, 1) := by decide +kernel
theorem dX3_findFault_14 : decode cX3_findFault 14 = .ok (.iload_n 2, 1) := by decide +kernel
theorem dX3_findFault_15 : decode cX3_findFault 15 = .ok (.invokevirtual 27, 3) := by decide +kernel
theorem dX3_findFault_18 : decode cX3_findFault 18 = .ok (.invokestatic 31, 3) := by decide +kernel
theorem dX3_findFault_21 : decode cX3_findFault 21 = .ok (.istore_n 1, 1) := by decide +kernel
theorem dX3_findFault_22 : decode cX3_findFault 22 = .ok (.iload_n 1, 1) := by decide +kernel
theorem dX3_findFault_23 : decode cX3_findFault 23 = .ok (.bipush 11, 2) := by decide +kernel
theorem dX3_findFault_25 : decode cX3_findFault 25 = .ok (.if_icmp .ne 5, 3) := by decide +kernel
theorem dX3_findFault_28 : decode cX3_findFault 28 = .ok (.iload_n 2, 1) := by decide +kernel
theorem dX3_findFault_29 : decode cX3_findFault 29 = .ok (.ireturn, 1) := by decide +kernel
theorem dX3_findFault_30 : decode cX3_findFault 30 = .ok (.iinc 2 1, 3) := by decide +kernel
theorem dX3_findFault_33 : decode cX3_findFault 33 = .ok (.goto (-29), 3) := by decide +kernel
theorem dX3_findFault_36 : decode cX3_findFault 36 = .ok (.iload_n 1, 1) := by decide +kernel
theorem dX3_findFault_37 : decode cX3_findFault 37 = .ok (.iconst 3, 1) := by decide +kernel
theorem dX3_findFault_38 : decode cX3_findFault 38 = .ok (.if_icmp .gt 8, 3) := by decide +kernel
theorem dX3_findFault_41 : decode cX3_findFault 41 = .ok (.bipush (-6), 2) := by decide +kernel
theorem dX3_findFault_43 : decode cX3_findFault 43 = .ok (.goto 7, 3) := by decide +kernel
theorem dX3_findFault_46 : decode cX3_findFault 46 = .ok (.aload_n 0, 1) := by decide +kernel
theorem dX3_findFault_47 : decode cX3_findFault 47 = .ok (.getfield 19, 3) := by decide +kernel
theorem dX3_findFault_50 : decode cX3_findFault 50 = .ok (.ireturn, 1) := by decide +kernel
theorem dX3_awaitedBehind_0 : decode cX3_awaitedBehind 0 = .ok (.iload_n 0, 1) := by decide +kernel
theorem dX3_awaitedBehind_1 : decode cX3_awaitedBehind 1 = .ok (.tableswitch 149 4 10 #[43, 48, 62, 77, 96, 111, 125], 43) := by decide +kernel
theorem dX3_awaitedBehind_44 : decode cX3_awaitedBehind 44 = .ok (.iload_n 1, 1) := by decide +kernel
theorem dX3_awaitedBehind_45 : decode cX3_awaitedBehind 45 = .ok (.invokestatic 35, 3) := by decide +kernel
theorem dX3_awaitedBehind_48 : decode cX3_awaitedBehind 48 = .ok (.ireturn, 1) := by decide +kernel
theorem dX3_awaitedBehind_49 : decode cX3_awaitedBehind 49 = .ok (.iload_n 1, 1) := by decide +kernel
theorem dX3_awaitedBehind_50 : decode cX3_awaitedBehind 50 = .ok (.invokestatic 38, 3) := by decide +kernel
theorem dX3_awaitedBehind_53 : decode cX3_awaitedBehind 53 = .ok (.ifCond .eq 7, 3) := by decide +kernel
theorem dX3_awaitedBehind_56 : decode cX3_awaitedBehind 56 = .ok (.iconst 3, 1) := by decide +kernel
theorem dX3_awaitedBehind_57 : decode cX3_awaitedBehind 57 = .ok (.goto 5, 3) := by decide +kernel
theorem dX3_awaitedBehind_60 : decode cX3_awaitedBehind 60 = .ok (.bipush 11, 2) := by decide +kernel
theorem dX3_awaitedBehind_62 : decode cX3_awaitedBehind 62 = .ok (.ireturn, 1) := by decide +kernel
theorem dX3_awaitedBehind_63 : decode cX3_awaitedBehind 63 = .ok (.iload_n 1, 1) := by decide +kernel
theorem dX3_awaitedBehind_64 : decode cX3_awaitedBehind 64 = .ok (.invokestatic 38, 3) := by decide +kernel
theorem dX3_awaitedBehind_67 : decode cX3_awaitedBehind 67 = .ok (.ifCond .eq 8, 3) := by decide +kernel
theorem dX3_awaitedBehind_70 : decode cX3_awaitedBehind 70 = .ok (.bipush 7, 2) := by decide +kernel
theorem dX3_awaitedBehind_72 : decode cX3_awaitedBehind 72 = .ok (.goto 5, 3) := by decide +kernel
theorem dX3_awaitedBehind_75 : decode cX3_awaitedBehind 75 = .ok (.bipush 11, 2) := by decide +kernel
theorem dX3_awaitedBehind_77 : decode cX3_awaitedBehind 77 = .ok (.ireturn, 1) := by decide +kernel
theorem dX3_awaitedBehind_78 : decode cX3_awaitedBehind 78 = .ok (.iload_n 1, 1) := by decide +kernel
theorem dX3_awaitedBehind_79 : decode cX3_awaitedBehind 79 = .ok (.bipush 49, 2) := by decide +kernel
theorem dX3_awaitedBehind_81 : decode cX3_awaitedBehind 81 = .ok (.if_icmp .lt 13, 3) := by decide +kernel
theorem dX3_awaitedBehind_84 : decode cX3_awaitedBehind 84 = .ok (.iload_n 1, 1) := by decide +kernel
theorem dX3_awaitedBehind_85 : decode cX3_awaitedBehind 85 = .ok (.bipush 57, 2) := by decide +kernel
theorem dX3_awaitedBehind_87 : decode cX3_awaitedBehind 87 = .ok (.if_icmp .gt 7, 3) := by decide +kernel
theorem dX3_awaitedBehind_90 : decode cX3_awaitedBehind 90 = .ok (.iconst 0, 1) := by decide +kernel
theorem dX3_awaitedBehind_91 : decode cX3_awaitedBehind 91 = .ok (.goto 5, 3) := by decide +kernel
theorem dX3_awaitedBehind_94 : decode cX3_awaitedBehind 94 = .ok (.bipush 11, 2) := by decide +kernel
theorem dX3_awaitedBehind_96 : decode cX3_awaitedBehind 96 = .ok (.ireturn, 1) := by decide +kernel
theorem dX3_awaitedBehind_97 : decode cX3_awaitedBehind 97 = .ok (.iload_n 1, 1) := by decide +kernel
theorem dX3_awaitedBehind_98 : decode cX3_awaitedBehind 98 = .ok (.invokestatic 38, 3) := by decide +kernel
theorem dX3_awaitedBehind_101 : decode cX3_awaitedBehind 101 = .ok (.ifCond .eq 8, 3) := by decide +kernel
theorem dX3_awaitedBehind_104 : decode cX3_awaitedBehind 104 = .ok (.bipush 9, 2) := by decide +kernel
theorem dX3_awaitedBehind_106 : decode cX3_awaitedBehind 106 = .ok (.goto 5, 3) := by decide +kernel
theorem dX3_awaitedBehind_109 : decode cX3_awaitedBehind 109 = .ok (.bipush 11, 2) := by decide +kernel
theorem dX3_awaitedBehind_111 : decode cX3_awaitedBehind 111 = .ok (.ireturn, 1) := by decide +kernel
theorem dX3_awaitedBehind_112 : decode cX3_awaitedBehind 112 = .ok (.iload_n 1, 1) := by decide +kernel
theorem dX3_awaitedBehind_113 : decode cX3_awaitedBehind 113 = .ok (.invokestatic 38, 3) := by decide +kernel
theorem dX3_awaitedBehind_116 : decode cX3_awaitedBehind 116 = .ok (.ifCond .eq 7, 3) := by decide +kernel
theorem dX3_awaitedBehind_119 : decode cX3_awaitedBehind 119 = .ok (.iconst 0, 1) := by decide +kernel
theorem dX3_awaitedBehind_120 : decode cX3_awaitedBehind 120 = .ok (.goto 5, 3) := by decide +kernel
theorem dX3_awaitedBehind_123 : decode cX3_awaitedBehind 123 = .ok (.bipush 11, 2) := by decide +kernel
theorem dX3_awaitedBehind_125 : decode cX3_awaitedBehind 125 = .ok (.ireturn, 1) := by decide +kernel
theorem dX3_awaitedBehind_126 : decode cX3_awaitedBehind 126 = .ok (.iload_n 1, 1) := by decide +kernel
theorem dX3_awaitedBehind_127 : decode cX3_awaitedBehind 127 = .ok (.invokestatic 42, 3) := by decide +kernel
theorem dX3_awaitedBehind_130 : decode cX3_awaitedBehind 130 = .ok (.ifCond .ne 8, 3) := by decide +kernel
theorem dX3_awaitedBehind_133 : decode cX3_awaitedBehind 133 = .ok (.bipush 11, 2) := by decide +kernel
theorem dX3_awaitedBehind_135 : decode cX3_awaitedBehind 135 = .ok (.goto 14, 3) := by decide +kernel
theorem dX3_awaitedBehind_138 : decode cX3_awaitedBehind 138 = .ok (.iload_n 1, 1) := by decide +kernel
theorem dX3_awaitedBehind_139 : decode cX3_awaitedBehind 139 = .ok (.bipush 48, 2) := by decide +kernel
theorem dX3_awaitedBehind_141 : decode cX3_awaitedBehind 141 = .ok (.if_icmp .ne 7, 3) := by decide +kernel
theorem dX3_awaitedBehind_144 : decode cX3_awaitedBehind 144 = .ok (.iconst 0, 1) := by decide +kernel
theorem dX3_awaitedBehind_145 : decode cX3_awaitedBehind 145 = .ok (.goto 4, 3) := by decide +kernel
theorem dX3_awaitedBehind_148 : decode cX3_awaitedBehind 148 = .ok (.iconst 1, 1) := by decide +kernel
theorem dX3_awaitedBehind_149 : decode cX3_awaitedBehind 149 = .ok (.ireturn, 1) := by decide +kernel
theorem dX3_awaitedBehind_150 : decode cX3_awaitedBehind 150 = .ok (.iload_n 1, 1) := by decide +kernel
theorem dX3_awaitedBehind_151 : decode cX3_awaitedBehind 151 = .ok (.bipush 59, 2) := by decide +kernel
theorem dX3_awaitedBehind_153 : decode cX3_awaitedBehind 153 = .ok (.if_icmp .ne 7, 3) := by decide +kernel
theorem dX3_awaitedBehind_156 : decode cX3_awaitedBehind 156 = .ok (.iconst 4, 1) := by decide +kernel
theorem dX3_awaitedBehind_157 : decode cX3_awaitedBehind 157 = .ok (.goto 22, 3) := by decide +kernel
theorem dX3_awaitedBehind_160 : decode cX3_awaitedBehind 160 = .ok (.iload_n 0, 1) := by decide +kernel
theorem dX3_awaitedBehind_161 : decode cX3_awaitedBehind 161 = .ok (.ifCond .le 16, 3) := by decide +kernel
theorem dX3_awaitedBehind_164 : decode cX3_awaitedBehind 164 = .ok (.iload_n 1, 1) := by decide +kernel
theorem dX3_awaitedBehind_165 : decode cX3_awaitedBehind 165 = .ok (.invokestatic 42, 3) := by decide +kernel
theorem dX3_awaitedBehind_168 : decode cX3_awaitedBehind 168 = .ok (.ifCond .eq 9, 3) := by decide +kernel
theorem dX3_awaitedBehind_171 : decode cX3_awaitedBehind 171 = .ok (.iload_n 0, 1) := by decide +kernel
theorem dX3_awaitedBehind_172 : decode cX3_awaitedBehind 172 = .ok (.iconst 1, 1) := by decide +kernel
theorem dX3_awaitedBehind_173 : decode cX3_awaitedBehind 173 = .ok (.isub, 1) := by decide +kernel
theorem dX3_awaitedBehind_174 : decode cX3_awaitedBehind 174 = .ok (.goto 5, 3) := by decide +kernel
theorem dX3_awaitedBehind_177 : decode cX3_awaitedBehind 177 = .ok (.bipush 11, 2) := by decide +kernel
theorem dX3_awaitedBehind_179 : decode cX3_awaitedBehind 179 = .ok (.ireturn, 1) := by decide +kernel
theorem dX3_awaitedBehindOrder_0 : decode cX3_awaitedBehindOrder 0 = .ok (.iload_n 0, 1) := by decide +kernel
theorem dX3_awaitedBehindOrder_1 : decode cX3_awaitedBehindOrder 1 = .ok (.lookupswitch 65 #[(99, 56), (100, 62), (102, 53), (115, 59), (119, 51)], 51) := by decide +kernel
theorem dX3_awaitedBehindOrder_52 : decode cX3_awaitedBehindOrder 52 = .ok (.iconst 5, 1) := by decide +kernel
theorem dX3_awaitedBehindOrder_53 : decode cX3_awaitedBehindOrder 53 = .ok (.ireturn, 1) := by decide +kernel
theorem dX3_awaitedBehindOrder_54 : decode cX3_awaitedBehindOrder 54 = .ok (.bipush 6, 2) := by decide +kernel
theorem dX3_awaitedBehindOrder_56 : decode cX3_awaitedBehindOrder 56 = .ok (.ireturn, 1) := by decide +kernel
theorem dX3_awaitedBehindOrder_57 : decode cX3_awaitedBehindOrder 57 = .ok (.bipush 9, 2) := by decide +kernel
theorem dX3_awaitedBehindOrder_59 : decode cX3_awaitedBehindOrder 59 = .ok (.ireturn, 1) := by decide +kernel
theorem dX3_awaitedBehindOrder_60 : decode cX3_awaitedBehindOrder 60 = .ok (.bipush 8, 2) := by decide +kernel
theorem dX3_awaitedBehindOrder_62 : decode cX3_awaitedBehindOrder 62 = .ok (.ireturn, 1) := by decide +kernel
theorem dX3_awaitedBehindOrder_63 : decode cX3_awaitedBehindOrder 63 = .ok (.bipush 10, 2) := by decide +kernel
theorem dX3_awaitedBehindOrder_65 : decode cX3_awaitedBehindOrder 65 = .ok (.ireturn, 1) := by decide +kernel
theorem dX3_awaitedBehindOrder_66 : decode cX3_awaitedBehindOrder 66 = .ok (.bipush 11, 2) := by decide +kernel
theorem dX3_awaitedBehindOrder_68 : decode cX3_awaitedBehindOrder 68 = .ok (.ireturn, 1) := by decide +kernel
theorem dX3_isCart_0 : decode cX3_isCart 0 = .ok (.iload_n 0, 1) := by decide +kernel
theorem dX3_isCart_1 : decode cX3_isCart 1 = .ok (.bipush 65, 2) := by decide +kernel
theorem dX3_isCart_3 : decode cX3_isCart 3 = .ok (.if_icmp .lt 13, 3) := by decide +kernel
theorem dX3_isCart_6 : decode cX3_isCart 6 = .ok (.iload_n 0, 1) := by decide +kernel
theorem dX3_isCart_7 : decode cX3_isCart 7 = .ok (.bipush 80, 2) := by decide +kernel
theorem dX3_isCart_9 : decode cX3_isCart 9 = .ok (.if_icmp .gt 7, 3) := by decide +kernel
theorem dX3_isCart_12 : decode cX3_isCart 12 = .ok (.iconst 1, 1) := by decide +kernel
theorem dX3_isCart_13 : decode cX3_isCart 13 = .ok (.goto 4, 3) := by decide +kernel
theorem dX3_isCart_16 : decode cX3_isCart 16 = .ok (.iconst 0, 1) := by decide +kernel
theorem dX3_isCart_17 : decode cX3_isCart 17 = .ok (.ireturn, 1) := by decide +kernel
theorem dX3_isDigit_0 : decode cX3_isDigit 0 = .ok (.iload_n 0, 1) := by decide +kernel
theorem dX3_isDigit_1 : decode cX3_isDigit 1 = .ok (.bipush 48, 2) := by decide +kernel
theorem dX3_isDigit_3 : decode cX3_isDigit 3 = .ok (.if_icmp .lt 13, 3) := by decide +kernel
theorem dX3_isDigit_6 : decode cX3_isDigit 6 = .ok (.iload_n 0, 1) := by decide +kernel
theorem dX3_isDigit_7 : decode cX3_isDigit 7 = .ok (.bipush 57, 2) := by decide +kernel
theorem dX3_isDigit_9 : decode cX3_isDigit 9 = .ok (.if_icmp .gt 7, 3) := by decide +kernel
theorem dX3_isDigit_12 : decode cX3_isDigit 12 = .ok (.iconst 1, 1) := by decide +kernel
theorem dX3_isDigit_13 : decode cX3_isDigit 13 = .ok (.goto 4, 3) := by decide +kernel
theorem dX3_isDigit_16 : decode cX3_isDigit 16 = .ok (.iconst 0, 1) := by decide +kernel
theorem dX3_isDigit_17 : decode cX3_isDigit 17 = .ok (.ireturn, 1) := by decide +kernel
theorem dX3_endsOrder_0 : decode cX3_endsOrder 0 = .ok (.iload_n 1, 1) := by decide +kernel
theorem dX3_endsOrder_1 : decode cX3_endsOrder 1 = .ok (.aload_n 0, 1) := by decide +kernel
theorem dX3_endsOrder_2 : decode cX3_endsOrder 2 = .ok (.getfield 19, 3) := by decide +kernel
theorem dX3_endsOrder_5 : decode cX3_endsOrder 5 = .ok (.if_icmp .eq 13, 3) := by decide +kernel
theorem dX3_endsOrder_8 : decode cX3_endsOrder 8 = .ok (.aload_n 0, 1) := by decide +kernel
theorem dX3_endsOrder_9 : decode cX3_endsOrder 9 = .ok (.iload_n 1, 1) := by decide +kernel
theorem dX3_endsOrder_10 : decode cX3_endsOrder 10 = .ok (.invokevirtual 27, 3) := by decide +kernel
theorem dX3_endsOrder_13 : decode cX3_endsOrder 13 = .ok (.bipush 59, 2) := by decide +kernel
theorem dX3_endsOrder_15 : decode cX3_endsOrder 15 = .ok (.if_icmp .ne 7, 3) := by decide +kernel
theorem dX3_endsOrder_18 : decode cX3_endsOrder 18 = .ok (.iconst 1, 1) := by decide +kernel
theorem dX3_endsOrder_19 : decode cX3_endsOrder 19 = .ok (.goto 4, 3) := by decide +kernel
theorem dX3_endsOrder_22 : decode cX3_endsOrder 22 = .ok (.iconst 0, 1) := by decide +kernel
theorem dX3_endsOrder_23 : decode cX3_endsOrder 23 = .ok (.ireturn, 1) := by decide +kernel
theorem dX3_wishAt_0 : decode cX3_wishAt 0 = .ok (.iload_n 1, 1) := by decide +kernel
theorem dX3_wishAt_1 : decode cX3_wishAt 1 = .ok (.iload_n 2, 1) := by decide +kernel
theorem dX3_wishAt_2 : decode cX3_wishAt 2 = .ok (.if_icmp .ge 14, 3) := by decide +kernel
theorem dX3_wishAt_5 : decode cX3_wishAt 5 = .ok (.aload_n 0, 1) := by decide +kernel
theorem dX3_wishAt_6 : decode cX3_wishAt 6 = .ok (.iload_n 1, 1) := by decide +kernel
theorem dX3_wishAt_7 : decode cX3_wishAt 7 = .ok (.invokevirtual 27, 3) := by decide +kernel
theorem dX3_wishAt_10 : decode cX3_wishAt 10 = .ok (.bipush 48, 2) := by decide +kernel
theorem dX3_wishAt_12 : decode cX3_wishAt 12 = .ok (.isub, 1) := by decide +kernel
theorem dX3_wishAt_13 : decode cX3_wishAt 13 = .ok (.goto 5, 3) := by decide +kernel
theorem dX3_wishAt_16 : decode cX3_wishAt 16 = .ok (.bipush (-6), 2) := by decide +kernel
theorem dX3_wishAt_18 : decode cX3_wishAt 18 = .ok (.ireturn, 1) := by decide +kernel
theorem dX3_numberAt_0 : decode cX3_numberAt 0 = .ok (.iconst 0, 1) := by decide +kernel
theorem dX3_numberAt_1 : decode cX3_numberAt 1 = .ok (.istore_n 3, 1) := by decide +kernel
theorem dX3_numberAt_2 : decode cX3_numberAt 2 = .ok (.iload_n 1, 1) := by decide +kernel
theorem dX3_numberAt_3 : decode cX3_numberAt 3 = .ok (.istore 4, 2) := by decide +kernel
theorem dX3_numberAt_5 : decode cX3_numberAt 5 = .ok (.iload 4, 2) := by decide +kernel
theorem dX3_numberAt_7 : decode cX3_numberAt 7 = .ok (.iload_n 2, 1) := by decide +kernel
theorem dX3_numberAt_8 : decode cX3_numberAt 8 = .ok (.if_icmp .ge 24, 3) := by decide +kernel
theorem dX3_numberAt_11 : decode cX3_numberAt 11 = .ok (.bipush 10, 2) := by decide +kernel
theorem dX3_numberAt_13 : decode cX3_numberAt 13 = .ok (.iload_n 3, 1) := by decide +kernel
theorem dX3_numberAt_14 : decode cX3_numberAt 14 = .ok (.imul, 1) := by decide +kernel
theorem dX3_numberAt_15 : decode cX3_numberAt 15 = .ok (.aload_n 0, 1) := by decide +kernel
theorem dX3_numberAt_16 : decode cX3_numberAt 16 = .ok (.iload 4, 2) := by decide +kernel
theorem dX3_numberAt_18 : decode cX3_numberAt 18 = .ok (.invokevirtual 27, 3) := by decide +kernel
theorem dX3_numberAt_21 : decode cX3_numberAt 21 = .ok (.iadd, 1) := by decide +kernel
theorem dX3_numberAt_22 : decode cX3_numberAt 22 = .ok (.bipush 48, 2) := by decide +kernel
theorem dX3_numberAt_24 : decode cX3_numberAt 24 = .ok (.isub, 1) := by decide +kernel
theorem dX3_numberAt_25 : decode cX3_numberAt 25 = .ok (.istore_n 3, 1) := by decide +kernel
theorem dX3_numberAt_26 : decode cX3_numberAt 26 = .ok (.iinc 4 1, 3) := by decide +kernel
theorem dX3_numberAt_29 : decode cX3_numberAt 29 = .ok (.goto (-24), 3) := by decide +kernel
theorem dX3_numberAt_32 : decode cX3_numberAt 32 = .ok (.iload_n 3, 1) := by decide +kernel
theorem dX3_numberAt_33 : decode cX3_numberAt 33 = .ok (.ireturn, 1) := by decide +kernel
theorem dX4_init_0 : decode cX4_init 0 = .ok (.aload_n 0, 1) := by decide +kernel
theorem dX4_init_1 : decode cX4_init 1 = .ok (.invokespecial 3, 3) := by decide +kernel
theorem dX4_init_4 : decode cX4_init 4 = .ok (.return_, 1) := by decide +kernel
theorem dX4_begin_0 : decode cX4_begin 0 = .ok (.aload_n 0, 1) := by decide +kernel
theorem dX4_begin_1 : decode cX4_begin 1 = .ok (.iload_n 1, 1) := by decide +kernel
theorem dX4_begin_2 : decode cX4_begin 2 = .ok (.putfield 9, 3) := by decide +kernel
theorem dX4_begin_5 : decode cX4_begin 5 = .ok (.aload_n 0, 1) := by decide +kernel
theorem dX4_begin_6 : decode cX4_begin 6 = .ok (.iconst 0, 1) := by decide +kernel
theorem dX4_begin_7 : decode cX4_begin 7 = .ok (.putfield 15, 3) := by decide +kernel
theorem dX4_begin_10 : decode cX4_begin 10 = .ok (.aload_n 0, 1) := by decide +kernel
theorem dX4_begin_11 : decode cX4_begin 11 = .ok (.iconst 0, 1) := by decide +kernel
theorem dX4_begin_12 : decode cX4_begin 12 = .ok (.putfield 18, 3) := by decide +kernel
theorem dX4_begin_15 : decode cX4_begin 15 = .ok (.aload_n 0, 1) := by decide +kernel
theorem dX4_begin_16 : decode cX4_begin 16 = .ok (.bipush (-6), 2) := by decide +kernel
theorem dX4_begin_18 : decode cX4_begin 18 = .ok (.putfield 21, 3) := by decide +kernel
theorem dX4_begin_21 : decode cX4_begin 21 = .ok (.return_, 1) := by decide +kernel
theorem dX4_copyFrom_0 : decode cX4_copyFrom 0 = .ok (.aload_n 0, 1) := by decide +kernel
theorem dX4_copyFrom_1 : decode cX4_copyFrom 1 = .ok (.aload_n 1, 1) := by decide +kernel
theorem dX4_copyFrom_2 : decode cX4_copyFrom 2 = .ok (.getfield 9, 3) := by decide +kernel
theorem dX4_copyFrom_5 : decode cX4_copyFrom 5 = .ok (.putfield 9, 3) := by decide +kernel
theorem dX4_copyFrom_8 : decode cX4_copyFrom 8 = .ok (.aload_n 0, 1) := by decide +kernel
theorem dX4_copyFrom_9 : decode cX4_copyFrom 9 = .ok (.aload_n 1, 1) := by decide +kernel
theorem dX4_copyFrom_10 : decode cX4_copyFrom 10 = .ok (.getfield 15, 3) := by decide +kernel
theorem dX4_copyFrom_13 : decode cX4_copyFrom 13 = .ok (.putfield 15, 3) := by decide +kernel
theorem dX4_copyFrom_16 : decode cX4_copyFrom 16 = .ok (.aload_n 0, 1) := by decide +kernel
theorem dX4_copyFrom_17 : decode cX4_copyFrom 17 = .ok (.aload_n 1, 1) := by decide +kernel
theorem dX4_copyFrom_18 : decode cX4_copyFrom 18 = .ok (.getfield 18, 3) := by decide +kernel
theorem dX4_copyFrom_21 : decode cX4_copyFrom 21 = .ok (.putfield 18, 3) := by decide +kernel
theorem dX4_copyFrom_24 : decode cX4_copyFrom 24 = .ok (.aload_n 0, 1) := by decide +kernel
theorem dX4_copyFrom_25 : decode cX4_copyFrom 25 = .ok (.aload_n 1, 1) := by decide +kernel
theorem dX4_copyFrom_26 : decode cX4_copyFrom 26 = .ok (.getfield 21, 3) := by decide +kernel
theorem dX4_copyFrom_29 : decode cX4_copyFrom 29 = .ok (.putfield 21, 3) := by decide +kernel
theorem dX4_copyFrom_32 : decode cX4_copyFrom 32 = .ok (.return_, 1) := by decide +kernel
theorem dX5_init_0 : decode cX5_init 0 = .ok (.aload_n 0, 1) := by decide +kernel
theorem dX5_init_1 : decode cX5_init 1 = .ok (.invokespecial 3, 3) := by decide +kernel
theorem dX5_init_4 : decode cX5_init 4 = .ok (.aload_n 0, 1) := by decide +kernel
theorem dX5_init_5 : decode cX5_init 5 = .ok (.iconst 1, 1) := by decide +kernel
theorem dX5_init_6 : decode cX5_init 6 = .ok (.putfield 9, 3) := by decide +kernel
theorem dX5_init_9 : decode cX5_init 9 = .ok (.aload_n 0, 1) := by decide +kernel
theorem dX5_init_10 : decode cX5_init 10 = .ok (.bipush 10, 2) := by decide +kernel
theorem dX5_init_12 : decode cX5_init 12 = .ok (.newarray .int, 2) := by decide +kernel
theorem dX5_init_14 : decode cX5_init 14 = .ok (.putfield 15, 3) := by decide +kernel
theorem dX5_init_17 : decode cX5_init 17 = .ok (.aload_n 0, 1) := by decide +kernel
theorem dX5_init_18 : decode cX5_init 18 = .ok (.bipush 10, 2) := by decide +kernel
theorem dX5_init_20 : decode cX5_init 20 = .ok (.anewarray 19, 3) := by decide +kernel
theorem dX5_init_23 : decode cX5_init 23 = .ok (.putfield 21, 3) := by decide +kernel
theorem dX5_init_26 : decode cX5_init 26 = .ok (.aload_n 0, 1) := by decide +kernel
theorem dX5_init_27 : decode cX5_init 27 = .ok (.bipush 16, 2) := by decide +kernel
theorem dX5_init_29 : decode cX5_init 29 = .ok (.anewarray 25, 3) := by decide +kernel
theorem dX5_init_32 : decode cX5_init 32 = .ok (.putfield 27, 3) := by decide +kernel
theorem dX5_init_35 : decode cX5_init 35 = .ok (.aload_n 0, 1) := by decide +kernel
theorem dX5_init_36 : decode cX5_init 36 = .ok (.bipush 8, 2) := by decide +kernel
theorem dX5_init_38 : decode cX5_init 38 = .ok (.newarray .int, 2) := by decide +kernel
theorem dX5_init_40 : decode cX5_init 40 = .ok (.putfield 31, 3) := by decide +kernel
theorem dX5_init_43 : decode cX5_init 43 = .ok (.aload_n 0, 1) := by decide +kernel
theorem dX5_init_44 : decode cX5_init 44 = .ok (.bipush 8, 2) := by decide +kernel
theorem dX5_init_46 : decode cX5_init 46 = .ok (.newarray .int, 2) := by decide +kernel
theorem dX5_init_48 : decode cX5_init 48 = .ok (.putfield 34, 3) := by decide +kernel
theorem dX5_init_51 : decode cX5_init 51 = .ok (.aload_n 0, 1) := by decide +kernel
theorem dX5_init_52 : decode cX5_init 52 = .ok (.bipush 16, 2) := by decide +kernel
theorem dX5_init_54 : decode cX5_init 54 = .ok (.newarray .int, 2) := by decide +kernel
theorem dX5_init_56 : decode cX5_init 56 = .ok (.putfield 37, 3) := by decide +kernel
theorem dX5_init_59 : decode cX5_init 59 = .ok (.aload_n 0, 1) := by decide +kernel
theorem dX5_init_60 : decode cX5_init 60 = .ok (.bipush 16, 2) := by decide +kernel
theorem dX5_init_62 : decode cX5_init 62 = .ok (.newarray .int, 2) := by decide +kernel
theorem dX5_init_64 : decode cX5_init 64 = .ok (.putfield 40, 3) := by decide +kernel
theorem dX5_init_67 : decode cX5_init 67 = .ok (.iconst 0, 1) := by decide +kernel
theorem dX5_init_68 : decode cX5_init 68 = .ok (.istore_n 1, 1) := by decide +kernel
theorem dX5_init_69 : decode cX5_init 69 = .ok (.iload_n 1, 1) := by decide +kernel
theorem dX5_init_70 : decode cX5_init 70 = .ok (.bipush 10, 2) := by decide +kernel
theorem dX5_init_72 : decode cX5_init 72 = .ok (.if_icmp .ge 20, 3) := by decide +kernel
theorem dX5_init_75 : decode cX5_init 75 = .ok (.aload_n 0, 1) := by decide +kernel
theorem dX5_init_76 : decode cX5_init 76 = .ok (.getfield 15, 3) := by decide +kernel
theorem dX5_init_79 : decode cX5_init 79 = .ok (.iload_n 1, 1) := by decide +kernel
theorem dX5_init_80 : decode cX5_init 80 = .ok (.getstatic 43, 3) := by decide +kernel
theorem dX5_init_83 : decode cX5_init 83 = .ok (.iload_n 1, 1) := by decide +kernel
theorem dX5_init_84 : decode cX5_init 84 = .ok (.iaload, 1) := by decide +kernel
theorem dX5_init_85 : decode cX5_init 85 = .ok (.iastore, 1) := by decide +kernel
theorem dX5_init_86 : decode cX5_init 86 = .ok (.iinc 1 1, 3) := by decide +kernel
theorem dX5_init_89 : decode cX5_init 89 = .ok (.goto (-20), 3) := by decide +kernel
theorem dX5_init_92 : decode cX5_init 92 = .ok (.iconst 0, 1) := by decide +kernel
theorem dX5_init_93 : decode cX5_init 93 = .ok (.istore_n 1, 1) := by decide +kernel
theorem dX5_init_94 : decode cX5_init 94 = .ok (.iload_n 1, 1) := by decide +kernel
theorem dX5_init_95 : decode cX5_init 95 = .ok (.bipush 10, 2) := by decide +kernel
theorem dX5_init_97 : decode cX5_init 97 = .ok (.if_icmp .ge 22, 3) := by decide +kernel
theorem dX5_init_100 : decode cX5_init 100 = .ok (.aload_n 0, 1) := by decide +kernel
theorem dX5_init_101 : decode cX5_init 101 = .ok (.getfield 21, 3) := by decide +kernel
theorem dX5_init_104 : decode cX5_init 104 = .ok (.iload_n 1, 1) := by decide +kernel
theorem dX5_init_105 : decode cX5_init 105 = .ok (.new 19, 3) := by decide +kernel
theorem dX5_init_108 : decode cX5_init 108 = .ok (.dup, 1) := by decide +kernel
theorem dX5_init_109 : decode cX5_init 109 = .ok (.invokespecial 46, 3) := by decide +kernel
theorem dX5_init_112 : decode cX5_init 112 = .ok (.aastore, 1) := by decide +kernel
theorem dX5_init_113 : decode cX5_init 113 = .ok (.iinc 1 1, 3) := by decide +kernel
theorem dX5_init_116 : decode cX5_init 116 = .ok (.goto (-22), 3) := by decide +kernel
theorem dX5_init_119 : decode cX5_init 119 = .ok (.iconst 0, 1) := by decide +kernel
theorem dX5_init_120 : decode cX5_init 120 = .ok (.istore_n 1, 1) := by decide +kernel
theorem dX5_init_121 : decode cX5_init 121 = .ok (.iload_n 1, 1) := by decide +kernel
theorem dX5_init_122 : decode cX5_init 122 = .ok (.bipush 16, 2) := by decide +kernel
theorem dX5_init_124 : decode cX5_init 124 = .ok (.if_icmp .ge 22, 3) := by decide +kernel
theorem dX5_init_127 : decode cX5_init 127 = .ok (.aload_n 0, 1) := by decide +kernel
theorem dX5_init_128 : decode cX5_init 128 = .ok (.getfield 27, 3) := by decide +kernel
theorem dX5_init_131 : decode cX5_init 131 = .ok (.iload_n 1, 1) := by decide +kernel
theorem dX5_init_132 : decode cX5_init 132 = .ok (.new 25, 3) := by decide +kernel
theorem dX5_init_135 : decode cX5_init 135 = .ok (.dup, 1) := by decide +kernel
theorem dX5_init_136 : decode cX5_init 136 = .ok (.invokespecial 47, 3) := by decide +kernel
theorem dX5_init_139 : decode cX5_init 139 = .ok (.aastore, 1) := by decide +kernel
theorem dX5_init_140 : decode cX5_init 140 = .ok (.iinc 1 1, 3) := by decide +kernel
theorem dX5_init_143 : decode cX5_init 143 = .ok (.goto (-22), 3) := by decide +kernel
theorem dX5_init_146 : decode cX5_init 146 = .ok (.return_, 1) := by decide +kernel
theorem dX5_copyFrom_0 : decode cX5_copyFrom 0 = .ok (.aload_n 0, 1) := by decide +kernel
theorem dX5_copyFrom_1 : decode cX5_copyFrom 1 = .ok (.aload_n 1, 1) := by decide +kernel
theorem dX5_copyFrom_2 : decode cX5_copyFrom 2 = .ok (.getfield 48, 3) := by decide +kernel
theorem dX5_copyFrom_5 : decode cX5_copyFrom 5 = .ok (.putfield 48, 3) := by decide +kernel
theorem dX5_copyFrom_8 : decode cX5_copyFrom 8 = .ok (.aload_n 0, 1) := by decide +kernel
theorem dX5_copyFrom_9 : decode cX5_copyFrom 9 = .ok (.aload_n 1, 1) := by decide +kernel
theorem dX5_copyFrom_10 : decode cX5_copyFrom 10 = .ok (.getfield 9, 3) := by decide +kernel
theorem dX5_copyFrom_13 : decode cX5_copyFrom 13 = .ok (.putfield 9, 3) := by decide +kernel
theorem dX5_copyFrom_16 : decode cX5_copyFrom 16 = .ok (.aload_n 0, 1) := by decide +kernel
theorem dX5_copyFrom_17 : decode cX5_copyFrom 17 = .ok (.aload_n 1, 1) := by decide +kernel
theorem dX5_copyFrom_18 : decode cX5_copyFrom 18 = .ok (.getfield 51, 3) := by decide +kernel
theorem dX5_copyFrom_21 : decode cX5_copyFrom 21 = .ok (.putfield 51, 3) := by decide +kernel
theorem dX5_copyFrom_24 : decode cX5_copyFrom 24 = .ok (.aload_n 0, 1) := by decide +kernel
theorem dX5_copyFrom_25 : decode cX5_copyFrom 25 = .ok (.aload_n 1, 1) := by decide +kernel
theorem dX5_copyFrom_26 : decode cX5_copyFrom 26 = .ok (.getfield 54, 3) := by decide +kernel
theorem dX5_copyFrom_29 : decode cX5_copyFrom 29 = .ok (.putfield 54, 3) := by decide +kernel
theorem dX5_copyFrom_32 : decode cX5_copyFrom 32 = .ok (.aload_n 0, 1) := by decide +kernel
theorem dX5_copyFrom_33 : decode cX5_copyFrom 33 = .ok (.aload_n 1, 1) := by decide +kernel
theorem dX5_copyFrom_34 : decode cX5_copyFrom 34 = .ok (.getfield 57, 3) := by decide +kernel
theorem dX5_copyFrom_37 : decode cX5_copyFrom 37 = .ok (.putfield 57, 3) := by decide +kernel
theorem dX5_copyFrom_40 : decode cX5_copyFrom 40 = .ok (.aload_n 0, 1) := by decide +kernel
theorem dX5_copyFrom_41 : decode cX5_copyFrom 41 = .ok (.aload_n 1, 1) := by decide +kernel
theorem dX5_copyFrom_42 : decode cX5_copyFrom 42 = .ok (.getfield 60, 3) := by decide +kernel
theorem dX5_copyFrom_45 : decode cX5_copyFrom 45 = .ok (.putfield 60, 3) := by decide +kernel
theorem dX5_copyFrom_48 : decode cX5_copyFrom 48 = .ok (.aload_n 1, 1) := by decide +kernel
theorem dX5_copyFrom_49 : decode cX5_copyFrom 49 = .ok (.getfield 15, 3) := by decide +kernel
theorem dX5_copyFrom_52 : decode cX5_copyFrom 52 = .ok (.iconst 0, 1) := by decide +kernel
theorem dX5_copyFrom_53 : decode cX5_copyFrom 53 = .ok (.aload_n 0, 1) := by decide +kernel
theorem dX5_copyFrom_54 : decode cX5_copyFrom 54 = .ok (.getfield 15, 3) := by decide +kernel
theorem dX5_copyFrom_57 : decode cX5_copyFrom 57 = .ok (.iconst 0, 1) := by decide +kernel
theorem dX5_copyFrom_58 : decode cX5_copyFrom 58 = .ok (.bipush 10, 2) := by decide +kernel
theorem dX5_copyFrom_60 : decode cX5_copyFrom 60 = .ok (.invokestatic 63, 3) := by decide +kernel
theorem dX5_copyFrom_63 : decode cX5_copyFrom 63 = .ok (.aload_n 1, 1) := by decide +kernel
theorem dX5_copyFrom_64 : decode cX5_copyFrom 64 = .ok (.getfield 31, 3) := by decide +kernel
theorem dX5_copyFrom_67 : decode cX5_copyFrom 67 = .ok (.iconst 0, 1) := by decide +kernel
theorem dX5_copyFrom_68 : decode cX5_copyFrom 68 = .ok (.aload_n 0, 1) := by decide +kernel
theorem dX5_copyFrom_69 : decode cX5_copyFrom 69 = .ok (.getfield 31, 3) := by decide +kernel
theorem dX5_copyFrom_72 : decode cX5_copyFrom 72 = .ok (.iconst 0, 1) := by decide +kernel
theorem dX5_copyFrom_73 : decode cX5_copyFrom 73 = .ok (.bipush 8, 2) := by decide +kernel
theorem dX5_copyFrom_75 : decode cX5_copyFrom 75 = .ok (.invokestatic 63, 3) := by decide +kernel
theorem dX5_copyFrom_78 : decode cX5_copyFrom 78 = .ok (.aload_n 1, 1) := by decide +kernel
theorem dX5_copyFrom_79 : decode cX5_copyFrom 79 = .ok (.getfield 34, 3) := by decide +kernel
theorem dX5_copyFrom_82 : decode cX5_copyFrom 82 = .ok (.iconst 0, 1) := by decide +kernel
theorem dX5_copyFrom_83 : decode cX5_copyFrom 83 = .ok (.aload_n 0, 1) := by decide +kernel
theorem dX5_copyFrom_84 : decode cX5_copyFrom 84 = .ok (.getfield 34, 3) := by decide +kernel
theorem dX5_copyFrom_87 : decode cX5_copyFrom 87 = .ok (.iconst 0, 1) := by decide +kernel
theorem dX5_copyFrom_88 : decode cX5_copyFrom 88 = .ok (.bipush 8, 2) := by decide +kernel
theorem dX5_copyFrom_90 : decode cX5_copyFrom 90 = .ok (.invokestatic 63, 3) := by decide +kernel
theorem dX5_copyFrom_93 : decode cX5_copyFrom 93 = .ok (.iconst 0, 1) := by decide +kernel
theorem dX5_copyFrom_94 : decode cX5_copyFrom 94 = .ok (.istore_n 2, 1) := by decide +kernel
theorem dX5_copyFrom_95 : decode cX5_copyFrom 95 = .ok (.iload_n 2, 1) := by decide +kernel
theorem dX5_copyFrom_96 : decode cX5_copyFrom 96 = .ok (.aload_n 0, 1) := by decide +kernel
theorem dX5_copyFrom_97 : decode cX5_copyFrom 97 = .ok (.getfield 51, 3) := by decide +kernel
theorem dX5_copyFrom_100 : decode cX5_copyFrom 100 = .ok (.if_icmp .ge 24, 3) := by decide +kernel
theorem dX5_copyFrom_103 : decode cX5_copyFrom 103 = .ok (.aload_n 0, 1) := by decide +kernel
theorem dX5_copyFrom_104 : decode cX5_copyFrom 104 = .ok (.getfield 21, 3) := by decide +kernel
theorem dX5_copyFrom_107 : decode cX5_copyFrom 107 = .ok (.iload_n 2, 1) := by decide +kernel
theorem dX5_copyFrom_108 : decode cX5_copyFrom 108 = .ok (.aaload, 1) := by decide +kernel
theorem dX5_copyFrom_109 : decode cX5_copyFrom 109 = .ok (.aload_n 1, 1) := by decide +kernel
theorem dX5_copyFrom_110 : decode cX5_copyFrom 110 = .ok (.getfield 21, 3) := by decide +kernel
theorem dX5_copyFrom_113 : decode cX5_copyFrom 113 = .ok (.iload_n 2, 1) := by decide +kernel
theorem dX5_copyFrom_114 : decode cX5_copyFrom 114 = .ok (.aaload, 1) := by decide +kernel
theorem dX5_copyFrom_115 : decode cX5_copyFrom 115 = .ok (.invokevirtual 69, 3) := by decide +kernel
theorem dX5_copyFrom_118 : decode cX5_copyFrom 118 = .ok (.iinc 2 1, 3) := by decide +kernel
theorem dX5_copyFrom_121 : decode cX5_copyFrom 121 = .ok (.goto (-26), 3) := by decide +kernel
theorem dX5_copyFrom_124 : decode cX5_copyFrom 124 = .ok (.iconst 0, 1) := by decide +kernel
theorem dX5_copyFrom_125 : decode cX5_copyFrom 125 = .ok (.istore_n 2, 1) := by decide +kernel
theorem dX5_copyFrom_126 : decode cX5_copyFrom 126 = .ok (.iload_n 2, 1) := by decide +kernel
theorem dX5_copyFrom_127 : decode cX5_copyFrom 127 = .ok (.aload_n 0, 1) := by decide +kernel
theorem dX5_copyFrom_128 : decode cX5_copyFrom 128 = .ok (.getfield 54, 3) := by decide +kernel
theorem dX5_copyFrom_131 : decode cX5_copyFrom 131 = .ok (.if_icmp .ge 24, 3) := by decide +kernel
theorem dX5_copyFrom_134 : decode cX5_copyFrom 134 = .ok (.aload_n 0, 1) := by decide +kernel
theorem dX5_copyFrom_135 : decode cX5_copyFrom 135 = .ok (.getfield 27, 3) := by decide +kernel
theorem dX5_copyFrom_138 : decode cX5_copyFrom 138 = .ok (.iload_n 2, 1) := by decide +kernel
theorem dX5_copyFrom_139 : decode cX5_copyFrom 139 = .ok (.aaload, 1) := by decide +kernel
theorem dX5_copyFrom_140 : decode cX5_copyFrom 140 = .ok (.aload_n 1, 1) := by decide +kernel
theorem dX5_copyFrom_141 : decode cX5_copyFrom 141 = .ok (.getfield 27, 3) := by decide +kernel
theorem dX5_copyFrom_144 : decode cX5_copyFrom 144 = .ok (.iload_n 2, 1) := by decide +kernel
theorem dX5_copyFrom_145 : decode cX5_copyFrom 145 = .ok (.aaload, 1) := by decide +kernel
theorem dX5_copyFrom_146 : decode cX5_copyFrom 146 = .ok (.invokevirtual 73, 3) := by decide +kernel
theorem dX5_copyFrom_149 : decode cX5_copyFrom 149 = .ok (.iinc 2 1, 3) := by decide +kernel
theorem dX5_copyFrom_152 : decode cX5_copyFrom 152 = .ok (.goto (-26), 3) := by decide +kernel
theorem dX5_copyFrom_155 : decode cX5_copyFrom 155 = .ok (.return_, 1) := by decide +kernel
theorem dX5_hasCart_0 : decode cX5_hasCart 0 = .ok (.iload_n 1, 1) := by decide +kernel
theorem dX5_hasCart_1 : decode cX5_hasCart 1 = .ok (.ifCond .lt 21, 3) := by decide +kernel
theorem dX5_hasCart_4 : decode cX5_hasCart 4 = .ok (.iload_n 1, 1) := by decide +kernel
theorem dX5_hasCart_5 : decode cX5_hasCart 5 = .ok (.aload_n 0, 1) := by decide +kernel
theorem dX5_hasCart_6 : decode cX5_hasCart 6 = .ok (.getfield 54, 3) := by decide +kernel
theorem dX5_hasCart_9 : decode cX5_hasCart 9 = .ok (.if_icmp .ge 13, 3) := by decide +kernel
theorem dX5_hasCart_12 : decode cX5_hasCart 12 = .ok (.iload_n 1, 1) := by decide +kernel
theorem dX5_hasCart_13 : decode cX5_hasCart 13 = .ok (.bipush 16, 2) := by decide +kernel
theorem dX5_hasCart_15 : decode cX5_hasCart 15 = .ok (.if_icmp .ge 7, 3) := by decide +kernel
theorem dX5_hasCart_18 : decode cX5_hasCart 18 = .ok (.iconst 1, 1) := by decide +kernel
theorem dX5_hasCart_19 : decode cX5_hasCart 19 = .ok (.goto 4, 3) := by decide +kernel
theorem dX5_hasCart_22 : decode cX5_hasCart 22 = .ok (.iconst 0, 1) := by decide +kernel
theorem dX5_hasCart_23 : decode cX5_hasCart 23 = .ok (.ireturn, 1) := by decide +kernel
theorem dX5_hasPitch_0 : decode cX5_hasPitch 0 = .ok (.iload_n 1, 1) := by decide +kernel
theorem dX5_hasPitch_1 : decode cX5_hasPitch 1 = .ok (.ifCond .lt 21, 3) := by decide +kernel
theorem dX5_hasPitch_4 : decode cX5_hasPitch 4 = .ok (.iload_n 1, 1) := by decide +kernel
theorem dX5_hasPitch_5 : decode cX5_hasPitch 5 = .ok (.aload_n 0, 1) := by decide +kernel
theorem dX5_hasPitch_6 : decode cX5_hasPitch 6 = .ok (.getfield 51, 3) := by decide +kernel
theorem dX5_hasPitch_9 : decode cX5_hasPitch 9 = .ok (.if_icmp .ge 13, 3) := by decide +kernel
theorem dX5_hasPitch_12 : decode cX5_hasPitch 12 = .ok (.iload_n 1, 1) := by decide +kernel
theorem dX5_hasPitch_13 : decode cX5_hasPitch 13 = .ok (.bipush 10, 2) := by decide +kernel
theorem dX5_hasPitch_15 : decode cX5_hasPitch 15 = .ok (.if_icmp .ge 7, 3) := by decide +kernel
theorem dX5_hasPitch_18 : decode cX5_hasPitch 18 = .ok (.iconst 1, 1) := by decide +kernel
theorem dX5_hasPitch_19 : decode cX5_hasPitch 19 = .ok (.goto 4, 3) := by decide +kernel
theorem dX5_hasPitch_22 : decode cX5_hasPitch 22 = .ok (.iconst 0, 1) := by decide +kernel
theorem dX5_hasPitch_23 : decode cX5_hasPitch 23 = .ok (.ireturn, 1) := by decide +kernel
theorem dX5_changeSetting_0 : decode cX5_changeSetting 0 = .ok (.iload_n 1, 1) := by decide +kernel
theorem dX5_changeSetting_1 : decode cX5_changeSetting 1 = .ok (.ifCond .lt 27, 3) := by decide +kernel
theorem dX5_changeSetting_4 : decode cX5_changeSetting 4 = .ok (.iload_n 1, 1) := by decide +kernel
theorem dX5_changeSetting_5 : decode cX5_changeSetting 5 = .ok (.bipush 10, 2) := by decide +kernel
theorem dX5_changeSetting_7 : decode cX5_changeSetting 7 = .ok (.if_icmp .ge 21, 3) := by decide +kernel
theorem dX5_changeSetting_10 : decode cX5_changeSetting 10 = .ok (.iload_n 2, 1) := by decide +kernel
theorem dX5_changeSetting_11 : decode cX5_changeSetting 11 = .ok (.getstatic 76, 3) := by decide +kernel
theorem dX5_changeSetting_14 : decode cX5_changeSetting 14 = .ok (.iload_n 1, 1) := by decide +kernel
theorem dX5_changeSetting_15 : decode cX5_changeSetting 15 = .ok (.iaload, 1) := by decide +kernel
theorem dX5_changeSetting_16 : decode cX5_changeSetting 16 = .ok (.if_icmp .lt 12, 3) := by decide +kernel
theorem dX5_changeSetting_19 : decode cX5_changeSetting 19 = .ok (.iload_n 2, 1) := by decide +kernel
theorem dX5_changeSetting_20 : decode cX5_changeSetting 20 = .ok (.getstatic 79, 3) := by decide +kernel
theorem dX5_changeSetting_23 : decode cX5_changeSetting 23 = .ok (.iload_n 1, 1) := by decide +kernel
theorem dX5_changeSetting_24 : decode cX5_changeSetting 24 = .ok (.iaload, 1) := by decide +kernel
theorem dX5_changeSetting_25 : decode cX5_changeSetting 25 = .ok (.if_icmp .le 6, 3) := by decide +kernel
theorem dX5_changeSetting_28 : decode cX5_changeSetting 28 = .ok (.bipush (-2), 2) := by decide +kernel
theorem dX5_changeSetting_30 : decode cX5_changeSetting 30 = .ok (.ireturn, 1) := by decide +kernel
theorem dX5_changeSetting_31 : decode cX5_changeSetting 31 = .ok (.aload_n 0, 1) := by decide +kernel
theorem dX5_changeSetting_32 : decode cX5_changeSetting 32 = .ok (.getfield 15, 3) := by decide +kernel
theorem dX5_changeSetting_35 : decode cX5_changeSetting 35 = .ok (.iload_n 1, 1) := by decide +kernel
theorem dX5_changeSetting_36 : decode cX5_changeSetting 36 = .ok (.iaload, 1) := by decide +kernel
theorem dX5_changeSetting_37 : decode cX5_changeSetting 37 = .ok (.istore_n 3, 1) := by decide +kernel
theorem dX5_changeSetting_38 : decode cX5_changeSetting 38 = .ok (.aload_n 0, 1) := by decide +kernel
theorem dX5_changeSetting_39 : decode cX5_changeSetting 39 = .ok (.getfield 15, 3) := by decide +kernel
theorem dX5_changeSetting_42 : decode cX5_changeSetting 42 = .ok (.iload_n 1, 1) := by decide +kernel
theorem dX5_changeSetting_43 : decode cX5_changeSetting 43 = .ok (.iload_n 2, 1) := by decide +kernel
theorem dX5_changeSetting_44 : decode cX5_changeSetting 44 = .ok (.iastore, 1) := by decide +kernel
theorem dX5_changeSetting_45 : decode cX5_changeSetting 45 = .ok (.iload_n 3, 1) := by decide +kernel
theorem dX5_changeSetting_46 : decode cX5_changeSetting 46 = .ok (.ireturn, 1) := by decide +kernel
theorem dX5_changeLots_0 : decode cX5_changeLots 0 = .ok (.iload_n 1, 1) := by decide +kernel
theorem dX5_changeLots_1 : decode cX5_changeLots 1 = .ok (.ifCond .lt 9, 3) := by decide +kernel
theorem dX5_changeLots_4 : decode cX5_changeLots 4 = .ok (.iload_n 1, 1) := by decide +kernel
theorem dX5_changeLots_5 : decode cX5_changeLots 5 = .ok (.ldc 82, 2) := by decide +kernel
theorem dX5_changeLots_7 : decode cX5_changeLots 7 = .ok (.if_icmp .lt 6, 3) := by decide +kernel
theorem dX5_changeLots_10 : decode cX5_changeLots 10 = .ok (.bipush (-2), 2) := by decide +kernel
theorem dX5_changeLots_12 : decode cX5_changeLots 12 = .ok (.ireturn, 1) := by decide +kernel
theorem dX5_changeLots_13 : decode cX5_changeLots 13 = .ok (.aload_n 0, 1) := by decide +kernel
theorem dX5_changeLots_14 : decode cX5_changeLots 14 = .ok (.getfield 9, 3) := by decide +kernel
theorem dX5_changeLots_17 : decode cX5_changeLots 17 = .ok (.istore_n 2, 1) := by decide +kernel
theorem dX5_changeLots_18 : decode cX5_changeLots 18 = .ok (.aload_n 0, 1) := by decide +kernel
theorem dX5_changeLots_19 : decode cX5_changeLots 19 = .ok (.iload_n 1, 1) := by decide +kernel
theorem dX5_changeLots_20 : decode cX5_changeLots 20 = .ok (.putfield 9, 3) := by decide +kernel
theorem dX5_changeLots_23 : decode cX5_changeLots 23 = .ok (.iload_n 2, 1) := by decide +kernel
theorem dX5_changeLots_24 : decode cX5_changeLots 24 = .ok (.ireturn, 1) := by decide +kernel
theorem dX5_addPitch_0 : decode cX5_addPitch 0 = .ok (.iload_n 1, 1) := by decide +kernel
theorem dX5_addPitch_1 : decode cX5_addPitch 1 = .ok (.ifCond .lt 10, 3) := by decide +kernel
theorem dX5_addPitch_4 : decode cX5_addPitch 4 = .ok (.iload_n 1, 1) := by decide +kernel
theorem dX5_addPitch_5 : decode cX5_addPitch 5 = .ok (.sipush 20000, 3) := by decide +kernel
theorem dX5_addPitch_8 : decode cX5_addPitch 8 = .ok (.if_icmp .le 6, 3) := by decide +kernel
theorem dX5_addPitch_11 : decode cX5_addPitch 11 = .ok (.bipush (-2), 2) := by decide +kernel
theorem dX5_addPitch_13 : decode cX5_addPitch 13 = .ok (.ireturn, 1) := by decide +kernel
theorem dX5_addPitch_14 : decode cX5_addPitch 14 = .ok (.aload_n 0, 1) := by decide +kernel
theorem dX5_addPitch_15 : decode cX5_addPitch 15 = .ok (.getfield 51, 3) := by decide +kernel
theorem dX5_addPitch_18 : decode cX5_addPitch 18 = .ok (.bipush 10, 2) := by decide +kernel
theorem dX5_addPitch_20 : decode cX5_addPitch 20 = .ok (.if_icmp .lt 6, 3) := by decide +kernel
theorem dX5_addPitch_23 : decode cX5_addPitch 23 = .ok (.bipush (-4), 2) := by decide +kernel
theorem dX5_addPitch_25 : decode cX5_addPitch 25 = .ok (.ireturn, 1) := by decide +kernel
theorem dX5_addPitch_26 : decode cX5_addPitch 26 = .ok (.aload_n 0, 1) := by decide +kernel
theorem dX5_addPitch_27 : decode cX5_addPitch 27 = .ok (.getfield 21, 3) := by decide +kernel
theorem dX5_addPitch_30 : decode cX5_addPitch 30 = .ok (.aload_n 0, 1) := by decide +kernel
theorem dX5_addPitch_31 : decode cX5_addPitch 31 = .ok (.getfield 51, 3) := by decide +kernel
theorem dX5_addPitch_34 : decode cX5_addPitch 34 = .ok (.aaload, 1) := by decide +kernel
theorem dX5_addPitch_35 : decode cX5_addPitch 35 = .ok (.iload_n 1, 1) := by decide +kernel
theorem dX5_addPitch_36 : decode cX5_addPitch 36 = .ok (.invokevirtual 83, 3) := by decide +kernel
theorem dX5_addPitch_39 : decode cX5_addPitch 39 = .ok (.aload_n 0, 1) := by decide +kernel
theorem dX5_addPitch_40 : decode cX5_addPitch 40 = .ok (.dup, 1) := by decide +kernel
theorem dX5_addPitch_41 : decode cX5_addPitch 41 = .ok (.getfield 51, 3) := by decide +kernel
theorem dX5_addPitch_44 : decode cX5_addPitch 44 = .ok (.iconst 1, 1) := by decide +kernel
theorem dX5_addPitch_45 : decode cX5_addPitch 45 = .ok (.iadd, 1) := by decide +kernel
theorem dX5_addPitch_46 : decode cX5_addPitch 46 = .ok (.putfield 51, 3) := by decide +kernel
theorem dX5_addPitch_49 : decode cX5_addPitch 49 = .ok (.aload_n 0, 1) := by decide +kernel
theorem dX5_addPitch_50 : decode cX5_addPitch 50 = .ok (.getfield 51, 3) := by decide +kernel
theorem dX5_addPitch_53 : decode cX5_addPitch 53 = .ok (.iconst 1, 1) := by decide +kernel
theorem dX5_addPitch_54 : decode cX5_addPitch 54 = .ok (.isub, 1) := by decide +kernel
theorem dX5_addPitch_55 : decode cX5_addPitch 55 = .ok (.ireturn, 1) := by decide +kernel
theorem dX5_changeRent_0 : decode cX5_changeRent 0 = .ok (.aload_n 0, 1) := by decide +kernel
theorem dX5_changeRent_1 : decode cX5_changeRent 1 = .ok (.iload_n 1, 1) := by decide +kernel
theorem dX5_changeRent_2 : decode cX5_changeRent 2 = .ok (.invokevirtual 87, 3) := by decide +kernel
theorem dX5_changeRent_5 : decode cX5_changeRent 5 = .ok (.ifCond .ne 5, 3) := by decide +kernel
theorem dX5_changeRent_8 : decode cX5_changeRent 8 = .ok (.iconst (-1), 1) := by decide +kernel
theorem dX5_changeRent_9 : decode cX5_changeRent 9 = .ok (.ireturn, 1) := by decide +kernel
theorem dX5_changeRent_10 : decode cX5_changeRent 10 = .ok (.iload_n 2, 1) := by decide +kernel
theorem dX5_changeRent_11 : decode cX5_changeRent 11 = .ok (.ifCond .lt 10, 3) := by decide +kernel
theorem dX5_changeRent_14 : decode cX5_changeRent 14 = .ok (.iload_n 2, 1) := by decide +kernel
theorem dX5_changeRent_15 : decode cX5_changeRent 15 = .ok (.sipush 20000, 3) := by decide +kernel
theorem dX5_changeRent_18 : decode cX5_changeRent 18 = .ok (.if_icmp .le 6, 3) := by decide +kernel
theorem dX5_changeRent_21 : decode cX5_changeRent 21 = .ok (.bipush (-2), 2) := by decide +kernel
theorem dX5_changeRent_23 : decode cX5_changeRent 23 = .ok (.ireturn, 1) := by decide +kernel
theorem dX5_changeRent_24 : decode cX5_changeRent 24 = .ok (.aload_n 0, 1) := by decide +kernel
theorem dX5_changeRent_25 : decode cX5_changeRent 25 = .ok (.getfield 21, 3) := by decide +kernel
theorem dX5_changeRent_28 : decode cX5_changeRent 28 = .ok (.iload_n 1, 1) := by decide +kernel
theorem dX5_changeRent_29 : decode cX5_changeRent 29 = .ok (.aaload, 1) := by decide +kernel
theorem dX5_changeRent_30 : decode cX5_changeRent 30 = .ok (.getfield 91, 3) := by decide +kernel
theorem dX5_changeRent_33 : decode cX5_changeRent 33 = .ok (.istore_n 3, 1) := by decide +kernel
theorem dX5_changeRent_34 : decode cX5_changeRent 34 = .ok (.aload_n 0, 1) := by decide +kernel
theorem dX5_changeRent_35 : decode cX5_changeRent 35 = .ok (.getfield 21, 3) := by decide +kernel
theorem dX5_changeRent_38 : decode cX5_changeRent 38 = .ok (.iload_n 1, 1) := by decide +kernel
theorem dX5_changeRent_39 : decode cX5_changeRent 39 = .ok (.aaload, 1) := by decide +kernel
theorem dX5_changeRent_40 : decode cX5_changeRent 40 = .ok (.iload_n 2, 1) := by decide +kernel
theorem dX5_changeRent_41 : decode cX5_changeRent 41 = .ok (.putfield 91, 3) := by decide +kernel
theorem dX5_changeRent_44 : decode cX5_changeRent 44 = .ok (.iload_n 3, 1) := by decide +kernel
theorem dX5_changeRent_45 : decode cX5_changeRent 45 = .ok (.ireturn, 1) := by decide +kernel
theorem dX5_addCart_0 : decode cX5_addCart 0 = .ok (.iload_n 1, 1) := by decide +kernel
theorem dX5_addCart_1 : decode cX5_addCart 1 = .ok (.ifCond .lt 19, 3) := by decide +kernel
theorem dX5_addCart_4 : decode cX5_addCart 4 = .ok (.iload_n 1, 1) := by decide +kernel
theorem dX5_addCart_5 : decode cX5_addCart 5 = .ok (.iconst 5, 1) := by decide +kernel
theorem dX5_addCart_6 : decode cX5_addCart 6 = .ok (.if_icmp .gt 14, 3) := by decide +kernel
theorem dX5_addCart_9 : decode cX5_addCart 9 = .ok (.iload_n 2, 1) := by decide +kernel
theorem dX5_addCart_10 : decode cX5_addCart 10 = .ok (.iconst 1, 1) := by decide +kernel
theorem dX5_addCart_11 : decode cX5_addCart 11 = .ok (.if_icmp .lt 9, 3) := by decide +kernel
theorem dX5_addCart_14 : decode cX5_addCart 14 = .ok (.iload_n 2, 1) := by decide +kernel
theorem dX5_addCart_15 : decode cX5_addCart 15 = .ok (.bipush 6, 2) := by decide +kernel
theorem dX5_addCart_17 : decode cX5_addCart 17 = .ok (.if_icmp .le 6, 3) := by decide +kernel
theorem dX5_addCart_20 : decode cX5_addCart 20 = .ok (.bipush (-2), 2) := by decide +kernel
theorem dX5_addCart_22 : decode cX5_addCart 22 = .ok (.ireturn, 1) := by decide +kernel
theorem dX5_addCart_23 : decode cX5_addCart 23 = .ok (.aload_n 0, 1) := by decide +kernel
theorem dX5_addCart_24 : decode cX5_addCart 24 = .ok (.getfield 54, 3) := by decide +kernel
theorem dX5_addCart_27 : decode cX5_addCart 27 = .ok (.bipush 16, 2) := by decide +kernel
theorem dX5_addCart_29 : decode cX5_addCart 29 = .ok (.if_icmp .lt 6, 3) := by decide +kernel
theorem dX5_addCart_32 : decode cX5_addCart 32 = .ok (.bipush (-4), 2) := by decide +kernel
theorem dX5_addCart_34 : decode cX5_addCart 34 = .ok (.ireturn, 1) := by decide +kernel
theorem dX5_addCart_35 : decode cX5_addCart 35 = .ok (.aload_n 0, 1) := by decide +kernel
theorem dX5_addCart_36 : decode cX5_addCart 36 = .ok (.getfield 27, 3) := by decide +kernel
theorem dX5_addCart_39 : decode cX5_addCart 39 = .ok (.aload_n 0, 1) := by decide +kernel
theorem dX5_addCart_40 : decode cX5_addCart 40 = .ok (.getfield 54, 3) := by decide +kernel
theorem dX5_addCart_43 : decode cX5_addCart 43 = .ok (.aaload, 1) := by decide +kernel
theorem dX5_addCart_44 : decode cX5_addCart 44 = .ok (.iload_n 1, 1) := by decide +kernel
theorem dX5_addCart_45 : decode cX5_addCart 45 = .ok (.iload_n 2, 1) := by decide +kernel
theorem dX5_addCart_46 : decode cX5_addCart 46 = .ok (.aload_n 0, 1) := by decide +kernel
theorem dX5_addCart_47 : decode cX5_addCart 47 = .ok (.getfield 48, 3) := by decide +kernel
theorem dX5_addCart_50 : decode cX5_addCart 50 = .ok (.aload_n 0, 1) := by decide +kernel
theorem dX5_addCart_51 : decode cX5_addCart 51 = .ok (.getfield 15, 3) := by decide +kernel
theorem dX5_addCart_54 : decode cX5_addCart 54 = .ok (.iconst 1, 1) := by decide +kernel
theorem dX5_addCart_55 : decode cX5_addCart 55 = .ok (.iaload, 1) := by decide +kernel
theorem dX5_addCart_56 : decode cX5_addCart 56 = .ok (.iadd, 1) := by decide +kernel
theorem dX5_addCart_57 : decode cX5_addCart 57 = .ok (.invokevirtual 94, 3) := by decide +kernel
theorem dX5_addCart_60 : decode cX5_addCart 60 = .ok (.aload_n 0, 1) := by decide +kernel
theorem dX5_addCart_61 : decode cX5_addCart 61 = .ok (.dup, 1) := by decide +kernel
theorem dX5_addCart_62 : decode cX5_addCart 62 = .ok (.getfield 54, 3) := by decide +kernel
theorem dX5_addCart_65 : decode cX5_addCart 65 = .ok (.iconst 1, 1) := by decide +kernel
theorem dX5_addCart_66 : decode cX5_addCart 66 = .ok (.iadd, 1) := by decide +kernel
theorem dX5_addCart_67 : decode cX5_addCart 67 = .ok (.putfield 54, 3) := by decide +kernel
theorem dX5_addCart_70 : decode cX5_addCart 70 = .ok (.aload_n 0, 1) := by decide +kernel
theorem dX5_addCart_71 : decode cX5_addCart 71 = .ok (.getfield 54, 3) := by decide +kernel
theorem dX5_addCart_74 : decode cX5_addCart 74 = .ok (.iconst 1, 1) := by decide +kernel
theorem dX5_addCart_75 : decode cX5_addCart 75 = .ok (.isub, 1) := by decide +kernel
theorem dX5_addCart_76 : decode cX5_addCart 76 = .ok (.ireturn, 1) := by decide +kernel
theorem dX5_tellWishes_0 : decode cX5_tellWishes 0 = .ok (.aload_n 0, 1) := by decide +kernel
theorem dX5_tellWishes_1 : decode cX5_tellWishes 1 = .ok (.iload_n 1, 1) := by decide +kernel
theorem dX5_tellWishes_2 : decode cX5_tellWishes 2 = .ok (.invokevirtual 97, 3) := by decide +kernel
theorem dX5_tellWishes_5 : decode cX5_tellWishes 5 = .ok (.ifCond .ne 5, 3) := by decide +kernel
theorem dX5_tellWishes_8 : decode cX5_tellWishes 8 = .ok (.iconst (-1), 1) := by decide +kernel
theorem dX5_tellWishes_9 : decode cX5_tellWishes 9 = .ok (.ireturn, 1) := by decide +kernel
theorem dX5_tellWishes_10 : decode cX5_tellWishes 10 = .ok (.aload_n 0, 1) := by decide +kernel
theorem dX5_tellWishes_11 : decode cX5_tellWishes 11 = .ok (.iload_n 2, 1) := by decide +kernel
theorem dX5_tellWishes_12 : decode cX5_tellWishes 12 = .ok (.invokevirtual 100, 3) := by decide +kernel
theorem dX5_tellWishes_15 : decode cX5_tellWishes 15 = .ok (.ifCond .eq 20, 3) := by decide +kernel
theorem dX5_tellWishes_18 : decode cX5_tellWishes 18 = .ok (.aload_n 0, 1) := by decide +kernel
theorem dX5_tellWishes_19 : decode cX5_tellWishes 19 = .ok (.iload_n 3, 1) := by decide +kernel
theorem dX5_tellWishes_20 : decode cX5_tellWishes 20 = .ok (.invokevirtual 100, 3) := by decide +kernel
theorem dX5_tellWishes_23 : decode cX5_tellWishes 23 = .ok (.ifCond .eq 12, 3) := by decide +kernel
theorem dX5_tellWishes_26 : decode cX5_tellWishes 26 = .ok (.aload_n 0, 1) := by decide +kernel
theorem dX5_tellWishes_27 : decode cX5_tellWishes 27 = .ok (.iload 4, 2) := by decide +kernel
theorem dX5_tellWishes_29 : decode cX5_tellWishes 29 = .ok (.invokevirtual 100, 3) := by decide +kernel
theorem dX5_tellWishes_32 : decode cX5_tellWishes 32 = .ok (.ifCond .ne 6, 3) := by decide +kernel
theorem dX5_tellWishes_35 : decode cX5_tellWishes 35 = .ok (.bipush (-2), 2) := by decide +kernel
theorem dX5_tellWishes_37 : decode cX5_tellWishes 37 = .ok (.ireturn, 1) := by decide +kernel
theorem dX5_tellWishes_38 : decode cX5_tellWishes 38 = .ok (.iload_n 2, 1) := by decide +kernel
theorem dX5_tellWishes_39 : decode cX5_tellWishes 39 = .ok (.bipush (-6), 2) := by decide +kernel
theorem dX5_tellWishes_41 : decode cX5_tellWishes 41 = .ok (.if_icmp .ne 7, 3) := by decide +kernel
theorem dX5_tellWishes_44 : decode cX5_tellWishes 44 = .ok (.iconst 0, 1) := by decide +kernel
theorem dX5_tellWishes_45 : decode cX5_tellWishes 45 = .ok (.goto 25, 3) := by decide +kernel
theorem dX5_tellWishes_48 : decode cX5_tellWishes 48 = .ok (.iload_n 3, 1) := by decide +kernel
theorem dX5_tellWishes_49 : decode cX5_tellWishes 49 = .ok (.bipush (-6), 2) := by decide +kernel
theorem dX5_tellWishes_51 : decode cX5_tellWishes 51 = .ok (.if_icmp .ne 7, 3) := by decide +kernel
theorem dX5_tellWishes_54 : decode cX5_tellWishes 54 = .ok (.iconst 1, 1) := by decide +kernel
theorem dX5_tellWishes_55 : decode cX5_tellWishes 55 = .ok (.goto 15, 3) := by decide +kernel
theorem dX5_tellWishes_58 : decode cX5_tellWishes 58 = .ok (.iload 4, 2) := by decide +kernel
theorem dX5_tellWishes_60 : decode cX5_tellWishes 60 = .ok (.bipush (-6), 2) := by decide +kernel
theorem dX5_tellWishes_62 : decode cX5_tellWishes 62 = .ok (.if_icmp .ne 7, 3) := by decide +kernel
theorem dX5_tellWishes_65 : decode cX5_tellWishes 65 = .ok (.iconst 2, 1) := by decide +kernel
theorem dX5_tellWishes_66 : decode cX5_tellWishes 66 = .ok (.goto 4, 3) := by decide +kernel
theorem dX5_tellWishes_69 : decode cX5_tellWishes 69 = .ok (.iconst 3, 1) := by decide +kernel
theorem dX5_tellWishes_70 : decode cX5_tellWishes 70 = .ok (.istore 5, 2) := by decide +kernel
theorem dX5_tellWishes_72 : decode cX5_tellWishes 72 = .ok (.iload 5, 2) := by decide +kernel
theorem dX5_tellWishes_74 : decode cX5_tellWishes 74 = .ok (.iconst 2, 1) := by decide +kernel
theorem dX5_tellWishes_75 : decode cX5_tellWishes 75 = .ok (.if_icmp .lt 8, 3) := by decide +kernel
theorem dX5_tellWishes_78 : decode cX5_tellWishes 78 = .ok (.iload_n 2, 1) := by decide +kernel
theorem dX5_tellWishes_79 : decode cX5_tellWishes 79 = .ok (.iload_n 3, 1) := by decide +kernel
theorem dX5_tellWishes_80 : decode cX5_tellWishes 80 = .ok (.if_icmp .eq 21, 3) := by decide +kernel
theorem dX5_tellWishes_83 : decode cX5_tellWishes 83 = .ok (.iload 5, 2) := by decide +kernel
theorem dX5_tellWishes_85 : decode cX5_tellWishes 85 = .ok (.iconst 3, 1) := by decide +kernel
theorem dX5_tellWishes_86 : decode cX5_tellWishes 86 = .ok (.if_icmp .ne 18, 3) := by decide +kernel
theorem dX5_tellWishes_89 : decode cX5_tellWishes 89 = .ok (.iload_n 2, 1) := by decide +kernel
theorem dX5_tellWishes_90 : decode cX5_tellWishes 90 = .ok (.iload 4, 2) := by decide +kernel
theorem dX5_tellWishes_92 : decode cX5_tellWishes 92 = .ok (.if_icmp .eq 9, 3) := by decide +kernel
theorem dX5_tellWishes_95 : decode cX5_tellWishes 95 = .ok (.iload_n 3, 1) := by decide +kernel
theorem dX5_tellWishes_96 : decode cX5_tellWishes 96 = .ok (.iload 4, 2) := by decide +kernel
theorem dX5_tellWishes_98 : decode cX5_tellWishes 98 = .ok (.if_icmp .ne 6, 3) := by decide +kernel
theorem dX5_tellWishes_101 : decode cX5_tellWishes 101 = .ok (.bipush (-2), 2) := by decide +kernel
theorem dX5_tellWishes_103 : decode cX5_tellWishes 103 = .ok (.ireturn, 1) := by decide +kernel
theorem dX5_tellWishes_104 : decode cX5_tellWishes 104 = .ok (.aload_n 0, 1) := by decide +kernel
theorem dX5_tellWishes_105 : decode cX5_tellWishes 105 = .ok (.getfield 27, 3) := by decide +kernel
theorem dX5_tellWishes_108 : decode cX5_tellWishes 108 = .ok (.iload_n 1, 1) := by decide +kernel
theorem dX5_tellWishes_109 : decode cX5_tellWishes 109 = .ok (.aaload, 1) := by decide +kernel
theorem dX5_tellWishes_110 : decode cX5_tellWishes 110 = .ok (.astore 6, 2) := by decide +kernel
theorem dX5_tellWishes_112 : decode cX5_tellWishes 112 = .ok (.aload 6, 2) := by decide +kernel
theorem dX5_tellWishes_114 : decode cX5_tellWishes 114 = .ok (.iload 5, 2) := by decide +kernel
theorem dX5_tellWishes_116 : decode cX5_tellWishes 116 = .ok (.putfield 103, 3) := by decide +kernel
theorem dX5_tellWishes_119 : decode cX5_tellWishes 119 = .ok (.aload 6, 2) := by decide +kernel
theorem dX5_tellWishes_121 : decode cX5_tellWishes 121 = .ok (.getfield 106, 3) := by decide +kernel
theorem dX5_tellWishes_124 : decode cX5_tellWishes 124 = .ok (.iconst 0, 1) := by decide +kernel
theorem dX5_tellWishes_125 : decode cX5_tellWishes 125 = .ok (.iload_n 2, 1) := by decide +kernel
theorem dX5_tellWishes_126 : decode cX5_tellWishes 126 = .ok (.iastore, 1) := by decide +kernel
theorem dX5_tellWishes_127 : decode cX5_tellWishes 127 = .ok (.aload 6, 2) := by decide +kernel
theorem dX5_tellWishes_129 : decode cX5_tellWishes 129 = .ok (.getfield 106, 3) := by decide +kernel
theorem dX5_tellWishes_132 : decode cX5_tellWishes 132 = .ok (.iconst 1, 1) := by decide +kernel
theorem dX5_tellWishes_133 : decode cX5_tellWishes 133 = .ok (.iload_n 3, 1) := by decide +kernel
theorem dX5_tellWishes_134 : decode cX5_tellWishes 134 = .ok (.iastore, 1) := by decide +kernel
theorem dX5_tellWishes_135 : decode cX5_tellWishes 135 = .ok (.aload 6, 2) := by decide +kernel
theorem dX5_tellWishes_137 : decode cX5_tellWishes 137 = .ok (.getfield 106, 3) := by decide +kernel
theorem dX5_tellWishes_140 : decode cX5_tellWishes 140 = .ok (.iconst 2, 1) := by decide +kernel
theorem dX5_tellWishes_141 : decode cX5_tellWishes 141 = .ok (.iload 4, 2) := by decide +kernel
theorem dX5_tellWishes_143 : decode cX5_tellWishes 143 = .ok (.iastore, 1) := by decide +kernel
theorem dX5_tellWishes_144 : decode cX5_tellWishes 144 = .ok (.iload 5, 2) := by decide +kernel
theorem dX5_tellWishes_146 : decode cX5_tellWishes 146 = .ok (.ireturn, 1) := by decide +kernel
theorem dX5_isPitchOrNone_0 : decode cX5_isPitchOrNone 0 = .ok (.iload_n 1, 1) := by decide +kernel
theorem dX5_isPitchOrNone_1 : decode cX5_isPitchOrNone 1 = .ok (.bipush (-6), 2) := by decide +kernel
theorem dX5_isPitchOrNone_3 : decode cX5_isPitchOrNone 3 = .ok (.if_icmp .eq 11, 3) := by decide +kernel
theorem dX5_isPitchOrNone_6 : decode cX5_isPitchOrNone 6 = .ok (.aload_n 0, 1) := by decide +kernel
theorem dX5_isPitchOrNone_7 : decode cX5_isPitchOrNone 7 = .ok (.iload_n 1, 1) := by decide +kernel
theorem dX5_isPitchOrNone_8 : decode cX5_isPitchOrNone 8 = .ok (.invokevirtual 87, 3) := by decide +kernel
theorem dX5_isPitchOrNone_11 : decode cX5_isPitchOrNone 11 = .ok (.ifCond .eq 7, 3) := by decide +kernel
theorem dX5_isPitchOrNone_14 : decode cX5_isPitchOrNone 14 = .ok (.iconst 1, 1) := by decide +kernel
theorem dX5_isPitchOrNone_15 : decode cX5_isPitchOrNone 15 = .ok (.goto 4, 3) := by decide +kernel
theorem dX5_isPitchOrNone_18 : decode cX5_isPitchOrNone 18 = .ok (.iconst 0, 1) := by decide +kernel
theorem dX5_isPitchOrNone_19 : decode cX5_isPitchOrNone 19 = .ok (.ireturn, 1) := by decide +kernel
theorem dX5_punish_0 : decode cX5_punish 0 = .ok (.aload_n 0, 1) := by decide +kernel
theorem dX5_punish_1 : decode cX5_punish 1 = .ok (.iload_n 1, 1) := by decide +kernel
theorem dX5_punish_2 : decode cX5_punish 2 = .ok (.invokevirtual 97, 3) := by decide +kernel
theorem dX5_punish_5 : decode cX5_punish 5 = .ok (.ifCond .ne 5, 3) := by decide +kernel
theorem dX5_punish_8 : decode cX5_punish 8 = .ok (.iconst (-1), 1) := by decide +kernel
theorem dX5_punish_9 : decode cX5_punish 9 = .ok (.ireturn, 1) := by decide +kernel
theorem dX5_punish_10 : decode cX5_punish 10 = .ok (.iload_n 2, 1) := by decide +kernel
theorem dX5_punish_11 : decode cX5_punish 11 = .ok (.iconst 1, 1) := by decide +kernel
theorem dX5_punish_12 : decode cX5_punish 12 = .ok (.if_icmp .lt 9, 3) := by decide +kernel
theorem dX5_punish_15 : decode cX5_punish 15 = .ok (.iload_n 2, 1) := by decide +kernel
theorem dX5_punish_16 : decode cX5_punish 16 = .ok (.bipush 9, 2) := by decide +kernel
theorem dX5_punish_18 : decode cX5_punish 18 = .ok (.if_icmp .le 6, 3) := by decide +kernel
theorem dX5_punish_21 : decode cX5_punish 21 = .ok (.bipush (-2), 2) := by decide +kernel
theorem dX5_punish_23 : decode cX5_punish 23 = .ok (.ireturn, 1) := by decide +kernel
theorem dX5_punish_24 : decode cX5_punish 24 = .ok (.aload_n 0, 1) := by decide +kernel
theorem dX5_punish_25 : decode cX5_punish 25 = .ok (.aload_n 0, 1) := by decide +kernel
theorem dX5_punish_26 : decode cX5_punish 26 = .ok (.getfield 27, 3) := by decide +kernel
theorem dX5_punish_29 : decode cX5_punish 29 = .ok (.iload_n 1, 1) := by decide +kernel
theorem dX5_punish_30 : decode cX5_punish 30 = .ok (.aaload, 1) := by decide +kernel
theorem dX5_punish_31 : decode cX5_punish 31 = .ok (.iload_n 2, 1) := by decide +kernel
theorem dX5_punish_32 : decode cX5_punish 32 = .ok (.invokevirtual 109, 3) := by decide +kernel
theorem dX5_punish_35 : decode cX5_punish 35 = .ok (.ireturn, 1) := by decide +kernel
theorem dX5_givePoints_0 : decode cX5_givePoints 0 = .ok (.aload_n 1, 1) := by decide +kernel
theorem dX5_givePoints_1 : decode cX5_givePoints 1 = .ok (.dup, 1) := by decide +kernel
theorem dX5_givePoints_2 : decode cX5_givePoints 2 = .ok (.getfield 113, 3) := by decide +kernel
theorem dX5_givePoints_5 : decode cX5_givePoints 5 = .ok (.iload_n 2, 1) := by decide +kernel
theorem dX5_givePoints_6 : decode cX5_givePoints 6 = .ok (.i2l, 1) := by decide +kernel
theorem dX5_givePoints_7 : decode cX5_givePoints 7 = .ok (.aload_n 0, 1) := by decide +kernel
theorem dX5_givePoints_8 : decode cX5_givePoints 8 = .ok (.getfield 15, 3) := by decide +kernel
theorem dX5_givePoints_11 : decode cX5_givePoints 11 = .ok (.bipush 6, 2) := by decide +kernel
theorem dX5_givePoints_13 : decode cX5_givePoints 13 = .ok (.iaload, 1) := by decide +kernel
theorem dX5_givePoints_14 : decode cX5_givePoints 14 = .ok (.i2l, 1) := by decide +kernel
theorem dX5_givePoints_15 : decode cX5_givePoints 15 = .ok (.lmul, 1) := by decide +kernel
theorem dX5_givePoints_16 : decode cX5_givePoints 16 = .ok (.ladd, 1) := by decide +kernel
theorem dX5_givePoints_17 : decode cX5_givePoints 17 = .ok (.putfield 113, 3) := by decide +kernel
theorem dX5_givePoints_20 : decode cX5_givePoints 20 = .ok (.aload_n 1, 1) := by decide +kernel
theorem dX5_givePoints_21 : decode cX5_givePoints 21 = .ok (.aload_n 0, 1) := by decide +kernel
theorem dX5_givePoints_22 : decode cX5_givePoints 22 = .ok (.getfield 48, 3) := by decide +kernel
theorem dX5_givePoints_25 : decode cX5_givePoints 25 = .ok (.iload_n 2, 1) := by decide +kernel
theorem dX5_givePoints_26 : decode cX5_givePoints 26 = .ok (.invokevirtual 117, 3) := by decide +kernel
theorem dX5_givePoints_29 : decode cX5_givePoints 29 = .ok (.aload_n 1, 1) := by decide +kernel
theorem dX5_givePoints_30 : decode cX5_givePoints 30 = .ok (.aload_n 0, 1) := by decide +kernel
theorem dX5_givePoints_31 : decode cX5_givePoints 31 = .ok (.getfield 48, 3) := by decide +kernel
theorem dX5_givePoints_34 : decode cX5_givePoints 34 = .ok (.aload_n 0, 1) := by decide +kernel
theorem dX5_givePoints_35 : decode cX5_givePoints 35 = .ok (.getfield 48, 3) := by decide +kernel
theorem dX5_givePoints_38 : decode cX5_givePoints 38 = .ok (.aload_n 0, 1) := by decide +kernel
theorem dX5_givePoints_39 : decode cX5_givePoints 39 = .ok (.getfield 15, 3) := by decide +kernel
theorem dX5_givePoints_42 : decode cX5_givePoints 42 = .ok (.iconst 5, 1) := by decide +kernel
theorem dX5_givePoints_43 : decode cX5_givePoints 43 = .ok (.iaload, 1) := by decide +kernel
theorem dX5_givePoints_44 : decode cX5_givePoints 44 = .ok (.invokevirtual 121, 3) := by decide +kernel
theorem dX5_givePoints_47 : decode cX5_givePoints 47 = .ok (.istore_n 3, 1) := by decide +kernel
theorem dX5_givePoints_48 : decode cX5_givePoints 48 = .ok (.iload_n 3, 1) := by decide +kernel
theorem dX5_givePoints_49 : decode cX5_givePoints 49 = .ok (.aload_n 0, 1) := by decide +kernel
theorem dX5_givePoints_50 : decode cX5_givePoints 50 = .ok (.getfield 15, 3) := by decide +kernel
theorem dX5_givePoints_53 : decode cX5_givePoints 53 = .ok (.iconst 3, 1) := by decide +kernel
theorem dX5_givePoints_54 : decode cX5_givePoints 54 = .ok (.iaload, 1) := by decide +kernel
theorem dX5_givePoints_55 : decode cX5_givePoints 55 = .ok (.if_icmp .ge 5, 3) := by decide +kernel
theorem dX5_givePoints_58 : decode cX5_givePoints 58 = .ok (.iload_n 3, 1) := by decide +kernel
theorem dX5_givePoints_59 : decode cX5_givePoints 59 = .ok (.ireturn, 1) := by decide +kernel
theorem dX5_givePoints_60 : decode cX5_givePoints 60 = .ok (.aload_n 1, 1) := by decide +kernel
theorem dX5_givePoints_61 : decode cX5_givePoints 61 = .ok (.aload_n 0, 1) := by decide +kernel
theorem dX5_givePoints_62 : decode cX5_givePoints 62 = .ok (.getfield 48, 3) := by decide +kernel
theorem dX5_givePoints_65 : decode cX5_givePoints 65 = .ok (.aload_n 0, 1) := by decide +kernel
theorem dX5_givePoints_66 : decode cX5_givePoints 66 = .ok (.getfield 15, 3) := by decide +kernel
theorem dX5_givePoints_69 : decode cX5_givePoints 69 = .ok (.iconst 4, 1) := by decide +kernel
theorem dX5_givePoints_70 : decode cX5_givePoints 70 = .ok (.iaload, 1) := by decide +kernel
theorem dX5_givePoints_71 : decode cX5_givePoints 71 = .ok (.iadd, 1) := by decide +kernel
theorem dX5_givePoints_72 : decode cX5_givePoints 72 = .ok (.putfield 125, 3) := by decide +kernel
theorem dX5_givePoints_75 : decode cX5_givePoints 75 = .ok (.aload_n 1, 1) := by decide +kernel
theorem dX5_givePoints_76 : decode cX5_givePoints 76 = .ok (.invokevirtual 128, 3) := by decide +kernel
theorem dX5_givePoints_79 : decode cX5_givePoints 79 = .ok (.iconst 0, 1) := by decide +kernel
theorem dX5_givePoints_80 : decode cX5_givePoints 80 = .ok (.ireturn, 1) := by decide +kernel
theorem dX5_askCheck_0 : decode cX5_askCheck 0 = .ok (.aload_n 0, 1) := by decide +kernel
theorem dX5_askCheck_1 : decode cX5_askCheck 1 = .ok (.iload_n 1, 1) := by decide +kernel
theorem dX5_askCheck_2 : decode cX5_askCheck 2 = .ok (.invokevirtual 97, 3) := by decide +kernel
theorem dX5_askCheck_5 : decode cX5_askCheck 5 = .ok (.ifCond .ne 5, 3) := by decide +kernel
theorem dX5_askCheck_8 : decode cX5_askCheck 8 = .ok (.iconst (-1), 1) := by decide +kernel
theorem dX5_askCheck_9 : decode cX5_askCheck 9 = .ok (.ireturn, 1) := by decide +kernel
theorem dX5_askCheck_10 : decode cX5_askCheck 10 = .ok (.aload_n 0, 1) := by decide +kernel
theorem dX5_askCheck_11 : decode cX5_askCheck 11 = .ok (.getfield 27, 3) := by decide +kernel
theorem dX5_askCheck_14 : decode cX5_askCheck 14 = .ok (.iload_n 1, 1) := by decide +kernel
theorem dX5_askCheck_15 : decode cX5_askCheck 15 = .ok (.aaload, 1) := by decide +kernel
theorem dX5_askCheck_16 : decode cX5_askCheck 16 = .ok (.getfield 131, 3) := by decide +kernel
theorem dX5_askCheck_19 : decode cX5_askCheck 19 = .ok (.ifCond .eq 6, 3) := by decide +kernel
theorem dX5_askCheck_22 : decode cX5_askCheck 22 = .ok (.bipush (-5), 2) := by decide +kernel
theorem dX5_askCheck_24 : decode cX5_askCheck 24 = .ok (.ireturn, 1) := by decide +kernel
theorem dX5_askCheck_25 : decode cX5_askCheck 25 = .ok (.aload_n 0, 1) := by decide +kernel
theorem dX5_askCheck_26 : decode cX5_askCheck 26 = .ok (.getfield 27, 3) := by decide +kernel
theorem dX5_askCheck_29 : decode cX5_askCheck 29 = .ok (.iload_n 1, 1) := by decide +kernel
theorem dX5_askCheck_30 : decode cX5_askCheck 30 = .ok (.aaload, 1) := by decide +kernel
theorem dX5_askCheck_31 : decode cX5_askCheck 31 = .ok (.iconst 1, 1) := by decide +kernel
theorem dX5_askCheck_32 : decode cX5_askCheck 32 = .ok (.putfield 131, 3) := by decide +kernel
theorem dX5_askCheck_35 : decode cX5_askCheck 35 = .ok (.aload_n 0, 1) := by decide +kernel
theorem dX5_askCheck_36 : decode cX5_askCheck 36 = .ok (.invokevirtual 135, 3) := by decide +kernel
theorem dX5_askCheck_39 : decode cX5_askCheck 39 = .ok (.ireturn, 1) := by decide +kernel
theorem dX5_askSwap_0 : decode cX5_askSwap 0 = .ok (.aload_n 0, 1) := by decide +kernel
theorem dX5_askSwap_1 : decode cX5_askSwap 1 = .ok (.iload_n 1, 1) := by decide +kernel
theorem dX5_askSwap_2 : decode cX5_askSwap 2 = .ok (.invokevirtual 97, 3) := by decide +kernel
theorem dX5_askSwap_5 : decode cX5_askSwap 5 = .ok (.ifCond .eq 16, 3) := by decide +kernel
theorem dX5_askSwap_8 : decode cX5_askSwap 8 = .ok (.aload_n 0, 1) := by decide +kernel
theorem dX5_askSwap_9 : decode cX5_askSwap 9 = .ok (.iload_n 2, 1) := by decide +kernel
theorem dX5_askSwap_10 : decode cX5_askSwap 10 = .ok (.invokevirtual 97, 3) := by decide +kernel
theorem dX5_askSwap_13 : decode cX5_askSwap 13 = .ok (.ifCond .eq 8, 3) := by decide +kernel
theorem dX5_askSwap_16 : decode cX5_askSwap 16 = .ok (.iload_n 1, 1) := by decide +kernel
theorem dX5_askSwap_17 : decode cX5_askSwap 17 = .ok (.iload_n 2, 1) := by decide +kernel
theorem dX5_askSwap_18 : decode cX5_askSwap 18 = .ok (.if_icmp .ne 5, 3) := by decide +kernel
theorem dX5_askSwap_21 : decode cX5_askSwap 21 = .ok (.iconst (-1), 1) := by decide +kernel
theorem dX5_askSwap_22 : decode cX5_askSwap 22 = .ok (.ireturn, 1) := by decide +kernel
theorem dX5_askSwap_23 : decode cX5_askSwap 23 = .ok (.aload_n 0, 1) := by decide +kernel
theorem dX5_askSwap_24 : decode cX5_askSwap 24 = .ok (.getfield 57, 3) := by decide +kernel
theorem dX5_askSwap_27 : decode cX5_askSwap 27 = .ok (.bipush 8, 2) := by decide +kernel
theorem dX5_askSwap_29 : decode cX5_askSwap 29 = .ok (.if_icmp .lt 6, 3) := by decide +kernel
theorem dX5_askSwap_32 : decode cX5_askSwap 32 = .ok (.bipush (-4), 2) := by decide +kernel
theorem dX5_askSwap_34 : decode cX5_askSwap 34 = .ok (.ireturn, 1) := by decide +kernel
theorem dX5_askSwap_35 : decode cX5_askSwap 35 = .ok (.aload_n 0, 1) := by decide +kernel
theorem dX5_askSwap_36 : decode cX5_askSwap 36 = .ok (.getfield 31, 3) := by decide +kernel
theorem dX5_askSwap_39 : decode cX5_askSwap 39 = .ok (.aload_n 0, 1) := by decide +kernel
theorem dX5_askSwap_40 : decode cX5_askSwap 40 = .ok (.getfield 57, 3) := by decide +kernel
theorem dX5_askSwap_43 : decode cX5_askSwap 43 = .ok (.iload_n 1, 1) := by decide +kernel
theorem dX5_askSwap_44 : decode cX5_askSwap 44 = .ok (.iastore, 1) := by decide +kernel
theorem dX5_askSwap_45 : decode cX5_askSwap 45 = .ok (.aload_n 0, 1) := by decide +kernel
theorem dX5_askSwap_46 : decode cX5_askSwap 46 = .ok (.getfield 34, 3) := by decide +kernel
theorem dX5_askSwap_49 : decode cX5_askSwap 49 = .ok (.aload_n 0, 1) := by decide +kernel
theorem dX5_askSwap_50 : decode cX5_askSwap 50 = .ok (.getfield 57, 3) := by decide +kernel
theorem dX5_askSwap_53 : decode cX5_askSwap 53 = .ok (.iload_n 2, 1) := by decide +kernel
theorem dX5_askSwap_54 : decode cX5_askSwap 54 = .ok (.iastore, 1) := by decide +kernel
theorem dX5_askSwap_55 : decode cX5_askSwap 55 = .ok (.aload_n 0, 1) := by decide +kernel
theorem dX5_askSwap_56 : decode cX5_askSwap 56 = .ok (.dup, 1) := by decide +kernel
theorem dX5_askSwap_57 : decode cX5_askSwap 57 = .ok (.getfield 57, 3) := by decide +kernel
theorem dX5_askSwap_60 : decode cX5_askSwap 60 = .ok (.iconst 1, 1) := by decide +kernel
theorem dX5_askSwap_61 : decode cX5_askSwap 61 = .ok (.iadd, 1) := by decide +kernel
theorem dX5_askSwap_62 : decode cX5_askSwap 62 = .ok (.putfield 57, 3) := by decide +kernel
theorem dX5_askSwap_65 : decode cX5_askSwap 65 = .ok (.aload_n 0, 1) := by decide +kernel
theorem dX5_askSwap_66 : decode cX5_askSwap 66 = .ok (.getfield 57, 3) := by decide +kernel
theorem dX5_askSwap_69 : decode cX5_askSwap 69 = .ok (.ireturn, 1) := by decide +kernel
theorem dX5_takeMoney_0 : decode cX5_takeMoney 0 = .ok (.aload_n 0, 1) := by decide +kernel
theorem dX5_takeMoney_1 : decode cX5_takeMoney 1 = .ok (.iload_n 1, 1) := by decide +kernel
theorem dX5_takeMoney_2 : decode cX5_takeMoney 2 = .ok (.invokevirtual 97, 3) := by decide +kernel
theorem dX5_takeMoney_5 : decode cX5_takeMoney 5 = .ok (.ifCond .ne 5, 3) := by decide +kernel
theorem dX5_takeMoney_8 : decode cX5_takeMoney 8 = .ok (.iconst (-1), 1) := by decide +kernel
theorem dX5_takeMoney_9 : decode cX5_takeMoney 9 = .ok (.ireturn, 1) := by decide +kernel
theorem dX5_takeMoney_10 : decode cX5_takeMoney 10 = .ok (.iload_n 2, 1) := by decide +kernel
theorem dX5_takeMoney_11 : decode cX5_takeMoney 11 = .ok (.iconst 1, 1) := by decide +kernel
theorem dX5_takeMoney_12 : decode cX5_takeMoney 12 = .ok (.if_icmp .lt 9, 3) := by decide +kernel
theorem dX5_takeMoney_15 : decode cX5_takeMoney 15 = .ok (.iload_n 2, 1) := by decide +kernel
theorem dX5_takeMoney_16 : decode cX5_takeMoney 16 = .ok (.ldc 139, 2) := by decide +kernel
theorem dX5_takeMoney_18 : decode cX5_takeMoney 18 = .ok (.if_icmp .le 6, 3) := by decide +kernel
theorem dX5_takeMoney_21 : decode cX5_takeMoney 21 = .ok (.bipush (-2), 2) := by decide +kernel
theorem dX5_takeMoney_23 : decode cX5_takeMoney 23 = .ok (.ireturn, 1) := by decide +kernel
theorem dX5_takeMoney_24 : decode cX5_takeMoney 24 = .ok (.aload_n 0, 1) := by decide +kernel
theorem dX5_takeMoney_25 : decode cX5_takeMoney 25 = .ok (.getfield 27, 3) := by decide +kernel
theorem dX5_takeMoney_28 : decode cX5_takeMoney 28 = .ok (.iload_n 1, 1) := by decide +kernel
theorem dX5_takeMoney_29 : decode cX5_takeMoney 29 = .ok (.aaload, 1) := by decide +kernel
theorem dX5_takeMoney_30 : decode cX5_takeMoney 30 = .ok (.dup, 1) := by decide +kernel
theorem dX5_takeMoney_31 : decode cX5_takeMoney 31 = .ok (.getfield 140, 3) := by decide +kernel
theorem dX5_takeMoney_34 : decode cX5_takeMoney 34 = .ok (.iload_n 2, 1) := by decide +kernel
theorem dX5_takeMoney_35 : decode cX5_takeMoney 35 = .ok (.i2l, 1) := by decide +kernel
theorem dX5_takeMoney_36 : decode cX5_takeMoney 36 = .ok (.ladd, 1) := by decide +kernel
theorem dX5_takeMoney_37 : decode cX5_takeMoney 37 = .ok (.putfield 140, 3) := by decide +kernel
theorem dX5_takeMoney_40 : decode cX5_takeMoney 40 = .ok (.aload_n 0, 1) := by decide +kernel
theorem dX5_takeMoney_41 : decode cX5_takeMoney 41 = .ok (.getfield 27, 3) := by decide +kernel
theorem dX5_takeMoney_44 : decode cX5_takeMoney 44 = .ok (.iload_n 1, 1) := by decide +kernel
theorem dX5_takeMoney_45 : decode cX5_takeMoney 45 = .ok (.aaload, 1) := by decide +kernel
theorem dX5_takeMoney_46 : decode cX5_takeMoney 46 = .ok (.invokevirtual 143, 3) := by decide +kernel
theorem dX5_takeMoney_49 : decode cX5_takeMoney 49 = .ok (.lconst 0, 1) := by decide +kernel
theorem dX5_takeMoney_50 : decode cX5_takeMoney 50 = .ok (.lcmp, 1) := by decide +kernel
theorem dX5_takeMoney_51 : decode cX5_takeMoney 51 = .ok (.ifCond .lt 7, 3) := by decide +kernel
theorem dX5_takeMoney_54 : decode cX5_takeMoney 54 = .ok (.iconst 1, 1) := by decide +kernel
theorem dX5_takeMoney_55 : decode cX5_takeMoney 55 = .ok (.goto 4, 3) := by decide +kernel
theorem dX5_takeMoney_58 : decode cX5_takeMoney 58 = .ok (.iconst 0, 1) := by decide +kernel
theorem dX5_takeMoney_59 : decode cX5_takeMoney 59 = .ok (.ireturn, 1) := by decide +kernel
theorem dX5_passDays_0 : decode cX5_passDays 0 = .ok (.iload_n 1, 1) := by decide +kernel
theorem dX5_passDays_1 : decode cX5_passDays 1 = .ok (.iconst 1, 1) := by decide +kernel
theorem dX5_passDays_2 : decode cX5_passDays 2 = .ok (.if_icmp .lt 9, 3) := by decide +kernel
theorem dX5_passDays_5 : decode cX5_passDays 5 = .ok (.iload_n 1, 1) := by decide +kernel
theorem dX5_passDays_6 : decode cX5_passDays 6 = .ok (.bipush 60, 2) := by decide +kernel
theorem dX5_passDays_8 : decode cX5_passDays 8 = .ok (.if_icmp .le 6, 3) := by decide +kernel
theorem dX5_passDays_11 : decode cX5_passDays 11 = .ok (.bipush (-2), 2) := by decide +kernel
theorem dX5_passDays_13 : decode cX5_passDays 13 = .ok (.ireturn, 1) := by decide +kernel
theorem dX5_passDays_14 : decode cX5_passDays 14 = .ok (.iconst 0, 1) := by decide +kernel
theorem dX5_passDays_15 : decode cX5_passDays 15 = .ok (.istore_n 2, 1) := by decide +kernel
theorem dX5_passDays_16 : decode cX5_passDays 16 = .ok (.iload_n 2, 1) := by decide +kernel
theorem dX5_passDays_17 : decode cX5_passDays 17 = .ok (.iload_n 1, 1) := by decide +kernel
theorem dX5_passDays_18 : decode cX5_passDays 18 = .ok (.if_icmp .ge 37, 3) := by decide +kernel
theorem dX5_passDays_21 : decode cX5_passDays 21 = .ok (.aload_n 0, 1) := by decide +kernel
theorem dX5_passDays_22 : decode cX5_passDays 22 = .ok (.invokestatic 147, 3) := by decide +kernel
theorem dX5_passDays_25 : decode cX5_passDays 25 = .ok (.aload_n 0, 1) := by decide +kernel
theorem dX5_passDays_26 : decode cX5_passDays 26 = .ok (.invokestatic 153, 3) := by decide +kernel
theorem dX5_passDays_29 : decode cX5_passDays 29 = .ok (.aload_n 0, 1) := by decide +kernel
theorem dX5_passDays_30 : decode cX5_passDays 30 = .ok (.invokestatic 156, 3) := by decide +kernel
theorem dX5_passDays_33 : decode cX5_passDays 33 = .ok (.aload_n 0, 1) := by decide +kernel
theorem dX5_passDays_34 : decode cX5_passDays 34 = .ok (.invokestatic 159, 3) := by decide +kernel
theorem dX5_passDays_37 : decode cX5_passDays 37 = .ok (.aload_n 0, 1) := by decide +kernel
theorem dX5_passDays_38 : decode cX5_passDays 38 = .ok (.invokestatic 162, 3) := by decide +kernel
theorem dX5_passDays_41 : decode cX5_passDays 41 = .ok (.aload_n 0, 1) := by decide +kernel
theorem dX5_passDays_42 : decode cX5_passDays 42 = .ok (.invokestatic 165, 3) := by decide +kernel
theorem dX5_passDays_45 : decode cX5_passDays 45 = .ok (.aload_n 0, 1) := by decide +kernel
theorem dX5_passDays_46 : decode cX5_passDays 46 = .ok (.invokevirtual 168, 3) := by decide +kernel
theorem dX5_passDays_49 : decode cX5_passDays 49 = .ok (.iinc 2 1, 3) := by decide +kernel
theorem dX5_passDays_52 : decode cX5_passDays 52 = .ok (.goto (-36), 3) := by decide +kernel
theorem dX5_passDays_55 : decode cX5_passDays 55 = .ok (.aload_n 0, 1) := by decide +kernel
theorem dX5_passDays_56 : decode cX5_passDays 56 = .ok (.getfield 48, 3) := by decide +kernel
theorem dX5_passDays_59 : decode cX5_passDays 59 = .ok (.ireturn, 1) := by decide +kernel
theorem dX5_beginNextDay_0 : decode cX5_beginNextDay 0 = .ok (.aload_n 0, 1) := by decide +kernel
theorem dX5_beginNextDay_1 : decode cX5_beginNextDay 1 = .ok (.dup, 1) := by decide +kernel
theorem dX5_beginNextDay_2 : decode cX5_beginNextDay 2 = .ok (.getfield 48, 3) := by decide +kernel
theorem dX5_beginNextDay_5 : decode cX5_beginNextDay 5 = .ok (.iconst 1, 1) := by decide +kernel
theorem dX5_beginNextDay_6 : decode cX5_beginNextDay 6 = .ok (.iadd, 1) := by decide +kernel
theorem dX5_beginNextDay_7 : decode cX5_beginNextDay 7 = .ok (.putfield 48, 3) := by decide +kernel
theorem dX5_beginNextDay_10 : decode cX5_beginNextDay 10 = .ok (.iconst 0, 1) := by decide +kernel
theorem dX5_beginNextDay_11 : decode cX5_beginNextDay 11 = .ok (.istore_n 1, 1) := by decide +kernel
theorem dX5_beginNextDay_12 : decode cX5_beginNextDay 12 = .ok (.iload_n 1, 1) := by decide +kernel
theorem dX5_beginNextDay_13 : decode cX5_beginNextDay 13 = .ok (.aload_n 0, 1) := by decide +kernel
theorem dX5_beginNextDay_14 : decode cX5_beginNextDay 14 = .ok (.getfield 54, 3) := by decide +kernel
theorem dX5_beginNextDay_17 : decode cX5_beginNextDay 17 = .ok (.if_icmp .ge 22, 3) := by decide +kernel
theorem dX5_beginNextDay_20 : decode cX5_beginNextDay 20 = .ok (.aload_n 0, 1) := by decide +kernel
theorem dX5_beginNextDay_21 : decode cX5_beginNextDay 21 = .ok (.getfield 27, 3) := by decide +kernel
theorem dX5_beginNextDay_24 : decode cX5_beginNextDay 24 = .ok (.iload_n 1, 1) := by decide +kernel
theorem dX5_beginNextDay_25 : decode cX5_beginNextDay 25 = .ok (.aaload, 1) := by decide +kernel
theorem dX5_beginNextDay_26 : decode cX5_beginNextDay 26 = .ok (.aload_n 0, 1) := by decide +kernel
theorem dX5_beginNextDay_27 : decode cX5_beginNextDay 27 = .ok (.getfield 48, 3) := by decide +kernel
theorem dX5_beginNextDay_30 : decode cX5_beginNextDay 30 = .ok (.invokevirtual 171, 3) := by decide +kernel
theorem dX5_beginNextDay_33 : decode cX5_beginNextDay 33 = .ok (.iinc 1 1, 3) := by decide +kernel
theorem dX5_beginNextDay_36 : decode cX5_beginNextDay 36 = .ok (.goto (-24), 3) := by decide +kernel
theorem dX5_beginNextDay_39 : decode cX5_beginNextDay 39 = .ok (.return_, 1) := by decide +kernel
theorem dX5_countWaiting_0 : decode cX5_countWaiting 0 = .ok (.iconst 0, 1) := by decide +kernel
theorem dX5_countWaiting_1 : decode cX5_countWaiting 1 = .ok (.istore_n 1, 1) := by decide +kernel
theorem dX5_countWaiting_2 : decode cX5_countWaiting 2 = .ok (.iconst 0, 1) := by decide +kernel
theorem dX5_countWaiting_3 : decode cX5_countWaiting 3 = .ok (.istore_n 2, 1) := by decide +kernel
theorem dX5_countWaiting_4 : decode cX5_countWaiting 4 = .ok (.iload_n 2, 1) := by decide +kernel
theorem dX5_countWaiting_5 : decode cX5_countWaiting 5 = .ok (.aload_n 0, 1) := by decide +kernel
theorem dX5_countWaiting_6 : decode cX5_countWaiting 6 = .ok (.getfield 54, 3) := by decide +kernel
theorem dX5_countWaiting_9 : decode cX5_countWaiting 9 = .ok (.if_icmp .ge 24, 3) := by decide +kernel
theorem dX5_countWaiting_12 : decode cX5_countWaiting 12 = .ok (.aload_n 0, 1) := by decide +kernel
theorem dX5_countWaiting_13 : decode cX5_countWaiting 13 = .ok (.getfield 27, 3) := by decide +kernel
theorem dX5_countWaiting_16 : decode cX5_countWaiting 16 = .ok (.iload_n 2, 1) := by decide +kernel
theorem dX5_countWaiting_17 : decode cX5_countWaiting 17 = .ok (.aaload, 1) := by decide +kernel
theorem dX5_countWaiting_18 : decode cX5_countWaiting 18 = .ok (.getfield 131, 3) := by decide +kernel
theorem dX5_countWaiting_21 : decode cX5_countWaiting 21 = .ok (.ifCond .eq 6, 3) := by decide +kernel
theorem dX5_countWaiting_24 : decode cX5_countWaiting 24 = .ok (.iinc 1 1, 3) := by decide +kernel
theorem dX5_countWaiting_27 : decode cX5_countWaiting 27 = .ok (.iinc 2 1, 3) := by decide +kernel
theorem dX5_countWaiting_30 : decode cX5_countWaiting 30 = .ok (.goto (-26), 3) := by decide +kernel
theorem dX5_countWaiting_33 : decode cX5_countWaiting 33 = .ok (.iload_n 1, 1) := by decide +kernel
theorem dX5_countWaiting_34 : decode cX5_countWaiting 34 = .ok (.ireturn, 1) := by decide +kernel
theorem dX5_countOnPitches_0 : decode cX5_countOnPitches 0 = .ok (.iconst 0, 1) := by decide +kernel
theorem dX5_countOnPitches_1 : decode cX5_countOnPitches 1 = .ok (.istore_n 1, 1) := by decide +kernel
theorem dX5_countOnPitches_2 : decode cX5_countOnPitches 2 = .ok (.iconst 0, 1) := by decide +kernel
theorem dX5_countOnPitches_3 : decode cX5_countOnPitches 3 = .ok (.istore_n 2, 1) := by decide +kernel
theorem dX5_countOnPitches_4 : decode cX5_countOnPitches 4 = .ok (.iload_n 2, 1) := by decide +kernel
theorem dX5_countOnPitches_5 : decode cX5_countOnPitches 5 = .ok (.aload_n 0, 1) := by decide +kernel
theorem dX5_countOnPitches_6 : decode cX5_countOnPitches 6 = .ok (.getfield 54, 3) := by decide +kernel
theorem dX5_countOnPitches_9 : decode cX5_countOnPitches 9 = .ok (.if_icmp .ge 26, 3) := by decide +kernel
theorem dX5_countOnPitches_12 : decode cX5_countOnPitches 12 = .ok (.aload_n 0, 1) := by decide +kernel
theorem dX5_countOnPitches_13 : decode cX5_countOnPitches 13 = .ok (.getfield 27, 3) := by decide +kernel
theorem dX5_countOnPitches_16 : decode cX5_countOnPitches 16 = .ok (.iload_n 2, 1) := by decide +kernel
theorem dX5_countOnPitches_17 : decode cX5_countOnPitches 17 = .ok (.aaload, 1) := by decide +kernel
theorem dX5_countOnPitches_18 : decode cX5_countOnPitches 18 = .ok (.getfield 174, 3) := by decide +kernel
theorem dX5_countOnPitches_21 : decode cX5_countOnPitches 21 = .ok (.bipush (-6), 2) := by decide +kernel
theorem dX5_countOnPitches_23 : decode cX5_countOnPitches 23 = .ok (.if_icmp .eq 6, 3) := by decide +kernel
theorem dX5_countOnPitches_26 : decode cX5_countOnPitches 26 = .ok (.iinc 1 1, 3) := by decide +kernel
theorem dX5_countOnPitches_29 : decode cX5_countOnPitches 29 = .ok (.iinc 2 1, 3) := by decide +kernel
theorem dX5_countOnPitches_32 : decode cX5_countOnPitches 32 = .ok (.goto (-28), 3) := by decide +kernel
theorem dX5_countOnPitches_35 : decode cX5_countOnPitches 35 = .ok (.iload_n 1, 1) := by decide +kernel
theorem dX5_countOnPitches_36 : decode cX5_countOnPitches 36 = .ok (.ireturn, 1) := by decide +kernel
theorem dX5_sameKindBeside_0 : decode cX5_sameKindBeside 0 = .ok (.aload_n 0, 1) := by decide +kernel
theorem dX5_sameKindBeside_1 : decode cX5_sameKindBeside 1 = .ok (.iload_n 1, 1) := by decide +kernel
theorem dX5_sameKindBeside_2 : decode cX5_sameKindBeside 2 = .ok (.invokevirtual 97, 3) := by decide +kernel
theorem dX5_sameKindBeside_5 : decode cX5_sameKindBeside 5 = .ok (.ifCond .ne 5, 3) := by decide +kernel
theorem dX5_sameKindBeside_8 : decode cX5_sameKindBeside 8 = .ok (.iconst 0, 1) := by decide +kernel
theorem dX5_sameKindBeside_9 : decode cX5_sameKindBeside 9 = .ok (.ireturn, 1) := by decide +kernel
theorem dX5_sameKindBeside_10 : decode cX5_sameKindBeside 10 = .ok (.iload_n 2, 1) := by decide +kernel
theorem dX5_sameKindBeside_11 : decode cX5_sameKindBeside 11 = .ok (.iconst 1, 1) := by decide +kernel
theorem dX5_sameKindBeside_12 : decode cX5_sameKindBeside 12 = .ok (.isub, 1) := by decide +kernel
theorem dX5_sameKindBeside_13 : decode cX5_sameKindBeside 13 = .ok (.istore_n 3, 1) := by decide +kernel
theorem dX5_sameKindBeside_14 : decode cX5_sameKindBeside 14 = .ok (.iload_n 3, 1) := by decide +kernel
theorem dX5_sameKindBeside_15 : decode cX5_sameKindBeside 15 = .ok (.iload_n 2, 1) := by decide +kernel
theorem dX5_sameKindBeside_16 : decode cX5_sameKindBeside 16 = .ok (.iconst 1, 1) := by decide +kernel
theorem dX5_sameKindBeside_17 : decode cX5_sameKindBeside 17 = .ok (.iadd, 1) := by decide +kernel
theorem dX5_sameKindBeside_18 : decode cX5_sameKindBeside 18 = .ok (.if_icmp .gt 72, 3) := by decide +kernel
theorem dX5_sameKindBeside_21 : decode cX5_sameKindBeside 21 = .ok (.aload_n 0, 1) := by decide +kernel
theorem dX5_sameKindBeside_22 : decode cX5_sameKindBeside 22 = .ok (.iload_n 3, 1) := by decide +kernel
theorem dX5_sameKindBeside_23 : decode cX5_sameKindBeside 23 = .ok (.invokevirtual 87, 3) := by decide +kernel
theorem dX5_sameKindBeside_26 : decode cX5_sameKindBeside 26 = .ok (.ifCond .eq 15, 3) := by decide +kernel
theorem dX5_sameKindBeside_29 : decode cX5_sameKindBeside 29 = .ok (.aload_n 0, 1) := by decide +kernel
theorem dX5_sameKindBeside_30 : decode cX5_sameKindBeside 30 = .ok (.getfield 21, 3) := by decide +kernel
theorem dX5_sameKindBeside_33 : decode cX5_sameKindBeside 33 = .ok (.iload_n 3, 1) := by decide +kernel
theorem dX5_sameKindBeside_34 : decode cX5_sameKindBeside 34 = .ok (.aaload, 1) := by decide +kernel
theorem dX5_sameKindBeside_35 : decode cX5_sameKindBeside 35 = .ok (.getfield 177, 3) := by decide +kernel
theorem dX5_sameKindBeside_38 : decode cX5_sameKindBeside 38 = .ok (.goto 5, 3) := by decide +kernel
theorem dX5_sameKindBeside_41 : decode cX5_sameKindBeside 41 = .ok (.bipush (-6), 2) := by decide +kernel
theorem dX5_sameKindBeside_43 : decode cX5_sameKindBeside 43 = .ok (.istore 4, 2) := by decide +kernel
theorem dX5_sameKindBeside_45 : decode cX5_sameKindBeside 45 = .ok (.iload 4, 2) := by decide +kernel
theorem dX5_sameKindBeside_47 : decode cX5_sameKindBeside 47 = .ok (.iload_n 1, 1) := by decide +kernel
theorem dX5_sameKindBeside_48 : decode cX5_sameKindBeside 48 = .ok (.if_icmp .eq 36, 3) := by decide +kernel
theorem dX5_sameKindBeside_51 : decode cX5_sameKindBeside 51 = .ok (.aload_n 0, 1) := by decide +kernel
theorem dX5_sameKindBeside_52 : decode cX5_sameKindBeside 52 = .ok (.iload 4, 2) := by decide +kernel
theorem dX5_sameKindBeside_54 : decode cX5_sameKindBeside 54 = .ok (.invokevirtual 97, 3) := by decide +kernel
theorem dX5_sameKindBeside_57 : decode cX5_sameKindBeside 57 = .ok (.ifCond .eq 27, 3) := by decide +kernel
theorem dX5_sameKindBeside_60 : decode cX5_sameKindBeside 60 = .ok (.aload_n 0, 1) := by decide +kernel
theorem dX5_sameKindBeside_61 : decode cX5_sameKindBeside 61 = .ok (.getfield 27, 3) := by decide +kernel
theorem dX5_sameKindBeside_64 : decode cX5_sameKindBeside 64 = .ok (.iload 4, 2) := by decide +kernel
theorem dX5_sameKindBeside_66 : decode cX5_sameKindBeside 66 = .ok (.aaload, 1) := by decide +kernel
theorem dX5_sameKindBeside_67 : decode cX5_sameKindBeside 67 = .ok (.getfield 180, 3) := by decide +kernel
theorem dX5_sameKindBeside_70 : decode cX5_sameKindBeside 70 = .ok (.aload_n 0, 1) := by decide +kernel
theorem dX5_sameKindBeside_71 : decode cX5_sameKindBeside 71 = .ok (.getfield 27, 3) := by decide +kernel
theorem dX5_sameKindBeside_74 : decode cX5_sameKindBeside 74 = .ok (.iload_n 1, 1) := by decide +kernel
theorem dX5_sameKindBeside_75 : decode cX5_sameKindBeside 75 = .ok (.aaload, 1) := by decide +kernel
theorem dX5_sameKindBeside_76 : decode cX5_sameKindBeside 76 = .ok (.getfield 180, 3) := by decide +kernel
theorem dX5_sameKindBeside_79 : decode cX5_sameKindBeside 79 = .ok (.if_icmp .ne 5, 3) := by decide +kernel
theorem dX5_sameKindBeside_82 : decode cX5_sameKindBeside 82 = .ok (.iconst 1, 1) := by decide +kernel
theorem dX5_sameKindBeside_83 : decode cX5_sameKindBeside 83 = .ok (.ireturn, 1) := by decide +kernel
theorem dX5_sameKindBeside_84 : decode cX5_sameKindBeside 84 = .ok (.iinc 3 2, 3) := by decide +kernel
theorem dX5_sameKindBeside_87 : decode cX5_sameKindBeside 87 = .ok (.goto (-73), 3) := by decide +kernel
theorem dX5_sameKindBeside_90 : decode cX5_sameKindBeside 90 = .ok (.iconst 0, 1) := by decide +kernel
theorem dX5_sameKindBeside_91 : decode cX5_sameKindBeside 91 = .ok (.ireturn, 1) := by decide +kernel
theorem dX5_seat_0 : decode cX5_seat 0 = .ok (.aload_n 0, 1) := by decide +kernel
theorem dX5_seat_1 : decode cX5_seat 1 = .ok (.iload_n 1, 1) := by decide +kernel
theorem dX5_seat_2 : decode cX5_seat 2 = .ok (.invokevirtual 97, 3) := by decide +kernel
theorem dX5_seat_5 : decode cX5_seat 5 = .ok (.ifCond .eq 31, 3) := by decide +kernel
theorem dX5_seat_8 : decode cX5_seat 8 = .ok (.aload_n 0, 1) := by decide +kernel
theorem dX5_seat_9 : decode cX5_seat 9 = .ok (.iload_n 2, 1) := by decide +kernel
theorem dX5_seat_10 : decode cX5_seat 10 = .ok (.invokevirtual 87, 3) := by decide +kernel
theorem dX5_seat_13 : decode cX5_seat 13 = .ok (.ifCond .eq 23, 3) := by decide +kernel
theorem dX5_seat_16 : decode cX5_seat 16 = .ok (.aload_n 0, 1) := by decide +kernel
theorem dX5_seat_17 : decode cX5_seat 17 = .ok (.getfield 21, 3) := by decide +kernel
theorem dX5_seat_20 : decode cX5_seat 20 = .ok (.iload_n 2, 1) := by decide +kernel
theorem dX5_seat_21 : decode cX5_seat 21 = .ok (.aaload, 1) := by decide +kernel
theorem dX5_seat_22 : decode cX5_seat 22 = .ok (.iload_n 1, 1) := by decide +kernel
theorem dX5_seat_23 : decode cX5_seat 23 = .ok (.putfield 177, 3) := by decide +kernel
theorem dX5_seat_26 : decode cX5_seat 26 = .ok (.aload_n 0, 1) := by decide +kernel
theorem dX5_seat_27 : decode cX5_seat 27 = .ok (.getfield 27, 3) := by decide +kernel
theorem dX5_seat_30 : decode cX5_seat 30 = .ok (.iload_n 1, 1) := by decide +kernel
theorem dX5_seat_31 : decode cX5_seat 31 = .ok (.aaload, 1) := by decide +kernel
theorem dX5_seat_32 : decode cX5_seat 32 = .ok (.iload_n 2, 1) := by decide +kernel
theorem dX5_seat_33 : decode cX5_seat 33 = .ok (.putfield 174, 3) := by decide +kernel
theorem dX5_seat_36 : decode cX5_seat 36 = .ok (.return_, 1) := by decide +kernel
theorem dX5_unseat_0 : decode cX5_unseat 0 = .ok (.aload_n 0, 1) := by decide +kernel
theorem dX5_unseat_1 : decode cX5_unseat 1 = .ok (.aload_n 1, 1) := by decide +kernel
theorem dX5_unseat_2 : decode cX5_unseat 2 = .ok (.getfield 174, 3) := by decide +kernel
theorem dX5_unseat_5 : decode cX5_unseat 5 = .ok (.invokevirtual 87, 3) := by decide +kernel
theorem dX5_unseat_8 : decode cX5_unseat 8 = .ok (.ifCond .eq 17, 3) := by decide +kernel
theorem dX5_unseat_11 : decode cX5_unseat 11 = .ok (.aload_n 0, 1) := by decide +kernel
theorem dX5_unseat_12 : decode cX5_unseat 12 = .ok (.getfield 21, 3) := by decide +kernel
theorem dX5_unseat_15 : decode cX5_unseat 15 = .ok (.aload_n 1, 1) := by decide +kernel
theorem dX5_unseat_16 : decode cX5_unseat 16 = .ok (.getfield 174, 3) := by decide +kernel
theorem dX5_unseat_19 : decode cX5_unseat 19 = .ok (.aaload, 1) := by decide +kernel
theorem dX5_unseat_20 : decode cX5_unseat 20 = .ok (.bipush (-6), 2) := by decide +kernel
theorem dX5_unseat_22 : decode cX5_unseat 22 = .ok (.putfield 177, 3) := by decide +kernel
theorem dX5_unseat_25 : decode cX5_unseat 25 = .ok (.aload_n 1, 1) := by decide +kernel
theorem dX5_unseat_26 : decode cX5_unseat 26 = .ok (.bipush (-6), 2) := by decide +kernel
theorem dX5_unseat_28 : decode cX5_unseat 28 = .ok (.putfield 174, 3) := by decide +kernel
theorem dX5_unseat_31 : decode cX5_unseat 31 = .ok (.return_, 1) := by decide +kernel
theorem dX6_init_0 : decode cX6_init 0 = .ok (.aload_n 0, 1) := by decide +kernel
theorem dX6_init_1 : decode cX6_init 1 = .ok (.invokespecial 1, 3) := by decide +kernel
theorem dX6_init_4 : decode cX6_init 4 = .ok (.aload_n 0, 1) := by decide +kernel
theorem dX6_init_5 : decode cX6_init 5 = .ok (.new 7, 3) := by decide +kernel
theorem dX6_init_8 : decode cX6_init 8 = .ok (.dup, 1) := by decide +kernel
theorem dX6_init_9 : decode cX6_init 9 = .ok (.invokespecial 9, 3) := by decide +kernel
theorem dX6_init_12 : decode cX6_init 12 = .ok (.putfield 10, 3) := by decide +kernel
theorem dX6_init_15 : decode cX6_init 15 = .ok (.aload_n 0, 1) := by decide +kernel
theorem dX6_init_16 : decode cX6_init 16 = .ok (.new 7, 3) := by decide +kernel
theorem dX6_init_19 : decode cX6_init 19 = .ok (.dup, 1) := by decide +kernel
theorem dX6_init_20 : decode cX6_init 20 = .ok (.invokespecial 9, 3) := by decide +kernel
theorem dX6_init_23 : decode cX6_init 23 = .ok (.putfield 16, 3) := by decide +kernel
theorem dX6_init_26 : decode cX6_init 26 = .ok (.aload_n 0, 1) := by decide +kernel
theorem dX6_init_27 : decode cX6_init 27 = .ok (.new 19, 3) := by decide +kernel
theorem dX6_init_30 : decode cX6_init 30 = .ok (.dup, 1) := by decide +kernel
theorem dX6_init_31 : decode cX6_init 31 = .ok (.invokespecial 21, 3) := by decide +kernel
theorem dX6_init_34 : decode cX6_init 34 = .ok (.putfield 22, 3) := by decide +kernel
theorem dX6_init_37 : decode cX6_init 37 = .ok (.aload_n 0, 1) := by decide +kernel
theorem dX6_init_38 : decode cX6_init 38 = .ok (.new 7, 3) := by decide +kernel
theorem dX6_init_41 : decode cX6_init 41 = .ok (.dup, 1) := by decide +kernel
theorem dX6_init_42 : decode cX6_init 42 = .ok (.invokespecial 9, 3) := by decide +kernel
theorem dX6_init_45 : decode cX6_init 45 = .ok (.putfield 26, 3) := by decide +kernel
theorem dX6_init_48 : decode cX6_init 48 = .ok (.aload_n 0, 1) := by decide +kernel
theorem dX6_init_49 : decode cX6_init 49 = .ok (.new 7, 3) := by decide +kernel
theorem dX6_init_52 : decode cX6_init 52 = .ok (.dup, 1) := by decide +kernel
theorem dX6_init_53 : decode cX6_init 53 = .ok (.invokespecial 9, 3) := by decide +kernel
theorem dX6_init_56 : decode cX6_init 56 = .ok (.putfield 29, 3) := by decide +kernel
theorem dX6_init_59 : decode cX6_init 59 = .ok (.aload_n 0, 1) := by decide +kernel
theorem dX6_init_60 : decode cX6_init 60 = .ok (.new 32, 3) := by decide +kernel
theorem dX6_init_63 : decode cX6_init 63 = .ok (.dup, 1) := by decide +kernel
theorem dX6_init_64 : decode cX6_init 64 = .ok (.invokespecial 34, 3) := by decide +kernel
theorem dX6_init_67 : decode cX6_init 67 = .ok (.putfield 35, 3) := by decide +kernel
theorem dX6_init_70 : decode cX6_init 70 = .ok (.return_, 1) := by decide +kernel
theorem dX6_set_0 : decode cX6_set 0 = .ok (.aload_n 0, 1) := by decide +kernel
theorem dX6_set_1 : decode cX6_set 1 = .ok (.getfield 22, 3) := by decide +kernel
theorem dX6_set_4 : decode cX6_set 4 = .ok (.aload_n 0, 1) := by decide +kernel
theorem dX6_set_5 : decode cX6_set 5 = .ok (.getfield 10, 3) := by decide +kernel
theorem dX6_set_8 : decode cX6_set 8 = .ok (.invokevirtual 39, 3) := by decide +kernel
theorem dX6_set_11 : decode cX6_set 11 = .ok (.aload_n 0, 1) := by decide +kernel
theorem dX6_set_12 : decode cX6_set 12 = .ok (.aload_n 0, 1) := by decide +kernel
theorem dX6_set_13 : decode cX6_set 13 = .ok (.getfield 10, 3) := by decide +kernel
theorem dX6_set_16 : decode cX6_set 16 = .ok (.iload_n 1, 1) := by decide +kernel
theorem dX6_set_17 : decode cX6_set 17 = .ok (.iload_n 2, 1) := by decide +kernel
theorem dX6_set_18 : decode cX6_set 18 = .ok (.invokevirtual 43, 3) := by decide +kernel
theorem dX6_set_21 : decode cX6_set 21 = .ok (.invokevirtual 47, 3) := by decide +kernel
theorem dX6_set_24 : decode cX6_set 24 = .ok (.ireturn, 1) := by decide +kernel
theorem dX6_seed_0 : decode cX6_seed 0 = .ok (.aload_n 0, 1) := by decide +kernel
theorem dX6_seed_1 : decode cX6_seed 1 = .ok (.getfield 22, 3) := by decide +kernel
theorem dX6_seed_4 : decode cX6_seed 4 = .ok (.aload_n 0, 1) := by decide +kernel
theorem dX6_seed_5 : decode cX6_seed 5 = .ok (.getfield 10, 3) := by decide +kernel
theorem dX6_seed_8 : decode cX6_seed 8 = .ok (.invokevirtual 39, 3) := by decide +kernel
theorem dX6_seed_11 : decode cX6_seed 11 = .ok (.aload_n 0, 1) := by decide +kernel
theorem dX6_seed_12 : decode cX6_seed 12 = .ok (.aload_n 0, 1) := by decide +kernel
theorem dX6_seed_13 : decode cX6_seed 13 = .ok (.getfield 10, 3) := by decide +kernel
theorem dX6_seed_16 : decode cX6_seed 16 = .ok (.iload_n 1, 1) := by decide +kernel
theorem dX6_seed_17 : decode cX6_seed 17 = .ok (.invokevirtual 51, 3) := by decide +kernel
theorem dX6_seed_20 : decode cX6_seed 20 = .ok (.invokevirtual 47, 3) := by decide +kernel
theorem dX6_seed_23 : decode cX6_seed 23 = .ok (.ireturn, 1) := by decide +kernel
theorem dX6_pitch_0 : decode cX6_pitch 0 = .ok (.aload_n 0, 1) := by decide +kernel
theorem dX6_pitch_1 : decode cX6_pitch 1 = .ok (.getfield 22, 3) := by decide +kernel
theorem dX6_pitch_4 : decode cX6_pitch 4 = .ok (.aload_n 0, 1) := by decide +kernel
theorem dX6_pitch_5 : decode cX6_pitch 5 = .ok (.getfield 10, 3) := by decide +kernel
theorem dX6_pitch_8 : decode cX6_pitch 8 = .ok (.invokevirtual 39, 3) := by decide +kernel
theorem dX6_pitch_11 : decode cX6_pitch 11 = .ok (.aload_n 0, 1) := by decide +kernel
theorem dX6_pitch_12 : decode cX6_pitch 12 = .ok (.aload_n 0, 1) := by decide +kernel
theorem dX6_pitch_13 : decode cX6_pitch 13 = .ok (.getfield 10, 3) := by decide +kernel
theorem dX6_pitch_16 : decode cX6_pitch 16 = .ok (.iload_n 1, 1) := by decide +kernel
theorem dX6_pitch_17 : decode cX6_pitch 17 = .ok (.invokevirtual 54, 3) := by decide +kernel
theorem dX6_pitch_20 : decode cX6_pitch 20 = .ok (.invokevirtual 47, 3) := by decide +kernel
theorem dX6_pitch_23 : decode cX6_pitch 23 = .ok (.ireturn, 1) := by decide +kernel
theorem dX6_rent_0 : decode cX6_rent 0 = .ok (.aload_n 0, 1) := by decide +kernel
theorem dX6_rent_1 : decode cX6_rent 1 = .ok (.getfield 22, 3) := by decide +kernel
theorem dX6_rent_4 : decode cX6_rent 4 = .ok (.aload_n 0, 1) := by decide +kernel
theorem dX6_rent_5 : decode cX6_rent 5 = .ok (.getfield 10, 3) := by decide +kernel
theorem dX6_rent_8 : decode cX6_rent 8 = .ok (.invokevirtual 39, 3) := by decide +kernel
theorem dX6_rent_11 : decode cX6_rent 11 = .ok (.aload_n 0, 1) := by decide +kernel
theorem dX6_rent_12 : decode cX6_rent 12 = .ok (.aload_n 0, 1) := by decide +kernel
theorem dX6_rent_13 : decode cX6_rent 13 = .ok (.getfield 10, 3) := by decide +kernel
theorem dX6_rent_16 : decode cX6_rent 16 = .ok (.iload_n 1, 1) := by decide +kernel
theorem dX6_rent_17 : decode cX6_rent 17 = .ok (.iload_n 2, 1) := by decide +kernel
theorem dX6_rent_18 : decode cX6_rent 18 = .ok (.invokevirtual 57, 3) := by decide +kernel
theorem dX6_rent_21 : decode cX6_rent 21 = .ok (.invokevirtual 47, 3) := by decide +kernel
theorem dX6_rent_24 : decode cX6_rent 24 = .ok (.ireturn, 1) := by decide +kernel
theorem dX6_cart_0 : decode cX6_cart 0 = .ok (.aload_n 0, 1) := by decide +kernel
theorem dX6_cart_1 : decode cX6_cart 1 = .ok (.getfield 22, 3) := by decide +kernel
theorem dX6_cart_4 : decode cX6_cart 4 = .ok (.aload_n 0, 1) := by decide +kernel
theorem dX6_cart_5 : decode cX6_cart 5 = .ok (.getfield 10, 3) := by decide +kernel
theorem dX6_cart_8 : decode cX6_cart 8 = .ok (.invokevirtual 39, 3) := by decide +kernel
theorem dX6_cart_11 : decode cX6_cart 11 = .ok (.aload_n 0, 1) := by decide +kernel
theorem dX6_cart_12 : decode cX6_cart 12 = .ok (.aload_n 0, 1) := by decide +kernel
theorem dX6_cart_13 : decode cX6_cart 13 = .ok (.getfield 10, 3) := by decide +kernel
theorem dX6_cart_16 : decode cX6_cart 16 = .ok (.iload_n 1, 1) := by decide +kernel
theorem dX6_cart_17 : decode cX6_cart 17 = .ok (.iload_n 2, 1) := by decide +kernel
theorem dX6_cart_18 : decode cX6_cart 18 = .ok (.invokevirtual 60, 3) := by decide +kernel
theorem dX6_cart_21 : decode cX6_cart 21 = .ok (.invokevirtual 47, 3) := by decide +kernel
theorem dX6_cart_24 : decode cX6_cart 24 = .ok (.ireturn, 1) := by decide +kernel
theorem dX6_wish_0 : decode cX6_wish 0 = .ok (.aload_n 0, 1) := by decide +kernel
theorem dX6_wish_1 : decode cX6_wish 1 = .ok (.getfield 22, 3) := by decide +kernel
theorem dX6_wish_4 : decode cX6_wish 4 = .ok (.aload_n 0, 1) := by decide +kernel
theorem dX6_wish_5 : decode cX6_wish 5 = .ok (.getfield 10, 3) := by decide +kernel
theorem dX6_wish_8 : decode cX6_wish 8 = .ok (.invokevirtual 39, 3) := by decide +kernel
theorem dX6_wish_11 : decode cX6_wish 11 = .ok (.aload_n 0, 1) := by decide +kernel
theorem dX6_wish_12 : decode cX6_wish 12 = .ok (.aload_n 0, 1) := by decide +kernel
theorem dX6_wish_13 : decode cX6_wish 13 = .ok (.getfield 10, 3) := by decide +kernel
theorem dX6_wish_16 : decode cX6_wish 16 = .ok (.iload_n 1, 1) := by decide +kernel
theorem dX6_wish_17 : decode cX6_wish 17 = .ok (.iload_n 2, 1) := by decide +kernel
theorem dX6_wish_18 : decode cX6_wish 18 = .ok (.iload_n 3, 1) := by decide +kernel
theorem dX6_wish_19 : decode cX6_wish 19 = .ok (.iload 4, 2) := by decide +kernel
theorem dX6_wish_21 : decode cX6_wish 21 = .ok (.invokevirtual 63, 3) := by decide +kernel
theorem dX6_wish_24 : decode cX6_wish 24 = .ok (.invokevirtual 47, 3) := by decide +kernel
theorem dX6_wish_27 : decode cX6_wish 27 = .ok (.ireturn, 1) := by decide +kernel
theorem dX6_fine_0 : decode cX6_fine 0 = .ok (.aload_n 0, 1) := by decide +kernel
theorem dX6_fine_1 : decode cX6_fine 1 = .ok (.getfield 22, 3) := by decide +kernel
theorem dX6_fine_4 : decode cX6_fine 4 = .ok (.aload_n 0, 1) := by decide +kernel
theorem dX6_fine_5 : decode cX6_fine 5 = .ok (.getfield 10, 3) := by decide +kernel
theorem dX6_fine_8 : decode cX6_fine 8 = .ok (.invokevirtual 39, 3) := by decide +kernel
theorem dX6_fine_11 : decode cX6_fine 11 = .ok (.aload_n 0, 1) := by decide +kernel
theorem dX6_fine_12 : decode cX6_fine 12 = .ok (.aload_n 0, 1) := by decide +kernel
theorem dX6_fine_13 : decode cX6_fine 13 = .ok (.getfield 10, 3) := by decide +kernel
theorem dX6_fine_16 : decode cX6_fine 16 = .ok (.iload_n 1, 1) := by decide +kernel
theorem dX6_fine_17 : decode cX6_fine 17 = .ok (.iload_n 2, 1) := by decide +kernel
theorem dX6_fine_18 : decode cX6_fine 18 = .ok (.invokevirtual 67, 3) := by decide +kernel
theorem dX6_fine_21 : decode cX6_fine 21 = .ok (.invokevirtual 47, 3) := by decide +kernel
theorem dX6_fine_24 : decode cX6_fine 24 = .ok (.ireturn, 1) := by decide +kernel
theorem dX6_check_0 : decode cX6_check 0 = .ok (.aload_n 0, 1) := by decide +kernel
theorem dX6_check_1 : decode cX6_check 1 = .ok (.getfield 22, 3) := by decide +kernel
theorem dX6_check_4 : decode cX6_check 4 = .ok (.aload_n 0, 1) := by decide +kernel
theorem dX6_check_5 : decode cX6_check 5 = .ok (.getfield 10, 3) := by decide +kernel
theorem dX6_check_8 : decode cX6_check 8 = .ok (.invokevirtual 39, 3) := by decide +kernel
theorem dX6_check_11 : decode cX6_check 11 = .ok (.aload_n 0, 1) := by decide +kernel
theorem dX6_check_12 : decode cX6_check 12 = .ok (.aload_n 0, 1) := by decide +kernel
theorem dX6_check_13 : decode cX6_check 13 = .ok (.getfield 10, 3) := by decide +kernel
theorem dX6_check_16 : decode cX6_check 16 = .ok (.iload_n 1, 1) := by decide +kernel
theorem dX6_check_17 : decode cX6_check 17 = .ok (.invokevirtual 70, 3) := by decide +kernel
theorem dX6_check_20 : decode cX6_check 20 = .ok (.invokevirtual 47, 3) := by decide +kernel
theorem dX6_check_23 : decode cX6_check 23 = .ok (.ireturn, 1) := by decide +kernel
theorem dX6_swap_0 : decode cX6_swap 0 = .ok (.aload_n 0, 1) := by decide +kernel
theorem dX6_swap_1 : decode cX6_swap 1 = .ok (.getfield 22, 3) := by decide +kernel
theorem dX6_swap_4 : decode cX6_swap 4 = .ok (.aload_n 0, 1) := by decide +kernel
theorem dX6_swap_5 : decode cX6_swap 5 = .ok (.getfield 10, 3) := by decide +kernel
theorem dX6_swap_8 : decode cX6_swap 8 = .ok (.invokevirtual 39, 3) := by decide +kernel
theorem dX6_swap_11 : decode cX6_swap 11 = .ok (.aload_n 0, 1) := by decide +kernel
theorem dX6_swap_12 : decode cX6_swap 12 = .ok (.aload_n 0, 1) := by decide +kernel
theorem dX6_swap_13 : decode cX6_swap 13 = .ok (.getfield 10, 3) := by decide +kernel
theorem dX6_swap_16 : decode cX6_swap 16 = .ok (.iload_n 1, 1) := by decide +kernel
theorem dX6_swap_17 : decode cX6_swap 17 = .ok (.iload_n 2, 1) := by decide +kernel
theorem dX6_swap_18 : decode cX6_swap 18 = .ok (.invokevirtual 73, 3) := by decide +kernel
theorem dX6_swap_21 : decode cX6_swap 21 = .ok (.invokevirtual 47, 3) := by decide +kernel
theorem dX6_swap_24 : decode cX6_swap 24 = .ok (.ireturn, 1) := by decide +kernel
theorem dX6_pay_0 : decode cX6_pay 0 = .ok (.aload_n 0, 1) := by decide +kernel
theorem dX6_pay_1 : decode cX6_pay 1 = .ok (.getfield 22, 3) := by decide +kernel
theorem dX6_pay_4 : decode cX6_pay 4 = .ok (.aload_n 0, 1) := by decide +kernel
theorem dX6_pay_5 : decode cX6_pay 5 = .ok (.getfield 10, 3) := by decide +kernel
theorem dX6_pay_8 : decode cX6_pay 8 = .ok (.invokevirtual 39, 3) := by decide +kernel
theorem dX6_pay_11 : decode cX6_pay 11 = .ok (.aload_n 0, 1) := by decide +kernel
theorem dX6_pay_12 : decode cX6_pay 12 = .ok (.aload_n 0, 1) := by decide +kernel
theorem dX6_pay_13 : decode cX6_pay 13 = .ok (.getfield 10, 3) := by decide +kernel
theorem dX6_pay_16 : decode cX6_pay 16 = .ok (.iload_n 1, 1) := by decide +kernel
theorem dX6_pay_17 : decode cX6_pay 17 = .ok (.iload_n 2, 1) := by decide +kernel
theorem dX6_pay_18 : decode cX6_pay 18 = .ok (.invokevirtual 76, 3) := by decide +kernel
theorem dX6_pay_21 : decode cX6_pay 21 = .ok (.invokevirtual 47, 3) := by decide +kernel
theorem dX6_pay_24 : decode cX6_pay 24 = .ok (.ireturn, 1) := by decide +kernel
theorem dX6_days_0 : decode cX6_days 0 = .ok (.aload_n 0, 1) := by decide +kernel
theorem dX6_days_1 : decode cX6_days 1 = .ok (.getfield 22, 3) := by decide +kernel
theorem dX6_days_4 : decode cX6_days 4 = .ok (.aload_n 0, 1) := by decide +kernel
theorem dX6_days_5 : decode cX6_days 5 = .ok (.getfield 10, 3) := by decide +kernel
theorem dX6_days_8 : decode cX6_days 8 = .ok (.invokevirtual 39, 3) := by decide +kernel
theorem dX6_days_11 : decode cX6_days 11 = .ok (.aload_n 0, 1) := by decide +kernel
theorem dX6_days_12 : decode cX6_days 12 = .ok (.aload_n 0, 1) := by decide +kernel
theorem dX6_days_13 : decode cX6_days 13 = .ok (.getfield 10, 3) := by decide +kernel
theorem dX6_days_16 : decode cX6_days 16 = .ok (.iload_n 1, 1) := by decide +kernel
theorem dX6_days_17 : decode cX6_days 17 = .ok (.invokevirtual 79, 3) := by decide +kernel
theorem dX6_days_20 : decode cX6_days 20 = .ok (.invokevirtual 47, 3) := by decide +kernel
theorem dX6_days_23 : decode cX6_days 23 = .ok (.ireturn, 1) := by decide +kernel
theorem dX6_recorded_0 : decode cX6_recorded 0 = .ok (.iload_n 1, 1) := by decide +kernel
theorem dX6_recorded_1 : decode cX6_recorded 1 = .ok (.ifCond .lt 10, 3) := by decide +kernel
theorem dX6_recorded_4 : decode cX6_recorded 4 = .ok (.aload_n 0, 1) := by decide +kernel
theorem dX6_recorded_5 : decode cX6_recorded 5 = .ok (.getfield 22, 3) := by decide +kernel
theorem dX6_recorded_8 : decode cX6_recorded 8 = .ok (.invokevirtual 82, 3) := by decide +kernel
theorem dX6_recorded_11 : decode cX6_recorded 11 = .ok (.iload_n 1, 1) := by decide +kernel
theorem dX6_recorded_12 : decode cX6_recorded 12 = .ok (.ireturn, 1) := by decide +kernel
theorem dX6_ofCart_0 : decode cX6_ofCart 0 = .ok (.aload_n 0, 1) := by decide +kernel
theorem dX6_ofCart_1 : decode cX6_ofCart 1 = .ok (.getfield 10, 3) := by decide +kernel
theorem dX6_ofCart_4 : decode cX6_ofCart 4 = .ok (.iload_n 1, 1) := by decide +kernel
theorem dX6_ofCart_5 : decode cX6_ofCart 5 = .ok (.invokevirtual 85, 3) := by decide +kernel
theorem dX6_ofCart_8 : decode cX6_ofCart 8 = .ok (.ifCond .ne 5, 3) := by decide +kernel
theorem dX6_ofCart_11 : decode cX6_ofCart 11 = .ok (.iconst (-1), 1) := by decide +kernel
theorem dX6_ofCart_12 : decode cX6_ofCart 12 = .ok (.ireturn, 1) := by decide +kernel
theorem dX6_ofCart_13 : decode cX6_ofCart 13 = .ok (.iload_n 2, 1) := by decide +kernel
theorem dX6_ofCart_14 : decode cX6_ofCart 14 = .ok (.ifCond .lt 9, 3) := by decide +kernel
theorem dX6_ofCart_17 : decode cX6_ofCart 17 = .ok (.iload_n 2, 1) := by decide +kernel
theorem dX6_ofCart_18 : decode cX6_ofCart 18 = .ok (.bipush 15, 2) := by decide +kernel
theorem dX6_ofCart_20 : decode cX6_ofCart 20 = .ok (.if_icmp .le 6, 3) := by decide +kernel
theorem dX6_ofCart_23 : decode cX6_ofCart 23 = .ok (.bipush (-2), 2) := by decide +kernel
theorem dX6_ofCart_25 : decode cX6_ofCart 25 = .ok (.ireturn, 1) := by decide +kernel
theorem dX6_ofCart_26 : decode cX6_ofCart 26 = .ok (.aload_n 0, 1) := by decide +kernel
theorem dX6_ofCart_27 : decode cX6_ofCart 27 = .ok (.getfield 10, 3) := by decide +kernel
theorem dX6_ofCart_30 : decode cX6_ofCart 30 = .ok (.getfield 89, 3) := by decide +kernel
theorem dX6_ofCart_33 : decode cX6_ofCart 33 = .ok (.iload_n 1, 1) := by decide +kernel
theorem dX6_ofCart_34 : decode cX6_ofCart 34 = .ok (.aaload, 1) := by decide +kernel
theorem dX6_ofCart_35 : decode cX6_ofCart 35 = .ok (.astore_n 3, 1) := by decide +kernel
theorem dX6_ofCart_36 : decode cX6_ofCart 36 = .ok (.iload_n 2, 1) := by decide +kernel
theorem dX6_ofCart_37 : decode cX6_ofCart 37 = .ok (.bipush 9, 2) := by decide +kernel
theorem dX6_ofCart_39 : decode cX6_ofCart 39 = .ok (.if_icmp .ge 12, 3) := by decide +kernel
theorem dX6_ofCart_42 : decode cX6_ofCart 42 = .ok (.aload_n 0, 1) := by decide +kernel
theorem dX6_ofCart_43 : decode cX6_ofCart 43 = .ok (.aload_n 3, 1) := by decide +kernel
theorem dX6_ofCart_44 : decode cX6_ofCart 44 = .ok (.iload_n 2, 1) := by decide +kernel
theorem dX6_ofCart_45 : decode cX6_ofCart 45 = .ok (.invokevirtual 93, 3) := by decide +kernel
theorem dX6_ofCart_48 : decode cX6_ofCart 48 = .ok (.goto 9, 3) := by decide +kernel
theorem dX6_ofCart_51 : decode cX6_ofCart 51 = .ok (.aload_n 0, 1) := by decide +kernel
theorem dX6_ofCart_52 : decode cX6_ofCart 52 = .ok (.aload_n 3, 1) := by decide +kernel
theorem dX6_ofCart_53 : decode cX6_ofCart 53 = .ok (.iload_n 2, 1) := by decide +kernel
theorem dX6_ofCart_54 : decode cX6_ofCart 54 = .ok (.invokevirtual 97, 3) := by decide +kernel
theorem dX6_ofCart_57 : decode cX6_ofCart 57 = .ok (.ireturn, 1) := by decide +kernel
theorem dX6_aboutCart_0 : decode cX6_aboutCart 0 = .ok (.iload_n 2, 1) := by decide +kernel
theorem dX6_aboutCart_1 : decode cX6_aboutCart 1 = .ok (.tableswitch 80 0 7 #[47, 52, 57, 62, 62, 62, 70, 75], 47) := by decide +kernel
theorem dX6_aboutCart_48 : decode cX6_aboutCart 48 = .ok (.aload_n 1, 1) := by decide +kernel
theorem dX6_aboutCart_49 : decode cX6_aboutCart 49 = .ok (.getfield 100, 3) := by decide +kernel
theorem dX6_aboutCart_52 : decode cX6_aboutCart 52 = .ok (.ireturn, 1) := by decide +kernel
theorem dX6_aboutCart_53 : decode cX6_aboutCart 53 = .ok (.aload_n 1, 1) := by decide +kernel
theorem dX6_aboutCart_54 : decode cX6_aboutCart 54 = .ok (.getfield 106, 3) := by decide +kernel
theorem dX6_aboutCart_57 : decode cX6_aboutCart 57 = .ok (.ireturn, 1) := by decide +kernel
theorem dX6_aboutCart_58 : decode cX6_aboutCart 58 = .ok (.aload_n 1, 1) := by decide +kernel
theorem dX6_aboutCart_59 : decode cX6_aboutCart 59 = .ok (.getfield 109, 3) := by decide +kernel
theorem dX6_aboutCart_62 : decode cX6_aboutCart 62 = .ok (.ireturn, 1) := by decide +kernel
theorem dX6_aboutCart_63 : decode cX6_aboutCart 63 = .ok (.aload_n 1, 1) := by decide +kernel
theorem dX6_aboutCart_64 : decode cX6_aboutCart 64 = .ok (.iload_n 2, 1) := by decide +kernel
theorem dX6_aboutCart_65 : decode cX6_aboutCart 65 = .ok (.iconst 3, 1) := by decide +kernel
theorem dX6_aboutCart_66 : decode cX6_aboutCart 66 = .ok (.isub, 1) := by decide +kernel
theorem dX6_aboutCart_67 : decode cX6_aboutCart 67 = .ok (.invokevirtual 112, 3) := by decide +kernel
theorem dX6_aboutCart_70 : decode cX6_aboutCart 70 = .ok (.ireturn, 1) := by decide +kernel
theorem dX6_aboutCart_71 : decode cX6_aboutCart 71 = .ok (.aload_n 1, 1) := by decide +kernel
theorem dX6_aboutCart_72 : decode cX6_aboutCart 72 = .ok (.getfield 115, 3) := by decide +kernel
theorem dX6_aboutCart_75 : decode cX6_aboutCart 75 = .ok (.ireturn, 1) := by decide +kernel
theorem dX6_aboutCart_76 : decode cX6_aboutCart 76 = .ok (.aload_n 1, 1) := by decide +kernel
theorem dX6_aboutCart_77 : decode cX6_aboutCart 77 = .ok (.getfield 118, 3) := by decide +kernel
theorem dX6_aboutCart_80 : decode cX6_aboutCart 80 = .ok (.ireturn, 1) := by decide +kernel
theorem dX6_aboutCart_81 : decode cX6_aboutCart 81 = .ok (.aload_n 1, 1) := by decide +kernel
theorem dX6_aboutCart_82 : decode cX6_aboutCart 82 = .ok (.getfield 121, 3) := by decide +kernel
theorem dX6_aboutCart_85 : decode cX6_aboutCart 85 = .ok (.ifCond .eq 7, 3) := by decide +kernel
theorem dX6_aboutCart_88 : decode cX6_aboutCart 88 = .ok (.iconst 1, 1) := by decide +kernel
theorem dX6_aboutCart_89 : decode cX6_aboutCart 89 = .ok (.goto 4, 3) := by decide +kernel
theorem dX6_aboutCart_92 : decode cX6_aboutCart 92 = .ok (.iconst 0, 1) := by decide +kernel
theorem dX6_aboutCart_93 : decode cX6_aboutCart 93 = .ok (.ireturn, 1) := by decide +kernel
theorem dX6_aboutPastOfCart_0 : decode cX6_aboutPastOfCart 0 = .ok (.iload_n 2, 1) := by decide +kernel
theorem dX6_aboutPastOfCart_1 : decode cX6_aboutPastOfCart 1 = .ok (.tableswitch 92 9 14 #[39, 67, 72, 77, 82, 87], 39) := by decide +kernel
theorem dX6_aboutPastOfCart_40 : decode cX6_aboutPastOfCart 40 = .ok (.aload_n 1, 1) := by decide +kernel
theorem dX6_aboutPastOfCart_41 : decode cX6_aboutPastOfCart 41 = .ok (.aload_n 0, 1) := by decide +kernel
theorem dX6_aboutPastOfCart_42 : decode cX6_aboutPastOfCart 42 = .ok (.getfield 10, 3) := by decide +kernel
theorem dX6_aboutPastOfCart_45 : decode cX6_aboutPastOfCart 45 = .ok (.getfield 125, 3) := by decide +kernel
theorem dX6_aboutPastOfCart_48 : decode cX6_aboutPastOfCart 48 = .ok (.aload_n 0, 1) := by decide +kernel
theorem dX6_aboutPastOfCart_49 : decode cX6_aboutPastOfCart 49 = .ok (.getfield 10, 3) := by decide +kernel
theorem dX6_aboutPastOfCart_52 : decode cX6_aboutPastOfCart 52 = .ok (.getfield 125, 3) := by decide +kernel
theorem dX6_aboutPastOfCart_55 : decode cX6_aboutPastOfCart 55 = .ok (.aload_n 0, 1) := by decide +kernel
theorem dX6_aboutPastOfCart_56 : decode cX6_aboutPastOfCart 56 = .ok (.getfield 10, 3) := by decide +kernel
theorem dX6_aboutPastOfCart_59 : decode cX6_aboutPastOfCart 59 = .ok (.getfield 128, 3) := by decide +kernel
theorem dX6_aboutPastOfCart_62 : decode cX6_aboutPastOfCart 62 = .ok (.iconst 5, 1) := by decide +kernel
theorem dX6_aboutPastOfCart_63 : decode cX6_aboutPastOfCart 63 = .ok (.iaload, 1) := by decide +kernel
theorem dX6_aboutPastOfCart_64 : decode cX6_aboutPastOfCart 64 = .ok (.invokevirtual 132, 3) := by decide +kernel
theorem dX6_aboutPastOfCart_67 : decode cX6_aboutPastOfCart 67 = .ok (.ireturn, 1) := by decide +kernel
theorem dX6_aboutPastOfCart_68 : decode cX6_aboutPastOfCart 68 = .ok (.aload_n 1, 1) := by decide +kernel
theorem dX6_aboutPastOfCart_69 : decode cX6_aboutPastOfCart 69 = .ok (.getfield 136, 3) := by decide +kernel
theorem dX6_aboutPastOfCart_72 : decode cX6_aboutPastOfCart 72 = .ok (.ireturn, 1) := by decide +kernel
theorem dX6_aboutPastOfCart_73 : decode cX6_aboutPastOfCart 73 = .ok (.aload_n 1, 1) := by decide +kernel
theorem dX6_aboutPastOfCart_74 : decode cX6_aboutPastOfCart 74 = .ok (.getfield 139, 3) := by decide +kernel
theorem dX6_aboutPastOfCart_77 : decode cX6_aboutPastOfCart 77 = .ok (.ireturn, 1) := by decide +kernel
theorem dX6_aboutPastOfCart_78 : decode cX6_aboutPastOfCart 78 = .ok (.aload_n 1, 1) := by decide +kernel
theorem dX6_aboutPastOfCart_79 : decode cX6_aboutPastOfCart 79 = .ok (.getfield 142, 3) := by decide +kernel
theorem dX6_aboutPastOfCart_82 : decode cX6_aboutPastOfCart 82 = .ok (.ireturn, 1) := by decide +kernel
theorem dX6_aboutPastOfCart_83 : decode cX6_aboutPastOfCart 83 = .ok (.aload_n 1, 1) := by decide +kernel
theorem dX6_aboutPastOfCart_84 : decode cX6_aboutPastOfCart 84 = .ok (.getfield 145, 3) := by decide +kernel
theorem dX6_aboutPastOfCart_87 : decode cX6_aboutPastOfCart 87 = .ok (.ireturn, 1) := by decide +kernel
theorem dX6_aboutPastOfCart_88 : decode cX6_aboutPastOfCart 88 = .ok (.aload_n 1, 1) := by decide +kernel
theorem dX6_aboutPastOfCart_89 : decode cX6_aboutPastOfCart 89 = .ok (.getfield 148, 3) := by decide +kernel
theorem dX6_aboutPastOfCart_92 : decode cX6_aboutPastOfCart 92 = .ok (.ireturn, 1) := by decide +kernel
theorem dX6_aboutPastOfCart_93 : decode cX6_aboutPastOfCart 93 = .ok (.aload_n 1, 1) := by decide +kernel
theorem dX6_aboutPastOfCart_94 : decode cX6_aboutPastOfCart 94 = .ok (.getfield 151, 3) := by decide +kernel
theorem dX6_aboutPastOfCart_97 : decode cX6_aboutPastOfCart 97 = .ok (.ireturn, 1) := by decide +kernel
theorem dX6_money_0 : decode cX6_money 0 = .ok (.aload_n 0, 1) := by decide +kernel
theorem dX6_money_1 : decode cX6_money 1 = .ok (.getfield 10, 3) := by decide +kernel
theorem dX6_money_4 : decode cX6_money 4 = .ok (.iload_n 1, 1) := by decide +kernel
theorem dX6_money_5 : decode cX6_money 5 = .ok (.invokevirtual 85, 3) := by decide +kernel
theorem dX6_money_8 : decode cX6_money 8 = .ok (.ifCond .ne 7, 3) := by decide +kernel
theorem dX6_money_11 : decode cX6_money 11 = .ok (.ldc2_w 154, 3) := by decide +kernel
theorem dX6_money_14 : decode cX6_money 14 = .ok (.lreturn, 1) := by decide +kernel
theorem dX6_money_15 : decode cX6_money 15 = .ok (.aload_n 0, 1) := by decide +kernel
theorem dX6_money_16 : decode cX6_money 16 = .ok (.getfield 10, 3) := by decide +kernel
theorem dX6_money_19 : decode cX6_money 19 = .ok (.getfield 89, 3) := by decide +kernel
theorem dX6_money_22 : decode cX6_money 22 = .ok (.iload_n 1, 1) := by decide +kernel
theorem dX6_money_23 : decode cX6_money 23 = .ok (.aaload, 1) := by decide +kernel
theorem dX6_money_24 : decode cX6_money 24 = .ok (.astore_n 3, 1) := by decide +kernel
theorem dX6_money_25 : decode cX6_money 25 = .ok (.iload_n 2, 1) := by decide +kernel
theorem dX6_money_26 : decode cX6_money 26 = .ok (.tableswitch 59 0 4 #[34, 39, 44, 49, 54], 34) := by decide +kernel
theorem dX6_money_60 : decode cX6_money 60 = .ok (.aload_n 3, 1) := by decide +kernel
theorem dX6_money_61 : decode cX6_money 61 = .ok (.invokevirtual 156, 3) := by decide +kernel
theorem dX6_money_64 : decode cX6_money 64 = .ok (.lreturn, 1) := by decide +kernel
theorem dX6_money_65 : decode cX6_money 65 = .ok (.aload_n 3, 1) := by decide +kernel
theorem dX6_money_66 : decode cX6_money 66 = .ok (.getfield 160, 3) := by decide +kernel
theorem dX6_money_69 : decode cX6_money 69 = .ok (.lreturn, 1) := by decide +kernel
theorem dX6_money_70 : decode cX6_money 70 = .ok (.aload_n 3, 1) := by decide +kernel
theorem dX6_money_71 : decode cX6_money 71 = .ok (.getfield 164, 3) := by decide +kernel
theorem dX6_money_74 : decode cX6_money 74 = .ok (.lreturn, 1) := by decide +kernel
theorem dX6_money_75 : decode cX6_money 75 = .ok (.aload_n 3, 1) := by decide +kernel
theorem dX6_money_76 : decode cX6_money 76 = .ok (.getfield 167, 3) := by decide +kernel
theorem dX6_money_79 : decode cX6_money 79 = .ok (.lreturn, 1) := by decide +kernel
theorem dX6_money_80 : decode cX6_money 80 = .ok (.aload_n 3, 1) := by decide +kernel
theorem dX6_money_81 : decode cX6_money 81 = .ok (.getfield 170, 3) := by decide +kernel
theorem dX6_money_84 : decode cX6_money 84 = .ok (.lreturn, 1) := by decide +kernel
theorem dX6_money_85 : decode cX6_money 85 = .ok (.ldc2_w 173, 3) := by decide +kernel
theorem dX6_money_88 : decode cX6_money 88 = .ok (.lreturn, 1) := by decide +kernel
theorem dX6_ofPitch_0 : decode cX6_ofPitch 0 = .ok (.aload_n 0, 1) := by decide +kernel
theorem dX6_ofPitch_1 : decode cX6_ofPitch 1 = .ok (.getfield 10, 3) := by decide +kernel
theorem dX6_ofPitch_4 : decode cX6_ofPitch 4 = .ok (.iload_n 1, 1) := by decide +kernel
theorem dX6_ofPitch_5 : decode cX6_ofPitch 5 = .ok (.invokevirtual 175, 3) := by decide +kernel
theorem dX6_ofPitch_8 : decode cX6_ofPitch 8 = .ok (.ifCond .ne 5, 3) := by decide +kernel
theorem dX6_ofPitch_11 : decode cX6_ofPitch 11 = .ok (.iconst (-1), 1) := by decide +kernel
theorem dX6_ofPitch_12 : decode cX6_ofPitch 12 = .ok (.ireturn, 1) := by decide +kernel
theorem dX6_ofPitch_13 : decode cX6_ofPitch 13 = .ok (.aload_n 0, 1) := by decide +kernel
theorem dX6_ofPitch_14 : decode cX6_ofPitch 14 = .ok (.getfield 10, 3) := by decide +kernel
theorem dX6_ofPitch_17 : decode cX6_ofPitch 17 = .ok (.getfield 178, 3) := by decide +kernel
theorem dX6_ofPitch_20 : decode cX6_ofPitch 20 = .ok (.iload_n 1, 1) := by decide +kernel
theorem dX6_ofPitch_21 : decode cX6_ofPitch 21 = .ok (.aaload, 1) := by decide +kernel
theorem dX6_ofPitch_22 : decode cX6_ofPitch 22 = .ok (.astore_n 3, 1) := by decide +kernel
theorem dX6_ofPitch_23 : decode cX6_ofPitch 23 = .ok (.iload_n 2, 1) := by decide +kernel
theorem dX6_ofPitch_24 : decode cX6_ofPitch 24 = .ok (.tableswitch 52 0 3 #[32, 37, 42, 47], 32) := by decide +kernel
theorem dX6_ofPitch_56 : decode cX6_ofPitch 56 = .ok (.aload_n 3, 1) := by decide +kernel
theorem dX6_ofPitch_57 : decode cX6_ofPitch 57 = .ok (.getfield 182, 3) := by decide +kernel
theorem dX6_ofPitch_60 : decode cX6_ofPitch 60 = .ok (.ireturn, 1) := by decide +kernel
theorem dX6_ofPitch_61 : decode cX6_ofPitch 61 = .ok (.aload_n 3, 1) := by decide +kernel
theorem dX6_ofPitch_62 : decode cX6_ofPitch 62 = .ok (.getfield 187, 3) := by decide +kernel
theorem dX6_ofPitch_65 : decode cX6_ofPitch 65 = .ok (.ireturn, 1) := by decide +kernel
theorem dX6_ofPitch_66 : decode cX6_ofPitch 66 = .ok (.aload_n 3, 1) := by decide +kernel
theorem dX6_ofPitch_67 : decode cX6_ofPitch 67 = .ok (.getfield 190, 3) := by decide +kernel
theorem dX6_ofPitch_70 : decode cX6_ofPitch 70 = .ok (.ireturn, 1) := by decide +kernel
theorem dX6_ofPitch_71 : decode cX6_ofPitch 71 = .ok (.aload_n 3, 1) := by decide +kernel
theorem dX6_ofPitch_72 : decode cX6_ofPitch 72 = .ok (.getfield 193, 3) := by decide +kernel
theorem dX6_ofPitch_75 : decode cX6_ofPitch 75 = .ok (.ireturn, 1) := by decide +kernel
theorem dX6_ofPitch_76 : decode cX6_ofPitch 76 = .ok (.bipush (-2), 2) := by decide +kernel
theorem dX6_ofPitch_78 : decode cX6_ofPitch 78 = .ok (.ireturn, 1) := by decide +kernel
theorem dX6_count_0 : decode cX6_count 0 = .ok (.iload_n 1, 1) := by decide +kernel
theorem dX6_count_1 : decode cX6_count 1 = .ok (.bipush 8, 2) := by decide +kernel
theorem dX6_count_3 : decode cX6_count 3 = .ok (.if_icmp .lt 22, 3) := by decide +kernel
theorem dX6_count_6 : decode cX6_count 6 = .ok (.iload_n 1, 1) := by decide +kernel
theorem dX6_count_7 : decode cX6_count 7 = .ok (.bipush 18, 2) := by decide +kernel
theorem dX6_count_9 : decode cX6_count 9 = .ok (.if_icmp .ge 16, 3) := by decide +kernel
theorem dX6_count_12 : decode cX6_count 12 = .ok (.aload_n 0, 1) := by decide +kernel
theorem dX6_count_13 : decode cX6_count 13 = .ok (.getfield 10, 3) := by decide +kernel
theorem dX6_count_16 : decode cX6_count 16 = .ok (.getfield 128, 3) := by decide +kernel
theorem dX6_count_19 : decode cX6_count 19 = .ok (.iload_n 1, 1) := by decide +kernel
theorem dX6_count_20 : decode cX6_count 20 = .ok (.bipush 8, 2) := by decide +kernel
theorem dX6_count_22 : decode cX6_count 22 = .ok (.isub, 1) := by decide +kernel
theorem dX6_count_23 : decode cX6_count 23 = .ok (.iaload, 1) := by decide +kernel
theorem dX6_count_24 : decode cX6_count 24 = .ok (.ireturn, 1) := by decide +kernel
theorem dX6_count_25 : decode cX6_count 25 = .ok (.iload_n 1, 1) := by decide +kernel
theorem dX6_count_26 : decode cX6_count 26 = .ok (.tableswitch 174 0 19 #[94, 102, 110, 118, 126, 134, 142, 150, 174, 174, 174, 174, 174, 174, 174, 174, 174, 174, 158, 166], 94) := by decide +kernel
theorem dX6_count_120 : decode cX6_count 120 = .ok (.aload_n 0, 1) := by decide +kernel
theorem dX6_count_121 : decode cX6_count 121 = .ok (.getfield 10, 3) := by decide +kernel
theorem dX6_count_124 : decode cX6_count 124 = .ok (.getfield 125, 3) := by decide +kernel
theorem dX6_count_127 : decode cX6_count 127 = .ok (.ireturn, 1) := by decide +kernel
theorem dX6_count_128 : decode cX6_count 128 = .ok (.aload_n 0, 1) := by decide +kernel
theorem dX6_count_129 : decode cX6_count 129 = .ok (.getfield 10, 3) := by decide +kernel
theorem dX6_count_132 : decode cX6_count 132 = .ok (.getfield 196, 3) := by decide +kernel
theorem dX6_count_135 : decode cX6_count 135 = .ok (.ireturn, 1) := by decide +kernel
theorem dX6_count_136 : decode cX6_count 136 = .ok (.aload_n 0, 1) := by decide +kernel
theorem dX6_count_137 : decode cX6_count 137 = .ok (.getfield 10, 3) := by decide +kernel
theorem dX6_count_140 : decode cX6_count 140 = .ok (.getfield 199, 3) := by decide +kernel
theorem dX6_count_143 : decode cX6_count 143 = .ok (.ireturn, 1) := by decide +kernel
theorem dX6_count_144 : decode cX6_count 144 = .ok (.aload_n 0, 1) := by decide +kernel
theorem dX6_count_145 : decode cX6_count 145 = .ok (.getfield 10, 3) := by decide +kernel
theorem dX6_count_148 : decode cX6_count 148 = .ok (.getfield 202, 3) := by decide +kernel
theorem dX6_count_151 : decode cX6_count 151 = .ok (.ireturn, 1) := by decide +kernel
theorem dX6_count_152 : decode cX6_count 152 = .ok (.aload_n 0, 1) := by decide +kernel
theorem dX6_count_153 : decode cX6_count 153 = .ok (.getfield 10, 3) := by decide +kernel
theorem dX6_count_156 : decode cX6_count 156 = .ok (.invokevirtual 205, 3) := by decide +kernel
theorem dX6_count_159 : decode cX6_count 159 = .ok (.ireturn, 1) := by decide +kernel
theorem dX6_count_160 : decode cX6_count 160 = .ok (.aload_n 0, 1) := by decide +kernel
theorem dX6_count_161 : decode cX6_count 161 = .ok (.getfield 10, 3) := by decide +kernel
theorem dX6_count_164 : decode cX6_count 164 = .ok (.getfield 209, 3) := by decide +kernel
theorem dX6_count_167 : decode cX6_count 167 = .ok (.ireturn, 1) := by decide +kernel
theorem dX6_count_168 : decode cX6_count 168 = .ok (.aload_n 0, 1) := by decide +kernel
theorem dX6_count_169 : decode cX6_count 169 = .ok (.getfield 35, 3) := by decide +kernel
theorem dX6_count_172 : decode cX6_count 172 = .ok (.getfield 212, 3) := by decide +kernel
theorem dX6_count_175 : decode cX6_count 175 = .ok (.ireturn, 1) := by decide +kernel
theorem dX6_count_176 : decode cX6_count 176 = .ok (.aload_n 0, 1) := by decide +kernel
theorem dX6_count_177 : decode cX6_count 177 = .ok (.getfield 22, 3) := by decide +kernel
theorem dX6_count_180 : decode cX6_count 180 = .ok (.getfield 215, 3) := by decide +kernel
theorem dX6_count_183 : decode cX6_count 183 = .ok (.ireturn, 1) := by decide +kernel
theorem dX6_count_184 : decode cX6_count 184 = .ok (.aload_n 0, 1) := by decide +kernel
theorem dX6_count_185 : decode cX6_count 185 = .ok (.getfield 10, 3) := by decide +kernel
theorem dX6_count_188 : decode cX6_count 188 = .ok (.invokevirtual 218, 3) := by decide +kernel
theorem dX6_count_191 : decode cX6_count 191 = .ok (.ireturn, 1) := by decide +kernel
theorem dX6_count_192 : decode cX6_count 192 = .ok (.aload_n 0, 1) := by decide +kernel
theorem dX6_count_193 : decode cX6_count 193 = .ok (.getfield 10, 3) := by decide +kernel
theorem dX6_count_196 : decode cX6_count 196 = .ok (.getfield 221, 3) := by decide +kernel
theorem dX6_count_199 : decode cX6_count 199 = .ok (.ireturn, 1) := by decide +kernel
theorem dX6_count_200 : decode cX6_count 200 = .ok (.bipush (-2), 2) := by decide +kernel
theorem dX6_count_202 : decode cX6_count 202 = .ok (.ireturn, 1) := by decide +kernel
theorem dX6_pointsOn_0 : decode cX6_pointsOn 0 = .ok (.aload_n 0, 1) := by decide +kernel
theorem dX6_pointsOn_1 : decode cX6_pointsOn 1 = .ok (.getfield 10, 3) := by decide +kernel
theorem dX6_pointsOn_4 : decode cX6_pointsOn 4 = .ok (.iload_n 1, 1) := by decide +kernel
theorem dX6_pointsOn_5 : decode cX6_pointsOn 5 = .ok (.invokevirtual 85, 3) := by decide +kernel
theorem dX6_pointsOn_8 : decode cX6_pointsOn 8 = .ok (.ifCond .ne 5, 3) := by decide +kernel
theorem dX6_pointsOn_11 : decode cX6_pointsOn 11 = .ok (.iconst (-1), 1) := by decide +kernel
theorem dX6_pointsOn_12 : decode cX6_pointsOn 12 = .ok (.ireturn, 1) := by decide +kernel
theorem dX6_pointsOn_13 : decode cX6_pointsOn 13 = .ok (.iload_n 2, 1) := by decide +kernel
theorem dX6_pointsOn_14 : decode cX6_pointsOn 14 = .ok (.aload_n 0, 1) := by decide +kernel
theorem dX6_pointsOn_15 : decode cX6_pointsOn 15 = .ok (.getfield 10, 3) := by decide +kernel
theorem dX6_pointsOn_18 : decode cX6_pointsOn 18 = .ok (.getfield 125, 3) := by decide +kernel
theorem dX6_pointsOn_21 : decode cX6_pointsOn 21 = .ok (.if_icmp .lt 18, 3) := by decide +kernel
theorem dX6_pointsOn_24 : decode cX6_pointsOn 24 = .ok (.iload_n 2, 1) := by decide +kernel
theorem dX6_pointsOn_25 : decode cX6_pointsOn 25 = .ok (.aload_n 0, 1) := by decide +kernel
theorem dX6_pointsOn_26 : decode cX6_pointsOn 26 = .ok (.getfield 10, 3) := by decide +kernel
theorem dX6_pointsOn_29 : decode cX6_pointsOn 29 = .ok (.getfield 125, 3) := by decide +kernel
theorem dX6_pointsOn_32 : decode cX6_pointsOn 32 = .ok (.sipush 400, 3) := by decide +kernel
theorem dX6_pointsOn_35 : decode cX6_pointsOn 35 = .ok (.iadd, 1) := by decide +kernel
theorem dX6_pointsOn_36 : decode cX6_pointsOn 36 = .ok (.if_icmp .le 6, 3) := by decide +kernel
theorem dX6_pointsOn_39 : decode cX6_pointsOn 39 = .ok (.bipush (-2), 2) := by decide +kernel
theorem dX6_pointsOn_41 : decode cX6_pointsOn 41 = .ok (.ireturn, 1) := by decide +kernel
theorem dX6_pointsOn_42 : decode cX6_pointsOn 42 = .ok (.aload_n 0, 1) := by decide +kernel
theorem dX6_pointsOn_43 : decode cX6_pointsOn 43 = .ok (.getfield 10, 3) := by decide +kernel
theorem dX6_pointsOn_46 : decode cX6_pointsOn 46 = .ok (.getfield 89, 3) := by decide +kernel
theorem dX6_pointsOn_49 : decode cX6_pointsOn 49 = .ok (.iload_n 1, 1) := by decide +kernel
theorem dX6_pointsOn_50 : decode cX6_pointsOn 50 = .ok (.aaload, 1) := by decide +kernel
theorem dX6_pointsOn_51 : decode cX6_pointsOn 51 = .ok (.iload_n 2, 1) := by decide +kernel
theorem dX6_pointsOn_52 : decode cX6_pointsOn 52 = .ok (.aload_n 0, 1) := by decide +kernel
theorem dX6_pointsOn_53 : decode cX6_pointsOn 53 = .ok (.getfield 10, 3) := by decide +kernel
theorem dX6_pointsOn_56 : decode cX6_pointsOn 56 = .ok (.getfield 125, 3) := by decide +kernel
theorem dX6_pointsOn_59 : decode cX6_pointsOn 59 = .ok (.aload_n 0, 1) := by decide +kernel
theorem dX6_pointsOn_60 : decode cX6_pointsOn 60 = .ok (.getfield 10, 3) := by decide +kernel
theorem dX6_pointsOn_63 : decode cX6_pointsOn 63 = .ok (.getfield 128, 3) := by decide +kernel
theorem dX6_pointsOn_66 : decode cX6_pointsOn 66 = .ok (.iconst 5, 1) := by decide +kernel
theorem dX6_pointsOn_67 : decode cX6_pointsOn 67 = .ok (.iaload, 1) := by decide +kernel
theorem dX6_pointsOn_68 : decode cX6_pointsOn 68 = .ok (.invokevirtual 132, 3) := by decide +kernel
theorem dX6_pointsOn_71 : decode cX6_pointsOn 71 = .ok (.ireturn, 1) := by decide +kernel
theorem dX6_wouldHave_0 : decode cX6_wouldHave 0 = .ok (.aload_n 0, 1) := by decide +kernel
theorem dX6_wouldHave_1 : decode cX6_wouldHave 1 = .ok (.getfield 10, 3) := by decide +kernel
theorem dX6_wouldHave_4 : decode cX6_wouldHave 4 = .ok (.iload_n 1, 1) := by decide +kernel
theorem dX6_wouldHave_5 : decode cX6_wouldHave 5 = .ok (.invokevirtual 85, 3) := by decide +kernel
theorem dX6_wouldHave_8 : decode cX6_wouldHave 8 = .ok (.ifCond .ne 5, 3) := by decide +kernel
theorem dX6_wouldHave_11 : decode cX6_wouldHave 11 = .ok (.iconst (-1), 1) := by decide +kernel
theorem dX6_wouldHave_12 : decode cX6_wouldHave 12 = .ok (.ireturn, 1) := by decide +kernel
theorem dX6_wouldHave_13 : decode cX6_wouldHave 13 = .ok (.aload_n 0, 1) := by decide +kernel
theorem dX6_wouldHave_14 : decode cX6_wouldHave 14 = .ok (.getfield 16, 3) := by decide +kernel
theorem dX6_wouldHave_17 : decode cX6_wouldHave 17 = .ok (.aload_n 0, 1) := by decide +kernel
theorem dX6_wouldHave_18 : decode cX6_wouldHave 18 = .ok (.getfield 10, 3) := by decide +kernel
theorem dX6_wouldHave_21 : decode cX6_wouldHave 21 = .ok (.invokevirtual 224, 3) := by decide +kernel
theorem dX6_wouldHave_24 : decode cX6_wouldHave 24 = .ok (.aload_n 0, 1) := by decide +kernel
theorem dX6_wouldHave_25 : decode cX6_wouldHave 25 = .ok (.iload_n 1, 1) := by decide +kernel
theorem dX6_wouldHave_26 : decode cX6_wouldHave 26 = .ok (.invokevirtual 227, 3) := by decide +kernel
theorem dX6_wouldHave_29 : decode cX6_wouldHave 29 = .ok (.ireturn, 1) := by decide +kernel
theorem dX6_ifWished_0 : decode cX6_ifWished 0 = .ok (.aload_n 0, 1) := by decide +kernel
theorem dX6_ifWished_1 : decode cX6_ifWished 1 = .ok (.getfield 10, 3) := by decide +kernel
theorem dX6_ifWished_4 : decode cX6_ifWished 4 = .ok (.iload_n 1, 1) := by decide +kernel
theorem dX6_ifWished_5 : decode cX6_ifWished 5 = .ok (.invokevirtual 85, 3) := by decide +kernel
theorem dX6_ifWished_8 : decode cX6_ifWished 8 = .ok (.ifCond .eq 14, 3) := by decide +kernel
theorem dX6_ifWished_11 : decode cX6_ifWished 11 = .ok (.aload_n 0, 1) := by decide +kernel
theorem dX6_ifWished_12 : decode cX6_ifWished 12 = .ok (.getfield 10, 3) := by decide +kernel
theorem dX6_ifWished_15 : decode cX6_ifWished 15 = .ok (.iload_n 2, 1) := by decide +kernel
theorem dX6_ifWished_16 : decode cX6_ifWished 16 = .ok (.invokevirtual 175, 3) := by decide +kernel
theorem dX6_ifWished_19 : decode cX6_ifWished 19 = .ok (.ifCond .ne 5, 3) := by decide +kernel
theorem dX6_ifWished_22 : decode cX6_ifWished 22 = .ok (.iconst (-1), 1) := by decide +kernel
theorem dX6_ifWished_23 : decode cX6_ifWished 23 = .ok (.ireturn, 1) := by decide +kernel
theorem dX6_ifWished_24 : decode cX6_ifWished 24 = .ok (.aload_n 0, 1) := by decide +kernel
theorem dX6_ifWished_25 : decode cX6_ifWished 25 = .ok (.getfield 16, 3) := by decide +kernel
theorem dX6_ifWished_28 : decode cX6_ifWished 28 = .ok (.aload_n 0, 1) := by decide +kernel
theorem dX6_ifWished_29 : decode cX6_ifWished 29 = .ok (.getfield 10, 3) := by decide +kernel
theorem dX6_ifWished_32 : decode cX6_ifWished 32 = .ok (.invokevirtual 224, 3) := by decide +kernel
theorem dX6_ifWished_35 : decode cX6_ifWished 35 = .ok (.aload_n 0, 1) := by decide +kernel
theorem dX6_ifWished_36 : decode cX6_ifWished 36 = .ok (.getfield 16, 3) := by decide +kernel
theorem dX6_ifWished_39 : decode cX6_ifWished 39 = .ok (.iload_n 1, 1) := by decide +kernel
theorem dX6_ifWished_40 : decode cX6_ifWished 40 = .ok (.iload_n 2, 1) := by decide +kernel
theorem dX6_ifWished_41 : decode cX6_ifWished 41 = .ok (.bipush (-6), 2) := by decide +kernel
theorem dX6_ifWished_43 : decode cX6_ifWished 43 = .ok (.bipush (-6), 2) := by decide +kernel
theorem dX6_ifWished_45 : decode cX6_ifWished 45 = .ok (.invokevirtual 63, 3) := by decide +kernel
theorem dX6_ifWished_48 : decode cX6_ifWished 48 = .ok (.pop, 1) := by decide +kernel
theorem dX6_ifWished_49 : decode cX6_ifWished 49 = .ok (.aload_n 0, 1) := by decide +kernel
theorem dX6_ifWished_50 : decode cX6_ifWished 50 = .ok (.iload_n 1, 1) := by decide +kernel
theorem dX6_ifWished_51 : decode cX6_ifWished 51 = .ok (.invokevirtual 227, 3) := by decide +kernel
theorem dX6_ifWished_54 : decode cX6_ifWished 54 = .ok (.ireturn, 1) := by decide +kernel
theorem dX6_firstDay_0 : decode cX6_firstDay 0 = .ok (.aload_n 0, 1) := by decide +kernel
theorem dX6_firstDay_1 : decode cX6_firstDay 1 = .ok (.getfield 10, 3) := by decide +kernel
theorem dX6_firstDay_4 : decode cX6_firstDay 4 = .ok (.iload_n 1, 1) := by decide +kernel
theorem dX6_firstDay_5 : decode cX6_firstDay 5 = .ok (.invokevirtual 85, 3) := by decide +kernel
theorem dX6_firstDay_8 : decode cX6_firstDay 8 = .ok (.ifCond .ne 5, 3) := by decide +kernel
theorem dX6_firstDay_11 : decode cX6_firstDay 11 = .ok (.iconst (-1), 1) := by decide +kernel
theorem dX6_firstDay_12 : decode cX6_firstDay 12 = .ok (.ireturn, 1) := by decide +kernel
theorem dX6_firstDay_13 : decode cX6_firstDay 13 = .ok (.aload_n 0, 1) := by decide +kernel
theorem dX6_firstDay_14 : decode cX6_firstDay 14 = .ok (.getfield 16, 3) := by decide +kernel
theorem dX6_firstDay_17 : decode cX6_firstDay 17 = .ok (.aload_n 0, 1) := by decide +kernel
theorem dX6_firstDay_18 : decode cX6_firstDay 18 = .ok (.getfield 10, 3) := by decide +kernel
theorem dX6_firstDay_21 : decode cX6_firstDay 21 = .ok (.invokevirtual 224, 3) := by decide +kernel
theorem dX6_firstDay_24 : decode cX6_firstDay 24 = .ok (.iconst 0, 1) := by decide +kernel
theorem dX6_firstDay_25 : decode cX6_firstDay 25 = .ok (.istore_n 2, 1) := by decide +kernel
theorem dX6_firstDay_26 : decode cX6_firstDay 26 = .ok (.iload_n 2, 1) := by decide +kernel
theorem dX6_firstDay_27 : decode cX6_firstDay 27 = .ok (.bipush 60, 2) := by decide +kernel
theorem dX6_firstDay_29 : decode cX6_firstDay 29 = .ok (.if_icmp .ge 21, 3) := by decide +kernel
theorem dX6_firstDay_32 : decode cX6_firstDay 32 = .ok (.aload_n 0, 1) := by decide +kernel
theorem dX6_firstDay_33 : decode cX6_firstDay 33 = .ok (.iload_n 1, 1) := by decide +kernel
theorem dX6_firstDay_34 : decode cX6_firstDay 34 = .ok (.invokevirtual 227, 3) := by decide +kernel
theorem dX6_firstDay_37 : decode cX6_firstDay 37 = .ok (.bipush (-6), 2) := by decide +kernel
theorem dX6_firstDay_39 : decode cX6_firstDay 39 = .ok (.if_icmp .eq 5, 3) := by decide +kernel
theorem dX6_firstDay_42 : decode cX6_firstDay 42 = .ok (.iload_n 2, 1) := by decide +kernel
theorem dX6_firstDay_43 : decode cX6_firstDay 43 = .ok (.ireturn, 1) := by decide +kernel
theorem dX6_firstDay_44 : decode cX6_firstDay 44 = .ok (.iinc 2 1, 3) := by decide +kernel
theorem dX6_firstDay_47 : decode cX6_firstDay 47 = .ok (.goto (-21), 3) := by decide +kernel
theorem dX6_firstDay_50 : decode cX6_firstDay 50 = .ok (.bipush (-6), 2) := by decide +kernel
theorem dX6_firstDay_52 : decode cX6_firstDay 52 = .ok (.ireturn, 1) := by decide +kernel
theorem dX6_daysOf_0 : decode cX6_daysOf 0 = .ok (.aload_n 0, 1) := by decide +kernel
theorem dX6_daysOf_1 : decode cX6_daysOf 1 = .ok (.getfield 10, 3) := by decide +kernel
theorem dX6_daysOf_4 : decode cX6_daysOf 4 = .ok (.iload_n 1, 1) := by decide +kernel
theorem dX6_daysOf_5 : decode cX6_daysOf 5 = .ok (.invokevirtual 85, 3) := by decide +kernel
theorem dX6_daysOf_8 : decode cX6_daysOf 8 = .ok (.ifCond .ne 5, 3) := by decide +kernel
theorem dX6_daysOf_11 : decode cX6_daysOf 11 = .ok (.iconst (-1), 1) := by decide +kernel
theorem dX6_daysOf_12 : decode cX6_daysOf 12 = .ok (.ireturn, 1) := by decide +kernel
theorem dX6_daysOf_13 : decode cX6_daysOf 13 = .ok (.iload_n 2, 1) := by decide +kernel
theorem dX6_daysOf_14 : decode cX6_daysOf 14 = .ok (.iconst 1, 1) := by decide +kernel
theorem dX6_daysOf_15 : decode cX6_daysOf 15 = .ok (.if_icmp .lt 9, 3) := by decide +kernel
theorem dX6_daysOf_18 : decode cX6_daysOf 18 = .ok (.iload_n 2, 1) := by decide +kernel
theorem dX6_daysOf_19 : decode cX6_daysOf 19 = .ok (.bipush 60, 2) := by decide +kernel
theorem dX6_daysOf_21 : decode cX6_daysOf 21 = .ok (.if_icmp .le 6, 3) := by decide +kernel
theorem dX6_daysOf_24 : decode cX6_daysOf 24 = .ok (.bipush (-2), 2) := by decide +kernel
theorem dX6_daysOf_26 : decode cX6_daysOf 26 = .ok (.ireturn, 1) := by decide +kernel
theorem dX6_daysOf_27 : decode cX6_daysOf 27 = .ok (.aload_n 0, 1) := by decide +kernel
theorem dX6_daysOf_28 : decode cX6_daysOf 28 = .ok (.getfield 16, 3) := by decide +kernel
theorem dX6_daysOf_31 : decode cX6_daysOf 31 = .ok (.aload_n 0, 1) := by decide +kernel
theorem dX6_daysOf_32 : decode cX6_daysOf 32 = .ok (.getfield 10, 3) := by decide +kernel
theorem dX6_daysOf_35 : decode cX6_daysOf 35 = .ok (.invokevirtual 224, 3) := by decide +kernel
theorem dX6_daysOf_38 : decode cX6_daysOf 38 = .ok (.iconst 0, 1) := by decide +kernel
theorem dX6_daysOf_39 : decode cX6_daysOf 39 = .ok (.istore_n 3, 1) := by decide +kernel
theorem dX6_daysOf_40 : decode cX6_daysOf 40 = .ok (.iconst 0, 1) := by decide +kernel
theorem dX6_daysOf_41 : decode cX6_daysOf 41 = .ok (.istore 4, 2) := by decide +kernel
theorem dX6_daysOf_43 : decode cX6_daysOf 43 = .ok (.iload 4, 2) := by decide +kernel
theorem dX6_daysOf_45 : decode cX6_daysOf 45 = .ok (.iload_n 2, 1) := by decide +kernel
theorem dX6_daysOf_46 : decode cX6_daysOf 46 = .ok (.if_icmp .ge 22, 3) := by decide +kernel
theorem dX6_daysOf_49 : decode cX6_daysOf 49 = .ok (.aload_n 0, 1) := by decide +kernel
theorem dX6_daysOf_50 : decode cX6_daysOf 50 = .ok (.iload_n 1, 1) := by decide +kernel
theorem dX6_daysOf_51 : decode cX6_daysOf 51 = .ok (.invokevirtual 227, 3) := by decide +kernel
theorem dX6_daysOf_54 : decode cX6_daysOf 54 = .ok (.bipush (-6), 2) := by decide +kernel
theorem dX6_daysOf_56 : decode cX6_daysOf 56 = .ok (.if_icmp .eq 6, 3) := by decide +kernel
theorem dX6_daysOf_59 : decode cX6_daysOf 59 = .ok (.iinc 3 1, 3) := by decide +kernel
theorem dX6_daysOf_62 : decode cX6_daysOf 62 = .ok (.iinc 4 1, 3) := by decide +kernel
theorem dX6_daysOf_65 : decode cX6_daysOf 65 = .ok (.goto (-22), 3) := by decide +kernel
theorem dX6_daysOf_68 : decode cX6_daysOf 68 = .ok (.iload_n 3, 1) := by decide +kernel
theorem dX6_daysOf_69 : decode cX6_daysOf 69 = .ok (.ireturn, 1) := by decide +kernel
theorem dX6_luckySeed_0 : decode cX6_luckySeed 0 = .ok (.aload_n 0, 1) := by decide +kernel
theorem dX6_luckySeed_1 : decode cX6_luckySeed 1 = .ok (.getfield 10, 3) := by decide +kernel
theorem dX6_luckySeed_4 : decode cX6_luckySeed 4 = .ok (.iload_n 1, 1) := by decide +kernel
theorem dX6_luckySeed_5 : decode cX6_luckySeed 5 = .ok (.invokevirtual 85, 3) := by decide +kernel
theorem dX6_luckySeed_8 : decode cX6_luckySeed 8 = .ok (.ifCond .eq 20, 3) := by decide +kernel
theorem dX6_luckySeed_11 : decode cX6_luckySeed 11 = .ok (.iload_n 2, 1) := by decide +kernel
theorem dX6_luckySeed_12 : decode cX6_luckySeed 12 = .ok (.bipush (-6), 2) := by decide +kernel
theorem dX6_luckySeed_14 : decode cX6_luckySeed 14 = .ok (.if_icmp .eq 16, 3) := by decide +kernel
theorem dX6_luckySeed_17 : decode cX6_luckySeed 17 = .ok (.aload_n 0, 1) := by decide +kernel
theorem dX6_luckySeed_18 : decode cX6_luckySeed 18 = .ok (.getfield 10, 3) := by decide +kernel
theorem dX6_luckySeed_21 : decode cX6_luckySeed 21 = .ok (.iload_n 2, 1) := by decide +kernel
theorem dX6_luckySeed_22 : decode cX6_luckySeed 22 = .ok (.invokevirtual 175, 3) := by decide +kernel
theorem dX6_luckySeed_25 : decode cX6_luckySeed 25 = .ok (.ifCond .ne 5, 3) := by decide +kernel
theorem dX6_luckySeed_28 : decode cX6_luckySeed 28 = .ok (.iconst (-1), 1) := by decide +kernel
theorem dX6_luckySeed_29 : decode cX6_luckySeed 29 = .ok (.ireturn, 1) := by decide +kernel
theorem dX6_luckySeed_30 : decode cX6_luckySeed 30 = .ok (.iconst 0, 1) := by decide +kernel
theorem dX6_luckySeed_31 : decode cX6_luckySeed 31 = .ok (.istore_n 3, 1) := by decide +kernel
theorem dX6_luckySeed_32 : decode cX6_luckySeed 32 = .ok (.iload_n 3, 1) := by decide +kernel
theorem dX6_luckySeed_33 : decode cX6_luckySeed 33 = .ok (.sipush 200, 3) := by decide +kernel
theorem dX6_luckySeed_36 : decode cX6_luckySeed 36 = .ok (.if_icmp .ge 57, 3) := by decide +kernel
theorem dX6_luckySeed_39 : decode cX6_luckySeed 39 = .ok (.aload_n 0, 1) := by decide +kernel
theorem dX6_luckySeed_40 : decode cX6_luckySeed 40 = .ok (.getfield 16, 3) := by decide +kernel
theorem dX6_luckySeed_43 : decode cX6_luckySeed 43 = .ok (.aload_n 0, 1) := by decide +kernel
theorem dX6_luckySeed_44 : decode cX6_luckySeed 44 = .ok (.getfield 10, 3) := by decide +kernel
theorem dX6_luckySeed_47 : decode cX6_luckySeed 47 = .ok (.invokevirtual 224, 3) := by decide +kernel
theorem dX6_luckySeed_50 : decode cX6_luckySeed 50 = .ok (.aload_n 0, 1) := by decide +kernel
theorem dX6_luckySeed_51 : decode cX6_luckySeed 51 = .ok (.getfield 16, 3) := by decide +kernel
theorem dX6_luckySeed_54 : decode cX6_luckySeed 54 = .ok (.iload_n 3, 1) := by decide +kernel
theorem dX6_luckySeed_55 : decode cX6_luckySeed 55 = .ok (.invokevirtual 51, 3) := by decide +kernel
theorem dX6_luckySeed_58 : decode cX6_luckySeed 58 = .ok (.pop, 1) := by decide +kernel
theorem dX6_luckySeed_59 : decode cX6_luckySeed 59 = .ok (.aload_n 0, 1) := by decide +kernel
theorem dX6_luckySeed_60 : decode cX6_luckySeed 60 = .ok (.iload_n 1, 1) := by decide +kernel
theorem dX6_luckySeed_61 : decode cX6_luckySeed 61 = .ok (.invokevirtual 227, 3) := by decide +kernel
theorem dX6_luckySeed_64 : decode cX6_luckySeed 64 = .ok (.istore 4, 2) := by decide +kernel
theorem dX6_luckySeed_66 : decode cX6_luckySeed 66 = .ok (.iload 4, 2) := by decide +kernel
theorem dX6_luckySeed_68 : decode cX6_luckySeed 68 = .ok (.bipush (-6), 2) := by decide +kernel
theorem dX6_luckySeed_70 : decode cX6_luckySeed 70 = .ok (.if_icmp .eq 17, 3) := by decide +kernel
theorem dX6_luckySeed_73 : decode cX6_luckySeed 73 = .ok (.iload_n 2, 1) := by decide +kernel
theorem dX6_luckySeed_74 : decode cX6_luckySeed 74 = .ok (.bipush (-6), 2) := by decide +kernel
theorem dX6_luckySeed_76 : decode cX6_luckySeed 76 = .ok (.if_icmp .eq 9, 3) := by decide +kernel
theorem dX6_luckySeed_79 : decode cX6_luckySeed 79 = .ok (.iload 4, 2) := by decide +kernel
theorem dX6_luckySeed_81 : decode cX6_luckySeed 81 = .ok (.iload_n 2, 1) := by decide +kernel
theorem dX6_luckySeed_82 : decode cX6_luckySeed 82 = .ok (.if_icmp .ne 5, 3) := by decide +kernel
theorem dX6_luckySeed_85 : decode cX6_luckySeed 85 = .ok (.iload_n 3, 1) := by decide +kernel
theorem dX6_luckySeed_86 : decode cX6_luckySeed 86 = .ok (.ireturn, 1) := by decide +kernel
theorem dX6_luckySeed_87 : decode cX6_luckySeed 87 = .ok (.iinc 3 1, 3) := by decide +kernel
theorem dX6_luckySeed_90 : decode cX6_luckySeed 90 = .ok (.goto (-58), 3) := by decide +kernel
theorem dX6_luckySeed_93 : decode cX6_luckySeed 93 = .ok (.bipush (-6), 2) := by decide +kernel
theorem dX6_luckySeed_95 : decode cX6_luckySeed 95 = .ok (.ireturn, 1) := by decide +kernel
theorem dX6_whyNot_0 : decode cX6_whyNot 0 = .ok (.aload_n 0, 1) := by decide +kernel
theorem dX6_whyNot_1 : decode cX6_whyNot 1 = .ok (.getfield 10, 3) := by decide +kernel
theorem dX6_whyNot_4 : decode cX6_whyNot 4 = .ok (.iload_n 1, 1) := by decide +kernel
theorem dX6_whyNot_5 : decode cX6_whyNot 5 = .ok (.invokevirtual 85, 3) := by decide +kernel
theorem dX6_whyNot_8 : decode cX6_whyNot 8 = .ok (.ifCond .eq 14, 3) := by decide +kernel
theorem dX6_whyNot_11 : decode cX6_whyNot 11 = .ok (.aload_n 0, 1) := by decide +kernel
theorem dX6_whyNot_12 : decode cX6_whyNot 12 = .ok (.getfield 10, 3) := by decide +kernel
theorem dX6_whyNot_15 : decode cX6_whyNot 15 = .ok (.iload_n 2, 1) := by decide +kernel
theorem dX6_whyNot_16 : decode cX6_whyNot 16 = .ok (.invokevirtual 175, 3) := by decide +kernel
theorem dX6_whyNot_19 : decode cX6_whyNot 19 = .ok (.ifCond .ne 5, 3) := by decide +kernel
theorem dX6_whyNot_22 : decode cX6_whyNot 22 = .ok (.iconst (-1), 1) := by decide +kernel
theorem dX6_whyNot_23 : decode cX6_whyNot 23 = .ok (.ireturn, 1) := by decide +kernel
theorem dX6_whyNot_24 : decode cX6_whyNot 24 = .ok (.aload_n 0, 1) := by decide +kernel
theorem dX6_whyNot_25 : decode cX6_whyNot 25 = .ok (.getfield 10, 3) := by decide +kernel
theorem dX6_whyNot_28 : decode cX6_whyNot 28 = .ok (.getfield 178, 3) := by decide +kernel
theorem dX6_whyNot_31 : decode cX6_whyNot 31 = .ok (.iload_n 2, 1) := by decide +kernel
theorem dX6_whyNot_32 : decode cX6_whyNot 32 = .ok (.aaload, 1) := by decide +kernel
theorem dX6_whyNot_33 : decode cX6_whyNot 33 = .ok (.getfield 193, 3) := by decide +kernel
theorem dX6_whyNot_36 : decode cX6_whyNot 36 = .ok (.istore_n 3, 1) := by decide +kernel
theorem dX6_whyNot_37 : decode cX6_whyNot 37 = .ok (.iload_n 3, 1) := by decide +kernel
theorem dX6_whyNot_38 : decode cX6_whyNot 38 = .ok (.bipush (-6), 2) := by decide +kernel
theorem dX6_whyNot_40 : decode cX6_whyNot 40 = .ok (.if_icmp .eq 10, 3) := by decide +kernel
theorem dX6_whyNot_43 : decode cX6_whyNot 43 = .ok (.iload_n 3, 1) := by decide +kernel
theorem dX6_whyNot_44 : decode cX6_whyNot 44 = .ok (.iload_n 1, 1) := by decide +kernel
theorem dX6_whyNot_45 : decode cX6_whyNot 45 = .ok (.if_icmp .eq 5, 3) := by decide +kernel
theorem dX6_whyNot_48 : decode cX6_whyNot 48 = .ok (.iconst 1, 1) := by decide +kernel
theorem dX6_whyNot_49 : decode cX6_whyNot 49 = .ok (.ireturn, 1) := by decide +kernel
theorem dX6_whyNot_50 : decode cX6_whyNot 50 = .ok (.aload_n 0, 1) := by decide +kernel
theorem dX6_whyNot_51 : decode cX6_whyNot 51 = .ok (.getfield 10, 3) := by decide +kernel
theorem dX6_whyNot_54 : decode cX6_whyNot 54 = .ok (.iload_n 1, 1) := by decide +kernel
theorem dX6_whyNot_55 : decode cX6_whyNot 55 = .ok (.iload_n 2, 1) := by decide +kernel
theorem dX6_whyNot_56 : decode cX6_whyNot 56 = .ok (.invokevirtual 230, 3) := by decide +kernel
theorem dX6_whyNot_59 : decode cX6_whyNot 59 = .ok (.ifCond .eq 7, 3) := by decide +kernel
theorem dX6_whyNot_62 : decode cX6_whyNot 62 = .ok (.iconst 2, 1) := by decide +kernel
theorem dX6_whyNot_63 : decode cX6_whyNot 63 = .ok (.goto 4, 3) := by decide +kernel
theorem dX6_whyNot_66 : decode cX6_whyNot 66 = .ok (.iconst 0, 1) := by decide +kernel
theorem dX6_whyNot_67 : decode cX6_whyNot 67 = .ok (.ireturn, 1) := by decide +kernel
theorem dX6_pitchOnTrialDay_0 : decode cX6_pitchOnTrialDay 0 = .ok (.aload_n 0, 1) := by decide +kernel
theorem dX6_pitchOnTrialDay_1 : decode cX6_pitchOnTrialDay 1 = .ok (.getfield 16, 3) := by decide +kernel
theorem dX6_pitchOnTrialDay_4 : decode cX6_pitchOnTrialDay 4 = .ok (.iconst 1, 1) := by decide +kernel
theorem dX6_pitchOnTrialDay_5 : decode cX6_pitchOnTrialDay 5 = .ok (.invokevirtual 79, 3) := by decide +kernel
theorem dX6_pitchOnTrialDay_8 : decode cX6_pitchOnTrialDay 8 = .ok (.pop, 1) := by decide +kernel
theorem dX6_pitchOnTrialDay_9 : decode cX6_pitchOnTrialDay 9 = .ok (.aload_n 0, 1) := by decide +kernel
theorem dX6_pitchOnTrialDay_10 : decode cX6_pitchOnTrialDay 10 = .ok (.getfield 16, 3) := by decide +kernel
theorem dX6_pitchOnTrialDay_13 : decode cX6_pitchOnTrialDay 13 = .ok (.iload_n 1, 1) := by decide +kernel
theorem dX6_pitchOnTrialDay_14 : decode cX6_pitchOnTrialDay 14 = .ok (.invokevirtual 85, 3) := by decide +kernel
theorem dX6_pitchOnTrialDay_17 : decode cX6_pitchOnTrialDay 17 = .ok (.ifCond .eq 18, 3) := by decide +kernel
theorem dX6_pitchOnTrialDay_20 : decode cX6_pitchOnTrialDay 20 = .ok (.aload_n 0, 1) := by decide +kernel
theorem dX6_pitchOnTrialDay_21 : decode cX6_pitchOnTrialDay 21 = .ok (.getfield 16, 3) := by decide +kernel
theorem dX6_pitchOnTrialDay_24 : decode cX6_pitchOnTrialDay 24 = .ok (.getfield 89, 3) := by decide +kernel
theorem dX6_pitchOnTrialDay_27 : decode cX6_pitchOnTrialDay 27 = .ok (.iload_n 1, 1) := by decide +kernel
theorem dX6_pitchOnTrialDay_28 : decode cX6_pitchOnTrialDay 28 = .ok (.aaload, 1) := by decide +kernel
theorem dX6_pitchOnTrialDay_29 : decode cX6_pitchOnTrialDay 29 = .ok (.getfield 142, 3) := by decide +kernel
theorem dX6_pitchOnTrialDay_32 : decode cX6_pitchOnTrialDay 32 = .ok (.goto 5, 3) := by decide +kernel
theorem dX6_pitchOnTrialDay_35 : decode cX6_pitchOnTrialDay 35 = .ok (.bipush (-6), 2) := by decide +kernel
theorem dX6_pitchOnTrialDay_37 : decode cX6_pitchOnTrialDay 37 = .ok (.ireturn, 1) := by decide +kernel
theorem dX6_put_0 : decode cX6_put 0 = .ok (.aload_n 0, 1) := by decide +kernel
theorem dX6_put_1 : decode cX6_put 1 = .ok (.getfield 35, 3) := by decide +kernel
theorem dX6_put_4 : decode cX6_put 4 = .ok (.lload_n 1, 1) := by decide +kernel
theorem dX6_put_5 : decode cX6_put 5 = .ok (.invokevirtual 234, 3) := by decide +kernel
theorem dX6_put_8 : decode cX6_put 8 = .ok (.ireturn, 1) := by decide +kernel
theorem dX6_wipe_0 : decode cX6_wipe 0 = .ok (.aload_n 0, 1) := by decide +kernel
theorem dX6_wipe_1 : decode cX6_wipe 1 = .ok (.getfield 35, 3) := by decide +kernel
theorem dX6_wipe_4 : decode cX6_wipe 4 = .ok (.getfield 212, 3) := by decide +kernel
theorem dX6_wipe_7 : decode cX6_wipe 7 = .ok (.istore_n 1, 1) := by decide +kernel
theorem dX6_wipe_8 : decode cX6_wipe 8 = .ok (.aload_n 0, 1) := by decide +kernel
theorem dX6_wipe_9 : decode cX6_wipe 9 = .ok (.getfield 35, 3) := by decide +kernel
theorem dX6_wipe_12 : decode cX6_wipe 12 = .ok (.iconst 0, 1) := by decide +kernel
theorem dX6_wipe_13 : decode cX6_wipe 13 = .ok (.putfield 212, 3) := by decide +kernel
theorem dX6_wipe_16 : decode cX6_wipe 16 = .ok (.iload_n 1, 1) := by decide +kernel
theorem dX6_wipe_17 : decode cX6_wipe 17 = .ok (.ireturn, 1) := by decide +kernel
theorem dX6_fault_0 : decode cX6_fault 0 = .ok (.aload_n 0, 1) := by decide +kernel
theorem dX6_fault_1 : decode cX6_fault 1 = .ok (.getfield 35, 3) := by decide +kernel
theorem dX6_fault_4 : decode cX6_fault 4 = .ok (.invokevirtual 238, 3) := by decide +kernel
theorem dX6_fault_7 : decode cX6_fault 7 = .ok (.ireturn, 1) := by decide +kernel
theorem dX6_carryOut_0 : decode cX6_carryOut 0 = .ok (.aload_n 0, 1) := by decide +kernel
theorem dX6_carryOut_1 : decode cX6_carryOut 1 = .ok (.getfield 35, 3) := by decide +kernel
theorem dX6_carryOut_4 : decode cX6_carryOut 4 = .ok (.invokevirtual 238, 3) := by decide +kernel
theorem dX6_carryOut_7 : decode cX6_carryOut 7 = .ok (.bipush (-6), 2) := by decide +kernel
theorem dX6_carryOut_9 : decode cX6_carryOut 9 = .ok (.if_icmp .eq 6, 3) := by decide +kernel
theorem dX6_carryOut_12 : decode cX6_carryOut 12 = .ok (.bipush (-3), 2) := by decide +kernel
theorem dX6_carryOut_14 : decode cX6_carryOut 14 = .ok (.ireturn, 1) := by decide +kernel
theorem dX6_carryOut_15 : decode cX6_carryOut 15 = .ok (.aload_n 0, 1) := by decide +kernel
theorem dX6_carryOut_16 : decode cX6_carryOut 16 = .ok (.getfield 22, 3) := by decide +kernel
theorem dX6_carryOut_19 : decode cX6_carryOut 19 = .ok (.aload_n 0, 1) := by decide +kernel
theorem dX6_carryOut_20 : decode cX6_carryOut 20 = .ok (.getfield 10, 3) := by decide +kernel
theorem dX6_carryOut_23 : decode cX6_carryOut 23 = .ok (.invokevirtual 39, 3) := by decide +kernel
theorem dX6_carryOut_26 : decode cX6_carryOut 26 = .ok (.iconst 0, 1) := by decide +kernel
theorem dX6_carryOut_27 : decode cX6_carryOut 27 = .ok (.istore_n 1, 1) := by decide +kernel
theorem dX6_carryOut_28 : decode cX6_carryOut 28 = .ok (.iconst 0, 1) := by decide +kernel
theorem dX6_carryOut_29 : decode cX6_carryOut 29 = .ok (.istore_n 2, 1) := by decide +kernel
theorem dX6_carryOut_30 : decode cX6_carryOut 30 = .ok (.iconst 0, 1) := by decide +kernel
theorem dX6_carryOut_31 : decode cX6_carryOut 31 = .ok (.istore_n 3, 1) := by decide +kernel
theorem dX6_carryOut_32 : decode cX6_carryOut 32 = .ok (.iload_n 3, 1) := by decide +kernel
theorem dX6_carryOut_33 : decode cX6_carryOut 33 = .ok (.aload_n 0, 1) := by decide +kernel
theorem dX6_carryOut_34 : decode cX6_carryOut 34 = .ok (.getfield 35, 3) := by decide +kernel
theorem dX6_carryOut_37 : decode cX6_carryOut 37 = .ok (.getfield 212, 3) := by decide +kernel
theorem dX6_carryOut_40 : decode cX6_carryOut 40 = .ok (.if_icmp .gt 42, 3) := by decide +kernel
theorem dX6_carryOut_43 : decode cX6_carryOut 43 = .ok (.aload_n 0, 1) := by decide +kernel
theorem dX6_carryOut_44 : decode cX6_carryOut 44 = .ok (.getfield 35, 3) := by decide +kernel
theorem dX6_carryOut_47 : decode cX6_carryOut 47 = .ok (.iload_n 3, 1) := by decide +kernel
theorem dX6_carryOut_48 : decode cX6_carryOut 48 = .ok (.invokevirtual 241, 3) := by decide +kernel
theorem dX6_carryOut_51 : decode cX6_carryOut 51 = .ok (.ifCond .ne 6, 3) := by decide +kernel
theorem dX6_carryOut_54 : decode cX6_carryOut 54 = .ok (.goto 22, 3) := by decide +kernel
theorem dX6_carryOut_57 : decode cX6_carryOut 57 = .ok (.aload_n 0, 1) := by decide +kernel
theorem dX6_carryOut_58 : decode cX6_carryOut 58 = .ok (.iload_n 2, 1) := by decide +kernel
theorem dX6_carryOut_59 : decode cX6_carryOut 59 = .ok (.iload_n 3, 1) := by decide +kernel
theorem dX6_carryOut_60 : decode cX6_carryOut 60 = .ok (.invokevirtual 244, 3) := by decide +kernel
theorem dX6_carryOut_63 : decode cX6_carryOut 63 = .ok (.ifCond .ge 6, 3) := by decide +kernel
theorem dX6_carryOut_66 : decode cX6_carryOut 66 = .ok (.goto 16, 3) := by decide +kernel
theorem dX6_carryOut_69 : decode cX6_carryOut 69 = .ok (.iinc 1 1, 3) := by decide +kernel
theorem dX6_carryOut_72 : decode cX6_carryOut 72 = .ok (.iload_n 3, 1) := by decide +kernel
theorem dX6_carryOut_73 : decode cX6_carryOut 73 = .ok (.iconst 1, 1) := by decide +kernel
theorem dX6_carryOut_74 : decode cX6_carryOut 74 = .ok (.iadd, 1) := by decide +kernel
theorem dX6_carryOut_75 : decode cX6_carryOut 75 = .ok (.istore_n 2, 1) := by decide +kernel
theorem dX6_carryOut_76 : decode cX6_carryOut 76 = .ok (.iinc 3 1, 3) := by decide +kernel
theorem dX6_carryOut_79 : decode cX6_carryOut 79 = .ok (.goto (-47), 3) := by decide +kernel
theorem dX6_carryOut_82 : decode cX6_carryOut 82 = .ok (.aload_n 0, 1) := by decide +kernel
theorem dX6_carryOut_83 : decode cX6_carryOut 83 = .ok (.getfield 35, 3) := by decide +kernel
theorem dX6_carryOut_86 : decode cX6_carryOut 86 = .ok (.iconst 0, 1) := by decide +kernel
theorem dX6_carryOut_87 : decode cX6_carryOut 87 = .ok (.putfield 212, 3) := by decide +kernel
theorem dX6_carryOut_90 : decode cX6_carryOut 90 = .ok (.aload_n 0, 1) := by decide +kernel
theorem dX6_carryOut_91 : decode cX6_carryOut 91 = .ok (.iload_n 1, 1) := by decide +kernel
theorem dX6_carryOut_92 : decode cX6_carryOut 92 = .ok (.invokevirtual 47, 3) := by decide +kernel
theorem dX6_carryOut_95 : decode cX6_carryOut 95 = .ok (.ireturn, 1) := by decide +kernel
theorem dX6_performOrder_0 : decode cX6_performOrder 0 = .ok (.aload_n 0, 1) := by decide +kernel
theorem dX6_performOrder_1 : decode cX6_performOrder 1 = .ok (.getfield 35, 3) := by decide +kernel
theorem dX6_performOrder_4 : decode cX6_performOrder 4 = .ok (.iload_n 1, 1) := by decide +kernel
theorem dX6_performOrder_5 : decode cX6_performOrder 5 = .ok (.iconst 1, 1) := by decide +kernel
theorem dX6_performOrder_6 : decode cX6_performOrder 6 = .ok (.iadd, 1) := by decide +kernel
theorem dX6_performOrder_7 : decode cX6_performOrder 7 = .ok (.invokevirtual 247, 3) := by decide +kernel
theorem dX6_performOrder_10 : decode cX6_performOrder 10 = .ok (.bipush 65, 2) := by decide +kernel
theorem dX6_performOrder_12 : decode cX6_performOrder 12 = .ok (.isub, 1) := by decide +kernel
theorem dX6_performOrder_13 : decode cX6_performOrder 13 = .ok (.istore_n 3, 1) := by decide +kernel
theorem dX6_performOrder_14 : decode cX6_performOrder 14 = .ok (.aload_n 0, 1) := by decide +kernel
theorem dX6_performOrder_15 : decode cX6_performOrder 15 = .ok (.getfield 35, 3) := by decide +kernel
theorem dX6_performOrder_18 : decode cX6_performOrder 18 = .ok (.iload_n 1, 1) := by decide +kernel
theorem dX6_performOrder_19 : decode cX6_performOrder 19 = .ok (.invokevirtual 247, 3) := by decide +kernel
theorem dX6_performOrder_22 : decode cX6_performOrder 22 = .ok (.lookupswitch 135 #[(99, 104), (102, 84), (115, 113), (119, 42)], 42) := by decide +kernel
theorem dX6_performOrder_64 : decode cX6_performOrder 64 = .ok (.aload_n 0, 1) := by decide +kernel
theorem dX6_performOrder_65 : decode cX6_performOrder 65 = .ok (.getfield 10, 3) := by decide +kernel
theorem dX6_performOrder_68 : decode cX6_performOrder 68 = .ok (.iload_n 3, 1) := by decide +kernel
theorem dX6_performOrder_69 : decode cX6_performOrder 69 = .ok (.aload_n 0, 1) := by decide +kernel
theorem dX6_performOrder_70 : decode cX6_performOrder 70 = .ok (.getfield 35, 3) := by decide +kernel
theorem dX6_performOrder_73 : decode cX6_performOrder 73 = .ok (.iload_n 1, 1) := by decide +kernel
theorem dX6_performOrder_74 : decode cX6_performOrder 74 = .ok (.iconst 2, 1) := by decide +kernel
theorem dX6_performOrder_75 : decode cX6_performOrder 75 = .ok (.iadd, 1) := by decide +kernel
theorem dX6_performOrder_76 : decode cX6_performOrder 76 = .ok (.iload_n 2, 1) := by decide +kernel
theorem dX6_performOrder_77 : decode cX6_performOrder 77 = .ok (.invokevirtual 250, 3) := by decide +kernel
theorem dX6_performOrder_80 : decode cX6_performOrder 80 = .ok (.aload_n 0, 1) := by decide +kernel
theorem dX6_performOrder_81 : decode cX6_performOrder 81 = .ok (.getfield 35, 3) := by decide +kernel
theorem dX6_performOrder_84 : decode cX6_performOrder 84 = .ok (.iload_n 1, 1) := by decide +kernel
theorem dX6_performOrder_85 : decode cX6_performOrder 85 = .ok (.iconst 3, 1) := by decide +kernel
theorem dX6_performOrder_86 : decode cX6_performOrder 86 = .ok (.iadd, 1) := by decide +kernel
theorem dX6_performOrder_87 : decode cX6_performOrder 87 = .ok (.iload_n 2, 1) := by decide +kernel
theorem dX6_performOrder_88 : decode cX6_performOrder 88 = .ok (.invokevirtual 250, 3) := by decide +kernel
theorem dX6_performOrder_91 : decode cX6_performOrder 91 = .ok (.aload_n 0, 1) := by decide +kernel
theorem dX6_performOrder_92 : decode cX6_performOrder 92 = .ok (.getfield 35, 3) := by decide +kernel
theorem dX6_performOrder_95 : decode cX6_performOrder 95 = .ok (.iload_n 1, 1) := by decide +kernel
theorem dX6_performOrder_96 : decode cX6_performOrder 96 = .ok (.iconst 4, 1) := by decide +kernel
theorem dX6_performOrder_97 : decode cX6_performOrder 97 = .ok (.iadd, 1) := by decide +kernel
theorem dX6_performOrder_98 : decode cX6_performOrder 98 = .ok (.iload_n 2, 1) := by decide +kernel
theorem dX6_performOrder_99 : decode cX6_performOrder 99 = .ok (.invokevirtual 250, 3) := by decide +kernel
theorem dX6_performOrder_102 : decode cX6_performOrder 102 = .ok (.invokevirtual 63, 3) := by decide +kernel
theorem dX6_performOrder_105 : decode cX6_performOrder 105 = .ok (.ireturn, 1) := by decide +kernel
theorem dX6_performOrder_106 : decode cX6_performOrder 106 = .ok (.aload_n 0, 1) := by decide +kernel
theorem dX6_performOrder_107 : decode cX6_performOrder 107 = .ok (.getfield 10, 3) := by decide +kernel
theorem dX6_performOrder_110 : decode cX6_performOrder 110 = .ok (.iload_n 3, 1) := by decide +kernel
theorem dX6_performOrder_111 : decode cX6_performOrder 111 = .ok (.aload_n 0, 1) := by decide +kernel
theorem dX6_performOrder_112 : decode cX6_performOrder 112 = .ok (.getfield 35, 3) := by decide +kernel
theorem dX6_performOrder_115 : decode cX6_performOrder 115 = .ok (.iload_n 1, 1) := by decide +kernel
theorem dX6_performOrder_116 : decode cX6_performOrder 116 = .ok (.iconst 2, 1) := by decide +kernel
theorem dX6_performOrder_117 : decode cX6_performOrder 117 = .ok (.iadd, 1) := by decide +kernel
theorem dX6_performOrder_118 : decode cX6_performOrder 118 = .ok (.iload_n 2, 1) := by decide +kernel
theorem dX6_performOrder_119 : decode cX6_performOrder 119 = .ok (.invokevirtual 252, 3) := by decide +kernel
theorem dX6_performOrder_122 : decode cX6_performOrder 122 = .ok (.invokevirtual 67, 3) := by decide +kernel
theorem dX6_performOrder_125 : decode cX6_performOrder 125 = .ok (.ireturn, 1) := by decide +kernel
theorem dX6_performOrder_126 : decode cX6_performOrder 126 = .ok (.aload_n 0, 1) := by decide +kernel
theorem dX6_performOrder_127 : decode cX6_performOrder 127 = .ok (.getfield 10, 3) := by decide +kernel
theorem dX6_performOrder_130 : decode cX6_performOrder 130 = .ok (.iload_n 3, 1) := by decide +kernel
theorem dX6_performOrder_131 : decode cX6_performOrder 131 = .ok (.invokevirtual 70, 3) := by decide +kernel
theorem dX6_performOrder_134 : decode cX6_performOrder 134 = .ok (.ireturn, 1) := by decide +kernel
theorem dX6_performOrder_135 : decode cX6_performOrder 135 = .ok (.aload_n 0, 1) := by decide +kernel
theorem dX6_performOrder_136 : decode cX6_performOrder 136 = .ok (.getfield 10, 3) := by decide +kernel
theorem dX6_performOrder_139 : decode cX6_performOrder 139 = .ok (.iload_n 3, 1) := by decide +kernel
theorem dX6_performOrder_140 : decode cX6_performOrder 140 = .ok (.aload_n 0, 1) := by decide +kernel
theorem dX6_performOrder_141 : decode cX6_performOrder 141 = .ok (.getfield 35, 3) := by decide +kernel
theorem dX6_performOrder_144 : decode cX6_performOrder 144 = .ok (.iload_n 1, 1) := by decide +kernel
theorem dX6_performOrder_145 : decode cX6_performOrder 145 = .ok (.iconst 2, 1) := by decide +kernel
theorem dX6_performOrder_146 : decode cX6_performOrder 146 = .ok (.iadd, 1) := by decide +kernel
theorem dX6_performOrder_147 : decode cX6_performOrder 147 = .ok (.invokevirtual 247, 3) := by decide +kernel
theorem dX6_performOrder_150 : decode cX6_performOrder 150 = .ok (.bipush 65, 2) := by decide +kernel
theorem dX6_performOrder_152 : decode cX6_performOrder 152 = .ok (.isub, 1) := by decide +kernel
theorem dX6_performOrder_153 : decode cX6_performOrder 153 = .ok (.invokevirtual 73, 3) := by decide +kernel
theorem dX6_performOrder_156 : decode cX6_performOrder 156 = .ok (.ireturn, 1) := by decide +kernel
theorem dX6_performOrder_157 : decode cX6_performOrder 157 = .ok (.aload_n 0, 1) := by decide +kernel
theorem dX6_performOrder_158 : decode cX6_performOrder 158 = .ok (.getfield 10, 3) := by decide +kernel
theorem dX6_performOrder_161 : decode cX6_performOrder 161 = .ok (.aload_n 0, 1) := by decide +kernel
theorem dX6_performOrder_162 : decode cX6_performOrder 162 = .ok (.getfield 35, 3) := by decide +kernel
theorem dX6_performOrder_165 : decode cX6_performOrder 165 = .ok (.iload_n 1, 1) := by decide +kernel
theorem dX6_performOrder_166 : decode cX6_performOrder 166 = .ok (.iconst 1, 1) := by decide +kernel
theorem dX6_performOrder_167 : decode cX6_performOrder 167 = .ok (.iadd, 1) := by decide +kernel
theorem dX6_performOrder_168 : decode cX6_performOrder 168 = .ok (.iload_n 2, 1) := by decide +kernel
theorem dX6_performOrder_169 : decode cX6_performOrder 169 = .ok (.invokevirtual 252, 3) := by decide +kernel
theorem dX6_performOrder_172 : decode cX6_performOrder 172 = .ok (.invokevirtual 79, 3) := by decide +kernel
theorem dX6_performOrder_175 : decode cX6_performOrder 175 = .ok (.ireturn, 1) := by decide +kernel
theorem dX6_undo_0 : decode cX6_undo 0 = .ok (.aload_n 0, 1) := by decide +kernel
theorem dX6_undo_1 : decode cX6_undo 1 = .ok (.getfield 22, 3) := by decide +kernel
theorem dX6_undo_4 : decode cX6_undo 4 = .ok (.getfield 215, 3) := by decide +kernel
theorem dX6_undo_7 : decode cX6_undo 7 = .ok (.ifCond .ne 6, 3) := by decide +kernel
theorem dX6_undo_10 : decode cX6_undo 10 = .ok (.bipush (-5), 2) := by decide +kernel
theorem dX6_undo_12 : decode cX6_undo 12 = .ok (.ireturn, 1) := by decide +kernel
theorem dX6_undo_13 : decode cX6_undo 13 = .ok (.aload_n 0, 1) := by decide +kernel
theorem dX6_undo_14 : decode cX6_undo 14 = .ok (.getfield 22, 3) := by decide +kernel
theorem dX6_undo_17 : decode cX6_undo 17 = .ok (.aload_n 0, 1) := by decide +kernel
theorem dX6_undo_18 : decode cX6_undo 18 = .ok (.getfield 10, 3) := by decide +kernel
theorem dX6_undo_21 : decode cX6_undo 21 = .ok (.invokevirtual 255, 3) := by decide +kernel
theorem dX6_undo_24 : decode cX6_undo 24 = .ok (.aload_n 0, 1) := by decide +kernel
theorem dX6_undo_25 : decode cX6_undo 25 = .ok (.getfield 22, 3) := by decide +kernel
theorem dX6_undo_28 : decode cX6_undo 28 = .ok (.getfield 215, 3) := by decide +kernel
theorem dX6_undo_31 : decode cX6_undo 31 = .ok (.ireturn, 1) := by decide +kernel
theorem dX6_save_0 : decode cX6_save 0 = .ok (.iload_n 1, 1) := by decide +kernel
theorem dX6_save_1 : decode cX6_save 1 = .ok (.ifCond .lt 8, 3) := by decide +kernel
theorem dX6_save_4 : decode cX6_save 4 = .ok (.iload_n 1, 1) := by decide +kernel
theorem dX6_save_5 : decode cX6_save 5 = .ok (.iconst 2, 1) := by decide +kernel
theorem dX6_save_6 : decode cX6_save 6 = .ok (.if_icmp .lt 6, 3) := by decide +kernel
theorem dX6_save_9 : decode cX6_save 9 = .ok (.bipush (-2), 2) := by decide +kernel
theorem dX6_save_11 : decode cX6_save 11 = .ok (.ireturn, 1) := by decide +kernel
theorem dX6_save_12 : decode cX6_save 12 = .ok (.iload_n 1, 1) := by decide +kernel
theorem dX6_save_13 : decode cX6_save 13 = .ok (.ifCond .ne 10, 3) := by decide +kernel
theorem dX6_save_16 : decode cX6_save 16 = .ok (.aload_n 0, 1) := by decide +kernel
theorem dX6_save_17 : decode cX6_save 17 = .ok (.getfield 26, 3) := by decide +kernel
theorem dX6_save_20 : decode cX6_save 20 = .ok (.goto 7, 3) := by decide +kernel
theorem dX6_save_23 : decode cX6_save 23 = .ok (.aload_n 0, 1) := by decide +kernel
theorem dX6_save_24 : decode cX6_save 24 = .ok (.getfield 29, 3) := by decide +kernel
theorem dX6_save_27 : decode cX6_save 27 = .ok (.astore_n 2, 1) := by decide +kernel
theorem dX6_save_28 : decode cX6_save 28 = .ok (.aload_n 2, 1) := by decide +kernel
theorem dX6_save_29 : decode cX6_save 29 = .ok (.aload_n 0, 1) := by decide +kernel
theorem dX6_save_30 : decode cX6_save 30 = .ok (.getfield 10, 3) := by decide +kernel
theorem dX6_save_33 : decode cX6_save 33 = .ok (.invokevirtual 224, 3) := by decide +kernel
theorem dX6_save_36 : decode cX6_save 36 = .ok (.aload_n 2, 1) := by decide +kernel
theorem dX6_save_37 : decode cX6_save 37 = .ok (.iconst 1, 1) := by decide +kernel
theorem dX6_save_38 : decode cX6_save 38 = .ok (.putfield 258, 3) := by decide +kernel
theorem dX6_save_41 : decode cX6_save 41 = .ok (.aload_n 0, 1) := by decide +kernel
theorem dX6_save_42 : decode cX6_save 42 = .ok (.getfield 10, 3) := by decide +kernel
theorem dX6_save_45 : decode cX6_save 45 = .ok (.getfield 125, 3) := by decide +kernel
theorem dX6_save_48 : decode cX6_save 48 = .ok (.ireturn, 1) := by decide +kernel
theorem dX6_restore_0 : decode cX6_restore 0 = .ok (.iload_n 1, 1) := by decide +kernel
theorem dX6_restore_1 : decode cX6_restore 1 = .ok (.ifCond .lt 8, 3) := by decide +kernel
theorem dX6_restore_4 : decode cX6_restore 4 = .ok (.iload_n 1, 1) := by decide +kernel
theorem dX6_restore_5 : decode cX6_restore 5 = .ok (.iconst 2, 1) := by decide +kernel
theorem dX6_restore_6 : decode cX6_restore 6 = .ok (.if_icmp .lt 6, 3) := by decide +kernel
theorem dX6_restore_9 : decode cX6_restore 9 = .ok (.bipush (-2), 2) := by decide +kernel
theorem dX6_restore_11 : decode cX6_restore 11 = .ok (.ireturn, 1) := by decide +kernel
theorem dX6_restore_12 : decode cX6_restore 12 = .ok (.iload_n 1, 1) := by decide +kernel
theorem dX6_restore_13 : decode cX6_restore 13 = .ok (.ifCond .ne 10, 3) := by decide +kernel
theorem dX6_restore_16 : decode cX6_restore 16 = .ok (.aload_n 0, 1) := by decide +kernel
theorem dX6_restore_17 : decode cX6_restore 17 = .ok (.getfield 26, 3) := by decide +kernel
theorem dX6_restore_20 : decode cX6_restore 20 = .ok (.goto 7, 3) := by decide +kernel
theorem dX6_restore_23 : decode cX6_restore 23 = .ok (.aload_n 0, 1) := by decide +kernel
theorem dX6_restore_24 : decode cX6_restore 24 = .ok (.getfield 29, 3) := by decide +kernel
theorem dX6_restore_27 : decode cX6_restore 27 = .ok (.astore_n 2, 1) := by decide +kernel
theorem dX6_restore_28 : decode cX6_restore 28 = .ok (.aload_n 2, 1) := by decide +kernel
theorem dX6_restore_29 : decode cX6_restore 29 = .ok (.getfield 258, 3) := by decide +kernel
theorem dX6_restore_32 : decode cX6_restore 32 = .ok (.ifCond .ne 6, 3) := by decide +kernel
theorem dX6_restore_35 : decode cX6_restore 35 = .ok (.bipush (-5), 2) := by decide +kernel
theorem dX6_restore_37 : decode cX6_restore 37 = .ok (.ireturn, 1) := by decide +kernel
theorem dX6_restore_38 : decode cX6_restore 38 = .ok (.aload_n 0, 1) := by decide +kernel
theorem dX6_restore_39 : decode cX6_restore 39 = .ok (.getfield 22, 3) := by decide +kernel
theorem dX6_restore_42 : decode cX6_restore 42 = .ok (.aload_n 0, 1) := by decide +kernel
theorem dX6_restore_43 : decode cX6_restore 43 = .ok (.getfield 10, 3) := by decide +kernel
theorem dX6_restore_46 : decode cX6_restore 46 = .ok (.invokevirtual 39, 3) := by decide +kernel
theorem dX6_restore_49 : decode cX6_restore 49 = .ok (.aload_n 0, 1) := by decide +kernel
theorem dX6_restore_50 : decode cX6_restore 50 = .ok (.getfield 10, 3) := by decide +kernel
theorem dX6_restore_53 : decode cX6_restore 53 = .ok (.aload_n 2, 1) := by decide +kernel
theorem dX6_restore_54 : decode cX6_restore 54 = .ok (.invokevirtual 224, 3) := by decide +kernel
theorem dX6_restore_57 : decode cX6_restore 57 = .ok (.aload_n 0, 1) := by decide +kernel
theorem dX6_restore_58 : decode cX6_restore 58 = .ok (.aload_n 0, 1) := by decide +kernel
theorem dX6_restore_59 : decode cX6_restore 59 = .ok (.getfield 10, 3) := by decide +kernel
theorem dX6_restore_62 : decode cX6_restore 62 = .ok (.getfield 125, 3) := by decide +kernel
theorem dX6_restore_65 : decode cX6_restore 65 = .ok (.invokevirtual 47, 3) := by decide +kernel
theorem dX6_restore_68 : decode cX6_restore 68 = .ok (.ireturn, 1) := by decide +kernel
theorem dJ9_min_7cf53_0 : decode cJ9_min_7cf53 0 = .ok (.iload_n 0, 1) := by decide +kernel
theorem dJ9_min_7cf53_1 : decode cJ9_min_7cf53 1 = .ok (.iload_n 1, 1) := by decide +kernel
theorem dJ9_min_7cf53_2 : decode cJ9_min_7cf53 2 = .ok (.if_icmp .gt 7, 3) := by decide +kernel
theorem dJ9_min_7cf53_5 : decode cJ9_min_7cf53 5 = .ok (.iload_n 0, 1) := by decide +kernel
theorem dJ9_min_7cf53_6 : decode cJ9_min_7cf53 6 = .ok (.goto 4, 3) := by decide +kernel
theorem dJ9_min_7cf53_9 : decode cJ9_min_7cf53 9 = .ok (.iload_n 1, 1) := by decide +kernel
theorem dJ9_min_7cf53_10 : decode cJ9_min_7cf53 10 = .ok (.ireturn, 1) := by decide +kernel
end
section
theorem dL_cell_0 : decode cL_cell 0 = .ok (.iload_n 1, 1) := by decide +kernel
theorem dL_cell_1 : decode cL_cell 1 = .ok (.aload_n 0, 1) := by decide +kernel
theorem dL_cell_2 : decode cL_cell 2 = .ok (.arraylength, 1) := by decide +kernel
theorem dL_cell_3 : decode cL_cell 3 = .ok (.if_icmp .ge 9, 3) := by decide +kernel
theorem dL_cell_6 : decode cL_cell 6 = .ok (.aload_n 0, 1) := by decide +kernel
theorem dL_cell_7 : decode cL_cell 7 = .ok (.iload_n 1, 1) := by decide +kernel
theorem dL_cell_8 : decode cL_cell 8 = .ok (.iaload, 1) := by decide +kernel
theorem dL_cell_9 : decode cL_cell 9 = .ok (.goto 11, 3) := by decide +kernel
theorem dL_cell_12 : decode cL_cell 12 = .ok (.ldc 7, 2) := by decide +kernel
theorem dL_cell_14 : decode cL_cell 14 = .ok (.iload_n 1, 1) := by decide +kernel
theorem dL_cell_15 : decode cL_cell 15 = .ok (.sipush 1619, 3) := by decide +kernel
theorem dL_cell_18 : decode cL_cell 18 = .ok (.iadd, 1) := by decide +kernel
theorem dL_cell_19 : decode cL_cell 19 = .ok (.imul, 1) := by decide +kernel
theorem dL_cell_20 : decode cL_cell 20 = .ok (.ireturn, 1) := by decide +kernel
theorem dL_up_0 : decode cL_up 0 = .ok (.iload_n 0, 1) := by decide +kernel
theorem dL_up_1 : decode cL_up 1 = .ok (.ldc 8, 2) := by decide +kernel
theorem dL_up_3 : decode cL_up 3 = .ok (.iand, 1) := by decide +kernel
theorem dL_up_4 : decode cL_up 4 = .ok (.iload_n 1, 1) := by decide +kernel
theorem dL_up_5 : decode cL_up 5 = .ok (.irem, 1) := by decide +kernel
theorem dL_up_6 : decode cL_up 6 = .ok (.ireturn, 1) := by decide +kernel
theorem dL_law_0 : decode cL_law 0 = .ok (.new 9, 3) := by decide +kernel
theorem dL_law_3 : decode cL_law 3 = .ok (.dup, 1) := by decide +kernel
theorem dL_law_4 : decode cL_law 4 = .ok (.invokespecial 11, 3) := by decide +kernel
theorem dL_law_7 : decode cL_law 7 = .ok (.astore_n 1, 1) := by decide +kernel
theorem dL_law_8 : decode cL_law 8 = .ok (.iconst 0, 1) := by decide +kernel
theorem dL_law_9 : decode cL_law 9 = .ok (.istore_n 2, 1) := by decide +kernel
theorem dL_law_10 : decode cL_law 10 = .ok (.aload_n 1, 1) := by decide +kernel
theorem dL_law_11 : decode cL_law 11 = .ok (.aload_n 0, 1) := by decide +kernel
theorem dL_law_12 : decode cL_law 12 = .ok (.iload_n 2, 1) := by decide +kernel
theorem dL_law_13 : decode cL_law 13 = .ok (.iinc 2 1, 3) := by decide +kernel
theorem dL_law_16 : decode cL_law 16 = .ok (.invokestatic 12, 3) := by decide +kernel
theorem dL_law_19 : decode cL_law 19 = .ok (.invokestatic 18, 3) := by decide +kernel
theorem dL_law_22 : decode cL_law 22 = .ok (.ifCond .ne 5, 3) := by decide +kernel
theorem dL_law_25 : decode cL_law 25 = .ok (.iconst 0, 1) := by decide +kernel
theorem dL_law_26 : decode cL_law 26 = .ok (.ireturn, 1) := by decide +kernel
theorem dL_law_27 : decode cL_law 27 = .ok (.aload_n 1, 1) := by decide +kernel
theorem dL_law_28 : decode cL_law 28 = .ok (.aload_n 0, 1) := by decide +kernel
theorem dL_law_29 : decode cL_law 29 = .ok (.iload_n 2, 1) := by decide +kernel
theorem dL_law_30 : decode cL_law 30 = .ok (.iinc 2 1, 3) := by decide +kernel
theorem dL_law_33 : decode cL_law 33 = .ok (.invokestatic 12, 3) := by decide +kernel
theorem dL_law_36 : decode cL_law 36 = .ok (.ldc 22, 2) := by decide +kernel
theorem dL_law_38 : decode cL_law 38 = .ok (.invokestatic 23, 3) := by decide +kernel
theorem dL_law_41 : decode cL_law 41 = .ok (.invokevirtual 27, 3) := by decide +kernel
theorem dL_law_44 : decode cL_law 44 = .ok (.iconst 1, 1) := by decide +kernel
theorem dL_law_45 : decode cL_law 45 = .ok (.if_icmp .eq 5, 3) := by decide +kernel
theorem dL_law_48 : decode cL_law 48 = .ok (.iconst 0, 1) := by decide +kernel
theorem dL_law_49 : decode cL_law 49 = .ok (.ireturn, 1) := by decide +kernel
theorem dL_law_50 : decode cL_law 50 = .ok (.iconst 0, 1) := by decide +kernel
theorem dL_law_51 : decode cL_law 51 = .ok (.istore_n 3, 1) := by decide +kernel
theorem dL_law_52 : decode cL_law 52 = .ok (.iload_n 3, 1) := by decide +kernel
theorem dL_law_53 : decode cL_law 53 = .ok (.iconst 4, 1) := by decide +kernel
theorem dL_law_54 : decode cL_law 54 = .ok (.if_icmp .ge 26, 3) := by decide +kernel
theorem dL_law_57 : decode cL_law 57 = .ok (.aload_n 1, 1) := by decide +kernel
theorem dL_law_58 : decode cL_law 58 = .ok (.aload_n 0, 1) := by decide +kernel
theorem dL_law_59 : decode cL_law 59 = .ok (.iload_n 2, 1) := by decide +kernel
theorem dL_law_60 : decode cL_law 60 = .ok (.iinc 2 1, 3) := by decide +kernel
theorem dL_law_63 : decode cL_law 63 = .ok (.invokestatic 12, 3) := by decide +kernel
theorem dL_law_66 : decode cL_law 66 = .ok (.invokestatic 31, 3) := by decide +kernel
theorem dL_law_69 : decode cL_law 69 = .ok (.ifCond .ne 5, 3) := by decide +kernel
theorem dL_law_72 : decode cL_law 72 = .ok (.iconst 0, 1) := by decide +kernel
theorem dL_law_73 : decode cL_law 73 = .ok (.ireturn, 1) := by decide +kernel
theorem dL_law_74 : decode cL_law 74 = .ok (.iinc 3 1, 3) := by decide +kernel
theorem dL_law_77 : decode cL_law 77 = .ok (.goto (-25), 3) := by decide +kernel
theorem dL_law_80 : decode cL_law 80 = .ok (.iconst 2, 1) := by decide +kernel
theorem dL_law_81 : decode cL_law 81 = .ok (.aload_n 0, 1) := by decide +kernel
theorem dL_law_82 : decode cL_law 82 = .ok (.iload_n 2, 1) := by decide +kernel
theorem dL_law_83 : decode cL_law 83 = .ok (.iinc 2 1, 3) := by decide +kernel
theorem dL_law_86 : decode cL_law 86 = .ok (.invokestatic 12, 3) := by decide +kernel
theorem dL_law_89 : decode cL_law 89 = .ok (.bipush 6, 2) := by decide +kernel
theorem dL_law_91 : decode cL_law 91 = .ok (.invokestatic 23, 3) := by decide +kernel
theorem dL_law_94 : decode cL_law 94 = .ok (.iadd, 1) := by decide +kernel
theorem dL_law_95 : decode cL_law 95 = .ok (.istore_n 3, 1) := by decide +kernel
theorem dL_law_96 : decode cL_law 96 = .ok (.iconst 0, 1) := by decide +kernel
theorem dL_law_97 : decode cL_law 97 = .ok (.istore 4, 2) := by decide +kernel
theorem dL_law_99 : decode cL_law 99 = .ok (.iload 4, 2) := by decide +kernel
theorem dL_law_101 : decode cL_law 101 = .ok (.iload_n 3, 1) := by decide +kernel
theorem dL_law_102 : decode cL_law 102 = .ok (.if_icmp .ge 34, 3) := by decide +kernel
theorem dL_law_105 : decode cL_law 105 = .ok (.aload_n 1, 1) := by decide +kernel
theorem dL_law_106 : decode cL_law 106 = .ok (.aload_n 0, 1) := by decide +kernel
theorem dL_law_107 : decode cL_law 107 = .ok (.iload_n 2, 1) := by decide +kernel
theorem dL_law_108 : decode cL_law 108 = .ok (.invokestatic 12, 3) := by decide +kernel
theorem dL_law_111 : decode cL_law 111 = .ok (.iload 4, 2) := by decide +kernel
theorem dL_law_113 : decode cL_law 113 = .ok (.ishr, 1) := by decide +kernel
theorem dL_law_114 : decode cL_law 114 = .ok (.sipush 5000, 3) := by decide +kernel
theorem dL_law_117 : decode cL_law 117 = .ok (.invokestatic 23, 3) := by decide +kernel
theorem dL_law_120 : decode cL_law 120 = .ok (.invokevirtual 34, 3) := by decide +kernel
theorem dL_law_123 : decode cL_law 123 = .ok (.iload 4, 2) := by decide +kernel
theorem dL_law_125 : decode cL_law 125 = .ok (.if_icmp .eq 5, 3) := by decide +kernel
theorem dL_law_128 : decode cL_law 128 = .ok (.iconst 0, 1) := by decide +kernel
theorem dL_law_129 : decode cL_law 129 = .ok (.ireturn, 1) := by decide +kernel
theorem dL_law_130 : decode cL_law 130 = .ok (.iinc 4 1, 3) := by decide +kernel
theorem dL_law_133 : decode cL_law 133 = .ok (.goto (-34), 3) := by decide +kernel
theorem dL_law_136 : decode cL_law 136 = .ok (.iconst 2, 1) := by decide +kernel
theorem dL_law_137 : decode cL_law 137 = .ok (.aload_n 0, 1) := by decide +kernel
theorem dL_law_138 : decode cL_law 138 = .ok (.iload_n 2, 1) := by decide +kernel
theorem dL_law_139 : decode cL_law 139 = .ok (.iinc 2 1, 3) := by decide +kernel
theorem dL_law_142 : decode cL_law 142 = .ok (.invokestatic 12, 3) := by decide +kernel
theorem dL_law_145 : decode cL_law 145 = .ok (.bipush 7, 2) := by decide +kernel
theorem dL_law_147 : decode cL_law 147 = .ok (.ishr, 1) := by decide +kernel
theorem dL_law_148 : decode cL_law 148 = .ok (.bipush 6, 2) := by decide +kernel
theorem dL_law_150 : decode cL_law 150 = .ok (.invokestatic 23, 3) := by decide +kernel
theorem dL_law_153 : decode cL_law 153 = .ok (.iadd, 1) := by decide +kernel
theorem dL_law_154 : decode cL_law 154 = .ok (.istore 4, 2) := by decide +kernel
theorem dL_law_156 : decode cL_law 156 = .ok (.iconst 0, 1) := by decide +kernel
theorem dL_law_157 : decode cL_law 157 = .ok (.istore 5, 2) := by decide +kernel
theorem dL_law_159 : decode cL_law 159 = .ok (.iload 5, 2) := by decide +kernel
theorem dL_law_161 : decode cL_law 161 = .ok (.iload 4, 2) := by decide +kernel
theorem dL_law_163 : decode cL_law 163 = .ok (.if_icmp .ge 49, 3) := by decide +kernel
theorem dL_law_166 : decode cL_law 166 = .ok (.aload_n 1, 1) := by decide +kernel
theorem dL_law_167 : decode cL_law 167 = .ok (.aload_n 0, 1) := by decide +kernel
theorem dL_law_168 : decode cL_law 168 = .ok (.iload_n 2, 1) := by decide +kernel
theorem dL_law_169 : decode cL_law 169 = .ok (.invokestatic 12, 3) := by decide +kernel
theorem dL_law_172 : decode cL_law 172 = .ok (.iload 5, 2) := by decide +kernel
theorem dL_law_174 : decode cL_law 174 = .ok (.ishr, 1) := by decide +kernel
theorem dL_law_175 : decode cL_law 175 = .ok (.iconst 4, 1) := by decide +kernel
theorem dL_law_176 : decode cL_law 176 = .ok (.invokestatic 23, 3) := by decide +kernel
theorem dL_law_179 : decode cL_law 179 = .ok (.iconst 1, 1) := by decide +kernel
theorem dL_law_180 : decode cL_law 180 = .ok (.aload_n 0, 1) := by decide +kernel
theorem dL_law_181 : decode cL_law 181 = .ok (.iload_n 2, 1) := by decide +kernel
theorem dL_law_182 : decode cL_law 182 = .ok (.invokestatic 12, 3) := by decide +kernel
theorem dL_law_185 : decode cL_law 185 = .ok (.iconst 2, 1) := by decide +kernel
theorem dL_law_186 : decode cL_law 186 = .ok (.iload 5, 2) := by decide +kernel
theorem dL_law_188 : decode cL_law 188 = .ok (.imul, 1) := by decide +kernel
theorem dL_law_189 : decode cL_law 189 = .ok (.ishr, 1) := by decide +kernel
theorem dL_law_190 : decode cL_law 190 = .ok (.bipush 6, 2) := by decide +kernel
theorem dL_law_192 : decode cL_law 192 = .ok (.invokestatic 23, 3) := by decide +kernel
theorem dL_law_195 : decode cL_law 195 = .ok (.iadd, 1) := by decide +kernel
theorem dL_law_196 : decode cL_law 196 = .ok (.invokevirtual 37, 3) := by decide +kernel
theorem dL_law_199 : decode cL_law 199 = .ok (.iload 5, 2) := by decide +kernel
theorem dL_law_201 : decode cL_law 201 = .ok (.if_icmp .eq 5, 3) := by decide +kernel
theorem dL_law_204 : decode cL_law 204 = .ok (.iconst 0, 1) := by decide +kernel
theorem dL_law_205 : decode cL_law 205 = .ok (.ireturn, 1) := by decide +kernel
theorem dL_law_206 : decode cL_law 206 = .ok (.iinc 5 1, 3) := by decide +kernel
theorem dL_law_209 : decode cL_law 209 = .ok (.goto (-50), 3) := by decide +kernel
theorem dL_law_212 : decode cL_law 212 = .ok (.iinc 2 1, 3) := by decide +kernel
theorem dL_law_215 : decode cL_law 215 = .ok (.iconst 0, 1) := by decide +kernel
theorem dL_law_216 : decode cL_law 216 = .ok (.istore 5, 2) := by decide +kernel
theorem dL_law_218 : decode cL_law 218 = .ok (.iload 5, 2) := by decide +kernel
theorem dL_law_220 : decode cL_law 220 = .ok (.bipush 42, 2) := by decide +kernel
theorem dL_law_222 : decode cL_law 222 = .ok (.if_icmp .ge 110, 3) := by decide +kernel
theorem dL_law_225 : decode cL_law 225 = .ok (.aload_n 0, 1) := by decide +kernel
theorem dL_law_226 : decode cL_law 226 = .ok (.iload_n 2, 1) := by decide +kernel
theorem dL_law_227 : decode cL_law 227 = .ok (.iinc 2 1, 3) := by decide +kernel
theorem dL_law_230 : decode cL_law 230 = .ok (.invokestatic 12, 3) := by decide +kernel
theorem dL_law_233 : decode cL_law 233 = .ok (.istore 6, 2) := by decide +kernel
theorem dL_law_235 : decode cL_law 235 = .ok (.aload_n 1, 1) := by decide +kernel
theorem dL_law_236 : decode cL_law 236 = .ok (.iload 5, 2) := by decide +kernel
theorem dL_law_238 : decode cL_law 238 = .ok (.iconst 5, 1) := by decide +kernel
theorem dL_law_239 : decode cL_law 239 = .ok (.if_icmp .ge 7, 3) := by decide +kernel
theorem dL_law_242 : decode cL_law 242 = .ok (.iconst 0, 1) := by decide +kernel
theorem dL_law_243 : decode cL_law 243 = .ok (.goto 5, 3) := by decide +kernel
theorem dL_law_246 : decode cL_law 246 = .ok (.iload 6, 2) := by decide +kernel
theorem dL_law_248 : decode cL_law 248 = .ok (.iload 5, 2) := by decide +kernel
theorem dL_law_250 : decode cL_law 250 = .ok (.iconst 5, 1) := by decide +kernel
theorem dL_law_251 : decode cL_law 251 = .ok (.if_icmp .ge 8, 3) := by decide +kernel
theorem dL_law_254 : decode cL_law 254 = .ok (.iload 5, 2) := by decide +kernel
theorem dL_law_256 : decode cL_law 256 = .ok (.goto 8, 3) := by decide +kernel
theorem dL_law_259 : decode cL_law 259 = .ok (.aload_n 0, 1) := by decide +kernel
theorem dL_law_260 : decode cL_law 260 = .ok (.iload_n 2, 1) := by decide +kernel
theorem dL_law_261 : decode cL_law 261 = .ok (.invokestatic 12, 3) := by decide +kernel
theorem dL_law_264 : decode cL_law 264 = .ok (.aload_n 0, 1) := by decide +kernel
theorem dL_law_265 : decode cL_law 265 = .ok (.iload_n 2, 1) := by decide +kernel
theorem dL_law_266 : decode cL_law 266 = .ok (.iinc 2 1, 3) := by decide +kernel
theorem dL_law_269 : decode cL_law 269 = .ok (.iconst 1, 1) := by decide +kernel
theorem dL_law_270 : decode cL_law 270 = .ok (.iadd, 1) := by decide +kernel
theorem dL_law_271 : decode cL_law 271 = .ok (.invokestatic 12, 3) := by decide +kernel
theorem dL_law_274 : decode cL_law 274 = .ok (.invokestatic 40, 3) := by decide +kernel
theorem dL_law_277 : decode cL_law 277 = .ok (.ifCond .ne 5, 3) := by decide +kernel
theorem dL_law_280 : decode cL_law 280 = .ok (.iconst 0, 1) := by decide +kernel
theorem dL_law_281 : decode cL_law 281 = .ok (.ireturn, 1) := by decide +kernel
theorem dL_law_282 : decode cL_law 282 = .ok (.iload 5, 2) := by decide +kernel
theorem dL_law_284 : decode cL_law 284 = .ok (.iconst 4, 1) := by decide +kernel
theorem dL_law_285 : decode cL_law 285 = .ok (.irem, 1) := by decide +kernel
theorem dL_law_286 : decode cL_law 286 = .ok (.iconst 3, 1) := by decide +kernel
theorem dL_law_287 : decode cL_law 287 = .ok (.if_icmp .ne 12, 3) := by decide +kernel
theorem dL_law_290 : decode cL_law 290 = .ok (.aload_n 1, 1) := by decide +kernel
theorem dL_law_291 : decode cL_law 291 = .ok (.invokestatic 44, 3) := by decide +kernel
theorem dL_law_294 : decode cL_law 294 = .ok (.ifCond .ne 5, 3) := by decide +kernel
theorem dL_law_297 : decode cL_law 297 = .ok (.iconst 0, 1) := by decide +kernel
theorem dL_law_298 : decode cL_law 298 = .ok (.ireturn, 1) := by decide +kernel
theorem dL_law_299 : decode cL_law 299 = .ok (.iload 5, 2) := by decide +kernel
theorem dL_law_301 : decode cL_law 301 = .ok (.bipush 9, 2) := by decide +kernel
theorem dL_law_303 : decode cL_law 303 = .ok (.irem, 1) := by decide +kernel
theorem dL_law_304 : decode cL_law 304 = .ok (.bipush 8, 2) := by decide +kernel
theorem dL_law_306 : decode cL_law 306 = .ok (.if_icmp .ne 20, 3) := by decide +kernel
theorem dL_law_309 : decode cL_law 309 = .ok (.aload_n 1, 1) := by decide +kernel
theorem dL_law_310 : decode cL_law 310 = .ok (.aload_n 0, 1) := by decide +kernel
theorem dL_law_311 : decode cL_law 311 = .ok (.iload_n 2, 1) := by decide +kernel
theorem dL_law_312 : decode cL_law 312 = .ok (.iinc 2 1, 3) := by decide +kernel
theorem dL_law_315 : decode cL_law 315 = .ok (.invokestatic 12, 3) := by decide +kernel
theorem dL_law_318 : decode cL_law 318 = .ok (.invokestatic 48, 3) := by decide +kernel
theorem dL_law_321 : decode cL_law 321 = .ok (.ifCond .ne 5, 3) := by decide +kernel
theorem dL_law_324 : decode cL_law 324 = .ok (.iconst 0, 1) := by decide +kernel
theorem dL_law_325 : decode cL_law 325 = .ok (.ireturn, 1) := by decide +kernel
theorem dL_law_326 : decode cL_law 326 = .ok (.iinc 5 1, 3) := by decide +kernel
theorem dL_law_329 : decode cL_law 329 = .ok (.goto (-111), 3) := by decide +kernel
theorem dL_law_332 : decode cL_law 332 = .ok (.aload_n 1, 1) := by decide +kernel
theorem dL_law_333 : decode cL_law 333 = .ok (.aload_n 0, 1) := by decide +kernel
theorem dL_law_334 : decode cL_law 334 = .ok (.iload_n 2, 1) := by decide +kernel
theorem dL_law_335 : decode cL_law 335 = .ok (.iinc 2 1, 3) := by decide +kernel
theorem dL_law_338 : decode cL_law 338 = .ok (.invokestatic 12, 3) := by decide +kernel
theorem dL_law_341 : decode cL_law 341 = .ok (.invokestatic 51, 3) := by decide +kernel
theorem dL_law_344 : decode cL_law 344 = .ok (.ifCond .eq 14, 3) := by decide +kernel
theorem dL_law_347 : decode cL_law 347 = .ok (.aload_n 1, 1) := by decide +kernel
theorem dL_law_348 : decode cL_law 348 = .ok (.invokestatic 44, 3) := by decide +kernel
theorem dL_law_351 : decode cL_law 351 = .ok (.ifCond .eq 7, 3) := by decide +kernel
theorem dL_law_354 : decode cL_law 354 = .ok (.iconst 1, 1) := by decide +kernel
theorem dL_law_355 : decode cL_law 355 = .ok (.goto 4, 3) := by decide +kernel
theorem dL_law_358 : decode cL_law 358 = .ok (.iconst 0, 1) := by decide +kernel
theorem dL_law_359 : decode cL_law 359 = .ok (.ireturn, 1) := by decide +kernel
theorem dL_least_0 : decode cL_least 0 = .ok (.iload_n 0, 1) := by decide +kernel
theorem dL_least_1 : decode cL_least 1 = .ok (.iconst 3, 1) := by decide +kernel
theorem dL_least_2 : decode cL_least 2 = .ok (.if_icmp .ne 7, 3) := by decide +kernel
theorem dL_least_5 : decode cL_least 5 = .ok (.iconst 3, 1) := by decide +kernel
theorem dL_least_6 : decode cL_least 6 = .ok (.goto 37, 3) := by decide +kernel
theorem dL_least_9 : decode cL_least 9 = .ok (.iload_n 0, 1) := by decide +kernel
theorem dL_least_10 : decode cL_least 10 = .ok (.bipush 8, 2) := by decide +kernel
theorem dL_least_12 : decode cL_least 12 = .ok (.if_icmp .ne 8, 3) := by decide +kernel
theorem dL_least_15 : decode cL_least 15 = .ok (.bipush 6, 2) := by decide +kernel
theorem dL_least_17 : decode cL_least 17 = .ok (.goto 26, 3) := by decide +kernel
theorem dL_least_20 : decode cL_least 20 = .ok (.iload_n 0, 1) := by decide +kernel
theorem dL_least_21 : decode cL_least 21 = .ok (.bipush 6, 2) := by decide +kernel
theorem dL_least_23 : decode cL_least 23 = .ok (.if_icmp .eq 15, 3) := by decide +kernel
theorem dL_least_26 : decode cL_least 26 = .ok (.iload_n 0, 1) := by decide +kernel
theorem dL_least_27 : decode cL_least 27 = .ok (.bipush 7, 2) := by decide +kernel
theorem dL_least_29 : decode cL_least 29 = .ok (.if_icmp .eq 9, 3) := by decide +kernel
theorem dL_least_32 : decode cL_least 32 = .ok (.iload_n 0, 1) := by decide +kernel
theorem dL_least_33 : decode cL_least 33 = .ok (.bipush 9, 2) := by decide +kernel
theorem dL_least_35 : decode cL_least 35 = .ok (.if_icmp .ne 7, 3) := by decide +kernel
theorem dL_least_38 : decode cL_least 38 = .ok (.iconst 0, 1) := by decide +kernel
theorem dL_least_39 : decode cL_least 39 = .ok (.goto 4, 3) := by decide +kernel
theorem dL_least_42 : decode cL_least 42 = .ok (.iconst 1, 1) := by decide +kernel
theorem dL_least_43 : decode cL_least 43 = .ok (.ireturn, 1) := by decide +kernel
theorem dL_most_0 : decode cL_most 0 = .ok (.iload_n 0, 1) := by decide +kernel
theorem dL_most_1 : decode cL_most 1 = .ok (.ifCond .ne 8, 3) := by decide +kernel
theorem dL_most_4 : decode cL_most 4 = .ok (.bipush 20, 2) := by decide +kernel
theorem dL_most_6 : decode cL_most 6 = .ok (.goto 86, 3) := by decide +kernel
theorem dL_most_9 : decode cL_most 9 = .ok (.iload_n 0, 1) := by decide +kernel
theorem dL_most_10 : decode cL_most 10 = .ok (.iconst 1, 1) := by decide +kernel
theorem dL_most_11 : decode cL_most 11 = .ok (.if_icmp .eq 8, 3) := by decide +kernel
theorem dL_most_14 : decode cL_most 14 = .ok (.iload_n 0, 1) := by decide +kernel
theorem dL_most_15 : decode cL_most 15 = .ok (.iconst 5, 1) := by decide +kernel
theorem dL_most_16 : decode cL_most 16 = .ok (.if_icmp .ne 9, 3) := by decide +kernel
theorem dL_most_19 : decode cL_most 19 = .ok (.sipush 200, 3) := by decide +kernel
theorem dL_most_22 : decode cL_most 22 = .ok (.goto 70, 3) := by decide +kernel
theorem dL_most_25 : decode cL_most 25 = .ok (.iload_n 0, 1) := by decide +kernel
theorem dL_most_26 : decode cL_most 26 = .ok (.iconst 2, 1) := by decide +kernel
theorem dL_most_27 : decode cL_most 27 = .ok (.if_icmp .ne 8, 3) := by decide +kernel
theorem dL_most_30 : decode cL_most 30 = .ok (.bipush 8, 2) := by decide +kernel
theorem dL_most_32 : decode cL_most 32 = .ok (.goto 60, 3) := by decide +kernel
theorem dL_most_35 : decode cL_most 35 = .ok (.iload_n 0, 1) := by decide +kernel
theorem dL_most_36 : decode cL_most 36 = .ok (.iconst 3, 1) := by decide +kernel
theorem dL_most_37 : decode cL_most 37 = .ok (.if_icmp .ne 8, 3) := by decide +kernel
theorem dL_most_40 : decode cL_most 40 = .ok (.bipush 30, 2) := by decide +kernel
theorem dL_most_42 : decode cL_most 42 = .ok (.goto 50, 3) := by decide +kernel
theorem dL_most_45 : decode cL_most 45 = .ok (.iload_n 0, 1) := by decide +kernel
theorem dL_most_46 : decode cL_most 46 = .ok (.iconst 4, 1) := by decide +kernel
theorem dL_most_47 : decode cL_most 47 = .ok (.if_icmp .ne 8, 3) := by decide +kernel
theorem dL_most_50 : decode cL_most 50 = .ok (.bipush 60, 2) := by decide +kernel
theorem dL_most_52 : decode cL_most 52 = .ok (.goto 40, 3) := by decide +kernel
theorem dL_most_55 : decode cL_most 55 = .ok (.iload_n 0, 1) := by decide +kernel
theorem dL_most_56 : decode cL_most 56 = .ok (.bipush 6, 2) := by decide +kernel
theorem dL_most_58 : decode cL_most 58 = .ok (.if_icmp .ne 9, 3) := by decide +kernel
theorem dL_most_61 : decode cL_most 61 = .ok (.sipush 10000, 3) := by decide +kernel
theorem dL_most_64 : decode cL_most 64 = .ok (.goto 28, 3) := by decide +kernel
theorem dL_most_67 : decode cL_most 67 = .ok (.iload_n 0, 1) := by decide +kernel
theorem dL_most_68 : decode cL_most 68 = .ok (.bipush 7, 2) := by decide +kernel
theorem dL_most_70 : decode cL_most 70 = .ok (.if_icmp .ne 8, 3) := by decide +kernel
theorem dL_most_73 : decode cL_most 73 = .ok (.bipush 9, 2) := by decide +kernel
theorem dL_most_75 : decode cL_most 75 = .ok (.goto 17, 3) := by decide +kernel
theorem dL_most_78 : decode cL_most 78 = .ok (.iload_n 0, 1) := by decide +kernel
theorem dL_most_79 : decode cL_most 79 = .ok (.bipush 8, 2) := by decide +kernel
theorem dL_most_81 : decode cL_most 81 = .ok (.if_icmp .ne 8, 3) := by decide +kernel
theorem dL_most_84 : decode cL_most 84 = .ok (.bipush 14, 2) := by decide +kernel
theorem dL_most_86 : decode cL_most 86 = .ok (.goto 6, 3) := by decide +kernel
theorem dL_most_89 : decode cL_most 89 = .ok (.sipush 5000, 3) := by decide +kernel
theorem dL_most_92 : decode cL_most 92 = .ok (.ireturn, 1) := by decide +kernel
theorem dL_sets_0 : decode cL_sets 0 = .ok (.iload_n 1, 1) := by decide +kernel
theorem dL_sets_1 : decode cL_sets 1 = .ok (.bipush 10, 2) := by decide +kernel
theorem dL_sets_3 : decode cL_sets 3 = .ok (.invokestatic 23, 3) := by decide +kernel
theorem dL_sets_6 : decode cL_sets 6 = .ok (.istore_n 2, 1) := by decide +kernel
theorem dL_sets_7 : decode cL_sets 7 = .ok (.iload_n 2, 1) := by decide +kernel
theorem dL_sets_8 : decode cL_sets 8 = .ok (.invokestatic 54, 3) := by decide +kernel
theorem dL_sets_11 : decode cL_sets 11 = .ok (.iload_n 1, 1) := by decide +kernel
theorem dL_sets_12 : decode cL_sets 12 = .ok (.iconst 4, 1) := by decide +kernel
theorem dL_sets_13 : decode cL_sets 13 = .ok (.ishr, 1) := by decide +kernel
theorem dL_sets_14 : decode cL_sets 14 = .ok (.iload_n 2, 1) := by decide +kernel
theorem dL_sets_15 : decode cL_sets 15 = .ok (.iconst 1, 1) := by decide +kernel
theorem dL_sets_16 : decode cL_sets 16 = .ok (.if_icmp .eq 8, 3) := by decide +kernel
theorem dL_sets_19 : decode cL_sets 19 = .ok (.iload_n 2, 1) := by decide +kernel
theorem dL_sets_20 : decode cL_sets 20 = .ok (.iconst 5, 1) := by decide +kernel
theorem dL_sets_21 : decode cL_sets 21 = .ok (.if_icmp .ne 8, 3) := by decide +kernel
theorem dL_sets_24 : decode cL_sets 24 = .ok (.bipush 12, 2) := by decide +kernel
theorem dL_sets_26 : decode cL_sets 26 = .ok (.goto 14, 3) := by decide +kernel
theorem dL_sets_29 : decode cL_sets 29 = .ok (.iload_n 2, 1) := by decide +kernel
theorem dL_sets_30 : decode cL_sets 30 = .ok (.invokestatic 57, 3) := by decide +kernel
theorem dL_sets_33 : decode cL_sets 33 = .ok (.iload_n 2, 1) := by decide +kernel
theorem dL_sets_34 : decode cL_sets 34 = .ok (.invokestatic 54, 3) := by decide +kernel
theorem dL_sets_37 : decode cL_sets 37 = .ok (.isub, 1) := by decide +kernel
theorem dL_sets_38 : decode cL_sets 38 = .ok (.iconst 1, 1) := by decide +kernel
theorem dL_sets_39 : decode cL_sets 39 = .ok (.iadd, 1) := by decide +kernel
theorem dL_sets_40 : decode cL_sets 40 = .ok (.invokestatic 23, 3) := by decide +kernel
theorem dL_sets_43 : decode cL_sets 43 = .ok (.iadd, 1) := by decide +kernel
theorem dL_sets_44 : decode cL_sets 44 = .ok (.istore_n 3, 1) := by decide +kernel
theorem dL_sets_45 : decode cL_sets 45 = .ok (.aload_n 0, 1) := by decide +kernel
theorem dL_sets_46 : decode cL_sets 46 = .ok (.bipush 8, 2) := by decide +kernel
theorem dL_sets_48 : decode cL_sets 48 = .ok (.iload_n 2, 1) := by decide +kernel
theorem dL_sets_49 : decode cL_sets 49 = .ok (.iadd, 1) := by decide +kernel
theorem dL_sets_50 : decode cL_sets 50 = .ok (.invokevirtual 60, 3) := by decide +kernel
theorem dL_sets_53 : decode cL_sets 53 = .ok (.istore 4, 2) := by decide +kernel
theorem dL_sets_55 : decode cL_sets 55 = .ok (.aload_n 0, 1) := by decide +kernel
theorem dL_sets_56 : decode cL_sets 56 = .ok (.iload_n 2, 1) := by decide +kernel
theorem dL_sets_57 : decode cL_sets 57 = .ok (.iload_n 2, 1) := by decide +kernel
theorem dL_sets_58 : decode cL_sets 58 = .ok (.invokestatic 54, 3) := by decide +kernel
theorem dL_sets_61 : decode cL_sets 61 = .ok (.iconst 1, 1) := by decide +kernel
theorem dL_sets_62 : decode cL_sets 62 = .ok (.isub, 1) := by decide +kernel
theorem dL_sets_63 : decode cL_sets 63 = .ok (.invokevirtual 63, 3) := by decide +kernel
theorem dL_sets_66 : decode cL_sets 66 = .ok (.bipush (-2), 2) := by decide +kernel
theorem dL_sets_68 : decode cL_sets 68 = .ok (.if_icmp .ne 46, 3) := by decide +kernel
theorem dL_sets_71 : decode cL_sets 71 = .ok (.aload_n 0, 1) := by decide +kernel
theorem dL_sets_72 : decode cL_sets 72 = .ok (.iload_n 2, 1) := by decide +kernel
theorem dL_sets_73 : decode cL_sets 73 = .ok (.iload_n 2, 1) := by decide +kernel
theorem dL_sets_74 : decode cL_sets 74 = .ok (.invokestatic 57, 3) := by decide +kernel
theorem dL_sets_77 : decode cL_sets 77 = .ok (.iconst 1, 1) := by decide +kernel
theorem dL_sets_78 : decode cL_sets 78 = .ok (.iadd, 1) := by decide +kernel
theorem dL_sets_79 : decode cL_sets 79 = .ok (.invokevirtual 63, 3) := by decide +kernel
theorem dL_sets_82 : decode cL_sets 82 = .ok (.bipush (-2), 2) := by decide +kernel
theorem dL_sets_84 : decode cL_sets 84 = .ok (.if_icmp .ne 30, 3) := by decide +kernel
theorem dL_sets_87 : decode cL_sets 87 = .ok (.aload_n 0, 1) := by decide +kernel
theorem dL_sets_88 : decode cL_sets 88 = .ok (.iload_n 2, 1) := by decide +kernel
theorem dL_sets_89 : decode cL_sets 89 = .ok (.iload_n 3, 1) := by decide +kernel
theorem dL_sets_90 : decode cL_sets 90 = .ok (.invokevirtual 63, 3) := by decide +kernel
theorem dL_sets_93 : decode cL_sets 93 = .ok (.iload 4, 2) := by decide +kernel
theorem dL_sets_95 : decode cL_sets 95 = .ok (.if_icmp .ne 19, 3) := by decide +kernel
theorem dL_sets_98 : decode cL_sets 98 = .ok (.aload_n 0, 1) := by decide +kernel
theorem dL_sets_99 : decode cL_sets 99 = .ok (.bipush 8, 2) := by decide +kernel
theorem dL_sets_101 : decode cL_sets 101 = .ok (.iload_n 2, 1) := by decide +kernel
theorem dL_sets_102 : decode cL_sets 102 = .ok (.iadd, 1) := by decide +kernel
theorem dL_sets_103 : decode cL_sets 103 = .ok (.invokevirtual 60, 3) := by decide +kernel
theorem dL_sets_106 : decode cL_sets 106 = .ok (.iload_n 3, 1) := by decide +kernel
theorem dL_sets_107 : decode cL_sets 107 = .ok (.if_icmp .ne 7, 3) := by decide +kernel
theorem dL_sets_110 : decode cL_sets 110 = .ok (.iconst 1, 1) := by decide +kernel
theorem dL_sets_111 : decode cL_sets 111 = .ok (.goto 4, 3) := by decide +kernel
theorem dL_sets_114 : decode cL_sets 114 = .ok (.iconst 0, 1) := by decide +kernel
theorem dL_sets_115 : decode cL_sets 115 = .ok (.ireturn, 1) := by decide +kernel
theorem dL_act_0 : decode cL_act 0 = .ok (.iload_n 2, 1) := by decide +kernel
theorem dL_act_1 : decode cL_act 1 = .ok (.aload_n 0, 1) := by decide +kernel
theorem dL_act_2 : decode cL_act 2 = .ok (.iconst 1, 1) := by decide +kernel
theorem dL_act_3 : decode cL_act 3 = .ok (.invokevirtual 60, 3) := by decide +kernel
theorem dL_act_6 : decode cL_act 6 = .ok (.invokestatic 23, 3) := by decide +kernel
theorem dL_act_9 : decode cL_act 9 = .ok (.istore 4, 2) := by decide +kernel
theorem dL_act_11 : decode cL_act 11 = .ok (.iload_n 1, 1) := by decide +kernel
theorem dL_act_12 : decode cL_act 12 = .ok (.bipush 14, 2) := by decide +kernel
theorem dL_act_14 : decode cL_act 14 = .ok (.invokestatic 23, 3) := by decide +kernel
theorem dL_act_17 : decode cL_act 17 = .ok (.tableswitch 985 0 12 #[67, 67, 67, 353, 503, 581, 581, 687, 768, 847, 914, 914, 914], 67) := by decide +kernel
theorem dL_act_84 : decode cL_act 84 = .ok (.aload_n 0, 1) := by decide +kernel
theorem dL_act_85 : decode cL_act 85 = .ok (.iconst 2, 1) := by decide +kernel
theorem dL_act_86 : decode cL_act 86 = .ok (.invokevirtual 60, 3) := by decide +kernel
theorem dL_act_89 : decode cL_act 89 = .ok (.istore 5, 2) := by decide +kernel
theorem dL_act_91 : decode cL_act 91 = .ok (.iload_n 3, 1) := by decide +kernel
theorem dL_act_92 : decode cL_act 92 = .ok (.iload 5, 2) := by decide +kernel
theorem dL_act_94 : decode cL_act 94 = .ok (.invokestatic 23, 3) := by decide +kernel
theorem dL_act_97 : decode cL_act 97 = .ok (.istore 6, 2) := by decide +kernel
theorem dL_act_99 : decode cL_act 99 = .ok (.iload_n 3, 1) := by decide +kernel
theorem dL_act_100 : decode cL_act 100 = .ok (.iconst 4, 1) := by decide +kernel
theorem dL_act_101 : decode cL_act 101 = .ok (.ishr, 1) := by decide +kernel
theorem dL_act_102 : decode cL_act 102 = .ok (.iconst 4, 1) := by decide +kernel
theorem dL_act_103 : decode cL_act 103 = .ok (.invokestatic 23, 3) := by decide +kernel
theorem dL_act_106 : decode cL_act 106 = .ok (.ifCond .ne 8, 3) := by decide +kernel
theorem dL_act_109 : decode cL_act 109 = .ok (.bipush (-6), 2) := by decide +kernel
theorem dL_act_111 : decode cL_act 111 = .ok (.goto 12, 3) := by decide +kernel
theorem dL_act_114 : decode cL_act 114 = .ok (.iload_n 3, 1) := by decide +kernel
theorem dL_act_115 : decode cL_act 115 = .ok (.bipush 7, 2) := by decide +kernel
theorem dL_act_117 : decode cL_act 117 = .ok (.ishr, 1) := by decide +kernel
theorem dL_act_118 : decode cL_act 118 = .ok (.iload 5, 2) := by decide +kernel
theorem dL_act_120 : decode cL_act 120 = .ok (.invokestatic 23, 3) := by decide +kernel
theorem dL_act_123 : decode cL_act 123 = .ok (.istore 7, 2) := by decide +kernel
theorem dL_act_125 : decode cL_act 125 = .ok (.iload_n 3, 1) := by decide +kernel
theorem dL_act_126 : decode cL_act 126 = .ok (.bipush 10, 2) := by decide +kernel
theorem dL_act_128 : decode cL_act 128 = .ok (.ishr, 1) := by decide +kernel
theorem dL_act_129 : decode cL_act 129 = .ok (.iconst 3, 1) := by decide +kernel
theorem dL_act_130 : decode cL_act 130 = .ok (.invokestatic 23, 3) := by decide +kernel
theorem dL_act_133 : decode cL_act 133 = .ok (.ifCond .ne 8, 3) := by decide +kernel
theorem dL_act_136 : decode cL_act 136 = .ok (.bipush (-6), 2) := by decide +kernel
theorem dL_act_138 : decode cL_act 138 = .ok (.goto 12, 3) := by decide +kernel
theorem dL_act_141 : decode cL_act 141 = .ok (.iload_n 3, 1) := by decide +kernel
theorem dL_act_142 : decode cL_act 142 = .ok (.bipush 13, 2) := by decide +kernel
theorem dL_act_144 : decode cL_act 144 = .ok (.ishr, 1) := by decide +kernel
theorem dL_act_145 : decode cL_act 145 = .ok (.iload 5, 2) := by decide +kernel
theorem dL_act_147 : decode cL_act 147 = .ok (.invokestatic 23, 3) := by decide +kernel
theorem dL_act_150 : decode cL_act 150 = .ok (.istore 8, 2) := by decide +kernel
theorem dL_act_152 : decode cL_act 152 = .ok (.iload 7, 2) := by decide +kernel
theorem dL_act_154 : decode cL_act 154 = .ok (.ifCond .lt 33, 3) := by decide +kernel
theorem dL_act_157 : decode cL_act 157 = .ok (.iload 6, 2) := by decide +kernel
theorem dL_act_159 : decode cL_act 159 = .ok (.iload 7, 2) := by decide +kernel
theorem dL_act_161 : decode cL_act 161 = .ok (.if_icmp .eq 22, 3) := by decide +kernel
theorem dL_act_164 : decode cL_act 164 = .ok (.iload 8, 2) := by decide +kernel
theorem dL_act_166 : decode cL_act 166 = .ok (.ifCond .lt 21, 3) := by decide +kernel
theorem dL_act_169 : decode cL_act 169 = .ok (.iload 6, 2) := by decide +kernel
theorem dL_act_171 : decode cL_act 171 = .ok (.iload 8, 2) := by decide +kernel
theorem dL_act_173 : decode cL_act 173 = .ok (.if_icmp .eq 10, 3) := by decide +kernel
theorem dL_act_176 : decode cL_act 176 = .ok (.iload 7, 2) := by decide +kernel
theorem dL_act_178 : decode cL_act 178 = .ok (.iload 8, 2) := by decide +kernel
theorem dL_act_180 : decode cL_act 180 = .ok (.if_icmp .ne 7, 3) := by decide +kernel
theorem dL_act_183 : decode cL_act 183 = .ok (.iconst 1, 1) := by decide +kernel
theorem dL_act_184 : decode cL_act 184 = .ok (.goto 4, 3) := by decide +kernel
theorem dL_act_187 : decode cL_act 187 = .ok (.iconst 0, 1) := by decide +kernel
theorem dL_act_188 : decode cL_act 188 = .ok (.istore 9, 2) := by decide +kernel
theorem dL_act_190 : decode cL_act 190 = .ok (.iload 7, 2) := by decide +kernel
theorem dL_act_192 : decode cL_act 192 = .ok (.ifCond .ge 7, 3) := by decide +kernel
theorem dL_act_195 : decode cL_act 195 = .ok (.iconst 1, 1) := by decide +kernel
theorem dL_act_196 : decode cL_act 196 = .ok (.goto 13, 3) := by decide +kernel
theorem dL_act_199 : decode cL_act 199 = .ok (.iload 8, 2) := by decide +kernel
theorem dL_act_201 : decode cL_act 201 = .ok (.ifCond .ge 7, 3) := by decide +kernel
theorem dL_act_204 : decode cL_act 204 = .ok (.iconst 2, 1) := by decide +kernel
theorem dL_act_205 : decode cL_act 205 = .ok (.goto 4, 3) := by decide +kernel
theorem dL_act_208 : decode cL_act 208 = .ok (.iconst 3, 1) := by decide +kernel
theorem dL_act_209 : decode cL_act 209 = .ok (.istore 10, 2) := by decide +kernel
theorem dL_act_211 : decode cL_act 211 = .ok (.aload_n 0, 1) := by decide +kernel
theorem dL_act_212 : decode cL_act 212 = .ok (.iload 4, 2) := by decide +kernel
theorem dL_act_214 : decode cL_act 214 = .ok (.iconst 2, 1) := by decide +kernel
theorem dL_act_215 : decode cL_act 215 = .ok (.invokevirtual 66, 3) := by decide +kernel
theorem dL_act_218 : decode cL_act 218 = .ok (.istore 11, 2) := by decide +kernel
theorem dL_act_220 : decode cL_act 220 = .ok (.iload 9, 2) := by decide +kernel
theorem dL_act_222 : decode cL_act 222 = .ok (.ifCond .eq 38, 3) := by decide +kernel
theorem dL_act_225 : decode cL_act 225 = .ok (.aload_n 0, 1) := by decide +kernel
theorem dL_act_226 : decode cL_act 226 = .ok (.iload 4, 2) := by decide +kernel
theorem dL_act_228 : decode cL_act 228 = .ok (.iload 6, 2) := by decide +kernel
theorem dL_act_230 : decode cL_act 230 = .ok (.iload 7, 2) := by decide +kernel
theorem dL_act_232 : decode cL_act 232 = .ok (.iload 8, 2) := by decide +kernel
theorem dL_act_234 : decode cL_act 234 = .ok (.invokevirtual 69, 3) := by decide +kernel
theorem dL_act_237 : decode cL_act 237 = .ok (.bipush (-2), 2) := by decide +kernel
theorem dL_act_239 : decode cL_act 239 = .ok (.if_icmp .ne 19, 3) := by decide +kernel
theorem dL_act_242 : decode cL_act 242 = .ok (.aload_n 0, 1) := by decide +kernel
theorem dL_act_243 : decode cL_act 243 = .ok (.iload 4, 2) := by decide +kernel
theorem dL_act_245 : decode cL_act 245 = .ok (.iconst 2, 1) := by decide +kernel
theorem dL_act_246 : decode cL_act 246 = .ok (.invokevirtual 66, 3) := by decide +kernel
theorem dL_act_249 : decode cL_act 249 = .ok (.iload 11, 2) := by decide +kernel
theorem dL_act_251 : decode cL_act 251 = .ok (.if_icmp .ne 7, 3) := by decide +kernel
theorem dL_act_254 : decode cL_act 254 = .ok (.iconst 1, 1) := by decide +kernel
theorem dL_act_255 : decode cL_act 255 = .ok (.goto 4, 3) := by decide +kernel
theorem dL_act_258 : decode cL_act 258 = .ok (.iconst 0, 1) := by decide +kernel
theorem dL_act_259 : decode cL_act 259 = .ok (.ireturn, 1) := by decide +kernel
theorem dL_act_260 : decode cL_act 260 = .ok (.aload_n 0, 1) := by decide +kernel
theorem dL_act_261 : decode cL_act 261 = .ok (.iload 4, 2) := by decide +kernel
theorem dL_act_263 : decode cL_act 263 = .ok (.iload 6, 2) := by decide +kernel
theorem dL_act_265 : decode cL_act 265 = .ok (.iload 7, 2) := by decide +kernel
theorem dL_act_267 : decode cL_act 267 = .ok (.iload 8, 2) := by decide +kernel
theorem dL_act_269 : decode cL_act 269 = .ok (.invokevirtual 69, 3) := by decide +kernel
theorem dL_act_272 : decode cL_act 272 = .ok (.iload 10, 2) := by decide +kernel
theorem dL_act_274 : decode cL_act 274 = .ok (.if_icmp .ne 94, 3) := by decide +kernel
theorem dL_act_277 : decode cL_act 277 = .ok (.aload_n 0, 1) := by decide +kernel
theorem dL_act_278 : decode cL_act 278 = .ok (.iload 4, 2) := by decide +kernel
theorem dL_act_280 : decode cL_act 280 = .ok (.iconst 2, 1) := by decide +kernel
theorem dL_act_281 : decode cL_act 281 = .ok (.invokevirtual 66, 3) := by decide +kernel
theorem dL_act_284 : decode cL_act 284 = .ok (.iload 10, 2) := by decide +kernel
theorem dL_act_286 : decode cL_act 286 = .ok (.if_icmp .ne 82, 3) := by decide +kernel
theorem dL_act_289 : decode cL_act 289 = .ok (.aload_n 0, 1) := by decide +kernel
theorem dL_act_290 : decode cL_act 290 = .ok (.iload 4, 2) := by decide +kernel
theorem dL_act_292 : decode cL_act 292 = .ok (.iconst 3, 1) := by decide +kernel
theorem dL_act_293 : decode cL_act 293 = .ok (.invokevirtual 66, 3) := by decide +kernel
theorem dL_act_296 : decode cL_act 296 = .ok (.iload 6, 2) := by decide +kernel
theorem dL_act_298 : decode cL_act 298 = .ok (.if_icmp .ne 70, 3) := by decide +kernel
theorem dL_act_301 : decode cL_act 301 = .ok (.aload_n 0, 1) := by decide +kernel
theorem dL_act_302 : decode cL_act 302 = .ok (.iload 4, 2) := by decide +kernel
theorem dL_act_304 : decode cL_act 304 = .ok (.iconst 4, 1) := by decide +kernel
theorem dL_act_305 : decode cL_act 305 = .ok (.invokevirtual 66, 3) := by decide +kernel
theorem dL_act_308 : decode cL_act 308 = .ok (.iload 10, 2) := by decide +kernel
theorem dL_act_310 : decode cL_act 310 = .ok (.iconst 1, 1) := by decide +kernel
theorem dL_act_311 : decode cL_act 311 = .ok (.if_icmp .le 8, 3) := by decide +kernel
theorem dL_act_314 : decode cL_act 314 = .ok (.iload 7, 2) := by decide +kernel
theorem dL_act_316 : decode cL_act 316 = .ok (.goto 5, 3) := by decide +kernel
theorem dL_act_319 : decode cL_act 319 = .ok (.bipush (-6), 2) := by decide +kernel
theorem dL_act_321 : decode cL_act 321 = .ok (.if_icmp .ne 47, 3) := by decide +kernel
theorem dL_act_324 : decode cL_act 324 = .ok (.aload_n 0, 1) := by decide +kernel
theorem dL_act_325 : decode cL_act 325 = .ok (.iload 4, 2) := by decide +kernel
theorem dL_act_327 : decode cL_act 327 = .ok (.iconst 5, 1) := by decide +kernel
theorem dL_act_328 : decode cL_act 328 = .ok (.invokevirtual 66, 3) := by decide +kernel
theorem dL_act_331 : decode cL_act 331 = .ok (.iload 10, 2) := by decide +kernel
theorem dL_act_333 : decode cL_act 333 = .ok (.iconst 2, 1) := by decide +kernel
theorem dL_act_334 : decode cL_act 334 = .ok (.if_icmp .le 8, 3) := by decide +kernel
theorem dL_act_337 : decode cL_act 337 = .ok (.iload 8, 2) := by decide +kernel
theorem dL_act_339 : decode cL_act 339 = .ok (.goto 5, 3) := by decide +kernel
theorem dL_act_342 : decode cL_act 342 = .ok (.bipush (-6), 2) := by decide +kernel
theorem dL_act_344 : decode cL_act 344 = .ok (.if_icmp .ne 24, 3) := by decide +kernel
theorem dL_act_347 : decode cL_act 347 = .ok (.aload_n 0, 1) := by decide +kernel
theorem dL_act_348 : decode cL_act 348 = .ok (.iload 4, 2) := by decide +kernel
theorem dL_act_350 : decode cL_act 350 = .ok (.iload 5, 2) := by decide +kernel
theorem dL_act_352 : decode cL_act 352 = .ok (.bipush (-6), 2) := by decide +kernel
theorem dL_act_354 : decode cL_act 354 = .ok (.bipush (-6), 2) := by decide +kernel
theorem dL_act_356 : decode cL_act 356 = .ok (.invokevirtual 69, 3) := by decide +kernel
theorem dL_act_359 : decode cL_act 359 = .ok (.bipush (-2), 2) := by decide +kernel
theorem dL_act_361 : decode cL_act 361 = .ok (.if_icmp .ne 7, 3) := by decide +kernel
theorem dL_act_364 : decode cL_act 364 = .ok (.iconst 1, 1) := by decide +kernel
theorem dL_act_365 : decode cL_act 365 = .ok (.goto 4, 3) := by decide +kernel
theorem dL_act_368 : decode cL_act 368 = .ok (.iconst 0, 1) := by decide +kernel
theorem dL_act_369 : decode cL_act 369 = .ok (.ireturn, 1) := by decide +kernel
theorem dL_act_370 : decode cL_act 370 = .ok (.iconst 1, 1) := by decide +kernel
theorem dL_act_371 : decode cL_act 371 = .ok (.iload_n 3, 1) := by decide +kernel
theorem dL_act_372 : decode cL_act 372 = .ok (.bipush 9, 2) := by decide +kernel
theorem dL_act_374 : decode cL_act 374 = .ok (.invokestatic 23, 3) := by decide +kernel
theorem dL_act_377 : decode cL_act 377 = .ok (.iadd, 1) := by decide +kernel
theorem dL_act_378 : decode cL_act 378 = .ok (.istore 5, 2) := by decide +kernel
theorem dL_act_380 : decode cL_act 380 = .ok (.aload_n 0, 1) := by decide +kernel
theorem dL_act_381 : decode cL_act 381 = .ok (.iload 4, 2) := by decide +kernel
theorem dL_act_383 : decode cL_act 383 = .ok (.bipush 9, 2) := by decide +kernel
theorem dL_act_385 : decode cL_act 385 = .ok (.invokevirtual 66, 3) := by decide +kernel
theorem dL_act_388 : decode cL_act 388 = .ok (.istore 6, 2) := by decide +kernel
theorem dL_act_390 : decode cL_act 390 = .ok (.aload_n 0, 1) := by decide +kernel
theorem dL_act_391 : decode cL_act 391 = .ok (.iload 4, 2) := by decide +kernel
theorem dL_act_393 : decode cL_act 393 = .ok (.iconst 3, 1) := by decide +kernel
theorem dL_act_394 : decode cL_act 394 = .ok (.invokevirtual 73, 3) := by decide +kernel
theorem dL_act_397 : decode cL_act 397 = .ok (.lstore 7, 2) := by decide +kernel
theorem dL_act_399 : decode cL_act 399 = .ok (.iload 6, 2) := by decide +kernel
theorem dL_act_401 : decode cL_act 401 = .ok (.iload 5, 2) := by decide +kernel
theorem dL_act_403 : decode cL_act 403 = .ok (.iadd, 1) := by decide +kernel
theorem dL_act_404 : decode cL_act 404 = .ok (.aload_n 0, 1) := by decide +kernel
theorem dL_act_405 : decode cL_act 405 = .ok (.bipush 11, 2) := by decide +kernel
theorem dL_act_407 : decode cL_act 407 = .ok (.invokevirtual 60, 3) := by decide +kernel
theorem dL_act_410 : decode cL_act 410 = .ok (.if_icmp .lt 7, 3) := by decide +kernel
theorem dL_act_413 : decode cL_act 413 = .ok (.iconst 0, 1) := by decide +kernel
theorem dL_act_414 : decode cL_act 414 = .ok (.goto 8, 3) := by decide +kernel
theorem dL_act_417 : decode cL_act 417 = .ok (.iload 6, 2) := by decide +kernel
theorem dL_act_419 : decode cL_act 419 = .ok (.iload 5, 2) := by decide +kernel
theorem dL_act_421 : decode cL_act 421 = .ok (.iadd, 1) := by decide +kernel
theorem dL_act_422 : decode cL_act 422 = .ok (.istore 9, 2) := by decide +kernel
theorem dL_act_424 : decode cL_act 424 = .ok (.aload_n 0, 1) := by decide +kernel
theorem dL_act_425 : decode cL_act 425 = .ok (.iload 4, 2) := by decide +kernel
theorem dL_act_427 : decode cL_act 427 = .ok (.iload 5, 2) := by decide +kernel
theorem dL_act_429 : decode cL_act 429 = .ok (.invokevirtual 77, 3) := by decide +kernel
theorem dL_act_432 : decode cL_act 432 = .ok (.iload 9, 2) := by decide +kernel
theorem dL_act_434 : decode cL_act 434 = .ok (.if_icmp .ne 84, 3) := by decide +kernel
theorem dL_act_437 : decode cL_act 437 = .ok (.aload_n 0, 1) := by decide +kernel
theorem dL_act_438 : decode cL_act 438 = .ok (.iload 4, 2) := by decide +kernel
theorem dL_act_440 : decode cL_act 440 = .ok (.bipush 9, 2) := by decide +kernel
theorem dL_act_442 : decode cL_act 442 = .ok (.invokevirtual 66, 3) := by decide +kernel
theorem dL_act_445 : decode cL_act 445 = .ok (.iload 9, 2) := by decide +kernel
theorem dL_act_447 : decode cL_act 447 = .ok (.if_icmp .ne 71, 3) := by decide +kernel
theorem dL_act_450 : decode cL_act 450 = .ok (.aload_n 0, 1) := by decide +kernel
theorem dL_act_451 : decode cL_act 451 = .ok (.iload 4, 2) := by decide +kernel
theorem dL_act_453 : decode cL_act 453 = .ok (.iconst 3, 1) := by decide +kernel
theorem dL_act_454 : decode cL_act 454 = .ok (.invokevirtual 73, 3) := by decide +kernel
theorem dL_act_457 : decode cL_act 457 = .ok (.lload 7, 2) := by decide +kernel
theorem dL_act_459 : decode cL_act 459 = .ok (.iload 5, 2) := by decide +kernel
theorem dL_act_461 : decode cL_act 461 = .ok (.aload_n 0, 1) := by decide +kernel
theorem dL_act_462 : decode cL_act 462 = .ok (.bipush 14, 2) := by decide +kernel
theorem dL_act_464 : decode cL_act 464 = .ok (.invokevirtual 60, 3) := by decide +kernel
theorem dL_act_467 : decode cL_act 467 = .ok (.imul, 1) := by decide +kernel
theorem dL_act_468 : decode cL_act 468 = .ok (.i2l, 1) := by decide +kernel
theorem dL_act_469 : decode cL_act 469 = .ok (.ladd, 1) := by decide +kernel
theorem dL_act_470 : decode cL_act 470 = .ok (.lcmp, 1) := by decide +kernel
theorem dL_act_471 : decode cL_act 471 = .ok (.ifCond .ne 47, 3) := by decide +kernel
theorem dL_act_474 : decode cL_act 474 = .ok (.iload 9, 2) := by decide +kernel
theorem dL_act_476 : decode cL_act 476 = .ok (.ifCond .gt 26, 3) := by decide +kernel
theorem dL_act_479 : decode cL_act 479 = .ok (.aload_n 0, 1) := by decide +kernel
theorem dL_act_480 : decode cL_act 480 = .ok (.iload 4, 2) := by decide +kernel
theorem dL_act_482 : decode cL_act 482 = .ok (.bipush 10, 2) := by decide +kernel
theorem dL_act_484 : decode cL_act 484 = .ok (.invokevirtual 66, 3) := by decide +kernel
theorem dL_act_487 : decode cL_act 487 = .ok (.aload_n 0, 1) := by decide +kernel
theorem dL_act_488 : decode cL_act 488 = .ok (.iconst 0, 1) := by decide +kernel
theorem dL_act_489 : decode cL_act 489 = .ok (.invokevirtual 60, 3) := by decide +kernel
theorem dL_act_492 : decode cL_act 492 = .ok (.aload_n 0, 1) := by decide +kernel
theorem dL_act_493 : decode cL_act 493 = .ok (.bipush 12, 2) := by decide +kernel
theorem dL_act_495 : decode cL_act 495 = .ok (.invokevirtual 60, 3) := by decide +kernel
theorem dL_act_498 : decode cL_act 498 = .ok (.iadd, 1) := by decide +kernel
theorem dL_act_499 : decode cL_act 499 = .ok (.if_icmp .ne 19, 3) := by decide +kernel
theorem dL_act_502 : decode cL_act 502 = .ok (.aload_n 0, 1) := by decide +kernel
theorem dL_act_503 : decode cL_act 503 = .ok (.iload 4, 2) := by decide +kernel
theorem dL_act_505 : decode cL_act 505 = .ok (.iconst 0, 1) := by decide +kernel
theorem dL_act_506 : decode cL_act 506 = .ok (.invokevirtual 77, 3) := by decide +kernel
theorem dL_act_509 : decode cL_act 509 = .ok (.bipush (-2), 2) := by decide +kernel
theorem dL_act_511 : decode cL_act 511 = .ok (.if_icmp .ne 7, 3) := by decide +kernel
theorem dL_act_514 : decode cL_act 514 = .ok (.iconst 1, 1) := by decide +kernel
theorem dL_act_515 : decode cL_act 515 = .ok (.goto 4, 3) := by decide +kernel
theorem dL_act_518 : decode cL_act 518 = .ok (.iconst 0, 1) := by decide +kernel
theorem dL_act_519 : decode cL_act 519 = .ok (.ireturn, 1) := by decide +kernel
theorem dL_act_520 : decode cL_act 520 = .ok (.aload_n 0, 1) := by decide +kernel
theorem dL_act_521 : decode cL_act 521 = .ok (.iconst 4, 1) := by decide +kernel
theorem dL_act_522 : decode cL_act 522 = .ok (.invokevirtual 60, 3) := by decide +kernel
theorem dL_act_525 : decode cL_act 525 = .ok (.istore 5, 2) := by decide +kernel
theorem dL_act_527 : decode cL_act 527 = .ok (.aload_n 0, 1) := by decide +kernel
theorem dL_act_528 : decode cL_act 528 = .ok (.iload 4, 2) := by decide +kernel
theorem dL_act_530 : decode cL_act 530 = .ok (.bipush 8, 2) := by decide +kernel
theorem dL_act_532 : decode cL_act 532 = .ok (.invokevirtual 66, 3) := by decide +kernel
theorem dL_act_535 : decode cL_act 535 = .ok (.iconst 1, 1) := by decide +kernel
theorem dL_act_536 : decode cL_act 536 = .ok (.if_icmp .ne 20, 3) := by decide +kernel
theorem dL_act_539 : decode cL_act 539 = .ok (.aload_n 0, 1) := by decide +kernel
theorem dL_act_540 : decode cL_act 540 = .ok (.iload 4, 2) := by decide +kernel
theorem dL_act_542 : decode cL_act 542 = .ok (.invokevirtual 80, 3) := by decide +kernel
theorem dL_act_545 : decode cL_act 545 = .ok (.bipush (-5), 2) := by decide +kernel
theorem dL_act_547 : decode cL_act 547 = .ok (.if_icmp .ne 7, 3) := by decide +kernel
theorem dL_act_550 : decode cL_act 550 = .ok (.iconst 1, 1) := by decide +kernel
theorem dL_act_551 : decode cL_act 551 = .ok (.goto 4, 3) := by decide +kernel
theorem dL_act_554 : decode cL_act 554 = .ok (.iconst 0, 1) := by decide +kernel
theorem dL_act_555 : decode cL_act 555 = .ok (.ireturn, 1) := by decide +kernel
theorem dL_act_556 : decode cL_act 556 = .ok (.aload_n 0, 1) := by decide +kernel
theorem dL_act_557 : decode cL_act 557 = .ok (.iload 4, 2) := by decide +kernel
theorem dL_act_559 : decode cL_act 559 = .ok (.invokevirtual 80, 3) := by decide +kernel
theorem dL_act_562 : decode cL_act 562 = .ok (.iload 5, 2) := by decide +kernel
theorem dL_act_564 : decode cL_act 564 = .ok (.iconst 1, 1) := by decide +kernel
theorem dL_act_565 : decode cL_act 565 = .ok (.iadd, 1) := by decide +kernel
theorem dL_act_566 : decode cL_act 566 = .ok (.if_icmp .ne 30, 3) := by decide +kernel
theorem dL_act_569 : decode cL_act 569 = .ok (.aload_n 0, 1) := by decide +kernel
theorem dL_act_570 : decode cL_act 570 = .ok (.iload 4, 2) := by decide +kernel
theorem dL_act_572 : decode cL_act 572 = .ok (.bipush 8, 2) := by decide +kernel
theorem dL_act_574 : decode cL_act 574 = .ok (.invokevirtual 66, 3) := by decide +kernel
theorem dL_act_577 : decode cL_act 577 = .ok (.iconst 1, 1) := by decide +kernel
theorem dL_act_578 : decode cL_act 578 = .ok (.if_icmp .ne 18, 3) := by decide +kernel
theorem dL_act_581 : decode cL_act 581 = .ok (.aload_n 0, 1) := by decide +kernel
theorem dL_act_582 : decode cL_act 582 = .ok (.iload 4, 2) := by decide +kernel
theorem dL_act_584 : decode cL_act 584 = .ok (.invokevirtual 80, 3) := by decide +kernel
theorem dL_act_587 : decode cL_act 587 = .ok (.bipush (-5), 2) := by decide +kernel
theorem dL_act_589 : decode cL_act 589 = .ok (.if_icmp .ne 7, 3) := by decide +kernel
theorem dL_act_592 : decode cL_act 592 = .ok (.iconst 1, 1) := by decide +kernel
theorem dL_act_593 : decode cL_act 593 = .ok (.goto 4, 3) := by decide +kernel
theorem dL_act_596 : decode cL_act 596 = .ok (.iconst 0, 1) := by decide +kernel
theorem dL_act_597 : decode cL_act 597 = .ok (.ireturn, 1) := by decide +kernel
theorem dL_act_598 : decode cL_act 598 = .ok (.iload_n 3, 1) := by decide +kernel
theorem dL_act_599 : decode cL_act 599 = .ok (.aload_n 0, 1) := by decide +kernel
theorem dL_act_600 : decode cL_act 600 = .ok (.iconst 1, 1) := by decide +kernel
theorem dL_act_601 : decode cL_act 601 = .ok (.invokevirtual 60, 3) := by decide +kernel
theorem dL_act_604 : decode cL_act 604 = .ok (.invokestatic 23, 3) := by decide +kernel
theorem dL_act_607 : decode cL_act 607 = .ok (.istore 5, 2) := by decide +kernel
theorem dL_act_609 : decode cL_act 609 = .ok (.aload_n 0, 1) := by decide +kernel
theorem dL_act_610 : decode cL_act 610 = .ok (.iconst 5, 1) := by decide +kernel
theorem dL_act_611 : decode cL_act 611 = .ok (.invokevirtual 60, 3) := by decide +kernel
theorem dL_act_614 : decode cL_act 614 = .ok (.istore 6, 2) := by decide +kernel
theorem dL_act_616 : decode cL_act 616 = .ok (.iload 4, 2) := by decide +kernel
theorem dL_act_618 : decode cL_act 618 = .ok (.iload 5, 2) := by decide +kernel
theorem dL_act_620 : decode cL_act 620 = .ok (.if_icmp .ne 23, 3) := by decide +kernel
theorem dL_act_623 : decode cL_act 623 = .ok (.aload_n 0, 1) := by decide +kernel
theorem dL_act_624 : decode cL_act 624 = .ok (.iload 4, 2) := by decide +kernel
theorem dL_act_626 : decode cL_act 626 = .ok (.iload 5, 2) := by decide +kernel
theorem dL_act_628 : decode cL_act 628 = .ok (.invokevirtual 83, 3) := by decide +kernel
theorem dL_act_631 : decode cL_act 631 = .ok (.iconst (-1), 1) := by decide +kernel
theorem dL_act_632 : decode cL_act 632 = .ok (.if_icmp .ne 7, 3) := by decide +kernel
theorem dL_act_635 : decode cL_act 635 = .ok (.iconst 1, 1) := by decide +kernel
theorem dL_act_636 : decode cL_act 636 = .ok (.goto 67, 3) := by decide +kernel
theorem dL_act_639 : decode cL_act 639 = .ok (.iconst 0, 1) := by decide +kernel
theorem dL_act_640 : decode cL_act 640 = .ok (.goto 63, 3) := by decide +kernel
theorem dL_act_643 : decode cL_act 643 = .ok (.iload 6, 2) := by decide +kernel
theorem dL_act_645 : decode cL_act 645 = .ok (.bipush 8, 2) := by decide +kernel
theorem dL_act_647 : decode cL_act 647 = .ok (.if_icmp .ne 24, 3) := by decide +kernel
theorem dL_act_650 : decode cL_act 650 = .ok (.aload_n 0, 1) := by decide +kernel
theorem dL_act_651 : decode cL_act 651 = .ok (.iload 4, 2) := by decide +kernel
theorem dL_act_653 : decode cL_act 653 = .ok (.iload 5, 2) := by decide +kernel
theorem dL_act_655 : decode cL_act 655 = .ok (.invokevirtual 83, 3) := by decide +kernel
theorem dL_act_658 : decode cL_act 658 = .ok (.bipush (-4), 2) := by decide +kernel
theorem dL_act_660 : decode cL_act 660 = .ok (.if_icmp .ne 7, 3) := by decide +kernel
theorem dL_act_663 : decode cL_act 663 = .ok (.iconst 1, 1) := by decide +kernel
theorem dL_act_664 : decode cL_act 664 = .ok (.goto 39, 3) := by decide +kernel
theorem dL_act_667 : decode cL_act 667 = .ok (.iconst 0, 1) := by decide +kernel
theorem dL_act_668 : decode cL_act 668 = .ok (.goto 35, 3) := by decide +kernel
theorem dL_act_671 : decode cL_act 671 = .ok (.aload_n 0, 1) := by decide +kernel
theorem dL_act_672 : decode cL_act 672 = .ok (.iload 4, 2) := by decide +kernel
theorem dL_act_674 : decode cL_act 674 = .ok (.iload 5, 2) := by decide +kernel
theorem dL_act_676 : decode cL_act 676 = .ok (.invokevirtual 83, 3) := by decide +kernel
theorem dL_act_679 : decode cL_act 679 = .ok (.iload 6, 2) := by decide +kernel
theorem dL_act_681 : decode cL_act 681 = .ok (.iconst 1, 1) := by decide +kernel
theorem dL_act_682 : decode cL_act 682 = .ok (.iadd, 1) := by decide +kernel
theorem dL_act_683 : decode cL_act 683 = .ok (.if_icmp .ne 19, 3) := by decide +kernel
theorem dL_act_686 : decode cL_act 686 = .ok (.aload_n 0, 1) := by decide +kernel
theorem dL_act_687 : decode cL_act 687 = .ok (.iconst 5, 1) := by decide +kernel
theorem dL_act_688 : decode cL_act 688 = .ok (.invokevirtual 60, 3) := by decide +kernel
theorem dL_act_691 : decode cL_act 691 = .ok (.iload 6, 2) := by decide +kernel
theorem dL_act_693 : decode cL_act 693 = .ok (.iconst 1, 1) := by decide +kernel
theorem dL_act_694 : decode cL_act 694 = .ok (.iadd, 1) := by decide +kernel
theorem dL_act_695 : decode cL_act 695 = .ok (.if_icmp .ne 7, 3) := by decide +kernel
theorem dL_act_698 : decode cL_act 698 = .ok (.iconst 1, 1) := by decide +kernel
theorem dL_act_699 : decode cL_act 699 = .ok (.goto 4, 3) := by decide +kernel
theorem dL_act_702 : decode cL_act 702 = .ok (.iconst 0, 1) := by decide +kernel
theorem dL_act_703 : decode cL_act 703 = .ok (.ireturn, 1) := by decide +kernel
theorem dL_act_704 : decode cL_act 704 = .ok (.iconst 1, 1) := by decide +kernel
theorem dL_act_705 : decode cL_act 705 = .ok (.iload_n 3, 1) := by decide +kernel
theorem dL_act_706 : decode cL_act 706 = .ok (.ldc 86, 2) := by decide +kernel
theorem dL_act_708 : decode cL_act 708 = .ok (.invokestatic 23, 3) := by decide +kernel
theorem dL_act_711 : decode cL_act 711 = .ok (.iadd, 1) := by decide +kernel
theorem dL_act_712 : decode cL_act 712 = .ok (.istore 5, 2) := by decide +kernel
theorem dL_act_714 : decode cL_act 714 = .ok (.aload_n 0, 1) := by decide +kernel
theorem dL_act_715 : decode cL_act 715 = .ok (.iload 4, 2) := by decide +kernel
theorem dL_act_717 : decode cL_act 717 = .ok (.iconst 0, 1) := by decide +kernel
theorem dL_act_718 : decode cL_act 718 = .ok (.invokevirtual 73, 3) := by decide +kernel
theorem dL_act_721 : decode cL_act 721 = .ok (.lstore 6, 2) := by decide +kernel
theorem dL_act_723 : decode cL_act 723 = .ok (.aload_n 0, 1) := by decide +kernel
theorem dL_act_724 : decode cL_act 724 = .ok (.iload 4, 2) := by decide +kernel
theorem dL_act_726 : decode cL_act 726 = .ok (.iload 5, 2) := by decide +kernel
theorem dL_act_728 : decode cL_act 728 = .ok (.invokevirtual 87, 3) := by decide +kernel
theorem dL_act_731 : decode cL_act 731 = .ok (.lload 6, 2) := by decide +kernel
theorem dL_act_733 : decode cL_act 733 = .ok (.iload 5, 2) := by decide +kernel
theorem dL_act_735 : decode cL_act 735 = .ok (.i2l, 1) := by decide +kernel
theorem dL_act_736 : decode cL_act 736 = .ok (.ladd, 1) := by decide +kernel
theorem dL_act_737 : decode cL_act 737 = .ok (.lconst 0, 1) := by decide +kernel
theorem dL_act_738 : decode cL_act 738 = .ok (.lcmp, 1) := by decide +kernel
theorem dL_act_739 : decode cL_act 739 = .ok (.ifCond .lt 7, 3) := by decide +kernel
theorem dL_act_742 : decode cL_act 742 = .ok (.iconst 1, 1) := by decide +kernel
theorem dL_act_743 : decode cL_act 743 = .ok (.goto 4, 3) := by decide +kernel
theorem dL_act_746 : decode cL_act 746 = .ok (.iconst 0, 1) := by decide +kernel
theorem dL_act_747 : decode cL_act 747 = .ok (.if_icmp .ne 36, 3) := by decide +kernel
theorem dL_act_750 : decode cL_act 750 = .ok (.aload_n 0, 1) := by decide +kernel
theorem dL_act_751 : decode cL_act 751 = .ok (.iload 4, 2) := by decide +kernel
theorem dL_act_753 : decode cL_act 753 = .ok (.iconst 0, 1) := by decide +kernel
theorem dL_act_754 : decode cL_act 754 = .ok (.invokevirtual 73, 3) := by decide +kernel
theorem dL_act_757 : decode cL_act 757 = .ok (.lload 6, 2) := by decide +kernel
theorem dL_act_759 : decode cL_act 759 = .ok (.iload 5, 2) := by decide +kernel
theorem dL_act_761 : decode cL_act 761 = .ok (.i2l, 1) := by decide +kernel
theorem dL_act_762 : decode cL_act 762 = .ok (.ladd, 1) := by decide +kernel
theorem dL_act_763 : decode cL_act 763 = .ok (.lcmp, 1) := by decide +kernel
theorem dL_act_764 : decode cL_act 764 = .ok (.ifCond .ne 19, 3) := by decide +kernel
theorem dL_act_767 : decode cL_act 767 = .ok (.aload_n 0, 1) := by decide +kernel
theorem dL_act_768 : decode cL_act 768 = .ok (.iload 4, 2) := by decide +kernel
theorem dL_act_770 : decode cL_act 770 = .ok (.iconst 0, 1) := by decide +kernel
theorem dL_act_771 : decode cL_act 771 = .ok (.invokevirtual 87, 3) := by decide +kernel
theorem dL_act_774 : decode cL_act 774 = .ok (.bipush (-2), 2) := by decide +kernel
theorem dL_act_776 : decode cL_act 776 = .ok (.if_icmp .ne 7, 3) := by decide +kernel
theorem dL_act_779 : decode cL_act 779 = .ok (.iconst 1, 1) := by decide +kernel
theorem dL_act_780 : decode cL_act 780 = .ok (.goto 4, 3) := by decide +kernel
theorem dL_act_783 : decode cL_act 783 = .ok (.iconst 0, 1) := by decide +kernel
theorem dL_act_784 : decode cL_act 784 = .ok (.ireturn, 1) := by decide +kernel
theorem dL_act_785 : decode cL_act 785 = .ok (.iload_n 3, 1) := by decide +kernel
theorem dL_act_786 : decode cL_act 786 = .ok (.aload_n 0, 1) := by decide +kernel
theorem dL_act_787 : decode cL_act 787 = .ok (.iconst 2, 1) := by decide +kernel
theorem dL_act_788 : decode cL_act 788 = .ok (.invokevirtual 60, 3) := by decide +kernel
theorem dL_act_791 : decode cL_act 791 = .ok (.invokestatic 23, 3) := by decide +kernel
theorem dL_act_794 : decode cL_act 794 = .ok (.istore 5, 2) := by decide +kernel
theorem dL_act_796 : decode cL_act 796 = .ok (.aload_n 0, 1) := by decide +kernel
theorem dL_act_797 : decode cL_act 797 = .ok (.iload 5, 2) := by decide +kernel
theorem dL_act_799 : decode cL_act 799 = .ok (.iconst 0, 1) := by decide +kernel
theorem dL_act_800 : decode cL_act 800 = .ok (.invokevirtual 90, 3) := by decide +kernel
theorem dL_act_803 : decode cL_act 803 = .ok (.istore 6, 2) := by decide +kernel
theorem dL_act_805 : decode cL_act 805 = .ok (.aload_n 0, 1) := by decide +kernel
theorem dL_act_806 : decode cL_act 806 = .ok (.iload 5, 2) := by decide +kernel
theorem dL_act_808 : decode cL_act 808 = .ok (.iload_n 3, 1) := by decide +kernel
theorem dL_act_809 : decode cL_act 809 = .ok (.iconst 4, 1) := by decide +kernel
theorem dL_act_810 : decode cL_act 810 = .ok (.ishr, 1) := by decide +kernel
theorem dL_act_811 : decode cL_act 811 = .ok (.sipush 20001, 3) := by decide +kernel
theorem dL_act_814 : decode cL_act 814 = .ok (.invokestatic 23, 3) := by decide +kernel
theorem dL_act_817 : decode cL_act 817 = .ok (.invokevirtual 93, 3) := by decide +kernel
theorem dL_act_820 : decode cL_act 820 = .ok (.iload 6, 2) := by decide +kernel
theorem dL_act_822 : decode cL_act 822 = .ok (.if_icmp .ne 40, 3) := by decide +kernel
theorem dL_act_825 : decode cL_act 825 = .ok (.aload_n 0, 1) := by decide +kernel
theorem dL_act_826 : decode cL_act 826 = .ok (.iload 5, 2) := by decide +kernel
theorem dL_act_828 : decode cL_act 828 = .ok (.iconst 0, 1) := by decide +kernel
theorem dL_act_829 : decode cL_act 829 = .ok (.invokevirtual 90, 3) := by decide +kernel
theorem dL_act_832 : decode cL_act 832 = .ok (.iload_n 3, 1) := by decide +kernel
theorem dL_act_833 : decode cL_act 833 = .ok (.iconst 4, 1) := by decide +kernel
theorem dL_act_834 : decode cL_act 834 = .ok (.ishr, 1) := by decide +kernel
theorem dL_act_835 : decode cL_act 835 = .ok (.sipush 20001, 3) := by decide +kernel
theorem dL_act_838 : decode cL_act 838 = .ok (.invokestatic 23, 3) := by decide +kernel
theorem dL_act_841 : decode cL_act 841 = .ok (.if_icmp .ne 21, 3) := by decide +kernel
theorem dL_act_844 : decode cL_act 844 = .ok (.aload_n 0, 1) := by decide +kernel
theorem dL_act_845 : decode cL_act 845 = .ok (.iload 5, 2) := by decide +kernel
theorem dL_act_847 : decode cL_act 847 = .ok (.sipush 20001, 3) := by decide +kernel
theorem dL_act_850 : decode cL_act 850 = .ok (.invokevirtual 93, 3) := by decide +kernel
theorem dL_act_853 : decode cL_act 853 = .ok (.bipush (-2), 2) := by decide +kernel
theorem dL_act_855 : decode cL_act 855 = .ok (.if_icmp .ne 7, 3) := by decide +kernel
theorem dL_act_858 : decode cL_act 858 = .ok (.iconst 1, 1) := by decide +kernel
theorem dL_act_859 : decode cL_act 859 = .ok (.goto 4, 3) := by decide +kernel
theorem dL_act_862 : decode cL_act 862 = .ok (.iconst 0, 1) := by decide +kernel
theorem dL_act_863 : decode cL_act 863 = .ok (.ireturn, 1) := by decide +kernel
theorem dL_act_864 : decode cL_act 864 = .ok (.aload_n 0, 1) := by decide +kernel
theorem dL_act_865 : decode cL_act 865 = .ok (.iconst 3, 1) := by decide +kernel
theorem dL_act_866 : decode cL_act 866 = .ok (.invokevirtual 60, 3) := by decide +kernel
theorem dL_act_869 : decode cL_act 869 = .ok (.istore 5, 2) := by decide +kernel
theorem dL_act_871 : decode cL_act 871 = .ok (.iload_n 2, 1) := by decide +kernel
theorem dL_act_872 : decode cL_act 872 = .ok (.iconst 2, 1) := by decide +kernel
theorem dL_act_873 : decode cL_act 873 = .ok (.invokestatic 23, 3) := by decide +kernel
theorem dL_act_876 : decode cL_act 876 = .ok (.ifCond .ne 9, 3) := by decide +kernel
theorem dL_act_879 : decode cL_act 879 = .ok (.aload_n 0, 1) := by decide +kernel
theorem dL_act_880 : decode cL_act 880 = .ok (.iload_n 3, 1) := by decide +kernel
theorem dL_act_881 : decode cL_act 881 = .ok (.invokestatic 31, 3) := by decide +kernel
theorem dL_act_884 : decode cL_act 884 = .ok (.ireturn, 1) := by decide +kernel
theorem dL_act_885 : decode cL_act 885 = .ok (.aload_n 0, 1) := by decide +kernel
theorem dL_act_886 : decode cL_act 886 = .ok (.iload_n 3, 1) := by decide +kernel
theorem dL_act_887 : decode cL_act 887 = .ok (.ldc 22, 2) := by decide +kernel
theorem dL_act_889 : decode cL_act 889 = .ok (.invokestatic 23, 3) := by decide +kernel
theorem dL_act_892 : decode cL_act 892 = .ok (.invokevirtual 27, 3) := by decide +kernel
theorem dL_act_895 : decode cL_act 895 = .ok (.iload 5, 2) := by decide +kernel
theorem dL_act_897 : decode cL_act 897 = .ok (.if_icmp .ne 32, 3) := by decide +kernel
theorem dL_act_900 : decode cL_act 900 = .ok (.aload_n 0, 1) := by decide +kernel
theorem dL_act_901 : decode cL_act 901 = .ok (.iconst 3, 1) := by decide +kernel
theorem dL_act_902 : decode cL_act 902 = .ok (.invokevirtual 60, 3) := by decide +kernel
theorem dL_act_905 : decode cL_act 905 = .ok (.iload_n 3, 1) := by decide +kernel
theorem dL_act_906 : decode cL_act 906 = .ok (.ldc 22, 2) := by decide +kernel
theorem dL_act_908 : decode cL_act 908 = .ok (.invokestatic 23, 3) := by decide +kernel
theorem dL_act_911 : decode cL_act 911 = .ok (.if_icmp .ne 18, 3) := by decide +kernel
theorem dL_act_914 : decode cL_act 914 = .ok (.aload_n 0, 1) := by decide +kernel
theorem dL_act_915 : decode cL_act 915 = .ok (.ldc 22, 2) := by decide +kernel
theorem dL_act_917 : decode cL_act 917 = .ok (.invokevirtual 27, 3) := by decide +kernel
theorem dL_act_920 : decode cL_act 920 = .ok (.bipush (-2), 2) := by decide +kernel
theorem dL_act_922 : decode cL_act 922 = .ok (.if_icmp .ne 7, 3) := by decide +kernel
theorem dL_act_925 : decode cL_act 925 = .ok (.iconst 1, 1) := by decide +kernel
theorem dL_act_926 : decode cL_act 926 = .ok (.goto 4, 3) := by decide +kernel
theorem dL_act_929 : decode cL_act 929 = .ok (.iconst 0, 1) := by decide +kernel
theorem dL_act_930 : decode cL_act 930 = .ok (.ireturn, 1) := by decide +kernel
theorem dL_act_931 : decode cL_act 931 = .ok (.iconst 1, 1) := by decide +kernel
theorem dL_act_932 : decode cL_act 932 = .ok (.iload_n 2, 1) := by decide +kernel
theorem dL_act_933 : decode cL_act 933 = .ok (.iload_n 3, 1) := by decide +kernel
theorem dL_act_934 : decode cL_act 934 = .ok (.bipush 6, 2) := by decide +kernel
theorem dL_act_936 : decode cL_act 936 = .ok (.invokestatic 23, 3) := by decide +kernel
theorem dL_act_939 : decode cL_act 939 = .ok (.ifCond .ne 8, 3) := by decide +kernel
theorem dL_act_942 : decode cL_act 942 = .ok (.bipush 30, 2) := by decide +kernel
theorem dL_act_944 : decode cL_act 944 = .ok (.goto 4, 3) := by decide +kernel
theorem dL_act_947 : decode cL_act 947 = .ok (.iconst 4, 1) := by decide +kernel
theorem dL_act_948 : decode cL_act 948 = .ok (.invokestatic 23, 3) := by decide +kernel
theorem dL_act_951 : decode cL_act 951 = .ok (.iadd, 1) := by decide +kernel
theorem dL_act_952 : decode cL_act 952 = .ok (.istore 5, 2) := by decide +kernel
theorem dL_act_954 : decode cL_act 954 = .ok (.aload_n 0, 1) := by decide +kernel
theorem dL_act_955 : decode cL_act 955 = .ok (.iconst 0, 1) := by decide +kernel
theorem dL_act_956 : decode cL_act 956 = .ok (.invokevirtual 60, 3) := by decide +kernel
theorem dL_act_959 : decode cL_act 959 = .ok (.istore 6, 2) := by decide +kernel
theorem dL_act_961 : decode cL_act 961 = .ok (.aload_n 0, 1) := by decide +kernel
theorem dL_act_962 : decode cL_act 962 = .ok (.iload 5, 2) := by decide +kernel
theorem dL_act_964 : decode cL_act 964 = .ok (.invokevirtual 96, 3) := by decide +kernel
theorem dL_act_967 : decode cL_act 967 = .ok (.iload 6, 2) := by decide +kernel
theorem dL_act_969 : decode cL_act 969 = .ok (.iload 5, 2) := by decide +kernel
theorem dL_act_971 : decode cL_act 971 = .ok (.iadd, 1) := by decide +kernel
theorem dL_act_972 : decode cL_act 972 = .ok (.if_icmp .ne 28, 3) := by decide +kernel
theorem dL_act_975 : decode cL_act 975 = .ok (.aload_n 0, 1) := by decide +kernel
theorem dL_act_976 : decode cL_act 976 = .ok (.iconst 0, 1) := by decide +kernel
theorem dL_act_977 : decode cL_act 977 = .ok (.invokevirtual 60, 3) := by decide +kernel
theorem dL_act_980 : decode cL_act 980 = .ok (.iload 6, 2) := by decide +kernel
theorem dL_act_982 : decode cL_act 982 = .ok (.iload 5, 2) := by decide +kernel
theorem dL_act_984 : decode cL_act 984 = .ok (.iadd, 1) := by decide +kernel
theorem dL_act_985 : decode cL_act 985 = .ok (.if_icmp .ne 15, 3) := by decide +kernel
theorem dL_act_988 : decode cL_act 988 = .ok (.aload_n 0, 1) := by decide +kernel
theorem dL_act_989 : decode cL_act 989 = .ok (.iconst 5, 1) := by decide +kernel
theorem dL_act_990 : decode cL_act 990 = .ok (.invokevirtual 60, 3) := by decide +kernel
theorem dL_act_993 : decode cL_act 993 = .ok (.ifCond .ne 7, 3) := by decide +kernel
theorem dL_act_996 : decode cL_act 996 = .ok (.iconst 1, 1) := by decide +kernel
theorem dL_act_997 : decode cL_act 997 = .ok (.goto 4, 3) := by decide +kernel
theorem dL_act_1000 : decode cL_act 1000 = .ok (.iconst 0, 1) := by decide +kernel
theorem dL_act_1001 : decode cL_act 1001 = .ok (.ireturn, 1) := by decide +kernel
theorem dL_act_1002 : decode cL_act 1002 = .ok (.aload_n 0, 1) := by decide +kernel
theorem dL_act_1003 : decode cL_act 1003 = .ok (.iload_n 2, 1) := by decide +kernel
theorem dL_act_1004 : decode cL_act 1004 = .ok (.iload_n 3, 1) := by decide +kernel
theorem dL_act_1005 : decode cL_act 1005 = .ok (.invokestatic 99, 3) := by decide +kernel
theorem dL_act_1008 : decode cL_act 1008 = .ok (.ireturn, 1) := by decide +kernel
theorem dL_number_0 : decode cL_number 0 = .ok (.iload_n 1, 1) := by decide +kernel
theorem dL_number_1 : decode cL_number 1 = .ok (.bipush 9, 2) := by decide +kernel
theorem dL_number_3 : decode cL_number 3 = .ok (.if_icmp .le 16, 3) := by decide +kernel
theorem dL_number_6 : decode cL_number 6 = .ok (.aload_n 0, 1) := by decide +kernel
theorem dL_number_7 : decode cL_number 7 = .ok (.bipush 48, 2) := by decide +kernel
theorem dL_number_9 : decode cL_number 9 = .ok (.iload_n 1, 1) := by decide +kernel
theorem dL_number_10 : decode cL_number 10 = .ok (.bipush 10, 2) := by decide +kernel
theorem dL_number_12 : decode cL_number 12 = .ok (.idiv, 1) := by decide +kernel
theorem dL_number_13 : decode cL_number 13 = .ok (.iadd, 1) := by decide +kernel
theorem dL_number_14 : decode cL_number 14 = .ok (.i2l, 1) := by decide +kernel
theorem dL_number_15 : decode cL_number 15 = .ok (.invokevirtual 103, 3) := by decide +kernel
theorem dL_number_18 : decode cL_number 18 = .ok (.pop, 1) := by decide +kernel
theorem dL_number_19 : decode cL_number 19 = .ok (.aload_n 0, 1) := by decide +kernel
theorem dL_number_20 : decode cL_number 20 = .ok (.bipush 48, 2) := by decide +kernel
theorem dL_number_22 : decode cL_number 22 = .ok (.iload_n 1, 1) := by decide +kernel
theorem dL_number_23 : decode cL_number 23 = .ok (.bipush 10, 2) := by decide +kernel
theorem dL_number_25 : decode cL_number 25 = .ok (.irem, 1) := by decide +kernel
theorem dL_number_26 : decode cL_number 26 = .ok (.iadd, 1) := by decide +kernel
theorem dL_number_27 : decode cL_number 27 = .ok (.i2l, 1) := by decide +kernel
theorem dL_number_28 : decode cL_number 28 = .ok (.invokevirtual 103, 3) := by decide +kernel
theorem dL_number_31 : decode cL_number 31 = .ok (.pop, 1) := by decide +kernel
theorem dL_number_32 : decode cL_number 32 = .ok (.return_, 1) := by decide +kernel
theorem dL_text_0 : decode cL_text 0 = .ok (.iconst 1, 1) := by decide +kernel
theorem dL_text_1 : decode cL_text 1 = .ok (.iload_n 1, 1) := by decide +kernel
theorem dL_text_2 : decode cL_text 2 = .ok (.iconst 5, 1) := by decide +kernel
theorem dL_text_3 : decode cL_text 3 = .ok (.invokestatic 23, 3) := by decide +kernel
theorem dL_text_6 : decode cL_text 6 = .ok (.iadd, 1) := by decide +kernel
theorem dL_text_7 : decode cL_text 7 = .ok (.istore_n 3, 1) := by decide +kernel
theorem dL_text_8 : decode cL_text 8 = .ok (.bipush 40, 2) := by decide +kernel
theorem dL_text_10 : decode cL_text 10 = .ok (.newarray .int, 2) := by decide +kernel
theorem dL_text_12 : decode cL_text 12 = .ok (.astore 4, 2) := by decide +kernel
theorem dL_text_14 : decode cL_text 14 = .ok (.aload_n 0, 1) := by decide +kernel
theorem dL_text_15 : decode cL_text 15 = .ok (.invokevirtual 107, 3) := by decide +kernel
theorem dL_text_18 : decode cL_text 18 = .ok (.pop, 1) := by decide +kernel
theorem dL_text_19 : decode cL_text 19 = .ok (.aload_n 0, 1) := by decide +kernel
theorem dL_text_20 : decode cL_text 20 = .ok (.invokevirtual 111, 3) := by decide +kernel
theorem dL_text_23 : decode cL_text 23 = .ok (.ifCond .ne 12, 3) := by decide +kernel
theorem dL_text_26 : decode cL_text 26 = .ok (.aload_n 0, 1) := by decide +kernel
theorem dL_text_27 : decode cL_text 27 = .ok (.invokevirtual 114, 3) := by decide +kernel
theorem dL_text_30 : decode cL_text 30 = .ok (.bipush (-3), 2) := by decide +kernel
theorem dL_text_32 : decode cL_text 32 = .ok (.if_icmp .eq 5, 3) := by decide +kernel
theorem dL_text_35 : decode cL_text 35 = .ok (.iconst 0, 1) := by decide +kernel
theorem dL_text_36 : decode cL_text 36 = .ok (.ireturn, 1) := by decide +kernel
theorem dL_text_37 : decode cL_text 37 = .ok (.iconst 0, 1) := by decide +kernel
theorem dL_text_38 : decode cL_text 38 = .ok (.istore 5, 2) := by decide +kernel
theorem dL_text_40 : decode cL_text 40 = .ok (.iload 5, 2) := by decide +kernel
theorem dL_text_42 : decode cL_text 42 = .ok (.iload_n 3, 1) := by decide +kernel
theorem dL_text_43 : decode cL_text 43 = .ok (.if_icmp .ge 482, 3) := by decide +kernel
theorem dL_text_46 : decode cL_text 46 = .ok (.iload_n 1, 1) := by decide +kernel
theorem dL_text_47 : decode cL_text 47 = .ok (.iconst 3, 1) := by decide +kernel
theorem dL_text_48 : decode cL_text 48 = .ok (.ishr, 1) := by decide +kernel
theorem dL_text_49 : decode cL_text 49 = .ok (.bipush 37, 2) := by decide +kernel
theorem dL_text_51 : decode cL_text 51 = .ok (.iload 5, 2) := by decide +kernel
theorem dL_text_53 : decode cL_text 53 = .ok (.imul, 1) := by decide +kernel
theorem dL_text_54 : decode cL_text 54 = .ok (.iadd, 1) := by decide +kernel
theorem dL_text_55 : decode cL_text 55 = .ok (.istore 6, 2) := by decide +kernel
theorem dL_text_57 : decode cL_text 57 = .ok (.iload_n 2, 1) := by decide +kernel
theorem dL_text_58 : decode cL_text 58 = .ok (.iload 5, 2) := by decide +kernel
theorem dL_text_60 : decode cL_text 60 = .ok (.ishr, 1) := by decide +kernel
theorem dL_text_61 : decode cL_text 61 = .ok (.bipush 11, 2) := by decide +kernel
theorem dL_text_63 : decode cL_text 63 = .ok (.iload 5, 2) := by decide +kernel
theorem dL_text_65 : decode cL_text 65 = .ok (.imul, 1) := by decide +kernel
theorem dL_text_66 : decode cL_text 66 = .ok (.iadd, 1) := by decide +kernel
theorem dL_text_67 : decode cL_text 67 = .ok (.istore 7, 2) := by decide +kernel
theorem dL_text_69 : decode cL_text 69 = .ok (.bipush 8, 2) := by decide +kernel
theorem dL_text_71 : decode cL_text 71 = .ok (.iload 5, 2) := by decide +kernel
theorem dL_text_73 : decode cL_text 73 = .ok (.imul, 1) := by decide +kernel
theorem dL_text_74 : decode cL_text 74 = .ok (.istore 8, 2) := by decide +kernel
theorem dL_text_76 : decode cL_text 76 = .ok (.aload 4, 2) := by decide +kernel
theorem dL_text_78 : decode cL_text 78 = .ok (.iload 8, 2) := by decide +kernel
theorem dL_text_80 : decode cL_text 80 = .ok (.iload 6, 2) := by decide +kernel
theorem dL_text_82 : decode cL_text 82 = .ok (.iconst 5, 1) := by decide +kernel
theorem dL_text_83 : decode cL_text 83 = .ok (.invokestatic 23, 3) := by decide +kernel
theorem dL_text_86 : decode cL_text 86 = .ok (.iastore, 1) := by decide +kernel
theorem dL_text_87 : decode cL_text 87 = .ok (.aload 4, 2) := by decide +kernel
theorem dL_text_89 : decode cL_text 89 = .ok (.iload 8, 2) := by decide +kernel
theorem dL_text_91 : decode cL_text 91 = .ok (.iconst 1, 1) := by decide +kernel
theorem dL_text_92 : decode cL_text 92 = .ok (.iadd, 1) := by decide +kernel
theorem dL_text_93 : decode cL_text 93 = .ok (.iload 6, 2) := by decide +kernel
theorem dL_text_95 : decode cL_text 95 = .ok (.iconst 3, 1) := by decide +kernel
theorem dL_text_96 : decode cL_text 96 = .ok (.ishr, 1) := by decide +kernel
theorem dL_text_97 : decode cL_text 97 = .ok (.bipush 9, 2) := by decide +kernel
theorem dL_text_99 : decode cL_text 99 = .ok (.invokestatic 23, 3) := by decide +kernel
theorem dL_text_102 : decode cL_text 102 = .ok (.iastore, 1) := by decide +kernel
theorem dL_text_103 : decode cL_text 103 = .ok (.aload 4, 2) := by decide +kernel
theorem dL_text_105 : decode cL_text 105 = .ok (.iload 8, 2) := by decide +kernel
theorem dL_text_107 : decode cL_text 107 = .ok (.iconst 2, 1) := by decide +kernel
theorem dL_text_108 : decode cL_text 108 = .ok (.iadd, 1) := by decide +kernel
theorem dL_text_109 : decode cL_text 109 = .ok (.iload 7, 2) := by decide +kernel
theorem dL_text_111 : decode cL_text 111 = .ok (.aload 4, 2) := by decide +kernel
theorem dL_text_113 : decode cL_text 113 = .ok (.iload 8, 2) := by decide +kernel
theorem dL_text_115 : decode cL_text 115 = .ok (.iaload, 1) := by decide +kernel
theorem dL_text_116 : decode cL_text 116 = .ok (.iconst 1, 1) := by decide +kernel
theorem dL_text_117 : decode cL_text 117 = .ok (.if_icmp .ne 8, 3) := by decide +kernel
theorem dL_text_120 : decode cL_text 120 = .ok (.bipush 9, 2) := by decide +kernel
theorem dL_text_122 : decode cL_text 122 = .ok (.goto 5, 3) := by decide +kernel
theorem dL_text_125 : decode cL_text 125 = .ok (.bipush 10, 2) := by decide +kernel
theorem dL_text_127 : decode cL_text 127 = .ok (.invokestatic 23, 3) := by decide +kernel
theorem dL_text_130 : decode cL_text 130 = .ok (.iastore, 1) := by decide +kernel
theorem dL_text_131 : decode cL_text 131 = .ok (.aload 4, 2) := by decide +kernel
theorem dL_text_133 : decode cL_text 133 = .ok (.iload 8, 2) := by decide +kernel
theorem dL_text_135 : decode cL_text 135 = .ok (.iconst 3, 1) := by decide +kernel
theorem dL_text_136 : decode cL_text 136 = .ok (.iadd, 1) := by decide +kernel
theorem dL_text_137 : decode cL_text 137 = .ok (.iload 7, 2) := by decide +kernel
theorem dL_text_139 : decode cL_text 139 = .ok (.iconst 4, 1) := by decide +kernel
theorem dL_text_140 : decode cL_text 140 = .ok (.ishr, 1) := by decide +kernel
theorem dL_text_141 : decode cL_text 141 = .ok (.bipush 10, 2) := by decide +kernel
theorem dL_text_143 : decode cL_text 143 = .ok (.invokestatic 23, 3) := by decide +kernel
theorem dL_text_146 : decode cL_text 146 = .ok (.iastore, 1) := by decide +kernel
theorem dL_text_147 : decode cL_text 147 = .ok (.aload 4, 2) := by decide +kernel
theorem dL_text_149 : decode cL_text 149 = .ok (.iload 8, 2) := by decide +kernel
theorem dL_text_151 : decode cL_text 151 = .ok (.iconst 4, 1) := by decide +kernel
theorem dL_text_152 : decode cL_text 152 = .ok (.iadd, 1) := by decide +kernel
theorem dL_text_153 : decode cL_text 153 = .ok (.iload 7, 2) := by decide +kernel
theorem dL_text_155 : decode cL_text 155 = .ok (.bipush 8, 2) := by decide +kernel
theorem dL_text_157 : decode cL_text 157 = .ok (.ishr, 1) := by decide +kernel
theorem dL_text_158 : decode cL_text 158 = .ok (.iconst 4, 1) := by decide +kernel
theorem dL_text_159 : decode cL_text 159 = .ok (.invokestatic 23, 3) := by decide +kernel
theorem dL_text_162 : decode cL_text 162 = .ok (.iastore, 1) := by decide +kernel
theorem dL_text_163 : decode cL_text 163 = .ok (.iload 5, 2) := by decide +kernel
theorem dL_text_165 : decode cL_text 165 = .ok (.ifCond .le 11, 3) := by decide +kernel
theorem dL_text_168 : decode cL_text 168 = .ok (.aload_n 0, 1) := by decide +kernel
theorem dL_text_169 : decode cL_text 169 = .ok (.ldc2_w 117, 3) := by decide +kernel
theorem dL_text_172 : decode cL_text 172 = .ok (.invokevirtual 103, 3) := by decide +kernel
theorem dL_text_175 : decode cL_text 175 = .ok (.pop, 1) := by decide +kernel
theorem dL_text_176 : decode cL_text 176 = .ok (.aload_n 0, 1) := by decide +kernel
theorem dL_text_177 : decode cL_text 177 = .ok (.invokevirtual 111, 3) := by decide +kernel
theorem dL_text_180 : decode cL_text 180 = .ok (.aload_n 0, 1) := by decide +kernel
theorem dL_text_181 : decode cL_text 181 = .ok (.bipush 6, 2) := by decide +kernel
theorem dL_text_183 : decode cL_text 183 = .ok (.invokevirtual 60, 3) := by decide +kernel
theorem dL_text_186 : decode cL_text 186 = .ok (.if_icmp .eq 5, 3) := by decide +kernel
theorem dL_text_189 : decode cL_text 189 = .ok (.iconst 0, 1) := by decide +kernel
theorem dL_text_190 : decode cL_text 190 = .ok (.ireturn, 1) := by decide +kernel
theorem dL_text_191 : decode cL_text 191 = .ok (.aload_n 0, 1) := by decide +kernel
theorem dL_text_192 : decode cL_text 192 = .ok (.aload 4, 2) := by decide +kernel
theorem dL_text_194 : decode cL_text 194 = .ok (.iload 8, 2) := by decide +kernel
theorem dL_text_196 : decode cL_text 196 = .ok (.iaload, 1) := by decide +kernel
theorem dL_text_197 : decode cL_text 197 = .ok (.ifCond .ne 9, 3) := by decide +kernel
theorem dL_text_200 : decode cL_text 200 = .ok (.ldc2_w 119, 3) := by decide +kernel
theorem dL_text_203 : decode cL_text 203 = .ok (.goto 51, 3) := by decide +kernel
theorem dL_text_206 : decode cL_text 206 = .ok (.aload 4, 2) := by decide +kernel
theorem dL_text_208 : decode cL_text 208 = .ok (.iload 8, 2) := by decide +kernel
theorem dL_text_210 : decode cL_text 210 = .ok (.iaload, 1) := by decide +kernel
theorem dL_text_211 : decode cL_text 211 = .ok (.iconst 1, 1) := by decide +kernel
theorem dL_text_212 : decode cL_text 212 = .ok (.if_icmp .ne 9, 3) := by decide +kernel
theorem dL_text_215 : decode cL_text 215 = .ok (.ldc2_w 121, 3) := by decide +kernel
theorem dL_text_218 : decode cL_text 218 = .ok (.goto 36, 3) := by decide +kernel
theorem dL_text_221 : decode cL_text 221 = .ok (.aload 4, 2) := by decide +kernel
theorem dL_text_223 : decode cL_text 223 = .ok (.iload 8, 2) := by decide +kernel
theorem dL_text_225 : decode cL_text 225 = .ok (.iaload, 1) := by decide +kernel
theorem dL_text_226 : decode cL_text 226 = .ok (.iconst 2, 1) := by decide +kernel
theorem dL_text_227 : decode cL_text 227 = .ok (.if_icmp .ne 9, 3) := by decide +kernel
theorem dL_text_230 : decode cL_text 230 = .ok (.ldc2_w 123, 3) := by decide +kernel
theorem dL_text_233 : decode cL_text 233 = .ok (.goto 21, 3) := by decide +kernel
theorem dL_text_236 : decode cL_text 236 = .ok (.aload 4, 2) := by decide +kernel
theorem dL_text_238 : decode cL_text 238 = .ok (.iload 8, 2) := by decide +kernel
theorem dL_text_240 : decode cL_text 240 = .ok (.iaload, 1) := by decide +kernel
theorem dL_text_241 : decode cL_text 241 = .ok (.iconst 3, 1) := by decide +kernel
theorem dL_text_242 : decode cL_text 242 = .ok (.if_icmp .ne 9, 3) := by decide +kernel
theorem dL_text_245 : decode cL_text 245 = .ok (.ldc2_w 125, 3) := by decide +kernel
theorem dL_text_248 : decode cL_text 248 = .ok (.goto 6, 3) := by decide +kernel
theorem dL_text_251 : decode cL_text 251 = .ok (.ldc2_w 127, 3) := by decide +kernel
theorem dL_text_254 : decode cL_text 254 = .ok (.invokevirtual 103, 3) := by decide +kernel
theorem dL_text_257 : decode cL_text 257 = .ok (.pop, 1) := by decide +kernel
theorem dL_text_258 : decode cL_text 258 = .ok (.aload_n 0, 1) := by decide +kernel
theorem dL_text_259 : decode cL_text 259 = .ok (.invokevirtual 111, 3) := by decide +kernel
theorem dL_text_262 : decode cL_text 262 = .ok (.aload_n 0, 1) := by decide +kernel
theorem dL_text_263 : decode cL_text 263 = .ok (.bipush 6, 2) := by decide +kernel
theorem dL_text_265 : decode cL_text 265 = .ok (.invokevirtual 60, 3) := by decide +kernel
theorem dL_text_268 : decode cL_text 268 = .ok (.if_icmp .eq 5, 3) := by decide +kernel
theorem dL_text_271 : decode cL_text 271 = .ok (.iconst 0, 1) := by decide +kernel
theorem dL_text_272 : decode cL_text 272 = .ok (.ireturn, 1) := by decide +kernel
theorem dL_text_273 : decode cL_text 273 = .ok (.aload 4, 2) := by decide +kernel
theorem dL_text_275 : decode cL_text 275 = .ok (.iload 8, 2) := by decide +kernel
theorem dL_text_277 : decode cL_text 277 = .ok (.iaload, 1) := by decide +kernel
theorem dL_text_278 : decode cL_text 278 = .ok (.iconst 4, 1) := by decide +kernel
theorem dL_text_279 : decode cL_text 279 = .ok (.if_icmp .ne 17, 3) := by decide +kernel
theorem dL_text_282 : decode cL_text 282 = .ok (.aload_n 0, 1) := by decide +kernel
theorem dL_text_283 : decode cL_text 283 = .ok (.aload 4, 2) := by decide +kernel
theorem dL_text_285 : decode cL_text 285 = .ok (.iload 8, 2) := by decide +kernel
theorem dL_text_287 : decode cL_text 287 = .ok (.iconst 2, 1) := by decide +kernel
theorem dL_text_288 : decode cL_text 288 = .ok (.iadd, 1) := by decide +kernel
theorem dL_text_289 : decode cL_text 289 = .ok (.iaload, 1) := by decide +kernel
theorem dL_text_290 : decode cL_text 290 = .ok (.invokestatic 129, 3) := by decide +kernel
theorem dL_text_293 : decode cL_text 293 = .ok (.goto 19, 3) := by decide +kernel
theorem dL_text_296 : decode cL_text 296 = .ok (.aload_n 0, 1) := by decide +kernel
theorem dL_text_297 : decode cL_text 297 = .ok (.bipush 65, 2) := by decide +kernel
theorem dL_text_299 : decode cL_text 299 = .ok (.aload 4, 2) := by decide +kernel
theorem dL_text_301 : decode cL_text 301 = .ok (.iload 8, 2) := by decide +kernel
theorem dL_text_303 : decode cL_text 303 = .ok (.iconst 1, 1) := by decide +kernel
theorem dL_text_304 : decode cL_text 304 = .ok (.iadd, 1) := by decide +kernel
theorem dL_text_305 : decode cL_text 305 = .ok (.iaload, 1) := by decide +kernel
theorem dL_text_306 : decode cL_text 306 = .ok (.iadd, 1) := by decide +kernel
theorem dL_text_307 : decode cL_text 307 = .ok (.i2l, 1) := by decide +kernel
theorem dL_text_308 : decode cL_text 308 = .ok (.invokevirtual 103, 3) := by decide +kernel
theorem dL_text_311 : decode cL_text 311 = .ok (.pop, 1) := by decide +kernel
theorem dL_text_312 : decode cL_text 312 = .ok (.aload 4, 2) := by decide +kernel
theorem dL_text_314 : decode cL_text 314 = .ok (.iload 8, 2) := by decide +kernel
theorem dL_text_316 : decode cL_text 316 = .ok (.iaload, 1) := by decide +kernel
theorem dL_text_317 : decode cL_text 317 = .ok (.ifCond .ne 108, 3) := by decide +kernel
theorem dL_text_320 : decode cL_text 320 = .ok (.aload_n 0, 1) := by decide +kernel
theorem dL_text_321 : decode cL_text 321 = .ok (.invokevirtual 111, 3) := by decide +kernel
theorem dL_text_324 : decode cL_text 324 = .ok (.bipush (-6), 2) := by decide +kernel
theorem dL_text_326 : decode cL_text 326 = .ok (.if_icmp .eq 5, 3) := by decide +kernel
theorem dL_text_329 : decode cL_text 329 = .ok (.iconst 0, 1) := by decide +kernel
theorem dL_text_330 : decode cL_text 330 = .ok (.ireturn, 1) := by decide +kernel
theorem dL_text_331 : decode cL_text 331 = .ok (.aload 4, 2) := by decide +kernel
theorem dL_text_333 : decode cL_text 333 = .ok (.iload 8, 2) := by decide +kernel
theorem dL_text_335 : decode cL_text 335 = .ok (.iconst 4, 1) := by decide +kernel
theorem dL_text_336 : decode cL_text 336 = .ok (.iadd, 1) := by decide +kernel
theorem dL_text_337 : decode cL_text 337 = .ok (.iaload, 1) := by decide +kernel
theorem dL_text_338 : decode cL_text 338 = .ok (.ifCond .le 19, 3) := by decide +kernel
theorem dL_text_341 : decode cL_text 341 = .ok (.aload_n 0, 1) := by decide +kernel
theorem dL_text_342 : decode cL_text 342 = .ok (.bipush 48, 2) := by decide +kernel
theorem dL_text_344 : decode cL_text 344 = .ok (.aload 4, 2) := by decide +kernel
theorem dL_text_346 : decode cL_text 346 = .ok (.iload 8, 2) := by decide +kernel
theorem dL_text_348 : decode cL_text 348 = .ok (.iconst 2, 1) := by decide +kernel
theorem dL_text_349 : decode cL_text 349 = .ok (.iadd, 1) := by decide +kernel
theorem dL_text_350 : decode cL_text 350 = .ok (.iaload, 1) := by decide +kernel
theorem dL_text_351 : decode cL_text 351 = .ok (.iadd, 1) := by decide +kernel
theorem dL_text_352 : decode cL_text 352 = .ok (.i2l, 1) := by decide +kernel
theorem dL_text_353 : decode cL_text 353 = .ok (.invokevirtual 103, 3) := by decide +kernel
theorem dL_text_356 : decode cL_text 356 = .ok (.pop, 1) := by decide +kernel
theorem dL_text_357 : decode cL_text 357 = .ok (.aload 4, 2) := by decide +kernel
theorem dL_text_359 : decode cL_text 359 = .ok (.iload 8, 2) := by decide +kernel
theorem dL_text_361 : decode cL_text 361 = .ok (.iconst 4, 1) := by decide +kernel
theorem dL_text_362 : decode cL_text 362 = .ok (.iadd, 1) := by decide +kernel
theorem dL_text_363 : decode cL_text 363 = .ok (.iaload, 1) := by decide +kernel
theorem dL_text_364 : decode cL_text 364 = .ok (.iconst 1, 1) := by decide +kernel
theorem dL_text_365 : decode cL_text 365 = .ok (.if_icmp .le 19, 3) := by decide +kernel
theorem dL_text_368 : decode cL_text 368 = .ok (.aload_n 0, 1) := by decide +kernel
theorem dL_text_369 : decode cL_text 369 = .ok (.bipush 48, 2) := by decide +kernel
theorem dL_text_371 : decode cL_text 371 = .ok (.aload 4, 2) := by decide +kernel
theorem dL_text_373 : decode cL_text 373 = .ok (.iload 8, 2) := by decide +kernel
theorem dL_text_375 : decode cL_text 375 = .ok (.iconst 3, 1) := by decide +kernel
theorem dL_text_376 : decode cL_text 376 = .ok (.iadd, 1) := by decide +kernel
theorem dL_text_377 : decode cL_text 377 = .ok (.iaload, 1) := by decide +kernel
theorem dL_text_378 : decode cL_text 378 = .ok (.iadd, 1) := by decide +kernel
theorem dL_text_379 : decode cL_text 379 = .ok (.i2l, 1) := by decide +kernel
theorem dL_text_380 : decode cL_text 380 = .ok (.invokevirtual 103, 3) := by decide +kernel
theorem dL_text_383 : decode cL_text 383 = .ok (.pop, 1) := by decide +kernel
theorem dL_text_384 : decode cL_text 384 = .ok (.aload 4, 2) := by decide +kernel
theorem dL_text_386 : decode cL_text 386 = .ok (.iload 8, 2) := by decide +kernel
theorem dL_text_388 : decode cL_text 388 = .ok (.iconst 4, 1) := by decide +kernel
theorem dL_text_389 : decode cL_text 389 = .ok (.iadd, 1) := by decide +kernel
theorem dL_text_390 : decode cL_text 390 = .ok (.iaload, 1) := by decide +kernel
theorem dL_text_391 : decode cL_text 391 = .ok (.iconst 2, 1) := by decide +kernel
theorem dL_text_392 : decode cL_text 392 = .ok (.if_icmp .le 116, 3) := by decide +kernel
theorem dL_text_395 : decode cL_text 395 = .ok (.aload_n 0, 1) := by decide +kernel
theorem dL_text_396 : decode cL_text 396 = .ok (.bipush 48, 2) := by decide +kernel
theorem dL_text_398 : decode cL_text 398 = .ok (.aload 4, 2) := by decide +kernel
theorem dL_text_400 : decode cL_text 400 = .ok (.iload 8, 2) := by decide +kernel
theorem dL_text_402 : decode cL_text 402 = .ok (.iconst 2, 1) := by decide +kernel
theorem dL_text_403 : decode cL_text 403 = .ok (.iadd, 1) := by decide +kernel
theorem dL_text_404 : decode cL_text 404 = .ok (.iaload, 1) := by decide +kernel
theorem dL_text_405 : decode cL_text 405 = .ok (.aload 4, 2) := by decide +kernel
theorem dL_text_407 : decode cL_text 407 = .ok (.iload 8, 2) := by decide +kernel
theorem dL_text_409 : decode cL_text 409 = .ok (.iconst 3, 1) := by decide +kernel
theorem dL_text_410 : decode cL_text 410 = .ok (.iadd, 1) := by decide +kernel
theorem dL_text_411 : decode cL_text 411 = .ok (.iaload, 1) := by decide +kernel
theorem dL_text_412 : decode cL_text 412 = .ok (.iadd, 1) := by decide +kernel
theorem dL_text_413 : decode cL_text 413 = .ok (.bipush 10, 2) := by decide +kernel
theorem dL_text_415 : decode cL_text 415 = .ok (.irem, 1) := by decide +kernel
theorem dL_text_416 : decode cL_text 416 = .ok (.iadd, 1) := by decide +kernel
theorem dL_text_417 : decode cL_text 417 = .ok (.i2l, 1) := by decide +kernel
theorem dL_text_418 : decode cL_text 418 = .ok (.invokevirtual 103, 3) := by decide +kernel
theorem dL_text_421 : decode cL_text 421 = .ok (.pop, 1) := by decide +kernel
theorem dL_text_422 : decode cL_text 422 = .ok (.goto 86, 3) := by decide +kernel
theorem dL_text_425 : decode cL_text 425 = .ok (.aload 4, 2) := by decide +kernel
theorem dL_text_427 : decode cL_text 427 = .ok (.iload 8, 2) := by decide +kernel
theorem dL_text_429 : decode cL_text 429 = .ok (.iaload, 1) := by decide +kernel
theorem dL_text_430 : decode cL_text 430 = .ok (.iconst 1, 1) := by decide +kernel
theorem dL_text_431 : decode cL_text 431 = .ok (.if_icmp .ne 37, 3) := by decide +kernel
theorem dL_text_434 : decode cL_text 434 = .ok (.aload_n 0, 1) := by decide +kernel
theorem dL_text_435 : decode cL_text 435 = .ok (.invokevirtual 111, 3) := by decide +kernel
theorem dL_text_438 : decode cL_text 438 = .ok (.aload_n 0, 1) := by decide +kernel
theorem dL_text_439 : decode cL_text 439 = .ok (.bipush 6, 2) := by decide +kernel
theorem dL_text_441 : decode cL_text 441 = .ok (.invokevirtual 60, 3) := by decide +kernel
theorem dL_text_444 : decode cL_text 444 = .ok (.if_icmp .eq 5, 3) := by decide +kernel
theorem dL_text_447 : decode cL_text 447 = .ok (.iconst 0, 1) := by decide +kernel
theorem dL_text_448 : decode cL_text 448 = .ok (.ireturn, 1) := by decide +kernel
theorem dL_text_449 : decode cL_text 449 = .ok (.aload_n 0, 1) := by decide +kernel
theorem dL_text_450 : decode cL_text 450 = .ok (.bipush 49, 2) := by decide +kernel
theorem dL_text_452 : decode cL_text 452 = .ok (.aload 4, 2) := by decide +kernel
theorem dL_text_454 : decode cL_text 454 = .ok (.iload 8, 2) := by decide +kernel
theorem dL_text_456 : decode cL_text 456 = .ok (.iconst 2, 1) := by decide +kernel
theorem dL_text_457 : decode cL_text 457 = .ok (.iadd, 1) := by decide +kernel
theorem dL_text_458 : decode cL_text 458 = .ok (.iaload, 1) := by decide +kernel
theorem dL_text_459 : decode cL_text 459 = .ok (.iadd, 1) := by decide +kernel
theorem dL_text_460 : decode cL_text 460 = .ok (.i2l, 1) := by decide +kernel
theorem dL_text_461 : decode cL_text 461 = .ok (.invokevirtual 103, 3) := by decide +kernel
theorem dL_text_464 : decode cL_text 464 = .ok (.pop, 1) := by decide +kernel
theorem dL_text_465 : decode cL_text 465 = .ok (.goto 43, 3) := by decide +kernel
theorem dL_text_468 : decode cL_text 468 = .ok (.aload 4, 2) := by decide +kernel
theorem dL_text_470 : decode cL_text 470 = .ok (.iload 8, 2) := by decide +kernel
theorem dL_text_472 : decode cL_text 472 = .ok (.iaload, 1) := by decide +kernel
theorem dL_text_473 : decode cL_text 473 = .ok (.iconst 3, 1) := by decide +kernel
theorem dL_text_474 : decode cL_text 474 = .ok (.if_icmp .ne 34, 3) := by decide +kernel
theorem dL_text_477 : decode cL_text 477 = .ok (.aload_n 0, 1) := by decide +kernel
theorem dL_text_478 : decode cL_text 478 = .ok (.invokevirtual 111, 3) := by decide +kernel
theorem dL_text_481 : decode cL_text 481 = .ok (.aload_n 0, 1) := by decide +kernel
theorem dL_text_482 : decode cL_text 482 = .ok (.bipush 6, 2) := by decide +kernel
theorem dL_text_484 : decode cL_text 484 = .ok (.invokevirtual 60, 3) := by decide +kernel
theorem dL_text_487 : decode cL_text 487 = .ok (.if_icmp .eq 5, 3) := by decide +kernel
theorem dL_text_490 : decode cL_text 490 = .ok (.iconst 0, 1) := by decide +kernel
theorem dL_text_491 : decode cL_text 491 = .ok (.ireturn, 1) := by decide +kernel
theorem dL_text_492 : decode cL_text 492 = .ok (.aload_n 0, 1) := by decide +kernel
theorem dL_text_493 : decode cL_text 493 = .ok (.bipush 65, 2) := by decide +kernel
theorem dL_text_495 : decode cL_text 495 = .ok (.aload 4, 2) := by decide +kernel
theorem dL_text_497 : decode cL_text 497 = .ok (.iload 8, 2) := by decide +kernel
theorem dL_text_499 : decode cL_text 499 = .ok (.iconst 3, 1) := by decide +kernel
theorem dL_text_500 : decode cL_text 500 = .ok (.iadd, 1) := by decide +kernel
theorem dL_text_501 : decode cL_text 501 = .ok (.iaload, 1) := by decide +kernel
theorem dL_text_502 : decode cL_text 502 = .ok (.iadd, 1) := by decide +kernel
theorem dL_text_503 : decode cL_text 503 = .ok (.i2l, 1) := by decide +kernel
theorem dL_text_504 : decode cL_text 504 = .ok (.invokevirtual 103, 3) := by decide +kernel
theorem dL_text_507 : decode cL_text 507 = .ok (.pop, 1) := by decide +kernel
theorem dL_text_508 : decode cL_text 508 = .ok (.aload_n 0, 1) := by decide +kernel
theorem dL_text_509 : decode cL_text 509 = .ok (.invokevirtual 111, 3) := by decide +kernel
theorem dL_text_512 : decode cL_text 512 = .ok (.bipush (-6), 2) := by decide +kernel
theorem dL_text_514 : decode cL_text 514 = .ok (.if_icmp .eq 5, 3) := by decide +kernel
theorem dL_text_517 : decode cL_text 517 = .ok (.iconst 0, 1) := by decide +kernel
theorem dL_text_518 : decode cL_text 518 = .ok (.ireturn, 1) := by decide +kernel
theorem dL_text_519 : decode cL_text 519 = .ok (.iinc 5 1, 3) := by decide +kernel
theorem dL_text_522 : decode cL_text 522 = .ok (.goto (-482), 3) := by decide +kernel
theorem dL_text_525 : decode cL_text 525 = .ok (.aload_n 0, 1) := by decide +kernel
theorem dL_text_526 : decode cL_text 526 = .ok (.bipush 7, 2) := by decide +kernel
theorem dL_text_528 : decode cL_text 528 = .ok (.invokevirtual 60, 3) := by decide +kernel
theorem dL_text_531 : decode cL_text 531 = .ok (.istore 5, 2) := by decide +kernel
theorem dL_text_533 : decode cL_text 533 = .ok (.aload_n 0, 1) := by decide +kernel
theorem dL_text_534 : decode cL_text 534 = .ok (.invokevirtual 114, 3) := by decide +kernel
theorem dL_text_537 : decode cL_text 537 = .ok (.istore 6, 2) := by decide +kernel
theorem dL_text_539 : decode cL_text 539 = .ok (.iload 6, 2) := by decide +kernel
theorem dL_text_541 : decode cL_text 541 = .ok (.ifCond .lt 43, 3) := by decide +kernel
theorem dL_text_544 : decode cL_text 544 = .ok (.iload 6, 2) := by decide +kernel
theorem dL_text_546 : decode cL_text 546 = .ok (.iload_n 3, 1) := by decide +kernel
theorem dL_text_547 : decode cL_text 547 = .ok (.if_icmp .gt 37, 3) := by decide +kernel
theorem dL_text_550 : decode cL_text 550 = .ok (.aload_n 0, 1) := by decide +kernel
theorem dL_text_551 : decode cL_text 551 = .ok (.bipush 6, 2) := by decide +kernel
theorem dL_text_553 : decode cL_text 553 = .ok (.invokevirtual 60, 3) := by decide +kernel
theorem dL_text_556 : decode cL_text 556 = .ok (.ifCond .ne 28, 3) := by decide +kernel
theorem dL_text_559 : decode cL_text 559 = .ok (.aload_n 0, 1) := by decide +kernel
theorem dL_text_560 : decode cL_text 560 = .ok (.bipush 7, 2) := by decide +kernel
theorem dL_text_562 : decode cL_text 562 = .ok (.invokevirtual 60, 3) := by decide +kernel
theorem dL_text_565 : decode cL_text 565 = .ok (.iload 5, 2) := by decide +kernel
theorem dL_text_567 : decode cL_text 567 = .ok (.bipush 6, 2) := by decide +kernel
theorem dL_text_569 : decode cL_text 569 = .ok (.if_icmp .ge 10, 3) := by decide +kernel
theorem dL_text_572 : decode cL_text 572 = .ok (.iload 5, 2) := by decide +kernel
theorem dL_text_574 : decode cL_text 574 = .ok (.iconst 1, 1) := by decide +kernel
theorem dL_text_575 : decode cL_text 575 = .ok (.iadd, 1) := by decide +kernel
theorem dL_text_576 : decode cL_text 576 = .ok (.goto 5, 3) := by decide +kernel
theorem dL_text_579 : decode cL_text 579 = .ok (.bipush 6, 2) := by decide +kernel
theorem dL_text_581 : decode cL_text 581 = .ok (.if_icmp .eq 5, 3) := by decide +kernel
theorem dL_text_584 : decode cL_text 584 = .ok (.iconst 0, 1) := by decide +kernel
theorem dL_text_585 : decode cL_text 585 = .ok (.ireturn, 1) := by decide +kernel
theorem dL_text_586 : decode cL_text 586 = .ok (.aload_n 0, 1) := by decide +kernel
theorem dL_text_587 : decode cL_text 587 = .ok (.invokestatic 133, 3) := by decide +kernel
theorem dL_text_590 : decode cL_text 590 = .ok (.istore 7, 2) := by decide +kernel
theorem dL_text_592 : decode cL_text 592 = .ok (.aload_n 0, 1) := by decide +kernel
theorem dL_text_593 : decode cL_text 593 = .ok (.invokevirtual 137, 3) := by decide +kernel
theorem dL_text_596 : decode cL_text 596 = .ok (.iload 5, 2) := by decide +kernel
theorem dL_text_598 : decode cL_text 598 = .ok (.bipush 6, 2) := by decide +kernel
theorem dL_text_600 : decode cL_text 600 = .ok (.if_icmp .ge 8, 3) := by decide +kernel
theorem dL_text_603 : decode cL_text 603 = .ok (.iload 5, 2) := by decide +kernel
theorem dL_text_605 : decode cL_text 605 = .ok (.goto 4, 3) := by decide +kernel
theorem dL_text_608 : decode cL_text 608 = .ok (.iconst 5, 1) := by decide +kernel
theorem dL_text_609 : decode cL_text 609 = .ok (.if_icmp .eq 5, 3) := by decide +kernel
theorem dL_text_612 : decode cL_text 612 = .ok (.iconst 0, 1) := by decide +kernel
theorem dL_text_613 : decode cL_text 613 = .ok (.ireturn, 1) := by decide +kernel
theorem dL_text_614 : decode cL_text 614 = .ok (.iconst 0, 1) := by decide +kernel
theorem dL_text_615 : decode cL_text 615 = .ok (.istore 8, 2) := by decide +kernel
theorem dL_text_617 : decode cL_text 617 = .ok (.iconst 0, 1) := by decide +kernel
theorem dL_text_618 : decode cL_text 618 = .ok (.istore 9, 2) := by decide +kernel
theorem dL_text_620 : decode cL_text 620 = .ok (.iload 9, 2) := by decide +kernel
theorem dL_text_622 : decode cL_text 622 = .ok (.iload_n 3, 1) := by decide +kernel
theorem dL_text_623 : decode cL_text 623 = .ok (.if_icmp .ge 40, 3) := by decide +kernel
theorem dL_text_626 : decode cL_text 626 = .ok (.iload 8, 2) := by decide +kernel
theorem dL_text_628 : decode cL_text 628 = .ok (.iload 9, 2) := by decide +kernel
theorem dL_text_630 : decode cL_text 630 = .ok (.if_icmp .ne 33, 3) := by decide +kernel
theorem dL_text_633 : decode cL_text 633 = .ok (.iload 8, 2) := by decide +kernel
theorem dL_text_635 : decode cL_text 635 = .ok (.aload_n 0, 1) := by decide +kernel
theorem dL_text_636 : decode cL_text 636 = .ok (.aload 4, 2) := by decide +kernel
theorem dL_text_638 : decode cL_text 638 = .ok (.bipush 8, 2) := by decide +kernel
theorem dL_text_640 : decode cL_text 640 = .ok (.iload 9, 2) := by decide +kernel
theorem dL_text_642 : decode cL_text 642 = .ok (.imul, 1) := by decide +kernel
theorem dL_text_643 : decode cL_text 643 = .ok (.invokestatic 140, 3) := by decide +kernel
theorem dL_text_646 : decode cL_text 646 = .ok (.ifCond .lt 7, 3) := by decide +kernel
theorem dL_text_649 : decode cL_text 649 = .ok (.iconst 1, 1) := by decide +kernel
theorem dL_text_650 : decode cL_text 650 = .ok (.goto 4, 3) := by decide +kernel
theorem dL_text_653 : decode cL_text 653 = .ok (.iconst 0, 1) := by decide +kernel
theorem dL_text_654 : decode cL_text 654 = .ok (.iadd, 1) := by decide +kernel
theorem dL_text_655 : decode cL_text 655 = .ok (.istore 8, 2) := by decide +kernel
theorem dL_text_657 : decode cL_text 657 = .ok (.iinc 9 1, 3) := by decide +kernel
theorem dL_text_660 : decode cL_text 660 = .ok (.goto (-40), 3) := by decide +kernel
theorem dL_text_663 : decode cL_text 663 = .ok (.iload 8, 2) := by decide +kernel
theorem dL_text_665 : decode cL_text 665 = .ok (.iload 6, 2) := by decide +kernel
theorem dL_text_667 : decode cL_text 667 = .ok (.if_icmp .ne 16, 3) := by decide +kernel
theorem dL_text_670 : decode cL_text 670 = .ok (.aload_n 0, 1) := by decide +kernel
theorem dL_text_671 : decode cL_text 671 = .ok (.invokestatic 133, 3) := by decide +kernel
theorem dL_text_674 : decode cL_text 674 = .ok (.iload 7, 2) := by decide +kernel
theorem dL_text_676 : decode cL_text 676 = .ok (.if_icmp .ne 7, 3) := by decide +kernel
theorem dL_text_679 : decode cL_text 679 = .ok (.iconst 1, 1) := by decide +kernel
theorem dL_text_680 : decode cL_text 680 = .ok (.goto 4, 3) := by decide +kernel
theorem dL_text_683 : decode cL_text 683 = .ok (.iconst 0, 1) := by decide +kernel
theorem dL_text_684 : decode cL_text 684 = .ok (.ireturn, 1) := by decide +kernel
theorem dL_one_0 : decode cL_one 0 = .ok (.aload_n 1, 1) := by decide +kernel
theorem dL_one_1 : decode cL_one 1 = .ok (.iload_n 2, 1) := by decide +kernel
theorem dL_one_2 : decode cL_one 2 = .ok (.iconst 4, 1) := by decide +kernel
theorem dL_one_3 : decode cL_one 3 = .ok (.iadd, 1) := by decide +kernel
theorem dL_one_4 : decode cL_one 4 = .ok (.iaload, 1) := by decide +kernel
theorem dL_one_5 : decode cL_one 5 = .ok (.istore_n 3, 1) := by decide +kernel
theorem dL_one_6 : decode cL_one 6 = .ok (.aload_n 1, 1) := by decide +kernel
theorem dL_one_7 : decode cL_one 7 = .ok (.iload_n 2, 1) := by decide +kernel
theorem dL_one_8 : decode cL_one 8 = .ok (.iaload, 1) := by decide +kernel
theorem dL_one_9 : decode cL_one 9 = .ok (.tableswitch 136 0 3 #[31, 94, 111, 121], 31) := by decide +kernel
theorem dL_one_40 : decode cL_one 40 = .ok (.aload_n 0, 1) := by decide +kernel
theorem dL_one_41 : decode cL_one 41 = .ok (.aload_n 1, 1) := by decide +kernel
theorem dL_one_42 : decode cL_one 42 = .ok (.iload_n 2, 1) := by decide +kernel
theorem dL_one_43 : decode cL_one 43 = .ok (.iconst 1, 1) := by decide +kernel
theorem dL_one_44 : decode cL_one 44 = .ok (.iadd, 1) := by decide +kernel
theorem dL_one_45 : decode cL_one 45 = .ok (.iaload, 1) := by decide +kernel
theorem dL_one_46 : decode cL_one 46 = .ok (.iload_n 3, 1) := by decide +kernel
theorem dL_one_47 : decode cL_one 47 = .ok (.ifCond .le 11, 3) := by decide +kernel
theorem dL_one_50 : decode cL_one 50 = .ok (.aload_n 1, 1) := by decide +kernel
theorem dL_one_51 : decode cL_one 51 = .ok (.iload_n 2, 1) := by decide +kernel
theorem dL_one_52 : decode cL_one 52 = .ok (.iconst 2, 1) := by decide +kernel
theorem dL_one_53 : decode cL_one 53 = .ok (.iadd, 1) := by decide +kernel
theorem dL_one_54 : decode cL_one 54 = .ok (.iaload, 1) := by decide +kernel
theorem dL_one_55 : decode cL_one 55 = .ok (.goto 5, 3) := by decide +kernel
theorem dL_one_58 : decode cL_one 58 = .ok (.bipush (-6), 2) := by decide +kernel
theorem dL_one_60 : decode cL_one 60 = .ok (.iload_n 3, 1) := by decide +kernel
theorem dL_one_61 : decode cL_one 61 = .ok (.iconst 1, 1) := by decide +kernel
theorem dL_one_62 : decode cL_one 62 = .ok (.if_icmp .le 11, 3) := by decide +kernel
theorem dL_one_65 : decode cL_one 65 = .ok (.aload_n 1, 1) := by decide +kernel
theorem dL_one_66 : decode cL_one 66 = .ok (.iload_n 2, 1) := by decide +kernel
theorem dL_one_67 : decode cL_one 67 = .ok (.iconst 3, 1) := by decide +kernel
theorem dL_one_68 : decode cL_one 68 = .ok (.iadd, 1) := by decide +kernel
theorem dL_one_69 : decode cL_one 69 = .ok (.iaload, 1) := by decide +kernel
theorem dL_one_70 : decode cL_one 70 = .ok (.goto 5, 3) := by decide +kernel
theorem dL_one_73 : decode cL_one 73 = .ok (.bipush (-6), 2) := by decide +kernel
theorem dL_one_75 : decode cL_one 75 = .ok (.iload_n 3, 1) := by decide +kernel
theorem dL_one_76 : decode cL_one 76 = .ok (.iconst 2, 1) := by decide +kernel
theorem dL_one_77 : decode cL_one 77 = .ok (.if_icmp .le 20, 3) := by decide +kernel
theorem dL_one_80 : decode cL_one 80 = .ok (.aload_n 1, 1) := by decide +kernel
theorem dL_one_81 : decode cL_one 81 = .ok (.iload_n 2, 1) := by decide +kernel
theorem dL_one_82 : decode cL_one 82 = .ok (.iconst 2, 1) := by decide +kernel
theorem dL_one_83 : decode cL_one 83 = .ok (.iadd, 1) := by decide +kernel
theorem dL_one_84 : decode cL_one 84 = .ok (.iaload, 1) := by decide +kernel
theorem dL_one_85 : decode cL_one 85 = .ok (.aload_n 1, 1) := by decide +kernel
theorem dL_one_86 : decode cL_one 86 = .ok (.iload_n 2, 1) := by decide +kernel
theorem dL_one_87 : decode cL_one 87 = .ok (.iconst 3, 1) := by decide +kernel
theorem dL_one_88 : decode cL_one 88 = .ok (.iadd, 1) := by decide +kernel
theorem dL_one_89 : decode cL_one 89 = .ok (.iaload, 1) := by decide +kernel
theorem dL_one_90 : decode cL_one 90 = .ok (.iadd, 1) := by decide +kernel
theorem dL_one_91 : decode cL_one 91 = .ok (.bipush 10, 2) := by decide +kernel
theorem dL_one_93 : decode cL_one 93 = .ok (.irem, 1) := by decide +kernel
theorem dL_one_94 : decode cL_one 94 = .ok (.goto 5, 3) := by decide +kernel
theorem dL_one_97 : decode cL_one 97 = .ok (.bipush (-6), 2) := by decide +kernel
theorem dL_one_99 : decode cL_one 99 = .ok (.invokevirtual 69, 3) := by decide +kernel
theorem dL_one_102 : decode cL_one 102 = .ok (.ireturn, 1) := by decide +kernel
theorem dL_one_103 : decode cL_one 103 = .ok (.aload_n 0, 1) := by decide +kernel
theorem dL_one_104 : decode cL_one 104 = .ok (.aload_n 1, 1) := by decide +kernel
theorem dL_one_105 : decode cL_one 105 = .ok (.iload_n 2, 1) := by decide +kernel
theorem dL_one_106 : decode cL_one 106 = .ok (.iconst 1, 1) := by decide +kernel
theorem dL_one_107 : decode cL_one 107 = .ok (.iadd, 1) := by decide +kernel
theorem dL_one_108 : decode cL_one 108 = .ok (.iaload, 1) := by decide +kernel
theorem dL_one_109 : decode cL_one 109 = .ok (.iconst 1, 1) := by decide +kernel
theorem dL_one_110 : decode cL_one 110 = .ok (.aload_n 1, 1) := by decide +kernel
theorem dL_one_111 : decode cL_one 111 = .ok (.iload_n 2, 1) := by decide +kernel
theorem dL_one_112 : decode cL_one 112 = .ok (.iconst 2, 1) := by decide +kernel
theorem dL_one_113 : decode cL_one 113 = .ok (.iadd, 1) := by decide +kernel
theorem dL_one_114 : decode cL_one 114 = .ok (.iaload, 1) := by decide +kernel
theorem dL_one_115 : decode cL_one 115 = .ok (.iadd, 1) := by decide +kernel
theorem dL_one_116 : decode cL_one 116 = .ok (.invokevirtual 77, 3) := by decide +kernel
theorem dL_one_119 : decode cL_one 119 = .ok (.ireturn, 1) := by decide +kernel
theorem dL_one_120 : decode cL_one 120 = .ok (.aload_n 0, 1) := by decide +kernel
theorem dL_one_121 : decode cL_one 121 = .ok (.aload_n 1, 1) := by decide +kernel
theorem dL_one_122 : decode cL_one 122 = .ok (.iload_n 2, 1) := by decide +kernel
theorem dL_one_123 : decode cL_one 123 = .ok (.iconst 1, 1) := by decide +kernel
theorem dL_one_124 : decode cL_one 124 = .ok (.iadd, 1) := by decide +kernel
theorem dL_one_125 : decode cL_one 125 = .ok (.iaload, 1) := by decide +kernel
theorem dL_one_126 : decode cL_one 126 = .ok (.invokevirtual 80, 3) := by decide +kernel
theorem dL_one_129 : decode cL_one 129 = .ok (.ireturn, 1) := by decide +kernel
theorem dL_one_130 : decode cL_one 130 = .ok (.aload_n 0, 1) := by decide +kernel
theorem dL_one_131 : decode cL_one 131 = .ok (.aload_n 1, 1) := by decide +kernel
theorem dL_one_132 : decode cL_one 132 = .ok (.iload_n 2, 1) := by decide +kernel
theorem dL_one_133 : decode cL_one 133 = .ok (.iconst 1, 1) := by decide +kernel
theorem dL_one_134 : decode cL_one 134 = .ok (.iadd, 1) := by decide +kernel
theorem dL_one_135 : decode cL_one 135 = .ok (.iaload, 1) := by decide +kernel
theorem dL_one_136 : decode cL_one 136 = .ok (.aload_n 1, 1) := by decide +kernel
theorem dL_one_137 : decode cL_one 137 = .ok (.iload_n 2, 1) := by decide +kernel
theorem dL_one_138 : decode cL_one 138 = .ok (.iconst 3, 1) := by decide +kernel
theorem dL_one_139 : decode cL_one 139 = .ok (.iadd, 1) := by decide +kernel
theorem dL_one_140 : decode cL_one 140 = .ok (.iaload, 1) := by decide +kernel
theorem dL_one_141 : decode cL_one 141 = .ok (.invokevirtual 83, 3) := by decide +kernel
theorem dL_one_144 : decode cL_one 144 = .ok (.ireturn, 1) := by decide +kernel
theorem dL_one_145 : decode cL_one 145 = .ok (.aload_n 0, 1) := by decide +kernel
theorem dL_one_146 : decode cL_one 146 = .ok (.aload_n 1, 1) := by decide +kernel
theorem dL_one_147 : decode cL_one 147 = .ok (.iload_n 2, 1) := by decide +kernel
theorem dL_one_148 : decode cL_one 148 = .ok (.iconst 2, 1) := by decide +kernel
theorem dL_one_149 : decode cL_one 149 = .ok (.iadd, 1) := by decide +kernel
theorem dL_one_150 : decode cL_one 150 = .ok (.iaload, 1) := by decide +kernel
theorem dL_one_151 : decode cL_one 151 = .ok (.invokevirtual 96, 3) := by decide +kernel
theorem dL_one_154 : decode cL_one 154 = .ok (.ireturn, 1) := by decide +kernel
theorem dL_sound_0 : decode cL_sound 0 = .ok (.aload_n 0, 1) := by decide +kernel
theorem dL_sound_1 : decode cL_sound 1 = .ok (.iconst 1, 1) := by decide +kernel
theorem dL_sound_2 : decode cL_sound 2 = .ok (.invokevirtual 60, 3) := by decide +kernel
theorem dL_sound_5 : decode cL_sound 5 = .ok (.istore_n 1, 1) := by decide +kernel
theorem dL_sound_6 : decode cL_sound 6 = .ok (.aload_n 0, 1) := by decide +kernel
theorem dL_sound_7 : decode cL_sound 7 = .ok (.iconst 2, 1) := by decide +kernel
theorem dL_sound_8 : decode cL_sound 8 = .ok (.invokevirtual 60, 3) := by decide +kernel
theorem dL_sound_11 : decode cL_sound 11 = .ok (.istore_n 2, 1) := by decide +kernel
theorem dL_sound_12 : decode cL_sound 12 = .ok (.iconst 0, 1) := by decide +kernel
theorem dL_sound_13 : decode cL_sound 13 = .ok (.istore_n 3, 1) := by decide +kernel
theorem dL_sound_14 : decode cL_sound 14 = .ok (.iconst 0, 1) := by decide +kernel
theorem dL_sound_15 : decode cL_sound 15 = .ok (.istore 4, 2) := by decide +kernel
theorem dL_sound_17 : decode cL_sound 17 = .ok (.iconst 0, 1) := by decide +kernel
theorem dL_sound_18 : decode cL_sound 18 = .ok (.istore 5, 2) := by decide +kernel
theorem dL_sound_20 : decode cL_sound 20 = .ok (.iconst 0, 1) := by decide +kernel
theorem dL_sound_21 : decode cL_sound 21 = .ok (.istore 6, 2) := by decide +kernel
theorem dL_sound_23 : decode cL_sound 23 = .ok (.iconst (-1), 1) := by decide +kernel
theorem dL_sound_24 : decode cL_sound 24 = .ok (.istore 7, 2) := by decide +kernel
theorem dL_sound_26 : decode cL_sound 26 = .ok (.iconst 0, 1) := by decide +kernel
theorem dL_sound_27 : decode cL_sound 27 = .ok (.istore 8, 2) := by decide +kernel
theorem dL_sound_29 : decode cL_sound 29 = .ok (.bipush 16, 2) := by decide +kernel
theorem dL_sound_31 : decode cL_sound 31 = .ok (.newarray .int, 2) := by decide +kernel
theorem dL_sound_33 : decode cL_sound 33 = .ok (.astore 9, 2) := by decide +kernel
theorem dL_sound_35 : decode cL_sound 35 = .ok (.iconst 0, 1) := by decide +kernel
theorem dL_sound_36 : decode cL_sound 36 = .ok (.istore 10, 2) := by decide +kernel
theorem dL_sound_38 : decode cL_sound 38 = .ok (.iload 10, 2) := by decide +kernel
theorem dL_sound_40 : decode cL_sound 40 = .ok (.iload_n 1, 1) := by decide +kernel
theorem dL_sound_41 : decode cL_sound 41 = .ok (.if_icmp .ge 460, 3) := by decide +kernel
theorem dL_sound_44 : decode cL_sound 44 = .ok (.aload_n 0, 1) := by decide +kernel
theorem dL_sound_45 : decode cL_sound 45 = .ok (.iload 10, 2) := by decide +kernel
theorem dL_sound_47 : decode cL_sound 47 = .ok (.bipush 12, 2) := by decide +kernel
theorem dL_sound_49 : decode cL_sound 49 = .ok (.invokevirtual 66, 3) := by decide +kernel
theorem dL_sound_52 : decode cL_sound 52 = .ok (.istore 11, 2) := by decide +kernel
theorem dL_sound_54 : decode cL_sound 54 = .ok (.aload_n 0, 1) := by decide +kernel
theorem dL_sound_55 : decode cL_sound 55 = .ok (.iload 10, 2) := by decide +kernel
theorem dL_sound_57 : decode cL_sound 57 = .ok (.bipush 13, 2) := by decide +kernel
theorem dL_sound_59 : decode cL_sound 59 = .ok (.invokevirtual 66, 3) := by decide +kernel
theorem dL_sound_62 : decode cL_sound 62 = .ok (.istore 12, 2) := by decide +kernel
theorem dL_sound_64 : decode cL_sound 64 = .ok (.aload_n 0, 1) := by decide +kernel
theorem dL_sound_65 : decode cL_sound 65 = .ok (.iload 10, 2) := by decide +kernel
theorem dL_sound_67 : decode cL_sound 67 = .ok (.bipush 15, 2) := by decide +kernel
theorem dL_sound_69 : decode cL_sound 69 = .ok (.invokevirtual 66, 3) := by decide +kernel
theorem dL_sound_72 : decode cL_sound 72 = .ok (.istore 13, 2) := by decide +kernel
theorem dL_sound_74 : decode cL_sound 74 = .ok (.aload_n 0, 1) := by decide +kernel
theorem dL_sound_75 : decode cL_sound 75 = .ok (.iload 10, 2) := by decide +kernel
theorem dL_sound_77 : decode cL_sound 77 = .ok (.bipush 14, 2) := by decide +kernel
theorem dL_sound_79 : decode cL_sound 79 = .ok (.invokevirtual 66, 3) := by decide +kernel
theorem dL_sound_82 : decode cL_sound 82 = .ok (.istore 14, 2) := by decide +kernel
theorem dL_sound_84 : decode cL_sound 84 = .ok (.iload_n 3, 1) := by decide +kernel
theorem dL_sound_85 : decode cL_sound 85 = .ok (.aload_n 0, 1) := by decide +kernel
theorem dL_sound_86 : decode cL_sound 86 = .ok (.iload 10, 2) := by decide +kernel
theorem dL_sound_88 : decode cL_sound 88 = .ok (.bipush 11, 2) := by decide +kernel
theorem dL_sound_90 : decode cL_sound 90 = .ok (.invokevirtual 66, 3) := by decide +kernel
theorem dL_sound_93 : decode cL_sound 93 = .ok (.iadd, 1) := by decide +kernel
theorem dL_sound_94 : decode cL_sound 94 = .ok (.istore_n 3, 1) := by decide +kernel
theorem dL_sound_95 : decode cL_sound 95 = .ok (.iload 4, 2) := by decide +kernel
theorem dL_sound_97 : decode cL_sound 97 = .ok (.aload_n 0, 1) := by decide +kernel
theorem dL_sound_98 : decode cL_sound 98 = .ok (.iload 10, 2) := by decide +kernel
theorem dL_sound_100 : decode cL_sound 100 = .ok (.iconst 2, 1) := by decide +kernel
theorem dL_sound_101 : decode cL_sound 101 = .ok (.invokevirtual 73, 3) := by decide +kernel
theorem dL_sound_104 : decode cL_sound 104 = .ok (.l2i, 1) := by decide +kernel
theorem dL_sound_105 : decode cL_sound 105 = .ok (.iadd, 1) := by decide +kernel
theorem dL_sound_106 : decode cL_sound 106 = .ok (.istore 4, 2) := by decide +kernel
theorem dL_sound_108 : decode cL_sound 108 = .ok (.iload 8, 2) := by decide +kernel
theorem dL_sound_110 : decode cL_sound 110 = .ok (.aload_n 0, 1) := by decide +kernel
theorem dL_sound_111 : decode cL_sound 111 = .ok (.iload 10, 2) := by decide +kernel
theorem dL_sound_113 : decode cL_sound 113 = .ok (.bipush 8, 2) := by decide +kernel
theorem dL_sound_115 : decode cL_sound 115 = .ok (.invokevirtual 66, 3) := by decide +kernel
theorem dL_sound_118 : decode cL_sound 118 = .ok (.iadd, 1) := by decide +kernel
theorem dL_sound_119 : decode cL_sound 119 = .ok (.istore 8, 2) := by decide +kernel
theorem dL_sound_121 : decode cL_sound 121 = .ok (.iload 6, 2) := by decide +kernel
theorem dL_sound_123 : decode cL_sound 123 = .ok (.iload 13, 2) := by decide +kernel
theorem dL_sound_125 : decode cL_sound 125 = .ok (.ifCond .lt 7, 3) := by decide +kernel
theorem dL_sound_128 : decode cL_sound 128 = .ok (.iconst 1, 1) := by decide +kernel
theorem dL_sound_129 : decode cL_sound 129 = .ok (.goto 4, 3) := by decide +kernel
theorem dL_sound_132 : decode cL_sound 132 = .ok (.iconst 0, 1) := by decide +kernel
theorem dL_sound_133 : decode cL_sound 133 = .ok (.iadd, 1) := by decide +kernel
theorem dL_sound_134 : decode cL_sound 134 = .ok (.istore 6, 2) := by decide +kernel
theorem dL_sound_136 : decode cL_sound 136 = .ok (.iload 13, 2) := by decide +kernel
theorem dL_sound_138 : decode cL_sound 138 = .ok (.iload 7, 2) := by decide +kernel
theorem dL_sound_140 : decode cL_sound 140 = .ok (.if_icmp .le 8, 3) := by decide +kernel
theorem dL_sound_143 : decode cL_sound 143 = .ok (.iload 13, 2) := by decide +kernel
theorem dL_sound_145 : decode cL_sound 145 = .ok (.goto 5, 3) := by decide +kernel
theorem dL_sound_148 : decode cL_sound 148 = .ok (.iload 7, 2) := by decide +kernel
theorem dL_sound_150 : decode cL_sound 150 = .ok (.istore 7, 2) := by decide +kernel
theorem dL_sound_152 : decode cL_sound 152 = .ok (.iload 11, 2) := by decide +kernel
theorem dL_sound_154 : decode cL_sound 154 = .ok (.ifCond .lt 112, 3) := by decide +kernel
theorem dL_sound_157 : decode cL_sound 157 = .ok (.iinc 5 1, 3) := by decide +kernel
theorem dL_sound_160 : decode cL_sound 160 = .ok (.aload_n 0, 1) := by decide +kernel
theorem dL_sound_161 : decode cL_sound 161 = .ok (.iload 11, 2) := by decide +kernel
theorem dL_sound_163 : decode cL_sound 163 = .ok (.iconst 3, 1) := by decide +kernel
theorem dL_sound_164 : decode cL_sound 164 = .ok (.invokevirtual 90, 3) := by decide +kernel
theorem dL_sound_167 : decode cL_sound 167 = .ok (.iload 10, 2) := by decide +kernel
theorem dL_sound_169 : decode cL_sound 169 = .ok (.if_icmp .ne 40, 3) := by decide +kernel
theorem dL_sound_172 : decode cL_sound 172 = .ok (.iload 14, 2) := by decide +kernel
theorem dL_sound_174 : decode cL_sound 174 = .ok (.ifCond .ne 35, 3) := by decide +kernel
theorem dL_sound_177 : decode cL_sound 177 = .ok (.iload 12, 2) := by decide +kernel
theorem dL_sound_179 : decode cL_sound 179 = .ok (.ifCond .lt 30, 3) := by decide +kernel
theorem dL_sound_182 : decode cL_sound 182 = .ok (.iload 13, 2) := by decide +kernel
theorem dL_sound_184 : decode cL_sound 184 = .ok (.ifCond .lt 25, 3) := by decide +kernel
theorem dL_sound_187 : decode cL_sound 187 = .ok (.aload_n 0, 1) := by decide +kernel
theorem dL_sound_188 : decode cL_sound 188 = .ok (.iload 10, 2) := by decide +kernel
theorem dL_sound_190 : decode cL_sound 190 = .ok (.bipush 6, 2) := by decide +kernel
theorem dL_sound_192 : decode cL_sound 192 = .ok (.invokevirtual 66, 3) := by decide +kernel
theorem dL_sound_195 : decode cL_sound 195 = .ok (.ifCond .ne 14, 3) := by decide +kernel
theorem dL_sound_198 : decode cL_sound 198 = .ok (.aload_n 0, 1) := by decide +kernel
theorem dL_sound_199 : decode cL_sound 199 = .ok (.iload 10, 2) := by decide +kernel
theorem dL_sound_201 : decode cL_sound 201 = .ok (.iload 11, 2) := by decide +kernel
theorem dL_sound_203 : decode cL_sound 203 = .ok (.invokevirtual 144, 3) := by decide +kernel
theorem dL_sound_206 : decode cL_sound 206 = .ok (.ifCond .eq 5, 3) := by decide +kernel
theorem dL_sound_209 : decode cL_sound 209 = .ok (.iconst 0, 1) := by decide +kernel
theorem dL_sound_210 : decode cL_sound 210 = .ok (.ireturn, 1) := by decide +kernel
theorem dL_sound_211 : decode cL_sound 211 = .ok (.iload 12, 2) := by decide +kernel
theorem dL_sound_213 : decode cL_sound 213 = .ok (.istore 15, 2) := by decide +kernel
theorem dL_sound_215 : decode cL_sound 215 = .ok (.iload 15, 2) := by decide +kernel
theorem dL_sound_217 : decode cL_sound 217 = .ok (.iload 12, 2) := by decide +kernel
theorem dL_sound_219 : decode cL_sound 219 = .ok (.aload_n 0, 1) := by decide +kernel
theorem dL_sound_220 : decode cL_sound 220 = .ok (.iload 10, 2) := by decide +kernel
theorem dL_sound_222 : decode cL_sound 222 = .ok (.iconst 1, 1) := by decide +kernel
theorem dL_sound_223 : decode cL_sound 223 = .ok (.invokevirtual 66, 3) := by decide +kernel
theorem dL_sound_226 : decode cL_sound 226 = .ok (.iadd, 1) := by decide +kernel
theorem dL_sound_227 : decode cL_sound 227 = .ok (.if_icmp .ge 36, 3) := by decide +kernel
theorem dL_sound_230 : decode cL_sound 230 = .ok (.aload 9, 2) := by decide +kernel
theorem dL_sound_232 : decode cL_sound 232 = .ok (.iload 15, 2) := by decide +kernel
theorem dL_sound_234 : decode cL_sound 234 = .ok (.dup2, 1) := by decide +kernel
theorem dL_sound_235 : decode cL_sound 235 = .ok (.iaload, 1) := by decide +kernel
theorem dL_sound_236 : decode cL_sound 236 = .ok (.iconst 1, 1) := by decide +kernel
theorem dL_sound_237 : decode cL_sound 237 = .ok (.iadd, 1) := by decide +kernel
theorem dL_sound_238 : decode cL_sound 238 = .ok (.iastore, 1) := by decide +kernel
theorem dL_sound_239 : decode cL_sound 239 = .ok (.iload 15, 2) := by decide +kernel
theorem dL_sound_241 : decode cL_sound 241 = .ok (.bipush 13, 2) := by decide +kernel
theorem dL_sound_243 : decode cL_sound 243 = .ok (.if_icmp .gt 12, 3) := by decide +kernel
theorem dL_sound_246 : decode cL_sound 246 = .ok (.aload 9, 2) := by decide +kernel
theorem dL_sound_248 : decode cL_sound 248 = .ok (.iload 15, 2) := by decide +kernel
theorem dL_sound_250 : decode cL_sound 250 = .ok (.iaload, 1) := by decide +kernel
theorem dL_sound_251 : decode cL_sound 251 = .ok (.iconst 2, 1) := by decide +kernel
theorem dL_sound_252 : decode cL_sound 252 = .ok (.if_icmp .le 5, 3) := by decide +kernel
theorem dL_sound_255 : decode cL_sound 255 = .ok (.iconst 0, 1) := by decide +kernel
theorem dL_sound_256 : decode cL_sound 256 = .ok (.ireturn, 1) := by decide +kernel
theorem dL_sound_257 : decode cL_sound 257 = .ok (.iinc 15 1, 3) := by decide +kernel
theorem dL_sound_260 : decode cL_sound 260 = .ok (.goto (-45), 3) := by decide +kernel
theorem dL_sound_263 : decode cL_sound 263 = .ok (.goto 45, 3) := by decide +kernel
theorem dL_sound_266 : decode cL_sound 266 = .ok (.iload 12, 2) := by decide +kernel
theorem dL_sound_268 : decode cL_sound 268 = .ok (.ifCond .ge 38, 3) := by decide +kernel
theorem dL_sound_271 : decode cL_sound 271 = .ok (.iload 14, 2) := by decide +kernel
theorem dL_sound_273 : decode cL_sound 273 = .ok (.ifCond .lt 33, 3) := by decide +kernel
theorem dL_sound_276 : decode cL_sound 276 = .ok (.iload 14, 2) := by decide +kernel
theorem dL_sound_278 : decode cL_sound 278 = .ok (.iconst 5, 1) := by decide +kernel
theorem dL_sound_279 : decode cL_sound 279 = .ok (.if_icmp .gt 27, 3) := by decide +kernel
theorem dL_sound_282 : decode cL_sound 282 = .ok (.iload 14, 2) := by decide +kernel
theorem dL_sound_284 : decode cL_sound 284 = .ok (.iconst 3, 1) := by decide +kernel
theorem dL_sound_285 : decode cL_sound 285 = .ok (.if_icmp .le 7, 3) := by decide +kernel
theorem dL_sound_288 : decode cL_sound 288 = .ok (.iconst 1, 1) := by decide +kernel
theorem dL_sound_289 : decode cL_sound 289 = .ok (.goto 4, 3) := by decide +kernel
theorem dL_sound_292 : decode cL_sound 292 = .ok (.iconst 0, 1) := by decide +kernel
theorem dL_sound_293 : decode cL_sound 293 = .ok (.iload 13, 2) := by decide +kernel
theorem dL_sound_295 : decode cL_sound 295 = .ok (.ifCond .lt 7, 3) := by decide +kernel
theorem dL_sound_298 : decode cL_sound 298 = .ok (.iconst 1, 1) := by decide +kernel
theorem dL_sound_299 : decode cL_sound 299 = .ok (.goto 4, 3) := by decide +kernel
theorem dL_sound_302 : decode cL_sound 302 = .ok (.iconst 0, 1) := by decide +kernel
theorem dL_sound_303 : decode cL_sound 303 = .ok (.if_icmp .eq 5, 3) := by decide +kernel
theorem dL_sound_306 : decode cL_sound 306 = .ok (.iconst 0, 1) := by decide +kernel
theorem dL_sound_307 : decode cL_sound 307 = .ok (.ireturn, 1) := by decide +kernel
theorem dL_sound_308 : decode cL_sound 308 = .ok (.aload_n 0, 1) := by decide +kernel
theorem dL_sound_309 : decode cL_sound 309 = .ok (.iload 10, 2) := by decide +kernel
theorem dL_sound_311 : decode cL_sound 311 = .ok (.iconst 0, 1) := by decide +kernel
theorem dL_sound_312 : decode cL_sound 312 = .ok (.invokevirtual 73, 3) := by decide +kernel
theorem dL_sound_315 : decode cL_sound 315 = .ok (.aload_n 0, 1) := by decide +kernel
theorem dL_sound_316 : decode cL_sound 316 = .ok (.iload 10, 2) := by decide +kernel
theorem dL_sound_318 : decode cL_sound 318 = .ok (.iconst 1, 1) := by decide +kernel
theorem dL_sound_319 : decode cL_sound 319 = .ok (.invokevirtual 73, 3) := by decide +kernel
theorem dL_sound_322 : decode cL_sound 322 = .ok (.aload_n 0, 1) := by decide +kernel
theorem dL_sound_323 : decode cL_sound 323 = .ok (.iload 10, 2) := by decide +kernel
theorem dL_sound_325 : decode cL_sound 325 = .ok (.iconst 2, 1) := by decide +kernel
theorem dL_sound_326 : decode cL_sound 326 = .ok (.invokevirtual 73, 3) := by decide +kernel
theorem dL_sound_329 : decode cL_sound 329 = .ok (.lsub, 1) := by decide +kernel
theorem dL_sound_330 : decode cL_sound 330 = .ok (.aload_n 0, 1) := by decide +kernel
theorem dL_sound_331 : decode cL_sound 331 = .ok (.iload 10, 2) := by decide +kernel
theorem dL_sound_333 : decode cL_sound 333 = .ok (.iconst 3, 1) := by decide +kernel
theorem dL_sound_334 : decode cL_sound 334 = .ok (.invokevirtual 73, 3) := by decide +kernel
theorem dL_sound_337 : decode cL_sound 337 = .ok (.lsub, 1) := by decide +kernel
theorem dL_sound_338 : decode cL_sound 338 = .ok (.aload_n 0, 1) := by decide +kernel
theorem dL_sound_339 : decode cL_sound 339 = .ok (.iload 10, 2) := by decide +kernel
theorem dL_sound_341 : decode cL_sound 341 = .ok (.iconst 4, 1) := by decide +kernel
theorem dL_sound_342 : decode cL_sound 342 = .ok (.invokevirtual 73, 3) := by decide +kernel
theorem dL_sound_345 : decode cL_sound 345 = .ok (.lsub, 1) := by decide +kernel
theorem dL_sound_346 : decode cL_sound 346 = .ok (.lcmp, 1) := by decide +kernel
theorem dL_sound_347 : decode cL_sound 347 = .ok (.ifCond .ne 25, 3) := by decide +kernel
theorem dL_sound_350 : decode cL_sound 350 = .ok (.aload_n 0, 1) := by decide +kernel
theorem dL_sound_351 : decode cL_sound 351 = .ok (.iload 10, 2) := by decide +kernel
theorem dL_sound_353 : decode cL_sound 353 = .ok (.aload_n 0, 1) := by decide +kernel
theorem dL_sound_354 : decode cL_sound 354 = .ok (.iconst 0, 1) := by decide +kernel
theorem dL_sound_355 : decode cL_sound 355 = .ok (.invokevirtual 60, 3) := by decide +kernel
theorem dL_sound_358 : decode cL_sound 358 = .ok (.invokevirtual 147, 3) := by decide +kernel
theorem dL_sound_361 : decode cL_sound 361 = .ok (.aload_n 0, 1) := by decide +kernel
theorem dL_sound_362 : decode cL_sound 362 = .ok (.iload 10, 2) := by decide +kernel
theorem dL_sound_364 : decode cL_sound 364 = .ok (.bipush 9, 2) := by decide +kernel
theorem dL_sound_366 : decode cL_sound 366 = .ok (.invokevirtual 66, 3) := by decide +kernel
theorem dL_sound_369 : decode cL_sound 369 = .ok (.if_icmp .eq 5, 3) := by decide +kernel
theorem dL_sound_372 : decode cL_sound 372 = .ok (.iconst 0, 1) := by decide +kernel
theorem dL_sound_373 : decode cL_sound 373 = .ok (.ireturn, 1) := by decide +kernel
theorem dL_sound_374 : decode cL_sound 374 = .ok (.aload_n 0, 1) := by decide +kernel
theorem dL_sound_375 : decode cL_sound 375 = .ok (.iload 10, 2) := by decide +kernel
theorem dL_sound_377 : decode cL_sound 377 = .ok (.bipush 9, 2) := by decide +kernel
theorem dL_sound_379 : decode cL_sound 379 = .ok (.invokevirtual 66, 3) := by decide +kernel
theorem dL_sound_382 : decode cL_sound 382 = .ok (.istore 15, 2) := by decide +kernel
theorem dL_sound_384 : decode cL_sound 384 = .ok (.iconst 1, 1) := by decide +kernel
theorem dL_sound_385 : decode cL_sound 385 = .ok (.istore 16, 2) := by decide +kernel
theorem dL_sound_387 : decode cL_sound 387 = .ok (.iload 16, 2) := by decide +kernel
theorem dL_sound_389 : decode cL_sound 389 = .ok (.bipush 13, 2) := by decide +kernel
theorem dL_sound_391 : decode cL_sound 391 = .ok (.if_icmp .ge 43, 3) := by decide +kernel
theorem dL_sound_394 : decode cL_sound 394 = .ok (.aload_n 0, 1) := by decide +kernel
theorem dL_sound_395 : decode cL_sound 395 = .ok (.iload 10, 2) := by decide +kernel
theorem dL_sound_397 : decode cL_sound 397 = .ok (.aload_n 0, 1) := by decide +kernel
theorem dL_sound_398 : decode cL_sound 398 = .ok (.iconst 0, 1) := by decide +kernel
theorem dL_sound_399 : decode cL_sound 399 = .ok (.invokevirtual 60, 3) := by decide +kernel
theorem dL_sound_402 : decode cL_sound 402 = .ok (.iload 16, 2) := by decide +kernel
theorem dL_sound_404 : decode cL_sound 404 = .ok (.iadd, 1) := by decide +kernel
theorem dL_sound_405 : decode cL_sound 405 = .ok (.invokevirtual 147, 3) := by decide +kernel
theorem dL_sound_408 : decode cL_sound 408 = .ok (.istore 17, 2) := by decide +kernel
theorem dL_sound_410 : decode cL_sound 410 = .ok (.iload 17, 2) := by decide +kernel
theorem dL_sound_412 : decode cL_sound 412 = .ok (.ifCond .lt 10, 3) := by decide +kernel
theorem dL_sound_415 : decode cL_sound 415 = .ok (.iload 17, 2) := by decide +kernel
theorem dL_sound_417 : decode cL_sound 417 = .ok (.iload 15, 2) := by decide +kernel
theorem dL_sound_419 : decode cL_sound 419 = .ok (.if_icmp .le 5, 3) := by decide +kernel
theorem dL_sound_422 : decode cL_sound 422 = .ok (.iconst 0, 1) := by decide +kernel
theorem dL_sound_423 : decode cL_sound 423 = .ok (.ireturn, 1) := by decide +kernel
theorem dL_sound_424 : decode cL_sound 424 = .ok (.iload 17, 2) := by decide +kernel
theorem dL_sound_426 : decode cL_sound 426 = .ok (.istore 15, 2) := by decide +kernel
theorem dL_sound_428 : decode cL_sound 428 = .ok (.iinc 16 3, 3) := by decide +kernel
theorem dL_sound_431 : decode cL_sound 431 = .ok (.goto (-44), 3) := by decide +kernel
theorem dL_sound_434 : decode cL_sound 434 = .ok (.aload_n 0, 1) := by decide +kernel
theorem dL_sound_435 : decode cL_sound 435 = .ok (.iload 10, 2) := by decide +kernel
theorem dL_sound_437 : decode cL_sound 437 = .ok (.aload_n 0, 1) := by decide +kernel
theorem dL_sound_438 : decode cL_sound 438 = .ok (.iconst 0, 1) := by decide +kernel
theorem dL_sound_439 : decode cL_sound 439 = .ok (.invokevirtual 60, 3) := by decide +kernel
theorem dL_sound_442 : decode cL_sound 442 = .ok (.aload_n 0, 1) := by decide +kernel
theorem dL_sound_443 : decode cL_sound 443 = .ok (.bipush 13, 2) := by decide +kernel
theorem dL_sound_445 : decode cL_sound 445 = .ok (.invokevirtual 60, 3) := by decide +kernel
theorem dL_sound_448 : decode cL_sound 448 = .ok (.iadd, 1) := by decide +kernel
theorem dL_sound_449 : decode cL_sound 449 = .ok (.invokevirtual 147, 3) := by decide +kernel
theorem dL_sound_452 : decode cL_sound 452 = .ok (.ifCond .ne 41, 3) := by decide +kernel
theorem dL_sound_455 : decode cL_sound 455 = .ok (.aload_n 0, 1) := by decide +kernel
theorem dL_sound_456 : decode cL_sound 456 = .ok (.iload 10, 2) := by decide +kernel
theorem dL_sound_458 : decode cL_sound 458 = .ok (.aload_n 0, 1) := by decide +kernel
theorem dL_sound_459 : decode cL_sound 459 = .ok (.iconst 0, 1) := by decide +kernel
theorem dL_sound_460 : decode cL_sound 460 = .ok (.invokevirtual 60, 3) := by decide +kernel
theorem dL_sound_463 : decode cL_sound 463 = .ok (.iconst 1, 1) := by decide +kernel
theorem dL_sound_464 : decode cL_sound 464 = .ok (.isub, 1) := by decide +kernel
theorem dL_sound_465 : decode cL_sound 465 = .ok (.invokevirtual 147, 3) := by decide +kernel
theorem dL_sound_468 : decode cL_sound 468 = .ok (.bipush (-2), 2) := by decide +kernel
theorem dL_sound_470 : decode cL_sound 470 = .ok (.if_icmp .ne 23, 3) := by decide +kernel
theorem dL_sound_473 : decode cL_sound 473 = .ok (.aload_n 0, 1) := by decide +kernel
theorem dL_sound_474 : decode cL_sound 474 = .ok (.iload 10, 2) := by decide +kernel
theorem dL_sound_476 : decode cL_sound 476 = .ok (.aload_n 0, 1) := by decide +kernel
theorem dL_sound_477 : decode cL_sound 477 = .ok (.iconst 0, 1) := by decide +kernel
theorem dL_sound_478 : decode cL_sound 478 = .ok (.invokevirtual 60, 3) := by decide +kernel
theorem dL_sound_481 : decode cL_sound 481 = .ok (.sipush 401, 3) := by decide +kernel
theorem dL_sound_484 : decode cL_sound 484 = .ok (.iadd, 1) := by decide +kernel
theorem dL_sound_485 : decode cL_sound 485 = .ok (.invokevirtual 147, 3) := by decide +kernel
theorem dL_sound_488 : decode cL_sound 488 = .ok (.bipush (-2), 2) := by decide +kernel
theorem dL_sound_490 : decode cL_sound 490 = .ok (.if_icmp .eq 5, 3) := by decide +kernel
theorem dL_sound_493 : decode cL_sound 493 = .ok (.iconst 0, 1) := by decide +kernel
theorem dL_sound_494 : decode cL_sound 494 = .ok (.ireturn, 1) := by decide +kernel
theorem dL_sound_495 : decode cL_sound 495 = .ok (.iinc 10 1, 3) := by decide +kernel
theorem dL_sound_498 : decode cL_sound 498 = .ok (.goto (-460), 3) := by decide +kernel
theorem dL_sound_501 : decode cL_sound 501 = .ok (.iconst 0, 1) := by decide +kernel
theorem dL_sound_502 : decode cL_sound 502 = .ok (.istore 10, 2) := by decide +kernel
theorem dL_sound_504 : decode cL_sound 504 = .ok (.iconst 0, 1) := by decide +kernel
theorem dL_sound_505 : decode cL_sound 505 = .ok (.istore 11, 2) := by decide +kernel
theorem dL_sound_507 : decode cL_sound 507 = .ok (.iconst 0, 1) := by decide +kernel
theorem dL_sound_508 : decode cL_sound 508 = .ok (.istore 12, 2) := by decide +kernel
theorem dL_sound_510 : decode cL_sound 510 = .ok (.iload 12, 2) := by decide +kernel
theorem dL_sound_512 : decode cL_sound 512 = .ok (.iload_n 2, 1) := by decide +kernel
theorem dL_sound_513 : decode cL_sound 513 = .ok (.if_icmp .ge 198, 3) := by decide +kernel
theorem dL_sound_516 : decode cL_sound 516 = .ok (.aload_n 0, 1) := by decide +kernel
theorem dL_sound_517 : decode cL_sound 517 = .ok (.iload 12, 2) := by decide +kernel
theorem dL_sound_519 : decode cL_sound 519 = .ok (.iconst 3, 1) := by decide +kernel
theorem dL_sound_520 : decode cL_sound 520 = .ok (.invokevirtual 90, 3) := by decide +kernel
theorem dL_sound_523 : decode cL_sound 523 = .ok (.istore 13, 2) := by decide +kernel
theorem dL_sound_525 : decode cL_sound 525 = .ok (.iload 10, 2) := by decide +kernel
theorem dL_sound_527 : decode cL_sound 527 = .ok (.aload_n 0, 1) := by decide +kernel
theorem dL_sound_528 : decode cL_sound 528 = .ok (.iload 12, 2) := by decide +kernel
theorem dL_sound_530 : decode cL_sound 530 = .ok (.iconst 1, 1) := by decide +kernel
theorem dL_sound_531 : decode cL_sound 531 = .ok (.invokevirtual 90, 3) := by decide +kernel
theorem dL_sound_534 : decode cL_sound 534 = .ok (.iadd, 1) := by decide +kernel
theorem dL_sound_535 : decode cL_sound 535 = .ok (.istore 10, 2) := by decide +kernel
theorem dL_sound_537 : decode cL_sound 537 = .ok (.iload 11, 2) := by decide +kernel
theorem dL_sound_539 : decode cL_sound 539 = .ok (.aload_n 0, 1) := by decide +kernel
theorem dL_sound_540 : decode cL_sound 540 = .ok (.iload 12, 2) := by decide +kernel
theorem dL_sound_542 : decode cL_sound 542 = .ok (.iconst 2, 1) := by decide +kernel
theorem dL_sound_543 : decode cL_sound 543 = .ok (.invokevirtual 90, 3) := by decide +kernel
theorem dL_sound_546 : decode cL_sound 546 = .ok (.iadd, 1) := by decide +kernel
theorem dL_sound_547 : decode cL_sound 547 = .ok (.istore 11, 2) := by decide +kernel
theorem dL_sound_549 : decode cL_sound 549 = .ok (.iload 13, 2) := by decide +kernel
theorem dL_sound_551 : decode cL_sound 551 = .ok (.ifCond .lt 18, 3) := by decide +kernel
theorem dL_sound_554 : decode cL_sound 554 = .ok (.aload_n 0, 1) := by decide +kernel
theorem dL_sound_555 : decode cL_sound 555 = .ok (.iload 13, 2) := by decide +kernel
theorem dL_sound_557 : decode cL_sound 557 = .ok (.bipush 12, 2) := by decide +kernel
theorem dL_sound_559 : decode cL_sound 559 = .ok (.invokevirtual 66, 3) := by decide +kernel
theorem dL_sound_562 : decode cL_sound 562 = .ok (.iload 12, 2) := by decide +kernel
theorem dL_sound_564 : decode cL_sound 564 = .ok (.if_icmp .eq 5, 3) := by decide +kernel
theorem dL_sound_567 : decode cL_sound 567 = .ok (.iconst 0, 1) := by decide +kernel
theorem dL_sound_568 : decode cL_sound 568 = .ok (.ireturn, 1) := by decide +kernel
theorem dL_sound_569 : decode cL_sound 569 = .ok (.iconst 0, 1) := by decide +kernel
theorem dL_sound_570 : decode cL_sound 570 = .ok (.istore 14, 2) := by decide +kernel
theorem dL_sound_572 : decode cL_sound 572 = .ok (.iload 14, 2) := by decide +kernel
theorem dL_sound_574 : decode cL_sound 574 = .ok (.iload_n 1, 1) := by decide +kernel
theorem dL_sound_575 : decode cL_sound 575 = .ok (.if_icmp .ge 130, 3) := by decide +kernel
theorem dL_sound_578 : decode cL_sound 578 = .ok (.iload 13, 2) := by decide +kernel
theorem dL_sound_580 : decode cL_sound 580 = .ok (.ifCond .lt 14, 3) := by decide +kernel
theorem dL_sound_583 : decode cL_sound 583 = .ok (.iload 13, 2) := by decide +kernel
theorem dL_sound_585 : decode cL_sound 585 = .ok (.iload 14, 2) := by decide +kernel
theorem dL_sound_587 : decode cL_sound 587 = .ok (.if_icmp .eq 7, 3) := by decide +kernel
theorem dL_sound_590 : decode cL_sound 590 = .ok (.iconst 1, 1) := by decide +kernel
theorem dL_sound_591 : decode cL_sound 591 = .ok (.goto 4, 3) := by decide +kernel
theorem dL_sound_594 : decode cL_sound 594 = .ok (.iconst 0, 1) := by decide +kernel
theorem dL_sound_595 : decode cL_sound 595 = .ok (.istore 15, 2) := by decide +kernel
theorem dL_sound_597 : decode cL_sound 597 = .ok (.iload 12, 2) := by decide +kernel
theorem dL_sound_599 : decode cL_sound 599 = .ok (.iconst 1, 1) := by decide +kernel
theorem dL_sound_600 : decode cL_sound 600 = .ok (.isub, 1) := by decide +kernel
theorem dL_sound_601 : decode cL_sound 601 = .ok (.istore 16, 2) := by decide +kernel
theorem dL_sound_603 : decode cL_sound 603 = .ok (.iload 16, 2) := by decide +kernel
theorem dL_sound_605 : decode cL_sound 605 = .ok (.iload 12, 2) := by decide +kernel
theorem dL_sound_607 : decode cL_sound 607 = .ok (.iconst 1, 1) := by decide +kernel
theorem dL_sound_608 : decode cL_sound 608 = .ok (.iadd, 1) := by decide +kernel
theorem dL_sound_609 : decode cL_sound 609 = .ok (.if_icmp .gt 75, 3) := by decide +kernel
theorem dL_sound_612 : decode cL_sound 612 = .ok (.iload 15, 2) := by decide +kernel
theorem dL_sound_614 : decode cL_sound 614 = .ok (.ifCond .ne 70, 3) := by decide +kernel
theorem dL_sound_617 : decode cL_sound 617 = .ok (.iload 16, 2) := by decide +kernel
theorem dL_sound_619 : decode cL_sound 619 = .ok (.ifCond .lt 9, 3) := by decide +kernel
theorem dL_sound_622 : decode cL_sound 622 = .ok (.iload 16, 2) := by decide +kernel
theorem dL_sound_624 : decode cL_sound 624 = .ok (.iload_n 2, 1) := by decide +kernel
theorem dL_sound_625 : decode cL_sound 625 = .ok (.if_icmp .lt 8, 3) := by decide +kernel
theorem dL_sound_628 : decode cL_sound 628 = .ok (.bipush (-6), 2) := by decide +kernel
theorem dL_sound_630 : decode cL_sound 630 = .ok (.goto 10, 3) := by decide +kernel
theorem dL_sound_633 : decode cL_sound 633 = .ok (.aload_n 0, 1) := by decide +kernel
theorem dL_sound_634 : decode cL_sound 634 = .ok (.iload 16, 2) := by decide +kernel
theorem dL_sound_636 : decode cL_sound 636 = .ok (.iconst 3, 1) := by decide +kernel
theorem dL_sound_637 : decode cL_sound 637 = .ok (.invokevirtual 90, 3) := by decide +kernel
theorem dL_sound_640 : decode cL_sound 640 = .ok (.istore 17, 2) := by decide +kernel
theorem dL_sound_642 : decode cL_sound 642 = .ok (.iload 17, 2) := by decide +kernel
theorem dL_sound_644 : decode cL_sound 644 = .ok (.ifCond .lt 31, 3) := by decide +kernel
theorem dL_sound_647 : decode cL_sound 647 = .ok (.iload 17, 2) := by decide +kernel
theorem dL_sound_649 : decode cL_sound 649 = .ok (.iload 14, 2) := by decide +kernel
theorem dL_sound_651 : decode cL_sound 651 = .ok (.if_icmp .eq 24, 3) := by decide +kernel
theorem dL_sound_654 : decode cL_sound 654 = .ok (.aload_n 0, 1) := by decide +kernel
theorem dL_sound_655 : decode cL_sound 655 = .ok (.iload 17, 2) := by decide +kernel
theorem dL_sound_657 : decode cL_sound 657 = .ok (.iconst 0, 1) := by decide +kernel
theorem dL_sound_658 : decode cL_sound 658 = .ok (.invokevirtual 66, 3) := by decide +kernel
theorem dL_sound_661 : decode cL_sound 661 = .ok (.aload_n 0, 1) := by decide +kernel
theorem dL_sound_662 : decode cL_sound 662 = .ok (.iload 14, 2) := by decide +kernel
theorem dL_sound_664 : decode cL_sound 664 = .ok (.iconst 0, 1) := by decide +kernel
theorem dL_sound_665 : decode cL_sound 665 = .ok (.invokevirtual 66, 3) := by decide +kernel
theorem dL_sound_668 : decode cL_sound 668 = .ok (.if_icmp .ne 7, 3) := by decide +kernel
theorem dL_sound_671 : decode cL_sound 671 = .ok (.iconst 2, 1) := by decide +kernel
theorem dL_sound_672 : decode cL_sound 672 = .ok (.goto 4, 3) := by decide +kernel
theorem dL_sound_675 : decode cL_sound 675 = .ok (.iconst 0, 1) := by decide +kernel
theorem dL_sound_676 : decode cL_sound 676 = .ok (.istore 15, 2) := by decide +kernel
theorem dL_sound_678 : decode cL_sound 678 = .ok (.iinc 16 2, 3) := by decide +kernel
theorem dL_sound_681 : decode cL_sound 681 = .ok (.goto (-78), 3) := by decide +kernel
theorem dL_sound_684 : decode cL_sound 684 = .ok (.aload_n 0, 1) := by decide +kernel
theorem dL_sound_685 : decode cL_sound 685 = .ok (.iload 14, 2) := by decide +kernel
theorem dL_sound_687 : decode cL_sound 687 = .ok (.iload 12, 2) := by decide +kernel
theorem dL_sound_689 : decode cL_sound 689 = .ok (.invokevirtual 144, 3) := by decide +kernel
theorem dL_sound_692 : decode cL_sound 692 = .ok (.iload 15, 2) := by decide +kernel
theorem dL_sound_694 : decode cL_sound 694 = .ok (.if_icmp .eq 5, 3) := by decide +kernel
theorem dL_sound_697 : decode cL_sound 697 = .ok (.iconst 0, 1) := by decide +kernel
theorem dL_sound_698 : decode cL_sound 698 = .ok (.ireturn, 1) := by decide +kernel
theorem dL_sound_699 : decode cL_sound 699 = .ok (.iinc 14 1, 3) := by decide +kernel
theorem dL_sound_702 : decode cL_sound 702 = .ok (.goto (-130), 3) := by decide +kernel
theorem dL_sound_705 : decode cL_sound 705 = .ok (.iinc 12 1, 3) := by decide +kernel
theorem dL_sound_708 : decode cL_sound 708 = .ok (.goto (-198), 3) := by decide +kernel
theorem dL_sound_711 : decode cL_sound 711 = .ok (.iload_n 3, 1) := by decide +kernel
theorem dL_sound_712 : decode cL_sound 712 = .ok (.iload 10, 2) := by decide +kernel
theorem dL_sound_714 : decode cL_sound 714 = .ok (.if_icmp .ne 74, 3) := by decide +kernel
theorem dL_sound_717 : decode cL_sound 717 = .ok (.iload 4, 2) := by decide +kernel
theorem dL_sound_719 : decode cL_sound 719 = .ok (.iload 11, 2) := by decide +kernel
theorem dL_sound_721 : decode cL_sound 721 = .ok (.if_icmp .ne 67, 3) := by decide +kernel
theorem dL_sound_724 : decode cL_sound 724 = .ok (.aload_n 0, 1) := by decide +kernel
theorem dL_sound_725 : decode cL_sound 725 = .ok (.bipush 18, 2) := by decide +kernel
theorem dL_sound_727 : decode cL_sound 727 = .ok (.invokevirtual 60, 3) := by decide +kernel
theorem dL_sound_730 : decode cL_sound 730 = .ok (.iload 5, 2) := by decide +kernel
theorem dL_sound_732 : decode cL_sound 732 = .ok (.if_icmp .ne 56, 3) := by decide +kernel
theorem dL_sound_735 : decode cL_sound 735 = .ok (.iload 6, 2) := by decide +kernel
theorem dL_sound_737 : decode cL_sound 737 = .ok (.iload 7, 2) := by decide +kernel
theorem dL_sound_739 : decode cL_sound 739 = .ok (.iconst 1, 1) := by decide +kernel
theorem dL_sound_740 : decode cL_sound 740 = .ok (.iadd, 1) := by decide +kernel
theorem dL_sound_741 : decode cL_sound 741 = .ok (.if_icmp .ne 47, 3) := by decide +kernel
theorem dL_sound_744 : decode cL_sound 744 = .ok (.aload_n 0, 1) := by decide +kernel
theorem dL_sound_745 : decode cL_sound 745 = .ok (.iconst 4, 1) := by decide +kernel
theorem dL_sound_746 : decode cL_sound 746 = .ok (.invokevirtual 60, 3) := by decide +kernel
theorem dL_sound_749 : decode cL_sound 749 = .ok (.iload 8, 2) := by decide +kernel
theorem dL_sound_751 : decode cL_sound 751 = .ok (.if_icmp .ne 37, 3) := by decide +kernel
theorem dL_sound_754 : decode cL_sound 754 = .ok (.aload_n 0, 1) := by decide +kernel
theorem dL_sound_755 : decode cL_sound 755 = .ok (.iload_n 1, 1) := by decide +kernel
theorem dL_sound_756 : decode cL_sound 756 = .ok (.iconst 0, 1) := by decide +kernel
theorem dL_sound_757 : decode cL_sound 757 = .ok (.invokevirtual 66, 3) := by decide +kernel
theorem dL_sound_760 : decode cL_sound 760 = .ok (.iconst (-1), 1) := by decide +kernel
theorem dL_sound_761 : decode cL_sound 761 = .ok (.if_icmp .ne 27, 3) := by decide +kernel
theorem dL_sound_764 : decode cL_sound 764 = .ok (.aload_n 0, 1) := by decide +kernel
theorem dL_sound_765 : decode cL_sound 765 = .ok (.iload_n 2, 1) := by decide +kernel
theorem dL_sound_766 : decode cL_sound 766 = .ok (.iconst 0, 1) := by decide +kernel
theorem dL_sound_767 : decode cL_sound 767 = .ok (.invokevirtual 90, 3) := by decide +kernel
theorem dL_sound_770 : decode cL_sound 770 = .ok (.iconst (-1), 1) := by decide +kernel
theorem dL_sound_771 : decode cL_sound 771 = .ok (.if_icmp .ne 17, 3) := by decide +kernel
theorem dL_sound_774 : decode cL_sound 774 = .ok (.aload_n 0, 1) := by decide +kernel
theorem dL_sound_775 : decode cL_sound 775 = .ok (.iload_n 1, 1) := by decide +kernel
theorem dL_sound_776 : decode cL_sound 776 = .ok (.iconst 0, 1) := by decide +kernel
theorem dL_sound_777 : decode cL_sound 777 = .ok (.invokevirtual 144, 3) := by decide +kernel
theorem dL_sound_780 : decode cL_sound 780 = .ok (.iconst (-1), 1) := by decide +kernel
theorem dL_sound_781 : decode cL_sound 781 = .ok (.if_icmp .ne 7, 3) := by decide +kernel
theorem dL_sound_784 : decode cL_sound 784 = .ok (.iconst 1, 1) := by decide +kernel
theorem dL_sound_785 : decode cL_sound 785 = .ok (.goto 4, 3) := by decide +kernel
theorem dL_sound_788 : decode cL_sound 788 = .ok (.iconst 0, 1) := by decide +kernel
theorem dL_sound_789 : decode cL_sound 789 = .ok (.ireturn, 1) := by decide +kernel
theorem dL_comes_0 : decode cL_comes 0 = .ok (.aload_n 0, 1) := by decide +kernel
theorem dL_comes_1 : decode cL_comes 1 = .ok (.iconst 0, 1) := by decide +kernel
theorem dL_comes_2 : decode cL_comes 2 = .ok (.invokevirtual 60, 3) := by decide +kernel
theorem dL_comes_5 : decode cL_comes 5 = .ok (.istore_n 2, 1) := by decide +kernel
theorem dL_comes_6 : decode cL_comes 6 = .ok (.iload_n 1, 1) := by decide +kernel
theorem dL_comes_7 : decode cL_comes 7 = .ok (.aload_n 0, 1) := by decide +kernel
theorem dL_comes_8 : decode cL_comes 8 = .ok (.iconst 1, 1) := by decide +kernel
theorem dL_comes_9 : decode cL_comes 9 = .ok (.invokevirtual 60, 3) := by decide +kernel
theorem dL_comes_12 : decode cL_comes 12 = .ok (.invokestatic 23, 3) := by decide +kernel
theorem dL_comes_15 : decode cL_comes 15 = .ok (.istore_n 3, 1) := by decide +kernel
theorem dL_comes_16 : decode cL_comes 16 = .ok (.iload_n 1, 1) := by decide +kernel
theorem dL_comes_17 : decode cL_comes 17 = .ok (.iconst 3, 1) := by decide +kernel
theorem dL_comes_18 : decode cL_comes 18 = .ok (.ishr, 1) := by decide +kernel
theorem dL_comes_19 : decode cL_comes 19 = .ok (.aload_n 0, 1) := by decide +kernel
theorem dL_comes_20 : decode cL_comes 20 = .ok (.iconst 2, 1) := by decide +kernel
theorem dL_comes_21 : decode cL_comes 21 = .ok (.invokevirtual 60, 3) := by decide +kernel
theorem dL_comes_24 : decode cL_comes 24 = .ok (.invokestatic 23, 3) := by decide +kernel
theorem dL_comes_27 : decode cL_comes 27 = .ok (.istore 4, 2) := by decide +kernel
theorem dL_comes_29 : decode cL_comes 29 = .ok (.iconst 1, 1) := by decide +kernel
theorem dL_comes_30 : decode cL_comes 30 = .ok (.iload_n 1, 1) := by decide +kernel
theorem dL_comes_31 : decode cL_comes 31 = .ok (.bipush 6, 2) := by decide +kernel
theorem dL_comes_33 : decode cL_comes 33 = .ok (.ishr, 1) := by decide +kernel
theorem dL_comes_34 : decode cL_comes 34 = .ok (.bipush 20, 2) := by decide +kernel
theorem dL_comes_36 : decode cL_comes 36 = .ok (.invokestatic 23, 3) := by decide +kernel
theorem dL_comes_39 : decode cL_comes 39 = .ok (.iadd, 1) := by decide +kernel
theorem dL_comes_40 : decode cL_comes 40 = .ok (.istore 5, 2) := by decide +kernel
theorem dL_comes_42 : decode cL_comes 42 = .ok (.aload_n 0, 1) := by decide +kernel
theorem dL_comes_43 : decode cL_comes 43 = .ok (.iload_n 3, 1) := by decide +kernel
theorem dL_comes_44 : decode cL_comes 44 = .ok (.invokevirtual 150, 3) := by decide +kernel
theorem dL_comes_47 : decode cL_comes 47 = .ok (.istore 6, 2) := by decide +kernel
theorem dL_comes_49 : decode cL_comes 49 = .ok (.aload_n 0, 1) := by decide +kernel
theorem dL_comes_50 : decode cL_comes 50 = .ok (.iload_n 3, 1) := by decide +kernel
theorem dL_comes_51 : decode cL_comes 51 = .ok (.iload 4, 2) := by decide +kernel
theorem dL_comes_53 : decode cL_comes 53 = .ok (.invokevirtual 153, 3) := by decide +kernel
theorem dL_comes_56 : decode cL_comes 56 = .ok (.istore 7, 2) := by decide +kernel
theorem dL_comes_58 : decode cL_comes 58 = .ok (.aload_n 0, 1) := by decide +kernel
theorem dL_comes_59 : decode cL_comes 59 = .ok (.iload_n 3, 1) := by decide +kernel
theorem dL_comes_60 : decode cL_comes 60 = .ok (.invokevirtual 156, 3) := by decide +kernel
theorem dL_comes_63 : decode cL_comes 63 = .ok (.istore 8, 2) := by decide +kernel
theorem dL_comes_65 : decode cL_comes 65 = .ok (.aload_n 0, 1) := by decide +kernel
theorem dL_comes_66 : decode cL_comes 66 = .ok (.iload_n 3, 1) := by decide +kernel
theorem dL_comes_67 : decode cL_comes 67 = .ok (.iload 5, 2) := by decide +kernel
theorem dL_comes_69 : decode cL_comes 69 = .ok (.invokevirtual 159, 3) := by decide +kernel
theorem dL_comes_72 : decode cL_comes 72 = .ok (.istore 9, 2) := by decide +kernel
theorem dL_comes_74 : decode cL_comes 74 = .ok (.aload_n 0, 1) := by decide +kernel
theorem dL_comes_75 : decode cL_comes 75 = .ok (.iload_n 3, 1) := by decide +kernel
theorem dL_comes_76 : decode cL_comes 76 = .ok (.iload_n 1, 1) := by decide +kernel
theorem dL_comes_77 : decode cL_comes 77 = .ok (.iconst 2, 1) := by decide +kernel
theorem dL_comes_78 : decode cL_comes 78 = .ok (.invokestatic 23, 3) := by decide +kernel
theorem dL_comes_81 : decode cL_comes 81 = .ok (.ifCond .ne 8, 3) := by decide +kernel
theorem dL_comes_84 : decode cL_comes 84 = .ok (.bipush (-6), 2) := by decide +kernel
theorem dL_comes_86 : decode cL_comes 86 = .ok (.goto 5, 3) := by decide +kernel
theorem dL_comes_89 : decode cL_comes 89 = .ok (.iload 4, 2) := by decide +kernel
theorem dL_comes_91 : decode cL_comes 91 = .ok (.invokevirtual 162, 3) := by decide +kernel
theorem dL_comes_94 : decode cL_comes 94 = .ok (.istore 10, 2) := by decide +kernel
theorem dL_comes_96 : decode cL_comes 96 = .ok (.aload_n 0, 1) := by decide +kernel
theorem dL_comes_97 : decode cL_comes 97 = .ok (.iconst 3, 1) := by decide +kernel
theorem dL_comes_98 : decode cL_comes 98 = .ok (.invokevirtual 60, 3) := by decide +kernel
theorem dL_comes_101 : decode cL_comes 101 = .ok (.istore 11, 2) := by decide +kernel
theorem dL_comes_103 : decode cL_comes 103 = .ok (.aload_n 0, 1) := by decide +kernel
theorem dL_comes_104 : decode cL_comes 104 = .ok (.iload_n 3, 1) := by decide +kernel
theorem dL_comes_105 : decode cL_comes 105 = .ok (.bipush 11, 2) := by decide +kernel
theorem dL_comes_107 : decode cL_comes 107 = .ok (.invokevirtual 66, 3) := by decide +kernel
theorem dL_comes_110 : decode cL_comes 110 = .ok (.istore 12, 2) := by decide +kernel
theorem dL_comes_112 : decode cL_comes 112 = .ok (.aload_n 0, 1) := by decide +kernel
theorem dL_comes_113 : decode cL_comes 113 = .ok (.iconst 0, 1) := by decide +kernel
theorem dL_comes_114 : decode cL_comes 114 = .ok (.invokevirtual 60, 3) := by decide +kernel
theorem dL_comes_117 : decode cL_comes 117 = .ok (.iload_n 2, 1) := by decide +kernel
theorem dL_comes_118 : decode cL_comes 118 = .ok (.if_icmp .ne 47, 3) := by decide +kernel
theorem dL_comes_121 : decode cL_comes 121 = .ok (.aload_n 0, 1) := by decide +kernel
theorem dL_comes_122 : decode cL_comes 122 = .ok (.iload_n 3, 1) := by decide +kernel
theorem dL_comes_123 : decode cL_comes 123 = .ok (.bipush 61, 2) := by decide +kernel
theorem dL_comes_125 : decode cL_comes 125 = .ok (.invokevirtual 159, 3) := by decide +kernel
theorem dL_comes_128 : decode cL_comes 128 = .ok (.bipush (-2), 2) := by decide +kernel
theorem dL_comes_130 : decode cL_comes 130 = .ok (.if_icmp .ne 35, 3) := by decide +kernel
theorem dL_comes_133 : decode cL_comes 133 = .ok (.iload 6, 2) := by decide +kernel
theorem dL_comes_135 : decode cL_comes 135 = .ok (.ifCond .lt 7, 3) := by decide +kernel
theorem dL_comes_138 : decode cL_comes 138 = .ok (.iconst 1, 1) := by decide +kernel
theorem dL_comes_139 : decode cL_comes 139 = .ok (.goto 4, 3) := by decide +kernel
theorem dL_comes_142 : decode cL_comes 142 = .ok (.iconst 0, 1) := by decide +kernel
theorem dL_comes_143 : decode cL_comes 143 = .ok (.iload 8, 2) := by decide +kernel
theorem dL_comes_145 : decode cL_comes 145 = .ok (.ifCond .ne 7, 3) := by decide +kernel
theorem dL_comes_148 : decode cL_comes 148 = .ok (.iconst 1, 1) := by decide +kernel
theorem dL_comes_149 : decode cL_comes 149 = .ok (.goto 4, 3) := by decide +kernel
theorem dL_comes_152 : decode cL_comes 152 = .ok (.iconst 0, 1) := by decide +kernel
theorem dL_comes_153 : decode cL_comes 153 = .ok (.if_icmp .ne 12, 3) := by decide +kernel
theorem dL_comes_156 : decode cL_comes 156 = .ok (.aload_n 0, 1) := by decide +kernel
theorem dL_comes_157 : decode cL_comes 157 = .ok (.iconst 0, 1) := by decide +kernel
theorem dL_comes_158 : decode cL_comes 158 = .ok (.invokevirtual 165, 3) := by decide +kernel
theorem dL_comes_161 : decode cL_comes 161 = .ok (.iload_n 2, 1) := by decide +kernel
theorem dL_comes_162 : decode cL_comes 162 = .ok (.if_icmp .eq 5, 3) := by decide +kernel
theorem dL_comes_165 : decode cL_comes 165 = .ok (.iconst 0, 1) := by decide +kernel
theorem dL_comes_166 : decode cL_comes 166 = .ok (.ireturn, 1) := by decide +kernel
theorem dL_comes_167 : decode cL_comes 167 = .ok (.iconst (-1), 1) := by decide +kernel
theorem dL_comes_168 : decode cL_comes 168 = .ok (.istore 13, 2) := by decide +kernel
theorem dL_comes_170 : decode cL_comes 170 = .ok (.iconst 0, 1) := by decide +kernel
theorem dL_comes_171 : decode cL_comes 171 = .ok (.istore 14, 2) := by decide +kernel
theorem dL_comes_173 : decode cL_comes 173 = .ok (.iload 14, 2) := by decide +kernel
theorem dL_comes_175 : decode cL_comes 175 = .ok (.iload 5, 2) := by decide +kernel
theorem dL_comes_177 : decode cL_comes 177 = .ok (.if_icmp .ge 58, 3) := by decide +kernel
theorem dL_comes_180 : decode cL_comes 180 = .ok (.aload_n 0, 1) := by decide +kernel
theorem dL_comes_181 : decode cL_comes 181 = .ok (.iconst 1, 1) := by decide +kernel
theorem dL_comes_182 : decode cL_comes 182 = .ok (.invokevirtual 96, 3) := by decide +kernel
theorem dL_comes_185 : decode cL_comes 185 = .ok (.pop, 1) := by decide +kernel
theorem dL_comes_186 : decode cL_comes 186 = .ok (.iload 14, 2) := by decide +kernel
theorem dL_comes_188 : decode cL_comes 188 = .ok (.ifCond .ne 17, 3) := by decide +kernel
theorem dL_comes_191 : decode cL_comes 191 = .ok (.aload_n 0, 1) := by decide +kernel
theorem dL_comes_192 : decode cL_comes 192 = .ok (.iload_n 3, 1) := by decide +kernel
theorem dL_comes_193 : decode cL_comes 193 = .ok (.bipush 12, 2) := by decide +kernel
theorem dL_comes_195 : decode cL_comes 195 = .ok (.invokevirtual 66, 3) := by decide +kernel
theorem dL_comes_198 : decode cL_comes 198 = .ok (.iload 6, 2) := by decide +kernel
theorem dL_comes_200 : decode cL_comes 200 = .ok (.if_icmp .eq 5, 3) := by decide +kernel
theorem dL_comes_203 : decode cL_comes 203 = .ok (.iconst 0, 1) := by decide +kernel
theorem dL_comes_204 : decode cL_comes 204 = .ok (.ireturn, 1) := by decide +kernel
theorem dL_comes_205 : decode cL_comes 205 = .ok (.iload 13, 2) := by decide +kernel
theorem dL_comes_207 : decode cL_comes 207 = .ok (.ifCond .ge 18, 3) := by decide +kernel
theorem dL_comes_210 : decode cL_comes 210 = .ok (.aload_n 0, 1) := by decide +kernel
theorem dL_comes_211 : decode cL_comes 211 = .ok (.iload_n 3, 1) := by decide +kernel
theorem dL_comes_212 : decode cL_comes 212 = .ok (.bipush 12, 2) := by decide +kernel
theorem dL_comes_214 : decode cL_comes 214 = .ok (.invokevirtual 66, 3) := by decide +kernel
theorem dL_comes_217 : decode cL_comes 217 = .ok (.ifCond .lt 8, 3) := by decide +kernel
theorem dL_comes_220 : decode cL_comes 220 = .ok (.iload 14, 2) := by decide +kernel
theorem dL_comes_222 : decode cL_comes 222 = .ok (.goto 5, 3) := by decide +kernel
theorem dL_comes_225 : decode cL_comes 225 = .ok (.iload 13, 2) := by decide +kernel
theorem dL_comes_227 : decode cL_comes 227 = .ok (.istore 13, 2) := by decide +kernel
theorem dL_comes_229 : decode cL_comes 229 = .ok (.iinc 14 1, 3) := by decide +kernel
theorem dL_comes_232 : decode cL_comes 232 = .ok (.goto (-59), 3) := by decide +kernel
theorem dL_comes_235 : decode cL_comes 235 = .ok (.aload_n 0, 1) := by decide +kernel
theorem dL_comes_236 : decode cL_comes 236 = .ok (.iload_n 3, 1) := by decide +kernel
theorem dL_comes_237 : decode cL_comes 237 = .ok (.bipush 11, 2) := by decide +kernel
theorem dL_comes_239 : decode cL_comes 239 = .ok (.invokevirtual 66, 3) := by decide +kernel
theorem dL_comes_242 : decode cL_comes 242 = .ok (.iload 12, 2) := by decide +kernel
theorem dL_comes_244 : decode cL_comes 244 = .ok (.isub, 1) := by decide +kernel
theorem dL_comes_245 : decode cL_comes 245 = .ok (.iload 9, 2) := by decide +kernel
theorem dL_comes_247 : decode cL_comes 247 = .ok (.if_icmp .ne 39, 3) := by decide +kernel
theorem dL_comes_250 : decode cL_comes 250 = .ok (.iload 13, 2) := by decide +kernel
theorem dL_comes_252 : decode cL_comes 252 = .ok (.ifCond .lt 13, 3) := by decide +kernel
theorem dL_comes_255 : decode cL_comes 255 = .ok (.iload 8, 2) := by decide +kernel
theorem dL_comes_257 : decode cL_comes 257 = .ok (.iload 13, 2) := by decide +kernel
theorem dL_comes_259 : decode cL_comes 259 = .ok (.if_icmp .eq 18, 3) := by decide +kernel
theorem dL_comes_262 : decode cL_comes 262 = .ok (.goto 24, 3) := by decide +kernel
theorem dL_comes_265 : decode cL_comes 265 = .ok (.iload 8, 2) := by decide +kernel
theorem dL_comes_267 : decode cL_comes 267 = .ok (.ifCond .lt 10, 3) := by decide +kernel
theorem dL_comes_270 : decode cL_comes 270 = .ok (.iload 8, 2) := by decide +kernel
theorem dL_comes_272 : decode cL_comes 272 = .ok (.iload 5, 2) := by decide +kernel
theorem dL_comes_274 : decode cL_comes 274 = .ok (.if_icmp .lt 12, 3) := by decide +kernel
theorem dL_comes_277 : decode cL_comes 277 = .ok (.aload_n 0, 1) := by decide +kernel
theorem dL_comes_278 : decode cL_comes 278 = .ok (.iconst 0, 1) := by decide +kernel
theorem dL_comes_279 : decode cL_comes 279 = .ok (.invokevirtual 168, 3) := by decide +kernel
theorem dL_comes_282 : decode cL_comes 282 = .ok (.iload_n 2, 1) := by decide +kernel
theorem dL_comes_283 : decode cL_comes 283 = .ok (.if_icmp .eq 5, 3) := by decide +kernel
theorem dL_comes_286 : decode cL_comes 286 = .ok (.iconst 0, 1) := by decide +kernel
theorem dL_comes_287 : decode cL_comes 287 = .ok (.ireturn, 1) := by decide +kernel
theorem dL_comes_288 : decode cL_comes 288 = .ok (.aload_n 0, 1) := by decide +kernel
theorem dL_comes_289 : decode cL_comes 289 = .ok (.iload_n 3, 1) := by decide +kernel
theorem dL_comes_290 : decode cL_comes 290 = .ok (.iload 4, 2) := by decide +kernel
theorem dL_comes_292 : decode cL_comes 292 = .ok (.bipush (-6), 2) := by decide +kernel
theorem dL_comes_294 : decode cL_comes 294 = .ok (.bipush (-6), 2) := by decide +kernel
theorem dL_comes_296 : decode cL_comes 296 = .ok (.invokevirtual 69, 3) := by decide +kernel
theorem dL_comes_299 : decode cL_comes 299 = .ok (.iconst 1, 1) := by decide +kernel
theorem dL_comes_300 : decode cL_comes 300 = .ok (.if_icmp .ne 35, 3) := by decide +kernel
theorem dL_comes_303 : decode cL_comes 303 = .ok (.aload_n 0, 1) := by decide +kernel
theorem dL_comes_304 : decode cL_comes 304 = .ok (.iconst 1, 1) := by decide +kernel
theorem dL_comes_305 : decode cL_comes 305 = .ok (.invokevirtual 96, 3) := by decide +kernel
theorem dL_comes_308 : decode cL_comes 308 = .ok (.iload_n 2, 1) := by decide +kernel
theorem dL_comes_309 : decode cL_comes 309 = .ok (.iconst 1, 1) := by decide +kernel
theorem dL_comes_310 : decode cL_comes 310 = .ok (.iadd, 1) := by decide +kernel
theorem dL_comes_311 : decode cL_comes 311 = .ok (.if_icmp .ne 24, 3) := by decide +kernel
theorem dL_comes_314 : decode cL_comes 314 = .ok (.aload_n 0, 1) := by decide +kernel
theorem dL_comes_315 : decode cL_comes 315 = .ok (.iload_n 3, 1) := by decide +kernel
theorem dL_comes_316 : decode cL_comes 316 = .ok (.bipush 12, 2) := by decide +kernel
theorem dL_comes_318 : decode cL_comes 318 = .ok (.invokevirtual 66, 3) := by decide +kernel
theorem dL_comes_321 : decode cL_comes 321 = .ok (.iload 7, 2) := by decide +kernel
theorem dL_comes_323 : decode cL_comes 323 = .ok (.if_icmp .ne 12, 3) := by decide +kernel
theorem dL_comes_326 : decode cL_comes 326 = .ok (.aload_n 0, 1) := by decide +kernel
theorem dL_comes_327 : decode cL_comes 327 = .ok (.iconst 0, 1) := by decide +kernel
theorem dL_comes_328 : decode cL_comes 328 = .ok (.invokevirtual 168, 3) := by decide +kernel
theorem dL_comes_331 : decode cL_comes 331 = .ok (.iload_n 2, 1) := by decide +kernel
theorem dL_comes_332 : decode cL_comes 332 = .ok (.if_icmp .eq 5, 3) := by decide +kernel
theorem dL_comes_335 : decode cL_comes 335 = .ok (.iconst 0, 1) := by decide +kernel
theorem dL_comes_336 : decode cL_comes 336 = .ok (.ireturn, 1) := by decide +kernel
theorem dL_comes_337 : decode cL_comes 337 = .ok (.iload 10, 2) := by decide +kernel
theorem dL_comes_339 : decode cL_comes 339 = .ok (.ifCond .lt 47, 3) := by decide +kernel
theorem dL_comes_342 : decode cL_comes 342 = .ok (.iload 10, 2) := by decide +kernel
theorem dL_comes_344 : decode cL_comes 344 = .ok (.sipush 199, 3) := by decide +kernel
theorem dL_comes_347 : decode cL_comes 347 = .ok (.if_icmp .gt 37, 3) := by decide +kernel
theorem dL_comes_350 : decode cL_comes 350 = .ok (.aload_n 0, 1) := by decide +kernel
theorem dL_comes_351 : decode cL_comes 351 = .ok (.iload_n 3, 1) := by decide +kernel
theorem dL_comes_352 : decode cL_comes 352 = .ok (.iload_n 1, 1) := by decide +kernel
theorem dL_comes_353 : decode cL_comes 353 = .ok (.iconst 2, 1) := by decide +kernel
theorem dL_comes_354 : decode cL_comes 354 = .ok (.invokestatic 23, 3) := by decide +kernel
theorem dL_comes_357 : decode cL_comes 357 = .ok (.ifCond .ne 8, 3) := by decide +kernel
theorem dL_comes_360 : decode cL_comes 360 = .ok (.bipush (-6), 2) := by decide +kernel
theorem dL_comes_362 : decode cL_comes 362 = .ok (.goto 5, 3) := by decide +kernel
theorem dL_comes_365 : decode cL_comes 365 = .ok (.iload 4, 2) := by decide +kernel
theorem dL_comes_367 : decode cL_comes 367 = .ok (.iload 10, 2) := by decide +kernel
theorem dL_comes_369 : decode cL_comes 369 = .ok (.invokestatic 171, 3) := by decide +kernel
theorem dL_comes_372 : decode cL_comes 372 = .ok (.ifCond .eq 12, 3) := by decide +kernel
theorem dL_comes_375 : decode cL_comes 375 = .ok (.aload_n 0, 1) := by decide +kernel
theorem dL_comes_376 : decode cL_comes 376 = .ok (.iconst 0, 1) := by decide +kernel
theorem dL_comes_377 : decode cL_comes 377 = .ok (.invokevirtual 168, 3) := by decide +kernel
theorem dL_comes_380 : decode cL_comes 380 = .ok (.iload_n 2, 1) := by decide +kernel
theorem dL_comes_381 : decode cL_comes 381 = .ok (.if_icmp .eq 5, 3) := by decide +kernel
theorem dL_comes_384 : decode cL_comes 384 = .ok (.iconst 0, 1) := by decide +kernel
theorem dL_comes_385 : decode cL_comes 385 = .ok (.ireturn, 1) := by decide +kernel
theorem dL_comes_386 : decode cL_comes 386 = .ok (.iconst 0, 1) := by decide +kernel
theorem dL_comes_387 : decode cL_comes 387 = .ok (.istore 14, 2) := by decide +kernel
theorem dL_comes_389 : decode cL_comes 389 = .ok (.iload 14, 2) := by decide +kernel
theorem dL_comes_391 : decode cL_comes 391 = .ok (.iconst 5, 1) := by decide +kernel
theorem dL_comes_392 : decode cL_comes 392 = .ok (.if_icmp .ge 84, 3) := by decide +kernel
theorem dL_comes_395 : decode cL_comes 395 = .ok (.iload 10, 2) := by decide +kernel
theorem dL_comes_397 : decode cL_comes 397 = .ok (.ifCond .ge 16, 3) := by decide +kernel
theorem dL_comes_400 : decode cL_comes 400 = .ok (.iload_n 1, 1) := by decide +kernel
theorem dL_comes_401 : decode cL_comes 401 = .ok (.iload 14, 2) := by decide +kernel
theorem dL_comes_403 : decode cL_comes 403 = .ok (.ishr, 1) := by decide +kernel
theorem dL_comes_404 : decode cL_comes 404 = .ok (.sipush 200, 3) := by decide +kernel
theorem dL_comes_407 : decode cL_comes 407 = .ok (.invokestatic 23, 3) := by decide +kernel
theorem dL_comes_410 : decode cL_comes 410 = .ok (.goto 10, 3) := by decide +kernel
theorem dL_comes_413 : decode cL_comes 413 = .ok (.iload 10, 2) := by decide +kernel
theorem dL_comes_415 : decode cL_comes 415 = .ok (.iconst 1, 1) := by decide +kernel
theorem dL_comes_416 : decode cL_comes 416 = .ok (.isub, 1) := by decide +kernel
theorem dL_comes_417 : decode cL_comes 417 = .ok (.iload 14, 2) := by decide +kernel
theorem dL_comes_419 : decode cL_comes 419 = .ok (.isub, 1) := by decide +kernel
theorem dL_comes_420 : decode cL_comes 420 = .ok (.istore 15, 2) := by decide +kernel
theorem dL_comes_422 : decode cL_comes 422 = .ok (.iload 15, 2) := by decide +kernel
theorem dL_comes_424 : decode cL_comes 424 = .ok (.ifCond .lt 30, 3) := by decide +kernel
theorem dL_comes_427 : decode cL_comes 427 = .ok (.aload_n 0, 1) := by decide +kernel
theorem dL_comes_428 : decode cL_comes 428 = .ok (.iload_n 3, 1) := by decide +kernel
theorem dL_comes_429 : decode cL_comes 429 = .ok (.iload_n 1, 1) := by decide +kernel
theorem dL_comes_430 : decode cL_comes 430 = .ok (.iconst 2, 1) := by decide +kernel
theorem dL_comes_431 : decode cL_comes 431 = .ok (.invokestatic 23, 3) := by decide +kernel
theorem dL_comes_434 : decode cL_comes 434 = .ok (.ifCond .ne 8, 3) := by decide +kernel
theorem dL_comes_437 : decode cL_comes 437 = .ok (.bipush (-6), 2) := by decide +kernel
theorem dL_comes_439 : decode cL_comes 439 = .ok (.goto 5, 3) := by decide +kernel
theorem dL_comes_442 : decode cL_comes 442 = .ok (.iload 4, 2) := by decide +kernel
theorem dL_comes_444 : decode cL_comes 444 = .ok (.iload 15, 2) := by decide +kernel
theorem dL_comes_446 : decode cL_comes 446 = .ok (.invokestatic 171, 3) := by decide +kernel
theorem dL_comes_449 : decode cL_comes 449 = .ok (.ifCond .eq 5, 3) := by decide +kernel
theorem dL_comes_452 : decode cL_comes 452 = .ok (.iconst 0, 1) := by decide +kernel
theorem dL_comes_453 : decode cL_comes 453 = .ok (.ireturn, 1) := by decide +kernel
theorem dL_comes_454 : decode cL_comes 454 = .ok (.iload 15, 2) := by decide +kernel
theorem dL_comes_456 : decode cL_comes 456 = .ok (.ifCond .lt 14, 3) := by decide +kernel
theorem dL_comes_459 : decode cL_comes 459 = .ok (.aload_n 0, 1) := by decide +kernel
theorem dL_comes_460 : decode cL_comes 460 = .ok (.iconst 0, 1) := by decide +kernel
theorem dL_comes_461 : decode cL_comes 461 = .ok (.invokevirtual 168, 3) := by decide +kernel
theorem dL_comes_464 : decode cL_comes 464 = .ok (.iload_n 2, 1) := by decide +kernel
theorem dL_comes_465 : decode cL_comes 465 = .ok (.if_icmp .eq 5, 3) := by decide +kernel
theorem dL_comes_468 : decode cL_comes 468 = .ok (.iconst 0, 1) := by decide +kernel
theorem dL_comes_469 : decode cL_comes 469 = .ok (.ireturn, 1) := by decide +kernel
theorem dL_comes_470 : decode cL_comes 470 = .ok (.iinc 14 1, 3) := by decide +kernel
theorem dL_comes_473 : decode cL_comes 473 = .ok (.goto (-84), 3) := by decide +kernel
theorem dL_comes_476 : decode cL_comes 476 = .ok (.aload_n 0, 1) := by decide +kernel
theorem dL_comes_477 : decode cL_comes 477 = .ok (.iconst 3, 1) := by decide +kernel
theorem dL_comes_478 : decode cL_comes 478 = .ok (.invokevirtual 60, 3) := by decide +kernel
theorem dL_comes_481 : decode cL_comes 481 = .ok (.iload 11, 2) := by decide +kernel
theorem dL_comes_483 : decode cL_comes 483 = .ok (.if_icmp .ne 7, 3) := by decide +kernel
theorem dL_comes_486 : decode cL_comes 486 = .ok (.iconst 1, 1) := by decide +kernel
theorem dL_comes_487 : decode cL_comes 487 = .ok (.goto 4, 3) := by decide +kernel
theorem dL_comes_490 : decode cL_comes 490 = .ok (.iconst 0, 1) := by decide +kernel
theorem dL_comes_491 : decode cL_comes 491 = .ok (.ireturn, 1) := by decide +kernel
theorem dL_lucky_0 : decode cL_lucky 0 = .ok (.aload_n 0, 1) := by decide +kernel
theorem dL_lucky_1 : decode cL_lucky 1 = .ok (.iload_n 3, 1) := by decide +kernel
theorem dL_lucky_2 : decode cL_lucky 2 = .ok (.invokevirtual 27, 3) := by decide +kernel
theorem dL_lucky_5 : decode cL_lucky 5 = .ok (.pop, 1) := by decide +kernel
theorem dL_lucky_6 : decode cL_lucky 6 = .ok (.aload_n 0, 1) := by decide +kernel
theorem dL_lucky_7 : decode cL_lucky 7 = .ok (.iconst 1, 1) := by decide +kernel
theorem dL_lucky_8 : decode cL_lucky 8 = .ok (.invokevirtual 96, 3) := by decide +kernel
theorem dL_lucky_11 : decode cL_lucky 11 = .ok (.pop, 1) := by decide +kernel
theorem dL_lucky_12 : decode cL_lucky 12 = .ok (.aload_n 0, 1) := by decide +kernel
theorem dL_lucky_13 : decode cL_lucky 13 = .ok (.iload_n 1, 1) := by decide +kernel
theorem dL_lucky_14 : decode cL_lucky 14 = .ok (.bipush 12, 2) := by decide +kernel
theorem dL_lucky_16 : decode cL_lucky 16 = .ok (.invokevirtual 66, 3) := by decide +kernel
theorem dL_lucky_19 : decode cL_lucky 19 = .ok (.ifCond .lt 22, 3) := by decide +kernel
theorem dL_lucky_22 : decode cL_lucky 22 = .ok (.iload_n 2, 1) := by decide +kernel
theorem dL_lucky_23 : decode cL_lucky 23 = .ok (.ifCond .lt 14, 3) := by decide +kernel
theorem dL_lucky_26 : decode cL_lucky 26 = .ok (.aload_n 0, 1) := by decide +kernel
theorem dL_lucky_27 : decode cL_lucky 27 = .ok (.iload_n 1, 1) := by decide +kernel
theorem dL_lucky_28 : decode cL_lucky 28 = .ok (.bipush 12, 2) := by decide +kernel
theorem dL_lucky_30 : decode cL_lucky 30 = .ok (.invokevirtual 66, 3) := by decide +kernel
theorem dL_lucky_33 : decode cL_lucky 33 = .ok (.iload_n 2, 1) := by decide +kernel
theorem dL_lucky_34 : decode cL_lucky 34 = .ok (.if_icmp .ne 7, 3) := by decide +kernel
theorem dL_lucky_37 : decode cL_lucky 37 = .ok (.iconst 1, 1) := by decide +kernel
theorem dL_lucky_38 : decode cL_lucky 38 = .ok (.goto 4, 3) := by decide +kernel
theorem dL_lucky_41 : decode cL_lucky 41 = .ok (.iconst 0, 1) := by decide +kernel
theorem dL_lucky_42 : decode cL_lucky 42 = .ok (.ireturn, 1) := by decide +kernel
theorem dL_told_0 : decode cL_told 0 = .ok (.iconst 0, 1) := by decide +kernel
theorem dL_told_1 : decode cL_told 1 = .ok (.istore_n 1, 1) := by decide +kernel
theorem dL_told_2 : decode cL_told 2 = .ok (.iconst 0, 1) := by decide +kernel
theorem dL_told_3 : decode cL_told 3 = .ok (.istore_n 2, 1) := by decide +kernel
theorem dL_told_4 : decode cL_told 4 = .ok (.iload_n 2, 1) := by decide +kernel
theorem dL_told_5 : decode cL_told 5 = .ok (.bipush 6, 2) := by decide +kernel
theorem dL_told_7 : decode cL_told 7 = .ok (.if_icmp .ge 20, 3) := by decide +kernel
theorem dL_told_10 : decode cL_told 10 = .ok (.bipush 31, 2) := by decide +kernel
theorem dL_told_12 : decode cL_told 12 = .ok (.iload_n 1, 1) := by decide +kernel
theorem dL_told_13 : decode cL_told 13 = .ok (.imul, 1) := by decide +kernel
theorem dL_told_14 : decode cL_told 14 = .ok (.aload_n 0, 1) := by decide +kernel
theorem dL_told_15 : decode cL_told 15 = .ok (.iload_n 2, 1) := by decide +kernel
theorem dL_told_16 : decode cL_told 16 = .ok (.invokevirtual 60, 3) := by decide +kernel
theorem dL_told_19 : decode cL_told 19 = .ok (.iadd, 1) := by decide +kernel
theorem dL_told_20 : decode cL_told 20 = .ok (.istore_n 1, 1) := by decide +kernel
theorem dL_told_21 : decode cL_told 21 = .ok (.iinc 2 1, 3) := by decide +kernel
theorem dL_told_24 : decode cL_told 24 = .ok (.goto (-20), 3) := by decide +kernel
theorem dL_told_27 : decode cL_told 27 = .ok (.bipush 8, 2) := by decide +kernel
theorem dL_told_29 : decode cL_told 29 = .ok (.istore_n 2, 1) := by decide +kernel
theorem dL_told_30 : decode cL_told 30 = .ok (.iload_n 2, 1) := by decide +kernel
theorem dL_told_31 : decode cL_told 31 = .ok (.bipush 20, 2) := by decide +kernel
theorem dL_told_33 : decode cL_told 33 = .ok (.if_icmp .ge 20, 3) := by decide +kernel
theorem dL_told_36 : decode cL_told 36 = .ok (.bipush 31, 2) := by decide +kernel
theorem dL_told_38 : decode cL_told 38 = .ok (.iload_n 1, 1) := by decide +kernel
theorem dL_told_39 : decode cL_told 39 = .ok (.imul, 1) := by decide +kernel
theorem dL_told_40 : decode cL_told 40 = .ok (.aload_n 0, 1) := by decide +kernel
theorem dL_told_41 : decode cL_told 41 = .ok (.iload_n 2, 1) := by decide +kernel
theorem dL_told_42 : decode cL_told 42 = .ok (.invokevirtual 60, 3) := by decide +kernel
theorem dL_told_45 : decode cL_told 45 = .ok (.iadd, 1) := by decide +kernel
theorem dL_told_46 : decode cL_told 46 = .ok (.istore_n 1, 1) := by decide +kernel
theorem dL_told_47 : decode cL_told 47 = .ok (.iinc 2 1, 3) := by decide +kernel
theorem dL_told_50 : decode cL_told 50 = .ok (.goto (-20), 3) := by decide +kernel
theorem dL_told_53 : decode cL_told 53 = .ok (.iconst 0, 1) := by decide +kernel
theorem dL_told_54 : decode cL_told 54 = .ok (.istore_n 2, 1) := by decide +kernel
theorem dL_told_55 : decode cL_told 55 = .ok (.iload_n 2, 1) := by decide +kernel
theorem dL_told_56 : decode cL_told 56 = .ok (.aload_n 0, 1) := by decide +kernel
theorem dL_told_57 : decode cL_told 57 = .ok (.iconst 1, 1) := by decide +kernel
theorem dL_told_58 : decode cL_told 58 = .ok (.invokevirtual 60, 3) := by decide +kernel
theorem dL_told_61 : decode cL_told 61 = .ok (.if_icmp .ge 97, 3) := by decide +kernel
theorem dL_told_64 : decode cL_told 64 = .ok (.iconst 0, 1) := by decide +kernel
theorem dL_told_65 : decode cL_told 65 = .ok (.istore_n 3, 1) := by decide +kernel
theorem dL_told_66 : decode cL_told 66 = .ok (.iload_n 3, 1) := by decide +kernel
theorem dL_told_67 : decode cL_told 67 = .ok (.bipush 16, 2) := by decide +kernel
theorem dL_told_69 : decode cL_told 69 = .ok (.if_icmp .ge 21, 3) := by decide +kernel
theorem dL_told_72 : decode cL_told 72 = .ok (.bipush 31, 2) := by decide +kernel
theorem dL_told_74 : decode cL_told 74 = .ok (.iload_n 1, 1) := by decide +kernel
theorem dL_told_75 : decode cL_told 75 = .ok (.imul, 1) := by decide +kernel
theorem dL_told_76 : decode cL_told 76 = .ok (.aload_n 0, 1) := by decide +kernel
theorem dL_told_77 : decode cL_told 77 = .ok (.iload_n 2, 1) := by decide +kernel
theorem dL_told_78 : decode cL_told 78 = .ok (.iload_n 3, 1) := by decide +kernel
theorem dL_told_79 : decode cL_told 79 = .ok (.invokevirtual 66, 3) := by decide +kernel
theorem dL_told_82 : decode cL_told 82 = .ok (.iadd, 1) := by decide +kernel
theorem dL_told_83 : decode cL_told 83 = .ok (.istore_n 1, 1) := by decide +kernel
theorem dL_told_84 : decode cL_told 84 = .ok (.iinc 3 1, 3) := by decide +kernel
theorem dL_told_87 : decode cL_told 87 = .ok (.goto (-21), 3) := by decide +kernel
theorem dL_told_90 : decode cL_told 90 = .ok (.iconst 0, 1) := by decide +kernel
theorem dL_told_91 : decode cL_told 91 = .ok (.istore_n 3, 1) := by decide +kernel
theorem dL_told_92 : decode cL_told 92 = .ok (.iload_n 3, 1) := by decide +kernel
theorem dL_told_93 : decode cL_told 93 = .ok (.iconst 5, 1) := by decide +kernel
theorem dL_told_94 : decode cL_told 94 = .ok (.if_icmp .ge 26, 3) := by decide +kernel
theorem dL_told_97 : decode cL_told 97 = .ok (.bipush 31, 2) := by decide +kernel
theorem dL_told_99 : decode cL_told 99 = .ok (.iload_n 1, 1) := by decide +kernel
theorem dL_told_100 : decode cL_told 100 = .ok (.imul, 1) := by decide +kernel
theorem dL_told_101 : decode cL_told 101 = .ok (.aload_n 0, 1) := by decide +kernel
theorem dL_told_102 : decode cL_told 102 = .ok (.iload_n 2, 1) := by decide +kernel
theorem dL_told_103 : decode cL_told 103 = .ok (.iload_n 3, 1) := by decide +kernel
theorem dL_told_104 : decode cL_told 104 = .ok (.invokevirtual 73, 3) := by decide +kernel
theorem dL_told_107 : decode cL_told 107 = .ok (.ldc2_w 174, 3) := by decide +kernel
theorem dL_told_110 : decode cL_told 110 = .ok (.lrem, 1) := by decide +kernel
theorem dL_told_111 : decode cL_told 111 = .ok (.l2i, 1) := by decide +kernel
theorem dL_told_112 : decode cL_told 112 = .ok (.iadd, 1) := by decide +kernel
theorem dL_told_113 : decode cL_told 113 = .ok (.istore_n 1, 1) := by decide +kernel
theorem dL_told_114 : decode cL_told 114 = .ok (.iinc 3 1, 3) := by decide +kernel
theorem dL_told_117 : decode cL_told 117 = .ok (.goto (-25), 3) := by decide +kernel
theorem dL_told_120 : decode cL_told 120 = .ok (.iconst 1, 1) := by decide +kernel
theorem dL_told_121 : decode cL_told 121 = .ok (.istore_n 3, 1) := by decide +kernel
theorem dL_told_122 : decode cL_told 122 = .ok (.iload_n 3, 1) := by decide +kernel
theorem dL_told_123 : decode cL_told 123 = .ok (.bipush 12, 2) := by decide +kernel
theorem dL_told_125 : decode cL_told 125 = .ok (.if_icmp .ge 27, 3) := by decide +kernel
theorem dL_told_128 : decode cL_told 128 = .ok (.bipush 31, 2) := by decide +kernel
theorem dL_told_130 : decode cL_told 130 = .ok (.iload_n 1, 1) := by decide +kernel
theorem dL_told_131 : decode cL_told 131 = .ok (.imul, 1) := by decide +kernel
theorem dL_told_132 : decode cL_told 132 = .ok (.aload_n 0, 1) := by decide +kernel
theorem dL_told_133 : decode cL_told 133 = .ok (.iload_n 2, 1) := by decide +kernel
theorem dL_told_134 : decode cL_told 134 = .ok (.aload_n 0, 1) := by decide +kernel
theorem dL_told_135 : decode cL_told 135 = .ok (.iconst 0, 1) := by decide +kernel
theorem dL_told_136 : decode cL_told 136 = .ok (.invokevirtual 60, 3) := by decide +kernel
theorem dL_told_139 : decode cL_told 139 = .ok (.iload_n 3, 1) := by decide +kernel
theorem dL_told_140 : decode cL_told 140 = .ok (.iadd, 1) := by decide +kernel
theorem dL_told_141 : decode cL_told 141 = .ok (.invokevirtual 147, 3) := by decide +kernel
theorem dL_told_144 : decode cL_told 144 = .ok (.iadd, 1) := by decide +kernel
theorem dL_told_145 : decode cL_told 145 = .ok (.istore_n 1, 1) := by decide +kernel
theorem dL_told_146 : decode cL_told 146 = .ok (.iinc 3 2, 3) := by decide +kernel
theorem dL_told_149 : decode cL_told 149 = .ok (.goto (-27), 3) := by decide +kernel
theorem dL_told_152 : decode cL_told 152 = .ok (.iinc 2 1, 3) := by decide +kernel
theorem dL_told_155 : decode cL_told 155 = .ok (.goto (-100), 3) := by decide +kernel
theorem dL_told_158 : decode cL_told 158 = .ok (.iconst 0, 1) := by decide +kernel
theorem dL_told_159 : decode cL_told 159 = .ok (.istore_n 2, 1) := by decide +kernel
theorem dL_told_160 : decode cL_told 160 = .ok (.iload_n 2, 1) := by decide +kernel
theorem dL_told_161 : decode cL_told 161 = .ok (.aload_n 0, 1) := by decide +kernel
theorem dL_told_162 : decode cL_told 162 = .ok (.iconst 2, 1) := by decide +kernel
theorem dL_told_163 : decode cL_told 163 = .ok (.invokevirtual 60, 3) := by decide +kernel
theorem dL_told_166 : decode cL_told 166 = .ok (.if_icmp .ge 34, 3) := by decide +kernel
theorem dL_told_169 : decode cL_told 169 = .ok (.iconst 0, 1) := by decide +kernel
theorem dL_told_170 : decode cL_told 170 = .ok (.istore_n 3, 1) := by decide +kernel
theorem dL_told_171 : decode cL_told 171 = .ok (.iload_n 3, 1) := by decide +kernel
theorem dL_told_172 : decode cL_told 172 = .ok (.iconst 4, 1) := by decide +kernel
theorem dL_told_173 : decode cL_told 173 = .ok (.if_icmp .ge 21, 3) := by decide +kernel
theorem dL_told_176 : decode cL_told 176 = .ok (.bipush 31, 2) := by decide +kernel
theorem dL_told_178 : decode cL_told 178 = .ok (.iload_n 1, 1) := by decide +kernel
theorem dL_told_179 : decode cL_told 179 = .ok (.imul, 1) := by decide +kernel
theorem dL_told_180 : decode cL_told 180 = .ok (.aload_n 0, 1) := by decide +kernel
theorem dL_told_181 : decode cL_told 181 = .ok (.iload_n 2, 1) := by decide +kernel
theorem dL_told_182 : decode cL_told 182 = .ok (.iload_n 3, 1) := by decide +kernel
theorem dL_told_183 : decode cL_told 183 = .ok (.invokevirtual 90, 3) := by decide +kernel
theorem dL_told_186 : decode cL_told 186 = .ok (.iadd, 1) := by decide +kernel
theorem dL_told_187 : decode cL_told 187 = .ok (.istore_n 1, 1) := by decide +kernel
theorem dL_told_188 : decode cL_told 188 = .ok (.iinc 3 1, 3) := by decide +kernel
theorem dL_told_191 : decode cL_told 191 = .ok (.goto (-20), 3) := by decide +kernel
theorem dL_told_194 : decode cL_told 194 = .ok (.iinc 2 1, 3) := by decide +kernel
theorem dL_told_197 : decode cL_told 197 = .ok (.goto (-37), 3) := by decide +kernel
theorem dL_told_200 : decode cL_told 200 = .ok (.iload_n 1, 1) := by decide +kernel
theorem dL_told_201 : decode cL_told 201 = .ok (.ireturn, 1) := by decide +kernel
theorem dL_back_0 : decode cL_back 0 = .ok (.aload_n 0, 1) := by decide +kernel
theorem dL_back_1 : decode cL_back 1 = .ok (.iconst 0, 1) := by decide +kernel
theorem dL_back_2 : decode cL_back 2 = .ok (.invokevirtual 60, 3) := by decide +kernel
theorem dL_back_5 : decode cL_back 5 = .ok (.istore_n 2, 1) := by decide +kernel
theorem dL_back_6 : decode cL_back 6 = .ok (.aload_n 0, 1) := by decide +kernel
theorem dL_back_7 : decode cL_back 7 = .ok (.iconst 1, 1) := by decide +kernel
theorem dL_back_8 : decode cL_back 8 = .ok (.invokevirtual 165, 3) := by decide +kernel
theorem dL_back_11 : decode cL_back 11 = .ok (.iload_n 2, 1) := by decide +kernel
theorem dL_back_12 : decode cL_back 12 = .ok (.if_icmp .eq 5, 3) := by decide +kernel
theorem dL_back_15 : decode cL_back 15 = .ok (.iconst 0, 1) := by decide +kernel
theorem dL_back_16 : decode cL_back 16 = .ok (.ireturn, 1) := by decide +kernel
theorem dL_back_17 : decode cL_back 17 = .ok (.aload_n 0, 1) := by decide +kernel
theorem dL_back_18 : decode cL_back 18 = .ok (.invokestatic 133, 3) := by decide +kernel
theorem dL_back_21 : decode cL_back 21 = .ok (.istore_n 3, 1) := by decide +kernel
theorem dL_back_22 : decode cL_back 22 = .ok (.aload_n 0, 1) := by decide +kernel
theorem dL_back_23 : decode cL_back 23 = .ok (.iload_n 1, 1) := by decide +kernel
theorem dL_back_24 : decode cL_back 24 = .ok (.ldc 22, 2) := by decide +kernel
theorem dL_back_26 : decode cL_back 26 = .ok (.invokestatic 23, 3) := by decide +kernel
theorem dL_back_29 : decode cL_back 29 = .ok (.invokevirtual 27, 3) := by decide +kernel
theorem dL_back_32 : decode cL_back 32 = .ok (.pop, 1) := by decide +kernel
theorem dL_back_33 : decode cL_back 33 = .ok (.aload_n 0, 1) := by decide +kernel
theorem dL_back_34 : decode cL_back 34 = .ok (.iconst 1, 1) := by decide +kernel
theorem dL_back_35 : decode cL_back 35 = .ok (.iload_n 1, 1) := by decide +kernel
theorem dL_back_36 : decode cL_back 36 = .ok (.iconst 4, 1) := by decide +kernel
theorem dL_back_37 : decode cL_back 37 = .ok (.ishr, 1) := by decide +kernel
theorem dL_back_38 : decode cL_back 38 = .ok (.bipush 40, 2) := by decide +kernel
theorem dL_back_40 : decode cL_back 40 = .ok (.invokestatic 23, 3) := by decide +kernel
theorem dL_back_43 : decode cL_back 43 = .ok (.iadd, 1) := by decide +kernel
theorem dL_back_44 : decode cL_back 44 = .ok (.invokevirtual 96, 3) := by decide +kernel
theorem dL_back_47 : decode cL_back 47 = .ok (.pop, 1) := by decide +kernel
theorem dL_back_48 : decode cL_back 48 = .ok (.aload_n 0, 1) := by decide +kernel
theorem dL_back_49 : decode cL_back 49 = .ok (.iconst 0, 1) := by decide +kernel
theorem dL_back_50 : decode cL_back 50 = .ok (.bipush 9, 2) := by decide +kernel
theorem dL_back_52 : decode cL_back 52 = .ok (.invokevirtual 77, 3) := by decide +kernel
theorem dL_back_55 : decode cL_back 55 = .ok (.pop, 1) := by decide +kernel
theorem dL_back_56 : decode cL_back 56 = .ok (.aload_n 0, 1) := by decide +kernel
theorem dL_back_57 : decode cL_back 57 = .ok (.bipush 9, 2) := by decide +kernel
theorem dL_back_59 : decode cL_back 59 = .ok (.iconst 1, 1) := by decide +kernel
theorem dL_back_60 : decode cL_back 60 = .ok (.invokevirtual 63, 3) := by decide +kernel
theorem dL_back_63 : decode cL_back 63 = .ok (.pop, 1) := by decide +kernel
theorem dL_back_64 : decode cL_back 64 = .ok (.aload_n 0, 1) := by decide +kernel
theorem dL_back_65 : decode cL_back 65 = .ok (.bipush 7, 2) := by decide +kernel
theorem dL_back_67 : decode cL_back 67 = .ok (.invokevirtual 60, 3) := by decide +kernel
theorem dL_back_70 : decode cL_back 70 = .ok (.istore 4, 2) := by decide +kernel
theorem dL_back_72 : decode cL_back 72 = .ok (.iconst 1, 1) := by decide +kernel
theorem dL_back_73 : decode cL_back 73 = .ok (.istore 5, 2) := by decide +kernel
theorem dL_back_75 : decode cL_back 75 = .ok (.iload 5, 2) := by decide +kernel
theorem dL_back_77 : decode cL_back 77 = .ok (.iconst 4, 1) := by decide +kernel
theorem dL_back_78 : decode cL_back 78 = .ok (.if_icmp .gt 23, 3) := by decide +kernel
theorem dL_back_81 : decode cL_back 81 = .ok (.aload_n 0, 1) := by decide +kernel
theorem dL_back_82 : decode cL_back 82 = .ok (.invokevirtual 137, 3) := by decide +kernel
theorem dL_back_85 : decode cL_back 85 = .ok (.iload 4, 2) := by decide +kernel
theorem dL_back_87 : decode cL_back 87 = .ok (.iload 5, 2) := by decide +kernel
theorem dL_back_89 : decode cL_back 89 = .ok (.isub, 1) := by decide +kernel
theorem dL_back_90 : decode cL_back 90 = .ok (.if_icmp .eq 5, 3) := by decide +kernel
theorem dL_back_93 : decode cL_back 93 = .ok (.iconst 0, 1) := by decide +kernel
theorem dL_back_94 : decode cL_back 94 = .ok (.ireturn, 1) := by decide +kernel
theorem dL_back_95 : decode cL_back 95 = .ok (.iinc 5 1, 3) := by decide +kernel
theorem dL_back_98 : decode cL_back 98 = .ok (.goto (-23), 3) := by decide +kernel
theorem dL_back_101 : decode cL_back 101 = .ok (.aload_n 0, 1) := by decide +kernel
theorem dL_back_102 : decode cL_back 102 = .ok (.invokestatic 133, 3) := by decide +kernel
theorem dL_back_105 : decode cL_back 105 = .ok (.iload_n 3, 1) := by decide +kernel
theorem dL_back_106 : decode cL_back 106 = .ok (.if_icmp .eq 5, 3) := by decide +kernel
theorem dL_back_109 : decode cL_back 109 = .ok (.iconst 0, 1) := by decide +kernel
theorem dL_back_110 : decode cL_back 110 = .ok (.ireturn, 1) := by decide +kernel
theorem dL_back_111 : decode cL_back 111 = .ok (.aload_n 0, 1) := by decide +kernel
theorem dL_back_112 : decode cL_back 112 = .ok (.bipush 9, 2) := by decide +kernel
theorem dL_back_114 : decode cL_back 114 = .ok (.invokevirtual 96, 3) := by decide +kernel
theorem dL_back_117 : decode cL_back 117 = .ok (.pop, 1) := by decide +kernel
theorem dL_back_118 : decode cL_back 118 = .ok (.aload_n 0, 1) := by decide +kernel
theorem dL_back_119 : decode cL_back 119 = .ok (.bipush 9, 2) := by decide +kernel
theorem dL_back_121 : decode cL_back 121 = .ok (.sipush 4999, 3) := by decide +kernel
theorem dL_back_124 : decode cL_back 124 = .ok (.invokevirtual 63, 3) := by decide +kernel
theorem dL_back_127 : decode cL_back 127 = .ok (.pop, 1) := by decide +kernel
theorem dL_back_128 : decode cL_back 128 = .ok (.aload_n 0, 1) := by decide +kernel
theorem dL_back_129 : decode cL_back 129 = .ok (.iconst 1, 1) := by decide +kernel
theorem dL_back_130 : decode cL_back 130 = .ok (.invokevirtual 168, 3) := by decide +kernel
theorem dL_back_133 : decode cL_back 133 = .ok (.iload_n 2, 1) := by decide +kernel
theorem dL_back_134 : decode cL_back 134 = .ok (.if_icmp .ne 55, 3) := by decide +kernel
theorem dL_back_137 : decode cL_back 137 = .ok (.aload_n 0, 1) := by decide +kernel
theorem dL_back_138 : decode cL_back 138 = .ok (.invokestatic 133, 3) := by decide +kernel
theorem dL_back_141 : decode cL_back 141 = .ok (.iload_n 3, 1) := by decide +kernel
theorem dL_back_142 : decode cL_back 142 = .ok (.if_icmp .ne 47, 3) := by decide +kernel
theorem dL_back_145 : decode cL_back 145 = .ok (.aload_n 0, 1) := by decide +kernel
theorem dL_back_146 : decode cL_back 146 = .ok (.invokevirtual 137, 3) := by decide +kernel
theorem dL_back_149 : decode cL_back 149 = .ok (.ifCond .lt 40, 3) := by decide +kernel
theorem dL_back_152 : decode cL_back 152 = .ok (.aload_n 0, 1) := by decide +kernel
theorem dL_back_153 : decode cL_back 153 = .ok (.bipush 17, 2) := by decide +kernel
theorem dL_back_155 : decode cL_back 155 = .ok (.invokevirtual 60, 3) := by decide +kernel
theorem dL_back_158 : decode cL_back 158 = .ok (.sipush 4999, 3) := by decide +kernel
theorem dL_back_161 : decode cL_back 161 = .ok (.if_icmp .ne 28, 3) := by decide +kernel
theorem dL_back_164 : decode cL_back 164 = .ok (.aload_n 0, 1) := by decide +kernel
theorem dL_back_165 : decode cL_back 165 = .ok (.iconst 0, 1) := by decide +kernel
theorem dL_back_166 : decode cL_back 166 = .ok (.invokevirtual 60, 3) := by decide +kernel
theorem dL_back_169 : decode cL_back 169 = .ok (.iload_n 2, 1) := by decide +kernel
theorem dL_back_170 : decode cL_back 170 = .ok (.bipush 9, 2) := by decide +kernel
theorem dL_back_172 : decode cL_back 172 = .ok (.iadd, 1) := by decide +kernel
theorem dL_back_173 : decode cL_back 173 = .ok (.if_icmp .ne 16, 3) := by decide +kernel
theorem dL_back_176 : decode cL_back 176 = .ok (.aload_n 0, 1) := by decide +kernel
theorem dL_back_177 : decode cL_back 177 = .ok (.iconst 1, 1) := by decide +kernel
theorem dL_back_178 : decode cL_back 178 = .ok (.invokevirtual 168, 3) := by decide +kernel
theorem dL_back_181 : decode cL_back 181 = .ok (.iload_n 2, 1) := by decide +kernel
theorem dL_back_182 : decode cL_back 182 = .ok (.if_icmp .ne 7, 3) := by decide +kernel
theorem dL_back_185 : decode cL_back 185 = .ok (.iconst 1, 1) := by decide +kernel
theorem dL_back_186 : decode cL_back 186 = .ok (.goto 4, 3) := by decide +kernel
theorem dL_back_189 : decode cL_back 189 = .ok (.iconst 0, 1) := by decide +kernel
theorem dL_back_190 : decode cL_back 190 = .ok (.ireturn, 1) := by decide +kernel
theorem dL_refused_0 : decode cL_refused 0 = .ok (.iload_n 1, 1) := by decide +kernel
theorem dL_refused_1 : decode cL_refused 1 = .ok (.ifCond .ge 15, 3) := by decide +kernel
theorem dL_refused_4 : decode cL_refused 4 = .ok (.bipush (-7), 2) := by decide +kernel
theorem dL_refused_6 : decode cL_refused 6 = .ok (.iload_n 1, 1) := by decide +kernel
theorem dL_refused_7 : decode cL_refused 7 = .ok (.ldc 86, 2) := by decide +kernel
theorem dL_refused_9 : decode cL_refused 9 = .ok (.invokestatic 23, 3) := by decide +kernel
theorem dL_refused_12 : decode cL_refused 12 = .ok (.isub, 1) := by decide +kernel
theorem dL_refused_13 : decode cL_refused 13 = .ok (.goto 10, 3) := by decide +kernel
theorem dL_refused_16 : decode cL_refused 16 = .ok (.iload_n 1, 1) := by decide +kernel
theorem dL_refused_17 : decode cL_refused 17 = .ok (.ldc 86, 2) := by decide +kernel
theorem dL_refused_19 : decode cL_refused 19 = .ok (.irem, 1) := by decide +kernel
theorem dL_refused_20 : decode cL_refused 20 = .ok (.ldc 176, 2) := by decide +kernel
theorem dL_refused_22 : decode cL_refused 22 = .ok (.iadd, 1) := by decide +kernel
theorem dL_refused_23 : decode cL_refused 23 = .ok (.istore_n 2, 1) := by decide +kernel
theorem dL_refused_24 : decode cL_refused 24 = .ok (.aload_n 0, 1) := by decide +kernel
theorem dL_refused_25 : decode cL_refused 25 = .ok (.iload_n 2, 1) := by decide +kernel
theorem dL_refused_26 : decode cL_refused 26 = .ok (.iconst 1, 1) := by decide +kernel
theorem dL_refused_27 : decode cL_refused 27 = .ok (.invokevirtual 63, 3) := by decide +kernel
theorem dL_refused_30 : decode cL_refused 30 = .ok (.bipush (-2), 2) := by decide +kernel
theorem dL_refused_32 : decode cL_refused 32 = .ok (.if_icmp .ne 300, 3) := by decide +kernel
theorem dL_refused_35 : decode cL_refused 35 = .ok (.aload_n 0, 1) := by decide +kernel
theorem dL_refused_36 : decode cL_refused 36 = .ok (.iconst 0, 1) := by decide +kernel
theorem dL_refused_37 : decode cL_refused 37 = .ok (.iload_n 2, 1) := by decide +kernel
theorem dL_refused_38 : decode cL_refused 38 = .ok (.invokevirtual 63, 3) := by decide +kernel
theorem dL_refused_41 : decode cL_refused 41 = .ok (.bipush (-2), 2) := by decide +kernel
theorem dL_refused_43 : decode cL_refused 43 = .ok (.if_icmp .ne 289, 3) := by decide +kernel
theorem dL_refused_46 : decode cL_refused 46 = .ok (.aload_n 0, 1) := by decide +kernel
theorem dL_refused_47 : decode cL_refused 47 = .ok (.iload_n 2, 1) := by decide +kernel
theorem dL_refused_48 : decode cL_refused 48 = .ok (.invokevirtual 27, 3) := by decide +kernel
theorem dL_refused_51 : decode cL_refused 51 = .ok (.bipush (-2), 2) := by decide +kernel
theorem dL_refused_53 : decode cL_refused 53 = .ok (.if_icmp .ne 279, 3) := by decide +kernel
theorem dL_refused_56 : decode cL_refused 56 = .ok (.aload_n 0, 1) := by decide +kernel
theorem dL_refused_57 : decode cL_refused 57 = .ok (.iload_n 2, 1) := by decide +kernel
theorem dL_refused_58 : decode cL_refused 58 = .ok (.invokevirtual 34, 3) := by decide +kernel
theorem dL_refused_61 : decode cL_refused 61 = .ok (.bipush (-2), 2) := by decide +kernel
theorem dL_refused_63 : decode cL_refused 63 = .ok (.if_icmp .ne 269, 3) := by decide +kernel
theorem dL_refused_66 : decode cL_refused 66 = .ok (.aload_n 0, 1) := by decide +kernel
theorem dL_refused_67 : decode cL_refused 67 = .ok (.iload_n 2, 1) := by decide +kernel
theorem dL_refused_68 : decode cL_refused 68 = .ok (.iconst 0, 1) := by decide +kernel
theorem dL_refused_69 : decode cL_refused 69 = .ok (.invokevirtual 93, 3) := by decide +kernel
theorem dL_refused_72 : decode cL_refused 72 = .ok (.iconst (-1), 1) := by decide +kernel
theorem dL_refused_73 : decode cL_refused 73 = .ok (.if_icmp .ne 259, 3) := by decide +kernel
theorem dL_refused_76 : decode cL_refused 76 = .ok (.aload_n 0, 1) := by decide +kernel
theorem dL_refused_77 : decode cL_refused 77 = .ok (.iload_n 2, 1) := by decide +kernel
theorem dL_refused_78 : decode cL_refused 78 = .ok (.iconst 1, 1) := by decide +kernel
theorem dL_refused_79 : decode cL_refused 79 = .ok (.invokevirtual 37, 3) := by decide +kernel
theorem dL_refused_82 : decode cL_refused 82 = .ok (.bipush (-2), 2) := by decide +kernel
theorem dL_refused_84 : decode cL_refused 84 = .ok (.if_icmp .ne 248, 3) := by decide +kernel
theorem dL_refused_87 : decode cL_refused 87 = .ok (.aload_n 0, 1) := by decide +kernel
theorem dL_refused_88 : decode cL_refused 88 = .ok (.iconst 0, 1) := by decide +kernel
theorem dL_refused_89 : decode cL_refused 89 = .ok (.iload_n 2, 1) := by decide +kernel
theorem dL_refused_90 : decode cL_refused 90 = .ok (.invokevirtual 37, 3) := by decide +kernel
theorem dL_refused_93 : decode cL_refused 93 = .ok (.bipush (-2), 2) := by decide +kernel
theorem dL_refused_95 : decode cL_refused 95 = .ok (.if_icmp .ne 237, 3) := by decide +kernel
theorem dL_refused_98 : decode cL_refused 98 = .ok (.aload_n 0, 1) := by decide +kernel
theorem dL_refused_99 : decode cL_refused 99 = .ok (.iload_n 2, 1) := by decide +kernel
theorem dL_refused_100 : decode cL_refused 100 = .ok (.iconst 0, 1) := by decide +kernel
theorem dL_refused_101 : decode cL_refused 101 = .ok (.iconst 0, 1) := by decide +kernel
theorem dL_refused_102 : decode cL_refused 102 = .ok (.iconst 0, 1) := by decide +kernel
theorem dL_refused_103 : decode cL_refused 103 = .ok (.invokevirtual 69, 3) := by decide +kernel
theorem dL_refused_106 : decode cL_refused 106 = .ok (.iconst (-1), 1) := by decide +kernel
theorem dL_refused_107 : decode cL_refused 107 = .ok (.if_icmp .ne 225, 3) := by decide +kernel
theorem dL_refused_110 : decode cL_refused 110 = .ok (.aload_n 0, 1) := by decide +kernel
theorem dL_refused_111 : decode cL_refused 111 = .ok (.iload_n 2, 1) := by decide +kernel
theorem dL_refused_112 : decode cL_refused 112 = .ok (.iconst 1, 1) := by decide +kernel
theorem dL_refused_113 : decode cL_refused 113 = .ok (.invokevirtual 77, 3) := by decide +kernel
theorem dL_refused_116 : decode cL_refused 116 = .ok (.iconst (-1), 1) := by decide +kernel
theorem dL_refused_117 : decode cL_refused 117 = .ok (.if_icmp .ne 215, 3) := by decide +kernel
theorem dL_refused_120 : decode cL_refused 120 = .ok (.aload_n 0, 1) := by decide +kernel
theorem dL_refused_121 : decode cL_refused 121 = .ok (.iload_n 2, 1) := by decide +kernel
theorem dL_refused_122 : decode cL_refused 122 = .ok (.invokevirtual 80, 3) := by decide +kernel
theorem dL_refused_125 : decode cL_refused 125 = .ok (.iconst (-1), 1) := by decide +kernel
theorem dL_refused_126 : decode cL_refused 126 = .ok (.if_icmp .ne 206, 3) := by decide +kernel
theorem dL_refused_129 : decode cL_refused 129 = .ok (.aload_n 0, 1) := by decide +kernel
theorem dL_refused_130 : decode cL_refused 130 = .ok (.iload_n 2, 1) := by decide +kernel
theorem dL_refused_131 : decode cL_refused 131 = .ok (.iconst 0, 1) := by decide +kernel
theorem dL_refused_132 : decode cL_refused 132 = .ok (.invokevirtual 83, 3) := by decide +kernel
theorem dL_refused_135 : decode cL_refused 135 = .ok (.iconst (-1), 1) := by decide +kernel
theorem dL_refused_136 : decode cL_refused 136 = .ok (.if_icmp .ne 196, 3) := by decide +kernel
theorem dL_refused_139 : decode cL_refused 139 = .ok (.aload_n 0, 1) := by decide +kernel
theorem dL_refused_140 : decode cL_refused 140 = .ok (.iload_n 2, 1) := by decide +kernel
theorem dL_refused_141 : decode cL_refused 141 = .ok (.iconst 1, 1) := by decide +kernel
theorem dL_refused_142 : decode cL_refused 142 = .ok (.invokevirtual 87, 3) := by decide +kernel
theorem dL_refused_145 : decode cL_refused 145 = .ok (.iconst (-1), 1) := by decide +kernel
theorem dL_refused_146 : decode cL_refused 146 = .ok (.if_icmp .ne 186, 3) := by decide +kernel
theorem dL_refused_149 : decode cL_refused 149 = .ok (.aload_n 0, 1) := by decide +kernel
theorem dL_refused_150 : decode cL_refused 150 = .ok (.iload_n 2, 1) := by decide +kernel
theorem dL_refused_151 : decode cL_refused 151 = .ok (.invokevirtual 96, 3) := by decide +kernel
theorem dL_refused_154 : decode cL_refused 154 = .ok (.bipush (-2), 2) := by decide +kernel
theorem dL_refused_156 : decode cL_refused 156 = .ok (.if_icmp .ne 176, 3) := by decide +kernel
theorem dL_refused_159 : decode cL_refused 159 = .ok (.aload_n 0, 1) := by decide +kernel
theorem dL_refused_160 : decode cL_refused 160 = .ok (.iload_n 2, 1) := by decide +kernel
theorem dL_refused_161 : decode cL_refused 161 = .ok (.iconst 0, 1) := by decide +kernel
theorem dL_refused_162 : decode cL_refused 162 = .ok (.invokevirtual 66, 3) := by decide +kernel
theorem dL_refused_165 : decode cL_refused 165 = .ok (.iconst (-1), 1) := by decide +kernel
theorem dL_refused_166 : decode cL_refused 166 = .ok (.if_icmp .ne 166, 3) := by decide +kernel
theorem dL_refused_169 : decode cL_refused 169 = .ok (.aload_n 0, 1) := by decide +kernel
theorem dL_refused_170 : decode cL_refused 170 = .ok (.iload_n 2, 1) := by decide +kernel
theorem dL_refused_171 : decode cL_refused 171 = .ok (.iconst 0, 1) := by decide +kernel
theorem dL_refused_172 : decode cL_refused 172 = .ok (.invokevirtual 73, 3) := by decide +kernel
theorem dL_refused_175 : decode cL_refused 175 = .ok (.ldc2_w 177, 3) := by decide +kernel
theorem dL_refused_178 : decode cL_refused 178 = .ok (.lcmp, 1) := by decide +kernel
theorem dL_refused_179 : decode cL_refused 179 = .ok (.ifCond .ne 153, 3) := by decide +kernel
theorem dL_refused_182 : decode cL_refused 182 = .ok (.aload_n 0, 1) := by decide +kernel
theorem dL_refused_183 : decode cL_refused 183 = .ok (.iload_n 2, 1) := by decide +kernel
theorem dL_refused_184 : decode cL_refused 184 = .ok (.iconst 0, 1) := by decide +kernel
theorem dL_refused_185 : decode cL_refused 185 = .ok (.invokevirtual 90, 3) := by decide +kernel
theorem dL_refused_188 : decode cL_refused 188 = .ok (.iconst (-1), 1) := by decide +kernel
theorem dL_refused_189 : decode cL_refused 189 = .ok (.if_icmp .ne 143, 3) := by decide +kernel
theorem dL_refused_192 : decode cL_refused 192 = .ok (.aload_n 0, 1) := by decide +kernel
theorem dL_refused_193 : decode cL_refused 193 = .ok (.iload_n 2, 1) := by decide +kernel
theorem dL_refused_194 : decode cL_refused 194 = .ok (.invokevirtual 60, 3) := by decide +kernel
theorem dL_refused_197 : decode cL_refused 197 = .ok (.bipush (-2), 2) := by decide +kernel
theorem dL_refused_199 : decode cL_refused 199 = .ok (.if_icmp .ne 133, 3) := by decide +kernel
theorem dL_refused_202 : decode cL_refused 202 = .ok (.aload_n 0, 1) := by decide +kernel
theorem dL_refused_203 : decode cL_refused 203 = .ok (.iload_n 2, 1) := by decide +kernel
theorem dL_refused_204 : decode cL_refused 204 = .ok (.iconst 0, 1) := by decide +kernel
theorem dL_refused_205 : decode cL_refused 205 = .ok (.invokevirtual 147, 3) := by decide +kernel
theorem dL_refused_208 : decode cL_refused 208 = .ok (.iconst (-1), 1) := by decide +kernel
theorem dL_refused_209 : decode cL_refused 209 = .ok (.if_icmp .ne 123, 3) := by decide +kernel
theorem dL_refused_212 : decode cL_refused 212 = .ok (.aload_n 0, 1) := by decide +kernel
theorem dL_refused_213 : decode cL_refused 213 = .ok (.iload_n 2, 1) := by decide +kernel
theorem dL_refused_214 : decode cL_refused 214 = .ok (.invokevirtual 150, 3) := by decide +kernel
theorem dL_refused_217 : decode cL_refused 217 = .ok (.iconst (-1), 1) := by decide +kernel
theorem dL_refused_218 : decode cL_refused 218 = .ok (.if_icmp .ne 114, 3) := by decide +kernel
theorem dL_refused_221 : decode cL_refused 221 = .ok (.aload_n 0, 1) := by decide +kernel
theorem dL_refused_222 : decode cL_refused 222 = .ok (.iload_n 2, 1) := by decide +kernel
theorem dL_refused_223 : decode cL_refused 223 = .ok (.iconst 0, 1) := by decide +kernel
theorem dL_refused_224 : decode cL_refused 224 = .ok (.invokevirtual 153, 3) := by decide +kernel
theorem dL_refused_227 : decode cL_refused 227 = .ok (.iconst (-1), 1) := by decide +kernel
theorem dL_refused_228 : decode cL_refused 228 = .ok (.if_icmp .ne 104, 3) := by decide +kernel
theorem dL_refused_231 : decode cL_refused 231 = .ok (.aload_n 0, 1) := by decide +kernel
theorem dL_refused_232 : decode cL_refused 232 = .ok (.iload_n 2, 1) := by decide +kernel
theorem dL_refused_233 : decode cL_refused 233 = .ok (.invokevirtual 156, 3) := by decide +kernel
theorem dL_refused_236 : decode cL_refused 236 = .ok (.iconst (-1), 1) := by decide +kernel
theorem dL_refused_237 : decode cL_refused 237 = .ok (.if_icmp .ne 95, 3) := by decide +kernel
theorem dL_refused_240 : decode cL_refused 240 = .ok (.aload_n 0, 1) := by decide +kernel
theorem dL_refused_241 : decode cL_refused 241 = .ok (.iload_n 2, 1) := by decide +kernel
theorem dL_refused_242 : decode cL_refused 242 = .ok (.iconst 1, 1) := by decide +kernel
theorem dL_refused_243 : decode cL_refused 243 = .ok (.invokevirtual 159, 3) := by decide +kernel
theorem dL_refused_246 : decode cL_refused 246 = .ok (.iconst (-1), 1) := by decide +kernel
theorem dL_refused_247 : decode cL_refused 247 = .ok (.if_icmp .ne 85, 3) := by decide +kernel
theorem dL_refused_250 : decode cL_refused 250 = .ok (.aload_n 0, 1) := by decide +kernel
theorem dL_refused_251 : decode cL_refused 251 = .ok (.iload_n 2, 1) := by decide +kernel
theorem dL_refused_252 : decode cL_refused 252 = .ok (.bipush (-6), 2) := by decide +kernel
theorem dL_refused_254 : decode cL_refused 254 = .ok (.invokevirtual 162, 3) := by decide +kernel
theorem dL_refused_257 : decode cL_refused 257 = .ok (.iconst (-1), 1) := by decide +kernel
theorem dL_refused_258 : decode cL_refused 258 = .ok (.if_icmp .ne 74, 3) := by decide +kernel
theorem dL_refused_261 : decode cL_refused 261 = .ok (.aload_n 0, 1) := by decide +kernel
theorem dL_refused_262 : decode cL_refused 262 = .ok (.iload_n 2, 1) := by decide +kernel
theorem dL_refused_263 : decode cL_refused 263 = .ok (.iconst 0, 1) := by decide +kernel
theorem dL_refused_264 : decode cL_refused 264 = .ok (.invokevirtual 144, 3) := by decide +kernel
theorem dL_refused_267 : decode cL_refused 267 = .ok (.iconst (-1), 1) := by decide +kernel
theorem dL_refused_268 : decode cL_refused 268 = .ok (.if_icmp .ne 64, 3) := by decide +kernel
theorem dL_refused_271 : decode cL_refused 271 = .ok (.aload_n 0, 1) := by decide +kernel
theorem dL_refused_272 : decode cL_refused 272 = .ok (.invokevirtual 114, 3) := by decide +kernel
theorem dL_refused_275 : decode cL_refused 275 = .ok (.bipush (-3), 2) := by decide +kernel
theorem dL_refused_277 : decode cL_refused 277 = .ok (.if_icmp .ne 55, 3) := by decide +kernel
theorem dL_refused_280 : decode cL_refused 280 = .ok (.aload_n 0, 1) := by decide +kernel
theorem dL_refused_281 : decode cL_refused 281 = .ok (.invokevirtual 137, 3) := by decide +kernel
theorem dL_refused_284 : decode cL_refused 284 = .ok (.bipush (-5), 2) := by decide +kernel
theorem dL_refused_286 : decode cL_refused 286 = .ok (.if_icmp .ne 46, 3) := by decide +kernel
theorem dL_refused_289 : decode cL_refused 289 = .ok (.aload_n 0, 1) := by decide +kernel
theorem dL_refused_290 : decode cL_refused 290 = .ok (.iload_n 2, 1) := by decide +kernel
theorem dL_refused_291 : decode cL_refused 291 = .ok (.invokevirtual 165, 3) := by decide +kernel
theorem dL_refused_294 : decode cL_refused 294 = .ok (.bipush (-2), 2) := by decide +kernel
theorem dL_refused_296 : decode cL_refused 296 = .ok (.if_icmp .ne 36, 3) := by decide +kernel
theorem dL_refused_299 : decode cL_refused 299 = .ok (.aload_n 0, 1) := by decide +kernel
theorem dL_refused_300 : decode cL_refused 300 = .ok (.iload_n 2, 1) := by decide +kernel
theorem dL_refused_301 : decode cL_refused 301 = .ok (.invokevirtual 168, 3) := by decide +kernel
theorem dL_refused_304 : decode cL_refused 304 = .ok (.bipush (-2), 2) := by decide +kernel
theorem dL_refused_306 : decode cL_refused 306 = .ok (.if_icmp .ne 26, 3) := by decide +kernel
theorem dL_refused_309 : decode cL_refused 309 = .ok (.aload_n 0, 1) := by decide +kernel
theorem dL_refused_310 : decode cL_refused 310 = .ok (.iconst 0, 1) := by decide +kernel
theorem dL_refused_311 : decode cL_refused 311 = .ok (.invokevirtual 168, 3) := by decide +kernel
theorem dL_refused_314 : decode cL_refused 314 = .ok (.bipush (-5), 2) := by decide +kernel
theorem dL_refused_316 : decode cL_refused 316 = .ok (.if_icmp .ne 16, 3) := by decide +kernel
theorem dL_refused_319 : decode cL_refused 319 = .ok (.aload_n 0, 1) := by decide +kernel
theorem dL_refused_320 : decode cL_refused 320 = .ok (.bipush 7, 2) := by decide +kernel
theorem dL_refused_322 : decode cL_refused 322 = .ok (.invokevirtual 60, 3) := by decide +kernel
theorem dL_refused_325 : decode cL_refused 325 = .ok (.ifCond .ne 7, 3) := by decide +kernel
theorem dL_refused_328 : decode cL_refused 328 = .ok (.iconst 1, 1) := by decide +kernel
theorem dL_refused_329 : decode cL_refused 329 = .ok (.goto 4, 3) := by decide +kernel
theorem dL_refused_332 : decode cL_refused 332 = .ok (.iconst 0, 1) := by decide +kernel
theorem dL_refused_333 : decode cL_refused 333 = .ok (.ireturn, 1) := by decide +kernel
end
section
/-! MY OWN KIT: one region of cells at mm_lo, mm_lo + 1 ..; which kind of cell stands at which place is fixed (kT), references between them too (kR); what changes is ints (M.1) and longs (M.2), by place and slot. -/
abbrev mm_M : Type := (Nat → Nat → Int32) × (Nat → Nat → Int64)
abbrev mm_R : Type := Nat → Nat → Option Nat
abbrev mm_Ws : Type := mm_R × Nat × mm_M
abbrev mm_G : Type := va_G × (Nat → ClassId) × (Nat → Nat)
abbrev mm_lo (G : mm_G) : Nat := G.2.2 0
def mm_A (G : mm_G) : Nat → Prop := fun q => mm_lo G ≤ q ∧ (q < mm_lo G + 731 ∨ G.2.2 4 ≤ q)
theorem mm_Ai {G : mm_G} {o : Nat} (h : o < 731) : mm_A G (mm_lo G + o) := ⟨Nat.le_add_right _ _, Or.inl (Nat.add_lt_add_left h _)⟩
def sI (M : mm_M) (o k : Nat) (v : Int32) : mm_M := (fun o' k' => if o' = o ∧ k' = k then v else M.1 o' k', M.2)
def sL (M : mm_M) (o k : Nat) (v : Int64) : mm_M := (M.1, fun o' k' => if o' = o ∧ k' = k then v else M.2 o' k')
def sC (M : mm_M) (o : Nat) (f : Nat → Int32) : mm_M := (fun o' k' => if o' = o then f k' else M.1 o' k', M.2)
def sR (R : mm_R) (o k : Nat) (v : Option Nat) : mm_R := fun o' k' => if o' = o ∧ k' = k then v else R o' k'
/-- kinds: 0 Cart, 1 History, 2 Pad, 3 Pitch, 4 State, 5 CartPitches, 6 the model, 7 char[], 8 int[], 9 boolean[], 10 Cart[], 11 Pitch[], 12 State[]; of an array its length -/
def kS (r : Nat) : Nat × Nat := if r = 0 then (4, 0) else if r = 1 then (8, 10) else if r = 2 then (11, 10) else if r = 3 then (10, 16) else if r = 4 then (8, 8) else if r = 5 then (8, 8) else if r = 6 then (8, 16) else if r = 7 then (8, 16) else if r < 18 then (3, 0) else if (r - 18) % 3 = 0 then (0, 0) else if (r - 18) % 3 = 1 then (8, 3) else (8, 200)
def kT (o : Nat) : Nat × Nat := if o = 0 then (5, 0) else if o < 133 then kS ((o - 1) % 66) else if o = 133 then (1, 0) else if o = 134 then (12, 7) else if o < 729 then kS ((o - 135) % 66) else if o = 729 then (2, 0) else if o = 730 then (7, 80) else (99, 0)
def rS (o r k : Nat) : Option Nat := if r = 0 then (if 7 ≤ k ∧ k ≤ 13 then some (o + (k - 6)) else none) else if r = 2 then (if k < 10 then some (o + 6 + k) else none) else if r = 3 then (if k < 16 then some (o + 15 + 3 * k) else none) else if 18 ≤ r ∧ (r - 18) % 3 = 0 then (if k = 16 then some (o + 1) else if k = 17 then some (o + 2) else none) else none
def kR : mm_R := fun o k => if o = 0 then (if k = 0 then some 1 else if k = 1 then some 67 else if k = 2 then some 133 else if k = 3 then some 597 else if k = 4 then some 663 else if k = 5 then some 729 else none) else if o < 133 then rS o ((o - 1) % 66) k else if o = 133 then (if k = 0 then some 134 else none) else if o = 134 then (if k < 7 then some (135 + 66 * k) else none) else if o < 729 then rS o ((o - 135) % 66) k else if o = 729 then (if k = 0 then some 730 else none) else none
def mm_q (G : mm_G) (r : Option Nat) : Value := va_rf (r.map (fun a => mm_lo G + a))
theorem mm_q_some {G : mm_G} {r : Option Nat} {b : Nat} (h : r = some b) : mm_q G r = .ref (mm_lo G + b) := by subst h; rfl
def mm_e (G : mm_G) (I : Nat → Int32) (L : Nat → Int64) (R : Nat → Option Nat) (q : Nat × Nat) : va_E := match q.1 with
  | 0 => .inr (0, [.int (I 0), .int (I 1), .int (I 2), .int (I 3), .int (I 4), .int (I 5), .int (I 6), .int (I 7), .int (I 8), .int (I 9), .int (I 10), .int (I 11), .long (L 12), .long (L 13), .long (L 14), .long (L 15), mm_q G (R 16), mm_q G (R 17)])
  | 1 => .inr (1, [mm_q G (R 0), .int (I 1), .int (I 2)])
  | 2 => .inr (2, [mm_q G (R 0), .int (I 1)])
  | 3 => .inr (3, [.int (I 0), .int (I 1), .int (I 2), .int (I 3)])
  | 4 => .inr (4, [.int (I 0), .int (I 1), .int (I 2), .int (I 3), .int (I 4), .int (I 5), .int (I 6), mm_q G (R 7), mm_q G (R 8), mm_q G (R 9), mm_q G (R 10), mm_q G (R 11), mm_q G (R 12), mm_q G (R 13), .int (I 14)])
  | 5 => .inr (5, [mm_q G (R 0), mm_q G (R 1), mm_q G (R 2), mm_q G (R 3), mm_q G (R 4), mm_q G (R 5)])
  | 6 => .inr (6, [mm_q G (R 0), mm_q G (R 1), .int (I 2), mm_q G (R 3), mm_q G (R 4), mm_q G (R 5), mm_q G (R 6), .int (I 7), .int (I 8), .int (I 9), .int (I 10), .int (I 11), .int (I 12), mm_q G (R 13), mm_q G (R 14)])
  | 7 => .inl (G.2.1 0, (q.2, .inl I))
  | 8 => .inl (G.2.1 1, (q.2, .inl I))
  | 9 => .inl (G.2.1 2, (q.2, .inl I))
  | 10 => .inl (G.2.1 3, (q.2, .inr (.inr (.inr (.inr (fun j => (R j).map (fun a => mm_lo G + a)))))))
  | 11 => .inl (G.2.1 4, (q.2, .inr (.inr (.inr (.inr (fun j => (R j).map (fun a => mm_lo G + a)))))))
  | _ => .inl (G.2.1 5, (q.2, .inr (.inr (.inr (.inr (fun j => (R j).map (fun a => mm_lo G + a)))))))
def mm_tys (G : mm_G) : List (ClassId × FieldType) := [(G.2.1 0, .char), (G.2.1 1, .int), (G.2.1 1, .int), (G.2.1 3, .object "CartPitches$Cart"), (G.2.1 4, .object "CartPitches$Pitch"), (G.2.1 5, .object "CartPitches$State")]
def mm_en (G : mm_G) (R : mm_R) (M : mm_M) (o : Nat) : va_E := mm_e G (M.1 o) (M.2 o) (R o) (kT o)
def mm_W (G : mm_G) (R : mm_R) (N : Nat) (M : mm_M) : va_W := (List.range N).map fun o => (mm_lo G + o, mm_en G R M o)
theorem mm_Wg {G : mm_G} {R : mm_R} {N : Nat} {M : mm_M} {o : Nat} (h : o < N) : (mm_W G R N M)[o]? = some (mm_lo G + o, mm_en G R M o) := by
  unfold mm_W
  rw [List.getElem?_map, List.getElem?_range h]
  rfl
theorem mm_Wi {G : mm_G} {R : mm_R} {N : Nat} {M : mm_M} {k : Nat} {q : Nat × va_E} (h : (mm_W G R N M)[k]? = some q) : k < N ∧ q = (mm_lo G + k, mm_en G R M k) := by
  have hk : k < N := by
    have := (List.getElem?_eq_some_iff.mp h).1
    unfold mm_W at this
    simpa using this
  rw [mm_Wg hk] at h
  exact ⟨hk, (Option.some.inj h).symm⟩
theorem mm_Wd {G : mm_G} {R : mm_R} {N : Nat} {M : mm_M} (hN : N ≤ 731) : va_D (mm_A G) (mm_W G R N M) := by
  refine ⟨fun i j p q hi hj h => ?_, fun k q hk => ?_⟩
  · have a := (mm_Wi hi).2
    have b := (mm_Wi hj).2
    subst a; subst b
    exact Nat.add_left_cancel h
  · obtain ⟨a0, a⟩ := mm_Wi hk
    subst a
    exact mm_Ai (Nat.lt_of_lt_of_le a0 hN)
def mm_P (G : mm_G) (R : mm_R) (N : Nat) (M : mm_M) (H : Heap) : Prop := va_P G.1 vwCl (mm_W G R N M) H ∧ N ≤ 731
/-- one cell is written -/
theorem mm_upd {G : mm_G} {R R1 : mm_R} {N : Nat} {M M1 : mm_M} {H H1 : Heap} {o : Nat} (hM : mm_P G R N M H) (oq : ∀ q : Nat, q ≠ mm_lo G + o → H1[q]? = H[q]?) (he : va_at G.1 vwCl (mm_lo G + o, mm_en G R1 M1 o) H1) (hs : ∀ o', o' ≠ o → mm_en G R1 M1 o' = mm_en G R M o') : mm_P G R1 N M1 H1 := by
  refine ⟨fun k q hk => ?_, hM.2⟩
  obtain ⟨hkN, e⟩ := mm_Wi hk
  subst e
  by_cases h : k = o
  · subst h; exact he
  · rw [hs k h]
    exact (hM.1 k _ (mm_Wg hkN)).kept (oq _ (fun z => h (Nat.add_left_cancel z)))
theorem mm_en_I {G : mm_G} {R : mm_R} {M : mm_M} {o k : Nat} {v : Int32} : ∀ o', o' ≠ o → mm_en G R (sI M o k v) o' = mm_en G R M o' := by
  intro o' h
  have e : (sI M o k v).1 o' = M.1 o' := by funext j; simp [sI, h]
  unfold mm_en
  rw [e]
  rfl
theorem mm_en_L {G : mm_G} {R : mm_R} {M : mm_M} {o k : Nat} {v : Int64} : ∀ o', o' ≠ o → mm_en G R (sL M o k v) o' = mm_en G R M o' := by
  intro o' h
  have e : (sL M o k v).2 o' = M.2 o' := by funext j; simp [sL, h]
  unfold mm_en
  rw [e]
  rfl
theorem mm_en_C {G : mm_G} {R : mm_R} {M : mm_M} {o : Nat} {f : Nat → Int32} : ∀ o', o' ≠ o → mm_en G R (sC M o f) o' = mm_en G R M o' := by
  intro o' h
  have e : (sC M o f).1 o' = M.1 o' := by funext j; simp [sC, h]
  unfold mm_en
  rw [e]
  rfl
theorem mm_en_R {G : mm_G} {R : mm_R} {M : mm_M} {o k : Nat} {v : Option Nat} : ∀ o', o' ≠ o → mm_en G (sR R o k v) M o' = mm_en G R M o' := by
  intro o' h
  have e : (sR R o k v) o' = R o' := by funext j; simp [sR, h]
  unfold mm_en
  rw [e]
theorem sI_at (M : mm_M) (o k : Nat) (v : Int32) : (sI M o k v).1 o = fun j => if j = k then v else M.1 o j := by funext j; simp [sI]
theorem sI_long (M : mm_M) (o k : Nat) (v : Int32) (o' : Nat) : (sI M o k v).2 o' = M.2 o' := rfl
theorem sL_at (M : mm_M) (o k : Nat) (v : Int64) : (sL M o k v).2 o = fun j => if j = k then v else M.2 o j := by funext j; simp [sL]
theorem sL_int (M : mm_M) (o k : Nat) (v : Int64) (o' : Nat) : (sL M o k v).1 o' = M.1 o' := rfl
theorem sR_at (R : mm_R) (o k : Nat) (v : Option Nat) : (sR R o k v) o = fun j => if j = k then v else R o j := by funext j; simp [sR]
-- the tables' words
def mm_good : List Cond := lw_tbl.filter goodWord
theorem mm_in {w : Cond} (i : Nat) (h : lw_tbl[i]? = some w) (hg : goodWord w = true) : w ∈ mm_good := List.mem_filter.mpr ⟨List.mem_of_getElem? h, hg⟩
def mm_ws (y : MethodName) (cc : ByteArray) (n : Nat) (ret : Option FieldType) : List Cond := Cond.code y cc n ret :: mm_good
theorem mm_gd {w : Cond} (h : w ∈ mm_good) : w ∈ mm_good ∧ ((w.onTables && w.keeps) = true ∨ ∃ ty, w = .arrayClass ty) := ⟨h, good_of_word (List.mem_filter.mp h).2⟩
theorem mm_gws {y : MethodName} {cc : ByteArray} {n : Nat} {ret : Option FieldType} (h : Cond.code y cc n ret ∈ mm_good) : GoodIn mm_good (mm_ws y cc n ret) := by
  intro w hw
  rcases List.mem_cons.mp hw with rfl | hw
  · exact mm_gd h
  · exact mm_gd hw
theorem mm_gV {own : String} {idx : Nat} {C : String} {y : MethodName} {cc : ByteArray} {n : Nat} {ret : Option FieldType} (h1 : Cond.methodLink own idx y ∈ mm_good) (h2 : Cond.instanceMethod y ∈ mm_good) (h3 : Cond.selects C y y ∈ mm_good) (h4 : Cond.initialized C ∈ mm_good) (h5 : Cond.code y cc n ret ∈ mm_good) : GoodIn mm_good (wsV own idx C y (mm_ws y cc n ret)) := by
  intro w hw
  unfold wsV at hw
  rcases List.mem_append.mp hw with hw | hw
  · simp only [List.mem_cons, List.not_mem_nil, or_false] at hw
    rcases hw with rfl | rfl | rfl | rfl
    · exact mm_gd h1
    · exact mm_gd h2
    · exact mm_gd h3
    · exact mm_gd h4
  · exact mm_gws h5 w hw
theorem mm_gS {own : String} {idx : Nat} {y : MethodName} {cc : ByteArray} {n : Nat} {ret : Option FieldType} (h1 : Cond.methodLink own idx y ∈ mm_good) (h2 : Cond.static y ∈ mm_good) (h4 : Cond.initialized y.cls ∈ mm_good) (h5 : Cond.code y cc n ret ∈ mm_good) : GoodIn mm_good (va_wsS own idx y (mm_ws y cc n ret)) := by
  intro w hw
  unfold va_wsS at hw
  rcases List.mem_append.mp hw with hw | hw
  · simp only [List.mem_cons, List.not_mem_nil, or_false] at hw
    rcases hw with rfl | rfl | rfl
    · exact mm_gd h1
    · exact mm_gd h2
    · exact mm_gd h4
  · exact mm_gws h5 w hw
/-- links between nest mates, arrays of references: words that are said of a state -/
def mm_N (U : State) : Prop := (∀ (own : String) (i : Nat) (r n d h : String), Cond.fieldLinkNest own i r n d h ∈ lw_tbl → va_Nw (.fieldLinkNest own i r n d h) U) ∧ (∀ (own : String) (i : Nat) (y : MethodName) (h : String), Cond.methodLinkNest own i y h ∈ lw_tbl → va_Nw (.methodLinkNest own i y h) U) ∧ (∀ C : String, Cond.arrayOver (.object C) ∈ lw_tbl → va_AO C U)
theorem mm_N.warm {s U : State} (hW : s.WarmedH U.vm) (h : mm_N s) : mm_N U := ⟨fun own i r n d x hw => va_Nw.warmF hW (h.1 own i r n d x hw), fun own i y x hw => va_Nw.warmM hW (h.2.1 own i y x hw), fun C hw => va_AO.moved hW.alike (h.2.2 C hw)⟩
theorem mm_N.same {u U : State} (e : u.vm = U.vm) (h : mm_N u) : mm_N U := ⟨fun own i r n d x hw => va_Nw.same rfl e (h.1 own i r n d x hw), fun own i y x hw => va_Nw.same rfl e (h.2.1 own i y x hw), fun C hw => va_AO.moved (by rw [e]; exact Vm.Alike.refl _) (h.2.2 C hw)⟩
def mm_K (G : mm_G) (U : State) : Prop := va_K G.1 vwCl (mm_tys G) U ∧ mm_N U
theorem mm_K.warm {G : mm_G} {s U : State} (hW : s.WarmedH U.vm) (h : mm_K G s) : mm_K G U := ⟨va_K.moved hW.alike h.1, h.2.warm hW⟩
theorem mm_K.same {G : mm_G} {u U : State} (e : u.vm = U.vm) (h : mm_K G u) : mm_K G U := ⟨va_K.moved (by rw [e]; exact Vm.Alike.refl _) h.1, h.2.same e⟩
-- the three static arrays
def mm_f0 (j : Nat) : Int32 := if j = 0 then 8 else if j = 1 then 60 else if j = 2 then 2 else if j = 3 then 12 else if j = 4 then 14 else if j = 5 then 90 else if j = 6 then 500 else if j = 7 then 2 else if j = 8 then 11 else 200
def mm_f1 (j : Nat) : Int32 := if j = 0 then 1 else if j = 1 then 1 else if j = 2 then 1 else if j = 3 then 3 else if j = 4 then 1 else if j = 5 then 1 else if j = 6 then 0 else if j = 7 then 0 else if j = 8 then 6 else 0
def mm_f2 (j : Nat) : Int32 := if j = 0 then 20 else if j = 1 then 200 else if j = 2 then 8 else if j = 3 then 30 else if j = 4 then 60 else if j = 5 then 200 else if j = 6 then 10000 else if j = 7 then 9 else if j = 8 then 14 else 5000
def mm_Z1 (G : mm_G) (n : String) (t : Nat) (f : Nat → Int32) (U : State) (H : Heap) : Prop := va_Z "CartPitches" n "[I" (.ref t) (mm_A G) U H ∧ va_T .int t 10 (fun j => .int (f j)) (mm_A G) U H
def mm_Z (G : mm_G) (U : State) (H : Heap) : Prop := mm_Z1 G "FIRST_VALUE" (G.2.2 1) mm_f0 U H ∧ mm_Z1 G "LEAST_VALUE" (G.2.2 2) mm_f1 U H ∧ mm_Z1 G "MOST_VALUE" (G.2.2 3) mm_f2 U H
theorem mm_Z1.go {G : mm_G} {n : String} {t : Nat} {f : Nat → Int32} {u U : State} {H H1 : Heap} (hvm : u.vm.Alike U.vm) (hq : ∀ a : Nat, a < H.size → ¬ mm_A G a → H1[a]? = H[a]?) (h : mm_Z1 G n t f u H) : mm_Z1 G n t f U H1 := ⟨(h.1.moved hvm).kept hq, (h.2.moved hvm).kept hq⟩
theorem mm_Z.go {G : mm_G} {u U : State} {H H1 : Heap} (hvm : u.vm.Alike U.vm) (hq : ∀ a : Nat, a < H.size → ¬ mm_A G a → H1[a]? = H[a]?) (h : mm_Z G u H) : mm_Z G U H1 := ⟨h.1.go hvm hq, h.2.1.go hvm hq, h.2.2.go hvm hq⟩
/-- a method's world; behind makers its size too -/
def mm_B (G : mm_G) (w : mm_Ws) (U : State) : Prop := mm_P G w.1 w.2.1 w.2.2 U.heap ∧ mm_K G U ∧ mm_Z G U U.heap ∧ mm_lo G ≤ U.heap.size
def mm_Bc (G : mm_G) (w : mm_Ws) (U : State) : Prop := U.heap.size = mm_lo G + w.2.1 ∧ mm_B G w U
theorem mm_blind {G : mm_G} {vs : List Value} {w : mm_Ws} : FrameBlind (va_Pc vs (mm_B G w)) := fun a U g mk q => ⟨q.1, q.2.1, mm_K.same (u := U) (U := U.calling g mk a) rfl q.2.2.1, q.2.2.2.1.go (u := U) (U := U.calling g mk a) (Vm.Alike.refl U.vm) (fun _ _ _ => rfl), q.2.2.2.2⟩
theorem mm_blindc {G : mm_G} {vs : List Value} {w : mm_Ws} : FrameBlind (va_Pc vs (mm_Bc G w)) := fun a U g mk q => ⟨q.1, q.2.1, q.2.2.1, mm_K.same (u := U) (U := U.calling g mk a) rfl q.2.2.2.1, q.2.2.2.2.1.go (u := U) (U := U.calling g mk a) (Vm.Alike.refl U.vm) (fun _ _ _ => rfl), q.2.2.2.2.2⟩
/-- what a walk carries -/
def mm_C (G : mm_G) (p : Program) (s : State) (m : MethodId) (args : Array Value) (meth : Method) (c : Code) (own : String) (cc : ByteArray) (nL : Nat) (ret : Option FieldType) : Prop :=
  p.tables.exec = Jvm.exec ∧ c.code = cc ∧ meth.sig.returnType = ret ∧ (∀ w ∈ mm_good, w.before args s = true) ∧ s.vm.findClass own = some m.cls ∧ c.maxLocals = nL ∧ meth.locks = false ∧ mm_K G s ∧ mm_Z G s s.heap ∧ mm_lo G ≤ s.heap.size
section MMR
variable {p : Program} {l : Launch} {e : Env} {Rm : Room} {s : State} {m : MethodId} {args : Array Value} {below : List Frame} {meth : Method} {c : Code} {H : Heap} {locs : List Loc} {cells slots : Nat} {Q : State → Prop}
variable {cc : ByteArray} {pc : Nat} {ls : Array Slot} {rest : List Value} {G : mm_G} {own : String} {nL : Nat} {ret : Option FieldType} {R : mm_R} {N : Nat} {M : mm_M} {o : Nat}
theorem mm_get (C : mm_C G p s m args meth c own cc nL ret) (hM : mm_P G R N M H) (ho : o < N) {ci Nf k index : Nat} {Cn : String} {T : u_T} {fs : List Value} (he : mm_en G R M o = .inr (ci, fs)) (hc : vwCl[ci]? = some (Cn, T, Nf)) (hw : ∀ w ∈ u_ws Cn T Nf, w ∈ mm_good) (hk : k < Nf) (hs : (T k).1 = Cn) (hlink : Cond.fieldLink own index Cn (T k).2.1 (T k).2.2.1 ∈ mm_good) {v : Value} (hv : fs[k]? = some v) (hdg : decode cc pc = .ok (.getfield index, 3))
    (kk : W p l e Rm s m args below meth c H locs cells slots Q (F0 m (pc + 3) ls (v :: rest))) : W p l e Rm s m args below meth c H locs cells slots Q (F0 m pc ls (.ref (mm_lo G + o) :: rest)) := by
  obtain ⟨hx, hb, -, hts, hown, -, -, hK, -⟩ := C
  exact va_get (D := G.1) (cl := vwCl) (ci := ci) (v := v) (C := Cn) (T := T) (N := Nf) hx hb hts hw hown hK.1 hM.1 o (by rw [mm_Wg ho, he]) hc k hk (hts _ hlink) (fun _ h9 => by rw [hs] at h9; exact h9) hv hdg kk
/-- a field is written, not final: the cell behind it, all others as they were -/
theorem mm_put0 (C : mm_C G p s m args meth c own cc nL ret) (hM : mm_P G R N M H) (hS : va_S (mm_A G) s.heap H locs) (ho : o < N) {ci Nf k index : Nat} {Cn : String} {T : u_T} {fs : List Value} (he : mm_en G R M o = .inr (ci, fs)) (hc : vwCl[ci]? = some (Cn, T, Nf)) (hw : ∀ w ∈ u_ws Cn T Nf, w ∈ mm_good) (ty0 : Nat → FieldType) (hty : ∀ k, k < Nf → parseFieldDescriptor (T k).2.2.1 = some (ty0 k)) (hnm : ∀ a, a < Nf → ∀ b, b < Nf → a ≠ b → (T a).2.1 ≠ (T b).2.1) (hk : k < Nf) (hs : (T k).1 = Cn) (hlink : Cond.fieldLink own index Cn (T k).2.1 (T k).2.2.1 ∈ mm_good)
    (hfin : (T k).2.2.2 = false ∨ ((T k).2.2.2 = true ∧ meth.name = "<init>" ∧ Cn = own)) {v : Value} (hn : narrow (ty0 k) v = v) (hfit : fits (ty0 k) v = true) (hl : k < fs.length) (hdg : decode cc pc = .ok (.putfield index, 3))
    (kk : ∀ (H1 : Heap) (locs1 : List Loc), va_at G.1 vwCl (mm_lo G + o, .inr (ci, fs.set k v)) H1 → (∀ q : Nat, q ≠ mm_lo G + o → H1[q]? = H[q]?) → H1.size = H.size → va_S (mm_A G) s.heap H1 locs1 → W p l e Rm s m args below meth c H1 locs1 cells slots Q (F0 m (pc + 3) ls rest)) : W p l e Rm s m args below meth c H locs cells slots Q (F0 m pc ls (v :: .ref (mm_lo G + o) :: rest)) := by
  obtain ⟨hx, hb, -, hts, hown, -, -, hK, -⟩ := C
  have hap := va_apart (own := own) (ci := ci) hts hw ty0 hty hnm hK.1 hc
  have h0 := hM.1 o _ (mm_Wg ho)
  rw [he] at h0
  obtain ⟨r, h1, cell, q1, q2, q3, q4⟩ := h0
  cases h1.symm.trans hc
  obtain ⟨hSl, hfc, kC, hkC, hkind⟩ := hK.1.1 ci _ hc
  obtain ⟨cf, kf, fi, f, hi, hsl⟩ := hSl k hk
  have hd : parseFieldDescriptor (T k).2.2.1 = some (ty0 k) := hty k hk
  have hst := (u_facts hfc hkC (u_lays hts hw hk) hi).1
  have hi2 : s.fieldFound? Cn (T k).2.1 (T k).2.2.1 = some (cf, kf, fi, f) := by rw [← hs]; exact hi
  have hlt : f.slot < cell.slots.size := by rw [hsl]; exact k2_hasslot (q4 k hk)
  have fin : ∀ H' : Heap, H'[mm_lo G + o]? = some (cell.setSlot f.slot v) → H'.size = H.size → (∀ q, q ≠ mm_lo G + o → H'[q]? = H[q]?) → W p l e Rm s m args below meth c H' (locs ++ [⟨mm_lo G + o, f.slot⟩]) cells slots Q (F0 m (pc + 3) ls rest) := by
    intro H' e1 e2 e3
    rw [hsl] at e1 ⊢
    exact kk H' _ ⟨_, hc, t_OB.to (V := updV (vp_V fs) k v) ⟨_, e1, q2, q3, t_set q4 hap hk v⟩ (fun j _ => vp_updV_set hl v j)⟩ e3 e2 (hS.put e2 e3 (mm_Ai (Nat.lt_of_lt_of_le ho hM.2)))
  rcases hfin with hfin | ⟨hfin, hin, hCn⟩
  · have hlay := hts _ (hw _ (u_in_lay hk))
    unfold u_lay at hlay
    rw [if_neg (by rw [hfin]; decide)] at hlay
    have h6 := u_store hfc hkC hkind hlay hi hd hn hfit
    exact W.putK hx hb (f := f) ⟨hown, hts _ hlink, ⟨_, _, _, hi2⟩, hst⟩ (by rw [q2]; exact h6) q1 q3 hlt rfl rfl hdg fin
  · have hlay := hts _ (hw _ (u_in_lay hk))
    unfold u_lay at hlay
    rw [if_pos hfin] at hlay
    have hcf : m.cls = cf := by
      obtain ⟨_, _, c', _, _, _, -, -, hf', -, -, -, hown2, -⟩ := Cond.laysFinal_spec hlay
      have e1 : c' = cf := by have := hi.symm.trans hf'; simp at this; exact this.1.symm
      rw [hs, hCn] at hown2
      rw [← e1]; exact Option.some.inj (hown.symm.trans hown2)
    have h6 := u_fits hfc hkC hkind (Or.inr hlay) hi hd hn hfit
    exact W.putFinK hx hb hown (hts _ hlink) hi2 hst hcf hin (by rw [q2]; exact h6) q1 q3 hlt rfl rfl hdg fin
/-- an int array is read -/
theorem mm_ild (C : mm_C G p s m args meth c own cc nL ret) (hM : mm_P G R N M H) (ho : o < N) {n : Nat} (hT : kT o = (8, n)) {i : Int32} (hin : vp_in i n) (hdg : decode cc pc = .ok (.iaload, 1))
    (kk : W p l e Rm s m args below meth c H locs cells slots Q (F0 m (pc + 1) ls (.int (M.1 o i.toNatClampNeg) :: rest))) : W p l e Rm s m args below meth c H locs cells slots Q (F0 m pc ls (.int i :: .ref (mm_lo G + o) :: rest)) := by
  obtain ⟨hx, hb, -, hts, hown, -, -, hK, -⟩ := C
  exact va_iald hx hb hK.1 hM.1 o 1 (cA := G.2.1 1) (n := n) (f := M.1 o) (by rw [mm_Wg ho]; unfold mm_en; rw [hT]; rfl) rfl hin hdg kk
theorem mm_cld (C : mm_C G p s m args meth c own cc nL ret) (hM : mm_P G R N M H) (ho : o < N) {n : Nat} (hT : kT o = (7, n)) {i : Int32} (hin : vp_in i n) (hdg : decode cc pc = .ok (.caload, 1))
    (kk : W p l e Rm s m args below meth c H locs cells slots Q (F0 m (pc + 1) ls (.int (M.1 o i.toNatClampNeg) :: rest))) : W p l e Rm s m args below meth c H locs cells slots Q (F0 m pc ls (.int i :: .ref (mm_lo G + o) :: rest)) := by
  obtain ⟨hx, hb, -, hts, hown, -, -, hK, -⟩ := C
  exact va_cald hx hb hK.1 hM.1 o 0 (cA := G.2.1 0) (n := n) (f := M.1 o) (by rw [mm_Wg ho]; unfold mm_en; rw [hT]; rfl) rfl hin hdg kk
/-- an array of references is read; what stands there is known -/
theorem mm_ald (C : mm_C G p s m args meth c own cc nL ret) (hM : mm_P G R N M H) (ho : o < N) {k n : Nat} (hk : k = 10 ∨ k = 11 ∨ k = 12) (hT : kT o = (k, n)) {i : Int32} (hin : vp_in i n) {b : Nat} (hr : R o i.toNatClampNeg = some b) (hdg : decode cc pc = .ok (.aaload, 1))
    (kk : W p l e Rm s m args below meth c H locs cells slots Q (F0 m (pc + 1) ls (.ref (mm_lo G + b) :: rest))) : W p l e Rm s m args below meth c H locs cells slots Q (F0 m pc ls (.int i :: .ref (mm_lo G + o) :: rest)) := by
  obtain ⟨hx, hb, -, hts, hown, -, -, hK, -⟩ := C
  have kk : W p l e Rm s m args below meth c H locs cells slots Q (F0 m (pc + 1) ls (va_rf ((fun j => (R o j).map (fun a => mm_lo G + a)) i.toNatClampNeg) :: rest)) := by
    show W p l e Rm s m args below meth c H locs cells slots Q (F0 m (pc + 1) ls (mm_q G (R o i.toNatClampNeg) :: rest))
    rw [mm_q_some hr]; exact kk
  rcases hk with rfl | rfl | rfl
  · exact va_aldq hx hb hK.1 hM.1 o 3 (cA := G.2.1 3) (n := n) (f := fun j => (R o j).map (fun a => mm_lo G + a)) (by rw [mm_Wg ho]; unfold mm_en; rw [hT]; rfl) rfl hin hdg kk
  · exact va_aldq hx hb hK.1 hM.1 o 4 (cA := G.2.1 4) (n := n) (f := fun j => (R o j).map (fun a => mm_lo G + a)) (by rw [mm_Wg ho]; unfold mm_en; rw [hT]; rfl) rfl hin hdg kk
  · exact va_aldq hx hb hK.1 hM.1 o 5 (cA := G.2.1 5) (n := n) (f := fun j => (R o j).map (fun a => mm_lo G + a)) (by rw [mm_Wg ho]; unfold mm_en; rw [hT]; rfl) rfl hin hdg kk
theorem mm_arI {n : Nat} {cA : ClassId} {f : Nat → Int32} {k : Nat} {x : Int32} {H1 : Heap} {a : Nat} {D : va_G} {cl : List vw_C} (e : H1[a]? = some ((arrV cA n (fun j => .int (f j))).setSlot k (.int x))) : va_at D cl (a, .inl (cA, (n, .inl (fun j => if j = k then x else f j)))) H1 := by
  show H1[a]? = some (vp_cell _ _)
  rw [e, vp_cell_i, arrV_store]
  congr 2
  funext q
  by_cases hq : q = k
  · simp [updV, hq]
  · simp [updV, hq]
/-- an int array is written -/
theorem mm_ist (C : mm_C G p s m args meth c own cc nL ret) (hM : mm_P G R N M H) (hS : va_S (mm_A G) s.heap H locs) (ho : o < N) {n : Nat} (hT : kT o = (8, n)) {i x : Int32} (hin : vp_in i n) (hdg : decode cc pc = .ok (.iastore, 1))
    (kk : ∀ (H1 : Heap) (locs1 : List Loc), mm_P G R N (sI M o i.toNatClampNeg x) H1 → va_S (mm_A G) s.heap H1 locs1 → H1.size = H.size → W p l e Rm s m args below meth c H1 locs1 cells slots Q (F0 m (pc + 1) ls rest)) : W p l e Rm s m args below meth c H locs cells slots Q (F0 m pc ls (.int x :: .int i :: .ref (mm_lo G + o) :: rest)) := by
  obtain ⟨hx, hb, -, hts, hown, -, -, hK, -⟩ := C
  have h0 := hM.1 o _ (mm_Wg ho)
  have e0 : mm_en G R M o = .inl (G.2.1 1, (n, .inl (M.1 o))) := by unfold mm_en; rw [hT]; rfl
  have e1 : mm_en G R (sI M o i.toNatClampNeg x) o = .inl (G.2.1 1, (n, .inl (fun j => if j = i.toNatClampNeg then x else M.1 o j))) := by unfold mm_en; rw [hT, sI_at]; rfl
  rw [e0] at h0
  refine W.iast hx hb h0 ((hK.1.2 1 _ rfl).1 n (fun j => .int (M.1 o j))) (fun q => by cases q) (by show ¬ (i < 0 ∨ (arrV _ _ _).slots.size ≤ _); rw [arrV_size]; exact hin) rfl rfl hdg fun H1 e z oq => ?_
  exact kk H1 _ (mm_upd hM oq (by rw [e1]; exact mm_arI e) mm_en_I) (hS.put z oq (mm_Ai (Nat.lt_of_lt_of_le ho hM.2))) z
theorem mm_nar_b {x : Int32} (h : narrow .boolean (.int x) = .int x) (cell : Cell) (k : Nat) : cell.setSlot k (narrow .boolean (.int x)) = cell.setSlot k (.int x) := by rw [h]
theorem mm_cst (C : mm_C G p s m args meth c own cc nL ret) (hM : mm_P G R N M H) (hS : va_S (mm_A G) s.heap H locs) (ho : o < N) {n : Nat} (hT : kT o = (7, n)) {i x : Int32} (hin : vp_in i n) (hnx : narrow .char (.int x) = .int x) (hdg : decode cc pc = .ok (.castore, 1))
    (kk : ∀ (H1 : Heap) (locs1 : List Loc), mm_P G R N (sI M o i.toNatClampNeg x) H1 → va_S (mm_A G) s.heap H1 locs1 → H1.size = H.size → W p l e Rm s m args below meth c H1 locs1 cells slots Q (F0 m (pc + 1) ls rest)) : W p l e Rm s m args below meth c H locs cells slots Q (F0 m pc ls (.int x :: .int i :: .ref (mm_lo G + o) :: rest)) := by
  obtain ⟨hx, hb, -, hts, hown, -, -, hK, -⟩ := C
  have h0 := hM.1 o _ (mm_Wg ho)
  have e0 : mm_en G R M o = .inl (G.2.1 0, (n, .inl (M.1 o))) := by unfold mm_en; rw [hT]; rfl
  have e1 : mm_en G R (sI M o i.toNatClampNeg x) o = .inl (G.2.1 0, (n, .inl (fun j => if j = i.toNatClampNeg then x else M.1 o j))) := by unfold mm_en; rw [hT, sI_at]; rfl
  rw [e0] at h0
  refine W.cast hx hb h0 ((hK.1.2 0 _ rfl).1 n (fun j => .int (M.1 o j))) (fun q => by cases q) (by show ¬ (i < 0 ∨ (arrV _ _ _).slots.size ≤ _); rw [arrV_size]; exact hin) rfl rfl hdg fun H1 e z oq => ?_
  rw [hnx] at e
  exact kk H1 _ (mm_upd hM oq (by rw [e1]; exact mm_arI e) mm_en_I) (hS.put z oq (mm_Ai (Nat.lt_of_lt_of_le ho hM.2))) z
/-- System.arraycopy between two int arrays from 0 to 0 -/
theorem mm_cpy (C : mm_C G p s m args meth c own cc nL ret) (hM : mm_P G R N M H) (hS : va_S (mm_A G) s.heap H locs) {o2 n n2 index : Nat} (ho : o < N) (ho2 : o2 < N) (hT : kT o = (8, n)) (hT2 : kT o2 = (8, n2)) (hl : ls.size = nL) {k : Int32} {kn : Nat} (hk0 : ¬ k < 0) (hk : k.toNatClampNeg = kn) (h1 : kn ≤ n) (h2 : kn ≤ n2)
    (hlink : Cond.methodLink own index arraycopyName ∈ mm_good) (hnat : Cond.native arraycopyName ∈ mm_good) (hstat : Cond.static arraycopyName ∈ mm_good) (hini : Cond.initialized "java/lang/System" ∈ mm_good) (hfr : 1 ≤ Rm.frames) (hlo : (rest.map fun v => v.category).sum + (nativeFrameWords "java/lang/System" "arraycopy" 5 + 11) ≤ Rm.locals) (hdg : decode cc pc = .ok (.invokestatic index, 3))
    (kk : ∀ (H1 : Heap) (locs1 : List Loc), mm_P G R N (sC M o2 (fun j => if j < kn then M.1 o j else M.1 o2 j)) H1 → va_S (mm_A G) s.heap H1 locs1 → W p l e Rm s m args below meth c H1 locs1 cells slots Q (F0 m (pc + 3) ls rest)) : W p l e Rm s m args below meth c H locs cells slots Q (F0 m pc ls (.int k :: .int 0 :: .ref (mm_lo G + o2) :: .int 0 :: .ref (mm_lo G + o) :: rest)) := by
  obtain ⟨hx, hb, -, hts, hown, hml, -, hK, -⟩ := C
  subst hk
  refine va_copyi hx hb (by rw [hml, hl]) hown (hts _ hlink) (hts _ hnat) (hts _ hstat) (hts _ hini) hK.1 hM.1 (mm_Wd hM.2) hS o o2 1 1 (c0 := G.2.1 1) (c1 := G.2.1 1) (n0 := n) (n1 := n2) (f := M.1 o) (g := M.1 o2) (ty := .int) (by rw [mm_Wg ho]; unfold mm_en; rw [hT]; rfl) (by rw [mm_Wg ho2]; unfold mm_en; rw [hT2]; rfl) rfl rfl rfl (by decide) (by decide) hk0 (by show 0 + _ ≤ _; omega) (by show 0 + _ ≤ _; omega) (fun _ _ => rfl) hfr hlo hdg fun H1 locs1 hP1 _ hS1 => ?_
  refine kk H1 locs1 ⟨fun j q hj => ?_, hM.2⟩ hS1
  obtain ⟨hjN, ej⟩ := mm_Wi hj
  subst ej
  by_cases h : j = o2
  · subst h
    have hl2 : j < (mm_W G R N M).length := (List.getElem?_eq_some_iff.mp (mm_Wg hjN)).1
    have a := hP1 j _ (List.getElem?_set_self hl2)
    have e : mm_en G R (sC M j (fun i => if i < k.toNatClampNeg then M.1 o i else M.1 j i)) j = .inl (G.2.1 1, n2, .inl (va_cpy (M.1 o) (M.1 j) 0 0 k.toNatClampNeg)) := by
      unfold mm_en
      rw [hT2]
      show Sum.inl (G.2.1 1, (n2, Sum.inl _)) = _
      congr 4
      funext i
      simp [sC, va_cpy]
    rw [e]
    exact a
  · rw [mm_en_C j h]
    exact hP1 j _ (by rw [List.getElem?_set_ne (Ne.symm h), mm_Wg hjN])
end MMR
end
section
/-! MY OWN KIT, second part: entries, calls, ends -/
def b2i (b : Bool) : Int32 := if b then 1 else 0
theorem b2i_n (b : Bool) : narrow .boolean (.int (b2i b)) = .int (b2i b) := by cases b <;> rfl
theorem mm_narrow_char {x : Int32} (h : (x.toUInt32 % 65536).toInt32 = x) : narrow .char (.int x) = .int x := by
  have := pk_nc x
  rw [h] at this
  exact this
def gd {α : Type} (P : Prop) [Decidable P] (k : Option α) : Option α := if P then k else none
theorem gd_of {α : Type} {P : Prop} [Decidable P] {k : Option α} {r : α} (h : gd P k = some r) : P ∧ k = some r := by
  unfold gd at h
  split at h
  · exact ⟨‹_›, h⟩
  · cases h
theorem gd_t {α : Type} {P : Prop} [Decidable P] {k : Option α} (h : P) : gd P k = k := if_pos h
def bn {α β : Type} (x : Option α) (k : α → Option β) : Option β := match x with
  | none => none
  | some a => k a
theorem bn_of {α β : Type} {x : Option α} {k : α → Option β} {r : β} (h : bn x k = some r) : ∃ a, x = some a ∧ k a = some r := by
  cases x with
  | none => cases h
  | some a => exact ⟨a, rfl, h⟩
theorem bn_s {α β : Type} (a : α) (k : α → Option β) : bn (some a) k = k a := rfl
def lt {α β : Type} (x : α) (k : α → Option β) : Option β := k x
theorem lt_to {α β : Type} {x y : α} {k : α → Option β} {r : β} (e : y = x) (h : lt x k = some r) : k y = some r := by subst e; exact h
theorem if_t {α : Type} {P : Prop} [Decidable P] {a b : Option α} {r : α} (c : P) (h : (if P then a else b) = some r) : a = some r := by rw [if_pos c] at h; exact h
theorem if_f {α : Type} {P : Prop} [Decidable P] {a b : Option α} {r : α} (c : ¬ P) (h : (if P then a else b) = some r) : b = some r := by rw [if_neg c] at h; exact h
theorem vp_in_of2 {i : Int32} {n : Nat} (h : ¬ (i < 0 ∨ n ≤ i.toNatClampNeg)) : vp_in i n := h
section MMC
variable {p : Program} {l : Launch} {e : Env} {Rm : Room} {s : State} {m : MethodId} {args : Array Value} {below : List Frame} {meth : Method} {c : Code} {H : Heap} {locs : List Loc} {cells slots : Nat} {Q : State → Prop}
variable {cc : ByteArray} {pc : Nat} {ls : Array Slot} {rest : List Value} {G : mm_G} {own : String} {nL : Nat} {ret : Option FieldType} {R : mm_R} {N : Nat} {M : mm_M} {o : Nat}
/-- into a method -/
theorem mm_met {y : MethodName} {Qc : Array Value → State → Outcome → State → Prop} {mc ms : Nat} {w : mm_Ws} {vs : List Value} (hy : plainName y.cls = true) (hn : (lg_sl vs).length ≤ nL)
    (body : ∀ (p : Program) (e : Env) (s : State) (m : MethodId) (below : List Frame) (meth : Method) (c : Code) (ls : Array Slot), (y.name = "<init>" → meth.name = "<init>") → mm_C G p s m vs.toArray meth c y.cls cc nL ret → mm_P G w.1 w.2.1 w.2.2 s.heap → va_S (mm_A G) s.heap s.heap [] → lv_has ls nL (lv_args 0 vs) → W p l e Rm s m vs.toArray below meth c s.heap [] 0 0 (MQ below Qc vs.toArray s mc ms (mm_A G)) (F0 m 0 ls [])) : Met l y (mm_ws y cc nL ret) Rm (va_Pc vs (mm_B G w)) Qc mc ms (mm_A G) := by
  refine Met.ofW (cc := cc) (maxL := nL) (ret := ret) hy rfl ?_
  intro p e s m args below meth c s₁ B hml hv
  obtain ⟨rfl, hP, hK, hZ, hlo⟩ := hv
  have hts := atoms_spec (ws := mm_ws y cc nL ret) B.pre
  have hown : s.vm.findClass y.cls = some m.cls := findClass_of_methodNamed B.named
  have hl := lv_entry vs (n := nL) hn
  rw [lg_entry_eq]
  generalize (lg_sl vs ++ List.replicate (nL - (lg_sl vs).length) Slot.unset).toArray = ls at hl ⊢
  exact body p e s m below meth c ls (fun hq => (name_of_methodNamed B.named B.method).1.trans hq) ⟨B.exec, B.bytes, B.returns, fun w hw => hts w (List.mem_cons_of_mem _ hw), hown, hml, B.notSynchronized, hK, hZ, hlo⟩ hP va_S.rf hl
theorem mm_metc {y : MethodName} {Qc : Array Value → State → Outcome → State → Prop} {mc ms : Nat} {w : mm_Ws} {vs : List Value} (hy : plainName y.cls = true) (hn : (lg_sl vs).length ≤ nL)
    (body : ∀ (p : Program) (e : Env) (s : State) (m : MethodId) (below : List Frame) (meth : Method) (c : Code) (ls : Array Slot), (y.name = "<init>" → meth.name = "<init>") → mm_C G p s m vs.toArray meth c y.cls cc nL ret → s.heap.size = mm_lo G + w.2.1 → mm_P G w.1 w.2.1 w.2.2 s.heap → va_S (mm_A G) s.heap s.heap [] → lv_has ls nL (lv_args 0 vs) → W p l e Rm s m vs.toArray below meth c s.heap [] 0 0 (MQ below Qc vs.toArray s mc ms (mm_A G)) (F0 m 0 ls [])) : Met l y (mm_ws y cc nL ret) Rm (va_Pc vs (mm_Bc G w)) Qc mc ms (mm_A G) := by
  refine Met.ofW (cc := cc) (maxL := nL) (ret := ret) hy rfl ?_
  intro p e s m args below meth c s₁ B hml hv
  obtain ⟨rfl, hz, hP, hK, hZ, hlo⟩ := hv
  have hts := atoms_spec (ws := mm_ws y cc nL ret) B.pre
  have hown : s.vm.findClass y.cls = some m.cls := findClass_of_methodNamed B.named
  have hl := lv_entry vs (n := nL) hn
  rw [lg_entry_eq]
  generalize (lg_sl vs ++ List.replicate (nL - (lg_sl vs).length) Slot.unset).toArray = ls at hl ⊢
  exact body p e s m below meth c ls (fun hq => (name_of_methodNamed B.named B.method).1.trans hq) ⟨B.exec, B.bytes, B.returns, fun w hw => hts w (List.mem_cons_of_mem _ hw), hown, hml, B.notSynchronized, hK, hZ, hlo⟩ hz hP va_S.rf hl
/-- the world at a callee's start, or at the end -/
theorem mm_toB (C : mm_C G p s m args meth c own cc nL ret) (hM : mm_P G R N M H) (hS : va_S (mm_A G) s.heap H locs) {U : State} (hU : U.heap = H) (hW : s.WarmedH U.vm) : mm_B G (R, N, M) U := by
  obtain ⟨-, -, -, -, -, -, -, hK, hZ, hlo⟩ := C
  exact ⟨by rw [hU]; exact hM, hK.warm hW, by rw [hU]; exact hZ.go hW.alike hS.2.1, by rw [hU]; exact Nat.le_trans hlo hS.1⟩
abbrev mm_Qi (G : mm_G) (r0 : Int32) (w : mm_Ws) : Array Value → State → Outcome → State → Prop := va_Qi (fun (r : Int32) (u : Unit) => r = r0) (fun _ t => mm_B G w t) (mm_A G)
abbrev mm_Ql (G : mm_G) (r0 : Int64) (w : mm_Ws) : Array Value → State → Outcome → State → Prop := va_Ql (fun (r : Int64) (u : Unit) => r = r0) (fun _ t => mm_B G w t) (mm_A G)
abbrev mm_Qv (G : mm_G) (w : mm_Ws) : Array Value → State → Outcome → State → Prop := va_Qv (fun (u : Unit) => True) (fun _ t => mm_B G w t) (mm_A G)
abbrev mm_Qc (G : mm_G) (w : mm_Ws) : Array Value → State → Outcome → State → Prop := va_Qv (fun (u : Unit) => True) (fun _ t => mm_Bc G w t) (mm_A G)
abbrev mm_Qq (G : mm_G) (r0 : Option Nat) (w : mm_Ws) : Array Value → State → Outcome → State → Prop := va_Qq (fun (r : Option Nat) (u : Unit) => r = r0.map (fun a => mm_lo G + a)) (fun _ t => mm_B G w t) (mm_A G)
theorem mm_iret (C : mm_C G p s m args meth c own cc nL (some .int)) (hM : mm_P G R N M H) (hS : va_S (mm_A G) s.heap H locs) {v : Int32} (hdg : decode cc pc = .ok (.ireturn, 1)) : W p l e Rm s m args below meth c H locs cells slots (MQ below (mm_Qi G v (R, N, M)) args s cells slots (mm_A G)) (F0 m pc ls [.int v]) := by
  obtain ⟨hx, hb, hr, -, -, -, hlocks, -⟩ := id C
  exact W.iret (v := v) hx hb hr (fun t ht hW => ⟨⟨v, (), rfl, rfl, mm_toB C hM hS ht hW⟩, hS.F ht⟩) hS.2.2 hdg
theorem mm_zret (C : mm_C G p s m args meth c own cc nL (some .boolean)) (hM : mm_P G R N M H) (hS : va_S (mm_A G) s.heap H locs) {v : Bool} (hdg : decode cc pc = .ok (.ireturn, 1)) : W p l e Rm s m args below meth c H locs cells slots (MQ below (mm_Qi G (b2i v) (R, N, M)) args s cells slots (mm_A G)) (F0 m pc ls [.int (b2i v)]) := by
  obtain ⟨hx, hb, hr, -, -, -, hlocks, -⟩ := id C
  exact W.zret (v := b2i v) hx hb hr (b2i_n v) (fun t ht hW => ⟨⟨b2i v, (), rfl, rfl, mm_toB C hM hS ht hW⟩, hS.F ht⟩) hS.2.2 hdg
theorem mm_lret (C : mm_C G p s m args meth c own cc nL (some .long)) (hM : mm_P G R N M H) (hS : va_S (mm_A G) s.heap H locs) {v : Int64} (hdg : decode cc pc = .ok (.lreturn, 1)) : W p l e Rm s m args below meth c H locs cells slots (MQ below (mm_Ql G v (R, N, M)) args s cells slots (mm_A G)) (F0 m pc ls [.long v]) := by
  obtain ⟨hx, hb, hr, -, -, -, hlocks, -⟩ := id C
  exact W.lret (v := v) hx hb hr (fun t ht hW => ⟨⟨v, (), rfl, rfl, mm_toB C hM hS ht hW⟩, hS.F ht⟩) hS.2.2 hdg
theorem mm_vret (C : mm_C G p s m args meth c own cc nL none) (hM : mm_P G R N M H) (hS : va_S (mm_A G) s.heap H locs) (hdg : decode cc pc = .ok (.return_, 1)) : W p l e Rm s m args below meth c H locs cells slots (MQ below (mm_Qv G (R, N, M)) args s cells slots (mm_A G)) (F0 m pc ls []) := by
  obtain ⟨hx, hb, hr, -, -, -, hlocks, -⟩ := id C
  exact W.vret hx hb hr (fun t ht hW => ⟨⟨(), rfl, trivial, mm_toB C hM hS ht hW⟩, hS.F ht⟩) hS.2.2 hdg
theorem mm_cret (C : mm_C G p s m args meth c own cc nL none) (hz : H.size = mm_lo G + N) (hM : mm_P G R N M H) (hS : va_S (mm_A G) s.heap H locs) (hdg : decode cc pc = .ok (.return_, 1)) : W p l e Rm s m args below meth c H locs cells slots (MQ below (mm_Qc G (R, N, M)) args s cells slots (mm_A G)) (F0 m pc ls []) := by
  obtain ⟨hx, hb, hr, -, -, -, hlocks, -⟩ := id C
  exact W.vret hx hb hr (fun t ht hW => ⟨⟨(), rfl, trivial, by rw [ht]; exact hz, mm_toB C hM hS ht hW⟩, hS.F ht⟩) hS.2.2 hdg
theorem mm_aret (C : mm_C G p s m args meth c own cc nL (some (.object "CartPitches$Cart"))) (hM : mm_P G R N M H) (hS : va_S (mm_A G) s.heap H locs) {v : Option Nat} {w : Value} (hw : w = mm_q G v) (hdg : decode cc pc = .ok (.areturn, 1)) : W p l e Rm s m args below meth c H locs cells slots (MQ below (mm_Qq G v (R, N, M)) args s cells slots (mm_A G)) (F0 m pc ls [w]) := by
  obtain ⟨hx, hb, hr, -, -, -, hlocks, -⟩ := id C
  subst hw
  exact W.aret (v := mm_q G v) hx hb hr (Or.inl ⟨_, rfl⟩) (va_rf_or _) (fun t ht hW => ⟨⟨v.map (fun a => mm_lo G + a), (), rfl, rfl, mm_toB C hM hS ht hW⟩, hS.F ht⟩) hS.2.2 hdg
theorem mm_recv (C : mm_C G p s m args meth c own cc nL ret) (hM : mm_P G R N M H) (ho : o < N) {ci : Nat} {q : vw_C} {fs : List Value} (hc : vwCl[ci]? = some q) (he : mm_en G R M o = .inr (ci, fs)) : ∃ cell : Cell, H[mm_lo G + o]? = some cell ∧ cell.vm.isStatics = false ∧ s.vm.findClass q.1 = some cell.cls := by
  obtain ⟨-, -, -, -, -, -, -, hK, -⟩ := C
  exact va_recv (q0 := o) hK.1 hM.1 hc (by rw [mm_Wg ho, he])
variable {y : MethodName} {bytes : ByteArray} {maxL n index : Nat} {rety : Option FieldType} {rm : Room} {Cn : String} {As : List Value} {w1 : mm_Ws} {st : List Value}
/-- what a call of an instance's method needs -/
def mm_V (Rm rm : Room) (own Cn : String) (index : Nat) (y : MethodName) (bytes : ByteArray) (maxL : Nat) (rety : Option FieldType) (n : Nat) : Prop :=
  GoodIn mm_good (wsV own index Cn y (mm_ws y bytes maxL rety)) ∧ rm.cells = 0 ∧ rm.slots = 0 ∧ (y.cls = Cn ∧ y.cls ≠ "java/lang/invoke/MethodHandle" ∧ y.cls ≠ "java/lang/invoke/VarHandle" ∧ (parseMethodDescriptor y.desc).map (fun d => d.parameters.length) = some n) ∧ rm.frames + 1 ≤ Rm.frames ∧ 8 + (maxL + 11) + rm.locals ≤ Rm.locals
def mm_Sc (Rm rm : Room) (own : String) (index : Nat) (y : MethodName) (bytes : ByteArray) (maxL : Nat) (rety : Option FieldType) (n : Nat) : Prop :=
  GoodIn mm_good (va_wsS own index y (mm_ws y bytes maxL rety)) ∧ rm.cells = 0 ∧ rm.slots = 0 ∧ (y.cls ≠ "java/lang/invoke/MethodHandle" ∧ y.cls ≠ "java/lang/invoke/VarHandle" ∧ (parseMethodDescriptor y.desc).map (fun d => d.parameters.length) = some n) ∧ rm.frames + 1 ≤ Rm.frames ∧ 8 + (maxL + 11) + rm.locals ≤ Rm.locals
theorem mm_runV {Qc : Array Value → State → Outcome → State → Prop} (C : mm_C G p s m args meth c own cc nL ret) (hM : mm_P G R N M H) (hS : va_S (mm_A G) s.heap H locs) (hcal : Met l y (mm_ws y bytes maxL rety) rm (va_Pc (.ref (mm_lo G + o) :: As) (mm_B G (R, N, M))) Qc 0 0 (mm_A G)) (hv : mm_V Rm rm own Cn index y bytes maxL rety n) (hrec : ∃ cell : Cell, H[mm_lo G + o]? = some cell ∧ cell.vm.isStatics = false ∧ s.vm.findClass Cn = some cell.cls)
    (hl : ls.size = nL) (hn : As.length = n) (hst : st = As.reverse ++ .ref (mm_lo G + o) :: rest) (hroom : (rest.map fun v => v.category).sum ≤ 8) (hf : cells ≤ Rm.cells ∧ slots ≤ Rm.slots) (hdg : decode cc pc = .ok (.invokevirtual index, 3)) :
    va_Run p l e Rm s m args below meth c H locs cells slots 0 0 (F0 m pc ls st) rest (Qc (Value.ref (mm_lo G + o) :: As).toArray) (mm_A G) := by
  obtain ⟨hx, hb, -, hts, hown, hml, -, -, -⟩ := id C
  obtain ⟨h1, h2, h3, h4, h5⟩ := hv
  exact va_runV (As := As) (rest := rest) ⟨hx, hb, hml, hown, hts⟩ hcal (cwV n hts h1 rfl h2 h3 h4 h5) ⟨mm_blind, hrec, fun U hU hW => ⟨rfl, mm_toB C hM hS hU hW⟩⟩ rfl hn hl hst (lv_room hroom) hdg ⟨hf.1, hf.2⟩
theorem mm_runS {Qc : Array Value → State → Outcome → State → Prop} (C : mm_C G p s m args meth c own cc nL ret) (hM : mm_P G R N M H) (hS : va_S (mm_A G) s.heap H locs) (hcal : Met l y (mm_ws y bytes maxL rety) rm (va_Pc As (mm_B G (R, N, M))) Qc 0 0 (mm_A G)) (hv : mm_Sc Rm rm own index y bytes maxL rety n)
    (hl : ls.size = nL) (hn : As.length = n) (hst : st = As.reverse ++ rest) (hroom : (rest.map fun v => v.category).sum ≤ 8) (hf : cells ≤ Rm.cells ∧ slots ≤ Rm.slots) (hdg : decode cc pc = .ok (.invokestatic index, 3)) :
    va_Run p l e Rm s m args below meth c H locs cells slots 0 0 (F0 m pc ls st) rest (Qc As.toArray) (mm_A G) := by
  obtain ⟨hx, hb, -, hts, hown, hml, -, -, -⟩ := id C
  obtain ⟨h1, h2, h3, h4, h5⟩ := hv
  exact va_runS (As := As) (rest := rest) ⟨hx, hb, hml, hown, hts⟩ hcal (va_cwS n hts h1 rfl h2 h3 h4 h5) ⟨mm_blind, fun U hU hW => ⟨rfl, mm_toB C hM hS hU hW⟩⟩ rfl hn hl hst (lv_room hroom) hdg ⟨hf.1, hf.2⟩
theorem mm_ki {r0 : Int32} {a : Array Value} (hS : va_S (mm_A G) s.heap H locs) (hr : va_Run p l e Rm s m args below meth c H locs cells slots 0 0 (F0 m pc ls st) rest (mm_Qi G r0 w1 a) (mm_A G))
    (kk : ∀ (H1 : Heap) (locs1 : List Loc), mm_P G w1.1 w1.2.1 w1.2.2 H1 → va_S (mm_A G) s.heap H1 locs1 → W p l e Rm s m args below meth c H1 locs1 cells slots Q (F0 m (pc + 3) ls (.int r0 :: rest))) : W p l e Rm s m args below meth c H locs cells slots Q (F0 m pc ls st) :=
  va_calli hr hS (fun _ _ h => h) (fun _ h => h) (fun r u t H1 locs1 ht _ hw hB _ _ hS1 => by subst hw; subst ht; exact kk _ locs1 hB.1 hS1)
theorem mm_kl {r0 : Int64} {a : Array Value} (hS : va_S (mm_A G) s.heap H locs) (hr : va_Run p l e Rm s m args below meth c H locs cells slots 0 0 (F0 m pc ls st) rest (mm_Ql G r0 w1 a) (mm_A G))
    (kk : ∀ (H1 : Heap) (locs1 : List Loc), mm_P G w1.1 w1.2.1 w1.2.2 H1 → va_S (mm_A G) s.heap H1 locs1 → W p l e Rm s m args below meth c H1 locs1 cells slots Q (F0 m (pc + 3) ls (.long r0 :: rest))) : W p l e Rm s m args below meth c H locs cells slots Q (F0 m pc ls st) :=
  va_calll hr hS (fun _ _ h => h) (fun _ h => h) (fun r u t H1 locs1 ht _ hw hB _ _ hS1 => by subst hw; subst ht; exact kk _ locs1 hB.1 hS1)
theorem mm_kv {a : Array Value} (hS : va_S (mm_A G) s.heap H locs) (hr : va_Run p l e Rm s m args below meth c H locs cells slots 0 0 (F0 m pc ls st) rest (mm_Qv G w1 a) (mm_A G))
    (kk : ∀ (H1 : Heap) (locs1 : List Loc), mm_P G w1.1 w1.2.1 w1.2.2 H1 → va_S (mm_A G) s.heap H1 locs1 → W p l e Rm s m args below meth c H1 locs1 cells slots Q (F0 m (pc + 3) ls rest)) : W p l e Rm s m args below meth c H locs cells slots Q (F0 m pc ls st) :=
  va_callv hr hS (fun _ _ h => h) (fun _ h => h) (fun u t H1 locs1 ht _ _ hB _ _ hS1 => by subst ht; exact kk _ locs1 hB.1 hS1)
theorem mm_kq {r0 : Option Nat} {a : Array Value} (hS : va_S (mm_A G) s.heap H locs) (hr : va_Run p l e Rm s m args below meth c H locs cells slots 0 0 (F0 m pc ls st) rest (mm_Qq G r0 w1 a) (mm_A G))
    (kk : ∀ (H1 : Heap) (locs1 : List Loc), mm_P G w1.1 w1.2.1 w1.2.2 H1 → va_S (mm_A G) s.heap H1 locs1 → W p l e Rm s m args below meth c H1 locs1 cells slots Q (F0 m (pc + 3) ls (mm_q G r0 :: rest))) : W p l e Rm s m args below meth c H locs cells slots Q (F0 m pc ls st) :=
  va_callq hr hS (fun _ _ h => h) (fun _ h => h) (fun r u t H1 locs1 ht _ hw hB _ _ hS1 => by subst hw; subst ht; exact kk _ locs1 hB.1 hS1)
/-- the three static arrays -/
theorem mm_gst (C : mm_C G p s m args meth c own cc nL ret) (hS : va_S (mm_A G) s.heap H locs) {nm : String} {t index : Nat} {f : Nat → Int32} (hZ : mm_Z1 G nm t f s s.heap) (hlink : Cond.fieldLink own index "CartPitches" nm "[I" ∈ mm_good ∨ Cond.fieldLinkNest own index "CartPitches" nm "[I" "CartPitches" ∈ lw_tbl) (hdg : decode cc pc = .ok (.getstatic index, 3))
    (kk : W p l e Rm s m args below meth c H locs cells slots Q (F0 m (pc + 3) ls (.ref t :: rest))) : W p l e Rm s m args below meth c H locs cells slots Q (F0 m pc ls rest) := by
  obtain ⟨hx, hb, -, hts, hown, -, -, hK, -⟩ := C
  rcases hlink with hlink | hlink
  · exact va_gets (v := .ref t) hx hb hZ.1 hS hown (hts _ hlink) (fun _ h => h) hdg kk
  · exact va_getsN (v := .ref t) hx hb hZ.1 hS hown (va_Nw.use rfl (hK.2.1 _ _ _ _ _ _ hlink)) (fun _ h => h) hdg kk
theorem mm_tld (C : mm_C G p s m args meth c own cc nL ret) (hS : va_S (mm_A G) s.heap H locs) {nm : String} {t : Nat} {f : Nat → Int32} (hZ : mm_Z1 G nm t f s s.heap) {i : Int32} (hin : vp_in i 10) (hdg : decode cc pc = .ok (.iaload, 1))
    (kk : W p l e Rm s m args below meth c H locs cells slots Q (F0 m (pc + 1) ls (.int (f i.toNatClampNeg) :: rest))) : W p l e Rm s m args below meth c H locs cells slots Q (F0 m pc ls (.int i :: .ref t :: rest)) := by
  obtain ⟨hx, hb, -, hts, hown, -, -, hK, -⟩ := C
  exact va_ti hx hb hZ.2 hS hin rfl hdg kk
theorem mm_min (C : mm_C G p s m args meth c own cc nL ret) {index : Nat} (hl : ls.size = nL) (hlink : Cond.methodLink own index Lib.Math.min.name ∈ mm_good) (hstat : Cond.static Lib.Math.min.name ∈ mm_good) (hini : Cond.initialized "java/lang/Math" ∈ mm_good) (hcode : Cond.code Lib.Math.min.name Lib.Math.min.code 2 (some .int) ∈ mm_good) (hfr : 1 ≤ Rm.frames) (hlo : (rest.map fun v => v.category).sum + 13 ≤ Rm.locals) (hf : cells ≤ Rm.cells ∧ slots ≤ Rm.slots) {x y : Int32} (hdg : decode cc pc = .ok (.invokestatic index, 3))
    (kk : W p l e Rm s m args below meth c H locs cells slots Q (F0 m (pc + 3) ls (.int (if y < x then y else x) :: rest))) : W p l e Rm s m args below meth c H locs cells slots Q (F0 m pc ls (.int y :: .int x :: rest)) := by
  obtain ⟨hx, hb, -, hts, hown, hml, -, hK, -⟩ := C
  exact va_mmin hx hb (by rw [hml, hl]) hown (hts _ hlink) (hts _ hstat) (hts _ hini) (hts _ hcode) hfr hlo hf.1 hf.2 hdg kk
theorem mm_ldc (C : mm_C G p s m args meth c own cc nL ret) {index : Nat} {v : Int32} (hc : Cond.constant own index v ∈ mm_good) (hdg : decode cc pc = .ok (.ldc index, 2)) (kk : W p l e Rm s m args below meth c H locs cells slots Q (F0 m (pc + 2) ls (.int v :: rest))) : W p l e Rm s m args below meth c H locs cells slots Q (F0 m pc ls rest) := by
  obtain ⟨hx, hb, -, hts, hown, -⟩ := C
  exact lv_ldc hx hb hown (hts _ hc) hdg kk
theorem mm_ldc2 (C : mm_C G p s m args meth c own cc nL ret) {index : Nat} {v : Int64} (hc : Cond.constantLong own index v ∈ mm_good) (hdg : decode cc pc = .ok (.ldc2_w index, 3)) (kk : W p l e Rm s m args below meth c H locs cells slots Q (F0 m (pc + 3) ls (.long v :: rest))) : W p l e Rm s m args below meth c H locs cells slots Q (F0 m pc ls rest) := by
  obtain ⟨hx, hb, -, hts, hown, -⟩ := C
  exact lv_ldc2 hx hb hown (hts _ hc) hdg kk
theorem mm_ifeqZ (C : mm_C G p s m args meth c own cc nL ret) {b : Bool} {off : Int} {tgt : Nat} (hdg : decode cc pc = .ok (.ifCond .eq off, 3)) (ht : (pc : Int) + off = (tgt : Int)) (kt : ¬ b = true → W p l e Rm s m args below meth c H locs cells slots Q (F0 m tgt ls rest)) (kf : b = true → W p l e Rm s m args below meth c H locs cells slots Q (F0 m (pc + 3) ls rest)) : W p l e Rm s m args below meth c H locs cells slots Q (F0 m pc ls (.int (b2i b) :: rest)) := by
  obtain ⟨hx, hb, -⟩ := C
  refine lv_if_eq hx hb hdg ht (fun q => kt ?_) (fun q => kf ?_)
  · intro h; subst h; cases q
  · cases b
    · exact absurd rfl q
    · rfl
theorem mm_ifneZ (C : mm_C G p s m args meth c own cc nL ret) {b : Bool} {off : Int} {tgt : Nat} (hdg : decode cc pc = .ok (.ifCond .ne off, 3)) (ht : (pc : Int) + off = (tgt : Int)) (kt : b = true → W p l e Rm s m args below meth c H locs cells slots Q (F0 m tgt ls rest)) (kf : ¬ b = true → W p l e Rm s m args below meth c H locs cells slots Q (F0 m (pc + 3) ls rest)) : W p l e Rm s m args below meth c H locs cells slots Q (F0 m pc ls (.int (b2i b) :: rest)) := by
  obtain ⟨hx, hb, -⟩ := C
  refine lv_if_ne hx hb hdg ht (fun q => kt ?_) (fun q => kf ?_)
  · cases b
    · exact absurd rfl q
    · rfl
  · intro h; subst h; cases q
end MMC
end
section
/-! MY OWN KIT, third part: places, guards, rows by place -/
def FU : Nat := 1000000
def om {α β : Type} (x : Option α) (a : Option β) (k : α → Option β) : Option β := match x with
  | none => a
  | some b => k b
theorem om_n {α β : Type} {a : Option β} {k : α → Option β} {r : Option β} (h : om none a k = r) : a = r := h
theorem om_s {α β : Type} {b : α} {a : Option β} {k : α → Option β} {r : Option β} (h : om (some b) a k = r) : k b = r := h
def bn2 {α β γ : Type} (x : Option (α × β)) (k : α → β → Option γ) : Option γ := match x with
  | none => none
  | some q => k q.1 q.2
theorem bn2_of {α β γ : Type} {x : Option (α × β)} {k : α → β → Option γ} {r : γ} (h : bn2 x k = some r) : ∃ a b, x = some (a, b) ∧ k a b = some r := by
  cases x with
  | none => cases h
  | some q => exact ⟨q.1, q.2, rfl, h⟩
theorem nb01 {v : Int32} (h : v = 0 ∨ v = 1) : narrow .boolean (.int v) = .int v := by
  rcases h with rfl | rfl <;> rfl
theorem fb01 {v : Int32} (h : v = 0 ∨ v = 1) : fits .boolean (.int v) = true := by
  rcases h with rfl | rfl <;> rfl
theorem b2i_01 (b : Bool) : b2i b = 0 ∨ b2i b = 1 := by cases b <;> simp [b2i]
theorem vp_lt {i : Int32} {n : Nat} (h : ¬ (i < 0 ∨ n ≤ i.toNatClampNeg)) : i.toNatClampNeg < n := Nat.not_le.mp (fun q => h (Or.inr q))
theorem kT_big {o : Nat} (h : 731 ≤ o) : kT o = (99, 0) := by
  unfold kT
  repeat rw [if_neg (by omega)]
theorem kl {o k n : Nat} (h : kT o = (k, n)) (hk : k < 13 := by decide) : o < 731 := by
  rcases Nat.lt_or_ge o 731 with q | q
  · exact q
  · rw [kT_big q] at h
    have := congrArg Prod.fst h
    dsimp at this
    omega
set_option maxRecDepth 100000 in
theorem kS_a : ∀ o, o < 731 → kT o = (4, 0) → kT (o + 1) = (8, 10) ∧ kT (o + 2) = (11, 10) ∧ kT (o + 3) = (10, 16) ∧ kT (o + 4) = (8, 8) ∧ kT (o + 5) = (8, 8) ∧ kT (o + 6) = (8, 16) ∧ kT (o + 7) = (8, 16) := by decide +kernel
set_option maxRecDepth 100000 in
theorem kS_b : ∀ o, o < 731 → kT o = (4, 0) → kR o 7 = some (o + 1) ∧ kR o 8 = some (o + 2) ∧ kR o 9 = some (o + 3) ∧ kR o 10 = some (o + 4) ∧ kR o 11 = some (o + 5) ∧ kR o 12 = some (o + 6) ∧ kR o 13 = some (o + 7) := by decide +kernel
set_option maxRecDepth 100000 in
theorem kS_c : ∀ o, o < 731 → kT o = (4, 0) → ∀ j, j < 16 → kT (o + 18 + 3 * j) = (0, 0) ∧ kR (o + 3) j = some (o + 18 + 3 * j) := by decide +kernel
set_option maxRecDepth 100000 in
theorem kS_d : ∀ o, o < 731 → kT o = (4, 0) → ∀ j, j < 10 → kT (o + 8 + j) = (3, 0) ∧ kR (o + 2) j = some (o + 8 + j) := by decide +kernel
theorem kS_all (o : Nat) (ho : o < 731) (h : kT o = (4, 0)) : (kT (o + 1) = (8, 10) ∧ kT (o + 2) = (11, 10) ∧ kT (o + 3) = (10, 16) ∧ kT (o + 4) = (8, 8) ∧ kT (o + 5) = (8, 8) ∧ kT (o + 6) = (8, 16) ∧ kT (o + 7) = (8, 16)) ∧ (kR o 7 = some (o + 1) ∧ kR o 8 = some (o + 2) ∧ kR o 9 = some (o + 3) ∧ kR o 10 = some (o + 4) ∧ kR o 11 = some (o + 5) ∧ kR o 12 = some (o + 6) ∧ kR o 13 = some (o + 7)) ∧ (∀ j, j < 16 → kT (o + 18 + 3 * j) = (0, 0) ∧ kR (o + 3) j = some (o + 18 + 3 * j)) ∧ (∀ j, j < 10 → kT (o + 8 + j) = (3, 0) ∧ kR (o + 2) j = some (o + 8 + j)) := ⟨kS_a o ho h, kS_b o ho h, kS_c o ho h, kS_d o ho h⟩
set_option maxRecDepth 100000 in
theorem kC_all : ∀ o, o < 731 → kT o = (0, 0) → kT (o + 1) = (8, 3) ∧ kT (o + 2) = (8, 200) ∧ kR o 16 = some (o + 1) ∧ kR o 17 = some (o + 2) := by decide +kernel
set_option maxRecDepth 100000 in
theorem kD_all : ∀ o, o < 731 → kT o = (2, 0) → kT (o + 1) = (7, 80) ∧ kR o 0 = some (o + 1) := by decide +kernel
set_option maxRecDepth 100000 in
theorem kH_all : ∀ o, o < 731 → kT o = (1, 0) → kT (o + 1) = (12, 7) ∧ kR o 0 = some (o + 1) ∧ o = 133 := by decide +kernel
theorem kH_rows : ∀ j, j < 7 → kT (135 + 66 * j) = (4, 0) ∧ kR 134 j = some (135 + 66 * j) := by decide +kernel
theorem kS_7 {o : Nat} (h : kT o = (4, 0)) : kT (o + 1) = (8, 10) := (kS_all o (kl h) h).1.1
theorem kS_8 {o : Nat} (h : kT o = (4, 0)) : kT (o + 2) = (11, 10) := (kS_all o (kl h) h).1.2.1
theorem kS_9 {o : Nat} (h : kT o = (4, 0)) : kT (o + 3) = (10, 16) := (kS_all o (kl h) h).1.2.2.1
theorem kS_10 {o : Nat} (h : kT o = (4, 0)) : kT (o + 4) = (8, 8) := (kS_all o (kl h) h).1.2.2.2.1
theorem kS_11 {o : Nat} (h : kT o = (4, 0)) : kT (o + 5) = (8, 8) := (kS_all o (kl h) h).1.2.2.2.2.1
theorem kS_12 {o : Nat} (h : kT o = (4, 0)) : kT (o + 6) = (8, 16) := (kS_all o (kl h) h).1.2.2.2.2.2.1
theorem kS_13 {o : Nat} (h : kT o = (4, 0)) : kT (o + 7) = (8, 16) := (kS_all o (kl h) h).1.2.2.2.2.2.2
theorem rS_7 {o : Nat} (h : kT o = (4, 0)) : kR o 7 = some (o + 1) := (kS_all o (kl h) h).2.1.1
theorem rS_8 {o : Nat} (h : kT o = (4, 0)) : kR o 8 = some (o + 2) := (kS_all o (kl h) h).2.1.2.1
theorem rS_9 {o : Nat} (h : kT o = (4, 0)) : kR o 9 = some (o + 3) := (kS_all o (kl h) h).2.1.2.2.1
theorem rS_10 {o : Nat} (h : kT o = (4, 0)) : kR o 10 = some (o + 4) := (kS_all o (kl h) h).2.1.2.2.2.1
theorem rS_11 {o : Nat} (h : kT o = (4, 0)) : kR o 11 = some (o + 5) := (kS_all o (kl h) h).2.1.2.2.2.2.1
theorem rS_12 {o : Nat} (h : kT o = (4, 0)) : kR o 12 = some (o + 6) := (kS_all o (kl h) h).2.1.2.2.2.2.2.1
theorem rS_13 {o : Nat} (h : kT o = (4, 0)) : kR o 13 = some (o + 7) := (kS_all o (kl h) h).2.1.2.2.2.2.2.2
theorem kS_cart {o j : Nat} (h : kT o = (4, 0)) (hj : j < 16) : kT (o + 18 + 3 * j) = (0, 0) := ((kS_all o (kl h) h).2.2.1 j hj).1
theorem rS_cart {o j : Nat} (h : kT o = (4, 0)) (hj : j < 16) : kR (o + 3) j = some (o + 18 + 3 * j) := ((kS_all o (kl h) h).2.2.1 j hj).2
theorem kS_pitch {o j : Nat} (h : kT o = (4, 0)) (hj : j < 10) : kT (o + 8 + j) = (3, 0) := ((kS_all o (kl h) h).2.2.2 j hj).1
theorem rS_pitch {o j : Nat} (h : kT o = (4, 0)) (hj : j < 10) : kR (o + 2) j = some (o + 8 + j) := ((kS_all o (kl h) h).2.2.2 j hj).2
theorem kC_16 {o : Nat} (h : kT o = (0, 0)) : kT (o + 1) = (8, 3) := (kC_all o (kl h) h).1
theorem kC_17 {o : Nat} (h : kT o = (0, 0)) : kT (o + 2) = (8, 200) := (kC_all o (kl h) h).2.1
theorem rC_16 {o : Nat} (h : kT o = (0, 0)) : kR o 16 = some (o + 1) := (kC_all o (kl h) h).2.2.1
theorem rC_17 {o : Nat} (h : kT o = (0, 0)) : kR o 17 = some (o + 2) := (kC_all o (kl h) h).2.2.2
theorem kD_0 {o : Nat} (h : kT o = (2, 0)) : kT (o + 1) = (7, 80) := (kD_all o (kl h) h).1
theorem rD_0 {o : Nat} (h : kT o = (2, 0)) : kR o 0 = some (o + 1) := (kD_all o (kl h) h).2
theorem kH_0 {o : Nat} (h : kT o = (1, 0)) : kT (o + 1) = (12, 7) := (kH_all o (kl h) h).1
theorem rH_0 {o : Nat} (h : kT o = (1, 0)) : kR o 0 = some (o + 1) := (kH_all o (kl h) h).2.1
theorem kH_row {j : Nat} (hj : j < 7) : kT (135 + 66 * j) = (4, 0) := (kH_rows j hj).1
theorem rH_row {o j : Nat} (h : kT o = (1, 0)) (hj : j < 7) : kR (o + 1) j = some (135 + 66 * j) := by
  have e := (kH_all o (kl h) h).2.2
  subst e
  exact (kH_rows j hj).2
section MMK
variable {p : Program} {l : Launch} {e : Env} {Rm : Room} {s : State} {m : MethodId} {args : Array Value} {below : List Frame} {meth : Method} {c : Code} {H : Heap} {locs : List Loc} {cells slots : Nat} {Q : State → Prop}
variable {cc : ByteArray} {pc : Nat} {ls : Array Slot} {rest : List Value} {G : mm_G} {own : String} {nL : Nat} {ret : Option FieldType} {R : mm_R} {N : Nat} {M : mm_M} {o : Nat}
theorem mm_aldo_n (hx : p.tables.exec = Jvm.exec) (hb : c.code = cc) {k : Fin 4} {i : Nat} {r : Option Nat} (hdg : decode cc pc = .ok (.aload_n k, 1)) (hi : (k : Nat) = i) (hl : ls[i]? = some (.val (mm_q G r))) (kk : W p l e Rm s m args below meth c H locs cells slots Q (F0 m (pc + 1) ls (mm_q G r :: rest))) : W p l e Rm s m args below meth c H locs cells slots Q (F0 m pc ls rest) := by
  cases r with
  | none => exact lv_aload_nN hx hb hdg hi hl kk
  | some b => exact lv_aload_n hx hb hdg hi hl kk
theorem mm_aldo (hx : p.tables.exec = Jvm.exec) (hb : c.code = cc) {i : Nat} {r : Option Nat} (hdg : decode cc pc = .ok (.aload i, 2)) (hl : ls[i]? = some (.val (mm_q G r))) (kk : W p l e Rm s m args below meth c H locs cells slots Q (F0 m (pc + 2) ls (mm_q G r :: rest))) : W p l e Rm s m args below meth c H locs cells slots Q (F0 m pc ls rest) := by
  cases r with
  | none => exact lv_aloadN hx hb hdg hl kk
  | some b => exact lv_aload hx hb hdg hl kk
theorem mm_asto_n (hx : p.tables.exec = Jvm.exec) (hb : c.code = cc) {k : Fin 4} {i : Nat} {r : Option Nat} {lv lv' : List (Nat × Value)} (hdg : decode cc pc = .ok (.astore_n k, 1)) (hi : (k : Nat) = i) (h : lv_has ls nL lv) (hn : i < nL) (hl : (i, mm_q G r) :: lv.filter (fun q => !(q.1 == i) && !(q.1 + 1 == i && q.2.category == 2)) = lv') (kk : ∀ ls' : Array Slot, lv_has ls' nL lv' → W p l e Rm s m args below meth c H locs cells slots Q (F0 m (pc + 1) ls' rest)) : W p l e Rm s m args below meth c H locs cells slots Q (F0 m pc ls (mm_q G r :: rest)) := by
  cases r with
  | none => exact lv_astore_nN hx hb hdg hi h hn hl kk
  | some b => exact lv_astore_n hx hb hdg hi h hn hl kk
theorem mm_asto (hx : p.tables.exec = Jvm.exec) (hb : c.code = cc) {i : Nat} {r : Option Nat} {lv lv' : List (Nat × Value)} (hdg : decode cc pc = .ok (.astore i, 2)) (h : lv_has ls nL lv) (hn : i < nL) (hl : (i, mm_q G r) :: lv.filter (fun q => !(q.1 == i) && !(q.1 + 1 == i && q.2.category == 2)) = lv') (kk : ∀ ls' : Array Slot, lv_has ls' nL lv' → W p l e Rm s m args below meth c H locs cells slots Q (F0 m (pc + 2) ls' rest)) : W p l e Rm s m args below meth c H locs cells slots Q (F0 m pc ls (mm_q G r :: rest)) := by
  cases r with
  | none => exact lv_astoreN hx hb hdg h hn hl kk
  | some b => exact lv_astore hx hb hdg h hn hl kk
theorem mm_ildk (C : mm_C G p s m args meth c own cc nL ret) (hM : mm_P G R N M H) (ho : o < N) {n : Nat} (hT : kT o = (8, n)) {i : Int32} {k : Nat} (hin : vp_in i n) (hk : i.toNatClampNeg = k) (hdg : decode cc pc = .ok (.iaload, 1))
    (kk : W p l e Rm s m args below meth c H locs cells slots Q (F0 m (pc + 1) ls (.int (M.1 o k) :: rest))) : W p l e Rm s m args below meth c H locs cells slots Q (F0 m pc ls (.int i :: .ref (mm_lo G + o) :: rest)) := by subst hk; exact mm_ild C hM ho hT hin hdg kk
theorem mm_cldk (C : mm_C G p s m args meth c own cc nL ret) (hM : mm_P G R N M H) (ho : o < N) {n : Nat} (hT : kT o = (7, n)) {i : Int32} {k : Nat} (hin : vp_in i n) (hk : i.toNatClampNeg = k) (hdg : decode cc pc = .ok (.caload, 1))
    (kk : W p l e Rm s m args below meth c H locs cells slots Q (F0 m (pc + 1) ls (.int (M.1 o k) :: rest))) : W p l e Rm s m args below meth c H locs cells slots Q (F0 m pc ls (.int i :: .ref (mm_lo G + o) :: rest)) := by subst hk; exact mm_cld C hM ho hT hin hdg kk
theorem mm_istk (C : mm_C G p s m args meth c own cc nL ret) (hM : mm_P G R N M H) (hS : va_S (mm_A G) s.heap H locs) (ho : o < N) {n : Nat} (hT : kT o = (8, n)) {i x : Int32} {k : Nat} (hin : vp_in i n) (hk : i.toNatClampNeg = k) (hdg : decode cc pc = .ok (.iastore, 1))
    (kk : ∀ (H1 : Heap) (locs1 : List Loc), mm_P G R N (sI M o k x) H1 → va_S (mm_A G) s.heap H1 locs1 → H1.size = H.size → W p l e Rm s m args below meth c H1 locs1 cells slots Q (F0 m (pc + 1) ls rest)) : W p l e Rm s m args below meth c H locs cells slots Q (F0 m pc ls (.int x :: .int i :: .ref (mm_lo G + o) :: rest)) := by subst hk; exact mm_ist C hM hS ho hT hin hdg kk
theorem mm_cstk (C : mm_C G p s m args meth c own cc nL ret) (hM : mm_P G R N M H) (hS : va_S (mm_A G) s.heap H locs) (ho : o < N) {n : Nat} (hT : kT o = (7, n)) {i x : Int32} {k : Nat} (hin : vp_in i n) (hk : i.toNatClampNeg = k) (hnx : narrow .char (.int x) = .int x) (hdg : decode cc pc = .ok (.castore, 1))
    (kk : ∀ (H1 : Heap) (locs1 : List Loc), mm_P G R N (sI M o k x) H1 → va_S (mm_A G) s.heap H1 locs1 → H1.size = H.size → W p l e Rm s m args below meth c H1 locs1 cells slots Q (F0 m (pc + 1) ls rest)) : W p l e Rm s m args below meth c H locs cells slots Q (F0 m pc ls (.int x :: .int i :: .ref (mm_lo G + o) :: rest)) := by subst hk; exact mm_cst C hM hS ho hT hin hnx hdg kk
end MMK
end
section
theorem inX0 : ∀ w ∈ u_ws RX0 TX0 18, w ∈ mm_good := by decide +kernel
theorem mm_e0 {G : mm_G} {R : mm_R} {M : mm_M} {o : Nat} (h : kT o = (0, 0)) : mm_en G R M o = .inr (0, [.int (M.1 o 0), .int (M.1 o 1), .int (M.1 o 2), .int (M.1 o 3), .int (M.1 o 4), .int (M.1 o 5), .int (M.1 o 6), .int (M.1 o 7), .int (M.1 o 8), .int (M.1 o 9), .int (M.1 o 10), .int (M.1 o 11), .long (M.2 o 12), .long (M.2 o 13), .long (M.2 o 14), .long (M.2 o 15), mm_q G (R o 16), mm_q G (R o 17)]) := by unfold mm_en; rw [h]; rfl
theorem inX2 : ∀ w ∈ u_ws RX2 TX2 3, w ∈ mm_good := by decide +kernel
theorem mm_e1 {G : mm_G} {R : mm_R} {M : mm_M} {o : Nat} (h : kT o = (1, 0)) : mm_en G R M o = .inr (1, [mm_q G (R o 0), .int (M.1 o 1), .int (M.1 o 2)]) := by unfold mm_en; rw [h]; rfl
theorem inX3 : ∀ w ∈ u_ws RX3 TX3 2, w ∈ mm_good := by decide +kernel
theorem mm_e2 {G : mm_G} {R : mm_R} {M : mm_M} {o : Nat} (h : kT o = (2, 0)) : mm_en G R M o = .inr (2, [mm_q G (R o 0), .int (M.1 o 1)]) := by unfold mm_en; rw [h]; rfl
theorem inX4 : ∀ w ∈ u_ws RX4 TX4 4, w ∈ mm_good := by decide +kernel
theorem mm_e3 {G : mm_G} {R : mm_R} {M : mm_M} {o : Nat} (h : kT o = (3, 0)) : mm_en G R M o = .inr (3, [.int (M.1 o 0), .int (M.1 o 1), .int (M.1 o 2), .int (M.1 o 3)]) := by unfold mm_en; rw [h]; rfl
theorem inX5 : ∀ w ∈ u_ws RX5 TX5 15, w ∈ mm_good := by decide +kernel
theorem mm_e4 {G : mm_G} {R : mm_R} {M : mm_M} {o : Nat} (h : kT o = (4, 0)) : mm_en G R M o = .inr (4, [.int (M.1 o 0), .int (M.1 o 1), .int (M.1 o 2), .int (M.1 o 3), .int (M.1 o 4), .int (M.1 o 5), .int (M.1 o 6), mm_q G (R o 7), mm_q G (R o 8), mm_q G (R o 9), mm_q G (R o 10), mm_q G (R o 11), mm_q G (R o 12), mm_q G (R o 13), .int (M.1 o 14)]) := by unfold mm_en; rw [h]; rfl
theorem inX6 : ∀ w ∈ u_ws RX6 TX6 6, w ∈ mm_good := by decide +kernel
theorem mm_e5 {G : mm_G} {R : mm_R} {M : mm_M} {o : Nat} (h : kT o = (5, 0)) : mm_en G R M o = .inr (5, [mm_q G (R o 0), mm_q G (R o 1), mm_q G (R o 2), mm_q G (R o 3), mm_q G (R o 4), mm_q G (R o 5)]) := by unfold mm_en; rw [h]; rfl
theorem plRX0 : plainName RX0 = true := by decide
theorem plRX2 : plainName RX2 = true := by decide
theorem plRX3 : plainName RX3 = true := by decide
theorem plRX4 : plainName RX4 = true := by decide
theorem plRX5 : plainName RX5 = true := by decide
theorem plRX6 : plainName RX6 = true := by decide
theorem plRX1 : plainName RX1 = true := by decide
abbrev rmX0_beginDay : Room := { frames := 0, cells := 0, slots := 0, locals := 0 }
abbrev rmX0_dropAllPoints : Room := { frames := 0, cells := 0, slots := 0, locals := 0 }
abbrev rmX0_begin : Room := { frames := 1, cells := 0, slots := 0, locals := 21 }
abbrev rmX0_copyFrom : Room := { frames := 1, cells := 0, slots := 0, locals := 48 }
abbrev rmX0_balance : Room := { frames := 0, cells := 0, slots := 0, locals := 0 }
abbrev rmX0_wishAt : Room := { frames := 0, cells := 0, slots := 0, locals := 0 }
abbrev rmX0_addPoints : Room := { frames := 0, cells := 0, slots := 0, locals := 0 }
abbrev rmX0_dropPointsOfSameSpot : Room := { frames := 0, cells := 0, slots := 0, locals := 0 }
abbrev rmX0_pointsLeft : Room := { frames := 0, cells := 0, slots := 0, locals := 0 }
abbrev rmX0_reasonBeforeLots : Room := { frames := 0, cells := 0, slots := 0, locals := 0 }
abbrev rmX1_nextToCheck : Room := { frames := 0, cells := 0, slots := 0, locals := 0 }
abbrev rmX1_runChecks : Room := { frames := 1, cells := 0, slots := 0, locals := 23 }
abbrev rmX1_clearLastDay : Room := { frames := 1, cells := 0, slots := 0, locals := 20 }
abbrev rmX5_hasCart : Room := { frames := 0, cells := 0, slots := 0, locals := 0 }
abbrev rmX5_hasPitch : Room := { frames := 0, cells := 0, slots := 0, locals := 0 }
abbrev rmX5_sameKindBeside : Room := { frames := 1, cells := 0, slots := 0, locals := 21 }
abbrev rmX5_seat : Room := { frames := 1, cells := 0, slots := 0, locals := 21 }
abbrev rmX1_choosePitch : Room := { frames := 2, cells := 0, slots := 0, locals := 45 }
abbrev rmX1_handOutTickets : Room := { frames := 1, cells := 0, slots := 0, locals := 21 }
abbrev rmX1_holderOfTicket : Room := { frames := 0, cells := 0, slots := 0, locals := 0 }
abbrev rmX1_drawLots : Room := { frames := 3, cells := 0, slots := 0, locals := 69 }
abbrev rmX5_givePoints : Room := { frames := 1, cells := 0, slots := 0, locals := 26 }
abbrev rmX5_unseat : Room := { frames := 1, cells := 0, slots := 0, locals := 21 }
abbrev rmX1_shareKitchens : Room := { frames := 2, cells := 0, slots := 0, locals := 49 }
abbrev rmX1_exchange : Room := { frames := 2, cells := 0, slots := 0, locals := 45 }
abbrev rmX1_makeSwaps : Room := { frames := 3, cells := 0, slots := 0, locals := 69 }
abbrev rmX1_trade : Room := { frames := 1, cells := 0, slots := 0, locals := 21 }
abbrev rmX4_copyFrom : Room := { frames := 0, cells := 0, slots := 0, locals := 0 }
abbrev rmX5_copyFrom : Room := { frames := 2, cells := 0, slots := 0, locals := 69 }
abbrev rmX2_prepare : Room := { frames := 3, cells := 0, slots := 0, locals := 91 }
abbrev rmX2_keepPrepared : Room := { frames := 0, cells := 0, slots := 0, locals := 0 }
abbrev rmX2_takeBack : Room := { frames := 3, cells := 0, slots := 0, locals := 91 }
abbrev rmX3_codeAt : Room := { frames := 0, cells := 0, slots := 0, locals := 0 }
abbrev rmX3_countGiven : Room := { frames := 1, cells := 0, slots := 0, locals := 22 }
abbrev rmX3_append : Room := { frames := 2, cells := 0, slots := 0, locals := 46 }
abbrev rmX3_signAt : Room := { frames := 0, cells := 0, slots := 0, locals := 0 }
abbrev rmX3_awaitedBehindOrder : Room := { frames := 0, cells := 0, slots := 0, locals := 0 }
abbrev rmX3_isCart : Room := { frames := 0, cells := 0, slots := 0, locals := 0 }
abbrev rmX3_isDigit : Room := { frames := 0, cells := 0, slots := 0, locals := 0 }
abbrev rmX3_awaitedBehind : Room := { frames := 1, cells := 0, slots := 0, locals := 20 }
abbrev rmX3_findFault : Room := { frames := 2, cells := 0, slots := 0, locals := 41 }
abbrev rmX3_endsOrder : Room := { frames := 1, cells := 0, slots := 0, locals := 21 }
abbrev rmX3_wishAt : Room := { frames := 1, cells := 0, slots := 0, locals := 21 }
abbrev rmX3_numberAt : Room := { frames := 1, cells := 0, slots := 0, locals := 21 }
abbrev rmX4_begin : Room := { frames := 0, cells := 0, slots := 0, locals := 0 }
abbrev rmX5_changeSetting : Room := { frames := 0, cells := 0, slots := 0, locals := 0 }
abbrev rmX5_changeLots : Room := { frames := 0, cells := 0, slots := 0, locals := 0 }
abbrev rmX5_addPitch : Room := { frames := 1, cells := 0, slots := 0, locals := 21 }
abbrev rmX5_changeRent : Room := { frames := 1, cells := 0, slots := 0, locals := 21 }
abbrev rmX5_addCart : Room := { frames := 2, cells := 0, slots := 0, locals := 44 }
abbrev rmX5_isPitchOrNone : Room := { frames := 1, cells := 0, slots := 0, locals := 21 }
abbrev rmX5_tellWishes : Room := { frames := 2, cells := 0, slots := 0, locals := 42 }
abbrev rmX5_punish : Room := { frames := 2, cells := 0, slots := 0, locals := 49 }
abbrev rmX5_countWaiting : Room := { frames := 0, cells := 0, slots := 0, locals := 0 }
abbrev rmX5_askCheck : Room := { frames := 1, cells := 0, slots := 0, locals := 22 }
abbrev rmX5_askSwap : Room := { frames := 1, cells := 0, slots := 0, locals := 21 }
abbrev rmX5_takeMoney : Room := { frames := 1, cells := 0, slots := 0, locals := 21 }
abbrev rmX5_beginNextDay : Room := { frames := 1, cells := 0, slots := 0, locals := 22 }
abbrev rmX5_passDays : Room := { frames := 4, cells := 0, slots := 0, locals := 92 }
abbrev rmX5_countOnPitches : Room := { frames := 0, cells := 0, slots := 0, locals := 0 }
abbrev rmX6_recorded : Room := { frames := 1, cells := 0, slots := 0, locals := 20 }
abbrev rmX6_set : Room := { frames := 4, cells := 0, slots := 0, locals := 112 }
abbrev rmX6_seed : Room := { frames := 4, cells := 0, slots := 0, locals := 112 }
abbrev rmX6_pitch : Room := { frames := 4, cells := 0, slots := 0, locals := 112 }
abbrev rmX6_rent : Room := { frames := 4, cells := 0, slots := 0, locals := 112 }
abbrev rmX6_cart : Room := { frames := 4, cells := 0, slots := 0, locals := 112 }
abbrev rmX6_wish : Room := { frames := 4, cells := 0, slots := 0, locals := 112 }
abbrev rmX6_fine : Room := { frames := 4, cells := 0, slots := 0, locals := 112 }
abbrev rmX6_check : Room := { frames := 4, cells := 0, slots := 0, locals := 112 }
abbrev rmX6_swap : Room := { frames := 4, cells := 0, slots := 0, locals := 112 }
abbrev rmX6_pay : Room := { frames := 4, cells := 0, slots := 0, locals := 112 }
abbrev rmX6_days : Room := { frames := 5, cells := 0, slots := 0, locals := 114 }
abbrev rmX6_aboutCart : Room := { frames := 1, cells := 0, slots := 0, locals := 21 }
abbrev rmX6_aboutPastOfCart : Room := { frames := 1, cells := 0, slots := 0, locals := 26 }
abbrev rmX6_ofCart : Room := { frames := 2, cells := 0, slots := 0, locals := 48 }
abbrev rmX6_money : Room := { frames := 1, cells := 0, slots := 0, locals := 21 }
abbrev rmX6_ofPitch : Room := { frames := 1, cells := 0, slots := 0, locals := 21 }
abbrev rmX6_count : Room := { frames := 1, cells := 0, slots := 0, locals := 22 }
abbrev rmX6_pointsOn : Room := { frames := 1, cells := 0, slots := 0, locals := 26 }
abbrev rmX6_pitchOnTrialDay : Room := { frames := 5, cells := 0, slots := 0, locals := 114 }
abbrev rmX6_wouldHave : Room := { frames := 6, cells := 0, slots := 0, locals := 135 }
abbrev rmX6_ifWished : Room := { frames := 6, cells := 0, slots := 0, locals := 135 }
abbrev rmX6_firstDay : Room := { frames := 6, cells := 0, slots := 0, locals := 135 }
abbrev rmX6_daysOf : Room := { frames := 6, cells := 0, slots := 0, locals := 135 }
abbrev rmX6_luckySeed : Room := { frames := 6, cells := 0, slots := 0, locals := 135 }
abbrev rmX6_whyNot : Room := { frames := 2, cells := 0, slots := 0, locals := 45 }
abbrev rmX6_put : Room := { frames := 3, cells := 0, slots := 0, locals := 70 }
abbrev rmX6_wipe : Room := { frames := 0, cells := 0, slots := 0, locals := 0 }
abbrev rmX6_fault : Room := { frames := 3, cells := 0, slots := 0, locals := 63 }
abbrev rmX6_performOrder : Room := { frames := 5, cells := 0, slots := 0, locals := 114 }
abbrev rmX6_carryOut : Room := { frames := 6, cells := 0, slots := 0, locals := 137 }
abbrev rmX6_undo : Room := { frames := 4, cells := 0, slots := 0, locals := 112 }
abbrev rmX6_save : Room := { frames := 3, cells := 0, slots := 0, locals := 91 }
abbrev rmX6_restore : Room := { frames := 4, cells := 0, slots := 0, locals := 112 }
abbrev rmL_up : Room := { frames := 0, cells := 0, slots := 0, locals := 0 }
abbrev rmL_cell : Room := { frames := 0, cells := 0, slots := 0, locals := 0 }
abbrev rmL_least : Room := { frames := 0, cells := 0, slots := 0, locals := 0 }
abbrev rmL_most : Room := { frames := 0, cells := 0, slots := 0, locals := 0 }
abbrev rmL_sets : Room := { frames := 5, cells := 0, slots := 0, locals := 134 }
abbrev rmL_number : Room := { frames := 4, cells := 0, slots := 0, locals := 92 }
abbrev rmL_one : Room := { frames := 6, cells := 0, slots := 0, locals := 136 }
abbrev rmL_lucky : Room := { frames := 6, cells := 0, slots := 0, locals := 135 }
abbrev rmL_told : Room := { frames := 3, cells := 0, slots := 0, locals := 71 }
abbrev rmL_back : Room := { frames := 6, cells := 0, slots := 0, locals := 135 }
abbrev rmL_refused : Room := { frames := 7, cells := 0, slots := 0, locals := 160 }
abbrev rmL_comes : Room := { frames := 7, cells := 0, slots := 0, locals := 159 }
abbrev rmL_text : Room := { frames := 7, cells := 1, slots := 40, locals := 160 }
abbrev rmL_sound : Room := { frames := 3, cells := 1, slots := 16, locals := 71 }
abbrev rmL_act : Room := { frames := 8, cells := 1, slots := 40, locals := 189 }
theorem wMin1 : Cond.static Lib.Math.min.name ∈ mm_good := mm_in 536 (by decide +kernel) (by decide +kernel)
theorem wMin2 : Cond.initialized "java/lang/Math" ∈ mm_good := mm_in 15 (by decide +kernel) (by decide +kernel)
theorem wMin3 : Cond.code Lib.Math.min.name Lib.Math.min.code 2 (some .int) ∈ mm_good := mm_in 537 (by decide +kernel) (by decide +kernel)
theorem wCpy1 : Cond.native arraycopyName ∈ mm_good := mm_in 297 (by decide +kernel) (by decide +kernel)
theorem wCpy2 : Cond.static arraycopyName ∈ mm_good := mm_in 296 (by decide +kernel) (by decide +kernel)
theorem wCpy3 : Cond.initialized "java/lang/System" ∈ mm_good := mm_in 13 (by decide +kernel) (by decide +kernel)
theorem plRL : plainName RL = true := by decide
theorem wArrI : Cond.arrayClass .int ∈ mm_good := mm_in 64 (by decide +kernel) (by decide +kernel)
section WDS
variable {p : Program} {l : Launch} {e : Env} {Rm : Room} {s : State} {m : MethodId} {args : Array Value} {below : List Frame} {meth : Method} {c : Code} {H : Heap} {locs : List Loc} {cells slots : Nat} {Q : State → Prop}
variable {cc : ByteArray} {pc : Nat} {ls : Array Slot} {rest : List Value} {G : mm_G} {own : String} {nL : Nat} {ret : Option FieldType} {R : mm_R} {N : Nat} {M : mm_M} {o : Nat}
theorem mX0_75 : Cond.methodLink RX0 75 arraycopyName ∈ mm_good := mm_in 306 (by decide +kernel) (by decide +kernel)
theorem mX5_63 : Cond.methodLink RX5 63 arraycopyName ∈ mm_good := mm_in 295 (by decide +kernel) (by decide +kernel)
theorem gX0_15 (C : mm_C G p s m args meth c RX0 cc nL ret) (hM : mm_P G R N M H) (ho : o < N) (hT : kT o = (0, 0)) {b : Nat} (hr : R o 17 = some b) (hdg : decode cc pc = .ok (.getfield 15, 3)) (kk : W p l e Rm s m args below meth c H locs cells slots Q (F0 m (pc + 3) ls (.ref (mm_lo G + b) :: rest))) : W p l e Rm s m args below meth c H locs cells slots Q (F0 m pc ls (.ref (mm_lo G + o) :: rest)) := mm_get C hM ho (mm_e0 hT) rfl inX0 (k := 17) (by decide) rfl (mm_in 123 (by decide +kernel) (by decide +kernel)) rfl hdg (by rw [mm_q_some hr]; exact kk)
theorem gX0_18 (C : mm_C G p s m args meth c RX0 cc nL ret) (hM : mm_P G R N M H) (ho : o < N) (hT : kT o = (0, 0)) (hdg : decode cc pc = .ok (.getfield 18, 3)) (kk : W p l e Rm s m args below meth c H locs cells slots Q (F0 m (pc + 3) ls (.int (M.1 o 0) :: rest))) : W p l e Rm s m args below meth c H locs cells slots Q (F0 m pc ls (.ref (mm_lo G + o) :: rest)) := mm_get C hM ho (mm_e0 hT) rfl inX0 (k := 0) (by decide) rfl (mm_in 70 (by decide +kernel) (by decide +kernel)) rfl hdg kk
theorem gX0_22 (C : mm_C G p s m args meth c RX0 cc nL ret) (hM : mm_P G R N M H) (ho : o < N) (hT : kT o = (0, 0)) (hdg : decode cc pc = .ok (.getfield 22, 3)) (kk : W p l e Rm s m args below meth c H locs cells slots Q (F0 m (pc + 3) ls (.int (M.1 o 1) :: rest))) : W p l e Rm s m args below meth c H locs cells slots Q (F0 m pc ls (.ref (mm_lo G + o) :: rest)) := mm_get C hM ho (mm_e0 hT) rfl inX0 (k := 1) (by decide) rfl (mm_in 73 (by decide +kernel) (by decide +kernel)) rfl hdg kk
theorem gX0_25 (C : mm_C G p s m args meth c RX0 cc nL ret) (hM : mm_P G R N M H) (ho : o < N) (hT : kT o = (0, 0)) (hdg : decode cc pc = .ok (.getfield 25, 3)) (kk : W p l e Rm s m args below meth c H locs cells slots Q (F0 m (pc + 3) ls (.int (M.1 o 4) :: rest))) : W p l e Rm s m args below meth c H locs cells slots Q (F0 m pc ls (.ref (mm_lo G + o) :: rest)) := mm_get C hM ho (mm_e0 hT) rfl inX0 (k := 4) (by decide) rfl (mm_in 83 (by decide +kernel) (by decide +kernel)) rfl hdg kk
theorem gX0_28 (C : mm_C G p s m args meth c RX0 cc nL ret) (hM : mm_P G R N M H) (ho : o < N) (hT : kT o = (0, 0)) (hdg : decode cc pc = .ok (.getfield 28, 3)) (kk : W p l e Rm s m args below meth c H locs cells slots Q (F0 m (pc + 3) ls (.int (M.1 o 2) :: rest))) : W p l e Rm s m args below meth c H locs cells slots Q (F0 m pc ls (.ref (mm_lo G + o) :: rest)) := mm_get C hM ho (mm_e0 hT) rfl inX0 (k := 2) (by decide) rfl (mm_in 76 (by decide +kernel) (by decide +kernel)) rfl hdg kk
theorem gX0_31 (C : mm_C G p s m args meth c RX0 cc nL ret) (hM : mm_P G R N M H) (ho : o < N) (hT : kT o = (0, 0)) (hdg : decode cc pc = .ok (.getfield 31, 3)) (kk : W p l e Rm s m args below meth c H locs cells slots Q (F0 m (pc + 3) ls (.int (M.1 o 3) :: rest))) : W p l e Rm s m args below meth c H locs cells slots Q (F0 m pc ls (.ref (mm_lo G + o) :: rest)) := mm_get C hM ho (mm_e0 hT) rfl inX0 (k := 3) (by decide) rfl (mm_in 80 (by decide +kernel) (by decide +kernel)) rfl hdg kk
theorem gX0_34 (C : mm_C G p s m args meth c RX0 cc nL ret) (hM : mm_P G R N M H) (ho : o < N) (hT : kT o = (0, 0)) (hdg : decode cc pc = .ok (.getfield 34, 3)) (kk : W p l e Rm s m args below meth c H locs cells slots Q (F0 m (pc + 3) ls (.int (M.1 o 5) :: rest))) : W p l e Rm s m args below meth c H locs cells slots Q (F0 m pc ls (.ref (mm_lo G + o) :: rest)) := mm_get C hM ho (mm_e0 hT) rfl inX0 (k := 5) (by decide) rfl (mm_in 86 (by decide +kernel) (by decide +kernel)) rfl hdg kk
theorem gX0_38 (C : mm_C G p s m args meth c RX0 cc nL ret) (hM : mm_P G R N M H) (ho : o < N) (hT : kT o = (0, 0)) (hdg : decode cc pc = .ok (.getfield 38, 3)) (kk : W p l e Rm s m args below meth c H locs cells slots Q (F0 m (pc + 3) ls (.int (M.1 o 6) :: rest))) : W p l e Rm s m args below meth c H locs cells slots Q (F0 m pc ls (.ref (mm_lo G + o) :: rest)) := mm_get C hM ho (mm_e0 hT) rfl inX0 (k := 6) (by decide) rfl (mm_in 90 (by decide +kernel) (by decide +kernel)) rfl hdg kk
theorem gX0_41 (C : mm_C G p s m args meth c RX0 cc nL ret) (hM : mm_P G R N M H) (ho : o < N) (hT : kT o = (0, 0)) (hdg : decode cc pc = .ok (.getfield 41, 3)) (kk : W p l e Rm s m args below meth c H locs cells slots Q (F0 m (pc + 3) ls (.int (M.1 o 7) :: rest))) : W p l e Rm s m args below meth c H locs cells slots Q (F0 m pc ls (.ref (mm_lo G + o) :: rest)) := mm_get C hM ho (mm_e0 hT) rfl inX0 (k := 7) (by decide) rfl (mm_in 93 (by decide +kernel) (by decide +kernel)) rfl hdg kk
theorem gX0_44 (C : mm_C G p s m args meth c RX0 cc nL ret) (hM : mm_P G R N M H) (ho : o < N) (hT : kT o = (0, 0)) (hdg : decode cc pc = .ok (.getfield 44, 3)) (kk : W p l e Rm s m args below meth c H locs cells slots Q (F0 m (pc + 3) ls (.long (M.2 o 12) :: rest))) : W p l e Rm s m args below meth c H locs cells slots Q (F0 m pc ls (.ref (mm_lo G + o) :: rest)) := mm_get C hM ho (mm_e0 hT) rfl inX0 (k := 12) (by decide) rfl (mm_in 109 (by decide +kernel) (by decide +kernel)) rfl hdg kk
theorem gX0_48 (C : mm_C G p s m args meth c RX0 cc nL ret) (hM : mm_P G R N M H) (ho : o < N) (hT : kT o = (0, 0)) (hdg : decode cc pc = .ok (.getfield 48, 3)) (kk : W p l e Rm s m args below meth c H locs cells slots Q (F0 m (pc + 3) ls (.long (M.2 o 13) :: rest))) : W p l e Rm s m args below meth c H locs cells slots Q (F0 m pc ls (.ref (mm_lo G + o) :: rest)) := mm_get C hM ho (mm_e0 hT) rfl inX0 (k := 13) (by decide) rfl (mm_in 112 (by decide +kernel) (by decide +kernel)) rfl hdg kk
theorem gX0_51 (C : mm_C G p s m args meth c RX0 cc nL ret) (hM : mm_P G R N M H) (ho : o < N) (hT : kT o = (0, 0)) (hdg : decode cc pc = .ok (.getfield 51, 3)) (kk : W p l e Rm s m args below meth c H locs cells slots Q (F0 m (pc + 3) ls (.long (M.2 o 14) :: rest))) : W p l e Rm s m args below meth c H locs cells slots Q (F0 m pc ls (.ref (mm_lo G + o) :: rest)) := mm_get C hM ho (mm_e0 hT) rfl inX0 (k := 14) (by decide) rfl (mm_in 115 (by decide +kernel) (by decide +kernel)) rfl hdg kk
theorem gX0_54 (C : mm_C G p s m args meth c RX0 cc nL ret) (hM : mm_P G R N M H) (ho : o < N) (hT : kT o = (0, 0)) (hdg : decode cc pc = .ok (.getfield 54, 3)) (kk : W p l e Rm s m args below meth c H locs cells slots Q (F0 m (pc + 3) ls (.long (M.2 o 15) :: rest))) : W p l e Rm s m args below meth c H locs cells slots Q (F0 m pc ls (.ref (mm_lo G + o) :: rest)) := mm_get C hM ho (mm_e0 hT) rfl inX0 (k := 15) (by decide) rfl (mm_in 118 (by decide +kernel) (by decide +kernel)) rfl hdg kk
theorem gX0_63 (C : mm_C G p s m args meth c RX0 cc nL ret) (hM : mm_P G R N M H) (ho : o < N) (hT : kT o = (0, 0)) (hdg : decode cc pc = .ok (.getfield 63, 3)) (kk : W p l e Rm s m args below meth c H locs cells slots Q (F0 m (pc + 3) ls (.int (M.1 o 8) :: rest))) : W p l e Rm s m args below meth c H locs cells slots Q (F0 m pc ls (.ref (mm_lo G + o) :: rest)) := mm_get C hM ho (mm_e0 hT) rfl inX0 (k := 8) (by decide) rfl (mm_in 96 (by decide +kernel) (by decide +kernel)) rfl hdg kk
theorem gX0_66 (C : mm_C G p s m args meth c RX0 cc nL ret) (hM : mm_P G R N M H) (ho : o < N) (hT : kT o = (0, 0)) (hdg : decode cc pc = .ok (.getfield 66, 3)) (kk : W p l e Rm s m args below meth c H locs cells slots Q (F0 m (pc + 3) ls (.int (M.1 o 9) :: rest))) : W p l e Rm s m args below meth c H locs cells slots Q (F0 m pc ls (.ref (mm_lo G + o) :: rest)) := mm_get C hM ho (mm_e0 hT) rfl inX0 (k := 9) (by decide) rfl (mm_in 100 (by decide +kernel) (by decide +kernel)) rfl hdg kk
theorem gX0_69 (C : mm_C G p s m args meth c RX0 cc nL ret) (hM : mm_P G R N M H) (ho : o < N) (hT : kT o = (0, 0)) (hdg : decode cc pc = .ok (.getfield 69, 3)) (kk : W p l e Rm s m args below meth c H locs cells slots Q (F0 m (pc + 3) ls (.int (M.1 o 10) :: rest))) : W p l e Rm s m args below meth c H locs cells slots Q (F0 m pc ls (.ref (mm_lo G + o) :: rest)) := mm_get C hM ho (mm_e0 hT) rfl inX0 (k := 10) (by decide) rfl (mm_in 103 (by decide +kernel) (by decide +kernel)) rfl hdg kk
theorem gX0_72 (C : mm_C G p s m args meth c RX0 cc nL ret) (hM : mm_P G R N M H) (ho : o < N) (hT : kT o = (0, 0)) (hdg : decode cc pc = .ok (.getfield 72, 3)) (kk : W p l e Rm s m args below meth c H locs cells slots Q (F0 m (pc + 3) ls (.int (M.1 o 11) :: rest))) : W p l e Rm s m args below meth c H locs cells slots Q (F0 m pc ls (.ref (mm_lo G + o) :: rest)) := mm_get C hM ho (mm_e0 hT) rfl inX0 (k := 11) (by decide) rfl (mm_in 106 (by decide +kernel) (by decide +kernel)) rfl hdg kk
theorem gX0_9 (C : mm_C G p s m args meth c RX0 cc nL ret) (hM : mm_P G R N M H) (ho : o < N) (hT : kT o = (0, 0)) {b : Nat} (hr : R o 16 = some b) (hdg : decode cc pc = .ok (.getfield 9, 3)) (kk : W p l e Rm s m args below meth c H locs cells slots Q (F0 m (pc + 3) ls (.ref (mm_lo G + b) :: rest))) : W p l e Rm s m args below meth c H locs cells slots Q (F0 m pc ls (.ref (mm_lo G + o) :: rest)) := mm_get C hM ho (mm_e0 hT) rfl inX0 (k := 16) (by decide) rfl (mm_in 121 (by decide +kernel) (by decide +kernel)) rfl hdg (by rw [mm_q_some hr]; exact kk)
theorem gX1_104 (C : mm_C G p s m args meth c RX1 cc nL ret) (hM : mm_P G R N M H) (ho : o < N) (hT : kT o = (0, 0)) (hdg : decode cc pc = .ok (.getfield 104, 3)) (kk : W p l e Rm s m args below meth c H locs cells slots Q (F0 m (pc + 3) ls (.int (M.1 o 2) :: rest))) : W p l e Rm s m args below meth c H locs cells slots Q (F0 m pc ls (.ref (mm_lo G + o) :: rest)) := mm_get C hM ho (mm_e0 hT) rfl inX0 (k := 2) (by decide) rfl (mm_in 77 (by decide +kernel) (by decide +kernel)) rfl hdg kk
theorem gX1_121 (C : mm_C G p s m args meth c RX1 cc nL ret) (hM : mm_P G R N M H) (ho : o < N) (hT : kT o = (0, 0)) (hdg : decode cc pc = .ok (.getfield 121, 3)) (kk : W p l e Rm s m args below meth c H locs cells slots Q (F0 m (pc + 3) ls (.int (M.1 o 8) :: rest))) : W p l e Rm s m args below meth c H locs cells slots Q (F0 m pc ls (.ref (mm_lo G + o) :: rest)) := mm_get C hM ho (mm_e0 hT) rfl inX0 (k := 8) (by decide) rfl (mm_in 97 (by decide +kernel) (by decide +kernel)) rfl hdg kk
theorem gX1_124 (C : mm_C G p s m args meth c RX1 cc nL ret) (hM : mm_P G R N M H) (ho : o < N) (hT : kT o = (0, 0)) (hdg : decode cc pc = .ok (.getfield 124, 3)) (kk : W p l e Rm s m args below meth c H locs cells slots Q (F0 m (pc + 3) ls (.int (M.1 o 1) :: rest))) : W p l e Rm s m args below meth c H locs cells slots Q (F0 m pc ls (.ref (mm_lo G + o) :: rest)) := mm_get C hM ho (mm_e0 hT) rfl inX0 (k := 1) (by decide) rfl (mm_in 74 (by decide +kernel) (by decide +kernel)) rfl hdg kk
theorem gX1_138 (C : mm_C G p s m args meth c RX1 cc nL ret) (hM : mm_P G R N M H) (ho : o < N) (hT : kT o = (4, 0)) (hdg : decode cc pc = .ok (.getfield 138, 3)) (kk : W p l e Rm s m args below meth c H locs cells slots Q (F0 m (pc + 3) ls (.int (M.1 o 4) :: rest))) : W p l e Rm s m args below meth c H locs cells slots Q (F0 m pc ls (.ref (mm_lo G + o) :: rest)) := mm_get C hM ho (mm_e4 hT) rfl inX5 (k := 4) (by decide) rfl (mm_in 174 (by decide +kernel) (by decide +kernel)) rfl hdg kk
theorem gX1_141 (C : mm_C G p s m args meth c RX1 cc nL ret) (hM : mm_P G R N M H) (ho : o < N) (hT : kT o = (4, 0)) {b : Nat} (hr : R o 10 = some b) (hdg : decode cc pc = .ok (.getfield 141, 3)) (kk : W p l e Rm s m args below meth c H locs cells slots Q (F0 m (pc + 3) ls (.ref (mm_lo G + b) :: rest))) : W p l e Rm s m args below meth c H locs cells slots Q (F0 m pc ls (.ref (mm_lo G + o) :: rest)) := mm_get C hM ho (mm_e4 hT) rfl inX5 (k := 10) (by decide) rfl (mm_in 190 (by decide +kernel) (by decide +kernel)) rfl hdg (by rw [mm_q_some hr]; exact kk)
theorem gX1_144 (C : mm_C G p s m args meth c RX1 cc nL ret) (hM : mm_P G R N M H) (ho : o < N) (hT : kT o = (4, 0)) {b : Nat} (hr : R o 11 = some b) (hdg : decode cc pc = .ok (.getfield 144, 3)) (kk : W p l e Rm s m args below meth c H locs cells slots Q (F0 m (pc + 3) ls (.ref (mm_lo G + b) :: rest))) : W p l e Rm s m args below meth c H locs cells slots Q (F0 m pc ls (.ref (mm_lo G + o) :: rest)) := mm_get C hM ho (mm_e4 hT) rfl inX5 (k := 11) (by decide) rfl (mm_in 192 (by decide +kernel) (by decide +kernel)) rfl hdg (by rw [mm_q_some hr]; exact kk)
theorem gX1_151 (C : mm_C G p s m args meth c RX1 cc nL ret) (hM : mm_P G R N M H) (ho : o < N) (hT : kT o = (0, 0)) (hdg : decode cc pc = .ok (.getfield 151, 3)) (kk : W p l e Rm s m args below meth c H locs cells slots Q (F0 m (pc + 3) ls (.long (M.2 o 15) :: rest))) : W p l e Rm s m args below meth c H locs cells slots Q (F0 m pc ls (.ref (mm_lo G + o) :: rest)) := mm_get C hM ho (mm_e0 hT) rfl inX0 (k := 15) (by decide) rfl (mm_in 119 (by decide +kernel) (by decide +kernel)) rfl hdg kk
theorem gX1_155 (C : mm_C G p s m args meth c RX1 cc nL ret) (hM : mm_P G R N M H) (ho : o < N) (hT : kT o = (4, 0)) (hdg : decode cc pc = .ok (.getfield 155, 3)) (kk : W p l e Rm s m args below meth c H locs cells slots Q (F0 m (pc + 3) ls (.int (M.1 o 5) :: rest))) : W p l e Rm s m args below meth c H locs cells slots Q (F0 m pc ls (.ref (mm_lo G + o) :: rest)) := mm_get C hM ho (mm_e4 hT) rfl inX5 (k := 5) (by decide) rfl (mm_in 177 (by decide +kernel) (by decide +kernel)) rfl hdg kk
theorem gX1_158 (C : mm_C G p s m args meth c RX1 cc nL ret) (hM : mm_P G R N M H) (ho : o < N) (hT : kT o = (0, 0)) (hdg : decode cc pc = .ok (.getfield 158, 3)) (kk : W p l e Rm s m args below meth c H locs cells slots Q (F0 m (pc + 3) ls (.long (M.2 o 13) :: rest))) : W p l e Rm s m args below meth c H locs cells slots Q (F0 m pc ls (.ref (mm_lo G + o) :: rest)) := mm_get C hM ho (mm_e0 hT) rfl inX0 (k := 13) (by decide) rfl (mm_in 113 (by decide +kernel) (by decide +kernel)) rfl hdg kk
theorem gX1_161 (C : mm_C G p s m args meth c RX1 cc nL ret) (hM : mm_P G R N M H) (ho : o < N) (hT : kT o = (3, 0)) (hdg : decode cc pc = .ok (.getfield 161, 3)) (kk : W p l e Rm s m args below meth c H locs cells slots Q (F0 m (pc + 3) ls (.int (M.1 o 0) :: rest))) : W p l e Rm s m args below meth c H locs cells slots Q (F0 m pc ls (.ref (mm_lo G + o) :: rest)) := mm_get C hM ho (mm_e3 hT) rfl inX4 (k := 0) (by decide) rfl (mm_in 43 (by decide +kernel) (by decide +kernel)) rfl hdg kk
theorem gX1_164 (C : mm_C G p s m args meth c RX1 cc nL ret) (hM : mm_P G R N M H) (ho : o < N) (hT : kT o = (0, 0)) (hdg : decode cc pc = .ok (.getfield 164, 3)) (kk : W p l e Rm s m args below meth c H locs cells slots Q (F0 m (pc + 3) ls (.int (M.1 o 7) :: rest))) : W p l e Rm s m args below meth c H locs cells slots Q (F0 m pc ls (.ref (mm_lo G + o) :: rest)) := mm_get C hM ho (mm_e0 hT) rfl inX0 (k := 7) (by decide) rfl (mm_in 94 (by decide +kernel) (by decide +kernel)) rfl hdg kk
theorem gX1_167 (C : mm_C G p s m args meth c RX1 cc nL ret) (hM : mm_P G R N M H) (ho : o < N) (hT : kT o = (3, 0)) (hdg : decode cc pc = .ok (.getfield 167, 3)) (kk : W p l e Rm s m args below meth c H locs cells slots Q (F0 m (pc + 3) ls (.int (M.1 o 2) :: rest))) : W p l e Rm s m args below meth c H locs cells slots Q (F0 m pc ls (.ref (mm_lo G + o) :: rest)) := mm_get C hM ho (mm_e3 hT) rfl inX4 (k := 2) (by decide) rfl (mm_in 49 (by decide +kernel) (by decide +kernel)) rfl hdg kk
theorem gX1_170 (C : mm_C G p s m args meth c RX1 cc nL ret) (hM : mm_P G R N M H) (ho : o < N) (hT : kT o = (3, 0)) (hdg : decode cc pc = .ok (.getfield 170, 3)) (kk : W p l e Rm s m args below meth c H locs cells slots Q (F0 m (pc + 3) ls (.int (M.1 o 1) :: rest))) : W p l e Rm s m args below meth c H locs cells slots Q (F0 m pc ls (.ref (mm_lo G + o) :: rest)) := mm_get C hM ho (mm_e3 hT) rfl inX4 (k := 1) (by decide) rfl (mm_in 46 (by decide +kernel) (by decide +kernel)) rfl hdg kk
theorem gX1_21 (C : mm_C G p s m args meth c RX1 cc nL ret) (hM : mm_P G R N M H) (ho : o < N) (hT : kT o = (4, 0)) (hdg : decode cc pc = .ok (.getfield 21, 3)) (kk : W p l e Rm s m args below meth c H locs cells slots Q (F0 m (pc + 3) ls (.int (M.1 o 0) :: rest))) : W p l e Rm s m args below meth c H locs cells slots Q (F0 m pc ls (.ref (mm_lo G + o) :: rest)) := mm_get C hM ho (mm_e4 hT) rfl inX5 (k := 0) (by decide) rfl (mm_in 162 (by decide +kernel) (by decide +kernel)) rfl hdg kk
theorem gX1_25 (C : mm_C G p s m args meth c RX1 cc nL ret) (hM : mm_P G R N M H) (ho : o < N) (hT : kT o = (0, 0)) (hdg : decode cc pc = .ok (.getfield 25, 3)) (kk : W p l e Rm s m args below meth c H locs cells slots Q (F0 m (pc + 3) ls (.int (M.1 o 4) :: rest))) : W p l e Rm s m args below meth c H locs cells slots Q (F0 m pc ls (.ref (mm_lo G + o) :: rest)) := mm_get C hM ho (mm_e0 hT) rfl inX0 (k := 4) (by decide) rfl (mm_in 84 (by decide +kernel) (by decide +kernel)) rfl hdg kk
theorem gX1_30 (C : mm_C G p s m args meth c RX1 cc nL ret) (hM : mm_P G R N M H) (ho : o < N) (hT : kT o = (0, 0)) (hdg : decode cc pc = .ok (.getfield 30, 3)) (kk : W p l e Rm s m args below meth c H locs cells slots Q (F0 m (pc + 3) ls (.int (M.1 o 5) :: rest))) : W p l e Rm s m args below meth c H locs cells slots Q (F0 m pc ls (.ref (mm_lo G + o) :: rest)) := mm_get C hM ho (mm_e0 hT) rfl inX0 (k := 5) (by decide) rfl (mm_in 87 (by decide +kernel) (by decide +kernel)) rfl hdg kk
theorem gX1_34 (C : mm_C G p s m args meth c RX1 cc nL ret) (hM : mm_P G R N M H) (ho : o < N) (hT : kT o = (4, 0)) (hdg : decode cc pc = .ok (.getfield 34, 3)) (kk : W p l e Rm s m args below meth c H locs cells slots Q (F0 m (pc + 3) ls (.int (M.1 o 3) :: rest))) : W p l e Rm s m args below meth c H locs cells slots Q (F0 m pc ls (.ref (mm_lo G + o) :: rest)) := mm_get C hM ho (mm_e4 hT) rfl inX5 (k := 3) (by decide) rfl (mm_in 171 (by decide +kernel) (by decide +kernel)) rfl hdg kk
theorem gX1_37 (C : mm_C G p s m args meth c RX1 cc nL ret) (hM : mm_P G R N M H) (ho : o < N) (hT : kT o = (4, 0)) {b : Nat} (hr : R o 9 = some b) (hdg : decode cc pc = .ok (.getfield 37, 3)) (kk : W p l e Rm s m args below meth c H locs cells slots Q (F0 m (pc + 3) ls (.ref (mm_lo G + b) :: rest))) : W p l e Rm s m args below meth c H locs cells slots Q (F0 m pc ls (.ref (mm_lo G + o) :: rest)) := mm_get C hM ho (mm_e4 hT) rfl inX5 (k := 9) (by decide) rfl (mm_in 187 (by decide +kernel) (by decide +kernel)) rfl hdg (by rw [mm_q_some hr]; exact kk)
theorem gX1_41 (C : mm_C G p s m args meth c RX1 cc nL ret) (hM : mm_P G R N M H) (ho : o < N) (hT : kT o = (4, 0)) (hdg : decode cc pc = .ok (.getfield 41, 3)) (kk : W p l e Rm s m args below meth c H locs cells slots Q (F0 m (pc + 3) ls (.int (M.1 o 2) :: rest))) : W p l e Rm s m args below meth c H locs cells slots Q (F0 m pc ls (.ref (mm_lo G + o) :: rest)) := mm_get C hM ho (mm_e4 hT) rfl inX5 (k := 2) (by decide) rfl (mm_in 168 (by decide +kernel) (by decide +kernel)) rfl hdg kk
theorem gX1_44 (C : mm_C G p s m args meth c RX1 cc nL ret) (hM : mm_P G R N M H) (ho : o < N) (hT : kT o = (4, 0)) {b : Nat} (hr : R o 8 = some b) (hdg : decode cc pc = .ok (.getfield 44, 3)) (kk : W p l e Rm s m args below meth c H locs cells slots Q (F0 m (pc + 3) ls (.ref (mm_lo G + b) :: rest))) : W p l e Rm s m args below meth c H locs cells slots Q (F0 m pc ls (.ref (mm_lo G + o) :: rest)) := mm_get C hM ho (mm_e4 hT) rfl inX5 (k := 8) (by decide) rfl (mm_in 184 (by decide +kernel) (by decide +kernel)) rfl hdg (by rw [mm_q_some hr]; exact kk)
theorem gX1_48 (C : mm_C G p s m args meth c RX1 cc nL ret) (hM : mm_P G R N M H) (ho : o < N) (hT : kT o = (3, 0)) (hdg : decode cc pc = .ok (.getfield 48, 3)) (kk : W p l e Rm s m args below meth c H locs cells slots Q (F0 m (pc + 3) ls (.int (M.1 o 3) :: rest))) : W p l e Rm s m args below meth c H locs cells slots Q (F0 m pc ls (.ref (mm_lo G + o) :: rest)) := mm_get C hM ho (mm_e3 hT) rfl inX4 (k := 3) (by decide) rfl (mm_in 52 (by decide +kernel) (by decide +kernel)) rfl hdg kk
theorem gX1_60 (C : mm_C G p s m args meth c RX1 cc nL ret) (hM : mm_P G R N M H) (ho : o < N) (hT : kT o = (4, 0)) (hdg : decode cc pc = .ok (.getfield 60, 3)) (kk : W p l e Rm s m args below meth c H locs cells slots Q (F0 m (pc + 3) ls (.int (M.1 o 14) :: rest))) : W p l e Rm s m args below meth c H locs cells slots Q (F0 m pc ls (.ref (mm_lo G + o) :: rest)) := mm_get C hM ho (mm_e4 hT) rfl inX5 (k := 14) (by decide) rfl (mm_in 197 (by decide +kernel) (by decide +kernel)) rfl hdg kk
theorem gX1_63 (C : mm_C G p s m args meth c RX1 cc nL ret) (hM : mm_P G R N M H) (ho : o < N) (hT : kT o = (4, 0)) (hdg : decode cc pc = .ok (.getfield 63, 3)) (kk : W p l e Rm s m args below meth c H locs cells slots Q (F0 m (pc + 3) ls (.int (M.1 o 1) :: rest))) : W p l e Rm s m args below meth c H locs cells slots Q (F0 m pc ls (.ref (mm_lo G + o) :: rest)) := mm_get C hM ho (mm_e4 hT) rfl inX5 (k := 1) (by decide) rfl (mm_in 165 (by decide +kernel) (by decide +kernel)) rfl hdg kk
theorem gX1_75 (C : mm_C G p s m args meth c RX1 cc nL ret) (hM : mm_P G R N M H) (ho : o < N) (hT : kT o = (4, 0)) {b : Nat} (hr : R o 12 = some b) (hdg : decode cc pc = .ok (.getfield 75, 3)) (kk : W p l e Rm s m args below meth c H locs cells slots Q (F0 m (pc + 3) ls (.ref (mm_lo G + b) :: rest))) : W p l e Rm s m args below meth c H locs cells slots Q (F0 m pc ls (.ref (mm_lo G + o) :: rest)) := mm_get C hM ho (mm_e4 hT) rfl inX5 (k := 12) (by decide) rfl (mm_in 194 (by decide +kernel) (by decide +kernel)) rfl hdg (by rw [mm_q_some hr]; exact kk)
theorem gX1_78 (C : mm_C G p s m args meth c RX1 cc nL ret) (hM : mm_P G R N M H) (ho : o < N) (hT : kT o = (4, 0)) {b : Nat} (hr : R o 13 = some b) (hdg : decode cc pc = .ok (.getfield 78, 3)) (kk : W p l e Rm s m args below meth c H locs cells slots Q (F0 m (pc + 3) ls (.ref (mm_lo G + b) :: rest))) : W p l e Rm s m args below meth c H locs cells slots Q (F0 m pc ls (.ref (mm_lo G + o) :: rest)) := mm_get C hM ho (mm_e4 hT) rfl inX5 (k := 13) (by decide) rfl (mm_in 196 (by decide +kernel) (by decide +kernel)) rfl hdg (by rw [mm_q_some hr]; exact kk)
theorem gX1_81 (C : mm_C G p s m args meth c RX1 cc nL ret) (hM : mm_P G R N M H) (ho : o < N) (hT : kT o = (0, 0)) (hdg : decode cc pc = .ok (.getfield 81, 3)) (kk : W p l e Rm s m args below meth c H locs cells slots Q (F0 m (pc + 3) ls (.int (M.1 o 11) :: rest))) : W p l e Rm s m args below meth c H locs cells slots Q (F0 m pc ls (.ref (mm_lo G + o) :: rest)) := mm_get C hM ho (mm_e0 hT) rfl inX0 (k := 11) (by decide) rfl (mm_in 107 (by decide +kernel) (by decide +kernel)) rfl hdg kk
theorem gX1_9 (C : mm_C G p s m args meth c RX1 cc nL ret) (hM : mm_P G R N M H) (ho : o < N) (hT : kT o = (4, 0)) {b : Nat} (hr : R o 7 = some b) (hdg : decode cc pc = .ok (.getfield 9, 3)) (kk : W p l e Rm s m args below meth c H locs cells slots Q (F0 m (pc + 3) ls (.ref (mm_lo G + b) :: rest))) : W p l e Rm s m args below meth c H locs cells slots Q (F0 m pc ls (.ref (mm_lo G + o) :: rest)) := mm_get C hM ho (mm_e4 hT) rfl inX5 (k := 7) (by decide) rfl (mm_in 181 (by decide +kernel) (by decide +kernel)) rfl hdg (by rw [mm_q_some hr]; exact kk)
theorem gX1_92 (C : mm_C G p s m args meth c RX1 cc nL ret) (hM : mm_P G R N M H) (ho : o < N) (hT : kT o = (0, 0)) (hdg : decode cc pc = .ok (.getfield 92, 3)) (kk : W p l e Rm s m args below meth c H locs cells slots Q (F0 m (pc + 3) ls (.int (M.1 o 10) :: rest))) : W p l e Rm s m args below meth c H locs cells slots Q (F0 m pc ls (.ref (mm_lo G + o) :: rest)) := mm_get C hM ho (mm_e0 hT) rfl inX0 (k := 10) (by decide) rfl (mm_in 104 (by decide +kernel) (by decide +kernel)) rfl hdg kk
theorem gX1_95 (C : mm_C G p s m args meth c RX1 cc nL ret) (hM : mm_P G R N M H) (ho : o < N) (hT : kT o = (0, 0)) (hdg : decode cc pc = .ok (.getfield 95, 3)) (kk : W p l e Rm s m args below meth c H locs cells slots Q (F0 m (pc + 3) ls (.int (M.1 o 3) :: rest))) : W p l e Rm s m args below meth c H locs cells slots Q (F0 m pc ls (.ref (mm_lo G + o) :: rest)) := mm_get C hM ho (mm_e0 hT) rfl inX0 (k := 3) (by decide) rfl (mm_in 81 (by decide +kernel) (by decide +kernel)) rfl hdg kk
theorem gX2_13 (C : mm_C G p s m args meth c RX2 cc nL ret) (hM : mm_P G R N M H) (ho : o < N) (hT : kT o = (1, 0)) {b : Nat} (hr : R o 0 = some b) (hdg : decode cc pc = .ok (.getfield 13, 3)) (kk : W p l e Rm s m args below meth c H locs cells slots Q (F0 m (pc + 3) ls (.ref (mm_lo G + b) :: rest))) : W p l e Rm s m args below meth c H locs cells slots Q (F0 m pc ls (.ref (mm_lo G + o) :: rest)) := mm_get C hM ho (mm_e1 hT) rfl inX2 (k := 0) (by decide) rfl (mm_in 238 (by decide +kernel) (by decide +kernel)) rfl hdg (by rw [mm_q_some hr]; exact kk)
theorem gX2_18 (C : mm_C G p s m args meth c RX2 cc nL ret) (hM : mm_P G R N M H) (ho : o < N) (hT : kT o = (1, 0)) (hdg : decode cc pc = .ok (.getfield 18, 3)) (kk : W p l e Rm s m args below meth c H locs cells slots Q (F0 m (pc + 3) ls (.int (M.1 o 1) :: rest))) : W p l e Rm s m args below meth c H locs cells slots Q (F0 m pc ls (.ref (mm_lo G + o) :: rest)) := mm_get C hM ho (mm_e1 hT) rfl inX2 (k := 1) (by decide) rfl (mm_in 239 (by decide +kernel) (by decide +kernel)) rfl hdg kk
theorem gX2_22 (C : mm_C G p s m args meth c RX2 cc nL ret) (hM : mm_P G R N M H) (ho : o < N) (hT : kT o = (1, 0)) (hdg : decode cc pc = .ok (.getfield 22, 3)) (kk : W p l e Rm s m args below meth c H locs cells slots Q (F0 m (pc + 3) ls (.int (M.1 o 2) :: rest))) : W p l e Rm s m args below meth c H locs cells slots Q (F0 m pc ls (.ref (mm_lo G + o) :: rest)) := mm_get C hM ho (mm_e1 hT) rfl inX2 (k := 2) (by decide) rfl (mm_in 240 (by decide +kernel) (by decide +kernel)) rfl hdg kk
theorem gX3_19 (C : mm_C G p s m args meth c RX3 cc nL ret) (hM : mm_P G R N M H) (ho : o < N) (hT : kT o = (2, 0)) (hdg : decode cc pc = .ok (.getfield 19, 3)) (kk : W p l e Rm s m args below meth c H locs cells slots Q (F0 m (pc + 3) ls (.int (M.1 o 1) :: rest))) : W p l e Rm s m args below meth c H locs cells slots Q (F0 m pc ls (.ref (mm_lo G + o) :: rest)) := mm_get C hM ho (mm_e2 hT) rfl inX3 (k := 1) (by decide) rfl (mm_in 256 (by decide +kernel) (by decide +kernel)) rfl hdg kk
theorem gX3_9 (C : mm_C G p s m args meth c RX3 cc nL ret) (hM : mm_P G R N M H) (ho : o < N) (hT : kT o = (2, 0)) {b : Nat} (hr : R o 0 = some b) (hdg : decode cc pc = .ok (.getfield 9, 3)) (kk : W p l e Rm s m args below meth c H locs cells slots Q (F0 m (pc + 3) ls (.ref (mm_lo G + b) :: rest))) : W p l e Rm s m args below meth c H locs cells slots Q (F0 m pc ls (.ref (mm_lo G + o) :: rest)) := mm_get C hM ho (mm_e2 hT) rfl inX3 (k := 0) (by decide) rfl (mm_in 255 (by decide +kernel) (by decide +kernel)) rfl hdg (by rw [mm_q_some hr]; exact kk)
theorem gX4_15 (C : mm_C G p s m args meth c RX4 cc nL ret) (hM : mm_P G R N M H) (ho : o < N) (hT : kT o = (3, 0)) (hdg : decode cc pc = .ok (.getfield 15, 3)) (kk : W p l e Rm s m args below meth c H locs cells slots Q (F0 m (pc + 3) ls (.int (M.1 o 1) :: rest))) : W p l e Rm s m args below meth c H locs cells slots Q (F0 m pc ls (.ref (mm_lo G + o) :: rest)) := mm_get C hM ho (mm_e3 hT) rfl inX4 (k := 1) (by decide) rfl (mm_in 45 (by decide +kernel) (by decide +kernel)) rfl hdg kk
theorem gX4_18 (C : mm_C G p s m args meth c RX4 cc nL ret) (hM : mm_P G R N M H) (ho : o < N) (hT : kT o = (3, 0)) (hdg : decode cc pc = .ok (.getfield 18, 3)) (kk : W p l e Rm s m args below meth c H locs cells slots Q (F0 m (pc + 3) ls (.int (M.1 o 2) :: rest))) : W p l e Rm s m args below meth c H locs cells slots Q (F0 m pc ls (.ref (mm_lo G + o) :: rest)) := mm_get C hM ho (mm_e3 hT) rfl inX4 (k := 2) (by decide) rfl (mm_in 48 (by decide +kernel) (by decide +kernel)) rfl hdg kk
theorem gX4_21 (C : mm_C G p s m args meth c RX4 cc nL ret) (hM : mm_P G R N M H) (ho : o < N) (hT : kT o = (3, 0)) (hdg : decode cc pc = .ok (.getfield 21, 3)) (kk : W p l e Rm s m args below meth c H locs cells slots Q (F0 m (pc + 3) ls (.int (M.1 o 3) :: rest))) : W p l e Rm s m args below meth c H locs cells slots Q (F0 m pc ls (.ref (mm_lo G + o) :: rest)) := mm_get C hM ho (mm_e3 hT) rfl inX4 (k := 3) (by decide) rfl (mm_in 51 (by decide +kernel) (by decide +kernel)) rfl hdg kk
theorem gX4_9 (C : mm_C G p s m args meth c RX4 cc nL ret) (hM : mm_P G R N M H) (ho : o < N) (hT : kT o = (3, 0)) (hdg : decode cc pc = .ok (.getfield 9, 3)) (kk : W p l e Rm s m args below meth c H locs cells slots Q (F0 m (pc + 3) ls (.int (M.1 o 0) :: rest))) : W p l e Rm s m args below meth c H locs cells slots Q (F0 m pc ls (.ref (mm_lo G + o) :: rest)) := mm_get C hM ho (mm_e3 hT) rfl inX4 (k := 0) (by decide) rfl (mm_in 41 (by decide +kernel) (by decide +kernel)) rfl hdg kk
theorem gX5_106 (C : mm_C G p s m args meth c RX5 cc nL ret) (hM : mm_P G R N M H) (ho : o < N) (hT : kT o = (0, 0)) {b : Nat} (hr : R o 16 = some b) (hdg : decode cc pc = .ok (.getfield 106, 3)) (kk : W p l e Rm s m args below meth c H locs cells slots Q (F0 m (pc + 3) ls (.ref (mm_lo G + b) :: rest))) : W p l e Rm s m args below meth c H locs cells slots Q (F0 m pc ls (.ref (mm_lo G + o) :: rest)) := mm_get C hM ho (mm_e0 hT) rfl inX0 (k := 16) (by decide) rfl (mm_in 122 (by decide +kernel) (by decide +kernel)) rfl hdg (by rw [mm_q_some hr]; exact kk)
theorem gX5_113 (C : mm_C G p s m args meth c RX5 cc nL ret) (hM : mm_P G R N M H) (ho : o < N) (hT : kT o = (0, 0)) (hdg : decode cc pc = .ok (.getfield 113, 3)) (kk : W p l e Rm s m args below meth c H locs cells slots Q (F0 m (pc + 3) ls (.long (M.2 o 14) :: rest))) : W p l e Rm s m args below meth c H locs cells slots Q (F0 m pc ls (.ref (mm_lo G + o) :: rest)) := mm_get C hM ho (mm_e0 hT) rfl inX0 (k := 14) (by decide) rfl (mm_in 116 (by decide +kernel) (by decide +kernel)) rfl hdg kk
theorem gX5_131 (C : mm_C G p s m args meth c RX5 cc nL ret) (hM : mm_P G R N M H) (ho : o < N) (hT : kT o = (0, 0)) (hdg : decode cc pc = .ok (.getfield 131, 3)) (kk : W p l e Rm s m args below meth c H locs cells slots Q (F0 m (pc + 3) ls (.int (M.1 o 5) :: rest))) : W p l e Rm s m args below meth c H locs cells slots Q (F0 m pc ls (.ref (mm_lo G + o) :: rest)) := mm_get C hM ho (mm_e0 hT) rfl inX0 (k := 5) (by decide) rfl (mm_in 88 (by decide +kernel) (by decide +kernel)) rfl hdg kk
theorem gX5_140 (C : mm_C G p s m args meth c RX5 cc nL ret) (hM : mm_P G R N M H) (ho : o < N) (hT : kT o = (0, 0)) (hdg : decode cc pc = .ok (.getfield 140, 3)) (kk : W p l e Rm s m args below meth c H locs cells slots Q (F0 m (pc + 3) ls (.long (M.2 o 12) :: rest))) : W p l e Rm s m args below meth c H locs cells slots Q (F0 m pc ls (.ref (mm_lo G + o) :: rest)) := mm_get C hM ho (mm_e0 hT) rfl inX0 (k := 12) (by decide) rfl (mm_in 110 (by decide +kernel) (by decide +kernel)) rfl hdg kk
theorem gX5_15 (C : mm_C G p s m args meth c RX5 cc nL ret) (hM : mm_P G R N M H) (ho : o < N) (hT : kT o = (4, 0)) {b : Nat} (hr : R o 7 = some b) (hdg : decode cc pc = .ok (.getfield 15, 3)) (kk : W p l e Rm s m args below meth c H locs cells slots Q (F0 m (pc + 3) ls (.ref (mm_lo G + b) :: rest))) : W p l e Rm s m args below meth c H locs cells slots Q (F0 m pc ls (.ref (mm_lo G + o) :: rest)) := mm_get C hM ho (mm_e4 hT) rfl inX5 (k := 7) (by decide) rfl (mm_in 180 (by decide +kernel) (by decide +kernel)) rfl hdg (by rw [mm_q_some hr]; exact kk)
theorem gX5_174 (C : mm_C G p s m args meth c RX5 cc nL ret) (hM : mm_P G R N M H) (ho : o < N) (hT : kT o = (0, 0)) (hdg : decode cc pc = .ok (.getfield 174, 3)) (kk : W p l e Rm s m args below meth c H locs cells slots Q (F0 m (pc + 3) ls (.int (M.1 o 8) :: rest))) : W p l e Rm s m args below meth c H locs cells slots Q (F0 m pc ls (.ref (mm_lo G + o) :: rest)) := mm_get C hM ho (mm_e0 hT) rfl inX0 (k := 8) (by decide) rfl (mm_in 99 (by decide +kernel) (by decide +kernel)) rfl hdg kk
theorem gX5_177 (C : mm_C G p s m args meth c RX5 cc nL ret) (hM : mm_P G R N M H) (ho : o < N) (hT : kT o = (3, 0)) (hdg : decode cc pc = .ok (.getfield 177, 3)) (kk : W p l e Rm s m args below meth c H locs cells slots Q (F0 m (pc + 3) ls (.int (M.1 o 3) :: rest))) : W p l e Rm s m args below meth c H locs cells slots Q (F0 m pc ls (.ref (mm_lo G + o) :: rest)) := mm_get C hM ho (mm_e3 hT) rfl inX4 (k := 3) (by decide) rfl (mm_in 54 (by decide +kernel) (by decide +kernel)) rfl hdg kk
theorem gX5_180 (C : mm_C G p s m args meth c RX5 cc nL ret) (hM : mm_P G R N M H) (ho : o < N) (hT : kT o = (0, 0)) (hdg : decode cc pc = .ok (.getfield 180, 3)) (kk : W p l e Rm s m args below meth c H locs cells slots Q (F0 m (pc + 3) ls (.int (M.1 o 0) :: rest))) : W p l e Rm s m args below meth c H locs cells slots Q (F0 m pc ls (.ref (mm_lo G + o) :: rest)) := mm_get C hM ho (mm_e0 hT) rfl inX0 (k := 0) (by decide) rfl (mm_in 72 (by decide +kernel) (by decide +kernel)) rfl hdg kk
theorem gX5_21 (C : mm_C G p s m args meth c RX5 cc nL ret) (hM : mm_P G R N M H) (ho : o < N) (hT : kT o = (4, 0)) {b : Nat} (hr : R o 8 = some b) (hdg : decode cc pc = .ok (.getfield 21, 3)) (kk : W p l e Rm s m args below meth c H locs cells slots Q (F0 m (pc + 3) ls (.ref (mm_lo G + b) :: rest))) : W p l e Rm s m args below meth c H locs cells slots Q (F0 m pc ls (.ref (mm_lo G + o) :: rest)) := mm_get C hM ho (mm_e4 hT) rfl inX5 (k := 8) (by decide) rfl (mm_in 183 (by decide +kernel) (by decide +kernel)) rfl hdg (by rw [mm_q_some hr]; exact kk)
theorem gX5_27 (C : mm_C G p s m args meth c RX5 cc nL ret) (hM : mm_P G R N M H) (ho : o < N) (hT : kT o = (4, 0)) {b : Nat} (hr : R o 9 = some b) (hdg : decode cc pc = .ok (.getfield 27, 3)) (kk : W p l e Rm s m args below meth c H locs cells slots Q (F0 m (pc + 3) ls (.ref (mm_lo G + b) :: rest))) : W p l e Rm s m args below meth c H locs cells slots Q (F0 m pc ls (.ref (mm_lo G + o) :: rest)) := mm_get C hM ho (mm_e4 hT) rfl inX5 (k := 9) (by decide) rfl (mm_in 186 (by decide +kernel) (by decide +kernel)) rfl hdg (by rw [mm_q_some hr]; exact kk)
theorem gX5_31 (C : mm_C G p s m args meth c RX5 cc nL ret) (hM : mm_P G R N M H) (ho : o < N) (hT : kT o = (4, 0)) {b : Nat} (hr : R o 10 = some b) (hdg : decode cc pc = .ok (.getfield 31, 3)) (kk : W p l e Rm s m args below meth c H locs cells slots Q (F0 m (pc + 3) ls (.ref (mm_lo G + b) :: rest))) : W p l e Rm s m args below meth c H locs cells slots Q (F0 m pc ls (.ref (mm_lo G + o) :: rest)) := mm_get C hM ho (mm_e4 hT) rfl inX5 (k := 10) (by decide) rfl (mm_in 189 (by decide +kernel) (by decide +kernel)) rfl hdg (by rw [mm_q_some hr]; exact kk)
theorem gX5_34 (C : mm_C G p s m args meth c RX5 cc nL ret) (hM : mm_P G R N M H) (ho : o < N) (hT : kT o = (4, 0)) {b : Nat} (hr : R o 11 = some b) (hdg : decode cc pc = .ok (.getfield 34, 3)) (kk : W p l e Rm s m args below meth c H locs cells slots Q (F0 m (pc + 3) ls (.ref (mm_lo G + b) :: rest))) : W p l e Rm s m args below meth c H locs cells slots Q (F0 m pc ls (.ref (mm_lo G + o) :: rest)) := mm_get C hM ho (mm_e4 hT) rfl inX5 (k := 11) (by decide) rfl (mm_in 191 (by decide +kernel) (by decide +kernel)) rfl hdg (by rw [mm_q_some hr]; exact kk)
theorem gX5_48 (C : mm_C G p s m args meth c RX5 cc nL ret) (hM : mm_P G R N M H) (ho : o < N) (hT : kT o = (4, 0)) (hdg : decode cc pc = .ok (.getfield 48, 3)) (kk : W p l e Rm s m args below meth c H locs cells slots Q (F0 m (pc + 3) ls (.int (M.1 o 0) :: rest))) : W p l e Rm s m args below meth c H locs cells slots Q (F0 m pc ls (.ref (mm_lo G + o) :: rest)) := mm_get C hM ho (mm_e4 hT) rfl inX5 (k := 0) (by decide) rfl (mm_in 161 (by decide +kernel) (by decide +kernel)) rfl hdg kk
theorem gX5_51 (C : mm_C G p s m args meth c RX5 cc nL ret) (hM : mm_P G R N M H) (ho : o < N) (hT : kT o = (4, 0)) (hdg : decode cc pc = .ok (.getfield 51, 3)) (kk : W p l e Rm s m args below meth c H locs cells slots Q (F0 m (pc + 3) ls (.int (M.1 o 2) :: rest))) : W p l e Rm s m args below meth c H locs cells slots Q (F0 m pc ls (.ref (mm_lo G + o) :: rest)) := mm_get C hM ho (mm_e4 hT) rfl inX5 (k := 2) (by decide) rfl (mm_in 167 (by decide +kernel) (by decide +kernel)) rfl hdg kk
theorem gX5_54 (C : mm_C G p s m args meth c RX5 cc nL ret) (hM : mm_P G R N M H) (ho : o < N) (hT : kT o = (4, 0)) (hdg : decode cc pc = .ok (.getfield 54, 3)) (kk : W p l e Rm s m args below meth c H locs cells slots Q (F0 m (pc + 3) ls (.int (M.1 o 3) :: rest))) : W p l e Rm s m args below meth c H locs cells slots Q (F0 m pc ls (.ref (mm_lo G + o) :: rest)) := mm_get C hM ho (mm_e4 hT) rfl inX5 (k := 3) (by decide) rfl (mm_in 170 (by decide +kernel) (by decide +kernel)) rfl hdg kk
theorem gX5_57 (C : mm_C G p s m args meth c RX5 cc nL ret) (hM : mm_P G R N M H) (ho : o < N) (hT : kT o = (4, 0)) (hdg : decode cc pc = .ok (.getfield 57, 3)) (kk : W p l e Rm s m args below meth c H locs cells slots Q (F0 m (pc + 3) ls (.int (M.1 o 4) :: rest))) : W p l e Rm s m args below meth c H locs cells slots Q (F0 m pc ls (.ref (mm_lo G + o) :: rest)) := mm_get C hM ho (mm_e4 hT) rfl inX5 (k := 4) (by decide) rfl (mm_in 173 (by decide +kernel) (by decide +kernel)) rfl hdg kk
theorem gX5_60 (C : mm_C G p s m args meth c RX5 cc nL ret) (hM : mm_P G R N M H) (ho : o < N) (hT : kT o = (4, 0)) (hdg : decode cc pc = .ok (.getfield 60, 3)) (kk : W p l e Rm s m args below meth c H locs cells slots Q (F0 m (pc + 3) ls (.int (M.1 o 5) :: rest))) : W p l e Rm s m args below meth c H locs cells slots Q (F0 m pc ls (.ref (mm_lo G + o) :: rest)) := mm_get C hM ho (mm_e4 hT) rfl inX5 (k := 5) (by decide) rfl (mm_in 176 (by decide +kernel) (by decide +kernel)) rfl hdg kk
theorem gX5_9 (C : mm_C G p s m args meth c RX5 cc nL ret) (hM : mm_P G R N M H) (ho : o < N) (hT : kT o = (4, 0)) (hdg : decode cc pc = .ok (.getfield 9, 3)) (kk : W p l e Rm s m args below meth c H locs cells slots Q (F0 m (pc + 3) ls (.int (M.1 o 1) :: rest))) : W p l e Rm s m args below meth c H locs cells slots Q (F0 m pc ls (.ref (mm_lo G + o) :: rest)) := mm_get C hM ho (mm_e4 hT) rfl inX5 (k := 1) (by decide) rfl (mm_in 164 (by decide +kernel) (by decide +kernel)) rfl hdg kk
theorem gX5_91 (C : mm_C G p s m args meth c RX5 cc nL ret) (hM : mm_P G R N M H) (ho : o < N) (hT : kT o = (3, 0)) (hdg : decode cc pc = .ok (.getfield 91, 3)) (kk : W p l e Rm s m args below meth c H locs cells slots Q (F0 m (pc + 3) ls (.int (M.1 o 0) :: rest))) : W p l e Rm s m args below meth c H locs cells slots Q (F0 m pc ls (.ref (mm_lo G + o) :: rest)) := mm_get C hM ho (mm_e3 hT) rfl inX4 (k := 0) (by decide) rfl (mm_in 42 (by decide +kernel) (by decide +kernel)) rfl hdg kk
theorem gX6_10 (C : mm_C G p s m args meth c RX6 cc nL ret) (hM : mm_P G R N M H) (ho : o < N) (hT : kT o = (5, 0)) {b : Nat} (hr : R o 0 = some b) (hdg : decode cc pc = .ok (.getfield 10, 3)) (kk : W p l e Rm s m args below meth c H locs cells slots Q (F0 m (pc + 3) ls (.ref (mm_lo G + b) :: rest))) : W p l e Rm s m args below meth c H locs cells slots Q (F0 m pc ls (.ref (mm_lo G + o) :: rest)) := mm_get C hM ho (mm_e5 hT) rfl inX6 (k := 0) (by decide) rfl (mm_in 264 (by decide +kernel) (by decide +kernel)) rfl hdg (by rw [mm_q_some hr]; exact kk)
theorem gX6_100 (C : mm_C G p s m args meth c RX6 cc nL ret) (hM : mm_P G R N M H) (ho : o < N) (hT : kT o = (0, 0)) (hdg : decode cc pc = .ok (.getfield 100, 3)) (kk : W p l e Rm s m args below meth c H locs cells slots Q (F0 m (pc + 3) ls (.int (M.1 o 0) :: rest))) : W p l e Rm s m args below meth c H locs cells slots Q (F0 m pc ls (.ref (mm_lo G + o) :: rest)) := mm_get C hM ho (mm_e0 hT) rfl inX0 (k := 0) (by decide) rfl (mm_in 71 (by decide +kernel) (by decide +kernel)) rfl hdg kk
theorem gX6_106 (C : mm_C G p s m args meth c RX6 cc nL ret) (hM : mm_P G R N M H) (ho : o < N) (hT : kT o = (0, 0)) (hdg : decode cc pc = .ok (.getfield 106, 3)) (kk : W p l e Rm s m args below meth c H locs cells slots Q (F0 m (pc + 3) ls (.int (M.1 o 1) :: rest))) : W p l e Rm s m args below meth c H locs cells slots Q (F0 m pc ls (.ref (mm_lo G + o) :: rest)) := mm_get C hM ho (mm_e0 hT) rfl inX0 (k := 1) (by decide) rfl (mm_in 75 (by decide +kernel) (by decide +kernel)) rfl hdg kk
theorem gX6_109 (C : mm_C G p s m args meth c RX6 cc nL ret) (hM : mm_P G R N M H) (ho : o < N) (hT : kT o = (0, 0)) (hdg : decode cc pc = .ok (.getfield 109, 3)) (kk : W p l e Rm s m args below meth c H locs cells slots Q (F0 m (pc + 3) ls (.int (M.1 o 2) :: rest))) : W p l e Rm s m args below meth c H locs cells slots Q (F0 m pc ls (.ref (mm_lo G + o) :: rest)) := mm_get C hM ho (mm_e0 hT) rfl inX0 (k := 2) (by decide) rfl (mm_in 79 (by decide +kernel) (by decide +kernel)) rfl hdg kk
theorem gX6_115 (C : mm_C G p s m args meth c RX6 cc nL ret) (hM : mm_P G R N M H) (ho : o < N) (hT : kT o = (0, 0)) (hdg : decode cc pc = .ok (.getfield 115, 3)) (kk : W p l e Rm s m args below meth c H locs cells slots Q (F0 m (pc + 3) ls (.int (M.1 o 3) :: rest))) : W p l e Rm s m args below meth c H locs cells slots Q (F0 m pc ls (.ref (mm_lo G + o) :: rest)) := mm_get C hM ho (mm_e0 hT) rfl inX0 (k := 3) (by decide) rfl (mm_in 82 (by decide +kernel) (by decide +kernel)) rfl hdg kk
theorem gX6_118 (C : mm_C G p s m args meth c RX6 cc nL ret) (hM : mm_P G R N M H) (ho : o < N) (hT : kT o = (0, 0)) (hdg : decode cc pc = .ok (.getfield 118, 3)) (kk : W p l e Rm s m args below meth c H locs cells slots Q (F0 m (pc + 3) ls (.int (M.1 o 4) :: rest))) : W p l e Rm s m args below meth c H locs cells slots Q (F0 m pc ls (.ref (mm_lo G + o) :: rest)) := mm_get C hM ho (mm_e0 hT) rfl inX0 (k := 4) (by decide) rfl (mm_in 85 (by decide +kernel) (by decide +kernel)) rfl hdg kk
theorem gX6_121 (C : mm_C G p s m args meth c RX6 cc nL ret) (hM : mm_P G R N M H) (ho : o < N) (hT : kT o = (0, 0)) (hdg : decode cc pc = .ok (.getfield 121, 3)) (kk : W p l e Rm s m args below meth c H locs cells slots Q (F0 m (pc + 3) ls (.int (M.1 o 5) :: rest))) : W p l e Rm s m args below meth c H locs cells slots Q (F0 m pc ls (.ref (mm_lo G + o) :: rest)) := mm_get C hM ho (mm_e0 hT) rfl inX0 (k := 5) (by decide) rfl (mm_in 89 (by decide +kernel) (by decide +kernel)) rfl hdg kk
theorem gX6_125 (C : mm_C G p s m args meth c RX6 cc nL ret) (hM : mm_P G R N M H) (ho : o < N) (hT : kT o = (4, 0)) (hdg : decode cc pc = .ok (.getfield 125, 3)) (kk : W p l e Rm s m args below meth c H locs cells slots Q (F0 m (pc + 3) ls (.int (M.1 o 0) :: rest))) : W p l e Rm s m args below meth c H locs cells slots Q (F0 m pc ls (.ref (mm_lo G + o) :: rest)) := mm_get C hM ho (mm_e4 hT) rfl inX5 (k := 0) (by decide) rfl (mm_in 163 (by decide +kernel) (by decide +kernel)) rfl hdg kk
theorem gX6_128 (C : mm_C G p s m args meth c RX6 cc nL ret) (hM : mm_P G R N M H) (ho : o < N) (hT : kT o = (4, 0)) {b : Nat} (hr : R o 7 = some b) (hdg : decode cc pc = .ok (.getfield 128, 3)) (kk : W p l e Rm s m args below meth c H locs cells slots Q (F0 m (pc + 3) ls (.ref (mm_lo G + b) :: rest))) : W p l e Rm s m args below meth c H locs cells slots Q (F0 m pc ls (.ref (mm_lo G + o) :: rest)) := mm_get C hM ho (mm_e4 hT) rfl inX5 (k := 7) (by decide) rfl (mm_in 182 (by decide +kernel) (by decide +kernel)) rfl hdg (by rw [mm_q_some hr]; exact kk)
theorem gX6_136 (C : mm_C G p s m args meth c RX6 cc nL ret) (hM : mm_P G R N M H) (ho : o < N) (hT : kT o = (0, 0)) (hdg : decode cc pc = .ok (.getfield 136, 3)) (kk : W p l e Rm s m args below meth c H locs cells slots Q (F0 m (pc + 3) ls (.int (M.1 o 6) :: rest))) : W p l e Rm s m args below meth c H locs cells slots Q (F0 m pc ls (.ref (mm_lo G + o) :: rest)) := mm_get C hM ho (mm_e0 hT) rfl inX0 (k := 6) (by decide) rfl (mm_in 92 (by decide +kernel) (by decide +kernel)) rfl hdg kk
theorem gX6_139 (C : mm_C G p s m args meth c RX6 cc nL ret) (hM : mm_P G R N M H) (ho : o < N) (hT : kT o = (0, 0)) (hdg : decode cc pc = .ok (.getfield 139, 3)) (kk : W p l e Rm s m args below meth c H locs cells slots Q (F0 m (pc + 3) ls (.int (M.1 o 7) :: rest))) : W p l e Rm s m args below meth c H locs cells slots Q (F0 m pc ls (.ref (mm_lo G + o) :: rest)) := mm_get C hM ho (mm_e0 hT) rfl inX0 (k := 7) (by decide) rfl (mm_in 95 (by decide +kernel) (by decide +kernel)) rfl hdg kk
theorem gX6_142 (C : mm_C G p s m args meth c RX6 cc nL ret) (hM : mm_P G R N M H) (ho : o < N) (hT : kT o = (0, 0)) (hdg : decode cc pc = .ok (.getfield 142, 3)) (kk : W p l e Rm s m args below meth c H locs cells slots Q (F0 m (pc + 3) ls (.int (M.1 o 8) :: rest))) : W p l e Rm s m args below meth c H locs cells slots Q (F0 m pc ls (.ref (mm_lo G + o) :: rest)) := mm_get C hM ho (mm_e0 hT) rfl inX0 (k := 8) (by decide) rfl (mm_in 98 (by decide +kernel) (by decide +kernel)) rfl hdg kk
theorem gX6_145 (C : mm_C G p s m args meth c RX6 cc nL ret) (hM : mm_P G R N M H) (ho : o < N) (hT : kT o = (0, 0)) (hdg : decode cc pc = .ok (.getfield 145, 3)) (kk : W p l e Rm s m args below meth c H locs cells slots Q (F0 m (pc + 3) ls (.int (M.1 o 9) :: rest))) : W p l e Rm s m args below meth c H locs cells slots Q (F0 m pc ls (.ref (mm_lo G + o) :: rest)) := mm_get C hM ho (mm_e0 hT) rfl inX0 (k := 9) (by decide) rfl (mm_in 102 (by decide +kernel) (by decide +kernel)) rfl hdg kk
theorem gX6_148 (C : mm_C G p s m args meth c RX6 cc nL ret) (hM : mm_P G R N M H) (ho : o < N) (hT : kT o = (0, 0)) (hdg : decode cc pc = .ok (.getfield 148, 3)) (kk : W p l e Rm s m args below meth c H locs cells slots Q (F0 m (pc + 3) ls (.int (M.1 o 10) :: rest))) : W p l e Rm s m args below meth c H locs cells slots Q (F0 m pc ls (.ref (mm_lo G + o) :: rest)) := mm_get C hM ho (mm_e0 hT) rfl inX0 (k := 10) (by decide) rfl (mm_in 105 (by decide +kernel) (by decide +kernel)) rfl hdg kk
theorem gX6_151 (C : mm_C G p s m args meth c RX6 cc nL ret) (hM : mm_P G R N M H) (ho : o < N) (hT : kT o = (0, 0)) (hdg : decode cc pc = .ok (.getfield 151, 3)) (kk : W p l e Rm s m args below meth c H locs cells slots Q (F0 m (pc + 3) ls (.int (M.1 o 11) :: rest))) : W p l e Rm s m args below meth c H locs cells slots Q (F0 m pc ls (.ref (mm_lo G + o) :: rest)) := mm_get C hM ho (mm_e0 hT) rfl inX0 (k := 11) (by decide) rfl (mm_in 108 (by decide +kernel) (by decide +kernel)) rfl hdg kk
theorem gX6_16 (C : mm_C G p s m args meth c RX6 cc nL ret) (hM : mm_P G R N M H) (ho : o < N) (hT : kT o = (5, 0)) {b : Nat} (hr : R o 1 = some b) (hdg : decode cc pc = .ok (.getfield 16, 3)) (kk : W p l e Rm s m args below meth c H locs cells slots Q (F0 m (pc + 3) ls (.ref (mm_lo G + b) :: rest))) : W p l e Rm s m args below meth c H locs cells slots Q (F0 m pc ls (.ref (mm_lo G + o) :: rest)) := mm_get C hM ho (mm_e5 hT) rfl inX6 (k := 1) (by decide) rfl (mm_in 265 (by decide +kernel) (by decide +kernel)) rfl hdg (by rw [mm_q_some hr]; exact kk)
theorem gX6_160 (C : mm_C G p s m args meth c RX6 cc nL ret) (hM : mm_P G R N M H) (ho : o < N) (hT : kT o = (0, 0)) (hdg : decode cc pc = .ok (.getfield 160, 3)) (kk : W p l e Rm s m args below meth c H locs cells slots Q (F0 m (pc + 3) ls (.long (M.2 o 12) :: rest))) : W p l e Rm s m args below meth c H locs cells slots Q (F0 m pc ls (.ref (mm_lo G + o) :: rest)) := mm_get C hM ho (mm_e0 hT) rfl inX0 (k := 12) (by decide) rfl (mm_in 111 (by decide +kernel) (by decide +kernel)) rfl hdg kk
theorem gX6_164 (C : mm_C G p s m args meth c RX6 cc nL ret) (hM : mm_P G R N M H) (ho : o < N) (hT : kT o = (0, 0)) (hdg : decode cc pc = .ok (.getfield 164, 3)) (kk : W p l e Rm s m args below meth c H locs cells slots Q (F0 m (pc + 3) ls (.long (M.2 o 13) :: rest))) : W p l e Rm s m args below meth c H locs cells slots Q (F0 m pc ls (.ref (mm_lo G + o) :: rest)) := mm_get C hM ho (mm_e0 hT) rfl inX0 (k := 13) (by decide) rfl (mm_in 114 (by decide +kernel) (by decide +kernel)) rfl hdg kk
theorem gX6_167 (C : mm_C G p s m args meth c RX6 cc nL ret) (hM : mm_P G R N M H) (ho : o < N) (hT : kT o = (0, 0)) (hdg : decode cc pc = .ok (.getfield 167, 3)) (kk : W p l e Rm s m args below meth c H locs cells slots Q (F0 m (pc + 3) ls (.long (M.2 o 14) :: rest))) : W p l e Rm s m args below meth c H locs cells slots Q (F0 m pc ls (.ref (mm_lo G + o) :: rest)) := mm_get C hM ho (mm_e0 hT) rfl inX0 (k := 14) (by decide) rfl (mm_in 117 (by decide +kernel) (by decide +kernel)) rfl hdg kk
theorem gX6_170 (C : mm_C G p s m args meth c RX6 cc nL ret) (hM : mm_P G R N M H) (ho : o < N) (hT : kT o = (0, 0)) (hdg : decode cc pc = .ok (.getfield 170, 3)) (kk : W p l e Rm s m args below meth c H locs cells slots Q (F0 m (pc + 3) ls (.long (M.2 o 15) :: rest))) : W p l e Rm s m args below meth c H locs cells slots Q (F0 m pc ls (.ref (mm_lo G + o) :: rest)) := mm_get C hM ho (mm_e0 hT) rfl inX0 (k := 15) (by decide) rfl (mm_in 120 (by decide +kernel) (by decide +kernel)) rfl hdg kk
theorem gX6_178 (C : mm_C G p s m args meth c RX6 cc nL ret) (hM : mm_P G R N M H) (ho : o < N) (hT : kT o = (4, 0)) {b : Nat} (hr : R o 8 = some b) (hdg : decode cc pc = .ok (.getfield 178, 3)) (kk : W p l e Rm s m args below meth c H locs cells slots Q (F0 m (pc + 3) ls (.ref (mm_lo G + b) :: rest))) : W p l e Rm s m args below meth c H locs cells slots Q (F0 m pc ls (.ref (mm_lo G + o) :: rest)) := mm_get C hM ho (mm_e4 hT) rfl inX5 (k := 8) (by decide) rfl (mm_in 185 (by decide +kernel) (by decide +kernel)) rfl hdg (by rw [mm_q_some hr]; exact kk)
theorem gX6_182 (C : mm_C G p s m args meth c RX6 cc nL ret) (hM : mm_P G R N M H) (ho : o < N) (hT : kT o = (3, 0)) (hdg : decode cc pc = .ok (.getfield 182, 3)) (kk : W p l e Rm s m args below meth c H locs cells slots Q (F0 m (pc + 3) ls (.int (M.1 o 0) :: rest))) : W p l e Rm s m args below meth c H locs cells slots Q (F0 m pc ls (.ref (mm_lo G + o) :: rest)) := mm_get C hM ho (mm_e3 hT) rfl inX4 (k := 0) (by decide) rfl (mm_in 44 (by decide +kernel) (by decide +kernel)) rfl hdg kk
theorem gX6_187 (C : mm_C G p s m args meth c RX6 cc nL ret) (hM : mm_P G R N M H) (ho : o < N) (hT : kT o = (3, 0)) (hdg : decode cc pc = .ok (.getfield 187, 3)) (kk : W p l e Rm s m args below meth c H locs cells slots Q (F0 m (pc + 3) ls (.int (M.1 o 1) :: rest))) : W p l e Rm s m args below meth c H locs cells slots Q (F0 m pc ls (.ref (mm_lo G + o) :: rest)) := mm_get C hM ho (mm_e3 hT) rfl inX4 (k := 1) (by decide) rfl (mm_in 47 (by decide +kernel) (by decide +kernel)) rfl hdg kk
theorem gX6_190 (C : mm_C G p s m args meth c RX6 cc nL ret) (hM : mm_P G R N M H) (ho : o < N) (hT : kT o = (3, 0)) (hdg : decode cc pc = .ok (.getfield 190, 3)) (kk : W p l e Rm s m args below meth c H locs cells slots Q (F0 m (pc + 3) ls (.int (M.1 o 2) :: rest))) : W p l e Rm s m args below meth c H locs cells slots Q (F0 m pc ls (.ref (mm_lo G + o) :: rest)) := mm_get C hM ho (mm_e3 hT) rfl inX4 (k := 2) (by decide) rfl (mm_in 50 (by decide +kernel) (by decide +kernel)) rfl hdg kk
theorem gX6_193 (C : mm_C G p s m args meth c RX6 cc nL ret) (hM : mm_P G R N M H) (ho : o < N) (hT : kT o = (3, 0)) (hdg : decode cc pc = .ok (.getfield 193, 3)) (kk : W p l e Rm s m args below meth c H locs cells slots Q (F0 m (pc + 3) ls (.int (M.1 o 3) :: rest))) : W p l e Rm s m args below meth c H locs cells slots Q (F0 m pc ls (.ref (mm_lo G + o) :: rest)) := mm_get C hM ho (mm_e3 hT) rfl inX4 (k := 3) (by decide) rfl (mm_in 53 (by decide +kernel) (by decide +kernel)) rfl hdg kk
theorem gX6_196 (C : mm_C G p s m args meth c RX6 cc nL ret) (hM : mm_P G R N M H) (ho : o < N) (hT : kT o = (4, 0)) (hdg : decode cc pc = .ok (.getfield 196, 3)) (kk : W p l e Rm s m args below meth c H locs cells slots Q (F0 m (pc + 3) ls (.int (M.1 o 3) :: rest))) : W p l e Rm s m args below meth c H locs cells slots Q (F0 m pc ls (.ref (mm_lo G + o) :: rest)) := mm_get C hM ho (mm_e4 hT) rfl inX5 (k := 3) (by decide) rfl (mm_in 172 (by decide +kernel) (by decide +kernel)) rfl hdg kk
theorem gX6_199 (C : mm_C G p s m args meth c RX6 cc nL ret) (hM : mm_P G R N M H) (ho : o < N) (hT : kT o = (4, 0)) (hdg : decode cc pc = .ok (.getfield 199, 3)) (kk : W p l e Rm s m args below meth c H locs cells slots Q (F0 m (pc + 3) ls (.int (M.1 o 2) :: rest))) : W p l e Rm s m args below meth c H locs cells slots Q (F0 m pc ls (.ref (mm_lo G + o) :: rest)) := mm_get C hM ho (mm_e4 hT) rfl inX5 (k := 2) (by decide) rfl (mm_in 169 (by decide +kernel) (by decide +kernel)) rfl hdg kk
theorem gX6_202 (C : mm_C G p s m args meth c RX6 cc nL ret) (hM : mm_P G R N M H) (ho : o < N) (hT : kT o = (4, 0)) (hdg : decode cc pc = .ok (.getfield 202, 3)) (kk : W p l e Rm s m args below meth c H locs cells slots Q (F0 m (pc + 3) ls (.int (M.1 o 1) :: rest))) : W p l e Rm s m args below meth c H locs cells slots Q (F0 m pc ls (.ref (mm_lo G + o) :: rest)) := mm_get C hM ho (mm_e4 hT) rfl inX5 (k := 1) (by decide) rfl (mm_in 166 (by decide +kernel) (by decide +kernel)) rfl hdg kk
theorem gX6_209 (C : mm_C G p s m args meth c RX6 cc nL ret) (hM : mm_P G R N M H) (ho : o < N) (hT : kT o = (4, 0)) (hdg : decode cc pc = .ok (.getfield 209, 3)) (kk : W p l e Rm s m args below meth c H locs cells slots Q (F0 m (pc + 3) ls (.int (M.1 o 4) :: rest))) : W p l e Rm s m args below meth c H locs cells slots Q (F0 m pc ls (.ref (mm_lo G + o) :: rest)) := mm_get C hM ho (mm_e4 hT) rfl inX5 (k := 4) (by decide) rfl (mm_in 175 (by decide +kernel) (by decide +kernel)) rfl hdg kk
theorem gX6_212 (C : mm_C G p s m args meth c RX6 cc nL ret) (hM : mm_P G R N M H) (ho : o < N) (hT : kT o = (2, 0)) (hdg : decode cc pc = .ok (.getfield 212, 3)) (kk : W p l e Rm s m args below meth c H locs cells slots Q (F0 m (pc + 3) ls (.int (M.1 o 1) :: rest))) : W p l e Rm s m args below meth c H locs cells slots Q (F0 m pc ls (.ref (mm_lo G + o) :: rest)) := mm_get C hM ho (mm_e2 hT) rfl inX3 (k := 1) (by decide) rfl (mm_in 257 (by decide +kernel) (by decide +kernel)) rfl hdg kk
theorem gX6_215 (C : mm_C G p s m args meth c RX6 cc nL ret) (hM : mm_P G R N M H) (ho : o < N) (hT : kT o = (1, 0)) (hdg : decode cc pc = .ok (.getfield 215, 3)) (kk : W p l e Rm s m args below meth c H locs cells slots Q (F0 m (pc + 3) ls (.int (M.1 o 2) :: rest))) : W p l e Rm s m args below meth c H locs cells slots Q (F0 m pc ls (.ref (mm_lo G + o) :: rest)) := mm_get C hM ho (mm_e1 hT) rfl inX2 (k := 2) (by decide) rfl (mm_in 241 (by decide +kernel) (by decide +kernel)) rfl hdg kk
theorem gX6_22 (C : mm_C G p s m args meth c RX6 cc nL ret) (hM : mm_P G R N M H) (ho : o < N) (hT : kT o = (5, 0)) {b : Nat} (hr : R o 2 = some b) (hdg : decode cc pc = .ok (.getfield 22, 3)) (kk : W p l e Rm s m args below meth c H locs cells slots Q (F0 m (pc + 3) ls (.ref (mm_lo G + b) :: rest))) : W p l e Rm s m args below meth c H locs cells slots Q (F0 m pc ls (.ref (mm_lo G + o) :: rest)) := mm_get C hM ho (mm_e5 hT) rfl inX6 (k := 2) (by decide) rfl (mm_in 266 (by decide +kernel) (by decide +kernel)) rfl hdg (by rw [mm_q_some hr]; exact kk)
theorem gX6_221 (C : mm_C G p s m args meth c RX6 cc nL ret) (hM : mm_P G R N M H) (ho : o < N) (hT : kT o = (4, 0)) (hdg : decode cc pc = .ok (.getfield 221, 3)) (kk : W p l e Rm s m args below meth c H locs cells slots Q (F0 m (pc + 3) ls (.int (M.1 o 5) :: rest))) : W p l e Rm s m args below meth c H locs cells slots Q (F0 m pc ls (.ref (mm_lo G + o) :: rest)) := mm_get C hM ho (mm_e4 hT) rfl inX5 (k := 5) (by decide) rfl (mm_in 178 (by decide +kernel) (by decide +kernel)) rfl hdg kk
theorem gX6_258 (C : mm_C G p s m args meth c RX6 cc nL ret) (hM : mm_P G R N M H) (ho : o < N) (hT : kT o = (4, 0)) (hdg : decode cc pc = .ok (.getfield 258, 3)) (kk : W p l e Rm s m args below meth c H locs cells slots Q (F0 m (pc + 3) ls (.int (M.1 o 6) :: rest))) : W p l e Rm s m args below meth c H locs cells slots Q (F0 m pc ls (.ref (mm_lo G + o) :: rest)) := mm_get C hM ho (mm_e4 hT) rfl inX5 (k := 6) (by decide) rfl (mm_in 179 (by decide +kernel) (by decide +kernel)) rfl hdg kk
theorem gX6_26 (C : mm_C G p s m args meth c RX6 cc nL ret) (hM : mm_P G R N M H) (ho : o < N) (hT : kT o = (5, 0)) {b : Nat} (hr : R o 3 = some b) (hdg : decode cc pc = .ok (.getfield 26, 3)) (kk : W p l e Rm s m args below meth c H locs cells slots Q (F0 m (pc + 3) ls (.ref (mm_lo G + b) :: rest))) : W p l e Rm s m args below meth c H locs cells slots Q (F0 m pc ls (.ref (mm_lo G + o) :: rest)) := mm_get C hM ho (mm_e5 hT) rfl inX6 (k := 3) (by decide) rfl (mm_in 267 (by decide +kernel) (by decide +kernel)) rfl hdg (by rw [mm_q_some hr]; exact kk)
theorem gX6_29 (C : mm_C G p s m args meth c RX6 cc nL ret) (hM : mm_P G R N M H) (ho : o < N) (hT : kT o = (5, 0)) {b : Nat} (hr : R o 4 = some b) (hdg : decode cc pc = .ok (.getfield 29, 3)) (kk : W p l e Rm s m args below meth c H locs cells slots Q (F0 m (pc + 3) ls (.ref (mm_lo G + b) :: rest))) : W p l e Rm s m args below meth c H locs cells slots Q (F0 m pc ls (.ref (mm_lo G + o) :: rest)) := mm_get C hM ho (mm_e5 hT) rfl inX6 (k := 4) (by decide) rfl (mm_in 268 (by decide +kernel) (by decide +kernel)) rfl hdg (by rw [mm_q_some hr]; exact kk)
theorem gX6_35 (C : mm_C G p s m args meth c RX6 cc nL ret) (hM : mm_P G R N M H) (ho : o < N) (hT : kT o = (5, 0)) {b : Nat} (hr : R o 5 = some b) (hdg : decode cc pc = .ok (.getfield 35, 3)) (kk : W p l e Rm s m args below meth c H locs cells slots Q (F0 m (pc + 3) ls (.ref (mm_lo G + b) :: rest))) : W p l e Rm s m args below meth c H locs cells slots Q (F0 m pc ls (.ref (mm_lo G + o) :: rest)) := mm_get C hM ho (mm_e5 hT) rfl inX6 (k := 5) (by decide) rfl (mm_in 269 (by decide +kernel) (by decide +kernel)) rfl hdg (by rw [mm_q_some hr]; exact kk)
theorem gX6_89 (C : mm_C G p s m args meth c RX6 cc nL ret) (hM : mm_P G R N M H) (ho : o < N) (hT : kT o = (4, 0)) {b : Nat} (hr : R o 9 = some b) (hdg : decode cc pc = .ok (.getfield 89, 3)) (kk : W p l e Rm s m args below meth c H locs cells slots Q (F0 m (pc + 3) ls (.ref (mm_lo G + b) :: rest))) : W p l e Rm s m args below meth c H locs cells slots Q (F0 m pc ls (.ref (mm_lo G + o) :: rest)) := mm_get C hM ho (mm_e4 hT) rfl inX5 (k := 9) (by decide) rfl (mm_in 188 (by decide +kernel) (by decide +kernel)) rfl hdg (by rw [mm_q_some hr]; exact kk)
theorem kL_117 : Cond.constantLong RL 117 59 ∈ mm_good := mm_in 633 (by decide +kernel) (by decide +kernel)
theorem kL_119 : Cond.constantLong RL 119 119 ∈ mm_good := mm_in 648 (by decide +kernel) (by decide +kernel)
theorem kL_121 : Cond.constantLong RL 121 102 ∈ mm_good := mm_in 649 (by decide +kernel) (by decide +kernel)
theorem kL_123 : Cond.constantLong RL 123 99 ∈ mm_good := mm_in 650 (by decide +kernel) (by decide +kernel)
theorem kL_125 : Cond.constantLong RL 125 115 ∈ mm_good := mm_in 651 (by decide +kernel) (by decide +kernel)
theorem kL_127 : Cond.constantLong RL 127 100 ∈ mm_good := mm_in 652 (by decide +kernel) (by decide +kernel)
theorem kL_174 : Cond.constantLong RL 174 1000003 ∈ mm_good := mm_in 659 (by decide +kernel) (by decide +kernel)
theorem kL_176 : Cond.constant RL 176 1000001 ∈ mm_good := mm_in 728 (by decide +kernel) (by decide +kernel)
theorem kL_177 : Cond.constantLong RL 177 (-1) ∈ mm_good := mm_in 729 (by decide +kernel) (by decide +kernel)
theorem kL_22 : Cond.constant RL 22 65537 ∈ mm_good := mm_in 506 (by decide +kernel) (by decide +kernel)
theorem kL_7 : Cond.constant RL 7 73244475 ∈ mm_good := mm_in 355 (by decide +kernel) (by decide +kernel)
theorem kL_8 : Cond.constant RL 8 2147483647 ∈ mm_good := mm_in 359 (by decide +kernel) (by decide +kernel)
theorem kL_86 : Cond.constant RL 86 1000000 ∈ mm_good := mm_in 482 (by decide +kernel) (by decide +kernel)
theorem kX1_66 : Cond.constant RX1 66 65537 ∈ mm_good := mm_in 538 (by decide +kernel) (by decide +kernel)
theorem kX5_139 : Cond.constant RX5 139 1000000 ∈ mm_good := mm_in 491 (by decide +kernel) (by decide +kernel)
theorem kX5_82 : Cond.constant RX5 82 65537 ∈ mm_good := mm_in 311 (by decide +kernel) (by decide +kernel)
theorem kX6_154 : Cond.constantLong RX6 154 (-1) ∈ mm_good := mm_in 441 (by decide +kernel) (by decide +kernel)
theorem kX6_173 : Cond.constantLong RX6 173 (-2) ∈ mm_good := mm_in 446 (by decide +kernel) (by decide +kernel)
theorem mX1_98 : Cond.methodLink RX1 98 Lib.Math.min.name ∈ mm_good := mm_in 535 (by decide +kernel) (by decide +kernel)
theorem pX0_15 {v : Nat} (C : mm_C G p s m args meth c RX0 cc nL ret) (hM : mm_P G R N M H) (hS : va_S (mm_A G) s.heap H locs) (ho : o < N) (hT : kT o = (0, 0)) (hin : meth.name = "<init>") (hdg : decode cc pc = .ok (.putfield 15, 3)) (kk : ∀ (H1 : Heap) (locs1 : List Loc), mm_P G (sR R o 17 (some v)) N M H1 → va_S (mm_A G) s.heap H1 locs1 → H1.size = H.size → W p l e Rm s m args below meth c H1 locs1 cells slots Q (F0 m (pc + 3) ls rest)) : W p l e Rm s m args below meth c H locs cells slots Q (F0 m pc ls (.ref (mm_lo G + v) :: .ref (mm_lo G + o) :: rest)) := mm_put0 C hM hS ho (mm_e0 hT) rfl inX0 tyX0 tyX0_ok nmX0 (k := 17) (by decide) rfl (mm_in 123 (by decide +kernel) (by decide +kernel)) (Or.inr ⟨rfl, hin, rfl⟩) rfl rfl (Nat.le_of_ble_eq_true rfl) hdg (fun H1 locs1 ha oq hz hS1 => kk H1 locs1 (mm_upd hM oq (by rw [show mm_en G (sR R o 17 (some v)) M o = .inr (0, [.int (M.1 o 0), .int (M.1 o 1), .int (M.1 o 2), .int (M.1 o 3), .int (M.1 o 4), .int (M.1 o 5), .int (M.1 o 6), .int (M.1 o 7), .int (M.1 o 8), .int (M.1 o 9), .int (M.1 o 10), .int (M.1 o 11), .long (M.2 o 12), .long (M.2 o 13), .long (M.2 o 14), .long (M.2 o 15), mm_q G (R o 16), mm_q G (R o 17)].set 17 (.ref (mm_lo G + v))) by rw [mm_e0 hT]; simp [sR, mm_q] <;> rfl]; exact ha) mm_en_R) hS1 hz)
theorem pX0_18 {v : Int32} (C : mm_C G p s m args meth c RX0 cc nL ret) (hM : mm_P G R N M H) (hS : va_S (mm_A G) s.heap H locs) (ho : o < N) (hT : kT o = (0, 0)) (hdg : decode cc pc = .ok (.putfield 18, 3)) (kk : ∀ (H1 : Heap) (locs1 : List Loc), mm_P G R N (sI M o 0 v) H1 → va_S (mm_A G) s.heap H1 locs1 → H1.size = H.size → W p l e Rm s m args below meth c H1 locs1 cells slots Q (F0 m (pc + 3) ls rest)) : W p l e Rm s m args below meth c H locs cells slots Q (F0 m pc ls (.int v :: .ref (mm_lo G + o) :: rest)) := mm_put0 C hM hS ho (mm_e0 hT) rfl inX0 tyX0 tyX0_ok nmX0 (k := 0) (by decide) rfl (mm_in 70 (by decide +kernel) (by decide +kernel)) (Or.inl rfl) rfl rfl (Nat.le_of_ble_eq_true rfl) hdg (fun H1 locs1 ha oq hz hS1 => kk H1 locs1 (mm_upd hM oq (by rw [show mm_en G R (sI M o 0 v) o = .inr (0, [.int (M.1 o 0), .int (M.1 o 1), .int (M.1 o 2), .int (M.1 o 3), .int (M.1 o 4), .int (M.1 o 5), .int (M.1 o 6), .int (M.1 o 7), .int (M.1 o 8), .int (M.1 o 9), .int (M.1 o 10), .int (M.1 o 11), .long (M.2 o 12), .long (M.2 o 13), .long (M.2 o 14), .long (M.2 o 15), mm_q G (R o 16), mm_q G (R o 17)].set 0 (.int v)) by rw [mm_e0 hT]; simp [sI, mm_q] <;> rfl]; exact ha) mm_en_I) hS1 hz)
theorem pX0_22 {v : Int32} (C : mm_C G p s m args meth c RX0 cc nL ret) (hM : mm_P G R N M H) (hS : va_S (mm_A G) s.heap H locs) (ho : o < N) (hT : kT o = (0, 0)) (hdg : decode cc pc = .ok (.putfield 22, 3)) (kk : ∀ (H1 : Heap) (locs1 : List Loc), mm_P G R N (sI M o 1 v) H1 → va_S (mm_A G) s.heap H1 locs1 → H1.size = H.size → W p l e Rm s m args below meth c H1 locs1 cells slots Q (F0 m (pc + 3) ls rest)) : W p l e Rm s m args below meth c H locs cells slots Q (F0 m pc ls (.int v :: .ref (mm_lo G + o) :: rest)) := mm_put0 C hM hS ho (mm_e0 hT) rfl inX0 tyX0 tyX0_ok nmX0 (k := 1) (by decide) rfl (mm_in 73 (by decide +kernel) (by decide +kernel)) (Or.inl rfl) rfl rfl (Nat.le_of_ble_eq_true rfl) hdg (fun H1 locs1 ha oq hz hS1 => kk H1 locs1 (mm_upd hM oq (by rw [show mm_en G R (sI M o 1 v) o = .inr (0, [.int (M.1 o 0), .int (M.1 o 1), .int (M.1 o 2), .int (M.1 o 3), .int (M.1 o 4), .int (M.1 o 5), .int (M.1 o 6), .int (M.1 o 7), .int (M.1 o 8), .int (M.1 o 9), .int (M.1 o 10), .int (M.1 o 11), .long (M.2 o 12), .long (M.2 o 13), .long (M.2 o 14), .long (M.2 o 15), mm_q G (R o 16), mm_q G (R o 17)].set 1 (.int v)) by rw [mm_e0 hT]; simp [sI, mm_q] <;> rfl]; exact ha) mm_en_I) hS1 hz)
theorem pX0_25 {v : Int32} (C : mm_C G p s m args meth c RX0 cc nL ret) (hM : mm_P G R N M H) (hS : va_S (mm_A G) s.heap H locs) (ho : o < N) (hT : kT o = (0, 0)) (hdg : decode cc pc = .ok (.putfield 25, 3)) (kk : ∀ (H1 : Heap) (locs1 : List Loc), mm_P G R N (sI M o 4 v) H1 → va_S (mm_A G) s.heap H1 locs1 → H1.size = H.size → W p l e Rm s m args below meth c H1 locs1 cells slots Q (F0 m (pc + 3) ls rest)) : W p l e Rm s m args below meth c H locs cells slots Q (F0 m pc ls (.int v :: .ref (mm_lo G + o) :: rest)) := mm_put0 C hM hS ho (mm_e0 hT) rfl inX0 tyX0 tyX0_ok nmX0 (k := 4) (by decide) rfl (mm_in 83 (by decide +kernel) (by decide +kernel)) (Or.inl rfl) rfl rfl (Nat.le_of_ble_eq_true rfl) hdg (fun H1 locs1 ha oq hz hS1 => kk H1 locs1 (mm_upd hM oq (by rw [show mm_en G R (sI M o 4 v) o = .inr (0, [.int (M.1 o 0), .int (M.1 o 1), .int (M.1 o 2), .int (M.1 o 3), .int (M.1 o 4), .int (M.1 o 5), .int (M.1 o 6), .int (M.1 o 7), .int (M.1 o 8), .int (M.1 o 9), .int (M.1 o 10), .int (M.1 o 11), .long (M.2 o 12), .long (M.2 o 13), .long (M.2 o 14), .long (M.2 o 15), mm_q G (R o 16), mm_q G (R o 17)].set 4 (.int v)) by rw [mm_e0 hT]; simp [sI, mm_q] <;> rfl]; exact ha) mm_en_I) hS1 hz)
theorem pX0_28 {v : Int32} (C : mm_C G p s m args meth c RX0 cc nL ret) (hM : mm_P G R N M H) (hS : va_S (mm_A G) s.heap H locs) (ho : o < N) (hT : kT o = (0, 0)) (hdg : decode cc pc = .ok (.putfield 28, 3)) (kk : ∀ (H1 : Heap) (locs1 : List Loc), mm_P G R N (sI M o 2 v) H1 → va_S (mm_A G) s.heap H1 locs1 → H1.size = H.size → W p l e Rm s m args below meth c H1 locs1 cells slots Q (F0 m (pc + 3) ls rest)) : W p l e Rm s m args below meth c H locs cells slots Q (F0 m pc ls (.int v :: .ref (mm_lo G + o) :: rest)) := mm_put0 C hM hS ho (mm_e0 hT) rfl inX0 tyX0 tyX0_ok nmX0 (k := 2) (by decide) rfl (mm_in 76 (by decide +kernel) (by decide +kernel)) (Or.inl rfl) rfl rfl (Nat.le_of_ble_eq_true rfl) hdg (fun H1 locs1 ha oq hz hS1 => kk H1 locs1 (mm_upd hM oq (by rw [show mm_en G R (sI M o 2 v) o = .inr (0, [.int (M.1 o 0), .int (M.1 o 1), .int (M.1 o 2), .int (M.1 o 3), .int (M.1 o 4), .int (M.1 o 5), .int (M.1 o 6), .int (M.1 o 7), .int (M.1 o 8), .int (M.1 o 9), .int (M.1 o 10), .int (M.1 o 11), .long (M.2 o 12), .long (M.2 o 13), .long (M.2 o 14), .long (M.2 o 15), mm_q G (R o 16), mm_q G (R o 17)].set 2 (.int v)) by rw [mm_e0 hT]; simp [sI, mm_q] <;> rfl]; exact ha) mm_en_I) hS1 hz)
theorem pX0_31 {v : Int32} (C : mm_C G p s m args meth c RX0 cc nL ret) (hM : mm_P G R N M H) (hS : va_S (mm_A G) s.heap H locs) (ho : o < N) (hT : kT o = (0, 0)) (hdg : decode cc pc = .ok (.putfield 31, 3)) (kk : ∀ (H1 : Heap) (locs1 : List Loc), mm_P G R N (sI M o 3 v) H1 → va_S (mm_A G) s.heap H1 locs1 → H1.size = H.size → W p l e Rm s m args below meth c H1 locs1 cells slots Q (F0 m (pc + 3) ls rest)) : W p l e Rm s m args below meth c H locs cells slots Q (F0 m pc ls (.int v :: .ref (mm_lo G + o) :: rest)) := mm_put0 C hM hS ho (mm_e0 hT) rfl inX0 tyX0 tyX0_ok nmX0 (k := 3) (by decide) rfl (mm_in 80 (by decide +kernel) (by decide +kernel)) (Or.inl rfl) rfl rfl (Nat.le_of_ble_eq_true rfl) hdg (fun H1 locs1 ha oq hz hS1 => kk H1 locs1 (mm_upd hM oq (by rw [show mm_en G R (sI M o 3 v) o = .inr (0, [.int (M.1 o 0), .int (M.1 o 1), .int (M.1 o 2), .int (M.1 o 3), .int (M.1 o 4), .int (M.1 o 5), .int (M.1 o 6), .int (M.1 o 7), .int (M.1 o 8), .int (M.1 o 9), .int (M.1 o 10), .int (M.1 o 11), .long (M.2 o 12), .long (M.2 o 13), .long (M.2 o 14), .long (M.2 o 15), mm_q G (R o 16), mm_q G (R o 17)].set 3 (.int v)) by rw [mm_e0 hT]; simp [sI, mm_q] <;> rfl]; exact ha) mm_en_I) hS1 hz)
theorem pX0_34 {v : Int32} (C : mm_C G p s m args meth c RX0 cc nL ret) (hM : mm_P G R N M H) (hS : va_S (mm_A G) s.heap H locs) (ho : o < N) (hT : kT o = (0, 0)) (hn : v = 0 ∨ v = 1) (hdg : decode cc pc = .ok (.putfield 34, 3)) (kk : ∀ (H1 : Heap) (locs1 : List Loc), mm_P G R N (sI M o 5 v) H1 → va_S (mm_A G) s.heap H1 locs1 → H1.size = H.size → W p l e Rm s m args below meth c H1 locs1 cells slots Q (F0 m (pc + 3) ls rest)) : W p l e Rm s m args below meth c H locs cells slots Q (F0 m pc ls (.int v :: .ref (mm_lo G + o) :: rest)) := mm_put0 C hM hS ho (mm_e0 hT) rfl inX0 tyX0 tyX0_ok nmX0 (k := 5) (by decide) rfl (mm_in 86 (by decide +kernel) (by decide +kernel)) (Or.inl rfl) (nb01 hn) (fb01 hn) (Nat.le_of_ble_eq_true rfl) hdg (fun H1 locs1 ha oq hz hS1 => kk H1 locs1 (mm_upd hM oq (by rw [show mm_en G R (sI M o 5 v) o = .inr (0, [.int (M.1 o 0), .int (M.1 o 1), .int (M.1 o 2), .int (M.1 o 3), .int (M.1 o 4), .int (M.1 o 5), .int (M.1 o 6), .int (M.1 o 7), .int (M.1 o 8), .int (M.1 o 9), .int (M.1 o 10), .int (M.1 o 11), .long (M.2 o 12), .long (M.2 o 13), .long (M.2 o 14), .long (M.2 o 15), mm_q G (R o 16), mm_q G (R o 17)].set 5 (.int v)) by rw [mm_e0 hT]; simp [sI, mm_q] <;> rfl]; exact ha) mm_en_I) hS1 hz)
theorem pX0_38 {v : Int32} (C : mm_C G p s m args meth c RX0 cc nL ret) (hM : mm_P G R N M H) (hS : va_S (mm_A G) s.heap H locs) (ho : o < N) (hT : kT o = (0, 0)) (hdg : decode cc pc = .ok (.putfield 38, 3)) (kk : ∀ (H1 : Heap) (locs1 : List Loc), mm_P G R N (sI M o 6 v) H1 → va_S (mm_A G) s.heap H1 locs1 → H1.size = H.size → W p l e Rm s m args below meth c H1 locs1 cells slots Q (F0 m (pc + 3) ls rest)) : W p l e Rm s m args below meth c H locs cells slots Q (F0 m pc ls (.int v :: .ref (mm_lo G + o) :: rest)) := mm_put0 C hM hS ho (mm_e0 hT) rfl inX0 tyX0 tyX0_ok nmX0 (k := 6) (by decide) rfl (mm_in 90 (by decide +kernel) (by decide +kernel)) (Or.inl rfl) rfl rfl (Nat.le_of_ble_eq_true rfl) hdg (fun H1 locs1 ha oq hz hS1 => kk H1 locs1 (mm_upd hM oq (by rw [show mm_en G R (sI M o 6 v) o = .inr (0, [.int (M.1 o 0), .int (M.1 o 1), .int (M.1 o 2), .int (M.1 o 3), .int (M.1 o 4), .int (M.1 o 5), .int (M.1 o 6), .int (M.1 o 7), .int (M.1 o 8), .int (M.1 o 9), .int (M.1 o 10), .int (M.1 o 11), .long (M.2 o 12), .long (M.2 o 13), .long (M.2 o 14), .long (M.2 o 15), mm_q G (R o 16), mm_q G (R o 17)].set 6 (.int v)) by rw [mm_e0 hT]; simp [sI, mm_q] <;> rfl]; exact ha) mm_en_I) hS1 hz)
theorem pX0_41 {v : Int32} (C : mm_C G p s m args meth c RX0 cc nL ret) (hM : mm_P G R N M H) (hS : va_S (mm_A G) s.heap H locs) (ho : o < N) (hT : kT o = (0, 0)) (hdg : decode cc pc = .ok (.putfield 41, 3)) (kk : ∀ (H1 : Heap) (locs1 : List Loc), mm_P G R N (sI M o 7 v) H1 → va_S (mm_A G) s.heap H1 locs1 → H1.size = H.size → W p l e Rm s m args below meth c H1 locs1 cells slots Q (F0 m (pc + 3) ls rest)) : W p l e Rm s m args below meth c H locs cells slots Q (F0 m pc ls (.int v :: .ref (mm_lo G + o) :: rest)) := mm_put0 C hM hS ho (mm_e0 hT) rfl inX0 tyX0 tyX0_ok nmX0 (k := 7) (by decide) rfl (mm_in 93 (by decide +kernel) (by decide +kernel)) (Or.inl rfl) rfl rfl (Nat.le_of_ble_eq_true rfl) hdg (fun H1 locs1 ha oq hz hS1 => kk H1 locs1 (mm_upd hM oq (by rw [show mm_en G R (sI M o 7 v) o = .inr (0, [.int (M.1 o 0), .int (M.1 o 1), .int (M.1 o 2), .int (M.1 o 3), .int (M.1 o 4), .int (M.1 o 5), .int (M.1 o 6), .int (M.1 o 7), .int (M.1 o 8), .int (M.1 o 9), .int (M.1 o 10), .int (M.1 o 11), .long (M.2 o 12), .long (M.2 o 13), .long (M.2 o 14), .long (M.2 o 15), mm_q G (R o 16), mm_q G (R o 17)].set 7 (.int v)) by rw [mm_e0 hT]; simp [sI, mm_q] <;> rfl]; exact ha) mm_en_I) hS1 hz)
theorem pX0_44 {v : Int64} (C : mm_C G p s m args meth c RX0 cc nL ret) (hM : mm_P G R N M H) (hS : va_S (mm_A G) s.heap H locs) (ho : o < N) (hT : kT o = (0, 0)) (hdg : decode cc pc = .ok (.putfield 44, 3)) (kk : ∀ (H1 : Heap) (locs1 : List Loc), mm_P G R N (sL M o 12 v) H1 → va_S (mm_A G) s.heap H1 locs1 → H1.size = H.size → W p l e Rm s m args below meth c H1 locs1 cells slots Q (F0 m (pc + 3) ls rest)) : W p l e Rm s m args below meth c H locs cells slots Q (F0 m pc ls (.long v :: .ref (mm_lo G + o) :: rest)) := mm_put0 C hM hS ho (mm_e0 hT) rfl inX0 tyX0 tyX0_ok nmX0 (k := 12) (by decide) rfl (mm_in 109 (by decide +kernel) (by decide +kernel)) (Or.inl rfl) rfl rfl (Nat.le_of_ble_eq_true rfl) hdg (fun H1 locs1 ha oq hz hS1 => kk H1 locs1 (mm_upd hM oq (by rw [show mm_en G R (sL M o 12 v) o = .inr (0, [.int (M.1 o 0), .int (M.1 o 1), .int (M.1 o 2), .int (M.1 o 3), .int (M.1 o 4), .int (M.1 o 5), .int (M.1 o 6), .int (M.1 o 7), .int (M.1 o 8), .int (M.1 o 9), .int (M.1 o 10), .int (M.1 o 11), .long (M.2 o 12), .long (M.2 o 13), .long (M.2 o 14), .long (M.2 o 15), mm_q G (R o 16), mm_q G (R o 17)].set 12 (.long v)) by rw [mm_e0 hT]; simp [sL, mm_q] <;> rfl]; exact ha) mm_en_L) hS1 hz)
theorem pX0_48 {v : Int64} (C : mm_C G p s m args meth c RX0 cc nL ret) (hM : mm_P G R N M H) (hS : va_S (mm_A G) s.heap H locs) (ho : o < N) (hT : kT o = (0, 0)) (hdg : decode cc pc = .ok (.putfield 48, 3)) (kk : ∀ (H1 : Heap) (locs1 : List Loc), mm_P G R N (sL M o 13 v) H1 → va_S (mm_A G) s.heap H1 locs1 → H1.size = H.size → W p l e Rm s m args below meth c H1 locs1 cells slots Q (F0 m (pc + 3) ls rest)) : W p l e Rm s m args below meth c H locs cells slots Q (F0 m pc ls (.long v :: .ref (mm_lo G + o) :: rest)) := mm_put0 C hM hS ho (mm_e0 hT) rfl inX0 tyX0 tyX0_ok nmX0 (k := 13) (by decide) rfl (mm_in 112 (by decide +kernel) (by decide +kernel)) (Or.inl rfl) rfl rfl (Nat.le_of_ble_eq_true rfl) hdg (fun H1 locs1 ha oq hz hS1 => kk H1 locs1 (mm_upd hM oq (by rw [show mm_en G R (sL M o 13 v) o = .inr (0, [.int (M.1 o 0), .int (M.1 o 1), .int (M.1 o 2), .int (M.1 o 3), .int (M.1 o 4), .int (M.1 o 5), .int (M.1 o 6), .int (M.1 o 7), .int (M.1 o 8), .int (M.1 o 9), .int (M.1 o 10), .int (M.1 o 11), .long (M.2 o 12), .long (M.2 o 13), .long (M.2 o 14), .long (M.2 o 15), mm_q G (R o 16), mm_q G (R o 17)].set 13 (.long v)) by rw [mm_e0 hT]; simp [sL, mm_q] <;> rfl]; exact ha) mm_en_L) hS1 hz)
theorem pX0_51 {v : Int64} (C : mm_C G p s m args meth c RX0 cc nL ret) (hM : mm_P G R N M H) (hS : va_S (mm_A G) s.heap H locs) (ho : o < N) (hT : kT o = (0, 0)) (hdg : decode cc pc = .ok (.putfield 51, 3)) (kk : ∀ (H1 : Heap) (locs1 : List Loc), mm_P G R N (sL M o 14 v) H1 → va_S (mm_A G) s.heap H1 locs1 → H1.size = H.size → W p l e Rm s m args below meth c H1 locs1 cells slots Q (F0 m (pc + 3) ls rest)) : W p l e Rm s m args below meth c H locs cells slots Q (F0 m pc ls (.long v :: .ref (mm_lo G + o) :: rest)) := mm_put0 C hM hS ho (mm_e0 hT) rfl inX0 tyX0 tyX0_ok nmX0 (k := 14) (by decide) rfl (mm_in 115 (by decide +kernel) (by decide +kernel)) (Or.inl rfl) rfl rfl (Nat.le_of_ble_eq_true rfl) hdg (fun H1 locs1 ha oq hz hS1 => kk H1 locs1 (mm_upd hM oq (by rw [show mm_en G R (sL M o 14 v) o = .inr (0, [.int (M.1 o 0), .int (M.1 o 1), .int (M.1 o 2), .int (M.1 o 3), .int (M.1 o 4), .int (M.1 o 5), .int (M.1 o 6), .int (M.1 o 7), .int (M.1 o 8), .int (M.1 o 9), .int (M.1 o 10), .int (M.1 o 11), .long (M.2 o 12), .long (M.2 o 13), .long (M.2 o 14), .long (M.2 o 15), mm_q G (R o 16), mm_q G (R o 17)].set 14 (.long v)) by rw [mm_e0 hT]; simp [sL, mm_q] <;> rfl]; exact ha) mm_en_L) hS1 hz)
theorem pX0_54 {v : Int64} (C : mm_C G p s m args meth c RX0 cc nL ret) (hM : mm_P G R N M H) (hS : va_S (mm_A G) s.heap H locs) (ho : o < N) (hT : kT o = (0, 0)) (hdg : decode cc pc = .ok (.putfield 54, 3)) (kk : ∀ (H1 : Heap) (locs1 : List Loc), mm_P G R N (sL M o 15 v) H1 → va_S (mm_A G) s.heap H1 locs1 → H1.size = H.size → W p l e Rm s m args below meth c H1 locs1 cells slots Q (F0 m (pc + 3) ls rest)) : W p l e Rm s m args below meth c H locs cells slots Q (F0 m pc ls (.long v :: .ref (mm_lo G + o) :: rest)) := mm_put0 C hM hS ho (mm_e0 hT) rfl inX0 tyX0 tyX0_ok nmX0 (k := 15) (by decide) rfl (mm_in 118 (by decide +kernel) (by decide +kernel)) (Or.inl rfl) rfl rfl (Nat.le_of_ble_eq_true rfl) hdg (fun H1 locs1 ha oq hz hS1 => kk H1 locs1 (mm_upd hM oq (by rw [show mm_en G R (sL M o 15 v) o = .inr (0, [.int (M.1 o 0), .int (M.1 o 1), .int (M.1 o 2), .int (M.1 o 3), .int (M.1 o 4), .int (M.1 o 5), .int (M.1 o 6), .int (M.1 o 7), .int (M.1 o 8), .int (M.1 o 9), .int (M.1 o 10), .int (M.1 o 11), .long (M.2 o 12), .long (M.2 o 13), .long (M.2 o 14), .long (M.2 o 15), mm_q G (R o 16), mm_q G (R o 17)].set 15 (.long v)) by rw [mm_e0 hT]; simp [sL, mm_q] <;> rfl]; exact ha) mm_en_L) hS1 hz)
theorem pX0_63 {v : Int32} (C : mm_C G p s m args meth c RX0 cc nL ret) (hM : mm_P G R N M H) (hS : va_S (mm_A G) s.heap H locs) (ho : o < N) (hT : kT o = (0, 0)) (hdg : decode cc pc = .ok (.putfield 63, 3)) (kk : ∀ (H1 : Heap) (locs1 : List Loc), mm_P G R N (sI M o 8 v) H1 → va_S (mm_A G) s.heap H1 locs1 → H1.size = H.size → W p l e Rm s m args below meth c H1 locs1 cells slots Q (F0 m (pc + 3) ls rest)) : W p l e Rm s m args below meth c H locs cells slots Q (F0 m pc ls (.int v :: .ref (mm_lo G + o) :: rest)) := mm_put0 C hM hS ho (mm_e0 hT) rfl inX0 tyX0 tyX0_ok nmX0 (k := 8) (by decide) rfl (mm_in 96 (by decide +kernel) (by decide +kernel)) (Or.inl rfl) rfl rfl (Nat.le_of_ble_eq_true rfl) hdg (fun H1 locs1 ha oq hz hS1 => kk H1 locs1 (mm_upd hM oq (by rw [show mm_en G R (sI M o 8 v) o = .inr (0, [.int (M.1 o 0), .int (M.1 o 1), .int (M.1 o 2), .int (M.1 o 3), .int (M.1 o 4), .int (M.1 o 5), .int (M.1 o 6), .int (M.1 o 7), .int (M.1 o 8), .int (M.1 o 9), .int (M.1 o 10), .int (M.1 o 11), .long (M.2 o 12), .long (M.2 o 13), .long (M.2 o 14), .long (M.2 o 15), mm_q G (R o 16), mm_q G (R o 17)].set 8 (.int v)) by rw [mm_e0 hT]; simp [sI, mm_q] <;> rfl]; exact ha) mm_en_I) hS1 hz)
theorem pX0_66 {v : Int32} (C : mm_C G p s m args meth c RX0 cc nL ret) (hM : mm_P G R N M H) (hS : va_S (mm_A G) s.heap H locs) (ho : o < N) (hT : kT o = (0, 0)) (hdg : decode cc pc = .ok (.putfield 66, 3)) (kk : ∀ (H1 : Heap) (locs1 : List Loc), mm_P G R N (sI M o 9 v) H1 → va_S (mm_A G) s.heap H1 locs1 → H1.size = H.size → W p l e Rm s m args below meth c H1 locs1 cells slots Q (F0 m (pc + 3) ls rest)) : W p l e Rm s m args below meth c H locs cells slots Q (F0 m pc ls (.int v :: .ref (mm_lo G + o) :: rest)) := mm_put0 C hM hS ho (mm_e0 hT) rfl inX0 tyX0 tyX0_ok nmX0 (k := 9) (by decide) rfl (mm_in 100 (by decide +kernel) (by decide +kernel)) (Or.inl rfl) rfl rfl (Nat.le_of_ble_eq_true rfl) hdg (fun H1 locs1 ha oq hz hS1 => kk H1 locs1 (mm_upd hM oq (by rw [show mm_en G R (sI M o 9 v) o = .inr (0, [.int (M.1 o 0), .int (M.1 o 1), .int (M.1 o 2), .int (M.1 o 3), .int (M.1 o 4), .int (M.1 o 5), .int (M.1 o 6), .int (M.1 o 7), .int (M.1 o 8), .int (M.1 o 9), .int (M.1 o 10), .int (M.1 o 11), .long (M.2 o 12), .long (M.2 o 13), .long (M.2 o 14), .long (M.2 o 15), mm_q G (R o 16), mm_q G (R o 17)].set 9 (.int v)) by rw [mm_e0 hT]; simp [sI, mm_q] <;> rfl]; exact ha) mm_en_I) hS1 hz)
theorem pX0_69 {v : Int32} (C : mm_C G p s m args meth c RX0 cc nL ret) (hM : mm_P G R N M H) (hS : va_S (mm_A G) s.heap H locs) (ho : o < N) (hT : kT o = (0, 0)) (hdg : decode cc pc = .ok (.putfield 69, 3)) (kk : ∀ (H1 : Heap) (locs1 : List Loc), mm_P G R N (sI M o 10 v) H1 → va_S (mm_A G) s.heap H1 locs1 → H1.size = H.size → W p l e Rm s m args below meth c H1 locs1 cells slots Q (F0 m (pc + 3) ls rest)) : W p l e Rm s m args below meth c H locs cells slots Q (F0 m pc ls (.int v :: .ref (mm_lo G + o) :: rest)) := mm_put0 C hM hS ho (mm_e0 hT) rfl inX0 tyX0 tyX0_ok nmX0 (k := 10) (by decide) rfl (mm_in 103 (by decide +kernel) (by decide +kernel)) (Or.inl rfl) rfl rfl (Nat.le_of_ble_eq_true rfl) hdg (fun H1 locs1 ha oq hz hS1 => kk H1 locs1 (mm_upd hM oq (by rw [show mm_en G R (sI M o 10 v) o = .inr (0, [.int (M.1 o 0), .int (M.1 o 1), .int (M.1 o 2), .int (M.1 o 3), .int (M.1 o 4), .int (M.1 o 5), .int (M.1 o 6), .int (M.1 o 7), .int (M.1 o 8), .int (M.1 o 9), .int (M.1 o 10), .int (M.1 o 11), .long (M.2 o 12), .long (M.2 o 13), .long (M.2 o 14), .long (M.2 o 15), mm_q G (R o 16), mm_q G (R o 17)].set 10 (.int v)) by rw [mm_e0 hT]; simp [sI, mm_q] <;> rfl]; exact ha) mm_en_I) hS1 hz)
theorem pX0_72 {v : Int32} (C : mm_C G p s m args meth c RX0 cc nL ret) (hM : mm_P G R N M H) (hS : va_S (mm_A G) s.heap H locs) (ho : o < N) (hT : kT o = (0, 0)) (hdg : decode cc pc = .ok (.putfield 72, 3)) (kk : ∀ (H1 : Heap) (locs1 : List Loc), mm_P G R N (sI M o 11 v) H1 → va_S (mm_A G) s.heap H1 locs1 → H1.size = H.size → W p l e Rm s m args below meth c H1 locs1 cells slots Q (F0 m (pc + 3) ls rest)) : W p l e Rm s m args below meth c H locs cells slots Q (F0 m pc ls (.int v :: .ref (mm_lo G + o) :: rest)) := mm_put0 C hM hS ho (mm_e0 hT) rfl inX0 tyX0 tyX0_ok nmX0 (k := 11) (by decide) rfl (mm_in 106 (by decide +kernel) (by decide +kernel)) (Or.inl rfl) rfl rfl (Nat.le_of_ble_eq_true rfl) hdg (fun H1 locs1 ha oq hz hS1 => kk H1 locs1 (mm_upd hM oq (by rw [show mm_en G R (sI M o 11 v) o = .inr (0, [.int (M.1 o 0), .int (M.1 o 1), .int (M.1 o 2), .int (M.1 o 3), .int (M.1 o 4), .int (M.1 o 5), .int (M.1 o 6), .int (M.1 o 7), .int (M.1 o 8), .int (M.1 o 9), .int (M.1 o 10), .int (M.1 o 11), .long (M.2 o 12), .long (M.2 o 13), .long (M.2 o 14), .long (M.2 o 15), mm_q G (R o 16), mm_q G (R o 17)].set 11 (.int v)) by rw [mm_e0 hT]; simp [sI, mm_q] <;> rfl]; exact ha) mm_en_I) hS1 hz)
theorem pX0_9 {v : Nat} (C : mm_C G p s m args meth c RX0 cc nL ret) (hM : mm_P G R N M H) (hS : va_S (mm_A G) s.heap H locs) (ho : o < N) (hT : kT o = (0, 0)) (hin : meth.name = "<init>") (hdg : decode cc pc = .ok (.putfield 9, 3)) (kk : ∀ (H1 : Heap) (locs1 : List Loc), mm_P G (sR R o 16 (some v)) N M H1 → va_S (mm_A G) s.heap H1 locs1 → H1.size = H.size → W p l e Rm s m args below meth c H1 locs1 cells slots Q (F0 m (pc + 3) ls rest)) : W p l e Rm s m args below meth c H locs cells slots Q (F0 m pc ls (.ref (mm_lo G + v) :: .ref (mm_lo G + o) :: rest)) := mm_put0 C hM hS ho (mm_e0 hT) rfl inX0 tyX0 tyX0_ok nmX0 (k := 16) (by decide) rfl (mm_in 121 (by decide +kernel) (by decide +kernel)) (Or.inr ⟨rfl, hin, rfl⟩) rfl rfl (Nat.le_of_ble_eq_true rfl) hdg (fun H1 locs1 ha oq hz hS1 => kk H1 locs1 (mm_upd hM oq (by rw [show mm_en G (sR R o 16 (some v)) M o = .inr (0, [.int (M.1 o 0), .int (M.1 o 1), .int (M.1 o 2), .int (M.1 o 3), .int (M.1 o 4), .int (M.1 o 5), .int (M.1 o 6), .int (M.1 o 7), .int (M.1 o 8), .int (M.1 o 9), .int (M.1 o 10), .int (M.1 o 11), .long (M.2 o 12), .long (M.2 o 13), .long (M.2 o 14), .long (M.2 o 15), mm_q G (R o 16), mm_q G (R o 17)].set 16 (.ref (mm_lo G + v))) by rw [mm_e0 hT]; simp [sR, mm_q] <;> rfl]; exact ha) mm_en_R) hS1 hz)
theorem pX1_135 {v : Int32} (C : mm_C G p s m args meth c RX1 cc nL ret) (hM : mm_P G R N M H) (hS : va_S (mm_A G) s.heap H locs) (ho : o < N) (hT : kT o = (0, 0)) (hdg : decode cc pc = .ok (.putfield 135, 3)) (kk : ∀ (H1 : Heap) (locs1 : List Loc), mm_P G R N (sI M o 9 v) H1 → va_S (mm_A G) s.heap H1 locs1 → H1.size = H.size → W p l e Rm s m args below meth c H1 locs1 cells slots Q (F0 m (pc + 3) ls rest)) : W p l e Rm s m args below meth c H locs cells slots Q (F0 m pc ls (.int v :: .ref (mm_lo G + o) :: rest)) := mm_put0 C hM hS ho (mm_e0 hT) rfl inX0 tyX0 tyX0_ok nmX0 (k := 9) (by decide) rfl (mm_in 101 (by decide +kernel) (by decide +kernel)) (Or.inl rfl) rfl rfl (Nat.le_of_ble_eq_true rfl) hdg (fun H1 locs1 ha oq hz hS1 => kk H1 locs1 (mm_upd hM oq (by rw [show mm_en G R (sI M o 9 v) o = .inr (0, [.int (M.1 o 0), .int (M.1 o 1), .int (M.1 o 2), .int (M.1 o 3), .int (M.1 o 4), .int (M.1 o 5), .int (M.1 o 6), .int (M.1 o 7), .int (M.1 o 8), .int (M.1 o 9), .int (M.1 o 10), .int (M.1 o 11), .long (M.2 o 12), .long (M.2 o 13), .long (M.2 o 14), .long (M.2 o 15), mm_q G (R o 16), mm_q G (R o 17)].set 9 (.int v)) by rw [mm_e0 hT]; simp [sI, mm_q] <;> rfl]; exact ha) mm_en_I) hS1 hz)
theorem pX1_138 {v : Int32} (C : mm_C G p s m args meth c RX1 cc nL ret) (hM : mm_P G R N M H) (hS : va_S (mm_A G) s.heap H locs) (ho : o < N) (hT : kT o = (4, 0)) (hdg : decode cc pc = .ok (.putfield 138, 3)) (kk : ∀ (H1 : Heap) (locs1 : List Loc), mm_P G R N (sI M o 4 v) H1 → va_S (mm_A G) s.heap H1 locs1 → H1.size = H.size → W p l e Rm s m args below meth c H1 locs1 cells slots Q (F0 m (pc + 3) ls rest)) : W p l e Rm s m args below meth c H locs cells slots Q (F0 m pc ls (.int v :: .ref (mm_lo G + o) :: rest)) := mm_put0 C hM hS ho (mm_e4 hT) rfl inX5 tyX5 tyX5_ok nmX5 (k := 4) (by decide) rfl (mm_in 174 (by decide +kernel) (by decide +kernel)) (Or.inl rfl) rfl rfl (Nat.le_of_ble_eq_true rfl) hdg (fun H1 locs1 ha oq hz hS1 => kk H1 locs1 (mm_upd hM oq (by rw [show mm_en G R (sI M o 4 v) o = .inr (4, [.int (M.1 o 0), .int (M.1 o 1), .int (M.1 o 2), .int (M.1 o 3), .int (M.1 o 4), .int (M.1 o 5), .int (M.1 o 6), mm_q G (R o 7), mm_q G (R o 8), mm_q G (R o 9), mm_q G (R o 10), mm_q G (R o 11), mm_q G (R o 12), mm_q G (R o 13), .int (M.1 o 14)].set 4 (.int v)) by rw [mm_e4 hT]; simp [sI, mm_q] <;> rfl]; exact ha) mm_en_I) hS1 hz)
theorem pX1_151 {v : Int64} (C : mm_C G p s m args meth c RX1 cc nL ret) (hM : mm_P G R N M H) (hS : va_S (mm_A G) s.heap H locs) (ho : o < N) (hT : kT o = (0, 0)) (hdg : decode cc pc = .ok (.putfield 151, 3)) (kk : ∀ (H1 : Heap) (locs1 : List Loc), mm_P G R N (sL M o 15 v) H1 → va_S (mm_A G) s.heap H1 locs1 → H1.size = H.size → W p l e Rm s m args below meth c H1 locs1 cells slots Q (F0 m (pc + 3) ls rest)) : W p l e Rm s m args below meth c H locs cells slots Q (F0 m pc ls (.long v :: .ref (mm_lo G + o) :: rest)) := mm_put0 C hM hS ho (mm_e0 hT) rfl inX0 tyX0 tyX0_ok nmX0 (k := 15) (by decide) rfl (mm_in 119 (by decide +kernel) (by decide +kernel)) (Or.inl rfl) rfl rfl (Nat.le_of_ble_eq_true rfl) hdg (fun H1 locs1 ha oq hz hS1 => kk H1 locs1 (mm_upd hM oq (by rw [show mm_en G R (sL M o 15 v) o = .inr (0, [.int (M.1 o 0), .int (M.1 o 1), .int (M.1 o 2), .int (M.1 o 3), .int (M.1 o 4), .int (M.1 o 5), .int (M.1 o 6), .int (M.1 o 7), .int (M.1 o 8), .int (M.1 o 9), .int (M.1 o 10), .int (M.1 o 11), .long (M.2 o 12), .long (M.2 o 13), .long (M.2 o 14), .long (M.2 o 15), mm_q G (R o 16), mm_q G (R o 17)].set 15 (.long v)) by rw [mm_e0 hT]; simp [sL, mm_q] <;> rfl]; exact ha) mm_en_L) hS1 hz)
theorem pX1_155 {v : Int32} (C : mm_C G p s m args meth c RX1 cc nL ret) (hM : mm_P G R N M H) (hS : va_S (mm_A G) s.heap H locs) (ho : o < N) (hT : kT o = (4, 0)) (hdg : decode cc pc = .ok (.putfield 155, 3)) (kk : ∀ (H1 : Heap) (locs1 : List Loc), mm_P G R N (sI M o 5 v) H1 → va_S (mm_A G) s.heap H1 locs1 → H1.size = H.size → W p l e Rm s m args below meth c H1 locs1 cells slots Q (F0 m (pc + 3) ls rest)) : W p l e Rm s m args below meth c H locs cells slots Q (F0 m pc ls (.int v :: .ref (mm_lo G + o) :: rest)) := mm_put0 C hM hS ho (mm_e4 hT) rfl inX5 tyX5 tyX5_ok nmX5 (k := 5) (by decide) rfl (mm_in 177 (by decide +kernel) (by decide +kernel)) (Or.inl rfl) rfl rfl (Nat.le_of_ble_eq_true rfl) hdg (fun H1 locs1 ha oq hz hS1 => kk H1 locs1 (mm_upd hM oq (by rw [show mm_en G R (sI M o 5 v) o = .inr (4, [.int (M.1 o 0), .int (M.1 o 1), .int (M.1 o 2), .int (M.1 o 3), .int (M.1 o 4), .int (M.1 o 5), .int (M.1 o 6), mm_q G (R o 7), mm_q G (R o 8), mm_q G (R o 9), mm_q G (R o 10), mm_q G (R o 11), mm_q G (R o 12), mm_q G (R o 13), .int (M.1 o 14)].set 5 (.int v)) by rw [mm_e4 hT]; simp [sI, mm_q] <;> rfl]; exact ha) mm_en_I) hS1 hz)
theorem pX1_158 {v : Int64} (C : mm_C G p s m args meth c RX1 cc nL ret) (hM : mm_P G R N M H) (hS : va_S (mm_A G) s.heap H locs) (ho : o < N) (hT : kT o = (0, 0)) (hdg : decode cc pc = .ok (.putfield 158, 3)) (kk : ∀ (H1 : Heap) (locs1 : List Loc), mm_P G R N (sL M o 13 v) H1 → va_S (mm_A G) s.heap H1 locs1 → H1.size = H.size → W p l e Rm s m args below meth c H1 locs1 cells slots Q (F0 m (pc + 3) ls rest)) : W p l e Rm s m args below meth c H locs cells slots Q (F0 m pc ls (.long v :: .ref (mm_lo G + o) :: rest)) := mm_put0 C hM hS ho (mm_e0 hT) rfl inX0 tyX0 tyX0_ok nmX0 (k := 13) (by decide) rfl (mm_in 113 (by decide +kernel) (by decide +kernel)) (Or.inl rfl) rfl rfl (Nat.le_of_ble_eq_true rfl) hdg (fun H1 locs1 ha oq hz hS1 => kk H1 locs1 (mm_upd hM oq (by rw [show mm_en G R (sL M o 13 v) o = .inr (0, [.int (M.1 o 0), .int (M.1 o 1), .int (M.1 o 2), .int (M.1 o 3), .int (M.1 o 4), .int (M.1 o 5), .int (M.1 o 6), .int (M.1 o 7), .int (M.1 o 8), .int (M.1 o 9), .int (M.1 o 10), .int (M.1 o 11), .long (M.2 o 12), .long (M.2 o 13), .long (M.2 o 14), .long (M.2 o 15), mm_q G (R o 16), mm_q G (R o 17)].set 13 (.long v)) by rw [mm_e0 hT]; simp [sL, mm_q] <;> rfl]; exact ha) mm_en_L) hS1 hz)
theorem pX1_164 {v : Int32} (C : mm_C G p s m args meth c RX1 cc nL ret) (hM : mm_P G R N M H) (hS : va_S (mm_A G) s.heap H locs) (ho : o < N) (hT : kT o = (0, 0)) (hdg : decode cc pc = .ok (.putfield 164, 3)) (kk : ∀ (H1 : Heap) (locs1 : List Loc), mm_P G R N (sI M o 7 v) H1 → va_S (mm_A G) s.heap H1 locs1 → H1.size = H.size → W p l e Rm s m args below meth c H1 locs1 cells slots Q (F0 m (pc + 3) ls rest)) : W p l e Rm s m args below meth c H locs cells slots Q (F0 m pc ls (.int v :: .ref (mm_lo G + o) :: rest)) := mm_put0 C hM hS ho (mm_e0 hT) rfl inX0 tyX0 tyX0_ok nmX0 (k := 7) (by decide) rfl (mm_in 94 (by decide +kernel) (by decide +kernel)) (Or.inl rfl) rfl rfl (Nat.le_of_ble_eq_true rfl) hdg (fun H1 locs1 ha oq hz hS1 => kk H1 locs1 (mm_upd hM oq (by rw [show mm_en G R (sI M o 7 v) o = .inr (0, [.int (M.1 o 0), .int (M.1 o 1), .int (M.1 o 2), .int (M.1 o 3), .int (M.1 o 4), .int (M.1 o 5), .int (M.1 o 6), .int (M.1 o 7), .int (M.1 o 8), .int (M.1 o 9), .int (M.1 o 10), .int (M.1 o 11), .long (M.2 o 12), .long (M.2 o 13), .long (M.2 o 14), .long (M.2 o 15), mm_q G (R o 16), mm_q G (R o 17)].set 7 (.int v)) by rw [mm_e0 hT]; simp [sI, mm_q] <;> rfl]; exact ha) mm_en_I) hS1 hz)
theorem pX1_167 {v : Int32} (C : mm_C G p s m args meth c RX1 cc nL ret) (hM : mm_P G R N M H) (hS : va_S (mm_A G) s.heap H locs) (ho : o < N) (hT : kT o = (3, 0)) (hdg : decode cc pc = .ok (.putfield 167, 3)) (kk : ∀ (H1 : Heap) (locs1 : List Loc), mm_P G R N (sI M o 2 v) H1 → va_S (mm_A G) s.heap H1 locs1 → H1.size = H.size → W p l e Rm s m args below meth c H1 locs1 cells slots Q (F0 m (pc + 3) ls rest)) : W p l e Rm s m args below meth c H locs cells slots Q (F0 m pc ls (.int v :: .ref (mm_lo G + o) :: rest)) := mm_put0 C hM hS ho (mm_e3 hT) rfl inX4 tyX4 tyX4_ok nmX4 (k := 2) (by decide) rfl (mm_in 49 (by decide +kernel) (by decide +kernel)) (Or.inl rfl) rfl rfl (Nat.le_of_ble_eq_true rfl) hdg (fun H1 locs1 ha oq hz hS1 => kk H1 locs1 (mm_upd hM oq (by rw [show mm_en G R (sI M o 2 v) o = .inr (3, [.int (M.1 o 0), .int (M.1 o 1), .int (M.1 o 2), .int (M.1 o 3)].set 2 (.int v)) by rw [mm_e3 hT]; simp [sI, mm_q] <;> rfl]; exact ha) mm_en_I) hS1 hz)
theorem pX1_170 {v : Int32} (C : mm_C G p s m args meth c RX1 cc nL ret) (hM : mm_P G R N M H) (hS : va_S (mm_A G) s.heap H locs) (ho : o < N) (hT : kT o = (3, 0)) (hdg : decode cc pc = .ok (.putfield 170, 3)) (kk : ∀ (H1 : Heap) (locs1 : List Loc), mm_P G R N (sI M o 1 v) H1 → va_S (mm_A G) s.heap H1 locs1 → H1.size = H.size → W p l e Rm s m args below meth c H1 locs1 cells slots Q (F0 m (pc + 3) ls rest)) : W p l e Rm s m args below meth c H locs cells slots Q (F0 m pc ls (.int v :: .ref (mm_lo G + o) :: rest)) := mm_put0 C hM hS ho (mm_e3 hT) rfl inX4 tyX4 tyX4_ok nmX4 (k := 1) (by decide) rfl (mm_in 46 (by decide +kernel) (by decide +kernel)) (Or.inl rfl) rfl rfl (Nat.le_of_ble_eq_true rfl) hdg (fun H1 locs1 ha oq hz hS1 => kk H1 locs1 (mm_upd hM oq (by rw [show mm_en G R (sI M o 1 v) o = .inr (3, [.int (M.1 o 0), .int (M.1 o 1), .int (M.1 o 2), .int (M.1 o 3)].set 1 (.int v)) by rw [mm_e3 hT]; simp [sI, mm_q] <;> rfl]; exact ha) mm_en_I) hS1 hz)
theorem pX1_25 {v : Int32} (C : mm_C G p s m args meth c RX1 cc nL ret) (hM : mm_P G R N M H) (hS : va_S (mm_A G) s.heap H locs) (ho : o < N) (hT : kT o = (0, 0)) (hdg : decode cc pc = .ok (.putfield 25, 3)) (kk : ∀ (H1 : Heap) (locs1 : List Loc), mm_P G R N (sI M o 4 v) H1 → va_S (mm_A G) s.heap H1 locs1 → H1.size = H.size → W p l e Rm s m args below meth c H1 locs1 cells slots Q (F0 m (pc + 3) ls rest)) : W p l e Rm s m args below meth c H locs cells slots Q (F0 m pc ls (.int v :: .ref (mm_lo G + o) :: rest)) := mm_put0 C hM hS ho (mm_e0 hT) rfl inX0 tyX0 tyX0_ok nmX0 (k := 4) (by decide) rfl (mm_in 84 (by decide +kernel) (by decide +kernel)) (Or.inl rfl) rfl rfl (Nat.le_of_ble_eq_true rfl) hdg (fun H1 locs1 ha oq hz hS1 => kk H1 locs1 (mm_upd hM oq (by rw [show mm_en G R (sI M o 4 v) o = .inr (0, [.int (M.1 o 0), .int (M.1 o 1), .int (M.1 o 2), .int (M.1 o 3), .int (M.1 o 4), .int (M.1 o 5), .int (M.1 o 6), .int (M.1 o 7), .int (M.1 o 8), .int (M.1 o 9), .int (M.1 o 10), .int (M.1 o 11), .long (M.2 o 12), .long (M.2 o 13), .long (M.2 o 14), .long (M.2 o 15), mm_q G (R o 16), mm_q G (R o 17)].set 4 (.int v)) by rw [mm_e0 hT]; simp [sI, mm_q] <;> rfl]; exact ha) mm_en_I) hS1 hz)
theorem pX1_30 {v : Int32} (C : mm_C G p s m args meth c RX1 cc nL ret) (hM : mm_P G R N M H) (hS : va_S (mm_A G) s.heap H locs) (ho : o < N) (hT : kT o = (0, 0)) (hn : v = 0 ∨ v = 1) (hdg : decode cc pc = .ok (.putfield 30, 3)) (kk : ∀ (H1 : Heap) (locs1 : List Loc), mm_P G R N (sI M o 5 v) H1 → va_S (mm_A G) s.heap H1 locs1 → H1.size = H.size → W p l e Rm s m args below meth c H1 locs1 cells slots Q (F0 m (pc + 3) ls rest)) : W p l e Rm s m args below meth c H locs cells slots Q (F0 m pc ls (.int v :: .ref (mm_lo G + o) :: rest)) := mm_put0 C hM hS ho (mm_e0 hT) rfl inX0 tyX0 tyX0_ok nmX0 (k := 5) (by decide) rfl (mm_in 87 (by decide +kernel) (by decide +kernel)) (Or.inl rfl) (nb01 hn) (fb01 hn) (Nat.le_of_ble_eq_true rfl) hdg (fun H1 locs1 ha oq hz hS1 => kk H1 locs1 (mm_upd hM oq (by rw [show mm_en G R (sI M o 5 v) o = .inr (0, [.int (M.1 o 0), .int (M.1 o 1), .int (M.1 o 2), .int (M.1 o 3), .int (M.1 o 4), .int (M.1 o 5), .int (M.1 o 6), .int (M.1 o 7), .int (M.1 o 8), .int (M.1 o 9), .int (M.1 o 10), .int (M.1 o 11), .long (M.2 o 12), .long (M.2 o 13), .long (M.2 o 14), .long (M.2 o 15), mm_q G (R o 16), mm_q G (R o 17)].set 5 (.int v)) by rw [mm_e0 hT]; simp [sI, mm_q] <;> rfl]; exact ha) mm_en_I) hS1 hz)
theorem pX1_48 {v : Int32} (C : mm_C G p s m args meth c RX1 cc nL ret) (hM : mm_P G R N M H) (hS : va_S (mm_A G) s.heap H locs) (ho : o < N) (hT : kT o = (3, 0)) (hdg : decode cc pc = .ok (.putfield 48, 3)) (kk : ∀ (H1 : Heap) (locs1 : List Loc), mm_P G R N (sI M o 3 v) H1 → va_S (mm_A G) s.heap H1 locs1 → H1.size = H.size → W p l e Rm s m args below meth c H1 locs1 cells slots Q (F0 m (pc + 3) ls rest)) : W p l e Rm s m args below meth c H locs cells slots Q (F0 m pc ls (.int v :: .ref (mm_lo G + o) :: rest)) := mm_put0 C hM hS ho (mm_e3 hT) rfl inX4 tyX4 tyX4_ok nmX4 (k := 3) (by decide) rfl (mm_in 52 (by decide +kernel) (by decide +kernel)) (Or.inl rfl) rfl rfl (Nat.le_of_ble_eq_true rfl) hdg (fun H1 locs1 ha oq hz hS1 => kk H1 locs1 (mm_upd hM oq (by rw [show mm_en G R (sI M o 3 v) o = .inr (3, [.int (M.1 o 0), .int (M.1 o 1), .int (M.1 o 2), .int (M.1 o 3)].set 3 (.int v)) by rw [mm_e3 hT]; simp [sI, mm_q] <;> rfl]; exact ha) mm_en_I) hS1 hz)
theorem pX1_60 {v : Int32} (C : mm_C G p s m args meth c RX1 cc nL ret) (hM : mm_P G R N M H) (hS : va_S (mm_A G) s.heap H locs) (ho : o < N) (hT : kT o = (4, 0)) (hdg : decode cc pc = .ok (.putfield 60, 3)) (kk : ∀ (H1 : Heap) (locs1 : List Loc), mm_P G R N (sI M o 14 v) H1 → va_S (mm_A G) s.heap H1 locs1 → H1.size = H.size → W p l e Rm s m args below meth c H1 locs1 cells slots Q (F0 m (pc + 3) ls rest)) : W p l e Rm s m args below meth c H locs cells slots Q (F0 m pc ls (.int v :: .ref (mm_lo G + o) :: rest)) := mm_put0 C hM hS ho (mm_e4 hT) rfl inX5 tyX5 tyX5_ok nmX5 (k := 14) (by decide) rfl (mm_in 197 (by decide +kernel) (by decide +kernel)) (Or.inl rfl) rfl rfl (Nat.le_of_ble_eq_true rfl) hdg (fun H1 locs1 ha oq hz hS1 => kk H1 locs1 (mm_upd hM oq (by rw [show mm_en G R (sI M o 14 v) o = .inr (4, [.int (M.1 o 0), .int (M.1 o 1), .int (M.1 o 2), .int (M.1 o 3), .int (M.1 o 4), .int (M.1 o 5), .int (M.1 o 6), mm_q G (R o 7), mm_q G (R o 8), mm_q G (R o 9), mm_q G (R o 10), mm_q G (R o 11), mm_q G (R o 12), mm_q G (R o 13), .int (M.1 o 14)].set 14 (.int v)) by rw [mm_e4 hT]; simp [sI, mm_q] <;> rfl]; exact ha) mm_en_I) hS1 hz)
theorem pX1_63 {v : Int32} (C : mm_C G p s m args meth c RX1 cc nL ret) (hM : mm_P G R N M H) (hS : va_S (mm_A G) s.heap H locs) (ho : o < N) (hT : kT o = (4, 0)) (hdg : decode cc pc = .ok (.putfield 63, 3)) (kk : ∀ (H1 : Heap) (locs1 : List Loc), mm_P G R N (sI M o 1 v) H1 → va_S (mm_A G) s.heap H1 locs1 → H1.size = H.size → W p l e Rm s m args below meth c H1 locs1 cells slots Q (F0 m (pc + 3) ls rest)) : W p l e Rm s m args below meth c H locs cells slots Q (F0 m pc ls (.int v :: .ref (mm_lo G + o) :: rest)) := mm_put0 C hM hS ho (mm_e4 hT) rfl inX5 tyX5 tyX5_ok nmX5 (k := 1) (by decide) rfl (mm_in 165 (by decide +kernel) (by decide +kernel)) (Or.inl rfl) rfl rfl (Nat.le_of_ble_eq_true rfl) hdg (fun H1 locs1 ha oq hz hS1 => kk H1 locs1 (mm_upd hM oq (by rw [show mm_en G R (sI M o 1 v) o = .inr (4, [.int (M.1 o 0), .int (M.1 o 1), .int (M.1 o 2), .int (M.1 o 3), .int (M.1 o 4), .int (M.1 o 5), .int (M.1 o 6), mm_q G (R o 7), mm_q G (R o 8), mm_q G (R o 9), mm_q G (R o 10), mm_q G (R o 11), mm_q G (R o 12), mm_q G (R o 13), .int (M.1 o 14)].set 1 (.int v)) by rw [mm_e4 hT]; simp [sI, mm_q] <;> rfl]; exact ha) mm_en_I) hS1 hz)
theorem pX1_81 {v : Int32} (C : mm_C G p s m args meth c RX1 cc nL ret) (hM : mm_P G R N M H) (hS : va_S (mm_A G) s.heap H locs) (ho : o < N) (hT : kT o = (0, 0)) (hdg : decode cc pc = .ok (.putfield 81, 3)) (kk : ∀ (H1 : Heap) (locs1 : List Loc), mm_P G R N (sI M o 11 v) H1 → va_S (mm_A G) s.heap H1 locs1 → H1.size = H.size → W p l e Rm s m args below meth c H1 locs1 cells slots Q (F0 m (pc + 3) ls rest)) : W p l e Rm s m args below meth c H locs cells slots Q (F0 m pc ls (.int v :: .ref (mm_lo G + o) :: rest)) := mm_put0 C hM hS ho (mm_e0 hT) rfl inX0 tyX0 tyX0_ok nmX0 (k := 11) (by decide) rfl (mm_in 107 (by decide +kernel) (by decide +kernel)) (Or.inl rfl) rfl rfl (Nat.le_of_ble_eq_true rfl) hdg (fun H1 locs1 ha oq hz hS1 => kk H1 locs1 (mm_upd hM oq (by rw [show mm_en G R (sI M o 11 v) o = .inr (0, [.int (M.1 o 0), .int (M.1 o 1), .int (M.1 o 2), .int (M.1 o 3), .int (M.1 o 4), .int (M.1 o 5), .int (M.1 o 6), .int (M.1 o 7), .int (M.1 o 8), .int (M.1 o 9), .int (M.1 o 10), .int (M.1 o 11), .long (M.2 o 12), .long (M.2 o 13), .long (M.2 o 14), .long (M.2 o 15), mm_q G (R o 16), mm_q G (R o 17)].set 11 (.int v)) by rw [mm_e0 hT]; simp [sI, mm_q] <;> rfl]; exact ha) mm_en_I) hS1 hz)
theorem pX1_92 {v : Int32} (C : mm_C G p s m args meth c RX1 cc nL ret) (hM : mm_P G R N M H) (hS : va_S (mm_A G) s.heap H locs) (ho : o < N) (hT : kT o = (0, 0)) (hdg : decode cc pc = .ok (.putfield 92, 3)) (kk : ∀ (H1 : Heap) (locs1 : List Loc), mm_P G R N (sI M o 10 v) H1 → va_S (mm_A G) s.heap H1 locs1 → H1.size = H.size → W p l e Rm s m args below meth c H1 locs1 cells slots Q (F0 m (pc + 3) ls rest)) : W p l e Rm s m args below meth c H locs cells slots Q (F0 m pc ls (.int v :: .ref (mm_lo G + o) :: rest)) := mm_put0 C hM hS ho (mm_e0 hT) rfl inX0 tyX0 tyX0_ok nmX0 (k := 10) (by decide) rfl (mm_in 104 (by decide +kernel) (by decide +kernel)) (Or.inl rfl) rfl rfl (Nat.le_of_ble_eq_true rfl) hdg (fun H1 locs1 ha oq hz hS1 => kk H1 locs1 (mm_upd hM oq (by rw [show mm_en G R (sI M o 10 v) o = .inr (0, [.int (M.1 o 0), .int (M.1 o 1), .int (M.1 o 2), .int (M.1 o 3), .int (M.1 o 4), .int (M.1 o 5), .int (M.1 o 6), .int (M.1 o 7), .int (M.1 o 8), .int (M.1 o 9), .int (M.1 o 10), .int (M.1 o 11), .long (M.2 o 12), .long (M.2 o 13), .long (M.2 o 14), .long (M.2 o 15), mm_q G (R o 16), mm_q G (R o 17)].set 10 (.int v)) by rw [mm_e0 hT]; simp [sI, mm_q] <;> rfl]; exact ha) mm_en_I) hS1 hz)
theorem pX1_95 {v : Int32} (C : mm_C G p s m args meth c RX1 cc nL ret) (hM : mm_P G R N M H) (hS : va_S (mm_A G) s.heap H locs) (ho : o < N) (hT : kT o = (0, 0)) (hdg : decode cc pc = .ok (.putfield 95, 3)) (kk : ∀ (H1 : Heap) (locs1 : List Loc), mm_P G R N (sI M o 3 v) H1 → va_S (mm_A G) s.heap H1 locs1 → H1.size = H.size → W p l e Rm s m args below meth c H1 locs1 cells slots Q (F0 m (pc + 3) ls rest)) : W p l e Rm s m args below meth c H locs cells slots Q (F0 m pc ls (.int v :: .ref (mm_lo G + o) :: rest)) := mm_put0 C hM hS ho (mm_e0 hT) rfl inX0 tyX0 tyX0_ok nmX0 (k := 3) (by decide) rfl (mm_in 81 (by decide +kernel) (by decide +kernel)) (Or.inl rfl) rfl rfl (Nat.le_of_ble_eq_true rfl) hdg (fun H1 locs1 ha oq hz hS1 => kk H1 locs1 (mm_upd hM oq (by rw [show mm_en G R (sI M o 3 v) o = .inr (0, [.int (M.1 o 0), .int (M.1 o 1), .int (M.1 o 2), .int (M.1 o 3), .int (M.1 o 4), .int (M.1 o 5), .int (M.1 o 6), .int (M.1 o 7), .int (M.1 o 8), .int (M.1 o 9), .int (M.1 o 10), .int (M.1 o 11), .long (M.2 o 12), .long (M.2 o 13), .long (M.2 o 14), .long (M.2 o 15), mm_q G (R o 16), mm_q G (R o 17)].set 3 (.int v)) by rw [mm_e0 hT]; simp [sI, mm_q] <;> rfl]; exact ha) mm_en_I) hS1 hz)
theorem pX2_13 {v : Nat} (C : mm_C G p s m args meth c RX2 cc nL ret) (hM : mm_P G R N M H) (hS : va_S (mm_A G) s.heap H locs) (ho : o < N) (hT : kT o = (1, 0)) (hin : meth.name = "<init>") (hdg : decode cc pc = .ok (.putfield 13, 3)) (kk : ∀ (H1 : Heap) (locs1 : List Loc), mm_P G (sR R o 0 (some v)) N M H1 → va_S (mm_A G) s.heap H1 locs1 → H1.size = H.size → W p l e Rm s m args below meth c H1 locs1 cells slots Q (F0 m (pc + 3) ls rest)) : W p l e Rm s m args below meth c H locs cells slots Q (F0 m pc ls (.ref (mm_lo G + v) :: .ref (mm_lo G + o) :: rest)) := mm_put0 C hM hS ho (mm_e1 hT) rfl inX2 tyX2 tyX2_ok nmX2 (k := 0) (by decide) rfl (mm_in 238 (by decide +kernel) (by decide +kernel)) (Or.inr ⟨rfl, hin, rfl⟩) rfl rfl (Nat.le_of_ble_eq_true rfl) hdg (fun H1 locs1 ha oq hz hS1 => kk H1 locs1 (mm_upd hM oq (by rw [show mm_en G (sR R o 0 (some v)) M o = .inr (1, [mm_q G (R o 0), .int (M.1 o 1), .int (M.1 o 2)].set 0 (.ref (mm_lo G + v))) by rw [mm_e1 hT]; simp [sR, mm_q] <;> rfl]; exact ha) mm_en_R) hS1 hz)
theorem pX2_18 {v : Int32} (C : mm_C G p s m args meth c RX2 cc nL ret) (hM : mm_P G R N M H) (hS : va_S (mm_A G) s.heap H locs) (ho : o < N) (hT : kT o = (1, 0)) (hdg : decode cc pc = .ok (.putfield 18, 3)) (kk : ∀ (H1 : Heap) (locs1 : List Loc), mm_P G R N (sI M o 1 v) H1 → va_S (mm_A G) s.heap H1 locs1 → H1.size = H.size → W p l e Rm s m args below meth c H1 locs1 cells slots Q (F0 m (pc + 3) ls rest)) : W p l e Rm s m args below meth c H locs cells slots Q (F0 m pc ls (.int v :: .ref (mm_lo G + o) :: rest)) := mm_put0 C hM hS ho (mm_e1 hT) rfl inX2 tyX2 tyX2_ok nmX2 (k := 1) (by decide) rfl (mm_in 239 (by decide +kernel) (by decide +kernel)) (Or.inl rfl) rfl rfl (Nat.le_of_ble_eq_true rfl) hdg (fun H1 locs1 ha oq hz hS1 => kk H1 locs1 (mm_upd hM oq (by rw [show mm_en G R (sI M o 1 v) o = .inr (1, [mm_q G (R o 0), .int (M.1 o 1), .int (M.1 o 2)].set 1 (.int v)) by rw [mm_e1 hT]; simp [sI, mm_q] <;> rfl]; exact ha) mm_en_I) hS1 hz)
theorem pX2_22 {v : Int32} (C : mm_C G p s m args meth c RX2 cc nL ret) (hM : mm_P G R N M H) (hS : va_S (mm_A G) s.heap H locs) (ho : o < N) (hT : kT o = (1, 0)) (hdg : decode cc pc = .ok (.putfield 22, 3)) (kk : ∀ (H1 : Heap) (locs1 : List Loc), mm_P G R N (sI M o 2 v) H1 → va_S (mm_A G) s.heap H1 locs1 → H1.size = H.size → W p l e Rm s m args below meth c H1 locs1 cells slots Q (F0 m (pc + 3) ls rest)) : W p l e Rm s m args below meth c H locs cells slots Q (F0 m pc ls (.int v :: .ref (mm_lo G + o) :: rest)) := mm_put0 C hM hS ho (mm_e1 hT) rfl inX2 tyX2 tyX2_ok nmX2 (k := 2) (by decide) rfl (mm_in 240 (by decide +kernel) (by decide +kernel)) (Or.inl rfl) rfl rfl (Nat.le_of_ble_eq_true rfl) hdg (fun H1 locs1 ha oq hz hS1 => kk H1 locs1 (mm_upd hM oq (by rw [show mm_en G R (sI M o 2 v) o = .inr (1, [mm_q G (R o 0), .int (M.1 o 1), .int (M.1 o 2)].set 2 (.int v)) by rw [mm_e1 hT]; simp [sI, mm_q] <;> rfl]; exact ha) mm_en_I) hS1 hz)
theorem pX3_19 {v : Int32} (C : mm_C G p s m args meth c RX3 cc nL ret) (hM : mm_P G R N M H) (hS : va_S (mm_A G) s.heap H locs) (ho : o < N) (hT : kT o = (2, 0)) (hdg : decode cc pc = .ok (.putfield 19, 3)) (kk : ∀ (H1 : Heap) (locs1 : List Loc), mm_P G R N (sI M o 1 v) H1 → va_S (mm_A G) s.heap H1 locs1 → H1.size = H.size → W p l e Rm s m args below meth c H1 locs1 cells slots Q (F0 m (pc + 3) ls rest)) : W p l e Rm s m args below meth c H locs cells slots Q (F0 m pc ls (.int v :: .ref (mm_lo G + o) :: rest)) := mm_put0 C hM hS ho (mm_e2 hT) rfl inX3 tyX3 tyX3_ok nmX3 (k := 1) (by decide) rfl (mm_in 256 (by decide +kernel) (by decide +kernel)) (Or.inl rfl) rfl rfl (Nat.le_of_ble_eq_true rfl) hdg (fun H1 locs1 ha oq hz hS1 => kk H1 locs1 (mm_upd hM oq (by rw [show mm_en G R (sI M o 1 v) o = .inr (2, [mm_q G (R o 0), .int (M.1 o 1)].set 1 (.int v)) by rw [mm_e2 hT]; simp [sI, mm_q] <;> rfl]; exact ha) mm_en_I) hS1 hz)
theorem pX3_9 {v : Nat} (C : mm_C G p s m args meth c RX3 cc nL ret) (hM : mm_P G R N M H) (hS : va_S (mm_A G) s.heap H locs) (ho : o < N) (hT : kT o = (2, 0)) (hin : meth.name = "<init>") (hdg : decode cc pc = .ok (.putfield 9, 3)) (kk : ∀ (H1 : Heap) (locs1 : List Loc), mm_P G (sR R o 0 (some v)) N M H1 → va_S (mm_A G) s.heap H1 locs1 → H1.size = H.size → W p l e Rm s m args below meth c H1 locs1 cells slots Q (F0 m (pc + 3) ls rest)) : W p l e Rm s m args below meth c H locs cells slots Q (F0 m pc ls (.ref (mm_lo G + v) :: .ref (mm_lo G + o) :: rest)) := mm_put0 C hM hS ho (mm_e2 hT) rfl inX3 tyX3 tyX3_ok nmX3 (k := 0) (by decide) rfl (mm_in 255 (by decide +kernel) (by decide +kernel)) (Or.inr ⟨rfl, hin, rfl⟩) rfl rfl (Nat.le_of_ble_eq_true rfl) hdg (fun H1 locs1 ha oq hz hS1 => kk H1 locs1 (mm_upd hM oq (by rw [show mm_en G (sR R o 0 (some v)) M o = .inr (2, [mm_q G (R o 0), .int (M.1 o 1)].set 0 (.ref (mm_lo G + v))) by rw [mm_e2 hT]; simp [sR, mm_q] <;> rfl]; exact ha) mm_en_R) hS1 hz)
theorem pX4_15 {v : Int32} (C : mm_C G p s m args meth c RX4 cc nL ret) (hM : mm_P G R N M H) (hS : va_S (mm_A G) s.heap H locs) (ho : o < N) (hT : kT o = (3, 0)) (hdg : decode cc pc = .ok (.putfield 15, 3)) (kk : ∀ (H1 : Heap) (locs1 : List Loc), mm_P G R N (sI M o 1 v) H1 → va_S (mm_A G) s.heap H1 locs1 → H1.size = H.size → W p l e Rm s m args below meth c H1 locs1 cells slots Q (F0 m (pc + 3) ls rest)) : W p l e Rm s m args below meth c H locs cells slots Q (F0 m pc ls (.int v :: .ref (mm_lo G + o) :: rest)) := mm_put0 C hM hS ho (mm_e3 hT) rfl inX4 tyX4 tyX4_ok nmX4 (k := 1) (by decide) rfl (mm_in 45 (by decide +kernel) (by decide +kernel)) (Or.inl rfl) rfl rfl (Nat.le_of_ble_eq_true rfl) hdg (fun H1 locs1 ha oq hz hS1 => kk H1 locs1 (mm_upd hM oq (by rw [show mm_en G R (sI M o 1 v) o = .inr (3, [.int (M.1 o 0), .int (M.1 o 1), .int (M.1 o 2), .int (M.1 o 3)].set 1 (.int v)) by rw [mm_e3 hT]; simp [sI, mm_q] <;> rfl]; exact ha) mm_en_I) hS1 hz)
theorem pX4_18 {v : Int32} (C : mm_C G p s m args meth c RX4 cc nL ret) (hM : mm_P G R N M H) (hS : va_S (mm_A G) s.heap H locs) (ho : o < N) (hT : kT o = (3, 0)) (hdg : decode cc pc = .ok (.putfield 18, 3)) (kk : ∀ (H1 : Heap) (locs1 : List Loc), mm_P G R N (sI M o 2 v) H1 → va_S (mm_A G) s.heap H1 locs1 → H1.size = H.size → W p l e Rm s m args below meth c H1 locs1 cells slots Q (F0 m (pc + 3) ls rest)) : W p l e Rm s m args below meth c H locs cells slots Q (F0 m pc ls (.int v :: .ref (mm_lo G + o) :: rest)) := mm_put0 C hM hS ho (mm_e3 hT) rfl inX4 tyX4 tyX4_ok nmX4 (k := 2) (by decide) rfl (mm_in 48 (by decide +kernel) (by decide +kernel)) (Or.inl rfl) rfl rfl (Nat.le_of_ble_eq_true rfl) hdg (fun H1 locs1 ha oq hz hS1 => kk H1 locs1 (mm_upd hM oq (by rw [show mm_en G R (sI M o 2 v) o = .inr (3, [.int (M.1 o 0), .int (M.1 o 1), .int (M.1 o 2), .int (M.1 o 3)].set 2 (.int v)) by rw [mm_e3 hT]; simp [sI, mm_q] <;> rfl]; exact ha) mm_en_I) hS1 hz)
theorem pX4_21 {v : Int32} (C : mm_C G p s m args meth c RX4 cc nL ret) (hM : mm_P G R N M H) (hS : va_S (mm_A G) s.heap H locs) (ho : o < N) (hT : kT o = (3, 0)) (hdg : decode cc pc = .ok (.putfield 21, 3)) (kk : ∀ (H1 : Heap) (locs1 : List Loc), mm_P G R N (sI M o 3 v) H1 → va_S (mm_A G) s.heap H1 locs1 → H1.size = H.size → W p l e Rm s m args below meth c H1 locs1 cells slots Q (F0 m (pc + 3) ls rest)) : W p l e Rm s m args below meth c H locs cells slots Q (F0 m pc ls (.int v :: .ref (mm_lo G + o) :: rest)) := mm_put0 C hM hS ho (mm_e3 hT) rfl inX4 tyX4 tyX4_ok nmX4 (k := 3) (by decide) rfl (mm_in 51 (by decide +kernel) (by decide +kernel)) (Or.inl rfl) rfl rfl (Nat.le_of_ble_eq_true rfl) hdg (fun H1 locs1 ha oq hz hS1 => kk H1 locs1 (mm_upd hM oq (by rw [show mm_en G R (sI M o 3 v) o = .inr (3, [.int (M.1 o 0), .int (M.1 o 1), .int (M.1 o 2), .int (M.1 o 3)].set 3 (.int v)) by rw [mm_e3 hT]; simp [sI, mm_q] <;> rfl]; exact ha) mm_en_I) hS1 hz)
theorem pX4_9 {v : Int32} (C : mm_C G p s m args meth c RX4 cc nL ret) (hM : mm_P G R N M H) (hS : va_S (mm_A G) s.heap H locs) (ho : o < N) (hT : kT o = (3, 0)) (hdg : decode cc pc = .ok (.putfield 9, 3)) (kk : ∀ (H1 : Heap) (locs1 : List Loc), mm_P G R N (sI M o 0 v) H1 → va_S (mm_A G) s.heap H1 locs1 → H1.size = H.size → W p l e Rm s m args below meth c H1 locs1 cells slots Q (F0 m (pc + 3) ls rest)) : W p l e Rm s m args below meth c H locs cells slots Q (F0 m pc ls (.int v :: .ref (mm_lo G + o) :: rest)) := mm_put0 C hM hS ho (mm_e3 hT) rfl inX4 tyX4 tyX4_ok nmX4 (k := 0) (by decide) rfl (mm_in 41 (by decide +kernel) (by decide +kernel)) (Or.inl rfl) rfl rfl (Nat.le_of_ble_eq_true rfl) hdg (fun H1 locs1 ha oq hz hS1 => kk H1 locs1 (mm_upd hM oq (by rw [show mm_en G R (sI M o 0 v) o = .inr (3, [.int (M.1 o 0), .int (M.1 o 1), .int (M.1 o 2), .int (M.1 o 3)].set 0 (.int v)) by rw [mm_e3 hT]; simp [sI, mm_q] <;> rfl]; exact ha) mm_en_I) hS1 hz)
theorem pX5_103 {v : Int32} (C : mm_C G p s m args meth c RX5 cc nL ret) (hM : mm_P G R N M H) (hS : va_S (mm_A G) s.heap H locs) (ho : o < N) (hT : kT o = (0, 0)) (hdg : decode cc pc = .ok (.putfield 103, 3)) (kk : ∀ (H1 : Heap) (locs1 : List Loc), mm_P G R N (sI M o 2 v) H1 → va_S (mm_A G) s.heap H1 locs1 → H1.size = H.size → W p l e Rm s m args below meth c H1 locs1 cells slots Q (F0 m (pc + 3) ls rest)) : W p l e Rm s m args below meth c H locs cells slots Q (F0 m pc ls (.int v :: .ref (mm_lo G + o) :: rest)) := mm_put0 C hM hS ho (mm_e0 hT) rfl inX0 tyX0 tyX0_ok nmX0 (k := 2) (by decide) rfl (mm_in 78 (by decide +kernel) (by decide +kernel)) (Or.inl rfl) rfl rfl (Nat.le_of_ble_eq_true rfl) hdg (fun H1 locs1 ha oq hz hS1 => kk H1 locs1 (mm_upd hM oq (by rw [show mm_en G R (sI M o 2 v) o = .inr (0, [.int (M.1 o 0), .int (M.1 o 1), .int (M.1 o 2), .int (M.1 o 3), .int (M.1 o 4), .int (M.1 o 5), .int (M.1 o 6), .int (M.1 o 7), .int (M.1 o 8), .int (M.1 o 9), .int (M.1 o 10), .int (M.1 o 11), .long (M.2 o 12), .long (M.2 o 13), .long (M.2 o 14), .long (M.2 o 15), mm_q G (R o 16), mm_q G (R o 17)].set 2 (.int v)) by rw [mm_e0 hT]; simp [sI, mm_q] <;> rfl]; exact ha) mm_en_I) hS1 hz)
theorem pX5_113 {v : Int64} (C : mm_C G p s m args meth c RX5 cc nL ret) (hM : mm_P G R N M H) (hS : va_S (mm_A G) s.heap H locs) (ho : o < N) (hT : kT o = (0, 0)) (hdg : decode cc pc = .ok (.putfield 113, 3)) (kk : ∀ (H1 : Heap) (locs1 : List Loc), mm_P G R N (sL M o 14 v) H1 → va_S (mm_A G) s.heap H1 locs1 → H1.size = H.size → W p l e Rm s m args below meth c H1 locs1 cells slots Q (F0 m (pc + 3) ls rest)) : W p l e Rm s m args below meth c H locs cells slots Q (F0 m pc ls (.long v :: .ref (mm_lo G + o) :: rest)) := mm_put0 C hM hS ho (mm_e0 hT) rfl inX0 tyX0 tyX0_ok nmX0 (k := 14) (by decide) rfl (mm_in 116 (by decide +kernel) (by decide +kernel)) (Or.inl rfl) rfl rfl (Nat.le_of_ble_eq_true rfl) hdg (fun H1 locs1 ha oq hz hS1 => kk H1 locs1 (mm_upd hM oq (by rw [show mm_en G R (sL M o 14 v) o = .inr (0, [.int (M.1 o 0), .int (M.1 o 1), .int (M.1 o 2), .int (M.1 o 3), .int (M.1 o 4), .int (M.1 o 5), .int (M.1 o 6), .int (M.1 o 7), .int (M.1 o 8), .int (M.1 o 9), .int (M.1 o 10), .int (M.1 o 11), .long (M.2 o 12), .long (M.2 o 13), .long (M.2 o 14), .long (M.2 o 15), mm_q G (R o 16), mm_q G (R o 17)].set 14 (.long v)) by rw [mm_e0 hT]; simp [sL, mm_q] <;> rfl]; exact ha) mm_en_L) hS1 hz)
theorem pX5_125 {v : Int32} (C : mm_C G p s m args meth c RX5 cc nL ret) (hM : mm_P G R N M H) (hS : va_S (mm_A G) s.heap H locs) (ho : o < N) (hT : kT o = (0, 0)) (hdg : decode cc pc = .ok (.putfield 125, 3)) (kk : ∀ (H1 : Heap) (locs1 : List Loc), mm_P G R N (sI M o 6 v) H1 → va_S (mm_A G) s.heap H1 locs1 → H1.size = H.size → W p l e Rm s m args below meth c H1 locs1 cells slots Q (F0 m (pc + 3) ls rest)) : W p l e Rm s m args below meth c H locs cells slots Q (F0 m pc ls (.int v :: .ref (mm_lo G + o) :: rest)) := mm_put0 C hM hS ho (mm_e0 hT) rfl inX0 tyX0 tyX0_ok nmX0 (k := 6) (by decide) rfl (mm_in 91 (by decide +kernel) (by decide +kernel)) (Or.inl rfl) rfl rfl (Nat.le_of_ble_eq_true rfl) hdg (fun H1 locs1 ha oq hz hS1 => kk H1 locs1 (mm_upd hM oq (by rw [show mm_en G R (sI M o 6 v) o = .inr (0, [.int (M.1 o 0), .int (M.1 o 1), .int (M.1 o 2), .int (M.1 o 3), .int (M.1 o 4), .int (M.1 o 5), .int (M.1 o 6), .int (M.1 o 7), .int (M.1 o 8), .int (M.1 o 9), .int (M.1 o 10), .int (M.1 o 11), .long (M.2 o 12), .long (M.2 o 13), .long (M.2 o 14), .long (M.2 o 15), mm_q G (R o 16), mm_q G (R o 17)].set 6 (.int v)) by rw [mm_e0 hT]; simp [sI, mm_q] <;> rfl]; exact ha) mm_en_I) hS1 hz)
theorem pX5_131 {v : Int32} (C : mm_C G p s m args meth c RX5 cc nL ret) (hM : mm_P G R N M H) (hS : va_S (mm_A G) s.heap H locs) (ho : o < N) (hT : kT o = (0, 0)) (hn : v = 0 ∨ v = 1) (hdg : decode cc pc = .ok (.putfield 131, 3)) (kk : ∀ (H1 : Heap) (locs1 : List Loc), mm_P G R N (sI M o 5 v) H1 → va_S (mm_A G) s.heap H1 locs1 → H1.size = H.size → W p l e Rm s m args below meth c H1 locs1 cells slots Q (F0 m (pc + 3) ls rest)) : W p l e Rm s m args below meth c H locs cells slots Q (F0 m pc ls (.int v :: .ref (mm_lo G + o) :: rest)) := mm_put0 C hM hS ho (mm_e0 hT) rfl inX0 tyX0 tyX0_ok nmX0 (k := 5) (by decide) rfl (mm_in 88 (by decide +kernel) (by decide +kernel)) (Or.inl rfl) (nb01 hn) (fb01 hn) (Nat.le_of_ble_eq_true rfl) hdg (fun H1 locs1 ha oq hz hS1 => kk H1 locs1 (mm_upd hM oq (by rw [show mm_en G R (sI M o 5 v) o = .inr (0, [.int (M.1 o 0), .int (M.1 o 1), .int (M.1 o 2), .int (M.1 o 3), .int (M.1 o 4), .int (M.1 o 5), .int (M.1 o 6), .int (M.1 o 7), .int (M.1 o 8), .int (M.1 o 9), .int (M.1 o 10), .int (M.1 o 11), .long (M.2 o 12), .long (M.2 o 13), .long (M.2 o 14), .long (M.2 o 15), mm_q G (R o 16), mm_q G (R o 17)].set 5 (.int v)) by rw [mm_e0 hT]; simp [sI, mm_q] <;> rfl]; exact ha) mm_en_I) hS1 hz)
theorem pX5_140 {v : Int64} (C : mm_C G p s m args meth c RX5 cc nL ret) (hM : mm_P G R N M H) (hS : va_S (mm_A G) s.heap H locs) (ho : o < N) (hT : kT o = (0, 0)) (hdg : decode cc pc = .ok (.putfield 140, 3)) (kk : ∀ (H1 : Heap) (locs1 : List Loc), mm_P G R N (sL M o 12 v) H1 → va_S (mm_A G) s.heap H1 locs1 → H1.size = H.size → W p l e Rm s m args below meth c H1 locs1 cells slots Q (F0 m (pc + 3) ls rest)) : W p l e Rm s m args below meth c H locs cells slots Q (F0 m pc ls (.long v :: .ref (mm_lo G + o) :: rest)) := mm_put0 C hM hS ho (mm_e0 hT) rfl inX0 tyX0 tyX0_ok nmX0 (k := 12) (by decide) rfl (mm_in 110 (by decide +kernel) (by decide +kernel)) (Or.inl rfl) rfl rfl (Nat.le_of_ble_eq_true rfl) hdg (fun H1 locs1 ha oq hz hS1 => kk H1 locs1 (mm_upd hM oq (by rw [show mm_en G R (sL M o 12 v) o = .inr (0, [.int (M.1 o 0), .int (M.1 o 1), .int (M.1 o 2), .int (M.1 o 3), .int (M.1 o 4), .int (M.1 o 5), .int (M.1 o 6), .int (M.1 o 7), .int (M.1 o 8), .int (M.1 o 9), .int (M.1 o 10), .int (M.1 o 11), .long (M.2 o 12), .long (M.2 o 13), .long (M.2 o 14), .long (M.2 o 15), mm_q G (R o 16), mm_q G (R o 17)].set 12 (.long v)) by rw [mm_e0 hT]; simp [sL, mm_q] <;> rfl]; exact ha) mm_en_L) hS1 hz)
theorem pX5_15 {v : Nat} (C : mm_C G p s m args meth c RX5 cc nL ret) (hM : mm_P G R N M H) (hS : va_S (mm_A G) s.heap H locs) (ho : o < N) (hT : kT o = (4, 0)) (hin : meth.name = "<init>") (hdg : decode cc pc = .ok (.putfield 15, 3)) (kk : ∀ (H1 : Heap) (locs1 : List Loc), mm_P G (sR R o 7 (some v)) N M H1 → va_S (mm_A G) s.heap H1 locs1 → H1.size = H.size → W p l e Rm s m args below meth c H1 locs1 cells slots Q (F0 m (pc + 3) ls rest)) : W p l e Rm s m args below meth c H locs cells slots Q (F0 m pc ls (.ref (mm_lo G + v) :: .ref (mm_lo G + o) :: rest)) := mm_put0 C hM hS ho (mm_e4 hT) rfl inX5 tyX5 tyX5_ok nmX5 (k := 7) (by decide) rfl (mm_in 180 (by decide +kernel) (by decide +kernel)) (Or.inr ⟨rfl, hin, rfl⟩) rfl rfl (Nat.le_of_ble_eq_true rfl) hdg (fun H1 locs1 ha oq hz hS1 => kk H1 locs1 (mm_upd hM oq (by rw [show mm_en G (sR R o 7 (some v)) M o = .inr (4, [.int (M.1 o 0), .int (M.1 o 1), .int (M.1 o 2), .int (M.1 o 3), .int (M.1 o 4), .int (M.1 o 5), .int (M.1 o 6), mm_q G (R o 7), mm_q G (R o 8), mm_q G (R o 9), mm_q G (R o 10), mm_q G (R o 11), mm_q G (R o 12), mm_q G (R o 13), .int (M.1 o 14)].set 7 (.ref (mm_lo G + v))) by rw [mm_e4 hT]; simp [sR, mm_q] <;> rfl]; exact ha) mm_en_R) hS1 hz)
theorem pX5_174 {v : Int32} (C : mm_C G p s m args meth c RX5 cc nL ret) (hM : mm_P G R N M H) (hS : va_S (mm_A G) s.heap H locs) (ho : o < N) (hT : kT o = (0, 0)) (hdg : decode cc pc = .ok (.putfield 174, 3)) (kk : ∀ (H1 : Heap) (locs1 : List Loc), mm_P G R N (sI M o 8 v) H1 → va_S (mm_A G) s.heap H1 locs1 → H1.size = H.size → W p l e Rm s m args below meth c H1 locs1 cells slots Q (F0 m (pc + 3) ls rest)) : W p l e Rm s m args below meth c H locs cells slots Q (F0 m pc ls (.int v :: .ref (mm_lo G + o) :: rest)) := mm_put0 C hM hS ho (mm_e0 hT) rfl inX0 tyX0 tyX0_ok nmX0 (k := 8) (by decide) rfl (mm_in 99 (by decide +kernel) (by decide +kernel)) (Or.inl rfl) rfl rfl (Nat.le_of_ble_eq_true rfl) hdg (fun H1 locs1 ha oq hz hS1 => kk H1 locs1 (mm_upd hM oq (by rw [show mm_en G R (sI M o 8 v) o = .inr (0, [.int (M.1 o 0), .int (M.1 o 1), .int (M.1 o 2), .int (M.1 o 3), .int (M.1 o 4), .int (M.1 o 5), .int (M.1 o 6), .int (M.1 o 7), .int (M.1 o 8), .int (M.1 o 9), .int (M.1 o 10), .int (M.1 o 11), .long (M.2 o 12), .long (M.2 o 13), .long (M.2 o 14), .long (M.2 o 15), mm_q G (R o 16), mm_q G (R o 17)].set 8 (.int v)) by rw [mm_e0 hT]; simp [sI, mm_q] <;> rfl]; exact ha) mm_en_I) hS1 hz)
theorem pX5_177 {v : Int32} (C : mm_C G p s m args meth c RX5 cc nL ret) (hM : mm_P G R N M H) (hS : va_S (mm_A G) s.heap H locs) (ho : o < N) (hT : kT o = (3, 0)) (hdg : decode cc pc = .ok (.putfield 177, 3)) (kk : ∀ (H1 : Heap) (locs1 : List Loc), mm_P G R N (sI M o 3 v) H1 → va_S (mm_A G) s.heap H1 locs1 → H1.size = H.size → W p l e Rm s m args below meth c H1 locs1 cells slots Q (F0 m (pc + 3) ls rest)) : W p l e Rm s m args below meth c H locs cells slots Q (F0 m pc ls (.int v :: .ref (mm_lo G + o) :: rest)) := mm_put0 C hM hS ho (mm_e3 hT) rfl inX4 tyX4 tyX4_ok nmX4 (k := 3) (by decide) rfl (mm_in 54 (by decide +kernel) (by decide +kernel)) (Or.inl rfl) rfl rfl (Nat.le_of_ble_eq_true rfl) hdg (fun H1 locs1 ha oq hz hS1 => kk H1 locs1 (mm_upd hM oq (by rw [show mm_en G R (sI M o 3 v) o = .inr (3, [.int (M.1 o 0), .int (M.1 o 1), .int (M.1 o 2), .int (M.1 o 3)].set 3 (.int v)) by rw [mm_e3 hT]; simp [sI, mm_q] <;> rfl]; exact ha) mm_en_I) hS1 hz)
theorem pX5_21 {v : Nat} (C : mm_C G p s m args meth c RX5 cc nL ret) (hM : mm_P G R N M H) (hS : va_S (mm_A G) s.heap H locs) (ho : o < N) (hT : kT o = (4, 0)) (hin : meth.name = "<init>") (hdg : decode cc pc = .ok (.putfield 21, 3)) (kk : ∀ (H1 : Heap) (locs1 : List Loc), mm_P G (sR R o 8 (some v)) N M H1 → va_S (mm_A G) s.heap H1 locs1 → H1.size = H.size → W p l e Rm s m args below meth c H1 locs1 cells slots Q (F0 m (pc + 3) ls rest)) : W p l e Rm s m args below meth c H locs cells slots Q (F0 m pc ls (.ref (mm_lo G + v) :: .ref (mm_lo G + o) :: rest)) := mm_put0 C hM hS ho (mm_e4 hT) rfl inX5 tyX5 tyX5_ok nmX5 (k := 8) (by decide) rfl (mm_in 183 (by decide +kernel) (by decide +kernel)) (Or.inr ⟨rfl, hin, rfl⟩) rfl rfl (Nat.le_of_ble_eq_true rfl) hdg (fun H1 locs1 ha oq hz hS1 => kk H1 locs1 (mm_upd hM oq (by rw [show mm_en G (sR R o 8 (some v)) M o = .inr (4, [.int (M.1 o 0), .int (M.1 o 1), .int (M.1 o 2), .int (M.1 o 3), .int (M.1 o 4), .int (M.1 o 5), .int (M.1 o 6), mm_q G (R o 7), mm_q G (R o 8), mm_q G (R o 9), mm_q G (R o 10), mm_q G (R o 11), mm_q G (R o 12), mm_q G (R o 13), .int (M.1 o 14)].set 8 (.ref (mm_lo G + v))) by rw [mm_e4 hT]; simp [sR, mm_q] <;> rfl]; exact ha) mm_en_R) hS1 hz)
theorem pX5_27 {v : Nat} (C : mm_C G p s m args meth c RX5 cc nL ret) (hM : mm_P G R N M H) (hS : va_S (mm_A G) s.heap H locs) (ho : o < N) (hT : kT o = (4, 0)) (hin : meth.name = "<init>") (hdg : decode cc pc = .ok (.putfield 27, 3)) (kk : ∀ (H1 : Heap) (locs1 : List Loc), mm_P G (sR R o 9 (some v)) N M H1 → va_S (mm_A G) s.heap H1 locs1 → H1.size = H.size → W p l e Rm s m args below meth c H1 locs1 cells slots Q (F0 m (pc + 3) ls rest)) : W p l e Rm s m args below meth c H locs cells slots Q (F0 m pc ls (.ref (mm_lo G + v) :: .ref (mm_lo G + o) :: rest)) := mm_put0 C hM hS ho (mm_e4 hT) rfl inX5 tyX5 tyX5_ok nmX5 (k := 9) (by decide) rfl (mm_in 186 (by decide +kernel) (by decide +kernel)) (Or.inr ⟨rfl, hin, rfl⟩) rfl rfl (Nat.le_of_ble_eq_true rfl) hdg (fun H1 locs1 ha oq hz hS1 => kk H1 locs1 (mm_upd hM oq (by rw [show mm_en G (sR R o 9 (some v)) M o = .inr (4, [.int (M.1 o 0), .int (M.1 o 1), .int (M.1 o 2), .int (M.1 o 3), .int (M.1 o 4), .int (M.1 o 5), .int (M.1 o 6), mm_q G (R o 7), mm_q G (R o 8), mm_q G (R o 9), mm_q G (R o 10), mm_q G (R o 11), mm_q G (R o 12), mm_q G (R o 13), .int (M.1 o 14)].set 9 (.ref (mm_lo G + v))) by rw [mm_e4 hT]; simp [sR, mm_q] <;> rfl]; exact ha) mm_en_R) hS1 hz)
theorem pX5_31 {v : Nat} (C : mm_C G p s m args meth c RX5 cc nL ret) (hM : mm_P G R N M H) (hS : va_S (mm_A G) s.heap H locs) (ho : o < N) (hT : kT o = (4, 0)) (hin : meth.name = "<init>") (hdg : decode cc pc = .ok (.putfield 31, 3)) (kk : ∀ (H1 : Heap) (locs1 : List Loc), mm_P G (sR R o 10 (some v)) N M H1 → va_S (mm_A G) s.heap H1 locs1 → H1.size = H.size → W p l e Rm s m args below meth c H1 locs1 cells slots Q (F0 m (pc + 3) ls rest)) : W p l e Rm s m args below meth c H locs cells slots Q (F0 m pc ls (.ref (mm_lo G + v) :: .ref (mm_lo G + o) :: rest)) := mm_put0 C hM hS ho (mm_e4 hT) rfl inX5 tyX5 tyX5_ok nmX5 (k := 10) (by decide) rfl (mm_in 189 (by decide +kernel) (by decide +kernel)) (Or.inr ⟨rfl, hin, rfl⟩) rfl rfl (Nat.le_of_ble_eq_true rfl) hdg (fun H1 locs1 ha oq hz hS1 => kk H1 locs1 (mm_upd hM oq (by rw [show mm_en G (sR R o 10 (some v)) M o = .inr (4, [.int (M.1 o 0), .int (M.1 o 1), .int (M.1 o 2), .int (M.1 o 3), .int (M.1 o 4), .int (M.1 o 5), .int (M.1 o 6), mm_q G (R o 7), mm_q G (R o 8), mm_q G (R o 9), mm_q G (R o 10), mm_q G (R o 11), mm_q G (R o 12), mm_q G (R o 13), .int (M.1 o 14)].set 10 (.ref (mm_lo G + v))) by rw [mm_e4 hT]; simp [sR, mm_q] <;> rfl]; exact ha) mm_en_R) hS1 hz)
theorem pX5_34 {v : Nat} (C : mm_C G p s m args meth c RX5 cc nL ret) (hM : mm_P G R N M H) (hS : va_S (mm_A G) s.heap H locs) (ho : o < N) (hT : kT o = (4, 0)) (hin : meth.name = "<init>") (hdg : decode cc pc = .ok (.putfield 34, 3)) (kk : ∀ (H1 : Heap) (locs1 : List Loc), mm_P G (sR R o 11 (some v)) N M H1 → va_S (mm_A G) s.heap H1 locs1 → H1.size = H.size → W p l e Rm s m args below meth c H1 locs1 cells slots Q (F0 m (pc + 3) ls rest)) : W p l e Rm s m args below meth c H locs cells slots Q (F0 m pc ls (.ref (mm_lo G + v) :: .ref (mm_lo G + o) :: rest)) := mm_put0 C hM hS ho (mm_e4 hT) rfl inX5 tyX5 tyX5_ok nmX5 (k := 11) (by decide) rfl (mm_in 191 (by decide +kernel) (by decide +kernel)) (Or.inr ⟨rfl, hin, rfl⟩) rfl rfl (Nat.le_of_ble_eq_true rfl) hdg (fun H1 locs1 ha oq hz hS1 => kk H1 locs1 (mm_upd hM oq (by rw [show mm_en G (sR R o 11 (some v)) M o = .inr (4, [.int (M.1 o 0), .int (M.1 o 1), .int (M.1 o 2), .int (M.1 o 3), .int (M.1 o 4), .int (M.1 o 5), .int (M.1 o 6), mm_q G (R o 7), mm_q G (R o 8), mm_q G (R o 9), mm_q G (R o 10), mm_q G (R o 11), mm_q G (R o 12), mm_q G (R o 13), .int (M.1 o 14)].set 11 (.ref (mm_lo G + v))) by rw [mm_e4 hT]; simp [sR, mm_q] <;> rfl]; exact ha) mm_en_R) hS1 hz)
theorem pX5_37 {v : Nat} (C : mm_C G p s m args meth c RX5 cc nL ret) (hM : mm_P G R N M H) (hS : va_S (mm_A G) s.heap H locs) (ho : o < N) (hT : kT o = (4, 0)) (hin : meth.name = "<init>") (hdg : decode cc pc = .ok (.putfield 37, 3)) (kk : ∀ (H1 : Heap) (locs1 : List Loc), mm_P G (sR R o 12 (some v)) N M H1 → va_S (mm_A G) s.heap H1 locs1 → H1.size = H.size → W p l e Rm s m args below meth c H1 locs1 cells slots Q (F0 m (pc + 3) ls rest)) : W p l e Rm s m args below meth c H locs cells slots Q (F0 m pc ls (.ref (mm_lo G + v) :: .ref (mm_lo G + o) :: rest)) := mm_put0 C hM hS ho (mm_e4 hT) rfl inX5 tyX5 tyX5_ok nmX5 (k := 12) (by decide) rfl (mm_in 193 (by decide +kernel) (by decide +kernel)) (Or.inr ⟨rfl, hin, rfl⟩) rfl rfl (Nat.le_of_ble_eq_true rfl) hdg (fun H1 locs1 ha oq hz hS1 => kk H1 locs1 (mm_upd hM oq (by rw [show mm_en G (sR R o 12 (some v)) M o = .inr (4, [.int (M.1 o 0), .int (M.1 o 1), .int (M.1 o 2), .int (M.1 o 3), .int (M.1 o 4), .int (M.1 o 5), .int (M.1 o 6), mm_q G (R o 7), mm_q G (R o 8), mm_q G (R o 9), mm_q G (R o 10), mm_q G (R o 11), mm_q G (R o 12), mm_q G (R o 13), .int (M.1 o 14)].set 12 (.ref (mm_lo G + v))) by rw [mm_e4 hT]; simp [sR, mm_q] <;> rfl]; exact ha) mm_en_R) hS1 hz)
theorem pX5_40 {v : Nat} (C : mm_C G p s m args meth c RX5 cc nL ret) (hM : mm_P G R N M H) (hS : va_S (mm_A G) s.heap H locs) (ho : o < N) (hT : kT o = (4, 0)) (hin : meth.name = "<init>") (hdg : decode cc pc = .ok (.putfield 40, 3)) (kk : ∀ (H1 : Heap) (locs1 : List Loc), mm_P G (sR R o 13 (some v)) N M H1 → va_S (mm_A G) s.heap H1 locs1 → H1.size = H.size → W p l e Rm s m args below meth c H1 locs1 cells slots Q (F0 m (pc + 3) ls rest)) : W p l e Rm s m args below meth c H locs cells slots Q (F0 m pc ls (.ref (mm_lo G + v) :: .ref (mm_lo G + o) :: rest)) := mm_put0 C hM hS ho (mm_e4 hT) rfl inX5 tyX5 tyX5_ok nmX5 (k := 13) (by decide) rfl (mm_in 195 (by decide +kernel) (by decide +kernel)) (Or.inr ⟨rfl, hin, rfl⟩) rfl rfl (Nat.le_of_ble_eq_true rfl) hdg (fun H1 locs1 ha oq hz hS1 => kk H1 locs1 (mm_upd hM oq (by rw [show mm_en G (sR R o 13 (some v)) M o = .inr (4, [.int (M.1 o 0), .int (M.1 o 1), .int (M.1 o 2), .int (M.1 o 3), .int (M.1 o 4), .int (M.1 o 5), .int (M.1 o 6), mm_q G (R o 7), mm_q G (R o 8), mm_q G (R o 9), mm_q G (R o 10), mm_q G (R o 11), mm_q G (R o 12), mm_q G (R o 13), .int (M.1 o 14)].set 13 (.ref (mm_lo G + v))) by rw [mm_e4 hT]; simp [sR, mm_q] <;> rfl]; exact ha) mm_en_R) hS1 hz)
theorem pX5_48 {v : Int32} (C : mm_C G p s m args meth c RX5 cc nL ret) (hM : mm_P G R N M H) (hS : va_S (mm_A G) s.heap H locs) (ho : o < N) (hT : kT o = (4, 0)) (hdg : decode cc pc = .ok (.putfield 48, 3)) (kk : ∀ (H1 : Heap) (locs1 : List Loc), mm_P G R N (sI M o 0 v) H1 → va_S (mm_A G) s.heap H1 locs1 → H1.size = H.size → W p l e Rm s m args below meth c H1 locs1 cells slots Q (F0 m (pc + 3) ls rest)) : W p l e Rm s m args below meth c H locs cells slots Q (F0 m pc ls (.int v :: .ref (mm_lo G + o) :: rest)) := mm_put0 C hM hS ho (mm_e4 hT) rfl inX5 tyX5 tyX5_ok nmX5 (k := 0) (by decide) rfl (mm_in 161 (by decide +kernel) (by decide +kernel)) (Or.inl rfl) rfl rfl (Nat.le_of_ble_eq_true rfl) hdg (fun H1 locs1 ha oq hz hS1 => kk H1 locs1 (mm_upd hM oq (by rw [show mm_en G R (sI M o 0 v) o = .inr (4, [.int (M.1 o 0), .int (M.1 o 1), .int (M.1 o 2), .int (M.1 o 3), .int (M.1 o 4), .int (M.1 o 5), .int (M.1 o 6), mm_q G (R o 7), mm_q G (R o 8), mm_q G (R o 9), mm_q G (R o 10), mm_q G (R o 11), mm_q G (R o 12), mm_q G (R o 13), .int (M.1 o 14)].set 0 (.int v)) by rw [mm_e4 hT]; simp [sI, mm_q] <;> rfl]; exact ha) mm_en_I) hS1 hz)
theorem pX5_51 {v : Int32} (C : mm_C G p s m args meth c RX5 cc nL ret) (hM : mm_P G R N M H) (hS : va_S (mm_A G) s.heap H locs) (ho : o < N) (hT : kT o = (4, 0)) (hdg : decode cc pc = .ok (.putfield 51, 3)) (kk : ∀ (H1 : Heap) (locs1 : List Loc), mm_P G R N (sI M o 2 v) H1 → va_S (mm_A G) s.heap H1 locs1 → H1.size = H.size → W p l e Rm s m args below meth c H1 locs1 cells slots Q (F0 m (pc + 3) ls rest)) : W p l e Rm s m args below meth c H locs cells slots Q (F0 m pc ls (.int v :: .ref (mm_lo G + o) :: rest)) := mm_put0 C hM hS ho (mm_e4 hT) rfl inX5 tyX5 tyX5_ok nmX5 (k := 2) (by decide) rfl (mm_in 167 (by decide +kernel) (by decide +kernel)) (Or.inl rfl) rfl rfl (Nat.le_of_ble_eq_true rfl) hdg (fun H1 locs1 ha oq hz hS1 => kk H1 locs1 (mm_upd hM oq (by rw [show mm_en G R (sI M o 2 v) o = .inr (4, [.int (M.1 o 0), .int (M.1 o 1), .int (M.1 o 2), .int (M.1 o 3), .int (M.1 o 4), .int (M.1 o 5), .int (M.1 o 6), mm_q G (R o 7), mm_q G (R o 8), mm_q G (R o 9), mm_q G (R o 10), mm_q G (R o 11), mm_q G (R o 12), mm_q G (R o 13), .int (M.1 o 14)].set 2 (.int v)) by rw [mm_e4 hT]; simp [sI, mm_q] <;> rfl]; exact ha) mm_en_I) hS1 hz)
theorem pX5_54 {v : Int32} (C : mm_C G p s m args meth c RX5 cc nL ret) (hM : mm_P G R N M H) (hS : va_S (mm_A G) s.heap H locs) (ho : o < N) (hT : kT o = (4, 0)) (hdg : decode cc pc = .ok (.putfield 54, 3)) (kk : ∀ (H1 : Heap) (locs1 : List Loc), mm_P G R N (sI M o 3 v) H1 → va_S (mm_A G) s.heap H1 locs1 → H1.size = H.size → W p l e Rm s m args below meth c H1 locs1 cells slots Q (F0 m (pc + 3) ls rest)) : W p l e Rm s m args below meth c H locs cells slots Q (F0 m pc ls (.int v :: .ref (mm_lo G + o) :: rest)) := mm_put0 C hM hS ho (mm_e4 hT) rfl inX5 tyX5 tyX5_ok nmX5 (k := 3) (by decide) rfl (mm_in 170 (by decide +kernel) (by decide +kernel)) (Or.inl rfl) rfl rfl (Nat.le_of_ble_eq_true rfl) hdg (fun H1 locs1 ha oq hz hS1 => kk H1 locs1 (mm_upd hM oq (by rw [show mm_en G R (sI M o 3 v) o = .inr (4, [.int (M.1 o 0), .int (M.1 o 1), .int (M.1 o 2), .int (M.1 o 3), .int (M.1 o 4), .int (M.1 o 5), .int (M.1 o 6), mm_q G (R o 7), mm_q G (R o 8), mm_q G (R o 9), mm_q G (R o 10), mm_q G (R o 11), mm_q G (R o 12), mm_q G (R o 13), .int (M.1 o 14)].set 3 (.int v)) by rw [mm_e4 hT]; simp [sI, mm_q] <;> rfl]; exact ha) mm_en_I) hS1 hz)
theorem pX5_57 {v : Int32} (C : mm_C G p s m args meth c RX5 cc nL ret) (hM : mm_P G R N M H) (hS : va_S (mm_A G) s.heap H locs) (ho : o < N) (hT : kT o = (4, 0)) (hdg : decode cc pc = .ok (.putfield 57, 3)) (kk : ∀ (H1 : Heap) (locs1 : List Loc), mm_P G R N (sI M o 4 v) H1 → va_S (mm_A G) s.heap H1 locs1 → H1.size = H.size → W p l e Rm s m args below meth c H1 locs1 cells slots Q (F0 m (pc + 3) ls rest)) : W p l e Rm s m args below meth c H locs cells slots Q (F0 m pc ls (.int v :: .ref (mm_lo G + o) :: rest)) := mm_put0 C hM hS ho (mm_e4 hT) rfl inX5 tyX5 tyX5_ok nmX5 (k := 4) (by decide) rfl (mm_in 173 (by decide +kernel) (by decide +kernel)) (Or.inl rfl) rfl rfl (Nat.le_of_ble_eq_true rfl) hdg (fun H1 locs1 ha oq hz hS1 => kk H1 locs1 (mm_upd hM oq (by rw [show mm_en G R (sI M o 4 v) o = .inr (4, [.int (M.1 o 0), .int (M.1 o 1), .int (M.1 o 2), .int (M.1 o 3), .int (M.1 o 4), .int (M.1 o 5), .int (M.1 o 6), mm_q G (R o 7), mm_q G (R o 8), mm_q G (R o 9), mm_q G (R o 10), mm_q G (R o 11), mm_q G (R o 12), mm_q G (R o 13), .int (M.1 o 14)].set 4 (.int v)) by rw [mm_e4 hT]; simp [sI, mm_q] <;> rfl]; exact ha) mm_en_I) hS1 hz)
theorem pX5_60 {v : Int32} (C : mm_C G p s m args meth c RX5 cc nL ret) (hM : mm_P G R N M H) (hS : va_S (mm_A G) s.heap H locs) (ho : o < N) (hT : kT o = (4, 0)) (hdg : decode cc pc = .ok (.putfield 60, 3)) (kk : ∀ (H1 : Heap) (locs1 : List Loc), mm_P G R N (sI M o 5 v) H1 → va_S (mm_A G) s.heap H1 locs1 → H1.size = H.size → W p l e Rm s m args below meth c H1 locs1 cells slots Q (F0 m (pc + 3) ls rest)) : W p l e Rm s m args below meth c H locs cells slots Q (F0 m pc ls (.int v :: .ref (mm_lo G + o) :: rest)) := mm_put0 C hM hS ho (mm_e4 hT) rfl inX5 tyX5 tyX5_ok nmX5 (k := 5) (by decide) rfl (mm_in 176 (by decide +kernel) (by decide +kernel)) (Or.inl rfl) rfl rfl (Nat.le_of_ble_eq_true rfl) hdg (fun H1 locs1 ha oq hz hS1 => kk H1 locs1 (mm_upd hM oq (by rw [show mm_en G R (sI M o 5 v) o = .inr (4, [.int (M.1 o 0), .int (M.1 o 1), .int (M.1 o 2), .int (M.1 o 3), .int (M.1 o 4), .int (M.1 o 5), .int (M.1 o 6), mm_q G (R o 7), mm_q G (R o 8), mm_q G (R o 9), mm_q G (R o 10), mm_q G (R o 11), mm_q G (R o 12), mm_q G (R o 13), .int (M.1 o 14)].set 5 (.int v)) by rw [mm_e4 hT]; simp [sI, mm_q] <;> rfl]; exact ha) mm_en_I) hS1 hz)
theorem pX5_9 {v : Int32} (C : mm_C G p s m args meth c RX5 cc nL ret) (hM : mm_P G R N M H) (hS : va_S (mm_A G) s.heap H locs) (ho : o < N) (hT : kT o = (4, 0)) (hdg : decode cc pc = .ok (.putfield 9, 3)) (kk : ∀ (H1 : Heap) (locs1 : List Loc), mm_P G R N (sI M o 1 v) H1 → va_S (mm_A G) s.heap H1 locs1 → H1.size = H.size → W p l e Rm s m args below meth c H1 locs1 cells slots Q (F0 m (pc + 3) ls rest)) : W p l e Rm s m args below meth c H locs cells slots Q (F0 m pc ls (.int v :: .ref (mm_lo G + o) :: rest)) := mm_put0 C hM hS ho (mm_e4 hT) rfl inX5 tyX5 tyX5_ok nmX5 (k := 1) (by decide) rfl (mm_in 164 (by decide +kernel) (by decide +kernel)) (Or.inl rfl) rfl rfl (Nat.le_of_ble_eq_true rfl) hdg (fun H1 locs1 ha oq hz hS1 => kk H1 locs1 (mm_upd hM oq (by rw [show mm_en G R (sI M o 1 v) o = .inr (4, [.int (M.1 o 0), .int (M.1 o 1), .int (M.1 o 2), .int (M.1 o 3), .int (M.1 o 4), .int (M.1 o 5), .int (M.1 o 6), mm_q G (R o 7), mm_q G (R o 8), mm_q G (R o 9), mm_q G (R o 10), mm_q G (R o 11), mm_q G (R o 12), mm_q G (R o 13), .int (M.1 o 14)].set 1 (.int v)) by rw [mm_e4 hT]; simp [sI, mm_q] <;> rfl]; exact ha) mm_en_I) hS1 hz)
theorem pX5_91 {v : Int32} (C : mm_C G p s m args meth c RX5 cc nL ret) (hM : mm_P G R N M H) (hS : va_S (mm_A G) s.heap H locs) (ho : o < N) (hT : kT o = (3, 0)) (hdg : decode cc pc = .ok (.putfield 91, 3)) (kk : ∀ (H1 : Heap) (locs1 : List Loc), mm_P G R N (sI M o 0 v) H1 → va_S (mm_A G) s.heap H1 locs1 → H1.size = H.size → W p l e Rm s m args below meth c H1 locs1 cells slots Q (F0 m (pc + 3) ls rest)) : W p l e Rm s m args below meth c H locs cells slots Q (F0 m pc ls (.int v :: .ref (mm_lo G + o) :: rest)) := mm_put0 C hM hS ho (mm_e3 hT) rfl inX4 tyX4 tyX4_ok nmX4 (k := 0) (by decide) rfl (mm_in 42 (by decide +kernel) (by decide +kernel)) (Or.inl rfl) rfl rfl (Nat.le_of_ble_eq_true rfl) hdg (fun H1 locs1 ha oq hz hS1 => kk H1 locs1 (mm_upd hM oq (by rw [show mm_en G R (sI M o 0 v) o = .inr (3, [.int (M.1 o 0), .int (M.1 o 1), .int (M.1 o 2), .int (M.1 o 3)].set 0 (.int v)) by rw [mm_e3 hT]; simp [sI, mm_q] <;> rfl]; exact ha) mm_en_I) hS1 hz)
theorem pX6_10 {v : Nat} (C : mm_C G p s m args meth c RX6 cc nL ret) (hM : mm_P G R N M H) (hS : va_S (mm_A G) s.heap H locs) (ho : o < N) (hT : kT o = (5, 0)) (hin : meth.name = "<init>") (hdg : decode cc pc = .ok (.putfield 10, 3)) (kk : ∀ (H1 : Heap) (locs1 : List Loc), mm_P G (sR R o 0 (some v)) N M H1 → va_S (mm_A G) s.heap H1 locs1 → H1.size = H.size → W p l e Rm s m args below meth c H1 locs1 cells slots Q (F0 m (pc + 3) ls rest)) : W p l e Rm s m args below meth c H locs cells slots Q (F0 m pc ls (.ref (mm_lo G + v) :: .ref (mm_lo G + o) :: rest)) := mm_put0 C hM hS ho (mm_e5 hT) rfl inX6 tyX6 tyX6_ok nmX6 (k := 0) (by decide) rfl (mm_in 264 (by decide +kernel) (by decide +kernel)) (Or.inr ⟨rfl, hin, rfl⟩) rfl rfl (Nat.le_of_ble_eq_true rfl) hdg (fun H1 locs1 ha oq hz hS1 => kk H1 locs1 (mm_upd hM oq (by rw [show mm_en G (sR R o 0 (some v)) M o = .inr (5, [mm_q G (R o 0), mm_q G (R o 1), mm_q G (R o 2), mm_q G (R o 3), mm_q G (R o 4), mm_q G (R o 5)].set 0 (.ref (mm_lo G + v))) by rw [mm_e5 hT]; simp [sR, mm_q] <;> rfl]; exact ha) mm_en_R) hS1 hz)
theorem pX6_16 {v : Nat} (C : mm_C G p s m args meth c RX6 cc nL ret) (hM : mm_P G R N M H) (hS : va_S (mm_A G) s.heap H locs) (ho : o < N) (hT : kT o = (5, 0)) (hin : meth.name = "<init>") (hdg : decode cc pc = .ok (.putfield 16, 3)) (kk : ∀ (H1 : Heap) (locs1 : List Loc), mm_P G (sR R o 1 (some v)) N M H1 → va_S (mm_A G) s.heap H1 locs1 → H1.size = H.size → W p l e Rm s m args below meth c H1 locs1 cells slots Q (F0 m (pc + 3) ls rest)) : W p l e Rm s m args below meth c H locs cells slots Q (F0 m pc ls (.ref (mm_lo G + v) :: .ref (mm_lo G + o) :: rest)) := mm_put0 C hM hS ho (mm_e5 hT) rfl inX6 tyX6 tyX6_ok nmX6 (k := 1) (by decide) rfl (mm_in 265 (by decide +kernel) (by decide +kernel)) (Or.inr ⟨rfl, hin, rfl⟩) rfl rfl (Nat.le_of_ble_eq_true rfl) hdg (fun H1 locs1 ha oq hz hS1 => kk H1 locs1 (mm_upd hM oq (by rw [show mm_en G (sR R o 1 (some v)) M o = .inr (5, [mm_q G (R o 0), mm_q G (R o 1), mm_q G (R o 2), mm_q G (R o 3), mm_q G (R o 4), mm_q G (R o 5)].set 1 (.ref (mm_lo G + v))) by rw [mm_e5 hT]; simp [sR, mm_q] <;> rfl]; exact ha) mm_en_R) hS1 hz)
theorem pX6_212 {v : Int32} (C : mm_C G p s m args meth c RX6 cc nL ret) (hM : mm_P G R N M H) (hS : va_S (mm_A G) s.heap H locs) (ho : o < N) (hT : kT o = (2, 0)) (hdg : decode cc pc = .ok (.putfield 212, 3)) (kk : ∀ (H1 : Heap) (locs1 : List Loc), mm_P G R N (sI M o 1 v) H1 → va_S (mm_A G) s.heap H1 locs1 → H1.size = H.size → W p l e Rm s m args below meth c H1 locs1 cells slots Q (F0 m (pc + 3) ls rest)) : W p l e Rm s m args below meth c H locs cells slots Q (F0 m pc ls (.int v :: .ref (mm_lo G + o) :: rest)) := mm_put0 C hM hS ho (mm_e2 hT) rfl inX3 tyX3 tyX3_ok nmX3 (k := 1) (by decide) rfl (mm_in 257 (by decide +kernel) (by decide +kernel)) (Or.inl rfl) rfl rfl (Nat.le_of_ble_eq_true rfl) hdg (fun H1 locs1 ha oq hz hS1 => kk H1 locs1 (mm_upd hM oq (by rw [show mm_en G R (sI M o 1 v) o = .inr (2, [mm_q G (R o 0), .int (M.1 o 1)].set 1 (.int v)) by rw [mm_e2 hT]; simp [sI, mm_q] <;> rfl]; exact ha) mm_en_I) hS1 hz)
theorem pX6_22 {v : Nat} (C : mm_C G p s m args meth c RX6 cc nL ret) (hM : mm_P G R N M H) (hS : va_S (mm_A G) s.heap H locs) (ho : o < N) (hT : kT o = (5, 0)) (hin : meth.name = "<init>") (hdg : decode cc pc = .ok (.putfield 22, 3)) (kk : ∀ (H1 : Heap) (locs1 : List Loc), mm_P G (sR R o 2 (some v)) N M H1 → va_S (mm_A G) s.heap H1 locs1 → H1.size = H.size → W p l e Rm s m args below meth c H1 locs1 cells slots Q (F0 m (pc + 3) ls rest)) : W p l e Rm s m args below meth c H locs cells slots Q (F0 m pc ls (.ref (mm_lo G + v) :: .ref (mm_lo G + o) :: rest)) := mm_put0 C hM hS ho (mm_e5 hT) rfl inX6 tyX6 tyX6_ok nmX6 (k := 2) (by decide) rfl (mm_in 266 (by decide +kernel) (by decide +kernel)) (Or.inr ⟨rfl, hin, rfl⟩) rfl rfl (Nat.le_of_ble_eq_true rfl) hdg (fun H1 locs1 ha oq hz hS1 => kk H1 locs1 (mm_upd hM oq (by rw [show mm_en G (sR R o 2 (some v)) M o = .inr (5, [mm_q G (R o 0), mm_q G (R o 1), mm_q G (R o 2), mm_q G (R o 3), mm_q G (R o 4), mm_q G (R o 5)].set 2 (.ref (mm_lo G + v))) by rw [mm_e5 hT]; simp [sR, mm_q] <;> rfl]; exact ha) mm_en_R) hS1 hz)
theorem pX6_258 {v : Int32} (C : mm_C G p s m args meth c RX6 cc nL ret) (hM : mm_P G R N M H) (hS : va_S (mm_A G) s.heap H locs) (ho : o < N) (hT : kT o = (4, 0)) (hn : v = 0 ∨ v = 1) (hdg : decode cc pc = .ok (.putfield 258, 3)) (kk : ∀ (H1 : Heap) (locs1 : List Loc), mm_P G R N (sI M o 6 v) H1 → va_S (mm_A G) s.heap H1 locs1 → H1.size = H.size → W p l e Rm s m args below meth c H1 locs1 cells slots Q (F0 m (pc + 3) ls rest)) : W p l e Rm s m args below meth c H locs cells slots Q (F0 m pc ls (.int v :: .ref (mm_lo G + o) :: rest)) := mm_put0 C hM hS ho (mm_e4 hT) rfl inX5 tyX5 tyX5_ok nmX5 (k := 6) (by decide) rfl (mm_in 179 (by decide +kernel) (by decide +kernel)) (Or.inl rfl) (nb01 hn) (fb01 hn) (Nat.le_of_ble_eq_true rfl) hdg (fun H1 locs1 ha oq hz hS1 => kk H1 locs1 (mm_upd hM oq (by rw [show mm_en G R (sI M o 6 v) o = .inr (4, [.int (M.1 o 0), .int (M.1 o 1), .int (M.1 o 2), .int (M.1 o 3), .int (M.1 o 4), .int (M.1 o 5), .int (M.1 o 6), mm_q G (R o 7), mm_q G (R o 8), mm_q G (R o 9), mm_q G (R o 10), mm_q G (R o 11), mm_q G (R o 12), mm_q G (R o 13), .int (M.1 o 14)].set 6 (.int v)) by rw [mm_e4 hT]; simp [sI, mm_q] <;> rfl]; exact ha) mm_en_I) hS1 hz)
theorem pX6_26 {v : Nat} (C : mm_C G p s m args meth c RX6 cc nL ret) (hM : mm_P G R N M H) (hS : va_S (mm_A G) s.heap H locs) (ho : o < N) (hT : kT o = (5, 0)) (hin : meth.name = "<init>") (hdg : decode cc pc = .ok (.putfield 26, 3)) (kk : ∀ (H1 : Heap) (locs1 : List Loc), mm_P G (sR R o 3 (some v)) N M H1 → va_S (mm_A G) s.heap H1 locs1 → H1.size = H.size → W p l e Rm s m args below meth c H1 locs1 cells slots Q (F0 m (pc + 3) ls rest)) : W p l e Rm s m args below meth c H locs cells slots Q (F0 m pc ls (.ref (mm_lo G + v) :: .ref (mm_lo G + o) :: rest)) := mm_put0 C hM hS ho (mm_e5 hT) rfl inX6 tyX6 tyX6_ok nmX6 (k := 3) (by decide) rfl (mm_in 267 (by decide +kernel) (by decide +kernel)) (Or.inr ⟨rfl, hin, rfl⟩) rfl rfl (Nat.le_of_ble_eq_true rfl) hdg (fun H1 locs1 ha oq hz hS1 => kk H1 locs1 (mm_upd hM oq (by rw [show mm_en G (sR R o 3 (some v)) M o = .inr (5, [mm_q G (R o 0), mm_q G (R o 1), mm_q G (R o 2), mm_q G (R o 3), mm_q G (R o 4), mm_q G (R o 5)].set 3 (.ref (mm_lo G + v))) by rw [mm_e5 hT]; simp [sR, mm_q] <;> rfl]; exact ha) mm_en_R) hS1 hz)
theorem pX6_29 {v : Nat} (C : mm_C G p s m args meth c RX6 cc nL ret) (hM : mm_P G R N M H) (hS : va_S (mm_A G) s.heap H locs) (ho : o < N) (hT : kT o = (5, 0)) (hin : meth.name = "<init>") (hdg : decode cc pc = .ok (.putfield 29, 3)) (kk : ∀ (H1 : Heap) (locs1 : List Loc), mm_P G (sR R o 4 (some v)) N M H1 → va_S (mm_A G) s.heap H1 locs1 → H1.size = H.size → W p l e Rm s m args below meth c H1 locs1 cells slots Q (F0 m (pc + 3) ls rest)) : W p l e Rm s m args below meth c H locs cells slots Q (F0 m pc ls (.ref (mm_lo G + v) :: .ref (mm_lo G + o) :: rest)) := mm_put0 C hM hS ho (mm_e5 hT) rfl inX6 tyX6 tyX6_ok nmX6 (k := 4) (by decide) rfl (mm_in 268 (by decide +kernel) (by decide +kernel)) (Or.inr ⟨rfl, hin, rfl⟩) rfl rfl (Nat.le_of_ble_eq_true rfl) hdg (fun H1 locs1 ha oq hz hS1 => kk H1 locs1 (mm_upd hM oq (by rw [show mm_en G (sR R o 4 (some v)) M o = .inr (5, [mm_q G (R o 0), mm_q G (R o 1), mm_q G (R o 2), mm_q G (R o 3), mm_q G (R o 4), mm_q G (R o 5)].set 4 (.ref (mm_lo G + v))) by rw [mm_e5 hT]; simp [sR, mm_q] <;> rfl]; exact ha) mm_en_R) hS1 hz)
theorem pX6_35 {v : Nat} (C : mm_C G p s m args meth c RX6 cc nL ret) (hM : mm_P G R N M H) (hS : va_S (mm_A G) s.heap H locs) (ho : o < N) (hT : kT o = (5, 0)) (hin : meth.name = "<init>") (hdg : decode cc pc = .ok (.putfield 35, 3)) (kk : ∀ (H1 : Heap) (locs1 : List Loc), mm_P G (sR R o 5 (some v)) N M H1 → va_S (mm_A G) s.heap H1 locs1 → H1.size = H.size → W p l e Rm s m args below meth c H1 locs1 cells slots Q (F0 m (pc + 3) ls rest)) : W p l e Rm s m args below meth c H locs cells slots Q (F0 m pc ls (.ref (mm_lo G + v) :: .ref (mm_lo G + o) :: rest)) := mm_put0 C hM hS ho (mm_e5 hT) rfl inX6 tyX6 tyX6_ok nmX6 (k := 5) (by decide) rfl (mm_in 269 (by decide +kernel) (by decide +kernel)) (Or.inr ⟨rfl, hin, rfl⟩) rfl rfl (Nat.le_of_ble_eq_true rfl) hdg (fun H1 locs1 ha oq hz hS1 => kk H1 locs1 (mm_upd hM oq (by rw [show mm_en G (sR R o 5 (some v)) M o = .inr (5, [mm_q G (R o 0), mm_q G (R o 1), mm_q G (R o 2), mm_q G (R o 3), mm_q G (R o 4), mm_q G (R o 5)].set 5 (.ref (mm_lo G + v))) by rw [mm_e5 hT]; simp [sR, mm_q] <;> rfl]; exact ha) mm_en_R) hS1 hz)
theorem sX5_43 : Cond.fieldLink RX5 43 "CartPitches" "FIRST_VALUE" "[I" ∈ mm_good ∨ Cond.fieldLinkNest RX5 43 "CartPitches" "FIRST_VALUE" "[I" "CartPitches" ∈ lw_tbl := Or.inr (List.mem_of_getElem? (i := 34) (by decide +kernel))
theorem sX5_76 : Cond.fieldLink RX5 76 "CartPitches" "LEAST_VALUE" "[I" ∈ mm_good ∨ Cond.fieldLinkNest RX5 76 "CartPitches" "LEAST_VALUE" "[I" "CartPitches" ∈ lw_tbl := Or.inr (List.mem_of_getElem? (i := 389) (by decide +kernel))
theorem sX5_79 : Cond.fieldLink RX5 79 "CartPitches" "MOST_VALUE" "[I" ∈ mm_good ∨ Cond.fieldLinkNest RX5 79 "CartPitches" "MOST_VALUE" "[I" "CartPitches" ∈ lw_tbl := Or.inr (List.mem_of_getElem? (i := 391) (by decide +kernel))
theorem uL_103 (Rm : Room) (h1 : rmX6_put.frames + 1 ≤ Rm.frames) (h2 : 8 + (3 + 11) + rmX6_put.locals ≤ Rm.locals) : mm_V Rm rmX6_put RL RX6 103 yX6_put cX6_put 3 (some .int) 1 := ⟨mm_gV (mm_in 634 (by decide +kernel) (by decide +kernel)) (mm_in 635 (by decide +kernel) (by decide +kernel)) (mm_in 636 (by decide +kernel) (by decide +kernel)) (mm_in 7 (by decide +kernel) (by decide +kernel)) (mm_in 637 (by decide +kernel) (by decide +kernel)), rfl, rfl, by decide +kernel, h1, h2⟩
theorem uL_107 (Rm : Room) (h1 : rmX6_wipe.frames + 1 ≤ Rm.frames) (h2 : 8 + (2 + 11) + rmX6_wipe.locals ≤ Rm.locals) : mm_V Rm rmX6_wipe RL RX6 107 yX6_wipe cX6_wipe 2 (some .int) 0 := ⟨mm_gV (mm_in 584 (by decide +kernel) (by decide +kernel)) (mm_in 585 (by decide +kernel) (by decide +kernel)) (mm_in 586 (by decide +kernel) (by decide +kernel)) (mm_in 7 (by decide +kernel) (by decide +kernel)) (mm_in 587 (by decide +kernel) (by decide +kernel)), rfl, rfl, by decide +kernel, h1, h2⟩
theorem uL_111 (Rm : Room) (h1 : rmX6_fault.frames + 1 ≤ Rm.frames) (h2 : 8 + (1 + 11) + rmX6_fault.locals ≤ Rm.locals) : mm_V Rm rmX6_fault RL RX6 111 yX6_fault cX6_fault 1 (some .int) 0 := ⟨mm_gV (mm_in 588 (by decide +kernel) (by decide +kernel)) (mm_in 589 (by decide +kernel) (by decide +kernel)) (mm_in 590 (by decide +kernel) (by decide +kernel)) (mm_in 7 (by decide +kernel) (by decide +kernel)) (mm_in 591 (by decide +kernel) (by decide +kernel)), rfl, rfl, by decide +kernel, h1, h2⟩
theorem uL_114 (Rm : Room) (h1 : rmX6_carryOut.frames + 1 ≤ Rm.frames) (h2 : 8 + (4 + 11) + rmX6_carryOut.locals ≤ Rm.locals) : mm_V Rm rmX6_carryOut RL RX6 114 yX6_carryOut cX6_carryOut 4 (some .int) 0 := ⟨mm_gV (mm_in 612 (by decide +kernel) (by decide +kernel)) (mm_in 613 (by decide +kernel) (by decide +kernel)) (mm_in 614 (by decide +kernel) (by decide +kernel)) (mm_in 7 (by decide +kernel) (by decide +kernel)) (mm_in 615 (by decide +kernel) (by decide +kernel)), rfl, rfl, by decide +kernel, h1, h2⟩
theorem uL_12 (Rm : Room) (h1 : rmL_cell.frames + 1 ≤ Rm.frames) (h2 : 8 + (2 + 11) + rmL_cell.locals ≤ Rm.locals) : mm_Sc Rm rmL_cell RL 12 yL_cell cL_cell 2 (some .int) 2 := ⟨mm_gS (mm_in 352 (by decide +kernel) (by decide +kernel)) (mm_in 353 (by decide +kernel) (by decide +kernel)) (mm_in 6 (by decide +kernel) (by decide +kernel)) (mm_in 354 (by decide +kernel) (by decide +kernel)), rfl, rfl, by decide +kernel, h1, h2⟩
theorem uL_129 (Rm : Room) (h1 : rmL_number.frames + 1 ≤ Rm.frames) (h2 : 8 + (2 + 11) + rmL_number.locals ≤ Rm.locals) : mm_Sc Rm rmL_number RL 129 yL_number cL_number 2 none 2 := ⟨mm_gS (mm_in 653 (by decide +kernel) (by decide +kernel)) (mm_in 654 (by decide +kernel) (by decide +kernel)) (mm_in 6 (by decide +kernel) (by decide +kernel)) (mm_in 655 (by decide +kernel) (by decide +kernel)), rfl, rfl, by decide +kernel, h1, h2⟩
theorem uL_133 (Rm : Room) (h1 : rmL_told.frames + 1 ≤ Rm.frames) (h2 : 8 + (4 + 11) + rmL_told.locals ≤ Rm.locals) : mm_Sc Rm rmL_told RL 133 yL_told cL_told 4 (some .int) 1 := ⟨mm_gS (mm_in 656 (by decide +kernel) (by decide +kernel)) (mm_in 657 (by decide +kernel) (by decide +kernel)) (mm_in 6 (by decide +kernel) (by decide +kernel)) (mm_in 658 (by decide +kernel) (by decide +kernel)), rfl, rfl, by decide +kernel, h1, h2⟩
theorem uL_137 (Rm : Room) (h1 : rmX6_undo.frames + 1 ≤ Rm.frames) (h2 : 8 + (1 + 11) + rmX6_undo.locals ≤ Rm.locals) : mm_V Rm rmX6_undo RL RX6 137 yX6_undo cX6_undo 1 (some .int) 0 := ⟨mm_gV (mm_in 664 (by decide +kernel) (by decide +kernel)) (mm_in 665 (by decide +kernel) (by decide +kernel)) (mm_in 666 (by decide +kernel) (by decide +kernel)) (mm_in 7 (by decide +kernel) (by decide +kernel)) (mm_in 667 (by decide +kernel) (by decide +kernel)), rfl, rfl, by decide +kernel, h1, h2⟩
theorem uL_140 (Rm : Room) (h1 : rmL_one.frames + 1 ≤ Rm.frames) (h2 : 8 + (4 + 11) + rmL_one.locals ≤ Rm.locals) : mm_Sc Rm rmL_one RL 140 yL_one cL_one 4 (some .int) 3 := ⟨mm_gS (mm_in 672 (by decide +kernel) (by decide +kernel)) (mm_in 673 (by decide +kernel) (by decide +kernel)) (mm_in 6 (by decide +kernel) (by decide +kernel)) (mm_in 674 (by decide +kernel) (by decide +kernel)), rfl, rfl, by decide +kernel, h1, h2⟩
theorem uL_144 (Rm : Room) (h1 : rmX6_whyNot.frames + 1 ≤ Rm.frames) (h2 : 8 + (4 + 11) + rmX6_whyNot.locals ≤ Rm.locals) : mm_V Rm rmX6_whyNot RL RX6 144 yX6_whyNot cX6_whyNot 4 (some .int) 2 := ⟨mm_gV (mm_in 678 (by decide +kernel) (by decide +kernel)) (mm_in 679 (by decide +kernel) (by decide +kernel)) (mm_in 680 (by decide +kernel) (by decide +kernel)) (mm_in 7 (by decide +kernel) (by decide +kernel)) (mm_in 681 (by decide +kernel) (by decide +kernel)), rfl, rfl, by decide +kernel, h1, h2⟩
theorem uL_147 (Rm : Room) (h1 : rmX6_pointsOn.frames + 1 ≤ Rm.frames) (h2 : 8 + (3 + 11) + rmX6_pointsOn.locals ≤ Rm.locals) : mm_V Rm rmX6_pointsOn RL RX6 147 yX6_pointsOn cX6_pointsOn 3 (some .int) 2 := ⟨mm_gV (mm_in 660 (by decide +kernel) (by decide +kernel)) (mm_in 661 (by decide +kernel) (by decide +kernel)) (mm_in 662 (by decide +kernel) (by decide +kernel)) (mm_in 7 (by decide +kernel) (by decide +kernel)) (mm_in 663 (by decide +kernel) (by decide +kernel)), rfl, rfl, by decide +kernel, h1, h2⟩
theorem uL_150 (Rm : Room) (h1 : rmX6_wouldHave.frames + 1 ≤ Rm.frames) (h2 : 8 + (2 + 11) + rmX6_wouldHave.locals ≤ Rm.locals) : mm_V Rm rmX6_wouldHave RL RX6 150 yX6_wouldHave cX6_wouldHave 2 (some .int) 1 := ⟨mm_gV (mm_in 686 (by decide +kernel) (by decide +kernel)) (mm_in 687 (by decide +kernel) (by decide +kernel)) (mm_in 688 (by decide +kernel) (by decide +kernel)) (mm_in 7 (by decide +kernel) (by decide +kernel)) (mm_in 689 (by decide +kernel) (by decide +kernel)), rfl, rfl, by decide +kernel, h1, h2⟩
theorem uL_153 (Rm : Room) (h1 : rmX6_ifWished.frames + 1 ≤ Rm.frames) (h2 : 8 + (3 + 11) + rmX6_ifWished.locals ≤ Rm.locals) : mm_V Rm rmX6_ifWished RL RX6 153 yX6_ifWished cX6_ifWished 3 (some .int) 2 := ⟨mm_gV (mm_in 695 (by decide +kernel) (by decide +kernel)) (mm_in 696 (by decide +kernel) (by decide +kernel)) (mm_in 697 (by decide +kernel) (by decide +kernel)) (mm_in 7 (by decide +kernel) (by decide +kernel)) (mm_in 698 (by decide +kernel) (by decide +kernel)), rfl, rfl, by decide +kernel, h1, h2⟩
theorem uL_156 (Rm : Room) (h1 : rmX6_firstDay.frames + 1 ≤ Rm.frames) (h2 : 8 + (3 + 11) + rmX6_firstDay.locals ≤ Rm.locals) : mm_V Rm rmX6_firstDay RL RX6 156 yX6_firstDay cX6_firstDay 3 (some .int) 1 := ⟨mm_gV (mm_in 699 (by decide +kernel) (by decide +kernel)) (mm_in 700 (by decide +kernel) (by decide +kernel)) (mm_in 701 (by decide +kernel) (by decide +kernel)) (mm_in 7 (by decide +kernel) (by decide +kernel)) (mm_in 702 (by decide +kernel) (by decide +kernel)), rfl, rfl, by decide +kernel, h1, h2⟩
theorem uL_159 (Rm : Room) (h1 : rmX6_daysOf.frames + 1 ≤ Rm.frames) (h2 : 8 + (5 + 11) + rmX6_daysOf.locals ≤ Rm.locals) : mm_V Rm rmX6_daysOf RL RX6 159 yX6_daysOf cX6_daysOf 5 (some .int) 2 := ⟨mm_gV (mm_in 703 (by decide +kernel) (by decide +kernel)) (mm_in 704 (by decide +kernel) (by decide +kernel)) (mm_in 705 (by decide +kernel) (by decide +kernel)) (mm_in 7 (by decide +kernel) (by decide +kernel)) (mm_in 706 (by decide +kernel) (by decide +kernel)), rfl, rfl, by decide +kernel, h1, h2⟩
theorem uL_162 (Rm : Room) (h1 : rmX6_luckySeed.frames + 1 ≤ Rm.frames) (h2 : 8 + (5 + 11) + rmX6_luckySeed.locals ≤ Rm.locals) : mm_V Rm rmX6_luckySeed RL RX6 162 yX6_luckySeed cX6_luckySeed 5 (some .int) 2 := ⟨mm_gV (mm_in 707 (by decide +kernel) (by decide +kernel)) (mm_in 708 (by decide +kernel) (by decide +kernel)) (mm_in 709 (by decide +kernel) (by decide +kernel)) (mm_in 7 (by decide +kernel) (by decide +kernel)) (mm_in 710 (by decide +kernel) (by decide +kernel)), rfl, rfl, by decide +kernel, h1, h2⟩
theorem uL_165 (Rm : Room) (h1 : rmX6_save.frames + 1 ≤ Rm.frames) (h2 : 8 + (3 + 11) + rmX6_save.locals ≤ Rm.locals) : mm_V Rm rmX6_save RL RX6 165 yX6_save cX6_save 3 (some .int) 1 := ⟨mm_gV (mm_in 711 (by decide +kernel) (by decide +kernel)) (mm_in 712 (by decide +kernel) (by decide +kernel)) (mm_in 713 (by decide +kernel) (by decide +kernel)) (mm_in 7 (by decide +kernel) (by decide +kernel)) (mm_in 714 (by decide +kernel) (by decide +kernel)), rfl, rfl, by decide +kernel, h1, h2⟩
theorem uL_168 (Rm : Room) (h1 : rmX6_restore.frames + 1 ≤ Rm.frames) (h2 : 8 + (3 + 11) + rmX6_restore.locals ≤ Rm.locals) : mm_V Rm rmX6_restore RL RX6 168 yX6_restore cX6_restore 3 (some .int) 1 := ⟨mm_gV (mm_in 715 (by decide +kernel) (by decide +kernel)) (mm_in 716 (by decide +kernel) (by decide +kernel)) (mm_in 717 (by decide +kernel) (by decide +kernel)) (mm_in 7 (by decide +kernel) (by decide +kernel)) (mm_in 718 (by decide +kernel) (by decide +kernel)), rfl, rfl, by decide +kernel, h1, h2⟩
theorem uL_171 (Rm : Room) (h1 : rmL_lucky.frames + 1 ≤ Rm.frames) (h2 : 8 + (4 + 11) + rmL_lucky.locals ≤ Rm.locals) : mm_Sc Rm rmL_lucky RL 171 yL_lucky cL_lucky 4 (some .boolean) 4 := ⟨mm_gS (mm_in 719 (by decide +kernel) (by decide +kernel)) (mm_in 720 (by decide +kernel) (by decide +kernel)) (mm_in 6 (by decide +kernel) (by decide +kernel)) (mm_in 721 (by decide +kernel) (by decide +kernel)), rfl, rfl, by decide +kernel, h1, h2⟩
theorem uL_18 (Rm : Room) (h1 : rmL_refused.frames + 1 ≤ Rm.frames) (h2 : 8 + (3 + 11) + rmL_refused.locals ≤ Rm.locals) : mm_Sc Rm rmL_refused RL 18 yL_refused cL_refused 3 (some .boolean) 2 := ⟨mm_gS (mm_in 725 (by decide +kernel) (by decide +kernel)) (mm_in 726 (by decide +kernel) (by decide +kernel)) (mm_in 6 (by decide +kernel) (by decide +kernel)) (mm_in 727 (by decide +kernel) (by decide +kernel)), rfl, rfl, by decide +kernel, h1, h2⟩
theorem uL_23 (Rm : Room) (h1 : rmL_up.frames + 1 ≤ Rm.frames) (h2 : 8 + (2 + 11) + rmL_up.locals ≤ Rm.locals) : mm_Sc Rm rmL_up RL 23 yL_up cL_up 2 (some .int) 2 := ⟨mm_gS (mm_in 356 (by decide +kernel) (by decide +kernel)) (mm_in 357 (by decide +kernel) (by decide +kernel)) (mm_in 6 (by decide +kernel) (by decide +kernel)) (mm_in 358 (by decide +kernel) (by decide +kernel)), rfl, rfl, by decide +kernel, h1, h2⟩
theorem uL_27 (Rm : Room) (h1 : rmX6_seed.frames + 1 ≤ Rm.frames) (h2 : 8 + (2 + 11) + rmX6_seed.locals ≤ Rm.locals) : mm_V Rm rmX6_seed RL RX6 27 yX6_seed cX6_seed 2 (some .int) 1 := ⟨mm_gV (mm_in 283 (by decide +kernel) (by decide +kernel)) (mm_in 284 (by decide +kernel) (by decide +kernel)) (mm_in 285 (by decide +kernel) (by decide +kernel)) (mm_in 7 (by decide +kernel) (by decide +kernel)) (mm_in 286 (by decide +kernel) (by decide +kernel)), rfl, rfl, by decide +kernel, h1, h2⟩
theorem uL_31 (Rm : Room) (h1 : rmL_sets.frames + 1 ≤ Rm.frames) (h2 : 8 + (5 + 11) + rmL_sets.locals ≤ Rm.locals) : mm_Sc Rm rmL_sets RL 31 yL_sets cL_sets 5 (some .boolean) 2 := ⟨mm_gS (mm_in 360 (by decide +kernel) (by decide +kernel)) (mm_in 361 (by decide +kernel) (by decide +kernel)) (mm_in 6 (by decide +kernel) (by decide +kernel)) (mm_in 362 (by decide +kernel) (by decide +kernel)), rfl, rfl, by decide +kernel, h1, h2⟩
theorem uL_34 (Rm : Room) (h1 : rmX6_pitch.frames + 1 ≤ Rm.frames) (h2 : 8 + (2 + 11) + rmX6_pitch.locals ≤ Rm.locals) : mm_V Rm rmX6_pitch RL RX6 34 yX6_pitch cX6_pitch 2 (some .int) 1 := ⟨mm_gV (mm_in 320 (by decide +kernel) (by decide +kernel)) (mm_in 321 (by decide +kernel) (by decide +kernel)) (mm_in 322 (by decide +kernel) (by decide +kernel)) (mm_in 7 (by decide +kernel) (by decide +kernel)) (mm_in 323 (by decide +kernel) (by decide +kernel)), rfl, rfl, by decide +kernel, h1, h2⟩
theorem uL_37 (Rm : Room) (h1 : rmX6_cart.frames + 1 ≤ Rm.frames) (h2 : 8 + (3 + 11) + rmX6_cart.locals ≤ Rm.locals) : mm_V Rm rmX6_cart RL RX6 37 yX6_cart cX6_cart 3 (some .int) 2 := ⟨mm_gV (mm_in 332 (by decide +kernel) (by decide +kernel)) (mm_in 333 (by decide +kernel) (by decide +kernel)) (mm_in 334 (by decide +kernel) (by decide +kernel)) (mm_in 7 (by decide +kernel) (by decide +kernel)) (mm_in 335 (by decide +kernel) (by decide +kernel)), rfl, rfl, by decide +kernel, h1, h2⟩
theorem uL_40 (Rm : Room) (h1 : rmL_act.frames + 1 ≤ Rm.frames) (h2 : 8 + (12 + 11) + rmL_act.locals ≤ Rm.locals) : mm_Sm Rm rmL_act 1 40 RL 40 yL_act cL_act 12 (some .boolean) 4 := ⟨mm_gS (mm_in 393 (by decide +kernel) (by decide +kernel)) (mm_in 394 (by decide +kernel) (by decide +kernel)) (mm_in 6 (by decide +kernel) (by decide +kernel)) (mm_in 395 (by decide +kernel) (by decide +kernel)), rfl, rfl, by decide +kernel, h1, h2⟩
theorem uL_44 (Rm : Room) (h1 : rmL_sound.frames + 1 ≤ Rm.frames) (h2 : 8 + (18 + 11) + rmL_sound.locals ≤ Rm.locals) : mm_Sm Rm rmL_sound 1 16 RL 44 yL_sound cL_sound 18 (some .boolean) 1 := ⟨mm_gS (mm_in 675 (by decide +kernel) (by decide +kernel)) (mm_in 676 (by decide +kernel) (by decide +kernel)) (mm_in 6 (by decide +kernel) (by decide +kernel)) (mm_in 677 (by decide +kernel) (by decide +kernel)), rfl, rfl, by decide +kernel, h1, h2⟩
theorem uL_48 (Rm : Room) (h1 : rmL_comes.frames + 1 ≤ Rm.frames) (h2 : 8 + (16 + 11) + rmL_comes.locals ≤ Rm.locals) : mm_Sc Rm rmL_comes RL 48 yL_comes cL_comes 16 (some .boolean) 2 := ⟨mm_gS (mm_in 683 (by decide +kernel) (by decide +kernel)) (mm_in 684 (by decide +kernel) (by decide +kernel)) (mm_in 6 (by decide +kernel) (by decide +kernel)) (mm_in 685 (by decide +kernel) (by decide +kernel)), rfl, rfl, by decide +kernel, h1, h2⟩
theorem uL_51 (Rm : Room) (h1 : rmL_back.frames + 1 ≤ Rm.frames) (h2 : 8 + (6 + 11) + rmL_back.locals ≤ Rm.locals) : mm_Sc Rm rmL_back RL 51 yL_back cL_back 6 (some .boolean) 2 := ⟨mm_gS (mm_in 722 (by decide +kernel) (by decide +kernel)) (mm_in 723 (by decide +kernel) (by decide +kernel)) (mm_in 6 (by decide +kernel) (by decide +kernel)) (mm_in 724 (by decide +kernel) (by decide +kernel)), rfl, rfl, by decide +kernel, h1, h2⟩
theorem uL_54 (Rm : Room) (h1 : rmL_least.frames + 1 ≤ Rm.frames) (h2 : 8 + (1 + 11) + rmL_least.locals ≤ Rm.locals) : mm_Sc Rm rmL_least RL 54 yL_least cL_least 1 (some .int) 1 := ⟨mm_gS (mm_in 363 (by decide +kernel) (by decide +kernel)) (mm_in 364 (by decide +kernel) (by decide +kernel)) (mm_in 6 (by decide +kernel) (by decide +kernel)) (mm_in 365 (by decide +kernel) (by decide +kernel)), rfl, rfl, by decide +kernel, h1, h2⟩
theorem uL_57 (Rm : Room) (h1 : rmL_most.frames + 1 ≤ Rm.frames) (h2 : 8 + (1 + 11) + rmL_most.locals ≤ Rm.locals) : mm_Sc Rm rmL_most RL 57 yL_most cL_most 1 (some .int) 1 := ⟨mm_gS (mm_in 366 (by decide +kernel) (by decide +kernel)) (mm_in 367 (by decide +kernel) (by decide +kernel)) (mm_in 6 (by decide +kernel) (by decide +kernel)) (mm_in 368 (by decide +kernel) (by decide +kernel)), rfl, rfl, by decide +kernel, h1, h2⟩
theorem uL_60 (Rm : Room) (h1 : rmX6_count.frames + 1 ≤ Rm.frames) (h2 : 8 + (2 + 11) + rmX6_count.locals ≤ Rm.locals) : mm_V Rm rmX6_count RL RX6 60 yX6_count cX6_count 2 (some .int) 1 := ⟨mm_gV (mm_in 369 (by decide +kernel) (by decide +kernel)) (mm_in 370 (by decide +kernel) (by decide +kernel)) (mm_in 371 (by decide +kernel) (by decide +kernel)) (mm_in 7 (by decide +kernel) (by decide +kernel)) (mm_in 372 (by decide +kernel) (by decide +kernel)), rfl, rfl, by decide +kernel, h1, h2⟩
theorem uL_63 (Rm : Room) (h1 : rmX6_set.frames + 1 ≤ Rm.frames) (h2 : 8 + (3 + 11) + rmX6_set.locals ≤ Rm.locals) : mm_V Rm rmX6_set RL RX6 63 yX6_set cX6_set 3 (some .int) 2 := ⟨mm_gV (mm_in 381 (by decide +kernel) (by decide +kernel)) (mm_in 382 (by decide +kernel) (by decide +kernel)) (mm_in 383 (by decide +kernel) (by decide +kernel)) (mm_in 7 (by decide +kernel) (by decide +kernel)) (mm_in 384 (by decide +kernel) (by decide +kernel)), rfl, rfl, by decide +kernel, h1, h2⟩
theorem uL_66 (Rm : Room) (h1 : rmX6_ofCart.frames + 1 ≤ Rm.frames) (h2 : 8 + (4 + 11) + rmX6_ofCart.locals ≤ Rm.locals) : mm_V Rm rmX6_ofCart RL RX6 66 yX6_ofCart cX6_ofCart 4 (some .int) 2 := ⟨mm_gV (mm_in 396 (by decide +kernel) (by decide +kernel)) (mm_in 397 (by decide +kernel) (by decide +kernel)) (mm_in 398 (by decide +kernel) (by decide +kernel)) (mm_in 7 (by decide +kernel) (by decide +kernel)) (mm_in 399 (by decide +kernel) (by decide +kernel)), rfl, rfl, by decide +kernel, h1, h2⟩
theorem uL_69 (Rm : Room) (h1 : rmX6_wish.frames + 1 ≤ Rm.frames) (h2 : 8 + (5 + 11) + rmX6_wish.locals ≤ Rm.locals) : mm_V Rm rmX6_wish RL RX6 69 yX6_wish cX6_wish 5 (some .int) 4 := ⟨mm_gV (mm_in 420 (by decide +kernel) (by decide +kernel)) (mm_in 421 (by decide +kernel) (by decide +kernel)) (mm_in 422 (by decide +kernel) (by decide +kernel)) (mm_in 7 (by decide +kernel) (by decide +kernel)) (mm_in 423 (by decide +kernel) (by decide +kernel)), rfl, rfl, by decide +kernel, h1, h2⟩
theorem uL_73 (Rm : Room) (h1 : rmX6_money.frames + 1 ≤ Rm.frames) (h2 : 8 + (4 + 11) + rmX6_money.locals ≤ Rm.locals) : mm_V Rm rmX6_money RL RX6 73 yX6_money cX6_money 4 (some .long) 2 := ⟨mm_gV (mm_in 437 (by decide +kernel) (by decide +kernel)) (mm_in 438 (by decide +kernel) (by decide +kernel)) (mm_in 439 (by decide +kernel) (by decide +kernel)) (mm_in 7 (by decide +kernel) (by decide +kernel)) (mm_in 440 (by decide +kernel) (by decide +kernel)), rfl, rfl, by decide +kernel, h1, h2⟩
theorem uL_77 (Rm : Room) (h1 : rmX6_fine.frames + 1 ≤ Rm.frames) (h2 : 8 + (3 + 11) + rmX6_fine.locals ≤ Rm.locals) : mm_V Rm rmX6_fine RL RX6 77 yX6_fine cX6_fine 3 (some .int) 2 := ⟨mm_gV (mm_in 447 (by decide +kernel) (by decide +kernel)) (mm_in 448 (by decide +kernel) (by decide +kernel)) (mm_in 449 (by decide +kernel) (by decide +kernel)) (mm_in 7 (by decide +kernel) (by decide +kernel)) (mm_in 450 (by decide +kernel) (by decide +kernel)), rfl, rfl, by decide +kernel, h1, h2⟩
theorem uL_80 (Rm : Room) (h1 : rmX6_check.frames + 1 ≤ Rm.frames) (h2 : 8 + (2 + 11) + rmX6_check.locals ≤ Rm.locals) : mm_V Rm rmX6_check RL RX6 80 yX6_check cX6_check 2 (some .int) 1 := ⟨mm_gV (mm_in 465 (by decide +kernel) (by decide +kernel)) (mm_in 466 (by decide +kernel) (by decide +kernel)) (mm_in 467 (by decide +kernel) (by decide +kernel)) (mm_in 7 (by decide +kernel) (by decide +kernel)) (mm_in 468 (by decide +kernel) (by decide +kernel)), rfl, rfl, by decide +kernel, h1, h2⟩
theorem uL_83 (Rm : Room) (h1 : rmX6_swap.frames + 1 ≤ Rm.frames) (h2 : 8 + (3 + 11) + rmX6_swap.locals ≤ Rm.locals) : mm_V Rm rmX6_swap RL RX6 83 yX6_swap cX6_swap 3 (some .int) 2 := ⟨mm_gV (mm_in 474 (by decide +kernel) (by decide +kernel)) (mm_in 475 (by decide +kernel) (by decide +kernel)) (mm_in 476 (by decide +kernel) (by decide +kernel)) (mm_in 7 (by decide +kernel) (by decide +kernel)) (mm_in 477 (by decide +kernel) (by decide +kernel)), rfl, rfl, by decide +kernel, h1, h2⟩
theorem uL_87 (Rm : Room) (h1 : rmX6_pay.frames + 1 ≤ Rm.frames) (h2 : 8 + (3 + 11) + rmX6_pay.locals ≤ Rm.locals) : mm_V Rm rmX6_pay RL RX6 87 yX6_pay cX6_pay 3 (some .int) 2 := ⟨mm_gV (mm_in 483 (by decide +kernel) (by decide +kernel)) (mm_in 484 (by decide +kernel) (by decide +kernel)) (mm_in 485 (by decide +kernel) (by decide +kernel)) (mm_in 7 (by decide +kernel) (by decide +kernel)) (mm_in 486 (by decide +kernel) (by decide +kernel)), rfl, rfl, by decide +kernel, h1, h2⟩
theorem uL_90 (Rm : Room) (h1 : rmX6_ofPitch.frames + 1 ≤ Rm.frames) (h2 : 8 + (4 + 11) + rmX6_ofPitch.locals ≤ Rm.locals) : mm_V Rm rmX6_ofPitch RL RX6 90 yX6_ofPitch cX6_ofPitch 4 (some .int) 2 := ⟨mm_gV (mm_in 493 (by decide +kernel) (by decide +kernel)) (mm_in 494 (by decide +kernel) (by decide +kernel)) (mm_in 495 (by decide +kernel) (by decide +kernel)) (mm_in 7 (by decide +kernel) (by decide +kernel)) (mm_in 496 (by decide +kernel) (by decide +kernel)), rfl, rfl, by decide +kernel, h1, h2⟩
theorem uL_93 (Rm : Room) (h1 : rmX6_rent.frames + 1 ≤ Rm.frames) (h2 : 8 + (3 + 11) + rmX6_rent.locals ≤ Rm.locals) : mm_V Rm rmX6_rent RL RX6 93 yX6_rent cX6_rent 3 (some .int) 2 := ⟨mm_gV (mm_in 498 (by decide +kernel) (by decide +kernel)) (mm_in 499 (by decide +kernel) (by decide +kernel)) (mm_in 500 (by decide +kernel) (by decide +kernel)) (mm_in 7 (by decide +kernel) (by decide +kernel)) (mm_in 501 (by decide +kernel) (by decide +kernel)), rfl, rfl, by decide +kernel, h1, h2⟩
theorem uL_96 (Rm : Room) (h1 : rmX6_days.frames + 1 ≤ Rm.frames) (h2 : 8 + (2 + 11) + rmX6_days.locals ≤ Rm.locals) : mm_V Rm rmX6_days RL RX6 96 yX6_days cX6_days 2 (some .int) 1 := ⟨mm_gV (mm_in 507 (by decide +kernel) (by decide +kernel)) (mm_in 508 (by decide +kernel) (by decide +kernel)) (mm_in 509 (by decide +kernel) (by decide +kernel)) (mm_in 7 (by decide +kernel) (by decide +kernel)) (mm_in 510 (by decide +kernel) (by decide +kernel)), rfl, rfl, by decide +kernel, h1, h2⟩
theorem uL_99 (Rm : Room) (h1 : rmL_text.frames + 1 ≤ Rm.frames) (h2 : 8 + (10 + 11) + rmL_text.locals ≤ Rm.locals) : mm_Sm Rm rmL_text 1 40 RL 99 yL_text cL_text 10 (some .boolean) 3 := ⟨mm_gS (mm_in 581 (by decide +kernel) (by decide +kernel)) (mm_in 582 (by decide +kernel) (by decide +kernel)) (mm_in 6 (by decide +kernel) (by decide +kernel)) (mm_in 583 (by decide +kernel) (by decide +kernel)), rfl, rfl, by decide +kernel, h1, h2⟩
theorem uX0_57 (Rm : Room) (h1 : rmX0_dropAllPoints.frames + 1 ≤ Rm.frames) (h2 : 8 + (2 + 11) + rmX0_dropAllPoints.locals ≤ Rm.locals) : mm_V Rm rmX0_dropAllPoints RX0 RX0 57 yX0_dropAllPoints cX0_dropAllPoints 2 none 0 := ⟨mm_gV (mm_in 344 (by decide +kernel) (by decide +kernel)) (mm_in 345 (by decide +kernel) (by decide +kernel)) (mm_in 346 (by decide +kernel) (by decide +kernel)) (mm_in 10 (by decide +kernel) (by decide +kernel)) (mm_in 347 (by decide +kernel) (by decide +kernel)), rfl, rfl, by decide +kernel, h1, h2⟩
theorem uX0_60 (Rm : Room) (h1 : rmX0_beginDay.frames + 1 ≤ Rm.frames) (h2 : 8 + (1 + 11) + rmX0_beginDay.locals ≤ Rm.locals) : mm_V Rm rmX0_beginDay RX0 RX0 60 yX0_beginDay cX0_beginDay 1 none 0 := ⟨mm_gV (mm_in 348 (by decide +kernel) (by decide +kernel)) (mm_in 349 (by decide +kernel) (by decide +kernel)) (mm_in 350 (by decide +kernel) (by decide +kernel)) (mm_in 10 (by decide +kernel) (by decide +kernel)) (mm_in 351 (by decide +kernel) (by decide +kernel)), rfl, rfl, by decide +kernel, h1, h2⟩
theorem uX1_107 (Rm : Room) (h1 : rmX0_wishAt.frames + 1 ≤ Rm.frames) (h2 : 8 + (2 + 11) + rmX0_wishAt.locals ≤ Rm.locals) : mm_V Rm rmX0_wishAt RX1 RX0 107 yX0_wishAt cX0_wishAt 2 (some .int) 1 := ⟨mm_gV (mm_in 546 (by decide +kernel) (by decide +kernel)) (mm_in 409 (by decide +kernel) (by decide +kernel)) (mm_in 410 (by decide +kernel) (by decide +kernel)) (mm_in 10 (by decide +kernel) (by decide +kernel)) (mm_in 411 (by decide +kernel) (by decide +kernel)), rfl, rfl, by decide +kernel, h1, h2⟩
theorem uX1_110 (Rm : Room) (h1 : rmX5_hasPitch.frames + 1 ≤ Rm.frames) (h2 : 8 + (2 + 11) + rmX5_hasPitch.locals ≤ Rm.locals) : mm_V Rm rmX5_hasPitch RX1 RX5 110 yX5_hasPitch cX5_hasPitch 2 (some .boolean) 1 := ⟨mm_gV (mm_in 547 (by decide +kernel) (by decide +kernel)) (mm_in 434 (by decide +kernel) (by decide +kernel)) (mm_in 435 (by decide +kernel) (by decide +kernel)) (mm_in 8 (by decide +kernel) (by decide +kernel)) (mm_in 436 (by decide +kernel) (by decide +kernel)), rfl, rfl, by decide +kernel, h1, h2⟩
theorem uX1_113 (Rm : Room) (h1 : rmX5_sameKindBeside.frames + 1 ≤ Rm.frames) (h2 : 8 + (5 + 11) + rmX5_sameKindBeside.locals ≤ Rm.locals) : mm_V Rm rmX5_sameKindBeside RX1 RX5 113 yX5_sameKindBeside cX5_sameKindBeside 5 (some .boolean) 2 := ⟨mm_gV (mm_in 548 (by decide +kernel) (by decide +kernel)) (mm_in 549 (by decide +kernel) (by decide +kernel)) (mm_in 550 (by decide +kernel) (by decide +kernel)) (mm_in 8 (by decide +kernel) (by decide +kernel)) (mm_in 551 (by decide +kernel) (by decide +kernel)), rfl, rfl, by decide +kernel, h1, h2⟩
theorem uX1_117 (Rm : Room) (h1 : rmX5_seat.frames + 1 ≤ Rm.frames) (h2 : 8 + (3 + 11) + rmX5_seat.locals ≤ Rm.locals) : mm_V Rm rmX5_seat RX1 RX5 117 yX5_seat cX5_seat 3 none 2 := ⟨mm_gV (mm_in 552 (by decide +kernel) (by decide +kernel)) (mm_in 553 (by decide +kernel) (by decide +kernel)) (mm_in 554 (by decide +kernel) (by decide +kernel)) (mm_in 8 (by decide +kernel) (by decide +kernel)) (mm_in 555 (by decide +kernel) (by decide +kernel)), rfl, rfl, by decide +kernel, h1, h2⟩
theorem uX1_127 (Rm : Room) (h1 : rmX5_unseat.frames + 1 ≤ Rm.frames) (h2 : 8 + (2 + 11) + rmX5_unseat.locals ≤ Rm.locals) : mm_V Rm rmX5_unseat RX1 RX5 127 yX5_unseat cX5_unseat 2 none 1 := ⟨mm_gV (mm_in 559 (by decide +kernel) (by decide +kernel)) (mm_in 560 (by decide +kernel) (by decide +kernel)) (mm_in 561 (by decide +kernel) (by decide +kernel)) (mm_in 8 (by decide +kernel) (by decide +kernel)) (mm_in 562 (by decide +kernel) (by decide +kernel)), rfl, rfl, by decide +kernel, h1, h2⟩
theorem uX1_131 (Rm : Room) (h1 : rmX5_givePoints.frames + 1 ≤ Rm.frames) (h2 : 8 + (4 + 11) + rmX5_givePoints.locals ≤ Rm.locals) : mm_V Rm rmX5_givePoints RX1 RX5 131 yX5_givePoints cX5_givePoints 4 (some .int) 2 := ⟨mm_gV (mm_in 563 (by decide +kernel) (by decide +kernel)) (mm_in 456 (by decide +kernel) (by decide +kernel)) (mm_in 457 (by decide +kernel) (by decide +kernel)) (mm_in 8 (by decide +kernel) (by decide +kernel)) (mm_in 458 (by decide +kernel) (by decide +kernel)), rfl, rfl, by decide +kernel, h1, h2⟩
theorem uX1_147 (Rm : Room) (h1 : rmX1_exchange.frames + 1 ≤ Rm.frames) (h2 : 8 + (5 + 11) + rmX1_exchange.locals ≤ Rm.locals) : mm_Sc Rm rmX1_exchange RX1 147 yX1_exchange cX1_exchange 5 (some .boolean) 3 := ⟨mm_gS (mm_in 567 (by decide +kernel) (by decide +kernel)) (mm_in 568 (by decide +kernel) (by decide +kernel)) (mm_in 14 (by decide +kernel) (by decide +kernel)) (mm_in 569 (by decide +kernel) (by decide +kernel)), rfl, rfl, by decide +kernel, h1, h2⟩
theorem uX1_15 (Rm : Room) (h1 : rmX1_nextToCheck.frames + 1 ≤ Rm.frames) (h2 : 8 + (4 + 11) + rmX1_nextToCheck.locals ≤ Rm.locals) : mm_Sc Rm rmX1_nextToCheck RX1 15 yX1_nextToCheck cX1_nextToCheck 4 (some (.object "CartPitches$Cart")) 1 := ⟨mm_gS (mm_in 518 (by decide +kernel) (by decide +kernel)) (mm_in 519 (by decide +kernel) (by decide +kernel)) (mm_in 14 (by decide +kernel) (by decide +kernel)) (mm_in 520 (by decide +kernel) (by decide +kernel)), rfl, rfl, by decide +kernel, h1, h2⟩
theorem uX1_53 (Rm : Room) (h1 : rmX0_beginDay.frames + 1 ≤ Rm.frames) (h2 : 8 + (1 + 11) + rmX0_beginDay.locals ≤ Rm.locals) : mm_V Rm rmX0_beginDay RX1 RX0 53 yX0_beginDay cX0_beginDay 1 none 0 := ⟨mm_gV (mm_in 524 (by decide +kernel) (by decide +kernel)) (mm_in 349 (by decide +kernel) (by decide +kernel)) (mm_in 350 (by decide +kernel) (by decide +kernel)) (mm_in 10 (by decide +kernel) (by decide +kernel)) (mm_in 351 (by decide +kernel) (by decide +kernel)), rfl, rfl, by decide +kernel, h1, h2⟩
theorem uX1_56 (Rm : Room) (h1 : rmX1_handOutTickets.frames + 1 ≤ Rm.frames) (h2 : 8 + (5 + 11) + rmX1_handOutTickets.locals ≤ Rm.locals) : mm_Sc Rm rmX1_handOutTickets RX1 56 yX1_handOutTickets cX1_handOutTickets 5 (some .int) 1 := ⟨mm_gS (mm_in 528 (by decide +kernel) (by decide +kernel)) (mm_in 529 (by decide +kernel) (by decide +kernel)) (mm_in 14 (by decide +kernel) (by decide +kernel)) (mm_in 530 (by decide +kernel) (by decide +kernel)), rfl, rfl, by decide +kernel, h1, h2⟩
theorem uX1_67 (Rm : Room) (h1 : rmX1_holderOfTicket.frames + 1 ≤ Rm.frames) (h2 : 8 + (4 + 11) + rmX1_holderOfTicket.locals ≤ Rm.locals) : mm_Sc Rm rmX1_holderOfTicket RX1 67 yX1_holderOfTicket cX1_holderOfTicket 4 (some .int) 2 := ⟨mm_gS (mm_in 539 (by decide +kernel) (by decide +kernel)) (mm_in 540 (by decide +kernel) (by decide +kernel)) (mm_in 14 (by decide +kernel) (by decide +kernel)) (mm_in 541 (by decide +kernel) (by decide +kernel)), rfl, rfl, by decide +kernel, h1, h2⟩
theorem uX1_71 (Rm : Room) (h1 : rmX5_hasCart.frames + 1 ≤ Rm.frames) (h2 : 8 + (2 + 11) + rmX5_hasCart.locals ≤ Rm.locals) : mm_V Rm rmX5_hasCart RX1 RX5 71 yX5_hasCart cX5_hasCart 2 (some .boolean) 1 := ⟨mm_gV (mm_in 542 (by decide +kernel) (by decide +kernel)) (mm_in 401 (by decide +kernel) (by decide +kernel)) (mm_in 402 (by decide +kernel) (by decide +kernel)) (mm_in 8 (by decide +kernel) (by decide +kernel)) (mm_in 403 (by decide +kernel) (by decide +kernel)), rfl, rfl, by decide +kernel, h1, h2⟩
theorem uX1_84 (Rm : Room) (h1 : rmX1_choosePitch.frames + 1 ≤ Rm.frames) (h2 : 8 + (5 + 11) + rmX1_choosePitch.locals ≤ Rm.locals) : mm_Sc Rm rmX1_choosePitch RX1 84 yX1_choosePitch cX1_choosePitch 5 none 2 := ⟨mm_gS (mm_in 543 (by decide +kernel) (by decide +kernel)) (mm_in 544 (by decide +kernel) (by decide +kernel)) (mm_in 14 (by decide +kernel) (by decide +kernel)) (mm_in 545 (by decide +kernel) (by decide +kernel)), rfl, rfl, by decide +kernel, h1, h2⟩
theorem uX1_88 (Rm : Room) (h1 : rmX0_reasonBeforeLots.frames + 1 ≤ Rm.frames) (h2 : 8 + (2 + 11) + rmX0_reasonBeforeLots.locals ≤ Rm.locals) : mm_V Rm rmX0_reasonBeforeLots RX1 RX0 88 yX0_reasonBeforeLots cX0_reasonBeforeLots 2 (some .int) 1 := ⟨mm_gV (mm_in 531 (by decide +kernel) (by decide +kernel)) (mm_in 532 (by decide +kernel) (by decide +kernel)) (mm_in 533 (by decide +kernel) (by decide +kernel)) (mm_in 10 (by decide +kernel) (by decide +kernel)) (mm_in 534 (by decide +kernel) (by decide +kernel)), rfl, rfl, by decide +kernel, h1, h2⟩
theorem uX2_25 (Rm : Room) (h1 : rmX5_copyFrom.frames + 1 ≤ Rm.frames) (h2 : 8 + (3 + 11) + rmX5_copyFrom.locals ≤ Rm.locals) : mm_V Rm rmX5_copyFrom RX2 RX5 25 yX5_copyFrom cX5_copyFrom 3 none 1 := ⟨mm_gV (mm_in 291 (by decide +kernel) (by decide +kernel)) (mm_in 292 (by decide +kernel) (by decide +kernel)) (mm_in 293 (by decide +kernel) (by decide +kernel)) (mm_in 8 (by decide +kernel) (by decide +kernel)) (mm_in 294 (by decide +kernel) (by decide +kernel)), rfl, rfl, by decide +kernel, h1, h2⟩
theorem uX3_15 (Rm : Room) (h1 : rmX3_countGiven.frames + 1 ≤ Rm.frames) (h2 : 8 + (5 + 11) + rmX3_countGiven.locals ≤ Rm.locals) : mm_Sc Rm rmX3_countGiven RX3 15 yX3_countGiven cX3_countGiven 5 (some .int) 1 := ⟨mm_gS (mm_in 642 (by decide +kernel) (by decide +kernel)) (mm_in 643 (by decide +kernel) (by decide +kernel)) (mm_in 12 (by decide +kernel) (by decide +kernel)) (mm_in 644 (by decide +kernel) (by decide +kernel)), rfl, rfl, by decide +kernel, h1, h2⟩
theorem uX3_23 (Rm : Room) (h1 : rmX3_codeAt.frames + 1 ≤ Rm.frames) (h2 : 8 + (3 + 11) + rmX3_codeAt.locals ≤ Rm.locals) : mm_Sc Rm rmX3_codeAt RX3 23 yX3_codeAt cX3_codeAt 3 (some .int) 2 := ⟨mm_gS (mm_in 645 (by decide +kernel) (by decide +kernel)) (mm_in 646 (by decide +kernel) (by decide +kernel)) (mm_in 12 (by decide +kernel) (by decide +kernel)) (mm_in 647 (by decide +kernel) (by decide +kernel)), rfl, rfl, by decide +kernel, h1, h2⟩
theorem uX3_27 (Rm : Room) (h1 : rmX3_signAt.frames + 1 ≤ Rm.frames) (h2 : 8 + (2 + 11) + rmX3_signAt.locals ≤ Rm.locals) : mm_V Rm rmX3_signAt RX3 RX3 27 yX3_signAt cX3_signAt 2 (some .int) 1 := ⟨mm_gV (mm_in 596 (by decide +kernel) (by decide +kernel)) (mm_in 597 (by decide +kernel) (by decide +kernel)) (mm_in 598 (by decide +kernel) (by decide +kernel)) (mm_in 12 (by decide +kernel) (by decide +kernel)) (mm_in 599 (by decide +kernel) (by decide +kernel)), rfl, rfl, by decide +kernel, h1, h2⟩
theorem uX3_31 (Rm : Room) (h1 : rmX3_awaitedBehind.frames + 1 ≤ Rm.frames) (h2 : 8 + (2 + 11) + rmX3_awaitedBehind.locals ≤ Rm.locals) : mm_Sc Rm rmX3_awaitedBehind RX3 31 yX3_awaitedBehind cX3_awaitedBehind 2 (some .int) 2 := ⟨mm_gS (mm_in 600 (by decide +kernel) (by decide +kernel)) (mm_in 601 (by decide +kernel) (by decide +kernel)) (mm_in 12 (by decide +kernel) (by decide +kernel)) (mm_in 602 (by decide +kernel) (by decide +kernel)), rfl, rfl, by decide +kernel, h1, h2⟩
theorem uX3_35 (Rm : Room) (h1 : rmX3_awaitedBehindOrder.frames + 1 ≤ Rm.frames) (h2 : 8 + (1 + 11) + rmX3_awaitedBehindOrder.locals ≤ Rm.locals) : mm_Sc Rm rmX3_awaitedBehindOrder RX3 35 yX3_awaitedBehindOrder cX3_awaitedBehindOrder 1 (some .int) 1 := ⟨mm_gS (mm_in 603 (by decide +kernel) (by decide +kernel)) (mm_in 604 (by decide +kernel) (by decide +kernel)) (mm_in 12 (by decide +kernel) (by decide +kernel)) (mm_in 605 (by decide +kernel) (by decide +kernel)), rfl, rfl, by decide +kernel, h1, h2⟩
theorem uX3_38 (Rm : Room) (h1 : rmX3_isCart.frames + 1 ≤ Rm.frames) (h2 : 8 + (1 + 11) + rmX3_isCart.locals ≤ Rm.locals) : mm_Sc Rm rmX3_isCart RX3 38 yX3_isCart cX3_isCart 1 (some .boolean) 1 := ⟨mm_gS (mm_in 606 (by decide +kernel) (by decide +kernel)) (mm_in 607 (by decide +kernel) (by decide +kernel)) (mm_in 12 (by decide +kernel) (by decide +kernel)) (mm_in 608 (by decide +kernel) (by decide +kernel)), rfl, rfl, by decide +kernel, h1, h2⟩
theorem uX3_42 (Rm : Room) (h1 : rmX3_isDigit.frames + 1 ≤ Rm.frames) (h2 : 8 + (1 + 11) + rmX3_isDigit.locals ≤ Rm.locals) : mm_Sc Rm rmX3_isDigit RX3 42 yX3_isDigit cX3_isDigit 1 (some .boolean) 1 := ⟨mm_gS (mm_in 609 (by decide +kernel) (by decide +kernel)) (mm_in 610 (by decide +kernel) (by decide +kernel)) (mm_in 12 (by decide +kernel) (by decide +kernel)) (mm_in 611 (by decide +kernel) (by decide +kernel)), rfl, rfl, by decide +kernel, h1, h2⟩
theorem uX5_100 (Rm : Room) (h1 : rmX5_isPitchOrNone.frames + 1 ≤ Rm.frames) (h2 : 8 + (2 + 11) + rmX5_isPitchOrNone.locals ≤ Rm.locals) : mm_V Rm rmX5_isPitchOrNone RX5 RX5 100 yX5_isPitchOrNone cX5_isPitchOrNone 2 (some .boolean) 1 := ⟨mm_gV (mm_in 429 (by decide +kernel) (by decide +kernel)) (mm_in 430 (by decide +kernel) (by decide +kernel)) (mm_in 431 (by decide +kernel) (by decide +kernel)) (mm_in 8 (by decide +kernel) (by decide +kernel)) (mm_in 432 (by decide +kernel) (by decide +kernel)), rfl, rfl, by decide +kernel, h1, h2⟩
theorem uX5_109 (Rm : Room) (h1 : rmX5_givePoints.frames + 1 ≤ Rm.frames) (h2 : 8 + (4 + 11) + rmX5_givePoints.locals ≤ Rm.locals) : mm_V Rm rmX5_givePoints RX5 RX5 109 yX5_givePoints cX5_givePoints 4 (some .int) 2 := ⟨mm_gV (mm_in 455 (by decide +kernel) (by decide +kernel)) (mm_in 456 (by decide +kernel) (by decide +kernel)) (mm_in 457 (by decide +kernel) (by decide +kernel)) (mm_in 8 (by decide +kernel) (by decide +kernel)) (mm_in 458 (by decide +kernel) (by decide +kernel)), rfl, rfl, by decide +kernel, h1, h2⟩
theorem uX5_117 (Rm : Room) (h1 : rmX0_addPoints.frames + 1 ≤ Rm.frames) (h2 : 8 + (4 + 11) + rmX0_addPoints.locals ≤ Rm.locals) : mm_V Rm rmX0_addPoints RX5 RX0 117 yX0_addPoints cX0_addPoints 4 none 2 := ⟨mm_gV (mm_in 459 (by decide +kernel) (by decide +kernel)) (mm_in 460 (by decide +kernel) (by decide +kernel)) (mm_in 461 (by decide +kernel) (by decide +kernel)) (mm_in 10 (by decide +kernel) (by decide +kernel)) (mm_in 462 (by decide +kernel) (by decide +kernel)), rfl, rfl, by decide +kernel, h1, h2⟩
theorem uX5_121 (Rm : Room) (h1 : rmX0_pointsLeft.frames + 1 ≤ Rm.frames) (h2 : 8 + (7 + 11) + rmX0_pointsLeft.locals ≤ Rm.locals) : mm_V Rm rmX0_pointsLeft RX5 RX0 121 yX0_pointsLeft cX0_pointsLeft 7 (some .int) 3 := ⟨mm_gV (mm_in 463 (by decide +kernel) (by decide +kernel)) (mm_in 417 (by decide +kernel) (by decide +kernel)) (mm_in 418 (by decide +kernel) (by decide +kernel)) (mm_in 10 (by decide +kernel) (by decide +kernel)) (mm_in 419 (by decide +kernel) (by decide +kernel)), rfl, rfl, by decide +kernel, h1, h2⟩
theorem uX5_128 (Rm : Room) (h1 : rmX0_dropAllPoints.frames + 1 ≤ Rm.frames) (h2 : 8 + (2 + 11) + rmX0_dropAllPoints.locals ≤ Rm.locals) : mm_V Rm rmX0_dropAllPoints RX5 RX0 128 yX0_dropAllPoints cX0_dropAllPoints 2 none 0 := ⟨mm_gV (mm_in 464 (by decide +kernel) (by decide +kernel)) (mm_in 345 (by decide +kernel) (by decide +kernel)) (mm_in 346 (by decide +kernel) (by decide +kernel)) (mm_in 10 (by decide +kernel) (by decide +kernel)) (mm_in 347 (by decide +kernel) (by decide +kernel)), rfl, rfl, by decide +kernel, h1, h2⟩
theorem uX5_135 (Rm : Room) (h1 : rmX5_countWaiting.frames + 1 ≤ Rm.frames) (h2 : 8 + (3 + 11) + rmX5_countWaiting.locals ≤ Rm.locals) : mm_V Rm rmX5_countWaiting RX5 RX5 135 yX5_countWaiting cX5_countWaiting 3 (some .int) 0 := ⟨mm_gV (mm_in 473 (by decide +kernel) (by decide +kernel)) (mm_in 374 (by decide +kernel) (by decide +kernel)) (mm_in 375 (by decide +kernel) (by decide +kernel)) (mm_in 8 (by decide +kernel) (by decide +kernel)) (mm_in 376 (by decide +kernel) (by decide +kernel)), rfl, rfl, by decide +kernel, h1, h2⟩
theorem uX5_143 (Rm : Room) (h1 : rmX0_balance.frames + 1 ≤ Rm.frames) (h2 : 8 + (1 + 11) + rmX0_balance.locals ≤ Rm.locals) : mm_V Rm rmX0_balance RX5 RX0 143 yX0_balance cX0_balance 1 (some .long) 0 := ⟨mm_gV (mm_in 492 (by decide +kernel) (by decide +kernel)) (mm_in 443 (by decide +kernel) (by decide +kernel)) (mm_in 444 (by decide +kernel) (by decide +kernel)) (mm_in 10 (by decide +kernel) (by decide +kernel)) (mm_in 445 (by decide +kernel) (by decide +kernel)), rfl, rfl, by decide +kernel, h1, h2⟩
theorem uX5_147 (Rm : Room) (h1 : rmX1_runChecks.frames + 1 ≤ Rm.frames) (h2 : 8 + (3 + 11) + rmX1_runChecks.locals ≤ Rm.locals) : mm_Sc Rm rmX1_runChecks RX5 147 yX1_runChecks cX1_runChecks 3 none 1 := ⟨mm_gS (mm_in 515 (by decide +kernel) (by decide +kernel)) (mm_in 516 (by decide +kernel) (by decide +kernel)) (mm_in 14 (by decide +kernel) (by decide +kernel)) (mm_in 517 (by decide +kernel) (by decide +kernel)), rfl, rfl, by decide +kernel, h1, h2⟩
theorem uX5_153 (Rm : Room) (h1 : rmX1_clearLastDay.frames + 1 ≤ Rm.frames) (h2 : 8 + (2 + 11) + rmX1_clearLastDay.locals ≤ Rm.locals) : mm_Sc Rm rmX1_clearLastDay RX5 153 yX1_clearLastDay cX1_clearLastDay 2 none 1 := ⟨mm_gS (mm_in 521 (by decide +kernel) (by decide +kernel)) (mm_in 522 (by decide +kernel) (by decide +kernel)) (mm_in 14 (by decide +kernel) (by decide +kernel)) (mm_in 523 (by decide +kernel) (by decide +kernel)), rfl, rfl, by decide +kernel, h1, h2⟩
theorem uX5_156 (Rm : Room) (h1 : rmX1_drawLots.frames + 1 ≤ Rm.frames) (h2 : 8 + (4 + 11) + rmX1_drawLots.locals ≤ Rm.locals) : mm_Sc Rm rmX1_drawLots RX5 156 yX1_drawLots cX1_drawLots 4 none 1 := ⟨mm_gS (mm_in 525 (by decide +kernel) (by decide +kernel)) (mm_in 526 (by decide +kernel) (by decide +kernel)) (mm_in 14 (by decide +kernel) (by decide +kernel)) (mm_in 527 (by decide +kernel) (by decide +kernel)), rfl, rfl, by decide +kernel, h1, h2⟩
theorem uX5_159 (Rm : Room) (h1 : rmX1_shareKitchens.frames + 1 ≤ Rm.frames) (h2 : 8 + (7 + 11) + rmX1_shareKitchens.locals ≤ Rm.locals) : mm_Sc Rm rmX1_shareKitchens RX5 159 yX1_shareKitchens cX1_shareKitchens 7 none 1 := ⟨mm_gS (mm_in 556 (by decide +kernel) (by decide +kernel)) (mm_in 557 (by decide +kernel) (by decide +kernel)) (mm_in 14 (by decide +kernel) (by decide +kernel)) (mm_in 558 (by decide +kernel) (by decide +kernel)), rfl, rfl, by decide +kernel, h1, h2⟩
theorem uX5_162 (Rm : Room) (h1 : rmX1_makeSwaps.frames + 1 ≤ Rm.frames) (h2 : 8 + (4 + 11) + rmX1_makeSwaps.locals ≤ Rm.locals) : mm_Sc Rm rmX1_makeSwaps RX5 162 yX1_makeSwaps cX1_makeSwaps 4 none 1 := ⟨mm_gS (mm_in 564 (by decide +kernel) (by decide +kernel)) (mm_in 565 (by decide +kernel) (by decide +kernel)) (mm_in 14 (by decide +kernel) (by decide +kernel)) (mm_in 566 (by decide +kernel) (by decide +kernel)), rfl, rfl, by decide +kernel, h1, h2⟩
theorem uX5_165 (Rm : Room) (h1 : rmX1_trade.frames + 1 ≤ Rm.frames) (h2 : 8 + (4 + 11) + rmX1_trade.locals ≤ Rm.locals) : mm_Sc Rm rmX1_trade RX5 165 yX1_trade cX1_trade 4 none 1 := ⟨mm_gS (mm_in 570 (by decide +kernel) (by decide +kernel)) (mm_in 571 (by decide +kernel) (by decide +kernel)) (mm_in 14 (by decide +kernel) (by decide +kernel)) (mm_in 572 (by decide +kernel) (by decide +kernel)), rfl, rfl, by decide +kernel, h1, h2⟩
theorem uX5_168 (Rm : Room) (h1 : rmX5_beginNextDay.frames + 1 ≤ Rm.frames) (h2 : 8 + (2 + 11) + rmX5_beginNextDay.locals ≤ Rm.locals) : mm_V Rm rmX5_beginNextDay RX5 RX5 168 yX5_beginNextDay cX5_beginNextDay 2 none 0 := ⟨mm_gV (mm_in 573 (by decide +kernel) (by decide +kernel)) (mm_in 575 (by decide +kernel) (by decide +kernel)) (mm_in 3 (by decide +kernel) (by decide +kernel)) (mm_in 8 (by decide +kernel) (by decide +kernel)) (mm_in 576 (by decide +kernel) (by decide +kernel)), rfl, rfl, by decide +kernel, h1, h2⟩
theorem uX5_171 (Rm : Room) (h1 : rmX0_dropPointsOfSameSpot.frames + 1 ≤ Rm.frames) (h2 : 8 + (3 + 11) + rmX0_dropPointsOfSameSpot.locals ≤ Rm.locals) : mm_V Rm rmX0_dropPointsOfSameSpot RX5 RX0 171 yX0_dropPointsOfSameSpot cX0_dropPointsOfSameSpot 3 none 1 := ⟨mm_gV (mm_in 577 (by decide +kernel) (by decide +kernel)) (mm_in 578 (by decide +kernel) (by decide +kernel)) (mm_in 579 (by decide +kernel) (by decide +kernel)) (mm_in 10 (by decide +kernel) (by decide +kernel)) (mm_in 580 (by decide +kernel) (by decide +kernel)), rfl, rfl, by decide +kernel, h1, h2⟩
theorem uX5_69 (Rm : Room) (h1 : rmX4_copyFrom.frames + 1 ≤ Rm.frames) (h2 : 8 + (2 + 11) + rmX4_copyFrom.locals ≤ Rm.locals) : mm_V Rm rmX4_copyFrom RX5 RX4 69 yX4_copyFrom cX4_copyFrom 2 none 1 := ⟨mm_gV (mm_in 298 (by decide +kernel) (by decide +kernel)) (mm_in 299 (by decide +kernel) (by decide +kernel)) (mm_in 300 (by decide +kernel) (by decide +kernel)) (mm_in 9 (by decide +kernel) (by decide +kernel)) (mm_in 301 (by decide +kernel) (by decide +kernel)), rfl, rfl, by decide +kernel, h1, h2⟩
theorem uX5_73 (Rm : Room) (h1 : rmX0_copyFrom.frames + 1 ≤ Rm.frames) (h2 : 8 + (2 + 11) + rmX0_copyFrom.locals ≤ Rm.locals) : mm_V Rm rmX0_copyFrom RX5 RX0 73 yX0_copyFrom cX0_copyFrom 2 none 1 := ⟨mm_gV (mm_in 302 (by decide +kernel) (by decide +kernel)) (mm_in 303 (by decide +kernel) (by decide +kernel)) (mm_in 304 (by decide +kernel) (by decide +kernel)) (mm_in 10 (by decide +kernel) (by decide +kernel)) (mm_in 305 (by decide +kernel) (by decide +kernel)), rfl, rfl, by decide +kernel, h1, h2⟩
theorem uX5_83 (Rm : Room) (h1 : rmX4_begin.frames + 1 ≤ Rm.frames) (h2 : 8 + (2 + 11) + rmX4_begin.locals ≤ Rm.locals) : mm_V Rm rmX4_begin RX5 RX4 83 yX4_begin cX4_begin 2 none 1 := ⟨mm_gV (mm_in 328 (by decide +kernel) (by decide +kernel)) (mm_in 329 (by decide +kernel) (by decide +kernel)) (mm_in 330 (by decide +kernel) (by decide +kernel)) (mm_in 9 (by decide +kernel) (by decide +kernel)) (mm_in 331 (by decide +kernel) (by decide +kernel)), rfl, rfl, by decide +kernel, h1, h2⟩
theorem uX5_87 (Rm : Room) (h1 : rmX5_hasPitch.frames + 1 ≤ Rm.frames) (h2 : 8 + (2 + 11) + rmX5_hasPitch.locals ≤ Rm.locals) : mm_V Rm rmX5_hasPitch RX5 RX5 87 yX5_hasPitch cX5_hasPitch 2 (some .boolean) 1 := ⟨mm_gV (mm_in 433 (by decide +kernel) (by decide +kernel)) (mm_in 434 (by decide +kernel) (by decide +kernel)) (mm_in 435 (by decide +kernel) (by decide +kernel)) (mm_in 8 (by decide +kernel) (by decide +kernel)) (mm_in 436 (by decide +kernel) (by decide +kernel)), rfl, rfl, by decide +kernel, h1, h2⟩
theorem uX5_94 (Rm : Room) (h1 : rmX0_begin.frames + 1 ≤ Rm.frames) (h2 : 8 + (4 + 11) + rmX0_begin.locals ≤ Rm.locals) : mm_V Rm rmX0_begin RX5 RX0 94 yX0_begin cX0_begin 4 none 3 := ⟨mm_gV (mm_in 340 (by decide +kernel) (by decide +kernel)) (mm_in 341 (by decide +kernel) (by decide +kernel)) (mm_in 342 (by decide +kernel) (by decide +kernel)) (mm_in 10 (by decide +kernel) (by decide +kernel)) (mm_in 343 (by decide +kernel) (by decide +kernel)), rfl, rfl, by decide +kernel, h1, h2⟩
theorem uX5_97 (Rm : Room) (h1 : rmX5_hasCart.frames + 1 ≤ Rm.frames) (h2 : 8 + (2 + 11) + rmX5_hasCart.locals ≤ Rm.locals) : mm_V Rm rmX5_hasCart RX5 RX5 97 yX5_hasCart cX5_hasCart 2 (some .boolean) 1 := ⟨mm_gV (mm_in 428 (by decide +kernel) (by decide +kernel)) (mm_in 401 (by decide +kernel) (by decide +kernel)) (mm_in 402 (by decide +kernel) (by decide +kernel)) (mm_in 8 (by decide +kernel) (by decide +kernel)) (mm_in 403 (by decide +kernel) (by decide +kernel)), rfl, rfl, by decide +kernel, h1, h2⟩
theorem uX6_112 (Rm : Room) (h1 : rmX0_wishAt.frames + 1 ≤ Rm.frames) (h2 : 8 + (2 + 11) + rmX0_wishAt.locals ≤ Rm.locals) : mm_V Rm rmX0_wishAt RX6 RX0 112 yX0_wishAt cX0_wishAt 2 (some .int) 1 := ⟨mm_gV (mm_in 408 (by decide +kernel) (by decide +kernel)) (mm_in 409 (by decide +kernel) (by decide +kernel)) (mm_in 410 (by decide +kernel) (by decide +kernel)) (mm_in 10 (by decide +kernel) (by decide +kernel)) (mm_in 411 (by decide +kernel) (by decide +kernel)), rfl, rfl, by decide +kernel, h1, h2⟩
theorem uX6_132 (Rm : Room) (h1 : rmX0_pointsLeft.frames + 1 ≤ Rm.frames) (h2 : 8 + (7 + 11) + rmX0_pointsLeft.locals ≤ Rm.locals) : mm_V Rm rmX0_pointsLeft RX6 RX0 132 yX0_pointsLeft cX0_pointsLeft 7 (some .int) 3 := ⟨mm_gV (mm_in 416 (by decide +kernel) (by decide +kernel)) (mm_in 417 (by decide +kernel) (by decide +kernel)) (mm_in 418 (by decide +kernel) (by decide +kernel)) (mm_in 10 (by decide +kernel) (by decide +kernel)) (mm_in 419 (by decide +kernel) (by decide +kernel)), rfl, rfl, by decide +kernel, h1, h2⟩
theorem uX6_156 (Rm : Room) (h1 : rmX0_balance.frames + 1 ≤ Rm.frames) (h2 : 8 + (1 + 11) + rmX0_balance.locals ≤ Rm.locals) : mm_V Rm rmX0_balance RX6 RX0 156 yX0_balance cX0_balance 1 (some .long) 0 := ⟨mm_gV (mm_in 442 (by decide +kernel) (by decide +kernel)) (mm_in 443 (by decide +kernel) (by decide +kernel)) (mm_in 444 (by decide +kernel) (by decide +kernel)) (mm_in 10 (by decide +kernel) (by decide +kernel)) (mm_in 445 (by decide +kernel) (by decide +kernel)), rfl, rfl, by decide +kernel, h1, h2⟩
theorem uX6_175 (Rm : Room) (h1 : rmX5_hasPitch.frames + 1 ≤ Rm.frames) (h2 : 8 + (2 + 11) + rmX5_hasPitch.locals ≤ Rm.locals) : mm_V Rm rmX5_hasPitch RX6 RX5 175 yX5_hasPitch cX5_hasPitch 2 (some .boolean) 1 := ⟨mm_gV (mm_in 497 (by decide +kernel) (by decide +kernel)) (mm_in 434 (by decide +kernel) (by decide +kernel)) (mm_in 435 (by decide +kernel) (by decide +kernel)) (mm_in 8 (by decide +kernel) (by decide +kernel)) (mm_in 436 (by decide +kernel) (by decide +kernel)), rfl, rfl, by decide +kernel, h1, h2⟩
theorem uX6_205 (Rm : Room) (h1 : rmX5_countWaiting.frames + 1 ≤ Rm.frames) (h2 : 8 + (3 + 11) + rmX5_countWaiting.locals ≤ Rm.locals) : mm_V Rm rmX5_countWaiting RX6 RX5 205 yX5_countWaiting cX5_countWaiting 3 (some .int) 0 := ⟨mm_gV (mm_in 373 (by decide +kernel) (by decide +kernel)) (mm_in 374 (by decide +kernel) (by decide +kernel)) (mm_in 375 (by decide +kernel) (by decide +kernel)) (mm_in 8 (by decide +kernel) (by decide +kernel)) (mm_in 376 (by decide +kernel) (by decide +kernel)), rfl, rfl, by decide +kernel, h1, h2⟩
theorem uX6_218 (Rm : Room) (h1 : rmX5_countOnPitches.frames + 1 ≤ Rm.frames) (h2 : 8 + (3 + 11) + rmX5_countOnPitches.locals ≤ Rm.locals) : mm_V Rm rmX5_countOnPitches RX6 RX5 218 yX5_countOnPitches cX5_countOnPitches 3 (some .int) 0 := ⟨mm_gV (mm_in 377 (by decide +kernel) (by decide +kernel)) (mm_in 378 (by decide +kernel) (by decide +kernel)) (mm_in 379 (by decide +kernel) (by decide +kernel)) (mm_in 8 (by decide +kernel) (by decide +kernel)) (mm_in 380 (by decide +kernel) (by decide +kernel)), rfl, rfl, by decide +kernel, h1, h2⟩
theorem uX6_224 (Rm : Room) (h1 : rmX5_copyFrom.frames + 1 ≤ Rm.frames) (h2 : 8 + (3 + 11) + rmX5_copyFrom.locals ≤ Rm.locals) : mm_V Rm rmX5_copyFrom RX6 RX5 224 yX5_copyFrom cX5_copyFrom 3 none 1 := ⟨mm_gV (mm_in 690 (by decide +kernel) (by decide +kernel)) (mm_in 292 (by decide +kernel) (by decide +kernel)) (mm_in 293 (by decide +kernel) (by decide +kernel)) (mm_in 8 (by decide +kernel) (by decide +kernel)) (mm_in 294 (by decide +kernel) (by decide +kernel)), rfl, rfl, by decide +kernel, h1, h2⟩
theorem uX6_227 (Rm : Room) (h1 : rmX6_pitchOnTrialDay.frames + 1 ≤ Rm.frames) (h2 : 8 + (2 + 11) + rmX6_pitchOnTrialDay.locals ≤ Rm.locals) : mm_V Rm rmX6_pitchOnTrialDay RX6 RX6 227 yX6_pitchOnTrialDay cX6_pitchOnTrialDay 2 (some .int) 1 := ⟨mm_gV (mm_in 691 (by decide +kernel) (by decide +kernel)) (mm_in 693 (by decide +kernel) (by decide +kernel)) (mm_in 5 (by decide +kernel) (by decide +kernel)) (mm_in 7 (by decide +kernel) (by decide +kernel)) (mm_in 694 (by decide +kernel) (by decide +kernel)), rfl, rfl, by decide +kernel, h1, h2⟩
theorem uX6_230 (Rm : Room) (h1 : rmX5_sameKindBeside.frames + 1 ≤ Rm.frames) (h2 : 8 + (5 + 11) + rmX5_sameKindBeside.locals ≤ Rm.locals) : mm_V Rm rmX5_sameKindBeside RX6 RX5 230 yX5_sameKindBeside cX5_sameKindBeside 5 (some .boolean) 2 := ⟨mm_gV (mm_in 682 (by decide +kernel) (by decide +kernel)) (mm_in 549 (by decide +kernel) (by decide +kernel)) (mm_in 550 (by decide +kernel) (by decide +kernel)) (mm_in 8 (by decide +kernel) (by decide +kernel)) (mm_in 551 (by decide +kernel) (by decide +kernel)), rfl, rfl, by decide +kernel, h1, h2⟩
theorem uX6_234 (Rm : Room) (h1 : rmX3_append.frames + 1 ≤ Rm.frames) (h2 : 8 + (5 + 11) + rmX3_append.locals ≤ Rm.locals) : mm_V Rm rmX3_append RX6 RX3 234 yX3_append cX3_append 5 (some .int) 1 := ⟨mm_gV (mm_in 638 (by decide +kernel) (by decide +kernel)) (mm_in 639 (by decide +kernel) (by decide +kernel)) (mm_in 640 (by decide +kernel) (by decide +kernel)) (mm_in 12 (by decide +kernel) (by decide +kernel)) (mm_in 641 (by decide +kernel) (by decide +kernel)), rfl, rfl, by decide +kernel, h1, h2⟩
theorem uX6_238 (Rm : Room) (h1 : rmX3_findFault.frames + 1 ≤ Rm.frames) (h2 : 8 + (3 + 11) + rmX3_findFault.locals ≤ Rm.locals) : mm_V Rm rmX3_findFault RX6 RX3 238 yX3_findFault cX3_findFault 3 (some .int) 0 := ⟨mm_gV (mm_in 592 (by decide +kernel) (by decide +kernel)) (mm_in 593 (by decide +kernel) (by decide +kernel)) (mm_in 594 (by decide +kernel) (by decide +kernel)) (mm_in 12 (by decide +kernel) (by decide +kernel)) (mm_in 595 (by decide +kernel) (by decide +kernel)), rfl, rfl, by decide +kernel, h1, h2⟩
theorem uX6_241 (Rm : Room) (h1 : rmX3_endsOrder.frames + 1 ≤ Rm.frames) (h2 : 8 + (2 + 11) + rmX3_endsOrder.locals ≤ Rm.locals) : mm_V Rm rmX3_endsOrder RX6 RX3 241 yX3_endsOrder cX3_endsOrder 2 (some .boolean) 1 := ⟨mm_gV (mm_in 616 (by decide +kernel) (by decide +kernel)) (mm_in 617 (by decide +kernel) (by decide +kernel)) (mm_in 618 (by decide +kernel) (by decide +kernel)) (mm_in 12 (by decide +kernel) (by decide +kernel)) (mm_in 619 (by decide +kernel) (by decide +kernel)), rfl, rfl, by decide +kernel, h1, h2⟩
theorem uX6_244 (Rm : Room) (h1 : rmX6_performOrder.frames + 1 ≤ Rm.frames) (h2 : 8 + (4 + 11) + rmX6_performOrder.locals ≤ Rm.locals) : mm_V Rm rmX6_performOrder RX6 RX6 244 yX6_performOrder cX6_performOrder 4 (some .int) 2 := ⟨mm_gV (mm_in 620 (by decide +kernel) (by decide +kernel)) (mm_in 622 (by decide +kernel) (by decide +kernel)) (mm_in 4 (by decide +kernel) (by decide +kernel)) (mm_in 7 (by decide +kernel) (by decide +kernel)) (mm_in 623 (by decide +kernel) (by decide +kernel)), rfl, rfl, by decide +kernel, h1, h2⟩
theorem uX6_247 (Rm : Room) (h1 : rmX3_signAt.frames + 1 ≤ Rm.frames) (h2 : 8 + (2 + 11) + rmX3_signAt.locals ≤ Rm.locals) : mm_V Rm rmX3_signAt RX6 RX3 247 yX3_signAt cX3_signAt 2 (some .int) 1 := ⟨mm_gV (mm_in 624 (by decide +kernel) (by decide +kernel)) (mm_in 597 (by decide +kernel) (by decide +kernel)) (mm_in 598 (by decide +kernel) (by decide +kernel)) (mm_in 12 (by decide +kernel) (by decide +kernel)) (mm_in 599 (by decide +kernel) (by decide +kernel)), rfl, rfl, by decide +kernel, h1, h2⟩
theorem uX6_250 (Rm : Room) (h1 : rmX3_wishAt.frames + 1 ≤ Rm.frames) (h2 : 8 + (3 + 11) + rmX3_wishAt.locals ≤ Rm.locals) : mm_V Rm rmX3_wishAt RX6 RX3 250 yX3_wishAt cX3_wishAt 3 (some .int) 2 := ⟨mm_gV (mm_in 625 (by decide +kernel) (by decide +kernel)) (mm_in 626 (by decide +kernel) (by decide +kernel)) (mm_in 627 (by decide +kernel) (by decide +kernel)) (mm_in 12 (by decide +kernel) (by decide +kernel)) (mm_in 628 (by decide +kernel) (by decide +kernel)), rfl, rfl, by decide +kernel, h1, h2⟩
theorem uX6_252 (Rm : Room) (h1 : rmX3_numberAt.frames + 1 ≤ Rm.frames) (h2 : 8 + (5 + 11) + rmX3_numberAt.locals ≤ Rm.locals) : mm_V Rm rmX3_numberAt RX6 RX3 252 yX3_numberAt cX3_numberAt 5 (some .int) 2 := ⟨mm_gV (mm_in 629 (by decide +kernel) (by decide +kernel)) (mm_in 630 (by decide +kernel) (by decide +kernel)) (mm_in 631 (by decide +kernel) (by decide +kernel)) (mm_in 12 (by decide +kernel) (by decide +kernel)) (mm_in 632 (by decide +kernel) (by decide +kernel)), rfl, rfl, by decide +kernel, h1, h2⟩
theorem uX6_255 (Rm : Room) (h1 : rmX2_takeBack.frames + 1 ≤ Rm.frames) (h2 : 8 + (2 + 11) + rmX2_takeBack.locals ≤ Rm.locals) : mm_V Rm rmX2_takeBack RX6 RX2 255 yX2_takeBack cX2_takeBack 2 none 1 := ⟨mm_gV (mm_in 668 (by decide +kernel) (by decide +kernel)) (mm_in 669 (by decide +kernel) (by decide +kernel)) (mm_in 670 (by decide +kernel) (by decide +kernel)) (mm_in 11 (by decide +kernel) (by decide +kernel)) (mm_in 671 (by decide +kernel) (by decide +kernel)), rfl, rfl, by decide +kernel, h1, h2⟩
theorem uX6_39 (Rm : Room) (h1 : rmX2_prepare.frames + 1 ≤ Rm.frames) (h2 : 8 + (2 + 11) + rmX2_prepare.locals ≤ Rm.locals) : mm_V Rm rmX2_prepare RX6 RX2 39 yX2_prepare cX2_prepare 2 none 1 := ⟨mm_gV (mm_in 287 (by decide +kernel) (by decide +kernel)) (mm_in 288 (by decide +kernel) (by decide +kernel)) (mm_in 289 (by decide +kernel) (by decide +kernel)) (mm_in 11 (by decide +kernel) (by decide +kernel)) (mm_in 290 (by decide +kernel) (by decide +kernel)), rfl, rfl, by decide +kernel, h1, h2⟩
theorem uX6_43 (Rm : Room) (h1 : rmX5_changeSetting.frames + 1 ≤ Rm.frames) (h2 : 8 + (4 + 11) + rmX5_changeSetting.locals ≤ Rm.locals) : mm_V Rm rmX5_changeSetting RX6 RX5 43 yX5_changeSetting cX5_changeSetting 4 (some .int) 2 := ⟨mm_gV (mm_in 385 (by decide +kernel) (by decide +kernel)) (mm_in 386 (by decide +kernel) (by decide +kernel)) (mm_in 387 (by decide +kernel) (by decide +kernel)) (mm_in 8 (by decide +kernel) (by decide +kernel)) (mm_in 388 (by decide +kernel) (by decide +kernel)), rfl, rfl, by decide +kernel, h1, h2⟩
theorem uX6_47 (Rm : Room) (h1 : rmX6_recorded.frames + 1 ≤ Rm.frames) (h2 : 8 + (2 + 11) + rmX6_recorded.locals ≤ Rm.locals) : mm_V Rm rmX6_recorded RX6 RX6 47 yX6_recorded cX6_recorded 2 (some .int) 1 := ⟨mm_gV (mm_in 312 (by decide +kernel) (by decide +kernel)) (mm_in 314 (by decide +kernel) (by decide +kernel)) (mm_in 0 (by decide +kernel) (by decide +kernel)) (mm_in 7 (by decide +kernel) (by decide +kernel)) (mm_in 315 (by decide +kernel) (by decide +kernel)), rfl, rfl, by decide +kernel, h1, h2⟩
theorem uX6_51 (Rm : Room) (h1 : rmX5_changeLots.frames + 1 ≤ Rm.frames) (h2 : 8 + (3 + 11) + rmX5_changeLots.locals ≤ Rm.locals) : mm_V Rm rmX5_changeLots RX6 RX5 51 yX5_changeLots cX5_changeLots 3 (some .int) 1 := ⟨mm_gV (mm_in 307 (by decide +kernel) (by decide +kernel)) (mm_in 308 (by decide +kernel) (by decide +kernel)) (mm_in 309 (by decide +kernel) (by decide +kernel)) (mm_in 8 (by decide +kernel) (by decide +kernel)) (mm_in 310 (by decide +kernel) (by decide +kernel)), rfl, rfl, by decide +kernel, h1, h2⟩
theorem uX6_54 (Rm : Room) (h1 : rmX5_addPitch.frames + 1 ≤ Rm.frames) (h2 : 8 + (2 + 11) + rmX5_addPitch.locals ≤ Rm.locals) : mm_V Rm rmX5_addPitch RX6 RX5 54 yX5_addPitch cX5_addPitch 2 (some .int) 1 := ⟨mm_gV (mm_in 324 (by decide +kernel) (by decide +kernel)) (mm_in 325 (by decide +kernel) (by decide +kernel)) (mm_in 326 (by decide +kernel) (by decide +kernel)) (mm_in 8 (by decide +kernel) (by decide +kernel)) (mm_in 327 (by decide +kernel) (by decide +kernel)), rfl, rfl, by decide +kernel, h1, h2⟩
theorem uX6_57 (Rm : Room) (h1 : rmX5_changeRent.frames + 1 ≤ Rm.frames) (h2 : 8 + (4 + 11) + rmX5_changeRent.locals ≤ Rm.locals) : mm_V Rm rmX5_changeRent RX6 RX5 57 yX5_changeRent cX5_changeRent 4 (some .int) 2 := ⟨mm_gV (mm_in 502 (by decide +kernel) (by decide +kernel)) (mm_in 503 (by decide +kernel) (by decide +kernel)) (mm_in 504 (by decide +kernel) (by decide +kernel)) (mm_in 8 (by decide +kernel) (by decide +kernel)) (mm_in 505 (by decide +kernel) (by decide +kernel)), rfl, rfl, by decide +kernel, h1, h2⟩
theorem uX6_60 (Rm : Room) (h1 : rmX5_addCart.frames + 1 ≤ Rm.frames) (h2 : 8 + (3 + 11) + rmX5_addCart.locals ≤ Rm.locals) : mm_V Rm rmX5_addCart RX6 RX5 60 yX5_addCart cX5_addCart 3 (some .int) 2 := ⟨mm_gV (mm_in 336 (by decide +kernel) (by decide +kernel)) (mm_in 337 (by decide +kernel) (by decide +kernel)) (mm_in 338 (by decide +kernel) (by decide +kernel)) (mm_in 8 (by decide +kernel) (by decide +kernel)) (mm_in 339 (by decide +kernel) (by decide +kernel)), rfl, rfl, by decide +kernel, h1, h2⟩
theorem uX6_63 (Rm : Room) (h1 : rmX5_tellWishes.frames + 1 ≤ Rm.frames) (h2 : 8 + (7 + 11) + rmX5_tellWishes.locals ≤ Rm.locals) : mm_V Rm rmX5_tellWishes RX6 RX5 63 yX5_tellWishes cX5_tellWishes 7 (some .int) 4 := ⟨mm_gV (mm_in 424 (by decide +kernel) (by decide +kernel)) (mm_in 425 (by decide +kernel) (by decide +kernel)) (mm_in 426 (by decide +kernel) (by decide +kernel)) (mm_in 8 (by decide +kernel) (by decide +kernel)) (mm_in 427 (by decide +kernel) (by decide +kernel)), rfl, rfl, by decide +kernel, h1, h2⟩
theorem uX6_67 (Rm : Room) (h1 : rmX5_punish.frames + 1 ≤ Rm.frames) (h2 : 8 + (3 + 11) + rmX5_punish.locals ≤ Rm.locals) : mm_V Rm rmX5_punish RX6 RX5 67 yX5_punish cX5_punish 3 (some .int) 2 := ⟨mm_gV (mm_in 451 (by decide +kernel) (by decide +kernel)) (mm_in 452 (by decide +kernel) (by decide +kernel)) (mm_in 453 (by decide +kernel) (by decide +kernel)) (mm_in 8 (by decide +kernel) (by decide +kernel)) (mm_in 454 (by decide +kernel) (by decide +kernel)), rfl, rfl, by decide +kernel, h1, h2⟩
theorem uX6_70 (Rm : Room) (h1 : rmX5_askCheck.frames + 1 ≤ Rm.frames) (h2 : 8 + (2 + 11) + rmX5_askCheck.locals ≤ Rm.locals) : mm_V Rm rmX5_askCheck RX6 RX5 70 yX5_askCheck cX5_askCheck 2 (some .int) 1 := ⟨mm_gV (mm_in 469 (by decide +kernel) (by decide +kernel)) (mm_in 470 (by decide +kernel) (by decide +kernel)) (mm_in 471 (by decide +kernel) (by decide +kernel)) (mm_in 8 (by decide +kernel) (by decide +kernel)) (mm_in 472 (by decide +kernel) (by decide +kernel)), rfl, rfl, by decide +kernel, h1, h2⟩
theorem uX6_73 (Rm : Room) (h1 : rmX5_askSwap.frames + 1 ≤ Rm.frames) (h2 : 8 + (3 + 11) + rmX5_askSwap.locals ≤ Rm.locals) : mm_V Rm rmX5_askSwap RX6 RX5 73 yX5_askSwap cX5_askSwap 3 (some .int) 2 := ⟨mm_gV (mm_in 478 (by decide +kernel) (by decide +kernel)) (mm_in 479 (by decide +kernel) (by decide +kernel)) (mm_in 480 (by decide +kernel) (by decide +kernel)) (mm_in 8 (by decide +kernel) (by decide +kernel)) (mm_in 481 (by decide +kernel) (by decide +kernel)), rfl, rfl, by decide +kernel, h1, h2⟩
theorem uX6_76 (Rm : Room) (h1 : rmX5_takeMoney.frames + 1 ≤ Rm.frames) (h2 : 8 + (3 + 11) + rmX5_takeMoney.locals ≤ Rm.locals) : mm_V Rm rmX5_takeMoney RX6 RX5 76 yX5_takeMoney cX5_takeMoney 3 (some .int) 2 := ⟨mm_gV (mm_in 487 (by decide +kernel) (by decide +kernel)) (mm_in 488 (by decide +kernel) (by decide +kernel)) (mm_in 489 (by decide +kernel) (by decide +kernel)) (mm_in 8 (by decide +kernel) (by decide +kernel)) (mm_in 490 (by decide +kernel) (by decide +kernel)), rfl, rfl, by decide +kernel, h1, h2⟩
theorem uX6_79 (Rm : Room) (h1 : rmX5_passDays.frames + 1 ≤ Rm.frames) (h2 : 8 + (3 + 11) + rmX5_passDays.locals ≤ Rm.locals) : mm_V Rm rmX5_passDays RX6 RX5 79 yX5_passDays cX5_passDays 3 (some .int) 1 := ⟨mm_gV (mm_in 511 (by decide +kernel) (by decide +kernel)) (mm_in 512 (by decide +kernel) (by decide +kernel)) (mm_in 513 (by decide +kernel) (by decide +kernel)) (mm_in 8 (by decide +kernel) (by decide +kernel)) (mm_in 514 (by decide +kernel) (by decide +kernel)), rfl, rfl, by decide +kernel, h1, h2⟩
theorem uX6_82 (Rm : Room) (h1 : rmX2_keepPrepared.frames + 1 ≤ Rm.frames) (h2 : 8 + (1 + 11) + rmX2_keepPrepared.locals ≤ Rm.locals) : mm_V Rm rmX2_keepPrepared RX6 RX2 82 yX2_keepPrepared cX2_keepPrepared 1 none 0 := ⟨mm_gV (mm_in 316 (by decide +kernel) (by decide +kernel)) (mm_in 317 (by decide +kernel) (by decide +kernel)) (mm_in 318 (by decide +kernel) (by decide +kernel)) (mm_in 11 (by decide +kernel) (by decide +kernel)) (mm_in 319 (by decide +kernel) (by decide +kernel)), rfl, rfl, by decide +kernel, h1, h2⟩
theorem uX6_85 (Rm : Room) (h1 : rmX5_hasCart.frames + 1 ≤ Rm.frames) (h2 : 8 + (2 + 11) + rmX5_hasCart.locals ≤ Rm.locals) : mm_V Rm rmX5_hasCart RX6 RX5 85 yX5_hasCart cX5_hasCart 2 (some .boolean) 1 := ⟨mm_gV (mm_in 400 (by decide +kernel) (by decide +kernel)) (mm_in 401 (by decide +kernel) (by decide +kernel)) (mm_in 402 (by decide +kernel) (by decide +kernel)) (mm_in 8 (by decide +kernel) (by decide +kernel)) (mm_in 403 (by decide +kernel) (by decide +kernel)), rfl, rfl, by decide +kernel, h1, h2⟩
theorem uX6_93 (Rm : Room) (h1 : rmX6_aboutCart.frames + 1 ≤ Rm.frames) (h2 : 8 + (3 + 11) + rmX6_aboutCart.locals ≤ Rm.locals) : mm_V Rm rmX6_aboutCart RX6 RX6 93 yX6_aboutCart cX6_aboutCart 3 (some .int) 2 := ⟨mm_gV (mm_in 404 (by decide +kernel) (by decide +kernel)) (mm_in 406 (by decide +kernel) (by decide +kernel)) (mm_in 1 (by decide +kernel) (by decide +kernel)) (mm_in 7 (by decide +kernel) (by decide +kernel)) (mm_in 407 (by decide +kernel) (by decide +kernel)), rfl, rfl, by decide +kernel, h1, h2⟩
theorem uX6_97 (Rm : Room) (h1 : rmX6_aboutPastOfCart.frames + 1 ≤ Rm.frames) (h2 : 8 + (3 + 11) + rmX6_aboutPastOfCart.locals ≤ Rm.locals) : mm_V Rm rmX6_aboutPastOfCart RX6 RX6 97 yX6_aboutPastOfCart cX6_aboutPastOfCart 3 (some .int) 2 := ⟨mm_gV (mm_in 412 (by decide +kernel) (by decide +kernel)) (mm_in 414 (by decide +kernel) (by decide +kernel)) (mm_in 2 (by decide +kernel) (by decide +kernel)) (mm_in 7 (by decide +kernel) (by decide +kernel)) (mm_in 415 (by decide +kernel) (by decide +kernel)), rfl, rfl, by decide +kernel, h1, h2⟩
end WDS
end
section
def fX0_beginDay (M : mm_M) (a0 : Nat) : Option (mm_M) :=
  lt (sI M a0 8 (-6)) fun M1 =>
  lt (sI M1 a0 9 (-6)) fun M2 =>
  lt (sI M2 a0 10 0) fun M3 =>
  lt (sI M3 a0 11 (-6)) fun M4 =>
  some M4

def fX0_dropAllPoints_2 (a0 : Nat) : Nat → mm_M → Int32 → Option (mm_M)
  | 0, _, _ => none
  | n + 1, M, v1 =>
    if 200 ≤ v1 then
      some M
    else
      gd (¬ (v1 < 0 ∨ 200 ≤ v1.toNatClampNeg)) <|
      lt (sI M (a0 + 2) v1.toNatClampNeg 0) fun M3 =>
      lt (v1 + 1) fun y4 =>
      fX0_dropAllPoints_2 a0 n M3 y4

def fX0_dropAllPoints (M : mm_M) (a0 : Nat) : Option (mm_M) :=
  fX0_dropAllPoints_2 a0 FU M 0

def fX0_begin (M : mm_M) (a0 : Nat) (x1 : Int32) (x2 : Int32) (x3 : Int32) : Option (mm_M) :=
  lt (sI M a0 0 x1) fun M1 =>
  lt (sI M1 a0 1 x2) fun M2 =>
  lt (sI M2 a0 4 x3) fun M3 =>
  lt (sI M3 a0 2 0) fun M4 =>
  lt (sI M4 a0 3 0) fun M5 =>
  lt (sI M5 a0 5 0) fun M6 =>
  lt (sI M6 a0 6 (-6)) fun M7 =>
  lt (sI M7 a0 7 0) fun M8 =>
  lt (sL M8 a0 12 (0 : Int64)) fun M9 =>
  lt (sL M9 a0 13 (0 : Int64)) fun M10 =>
  lt (sL M10 a0 14 (0 : Int64)) fun M11 =>
  lt (sL M11 a0 15 (0 : Int64)) fun M12 =>
  bn (fX0_dropAllPoints M12 a0) fun M14 =>
  bn (fX0_beginDay M14 a0) fun M16 =>
  some M16

def fX0_copyFrom (M : mm_M) (a0 : Nat) (a1 : Nat) : Option (mm_M) :=
  lt (sI M a0 0 (M.1 a1 0)) fun M1 =>
  lt (sI M1 a0 1 (M1.1 a1 1)) fun M2 =>
  lt (sI M2 a0 2 (M2.1 a1 2)) fun M3 =>
  lt (sI M3 a0 3 (M3.1 a1 3)) fun M4 =>
  lt (sI M4 a0 4 (M4.1 a1 4)) fun M5 =>
  gd ((M5.1 a1 5) = 0 ∨ (M5.1 a1 5) = 1) <|
  lt (sI M5 a0 5 (M5.1 a1 5)) fun M7 =>
  lt (sI M7 a0 6 (M7.1 a1 6)) fun M8 =>
  lt (sI M8 a0 7 (M8.1 a1 7)) fun M9 =>
  lt (sI M9 a0 8 (M9.1 a1 8)) fun M10 =>
  lt (sI M10 a0 9 (M10.1 a1 9)) fun M11 =>
  lt (sI M11 a0 10 (M11.1 a1 10)) fun M12 =>
  lt (sI M12 a0 11 (M12.1 a1 11)) fun M13 =>
  lt (sL M13 a0 12 (M13.2 a1 12)) fun M14 =>
  lt (sL M14 a0 13 (M14.2 a1 13)) fun M15 =>
  lt (sL M15 a0 14 (M15.2 a1 14)) fun M16 =>
  lt (sL M16 a0 15 (M16.2 a1 15)) fun M17 =>
  lt (sC M17 (a0 + 1) (fun j => if j < 3 then M17.1 (a1 + 1) j else M17.1 (a0 + 1) j)) fun M18 =>
  lt (sC M18 (a0 + 2) (fun j => if j < 200 then M18.1 (a1 + 2) j else M18.1 (a0 + 2) j)) fun M19 =>
  some M19

def fX0_balance (M : mm_M) (a0 : Nat) : Option (Int64) :=
  some ((((M.2 a0 12) - (M.2 a0 13)) - (M.2 a0 14)) - (M.2 a0 15))

def fX0_wishAt (M : mm_M) (a0 : Nat) (x1 : Int32) : Option (Int32) :=
  if x1 < 0 then
    some (-6)
  else
    if (M.1 a0 2) ≤ x1 then
      some (-6)
    else
      if 3 ≤ x1 then
        some (-6)
      else
        gd (¬ (x1 < 0 ∨ 3 ≤ x1.toNatClampNeg)) <|
        some (M.1 (a0 + 1) x1.toNatClampNeg)

def fX0_addPoints (M : mm_M) (a0 : Nat) (x1 : Int32) (x2 : Int32) : Option (mm_M) :=
  lt (x1 - x1 / 200 * 200) fun y1 =>
  if y1 < 0 then
    some M
  else
    gd (¬ (y1 < 0 ∨ 200 ≤ y1.toNatClampNeg)) <|
    lt (sI M (a0 + 2) y1.toNatClampNeg ((M.1 (a0 + 2) y1.toNatClampNeg) + x2)) fun M4 =>
    some M4

def fX0_dropPointsOfSameSpot (M : mm_M) (a0 : Nat) (x1 : Int32) : Option (mm_M) :=
  lt (x1 - x1 / 200 * 200) fun y1 =>
  if y1 < 0 then
    some M
  else
    gd (¬ (y1 < 0 ∨ 200 ≤ y1.toNatClampNeg)) <|
    lt (sI M (a0 + 2) y1.toNatClampNeg 0) fun M4 =>
    some M4

def fX0_pointsLeft_6 (a0 : Nat) (x1 : Int32) (x2 : Int32) (x3 : Int32) (M : mm_M) : Nat → Int32 → Int32 → Option (Int32)
  | 0, _, _ => none
  | n + 1, v4, v5 =>
    if x3 ≤ v5 then
      some v4
    else
      if 200 ≤ v5 then
        some v4
      else
        lt (x1 - v5) fun y3 =>
        if y3 < 0 then
          lt (v5 + 1) fun y5 =>
          fX0_pointsLeft_6 a0 x1 x2 x3 M n v4 y5
        else
          if x2 < y3 then
            lt (v5 + 1) fun y7 =>
            fX0_pointsLeft_6 a0 x1 x2 x3 M n v4 y7
          else
            gd (¬ ((y3 - y3 / 200 * 200) < 0 ∨ 200 ≤ (y3 - y3 / 200 * 200).toNatClampNeg)) <|
            lt (v4 + (M.1 (a0 + 2) (y3 - y3 / 200 * 200).toNatClampNeg)) fun y9 =>
            lt (v5 + 1) fun y10 =>
            fX0_pointsLeft_6 a0 x1 x2 x3 M n y9 y10

def fX0_pointsLeft (M : mm_M) (a0 : Nat) (x1 : Int32) (x2 : Int32) (x3 : Int32) : Option (Int32) :=
  fX0_pointsLeft_6 a0 x1 x2 x3 M FU 0 0

def fX0_reasonBeforeLots (M : mm_M) (a0 : Nat) (x1 : Int32) : Option (Int32) :=
  if (M.1 a0 2) = 0 then
    some 1
  else
    if x1 ≤ (M.1 a0 4) then
      if (M.1 a0 6) < x1 then
        some 4
      else
        some 3
    else
      some 2

def fX1_nextToCheck_4 (a0 : Nat) (M : mm_M) : Nat → Option Nat → Int32 → Option (Option Nat)
  | 0, _, _ => none
  | n + 1, v1, v2 =>
    if (M.1 a0 3) ≤ v2 then
      some v1
    else
      gd (¬ (v2 < 0 ∨ 16 ≤ v2.toNatClampNeg)) <|
      if (M.1 (a0 + 18 + 3 * v2.toNatClampNeg) 5) = 0 then
        lt (v2 + 1) fun y4 =>
        fX1_nextToCheck_4 a0 M n v1 y4
      else
        om v1
          (lt (v2 + 1) fun y6 =>
          fX1_nextToCheck_4 a0 M n (some (a0 + 18 + 3 * v2.toNatClampNeg)) y6)
          (fun b5 => gd (kT b5 = (0, 0)) <|
          if (M.1 b5 4) ≤ (M.1 (a0 + 18 + 3 * v2.toNatClampNeg) 4) then
            lt (v2 + 1) fun y9 =>
            fX1_nextToCheck_4 a0 M n (some b5) y9
          else
            lt (v2 + 1) fun y10 =>
            fX1_nextToCheck_4 a0 M n (some (a0 + 18 + 3 * v2.toNatClampNeg)) y10)

def fX1_nextToCheck (M : mm_M) (a0 : Nat) : Option (Option Nat) :=
  fX1_nextToCheck_4 a0 M FU none 0

def fX1_runChecks_2 (a0 : Nat) : Nat → mm_M → Int32 → Option (mm_M)
  | 0, _, _ => none
  | n + 1, M, v1 =>
    if (M.1 (a0 + 1) 2) ≤ v1 then
      some M
    else
      bn (fX1_nextToCheck M a0) fun r3 =>
      om r3
        (some M)
        (fun b4 => gd (kT b4 = (0, 0)) <|
        lt (sI M b4 4 ((M.1 a0 0) + (M.1 (a0 + 1) 1))) fun M6 =>
        lt (sI M6 b4 5 0) fun M7 =>
        lt (v1 + 1) fun y8 =>
        fX1_runChecks_2 a0 n M7 y8)

def fX1_runChecks (M : mm_M) (a0 : Nat) : Option (mm_M) :=
  fX1_runChecks_2 a0 FU M 0

def fX1_clearLastDay_29 (a0 : Nat) : Nat → mm_M → Int32 → Option (mm_M)
  | 0, _, _ => none
  | n + 1, M, v1 =>
    if (M.1 a0 3) ≤ v1 then
      some M
    else
      gd (¬ (v1 < 0 ∨ 16 ≤ v1.toNatClampNeg)) <|
      bn (fX0_beginDay M (a0 + 18 + 3 * v1.toNatClampNeg)) fun M4 =>
      lt (v1 + 1) fun y5 =>
      fX1_clearLastDay_29 a0 n M4 y5

def fX1_clearLastDay_2 (a0 : Nat) : Nat → mm_M → Int32 → Option (mm_M)
  | 0, _, _ => none
  | n + 1, M, v1 =>
    if (M.1 a0 2) ≤ v1 then
      fX1_clearLastDay_29 a0 FU M 0
    else
      gd (¬ (v1 < 0 ∨ 10 ≤ v1.toNatClampNeg)) <|
      lt (sI M (a0 + 8 + v1.toNatClampNeg) 3 (-6)) fun M3 =>
      lt (v1 + 1) fun y4 =>
      fX1_clearLastDay_2 a0 n M3 y4

def fX1_clearLastDay (M : mm_M) (a0 : Nat) : Option (mm_M) :=
  fX1_clearLastDay_2 a0 FU M 0

def fX5_hasCart (M : mm_M) (a0 : Nat) (x1 : Int32) : Option (Bool) :=
  if x1 < 0 then
    some false
  else
    if (M.1 a0 3) ≤ x1 then
      some false
    else
      if 16 ≤ x1 then
        some false
      else
        some true

def fX5_hasPitch (M : mm_M) (a0 : Nat) (x1 : Int32) : Option (Bool) :=
  if x1 < 0 then
    some false
  else
    if (M.1 a0 2) ≤ x1 then
      some false
    else
      if 10 ≤ x1 then
        some false
      else
        some true

def fX5_sameKindBeside_43 (a0 : Nat) (x1 : Int32) (x2 : Int32) (M : mm_M) (k14 : Int32 → Option (Bool)) (v3 : Int32) (t0 : Int32) : Option (Bool) :=
  if t0 = x1 then
    lt (v3 + 2) fun y2 =>
    k14 y2
  else
    bn (fX5_hasCart M a0 t0) fun r4 =>
    if r4 = true then
      gd (¬ (t0 < 0 ∨ 16 ≤ t0.toNatClampNeg)) <|
      gd (¬ (x1 < 0 ∨ 16 ≤ x1.toNatClampNeg)) <|
      if (M.1 (a0 + 18 + 3 * t0.toNatClampNeg) 0) = (M.1 (a0 + 18 + 3 * x1.toNatClampNeg) 0) then
        some true
      else
        lt (v3 + 2) fun y10 =>
        k14 y10
    else
      lt (v3 + 2) fun y6 =>
      k14 y6

def fX5_sameKindBeside_14 (a0 : Nat) (x1 : Int32) (x2 : Int32) (M : mm_M) : Nat → Int32 → Option (Bool)
  | 0, _ => none
  | n + 1, v3 =>
    if (x2 + 1) < v3 then
      some false
    else
      bn (fX5_hasPitch M a0 v3) fun r3 =>
      if r3 = true then
        gd (¬ (v3 < 0 ∨ 10 ≤ v3.toNatClampNeg)) <|
        fX5_sameKindBeside_43 a0 x1 x2 M (fX5_sameKindBeside_14 a0 x1 x2 M n) v3 (M.1 (a0 + 8 + v3.toNatClampNeg) 3)
      else
        fX5_sameKindBeside_43 a0 x1 x2 M (fX5_sameKindBeside_14 a0 x1 x2 M n) v3 (-6)

def fX5_sameKindBeside (M : mm_M) (a0 : Nat) (x1 : Int32) (x2 : Int32) : Option (Bool) :=
  bn (fX5_hasCart M a0 x1) fun r2 =>
  if r2 = true then
    lt (x2 - 1) fun y4 =>
    fX5_sameKindBeside_14 a0 x1 x2 M FU y4
  else
    some false

def fX5_seat (M : mm_M) (a0 : Nat) (x1 : Int32) (x2 : Int32) : Option (mm_M) :=
  bn (fX5_hasCart M a0 x1) fun r2 =>
  if r2 = true then
    bn (fX5_hasPitch M a0 x2) fun r5 =>
    if r5 = true then
      gd (¬ (x2 < 0 ∨ 10 ≤ x2.toNatClampNeg)) <|
      lt (sI M (a0 + 8 + x2.toNatClampNeg) 3 x1) fun M8 =>
      gd (¬ (x1 < 0 ∨ 16 ≤ x1.toNatClampNeg)) <|
      lt (sI M8 (a0 + 18 + 3 * x1.toNatClampNeg) 8 x2) fun M10 =>
      some M10
    else
      some M
  else
    some M

def fX1_choosePitch_18 (a0 : Nat) (x1 : Int32) : Nat → mm_M → Nat → Int32 → Option (mm_M)
  | 0, _, _, _ => none
  | n + 1, M, v2, v3 =>
    if (M.1 v2 2) ≤ v3 then
      some M
    else
      bn (fX0_wishAt M v2 v3) fun r3 =>
      bn (fX5_hasPitch M a0 r3) fun r5 =>
      if r5 = true then
        gd (¬ (r3 < 0 ∨ 10 ≤ r3.toNatClampNeg)) <|
        if (M.1 (a0 + 8 + r3.toNatClampNeg) 3) = (-6) then
          bn (fX5_sameKindBeside M a0 x1 r3) fun r12 =>
          if r12 = true then
            lt (v3 + 1) fun y14 =>
            fX1_choosePitch_18 a0 x1 n M v2 y14
          else
            bn (fX5_seat M a0 x1 r3) fun M16 =>
            lt (sI M16 v2 10 0) fun M17 =>
            some M17
        else
          lt (v3 + 1) fun y10 =>
          fX1_choosePitch_18 a0 x1 n M v2 y10
      else
        lt (v3 + 1) fun y7 =>
        fX1_choosePitch_18 a0 x1 n M v2 y7

def fX1_choosePitch (M : mm_M) (a0 : Nat) (x1 : Int32) : Option (mm_M) :=
  bn (fX5_hasCart M a0 x1) fun r2 =>
  if r2 = true then
    gd (¬ (x1 < 0 ∨ 16 ≤ x1.toNatClampNeg)) <|
    fX1_choosePitch_18 a0 x1 FU M (a0 + 18 + 3 * x1.toNatClampNeg) 0
  else
    some M

def fX1_handOutTickets_75 (a0 : Nat) (k4 : mm_M → Int32 → Int32 → Option (Int32 × mm_M)) (M : mm_M) (v1 : Int32) (v2 : Int32) (t0 : Nat) (t1 : Int32) (t2 : Int32) : Option (Int32 × mm_M) :=
  gd (¬ (t1 < 0 ∨ 16 ≤ t1.toNatClampNeg)) <|
  lt (sI M t0 t1.toNatClampNeg t2) fun M2 =>
  gd (¬ (v2 < 0 ∨ 16 ≤ v2.toNatClampNeg)) <|
  lt (v1 + (M2.1 (a0 + 6) v2.toNatClampNeg)) fun y4 =>
  lt (v2 + 1) fun y5 =>
  k4 M2 y4 y5

def fX1_handOutTickets_44 (a0 : Nat) (k4 : mm_M → Int32 → Int32 → Option (Int32 × mm_M)) (M : mm_M) (v1 : Int32) (v2 : Int32) (v3 : Nat) (t0 : Bool) : Option (Int32 × mm_M) :=
  if t0 = true then
    fX1_handOutTickets_75 a0 k4 M v1 v2 (a0 + 6) v2 (if (M.1 (a0 + 1) 0) < (1 + (M.1 v3 3)) then (M.1 (a0 + 1) 0) else (1 + (M.1 v3 3)))
  else
    fX1_handOutTickets_75 a0 k4 M v1 v2 (a0 + 6) v2 0

def fX1_handOutTickets_4 (a0 : Nat) : Nat → mm_M → Int32 → Int32 → Option (Int32 × mm_M)
  | 0, _, _, _ => none
  | n + 1, M, v1, v2 =>
    if (M.1 a0 3) ≤ v2 then
      some (v1, M)
    else
      gd (¬ (v2 < 0 ∨ 16 ≤ v2.toNatClampNeg)) <|
      bn (fX0_reasonBeforeLots M (a0 + 18 + 3 * v2.toNatClampNeg) (M.1 a0 0)) fun r4 =>
      lt (sI M (a0 + 18 + 3 * v2.toNatClampNeg) 10 r4) fun M5 =>
      if (M5.1 (a0 + 18 + 3 * v2.toNatClampNeg) 10) = 4 then
        fX1_handOutTickets_44 a0 (fX1_handOutTickets_4 a0 n) M5 v1 v2 (a0 + 18 + 3 * v2.toNatClampNeg) true
      else
        fX1_handOutTickets_44 a0 (fX1_handOutTickets_4 a0 n) M5 v1 v2 (a0 + 18 + 3 * v2.toNatClampNeg) false

def fX1_handOutTickets (M : mm_M) (a0 : Nat) : Option (Int32 × mm_M) :=
  fX1_handOutTickets_4 a0 FU M 0 0

def fX1_holderOfTicket_4 (a0 : Nat) (x1 : Int32) (M : mm_M) : Nat → Int32 → Int32 → Option (Int32)
  | 0, _, _ => none
  | n + 1, v2, v3 =>
    if (M.1 a0 3) ≤ v3 then
      some (-6)
    else
      gd (¬ (v3 < 0 ∨ 16 ≤ v3.toNatClampNeg)) <|
      lt (v2 + (M.1 (a0 + 6) v3.toNatClampNeg)) fun y3 =>
      if y3 ≤ x1 then
        lt (v3 + 1) fun y5 =>
        fX1_holderOfTicket_4 a0 x1 M n y3 y5
      else
        some v3

def fX1_holderOfTicket (M : mm_M) (a0 : Nat) (x1 : Int32) : Option (Int32) :=
  fX1_holderOfTicket_4 a0 x1 M FU 0 0

def fX1_drawLots_12 (a0 : Nat) : Nat → mm_M → Int32 → Int32 → Option (mm_M)
  | 0, _, _, _ => none
  | n + 1, M, v1, v2 =>
    if v1 ≤ 0 then
      some M
    else
      if (M.1 a0 3) ≤ v2 then
        some M
      else
        lt (sI M a0 1 (((75 * (M.1 a0 1)) + 74) - ((75 * (M.1 a0 1)) + 74) / 65537 * 65537)) fun M3 =>
        gd (¬ v1 = 0) <|
        bn (fX1_holderOfTicket M3 a0 ((M3.1 a0 1) - (M3.1 a0 1) / v1 * v1)) fun r6 =>
        bn (fX5_hasCart M3 a0 r6) fun r8 =>
        if r8 = true then
          gd (¬ (r6 < 0 ∨ 16 ≤ r6.toNatClampNeg)) <|
          lt (v1 - (M3.1 (a0 + 6) r6.toNatClampNeg)) fun y11 =>
          lt (sI M3 (a0 + 6) r6.toNatClampNeg 0) fun M12 =>
          gd (¬ (v2 < 0 ∨ 16 ≤ v2.toNatClampNeg)) <|
          lt (sI M12 (a0 + 7) v2.toNatClampNeg r6) fun M14 =>
          lt (sI M14 a0 14 (v2 + 1)) fun M15 =>
          lt (sI M15 (a0 + 18 + 3 * r6.toNatClampNeg) 11 v2) fun M16 =>
          bn (fX1_choosePitch M16 a0 r6) fun M18 =>
          lt (v2 + 1) fun y19 =>
          fX1_drawLots_12 a0 n M18 y11 y19
        else
          some M3

def fX1_drawLots (M : mm_M) (a0 : Nat) : Option (mm_M) :=
  bn2 (fX1_handOutTickets M a0) fun r2 M3 =>
  lt (sI M3 a0 14 0) fun M4 =>
  fX1_drawLots_12 a0 FU M4 r2 0

def fX5_givePoints (M : mm_M) (a0 : Nat) (a1 : Nat) (x2 : Int32) : Option (Int32 × mm_M) :=
  lt (sL M a1 14 ((M.2 a1 14) + ((x2.toInt64) * ((M.1 (a0 + 1) 6).toInt64)))) fun M1 =>
  bn (fX0_addPoints M1 a1 (M1.1 a0 0) x2) fun M3 =>
  bn (fX0_pointsLeft M3 a1 (M3.1 a0 0) (M3.1 a0 0) (M3.1 (a0 + 1) 5)) fun r5 =>
  if (M3.1 (a0 + 1) 3) ≤ r5 then
    lt (sI M3 a1 6 ((M3.1 a0 0) + (M3.1 (a0 + 1) 4))) fun M7 =>
    bn (fX0_dropAllPoints M7 a1) fun M9 =>
    some (0, M9)
  else
    some (r5, M3)

def fX5_unseat (M : mm_M) (a0 : Nat) (a1 : Nat) : Option (mm_M) :=
  bn (fX5_hasPitch M a0 (M.1 a1 8)) fun r2 =>
  if r2 = true then
    gd (¬ ((M.1 a1 8) < 0 ∨ 10 ≤ (M.1 a1 8).toNatClampNeg)) <|
    lt (sI M (a0 + 8 + (M.1 a1 8).toNatClampNeg) 3 (-6)) fun M6 =>
    lt (sI M6 a1 8 (-6)) fun M7 =>
    some M7
  else
    lt (sI M a1 8 (-6)) fun M4 =>
    some M4

def fX1_shareKitchens_6 (a0 : Nat) : Nat → mm_M → Int32 → Int32 → Int32 → Option (mm_M)
  | 0, _, _, _, _ => none
  | n + 1, M, v1, v2, v3 =>
    if (M.1 a0 14) ≤ v3 then
      some M
    else
      gd (¬ (v3 < 0 ∨ 16 ≤ v3.toNatClampNeg)) <|
      lt (M.1 (a0 + 7) v3.toNatClampNeg) fun y3 =>
      bn (fX5_hasCart M a0 y3) fun r5 =>
      if r5 = true then
        gd (¬ (y3 < 0 ∨ 16 ≤ y3.toNatClampNeg)) <|
        if (M.1 (a0 + 18 + 3 * y3.toNatClampNeg) 8) = (-6) then
          lt (v3 + 1) fun y27 =>
          fX1_shareKitchens_6 a0 n M v1 v2 y27
        else
          lt (if v2 < v1 then v2 else v1) fun y10 =>
          if (y10 + (M.1 (a0 + 18 + 3 * y3.toNatClampNeg) 1)) ≤ (M.1 (a0 + 1) 8) then
            lt (sI M (a0 + 18 + 3 * y3.toNatClampNeg) 9 y10) fun M12 =>
            if y10 = v1 then
              lt (v1 + (M12.1 (a0 + 18 + 3 * y3.toNatClampNeg) 1)) fun y16 =>
              lt (v3 + 1) fun y17 =>
              fX1_shareKitchens_6 a0 n M12 y16 v2 y17
            else
              lt (v2 + (M12.1 (a0 + 18 + 3 * y3.toNatClampNeg) 1)) fun y14 =>
              lt (v3 + 1) fun y15 =>
              fX1_shareKitchens_6 a0 n M12 v1 y14 y15
          else
            bn (fX5_unseat M a0 (a0 + 18 + 3 * y3.toNatClampNeg)) fun M19 =>
            lt (sI M19 (a0 + 18 + 3 * y3.toNatClampNeg) 10 5) fun M20 =>
            if (M20.1 (a0 + 1) 7) ≤ 0 then
              lt (v3 + 1) fun y22 =>
              fX1_shareKitchens_6 a0 n M20 v1 v2 y22
            else
              bn2 (fX5_givePoints M20 a0 (a0 + 18 + 3 * y3.toNatClampNeg) (M20.1 (a0 + 1) 7)) fun r24 M25 =>
              lt (v3 + 1) fun y26 =>
              fX1_shareKitchens_6 a0 n M25 v1 v2 y26
      else
        lt (v3 + 1) fun y7 =>
        fX1_shareKitchens_6 a0 n M v1 v2 y7

def fX1_shareKitchens (M : mm_M) (a0 : Nat) : Option (mm_M) :=
  fX1_shareKitchens_6 a0 FU M 0 0 0

def fX1_exchange_90 (a0 : Nat) (x1 : Int32) (x2 : Int32) (M : mm_M) (v3 : Int32) (v4 : Int32) : Option (Bool × mm_M) :=
  bn (fX5_seat M a0 x1 v3) fun M2 =>
  bn (fX5_seat M2 a0 x2 v4) fun M4 =>
  some (false, M4)

def fX1_exchange (M : mm_M) (a0 : Nat) (x1 : Int32) (x2 : Int32) : Option (Bool × mm_M) :=
  bn (fX5_hasCart M a0 x1) fun r2 =>
  if r2 = true then
    bn (fX5_hasCart M a0 x2) fun r5 =>
    if r5 = true then
      gd (¬ (x1 < 0 ∨ 16 ≤ x1.toNatClampNeg)) <|
      lt (M.1 (a0 + 18 + 3 * x1.toNatClampNeg) 8) fun y8 =>
      gd (¬ (x2 < 0 ∨ 16 ≤ x2.toNatClampNeg)) <|
      lt (M.1 (a0 + 18 + 3 * x2.toNatClampNeg) 8) fun y10 =>
      bn (fX5_hasPitch M a0 y8) fun r12 =>
      if r12 = true then
        bn (fX5_hasPitch M a0 y10) fun r15 =>
        if r15 = true then
          bn (fX5_seat M a0 x1 y10) fun M18 =>
          bn (fX5_seat M18 a0 x2 y8) fun M20 =>
          bn (fX5_sameKindBeside M20 a0 x1 y10) fun r22 =>
          if r22 = true then
            fX1_exchange_90 a0 x1 x2 M20 y8 y10
          else
            bn (fX5_sameKindBeside M20 a0 x2 y8) fun r25 =>
            if r25 = true then
              fX1_exchange_90 a0 x1 x2 M20 y8 y10
            else
              some (true, M20)
        else
          some (false, M)
      else
        some (false, M)
    else
      some (false, M)
  else
    some (false, M)

def fX1_makeSwaps_2 (a0 : Nat) : Nat → mm_M → Int32 → Option (mm_M)
  | 0, _, _ => none
  | n + 1, M, v1 =>
    if (M.1 a0 4) ≤ v1 then
      lt (sI M a0 4 0) fun M2 =>
      some M2
    else
      gd (¬ (v1 < 0 ∨ 8 ≤ v1.toNatClampNeg)) <|
      lt (M.1 (a0 + 4) v1.toNatClampNeg) fun y4 =>
      lt (M.1 (a0 + 5) v1.toNatClampNeg) fun y5 =>
      bn2 (fX1_exchange M a0 y4 y5) fun r7 M8 =>
      if r7 = true then
        gd (¬ (y4 < 0 ∨ 16 ≤ y4.toNatClampNeg)) <|
        lt (sL M8 (a0 + 18 + 3 * y4.toNatClampNeg) 15 ((M8.2 (a0 + 18 + 3 * y4.toNatClampNeg) 15) + ((M8.1 (a0 + 1) 9).toInt64))) fun M12 =>
        gd (¬ (y5 < 0 ∨ 16 ≤ y5.toNatClampNeg)) <|
        lt (sL M12 (a0 + 18 + 3 * y5.toNatClampNeg) 15 ((M12.2 (a0 + 18 + 3 * y5.toNatClampNeg) 15) + ((M12.1 (a0 + 1) 9).toInt64))) fun M14 =>
        lt (sI M14 a0 5 ((M14.1 a0 5) + 1)) fun M15 =>
        lt (v1 + 1) fun y16 =>
        fX1_makeSwaps_2 a0 n M15 y16
      else
        lt (v1 + 1) fun y10 =>
        fX1_makeSwaps_2 a0 n M8 y10

def fX1_makeSwaps (M : mm_M) (a0 : Nat) : Option (mm_M) :=
  fX1_makeSwaps_2 a0 FU M 0

def fX1_trade_2 (a0 : Nat) : Nat → mm_M → Int32 → Option (mm_M)
  | 0, _, _ => none
  | n + 1, M, v1 =>
    if (M.1 a0 3) ≤ v1 then
      some M
    else
      gd (¬ (v1 < 0 ∨ 16 ≤ v1.toNatClampNeg)) <|
      bn (fX5_hasPitch M a0 (M.1 (a0 + 18 + 3 * v1.toNatClampNeg) 8)) fun r4 =>
      if r4 = true then
        gd (¬ ((M.1 (a0 + 18 + 3 * v1.toNatClampNeg) 8) < 0 ∨ 10 ≤ (M.1 (a0 + 18 + 3 * v1.toNatClampNeg) 8).toNatClampNeg)) <|
        lt (sL M (a0 + 18 + 3 * v1.toNatClampNeg) 13 ((M.2 (a0 + 18 + 3 * v1.toNatClampNeg) 13) + ((M.1 (a0 + 8 + (M.1 (a0 + 18 + 3 * v1.toNatClampNeg) 8).toNatClampNeg) 0).toInt64))) fun M11 =>
        lt (sI M11 (a0 + 18 + 3 * v1.toNatClampNeg) 7 ((M11.1 (a0 + 18 + 3 * v1.toNatClampNeg) 7) + 1)) fun M12 =>
        lt (sI M12 (a0 + 18 + 3 * v1.toNatClampNeg) 3 0) fun M13 =>
        lt (sI M13 (a0 + 8 + (M.1 (a0 + 18 + 3 * v1.toNatClampNeg) 8).toNatClampNeg) 2 ((M13.1 (a0 + 8 + (M.1 (a0 + 18 + 3 * v1.toNatClampNeg) 8).toNatClampNeg) 2) + (M13.1 (a0 + 8 + (M.1 (a0 + 18 + 3 * v1.toNatClampNeg) 8).toNatClampNeg) 0))) fun M14 =>
        lt (sI M14 (a0 + 8 + (M.1 (a0 + 18 + 3 * v1.toNatClampNeg) 8).toNatClampNeg) 1 ((M14.1 (a0 + 8 + (M.1 (a0 + 18 + 3 * v1.toNatClampNeg) 8).toNatClampNeg) 1) + 1)) fun M15 =>
        lt (v1 + 1) fun y16 =>
        fX1_trade_2 a0 n M15 y16
      else
        if (M.1 (a0 + 18 + 3 * v1.toNatClampNeg) 11) = (-6) then
          lt (v1 + 1) fun y7 =>
          fX1_trade_2 a0 n M y7
        else
          lt (sI M (a0 + 18 + 3 * v1.toNatClampNeg) 3 ((M.1 (a0 + 18 + 3 * v1.toNatClampNeg) 3) + 1)) fun M8 =>
          lt (v1 + 1) fun y9 =>
          fX1_trade_2 a0 n M8 y9

def fX1_trade (M : mm_M) (a0 : Nat) : Option (mm_M) :=
  fX1_trade_2 a0 FU M 0

def fX4_copyFrom (M : mm_M) (a0 : Nat) (a1 : Nat) : Option (mm_M) :=
  lt (sI M a0 0 (M.1 a1 0)) fun M1 =>
  lt (sI M1 a0 1 (M1.1 a1 1)) fun M2 =>
  lt (sI M2 a0 2 (M2.1 a1 2)) fun M3 =>
  lt (sI M3 a0 3 (M3.1 a1 3)) fun M4 =>
  some M4

def fX5_copyFrom_126 (a0 : Nat) (a1 : Nat) : Nat → mm_M → Int32 → Option (mm_M)
  | 0, _, _ => none
  | n + 1, M, v2 =>
    if (M.1 a0 3) ≤ v2 then
      some M
    else
      gd (¬ (v2 < 0 ∨ 16 ≤ v2.toNatClampNeg)) <|
      bn (fX0_copyFrom M (a0 + 18 + 3 * v2.toNatClampNeg) (a1 + 18 + 3 * v2.toNatClampNeg)) fun M4 =>
      lt (v2 + 1) fun y5 =>
      fX5_copyFrom_126 a0 a1 n M4 y5

def fX5_copyFrom_95 (a0 : Nat) (a1 : Nat) : Nat → mm_M → Int32 → Option (mm_M)
  | 0, _, _ => none
  | n + 1, M, v2 =>
    if (M.1 a0 2) ≤ v2 then
      fX5_copyFrom_126 a0 a1 FU M 0
    else
      gd (¬ (v2 < 0 ∨ 10 ≤ v2.toNatClampNeg)) <|
      bn (fX4_copyFrom M (a0 + 8 + v2.toNatClampNeg) (a1 + 8 + v2.toNatClampNeg)) fun M4 =>
      lt (v2 + 1) fun y5 =>
      fX5_copyFrom_95 a0 a1 n M4 y5

def fX5_copyFrom (M : mm_M) (a0 : Nat) (a1 : Nat) : Option (mm_M) :=
  lt (sI M a0 0 (M.1 a1 0)) fun M1 =>
  lt (sI M1 a0 1 (M1.1 a1 1)) fun M2 =>
  lt (sI M2 a0 2 (M2.1 a1 2)) fun M3 =>
  lt (sI M3 a0 3 (M3.1 a1 3)) fun M4 =>
  lt (sI M4 a0 4 (M4.1 a1 4)) fun M5 =>
  lt (sI M5 a0 5 (M5.1 a1 5)) fun M6 =>
  lt (sC M6 (a0 + 1) (fun j => if j < 10 then M6.1 (a1 + 1) j else M6.1 (a0 + 1) j)) fun M7 =>
  lt (sC M7 (a0 + 4) (fun j => if j < 8 then M7.1 (a1 + 4) j else M7.1 (a0 + 4) j)) fun M8 =>
  lt (sC M8 (a0 + 5) (fun j => if j < 8 then M8.1 (a1 + 5) j else M8.1 (a0 + 5) j)) fun M9 =>
  fX5_copyFrom_95 a0 a1 FU M9 0

def fX2_prepare (M : mm_M) (a0 : Nat) (a1 : Nat) : Option (mm_M) :=
  gd (¬ ((((M.1 a0 1) + (M.1 a0 2)) - ((M.1 a0 1) + (M.1 a0 2)) / 7 * 7) < 0 ∨ 7 ≤ (((M.1 a0 1) + (M.1 a0 2)) - ((M.1 a0 1) + (M.1 a0 2)) / 7 * 7).toNatClampNeg)) <|
  bn (fX5_copyFrom M (135 + 66 * (((M.1 a0 1) + (M.1 a0 2)) - ((M.1 a0 1) + (M.1 a0 2)) / 7 * 7).toNatClampNeg) a1) fun M3 =>
  some M3

def fX2_keepPrepared (M : mm_M) (a0 : Nat) : Option (mm_M) :=
  if 6 ≤ (M.1 a0 2) then
    lt (sI M a0 1 (((M.1 a0 1) + 1) - ((M.1 a0 1) + 1) / 7 * 7)) fun M2 =>
    some M2
  else
    lt (sI M a0 2 ((M.1 a0 2) + 1)) fun M3 =>
    some M3

def fX2_takeBack (M : mm_M) (a0 : Nat) (a1 : Nat) : Option (mm_M) :=
  if (M.1 a0 2) ≤ 0 then
    some M
  else
    lt (sI M a0 2 ((M.1 a0 2) - 1)) fun M2 =>
    gd (¬ ((((M2.1 a0 1) + (M2.1 a0 2)) - ((M2.1 a0 1) + (M2.1 a0 2)) / 7 * 7) < 0 ∨ 7 ≤ (((M2.1 a0 1) + (M2.1 a0 2)) - ((M2.1 a0 1) + (M2.1 a0 2)) / 7 * 7).toNatClampNeg)) <|
    bn (fX5_copyFrom M2 a1 (135 + 66 * (((M2.1 a0 1) + (M2.1 a0 2)) - ((M2.1 a0 1) + (M2.1 a0 2)) / 7 * 7).toNatClampNeg)) fun M5 =>
    some M5

def fX3_codeAt (M : mm_M) (x0 : Int64) (x2 : Int32) : Option (Int32) :=
  some ((((x0.toUInt64 >>> ((8 * x2).toInt64.toUInt64 &&& Int64.toUInt64 63)).toInt64).toInt32) &&& 255)

def fX3_countGiven_4 (x0 : Int64) (M : mm_M) : Nat → Int32 → Int32 → Option (Int32)
  | 0, _, _ => none
  | n + 1, v2, v3 =>
    if 8 ≤ v3 then
      some v2
    else
      bn (fX3_codeAt M x0 v3) fun r3 =>
      if r3 = 0 then
        lt (v3 + 1) fun y10 =>
        fX3_countGiven_4 x0 M n v2 y10
      else
        if r3 < 33 then
          some (-2)
        else
          if 126 < r3 then
            some (-2)
          else
            if v3 ≤ v2 then
              lt (v2 + 1) fun y8 =>
              lt (v3 + 1) fun y9 =>
              fX3_countGiven_4 x0 M n y8 y9
            else
              some (-2)

def fX3_countGiven (M : mm_M) (x0 : Int64) : Option (Int32) :=
  fX3_countGiven_4 x0 M FU 0 0

def fX3_append_32 (a0 : Nat) (x1 : Int64) : Nat → mm_M → Int32 → Option (Int32 × mm_M)
  | 0, _, _ => none
  | n + 1, M, v4 =>
    if v4 < 0 then
      some ((M.1 a0 1), M)
    else
      bn (fX3_codeAt M x1 v4) fun r3 =>
      gd (¬ ((M.1 a0 1) < 0 ∨ 80 ≤ (M.1 a0 1).toNatClampNeg)) <|
      lt (sI M (a0 + 1) (M.1 a0 1).toNatClampNeg ((r3.toUInt32 % 65536).toInt32)) fun M5 =>
      lt (sI M5 a0 1 ((M5.1 a0 1) + 1)) fun M6 =>
      lt (v4 + (-1)) fun y7 =>
      fX3_append_32 a0 x1 n M6 y7

def fX3_append (M : mm_M) (a0 : Nat) (x1 : Int64) : Option (Int32 × mm_M) :=
  bn (fX3_countGiven M x1) fun r2 =>
  if 1 ≤ r2 then
    if ((M.1 a0 1) + r2) ≤ 80 then
      lt (r2 - 1) fun y5 =>
      fX3_append_32 a0 x1 FU M y5
    else
      some ((-4), M)
  else
    some ((-2), M)

def fX3_signAt (M : mm_M) (a0 : Nat) (x1 : Int32) : Option (Int32) :=
  if x1 < 0 then
    some 0
  else
    if (M.1 a0 1) ≤ x1 then
      some 0
    else
      if 80 ≤ x1 then
        some 0
      else
        gd (¬ (x1 < 0 ∨ 80 ≤ x1.toNatClampNeg)) <|
        some (M.1 (a0 + 1) x1.toNatClampNeg)

def fX3_awaitedBehindOrder (M : mm_M) (x0 : Int32) : Option (Int32) :=
  if x0 = 99 then
    some 9
  else if x0 = 100 then
    some 10
  else if x0 = 102 then
    some 6
  else if x0 = 115 then
    some 8
  else if x0 = 119 then
    some 5
  else 
    some 11

def fX3_isCart (M : mm_M) (x0 : Int32) : Option (Bool) :=
  if x0 < 65 then
    some false
  else
    if 80 < x0 then
      some false
    else
      some true

def fX3_isDigit (M : mm_M) (x0 : Int32) : Option (Bool) :=
  if x0 < 48 then
    some false
  else
    if 57 < x0 then
      some false
    else
      some true

def fX3_awaitedBehind (M : mm_M) (x0 : Int32) (x1 : Int32) : Option (Int32) :=
  if x0 = 4 then
    bn (fX3_awaitedBehindOrder M x1) fun r3 =>
    some r3
  else if x0 = 5 then
    bn (fX3_isCart M x1) fun r6 =>
    if r6 = true then
      some 3
    else
      some 11
  else if x0 = 6 then
    bn (fX3_isCart M x1) fun r10 =>
    if r10 = true then
      some 7
    else
      some 11
  else if x0 = 7 then
    if x1 < 49 then
      some 11
    else
      if 57 < x1 then
        some 11
      else
        some 0
  else if x0 = 8 then
    bn (fX3_isCart M x1) fun r17 =>
    if r17 = true then
      some 9
    else
      some 11
  else if x0 = 9 then
    bn (fX3_isCart M x1) fun r21 =>
    if r21 = true then
      some 0
    else
      some 11
  else if x0 = 10 then
    bn (fX3_isDigit M x1) fun r25 =>
    if r25 = true then
      if x1 = 48 then
        some 0
      else
        some 1
    else
      some 11
  else 
    if x1 = 59 then
      some 4
    else
      if x0 ≤ 0 then
        some 11
      else
        bn (fX3_isDigit M x1) fun r31 =>
        if r31 = true then
          some (x0 - 1)
        else
          some 11

def fX3_findFault_4 (a0 : Nat) (M : mm_M) : Nat → Int32 → Int32 → Option (Int32)
  | 0, _, _ => none
  | n + 1, v1, v2 =>
    if (M.1 a0 1) ≤ v2 then
      if 3 < v1 then
        some (M.1 a0 1)
      else
        some (-6)
    else
      bn (fX3_signAt M a0 v2) fun r4 =>
      bn (fX3_awaitedBehind M v1 r4) fun r6 =>
      if r6 = 11 then
        some v2
      else
        lt (v2 + 1) fun y8 =>
        fX3_findFault_4 a0 M n r6 y8

def fX3_findFault (M : mm_M) (a0 : Nat) : Option (Int32) :=
  fX3_findFault_4 a0 M FU 4 0

def fX3_endsOrder (M : mm_M) (a0 : Nat) (x1 : Int32) : Option (Bool) :=
  if x1 = (M.1 a0 1) then
    some true
  else
    bn (fX3_signAt M a0 x1) fun r3 =>
    if r3 = 59 then
      some true
    else
      some false

def fX3_wishAt (M : mm_M) (a0 : Nat) (x1 : Int32) (x2 : Int32) : Option (Int32) :=
  if x2 ≤ x1 then
    some (-6)
  else
    bn (fX3_signAt M a0 x1) fun r3 =>
    some (r3 - 48)

def fX3_numberAt_5 (a0 : Nat) (x1 : Int32) (x2 : Int32) (M : mm_M) : Nat → Int32 → Int32 → Option (Int32)
  | 0, _, _ => none
  | n + 1, v3, v4 =>
    if x2 ≤ v4 then
      some v3
    else
      bn (fX3_signAt M a0 v4) fun r3 =>
      lt (((10 * v3) + r3) - 48) fun y4 =>
      lt (v4 + 1) fun y5 =>
      fX3_numberAt_5 a0 x1 x2 M n y4 y5

def fX3_numberAt (M : mm_M) (a0 : Nat) (x1 : Int32) (x2 : Int32) : Option (Int32) :=
  fX3_numberAt_5 a0 x1 x2 M FU 0 x1

def fX4_begin (M : mm_M) (a0 : Nat) (x1 : Int32) : Option (mm_M) :=
  lt (sI M a0 0 x1) fun M1 =>
  lt (sI M1 a0 1 0) fun M2 =>
  lt (sI M2 a0 2 0) fun M3 =>
  lt (sI M3 a0 3 (-6)) fun M4 =>
  some M4

def fX5_changeSetting (M : mm_M) (a0 : Nat) (x1 : Int32) (x2 : Int32) : Option (Int32 × mm_M) :=
  if x1 < 0 then
    some ((-2), M)
  else
    if 10 ≤ x1 then
      some ((-2), M)
    else
      gd (¬ (x1 < 0 ∨ 10 ≤ x1.toNatClampNeg)) <|
      if x2 < (mm_f1 x1.toNatClampNeg) then
        some ((-2), M)
      else
        if x2 ≤ (mm_f2 x1.toNatClampNeg) then
          lt (M.1 (a0 + 1) x1.toNatClampNeg) fun y6 =>
          lt (sI M (a0 + 1) x1.toNatClampNeg x2) fun M7 =>
          some (y6, M7)
        else
          some ((-2), M)

def fX5_changeLots (M : mm_M) (a0 : Nat) (x1 : Int32) : Option (Int32 × mm_M) :=
  if x1 < 0 then
    some ((-2), M)
  else
    if x1 < 65537 then
      lt (M.1 a0 1) fun y3 =>
      lt (sI M a0 1 x1) fun M4 =>
      some (y3, M4)
    else
      some ((-2), M)

def fX5_addPitch (M : mm_M) (a0 : Nat) (x1 : Int32) : Option (Int32 × mm_M) :=
  if x1 < 0 then
    some ((-2), M)
  else
    if x1 ≤ 20000 then
      if (M.1 a0 2) < 10 then
        gd (¬ ((M.1 a0 2) < 0 ∨ 10 ≤ (M.1 a0 2).toNatClampNeg)) <|
        bn (fX4_begin M (a0 + 8 + (M.1 a0 2).toNatClampNeg) x1) fun M6 =>
        lt (sI M6 a0 2 ((M6.1 a0 2) + 1)) fun M7 =>
        some (((M7.1 a0 2) - 1), M7)
      else
        some ((-4), M)
    else
      some ((-2), M)

def fX5_changeRent (M : mm_M) (a0 : Nat) (x1 : Int32) (x2 : Int32) : Option (Int32 × mm_M) :=
  bn (fX5_hasPitch M a0 x1) fun r2 =>
  if r2 = true then
    if x2 < 0 then
      some ((-2), M)
    else
      if x2 ≤ 20000 then
        gd (¬ (x1 < 0 ∨ 10 ≤ x1.toNatClampNeg)) <|
        lt (M.1 (a0 + 8 + x1.toNatClampNeg) 0) fun y7 =>
        lt (sI M (a0 + 8 + x1.toNatClampNeg) 0 x2) fun M8 =>
        some (y7, M8)
      else
        some ((-2), M)
  else
    some ((-1), M)

def fX5_addCart (M : mm_M) (a0 : Nat) (x1 : Int32) (x2 : Int32) : Option (Int32 × mm_M) :=
  if x1 < 0 then
    some ((-2), M)
  else
    if 5 < x1 then
      some ((-2), M)
    else
      if x2 < 1 then
        some ((-2), M)
      else
        if x2 ≤ 6 then
          if (M.1 a0 3) < 16 then
            gd (¬ ((M.1 a0 3) < 0 ∨ 16 ≤ (M.1 a0 3).toNatClampNeg)) <|
            bn (fX0_begin M (a0 + 18 + 3 * (M.1 a0 3).toNatClampNeg) x1 x2 ((M.1 a0 0) + (M.1 (a0 + 1) 1))) fun M8 =>
            lt (sI M8 a0 3 ((M8.1 a0 3) + 1)) fun M9 =>
            some (((M9.1 a0 3) - 1), M9)
          else
            some ((-4), M)
        else
          some ((-2), M)

def fX5_isPitchOrNone (M : mm_M) (a0 : Nat) (x1 : Int32) : Option (Bool) :=
  if x1 = (-6) then
    some true
  else
    bn (fX5_hasPitch M a0 x1) fun r3 =>
    if r3 = true then
      some true
    else
      some false

def fX5_tellWishes_104 (a0 : Nat) (x1 : Int32) (x2 : Int32) (x3 : Int32) (x4 : Int32) (M : mm_M) (v5 : Int32) : Option (Int32 × mm_M) :=
  gd (¬ (x1 < 0 ∨ 16 ≤ x1.toNatClampNeg)) <|
  lt (sI M (a0 + 18 + 3 * x1.toNatClampNeg) 2 v5) fun M2 =>
  lt (sI M2 ((a0 + 18 + 3 * x1.toNatClampNeg) + 1) 0 x2) fun M3 =>
  lt (sI M3 ((a0 + 18 + 3 * x1.toNatClampNeg) + 1) 1 x3) fun M4 =>
  lt (sI M4 ((a0 + 18 + 3 * x1.toNatClampNeg) + 1) 2 x4) fun M5 =>
  some (v5, M5)

def fX5_tellWishes_83 (a0 : Nat) (x1 : Int32) (x2 : Int32) (x3 : Int32) (x4 : Int32) (M : mm_M) (v5 : Int32) : Option (Int32 × mm_M) :=
  if v5 = 3 then
    if x2 = x4 then
      some ((-2), M)
    else
      if x3 = x4 then
        some ((-2), M)
      else
        fX5_tellWishes_104 a0 x1 x2 x3 x4 M v5
  else
    fX5_tellWishes_104 a0 x1 x2 x3 x4 M v5

def fX5_tellWishes_70 (a0 : Nat) (x1 : Int32) (x2 : Int32) (x3 : Int32) (x4 : Int32) (M : mm_M) (t0 : Int32) : Option (Int32 × mm_M) :=
  if t0 < 2 then
    fX5_tellWishes_83 a0 x1 x2 x3 x4 M t0
  else
    if x2 = x3 then
      some ((-2), M)
    else
      fX5_tellWishes_83 a0 x1 x2 x3 x4 M t0

def fX5_tellWishes (M : mm_M) (a0 : Nat) (x1 : Int32) (x2 : Int32) (x3 : Int32) (x4 : Int32) : Option (Int32 × mm_M) :=
  bn (fX5_hasCart M a0 x1) fun r2 =>
  if r2 = true then
    bn (fX5_isPitchOrNone M a0 x2) fun r5 =>
    if r5 = true then
      bn (fX5_isPitchOrNone M a0 x3) fun r8 =>
      if r8 = true then
        bn (fX5_isPitchOrNone M a0 x4) fun r11 =>
        if r11 = true then
          if x2 = (-6) then
            fX5_tellWishes_70 a0 x1 x2 x3 x4 M 0
          else
            if x3 = (-6) then
              fX5_tellWishes_70 a0 x1 x2 x3 x4 M 1
            else
              if x4 = (-6) then
                fX5_tellWishes_70 a0 x1 x2 x3 x4 M 2
              else
                fX5_tellWishes_70 a0 x1 x2 x3 x4 M 3
        else
          some ((-2), M)
      else
        some ((-2), M)
    else
      some ((-2), M)
  else
    some ((-1), M)

def fX5_punish (M : mm_M) (a0 : Nat) (x1 : Int32) (x2 : Int32) : Option (Int32 × mm_M) :=
  bn (fX5_hasCart M a0 x1) fun r2 =>
  if r2 = true then
    if x2 < 1 then
      some ((-2), M)
    else
      if x2 ≤ 9 then
        gd (¬ (x1 < 0 ∨ 16 ≤ x1.toNatClampNeg)) <|
        bn2 (fX5_givePoints M a0 (a0 + 18 + 3 * x1.toNatClampNeg) x2) fun r8 M9 =>
        some (r8, M9)
      else
        some ((-2), M)
  else
    some ((-1), M)

def fX5_countWaiting_4 (a0 : Nat) (M : mm_M) : Nat → Int32 → Int32 → Option (Int32)
  | 0, _, _ => none
  | n + 1, v1, v2 =>
    if (M.1 a0 3) ≤ v2 then
      some v1
    else
      gd (¬ (v2 < 0 ∨ 16 ≤ v2.toNatClampNeg)) <|
      if (M.1 (a0 + 18 + 3 * v2.toNatClampNeg) 5) = 0 then
        lt (v2 + 1) fun y4 =>
        fX5_countWaiting_4 a0 M n v1 y4
      else
        lt (v1 + 1) fun y5 =>
        lt (v2 + 1) fun y6 =>
        fX5_countWaiting_4 a0 M n y5 y6

def fX5_countWaiting (M : mm_M) (a0 : Nat) : Option (Int32) :=
  fX5_countWaiting_4 a0 M FU 0 0

def fX5_askCheck (M : mm_M) (a0 : Nat) (x1 : Int32) : Option (Int32 × mm_M) :=
  bn (fX5_hasCart M a0 x1) fun r2 =>
  if r2 = true then
    gd (¬ (x1 < 0 ∨ 16 ≤ x1.toNatClampNeg)) <|
    if (M.1 (a0 + 18 + 3 * x1.toNatClampNeg) 5) = 0 then
      lt (sI M (a0 + 18 + 3 * x1.toNatClampNeg) 5 1) fun M6 =>
      bn (fX5_countWaiting M6 a0) fun r8 =>
      some (r8, M6)
    else
      some ((-5), M)
  else
    some ((-1), M)

def fX5_askSwap (M : mm_M) (a0 : Nat) (x1 : Int32) (x2 : Int32) : Option (Int32 × mm_M) :=
  bn (fX5_hasCart M a0 x1) fun r2 =>
  if r2 = true then
    bn (fX5_hasCart M a0 x2) fun r5 =>
    if r5 = true then
      if x1 = x2 then
        some ((-1), M)
      else
        if (M.1 a0 4) < 8 then
          gd (¬ ((M.1 a0 4) < 0 ∨ 8 ≤ (M.1 a0 4).toNatClampNeg)) <|
          lt (sI M (a0 + 4) (M.1 a0 4).toNatClampNeg x1) fun M10 =>
          gd (¬ ((M10.1 a0 4) < 0 ∨ 8 ≤ (M10.1 a0 4).toNatClampNeg)) <|
          lt (sI M10 (a0 + 5) (M10.1 a0 4).toNatClampNeg x2) fun M12 =>
          lt (sI M12 a0 4 ((M12.1 a0 4) + 1)) fun M13 =>
          some ((M13.1 a0 4), M13)
        else
          some ((-4), M)
    else
      some ((-1), M)
  else
    some ((-1), M)

def fX5_takeMoney (M : mm_M) (a0 : Nat) (x1 : Int32) (x2 : Int32) : Option (Int32 × mm_M) :=
  bn (fX5_hasCart M a0 x1) fun r2 =>
  if r2 = true then
    if x2 < 1 then
      some ((-2), M)
    else
      if x2 ≤ 1000000 then
        gd (¬ (x1 < 0 ∨ 16 ≤ x1.toNatClampNeg)) <|
        lt (sL M (a0 + 18 + 3 * x1.toNatClampNeg) 12 ((M.2 (a0 + 18 + 3 * x1.toNatClampNeg) 12) + (x2.toInt64))) fun M7 =>
        bn (fX0_balance M7 (a0 + 18 + 3 * x1.toNatClampNeg)) fun r9 =>
        if (lg_cmp r9 (0 : Int64)) < 0 then
          some (0, M7)
        else
          some (1, M7)
      else
        some ((-2), M)
  else
    some ((-1), M)

def fX5_beginNextDay_12 (a0 : Nat) : Nat → mm_M → Int32 → Option (mm_M)
  | 0, _, _ => none
  | n + 1, M, v1 =>
    if (M.1 a0 3) ≤ v1 then
      some M
    else
      gd (¬ (v1 < 0 ∨ 16 ≤ v1.toNatClampNeg)) <|
      bn (fX0_dropPointsOfSameSpot M (a0 + 18 + 3 * v1.toNatClampNeg) (M.1 a0 0)) fun M4 =>
      lt (v1 + 1) fun y5 =>
      fX5_beginNextDay_12 a0 n M4 y5

def fX5_beginNextDay (M : mm_M) (a0 : Nat) : Option (mm_M) :=
  lt (sI M a0 0 ((M.1 a0 0) + 1)) fun M1 =>
  fX5_beginNextDay_12 a0 FU M1 0

def fX5_passDays_16 (a0 : Nat) (x1 : Int32) : Nat → mm_M → Int32 → Option (Int32 × mm_M)
  | 0, _, _ => none
  | n + 1, M, v2 =>
    if x1 ≤ v2 then
      some ((M.1 a0 0), M)
    else
      bn (fX1_runChecks M a0) fun M3 =>
      bn (fX1_clearLastDay M3 a0) fun M5 =>
      bn (fX1_drawLots M5 a0) fun M7 =>
      bn (fX1_shareKitchens M7 a0) fun M9 =>
      bn (fX1_makeSwaps M9 a0) fun M11 =>
      bn (fX1_trade M11 a0) fun M13 =>
      bn (fX5_beginNextDay M13 a0) fun M15 =>
      lt (v2 + 1) fun y16 =>
      fX5_passDays_16 a0 x1 n M15 y16

def fX5_passDays (M : mm_M) (a0 : Nat) (x1 : Int32) : Option (Int32 × mm_M) :=
  if x1 < 1 then
    some ((-2), M)
  else
    if x1 ≤ 60 then
      fX5_passDays_16 a0 x1 FU M 0
    else
      some ((-2), M)

def fX5_countOnPitches_4 (a0 : Nat) (M : mm_M) : Nat → Int32 → Int32 → Option (Int32)
  | 0, _, _ => none
  | n + 1, v1, v2 =>
    if (M.1 a0 3) ≤ v2 then
      some v1
    else
      gd (¬ (v2 < 0 ∨ 16 ≤ v2.toNatClampNeg)) <|
      if (M.1 (a0 + 18 + 3 * v2.toNatClampNeg) 8) = (-6) then
        lt (v2 + 1) fun y4 =>
        fX5_countOnPitches_4 a0 M n v1 y4
      else
        lt (v1 + 1) fun y5 =>
        lt (v2 + 1) fun y6 =>
        fX5_countOnPitches_4 a0 M n y5 y6

def fX5_countOnPitches (M : mm_M) (a0 : Nat) : Option (Int32) :=
  fX5_countOnPitches_4 a0 M FU 0 0

def fX6_recorded (M : mm_M) (x1 : Int32) : Option (Int32 × mm_M) :=
  if x1 < 0 then
    some (x1, M)
  else
    bn (fX2_keepPrepared M 133) fun M3 =>
    some (x1, M3)

def fX6_set (M : mm_M) (x1 : Int32) (x2 : Int32) : Option (Int32 × mm_M) :=
  bn (fX2_prepare M 133 1) fun M2 =>
  bn2 (fX5_changeSetting M2 1 x1 x2) fun r4 M5 =>
  bn2 (fX6_recorded M5 r4) fun r7 M8 =>
  some (r7, M8)

def fX6_seed (M : mm_M) (x1 : Int32) : Option (Int32 × mm_M) :=
  bn (fX2_prepare M 133 1) fun M2 =>
  bn2 (fX5_changeLots M2 1 x1) fun r4 M5 =>
  bn2 (fX6_recorded M5 r4) fun r7 M8 =>
  some (r7, M8)

def fX6_pitch (M : mm_M) (x1 : Int32) : Option (Int32 × mm_M) :=
  bn (fX2_prepare M 133 1) fun M2 =>
  bn2 (fX5_addPitch M2 1 x1) fun r4 M5 =>
  bn2 (fX6_recorded M5 r4) fun r7 M8 =>
  some (r7, M8)

def fX6_rent (M : mm_M) (x1 : Int32) (x2 : Int32) : Option (Int32 × mm_M) :=
  bn (fX2_prepare M 133 1) fun M2 =>
  bn2 (fX5_changeRent M2 1 x1 x2) fun r4 M5 =>
  bn2 (fX6_recorded M5 r4) fun r7 M8 =>
  some (r7, M8)

def fX6_cart (M : mm_M) (x1 : Int32) (x2 : Int32) : Option (Int32 × mm_M) :=
  bn (fX2_prepare M 133 1) fun M2 =>
  bn2 (fX5_addCart M2 1 x1 x2) fun r4 M5 =>
  bn2 (fX6_recorded M5 r4) fun r7 M8 =>
  some (r7, M8)

def fX6_wish (M : mm_M) (x1 : Int32) (x2 : Int32) (x3 : Int32) (x4 : Int32) : Option (Int32 × mm_M) :=
  bn (fX2_prepare M 133 1) fun M2 =>
  bn2 (fX5_tellWishes M2 1 x1 x2 x3 x4) fun r4 M5 =>
  bn2 (fX6_recorded M5 r4) fun r7 M8 =>
  some (r7, M8)

def fX6_fine (M : mm_M) (x1 : Int32) (x2 : Int32) : Option (Int32 × mm_M) :=
  bn (fX2_prepare M 133 1) fun M2 =>
  bn2 (fX5_punish M2 1 x1 x2) fun r4 M5 =>
  bn2 (fX6_recorded M5 r4) fun r7 M8 =>
  some (r7, M8)

def fX6_check (M : mm_M) (x1 : Int32) : Option (Int32 × mm_M) :=
  bn (fX2_prepare M 133 1) fun M2 =>
  bn2 (fX5_askCheck M2 1 x1) fun r4 M5 =>
  bn2 (fX6_recorded M5 r4) fun r7 M8 =>
  some (r7, M8)

def fX6_swap (M : mm_M) (x1 : Int32) (x2 : Int32) : Option (Int32 × mm_M) :=
  bn (fX2_prepare M 133 1) fun M2 =>
  bn2 (fX5_askSwap M2 1 x1 x2) fun r4 M5 =>
  bn2 (fX6_recorded M5 r4) fun r7 M8 =>
  some (r7, M8)

def fX6_pay (M : mm_M) (x1 : Int32) (x2 : Int32) : Option (Int32 × mm_M) :=
  bn (fX2_prepare M 133 1) fun M2 =>
  bn2 (fX5_takeMoney M2 1 x1 x2) fun r4 M5 =>
  bn2 (fX6_recorded M5 r4) fun r7 M8 =>
  some (r7, M8)

def fX6_days (M : mm_M) (x1 : Int32) : Option (Int32 × mm_M) :=
  bn (fX2_prepare M 133 1) fun M2 =>
  bn2 (fX5_passDays M2 1 x1) fun r4 M5 =>
  bn2 (fX6_recorded M5 r4) fun r7 M8 =>
  some (r7, M8)

def fX6_aboutCart_63 (a1 : Nat) (x2 : Int32) (M : mm_M) : Option (Int32) :=
  bn (fX0_wishAt M a1 (x2 - 3)) fun r2 =>
  some r2

def fX6_aboutCart (M : mm_M) (a1 : Nat) (x2 : Int32) : Option (Int32) :=
  if x2 = 0 then
    some (M.1 a1 0)
  else if x2 = 1 then
    some (M.1 a1 1)
  else if x2 = 2 then
    some (M.1 a1 2)
  else if x2 = 3 then
    fX6_aboutCart_63 a1 x2 M
  else if x2 = 4 then
    fX6_aboutCart_63 a1 x2 M
  else if x2 = 5 then
    fX6_aboutCart_63 a1 x2 M
  else if x2 = 6 then
    some (M.1 a1 3)
  else if x2 = 7 then
    some (M.1 a1 4)
  else 
    if (M.1 a1 5) = 0 then
      some 0
    else
      some 1

def fX6_aboutPastOfCart (M : mm_M) (a1 : Nat) (x2 : Int32) : Option (Int32) :=
  if x2 = 9 then
    bn (fX0_pointsLeft M a1 (M.1 1 0) (M.1 1 0) (M.1 (1 + 1) 5)) fun r3 =>
    some r3
  else if x2 = 10 then
    some (M.1 a1 6)
  else if x2 = 11 then
    some (M.1 a1 7)
  else if x2 = 12 then
    some (M.1 a1 8)
  else if x2 = 13 then
    some (M.1 a1 9)
  else if x2 = 14 then
    some (M.1 a1 10)
  else 
    some (M.1 a1 11)

def fX6_ofCart (M : mm_M) (x1 : Int32) (x2 : Int32) : Option (Int32) :=
  bn (fX5_hasCart M 1 x1) fun r2 =>
  if r2 = true then
    if x2 < 0 then
      some (-2)
    else
      if x2 ≤ 15 then
        gd (¬ (x1 < 0 ∨ 16 ≤ x1.toNatClampNeg)) <|
        if 9 ≤ x2 then
          bn (fX6_aboutPastOfCart M (1 + 18 + 3 * x1.toNatClampNeg) x2) fun r9 =>
          some r9
        else
          bn (fX6_aboutCart M (1 + 18 + 3 * x1.toNatClampNeg) x2) fun r11 =>
          some r11
      else
        some (-2)
  else
    some (-1)

def fX6_money (M : mm_M) (x1 : Int32) (x2 : Int32) : Option (Int64) :=
  bn (fX5_hasCart M 1 x1) fun r2 =>
  if r2 = true then
    gd (¬ (x1 < 0 ∨ 16 ≤ x1.toNatClampNeg)) <|
    if x2 = 0 then
      bn (fX0_balance M (1 + 18 + 3 * x1.toNatClampNeg)) fun r7 =>
      some r7
    else if x2 = 1 then
      some (M.2 (1 + 18 + 3 * x1.toNatClampNeg) 12)
    else if x2 = 2 then
      some (M.2 (1 + 18 + 3 * x1.toNatClampNeg) 13)
    else if x2 = 3 then
      some (M.2 (1 + 18 + 3 * x1.toNatClampNeg) 14)
    else if x2 = 4 then
      some (M.2 (1 + 18 + 3 * x1.toNatClampNeg) 15)
    else 
      some ((-2) : Int64)
  else
    some ((-1) : Int64)

def fX6_ofPitch (M : mm_M) (x1 : Int32) (x2 : Int32) : Option (Int32) :=
  bn (fX5_hasPitch M 1 x1) fun r2 =>
  if r2 = true then
    gd (¬ (x1 < 0 ∨ 10 ≤ x1.toNatClampNeg)) <|
    if x2 = 0 then
      some (M.1 (1 + 8 + x1.toNatClampNeg) 0)
    else if x2 = 1 then
      some (M.1 (1 + 8 + x1.toNatClampNeg) 1)
    else if x2 = 2 then
      some (M.1 (1 + 8 + x1.toNatClampNeg) 2)
    else if x2 = 3 then
      some (M.1 (1 + 8 + x1.toNatClampNeg) 3)
    else 
      some (-2)
  else
    some (-1)

def fX6_count_25 (x1 : Int32) (M : mm_M) : Option (Int32) :=
  if x1 = 0 then
    some (M.1 1 0)
  else if x1 = 1 then
    some (M.1 1 3)
  else if x1 = 2 then
    some (M.1 1 2)
  else if x1 = 3 then
    some (M.1 1 1)
  else if x1 = 4 then
    bn (fX5_countWaiting M 1) fun r7 =>
    some r7
  else if x1 = 5 then
    some (M.1 1 4)
  else if x1 = 6 then
    some (M.1 729 1)
  else if x1 = 7 then
    some (M.1 133 2)
  else if x1 = 8 then
    some (-2)
  else if x1 = 9 then
    some (-2)
  else if x1 = 10 then
    some (-2)
  else if x1 = 11 then
    some (-2)
  else if x1 = 12 then
    some (-2)
  else if x1 = 13 then
    some (-2)
  else if x1 = 14 then
    some (-2)
  else if x1 = 15 then
    some (-2)
  else if x1 = 16 then
    some (-2)
  else if x1 = 17 then
    some (-2)
  else if x1 = 18 then
    bn (fX5_countOnPitches M 1) fun r23 =>
    some r23
  else if x1 = 19 then
    some (M.1 1 5)
  else 
    some (-2)

def fX6_count (M : mm_M) (x1 : Int32) : Option (Int32) :=
  if x1 < 8 then
    fX6_count_25 x1 M
  else
    if 18 ≤ x1 then
      fX6_count_25 x1 M
    else
      gd (¬ ((x1 - 8) < 0 ∨ 10 ≤ (x1 - 8).toNatClampNeg)) <|
      some (M.1 (1 + 1) (x1 - 8).toNatClampNeg)

def fX6_pointsOn (M : mm_M) (x1 : Int32) (x2 : Int32) : Option (Int32) :=
  bn (fX5_hasCart M 1 x1) fun r2 =>
  if r2 = true then
    if x2 < (M.1 1 0) then
      some (-2)
    else
      if x2 ≤ ((M.1 1 0) + 400) then
        gd (¬ (x1 < 0 ∨ 16 ≤ x1.toNatClampNeg)) <|
        bn (fX0_pointsLeft M (1 + 18 + 3 * x1.toNatClampNeg) x2 (M.1 1 0) (M.1 (1 + 1) 5)) fun r8 =>
        some r8
      else
        some (-2)
  else
    some (-1)

def fX6_pitchOnTrialDay (M : mm_M) (x1 : Int32) : Option (Int32 × mm_M) :=
  bn2 (fX5_passDays M 67 1) fun r2 M3 =>
  bn (fX5_hasCart M3 67 x1) fun r5 =>
  if r5 = true then
    gd (¬ (x1 < 0 ∨ 16 ≤ x1.toNatClampNeg)) <|
    some ((M3.1 (67 + 18 + 3 * x1.toNatClampNeg) 8), M3)
  else
    some ((-6), M3)

def fX6_wouldHave (M : mm_M) (x1 : Int32) : Option (Int32 × mm_M) :=
  bn (fX5_hasCart M 1 x1) fun r2 =>
  if r2 = true then
    bn (fX5_copyFrom M 67 1) fun M5 =>
    bn2 (fX6_pitchOnTrialDay M5 x1) fun r7 M8 =>
    some (r7, M8)
  else
    some ((-1), M)

def fX6_ifWished (M : mm_M) (x1 : Int32) (x2 : Int32) : Option (Int32 × mm_M) :=
  bn (fX5_hasCart M 1 x1) fun r2 =>
  if r2 = true then
    bn (fX5_hasPitch M 1 x2) fun r5 =>
    if r5 = true then
      bn (fX5_copyFrom M 67 1) fun M8 =>
      bn2 (fX5_tellWishes M8 67 x1 x2 (-6) (-6)) fun r10 M11 =>
      bn2 (fX6_pitchOnTrialDay M11 x1) fun r13 M14 =>
      some (r13, M14)
    else
      some ((-1), M)
  else
    some ((-1), M)

def fX6_firstDay_26 (x1 : Int32) : Nat → mm_M → Int32 → Option (Int32 × mm_M)
  | 0, _, _ => none
  | n + 1, M, v2 =>
    if 60 ≤ v2 then
      some ((-6), M)
    else
      bn2 (fX6_pitchOnTrialDay M x1) fun r3 M4 =>
      if r3 = (-6) then
        lt (v2 + 1) fun y6 =>
        fX6_firstDay_26 x1 n M4 y6
      else
        some (v2, M4)

def fX6_firstDay (M : mm_M) (x1 : Int32) : Option (Int32 × mm_M) :=
  bn (fX5_hasCart M 1 x1) fun r2 =>
  if r2 = true then
    bn (fX5_copyFrom M 67 1) fun M5 =>
    fX6_firstDay_26 x1 FU M5 0
  else
    some ((-1), M)

def fX6_daysOf_43 (x1 : Int32) (x2 : Int32) : Nat → mm_M → Int32 → Int32 → Option (Int32 × mm_M)
  | 0, _, _, _ => none
  | n + 1, M, v3, v4 =>
    if x2 ≤ v4 then
      some (v3, M)
    else
      bn2 (fX6_pitchOnTrialDay M x1) fun r3 M4 =>
      if r3 = (-6) then
        lt (v4 + 1) fun y6 =>
        fX6_daysOf_43 x1 x2 n M4 v3 y6
      else
        lt (v3 + 1) fun y7 =>
        lt (v4 + 1) fun y8 =>
        fX6_daysOf_43 x1 x2 n M4 y7 y8

def fX6_daysOf (M : mm_M) (x1 : Int32) (x2 : Int32) : Option (Int32 × mm_M) :=
  bn (fX5_hasCart M 1 x1) fun r2 =>
  if r2 = true then
    if x2 < 1 then
      some ((-2), M)
    else
      if x2 ≤ 60 then
        bn (fX5_copyFrom M 67 1) fun M7 =>
        fX6_daysOf_43 x1 x2 FU M7 0 0
      else
        some ((-2), M)
  else
    some ((-1), M)

def fX6_luckySeed_32 (x1 : Int32) (x2 : Int32) : Nat → mm_M → Int32 → Option (Int32 × mm_M)
  | 0, _, _ => none
  | n + 1, M, v3 =>
    if 200 ≤ v3 then
      some ((-6), M)
    else
      bn (fX5_copyFrom M 67 1) fun M3 =>
      bn2 (fX5_changeLots M3 67 v3) fun r5 M6 =>
      bn2 (fX6_pitchOnTrialDay M6 x1) fun r8 M9 =>
      if r8 = (-6) then
        lt (v3 + 1) fun y11 =>
        fX6_luckySeed_32 x1 x2 n M9 y11
      else
        if x2 = (-6) then
          some (v3, M9)
        else
          if r8 = x2 then
            some (v3, M9)
          else
            lt (v3 + 1) fun y14 =>
            fX6_luckySeed_32 x1 x2 n M9 y14

def fX6_luckySeed (M : mm_M) (x1 : Int32) (x2 : Int32) : Option (Int32 × mm_M) :=
  bn (fX5_hasCart M 1 x1) fun r2 =>
  if r2 = true then
    if x2 = (-6) then
      fX6_luckySeed_32 x1 x2 FU M 0
    else
      bn (fX5_hasPitch M 1 x2) fun r6 =>
      if r6 = true then
        fX6_luckySeed_32 x1 x2 FU M 0
      else
        some ((-1), M)
  else
    some ((-1), M)

def fX6_whyNot_50 (x1 : Int32) (x2 : Int32) (M : mm_M) : Option (Int32) :=
  bn (fX5_sameKindBeside M 1 x1 x2) fun r2 =>
  if r2 = true then
    some 2
  else
    some 0

def fX6_whyNot (M : mm_M) (x1 : Int32) (x2 : Int32) : Option (Int32) :=
  bn (fX5_hasCart M 1 x1) fun r2 =>
  if r2 = true then
    bn (fX5_hasPitch M 1 x2) fun r5 =>
    if r5 = true then
      gd (¬ (x2 < 0 ∨ 10 ≤ x2.toNatClampNeg)) <|
      lt (M.1 (1 + 8 + x2.toNatClampNeg) 3) fun y8 =>
      if y8 = (-6) then
        fX6_whyNot_50 x1 x2 M
      else
        if y8 = x1 then
          fX6_whyNot_50 x1 x2 M
        else
          some 1
    else
      some (-1)
  else
    some (-1)

def fX6_put (M : mm_M) (x1 : Int64) : Option (Int32 × mm_M) :=
  bn2 (fX3_append M 729 x1) fun r2 M3 =>
  some (r2, M3)

def fX6_wipe (M : mm_M) : Option (Int32 × mm_M) :=
  lt (M.1 729 1) fun y1 =>
  lt (sI M 729 1 0) fun M2 =>
  some (y1, M2)

def fX6_fault (M : mm_M) : Option (Int32) :=
  bn (fX3_findFault M 729) fun r2 =>
  some r2

def fX6_performOrder (M : mm_M) (x1 : Int32) (x2 : Int32) : Option (Int32 × mm_M) :=
  bn (fX3_signAt M 729 (x1 + 1)) fun r2 =>
  lt (r2 - 65) fun y3 =>
  bn (fX3_signAt M 729 x1) fun r5 =>
  if r5 = 99 then
    bn2 (fX5_askCheck M 1 y3) fun r8 M9 =>
    some (r8, M9)
  else if r5 = 102 then
    bn (fX3_numberAt M 729 (x1 + 2) x2) fun r12 =>
    bn2 (fX5_punish M 1 y3 r12) fun r14 M15 =>
    some (r14, M15)
  else if r5 = 115 then
    bn (fX3_signAt M 729 (x1 + 2)) fun r18 =>
    bn2 (fX5_askSwap M 1 y3 (r18 - 65)) fun r20 M21 =>
    some (r20, M21)
  else if r5 = 119 then
    bn (fX3_wishAt M 729 (x1 + 2) x2) fun r24 =>
    bn (fX3_wishAt M 729 (x1 + 3) x2) fun r26 =>
    bn (fX3_wishAt M 729 (x1 + 4) x2) fun r28 =>
    bn2 (fX5_tellWishes M 1 y3 r24 r26 r28) fun r30 M31 =>
    some (r30, M31)
  else 
    bn (fX3_numberAt M 729 (x1 + 1) x2) fun r33 =>
    bn2 (fX5_passDays M 1 r33) fun r35 M36 =>
    some (r35, M36)

def fX6_carryOut_82 (M : mm_M) (v1 : Int32) : Option (Int32 × mm_M) :=
  lt (sI M 729 1 0) fun M1 =>
  bn2 (fX6_recorded M1 v1) fun r3 M4 =>
  some (r3, M4)

def fX6_carryOut_32  : Nat → mm_M → Int32 → Int32 → Int32 → Option (Int32 × mm_M)
  | 0, _, _, _, _ => none
  | n + 1, M, v1, v2, v3 =>
    if (M.1 729 1) < v3 then
      fX6_carryOut_82 M v1
    else
      bn (fX3_endsOrder M 729 v3) fun r3 =>
      if r3 = true then
        bn2 (fX6_performOrder M v2 v3) fun r6 M7 =>
        if 0 ≤ r6 then
          lt (v1 + 1) fun y9 =>
          lt (v3 + 1) fun y10 =>
          lt (v3 + 1) fun y11 =>
          fX6_carryOut_32 n M7 y9 y10 y11
        else
          fX6_carryOut_82 M7 v1
      else
        lt (v3 + 1) fun y12 =>
        fX6_carryOut_32 n M v1 v2 y12

def fX6_carryOut (M : mm_M) : Option (Int32 × mm_M) :=
  bn (fX3_findFault M 729) fun r2 =>
  if r2 = (-6) then
    bn (fX2_prepare M 133 1) fun M5 =>
    fX6_carryOut_32 FU M5 0 0 0
  else
    some ((-3), M)

def fX6_undo (M : mm_M) : Option (Int32 × mm_M) :=
  if (M.1 133 2) = 0 then
    some ((-5), M)
  else
    bn (fX2_takeBack M 133 1) fun M3 =>
    some ((M3.1 133 2), M3)

def fX6_save_27 (x1 : Int32) (M : mm_M) (t0 : Nat) : Option (Int32 × mm_M) :=
  bn (fX5_copyFrom M t0 1) fun M2 =>
  lt (sI M2 t0 6 1) fun M3 =>
  some ((M3.1 1 0), M3)

def fX6_save (M : mm_M) (x1 : Int32) : Option (Int32 × mm_M) :=
  if x1 < 0 then
    some ((-2), M)
  else
    if x1 < 2 then
      if x1 = 0 then
        fX6_save_27 x1 M 597
      else
        fX6_save_27 x1 M 663
    else
      some ((-2), M)

def fX6_restore_27 (x1 : Int32) (M : mm_M) (t0 : Nat) : Option (Int32 × mm_M) :=
  if (M.1 t0 6) = 0 then
    some ((-5), M)
  else
    bn (fX2_prepare M 133 1) fun M3 =>
    bn (fX5_copyFrom M3 1 t0) fun M5 =>
    bn2 (fX6_recorded M5 (M5.1 1 0)) fun r7 M8 =>
    some (r7, M8)

def fX6_restore (M : mm_M) (x1 : Int32) : Option (Int32 × mm_M) :=
  if x1 < 0 then
    some ((-2), M)
  else
    if x1 < 2 then
      if x1 = 0 then
        fX6_restore_27 x1 M 597
      else
        fX6_restore_27 x1 M 663
    else
      some ((-2), M)

def fX7_in (M : mm_M) (x0 : Int32) (x1 : Int32) (x2 : Int32) : Option (Bool) :=
  if x0 < x1 then
    some false
  else
    if x2 < x0 then
      some false
    else
      some true

def fX7_of (M : mm_M) (x1 : Int32) (x2 : Int32) : Option (Int32) :=
  gd (¬ (((72 + (20 * x1)) + x2) < 0 ∨ 3592 ≤ ((72 + (20 * x1)) + x2).toNatClampNeg)) <|
  some (M.1 732 ((72 + (20 * x1)) + x2).toNatClampNeg)

def fX7_lay (M : mm_M) (x1 : Int32) (x2 : Int32) (x3 : Int32) : Option (mm_M) :=
  gd (¬ (((72 + (20 * x1)) + x2) < 0 ∨ 3592 ≤ ((72 + (20 * x1)) + x2).toNatClampNeg)) <|
  lt (sI M 732 ((72 + (20 * x1)) + x2).toNatClampNeg x3) fun M2 =>
  some M2

def fX7_ofP (M : mm_M) (x1 : Int32) (x2 : Int32) : Option (Int32) :=
  gd (¬ (((32 + (4 * x1)) + x2) < 0 ∨ 3592 ≤ ((32 + (4 * x1)) + x2).toNatClampNeg)) <|
  some (M.1 732 ((32 + (4 * x1)) + x2).toNatClampNeg)

def fX7_isCart (M : mm_M) (x1 : Int32) : Option (Bool) :=
  bn (fX7_in M x1 0 ((M.1 732 13) - 1)) fun r2 =>
  some r2

def fX7_isPitch (M : mm_M) (x1 : Int32) : Option (Bool) :=
  bn (fX7_in M x1 0 ((M.1 732 12) - 1)) fun r2 =>
  some r2

def fX7_keep_52  : Nat → mm_M → Int32 → Option (mm_M)
  | 0, _, _ => none
  | n + 1, M, v1 =>
    if 3592 ≤ v1 then
      lt (sI M 731 2 ((M.1 731 2) + 1)) fun M2 =>
      some M2
    else
      gd (¬ (v1 < 0 ∨ 3592 ≤ v1.toNatClampNeg)) <|
      gd (¬ (((3592 * (M.1 731 2)) + v1) < 0 ∨ 21552 ≤ ((3592 * (M.1 731 2)) + v1).toNatClampNeg)) <|
      lt (sI M 733 ((3592 * (M.1 731 2)) + v1).toNatClampNeg (M.1 732 v1.toNatClampNeg)) fun M5 =>
      lt (v1 + 1) fun y6 =>
      fX7_keep_52 n M5 y6

def fX7_keep_11  : Nat → mm_M → Int32 → Option (mm_M)
  | 0, _, _ => none
  | n + 1, M, v1 =>
    if 17960 ≤ v1 then
      lt (sI M 731 2 ((M.1 731 2) - 1)) fun M2 =>
      fX7_keep_52 FU M2 0
    else
      gd (¬ ((v1 + 3592) < 0 ∨ 21552 ≤ (v1 + 3592).toNatClampNeg)) <|
      gd (¬ (v1 < 0 ∨ 21552 ≤ v1.toNatClampNeg)) <|
      lt (sI M 733 v1.toNatClampNeg (M.1 733 (v1 + 3592).toNatClampNeg)) fun M5 =>
      lt (v1 + 1) fun y6 =>
      fX7_keep_11 n M5 y6

def fX7_keep (M : mm_M) : Option (mm_M) :=
  if (M.1 731 2) = 6 then
    fX7_keep_11 FU M 0
  else
    fX7_keep_52 FU M 0

def fX7_keepIf (M : mm_M) (x1 : Bool) : Option (mm_M) :=
  if x1 = true then
    bn (fX7_keep M) fun M3 =>
    some M3
  else
    some M

def fX7_layAside_2  : Nat → mm_M → Int32 → Option (mm_M)
  | 0, _, _ => none
  | n + 1, M, v1 =>
    if 3592 ≤ v1 then
      some M
    else
      gd (¬ (v1 < 0 ∨ 3592 ≤ v1.toNatClampNeg)) <|
      lt (sI M 736 v1.toNatClampNeg (M.1 732 v1.toNatClampNeg)) fun M3 =>
      lt (v1 + 1) fun y4 =>
      fX7_layAside_2 n M3 y4

def fX7_layAside (M : mm_M) : Option (mm_M) :=
  fX7_layAside_2 FU M 0

def fX7_layBack_2  : Nat → mm_M → Int32 → Option (mm_M)
  | 0, _, _ => none
  | n + 1, M, v1 =>
    if 3592 ≤ v1 then
      some M
    else
      gd (¬ (v1 < 0 ∨ 3592 ≤ v1.toNatClampNeg)) <|
      lt (sI M 732 v1.toNatClampNeg (M.1 736 v1.toNatClampNeg)) fun M3 =>
      lt (v1 + 1) fun y4 =>
      fX7_layBack_2 n M3 y4

def fX7_layBack (M : mm_M) : Option (mm_M) :=
  fX7_layBack_2 FU M 0

def fX7_least (M : mm_M) (x0 : Int32) : Option (Int32) :=
  if x0 = 3 then
    some 3
  else
    if x0 = 8 then
      some 6
    else
      if x0 = 6 then
        some 0
      else
        if x0 = 7 then
          some 0
        else
          if x0 = 9 then
            some 0
          else
            some 1

def fX7_greatest (M : mm_M) (x0 : Int32) : Option (Int32) :=
  if x0 = 0 then
    some 20
  else if x0 = 1 then
    some 200
  else if x0 = 2 then
    some 8
  else if x0 = 3 then
    some 30
  else if x0 = 4 then
    some 60
  else if x0 = 5 then
    some 200
  else if x0 = 6 then
    some 10000
  else if x0 = 7 then
    some 9
  else if x0 = 8 then
    some 14
  else 
    some 5000

def fX7_set (M : mm_M) (x1 : Int32) (x2 : Int32) : Option (Int32 × mm_M) :=
  bn (fX7_in M x1 0 9) fun r2 =>
  if r2 = true then
    bn (fX7_least M x1) fun r5 =>
    bn (fX7_greatest M x1) fun r7 =>
    bn (fX7_in M x2 r5 r7) fun r9 =>
    if r9 = true then
      bn (fX7_keep M) fun M12 =>
      gd (¬ (x1 < 0 ∨ 3592 ≤ x1.toNatClampNeg)) <|
      lt (M12.1 732 x1.toNatClampNeg) fun y14 =>
      lt (sI M12 732 x1.toNatClampNeg x2) fun M15 =>
      some (y14, M15)
    else
      some ((-2), M)
  else
    some ((-2), M)

def fX7_seed (M : mm_M) (x1 : Int32) : Option (Int32 × mm_M) :=
  bn (fX7_in M x1 0 65536) fun r2 =>
  if r2 = true then
    bn (fX7_keep M) fun M5 =>
    lt (M5.1 732 11) fun y6 =>
    lt (sI M5 732 11 x1) fun M7 =>
    some (y6, M7)
  else
    some ((-2), M)

def fX7_pitch (M : mm_M) (x1 : Int32) : Option (Int32 × mm_M) :=
  bn (fX7_in M x1 0 20000) fun r2 =>
  if r2 = true then
    if (M.1 732 12) = 10 then
      some ((-4), M)
    else
      bn (fX7_keep M) fun M6 =>
      lt (32 + (4 * (M6.1 732 12))) fun y7 =>
      gd (¬ ((y7 + 0) < 0 ∨ 3592 ≤ (y7 + 0).toNatClampNeg)) <|
      lt (sI M6 732 (y7 + 0).toNatClampNeg x1) fun M9 =>
      gd (¬ ((y7 + 1) < 0 ∨ 3592 ≤ (y7 + 1).toNatClampNeg)) <|
      lt (sI M9 732 (y7 + 1).toNatClampNeg 0) fun M11 =>
      gd (¬ ((y7 + 2) < 0 ∨ 3592 ≤ (y7 + 2).toNatClampNeg)) <|
      lt (sI M11 732 (y7 + 2).toNatClampNeg 0) fun M13 =>
      gd (¬ ((y7 + 3) < 0 ∨ 3592 ≤ (y7 + 3).toNatClampNeg)) <|
      lt (sI M13 732 (y7 + 3).toNatClampNeg (-6)) fun M15 =>
      lt (sI M15 732 12 ((M15.1 732 12) + 1)) fun M16 =>
      some (((M16.1 732 12) - 1), M16)
  else
    some ((-2), M)

def fX7_rent (M : mm_M) (x1 : Int32) (x2 : Int32) : Option (Int32 × mm_M) :=
  bn (fX7_isPitch M x1) fun r2 =>
  if r2 = true then
    bn (fX7_in M x2 0 20000) fun r5 =>
    if r5 = true then
      bn (fX7_keep M) fun M8 =>
      bn (fX7_ofP M8 x1 0) fun r10 =>
      gd (¬ (((32 + (4 * x1)) + 0) < 0 ∨ 3592 ≤ ((32 + (4 * x1)) + 0).toNatClampNeg)) <|
      lt (sI M8 732 ((32 + (4 * x1)) + 0).toNatClampNeg x2) fun M12 =>
      some (r10, M12)
    else
      some ((-2), M)
  else
    some ((-1), M)

def fX7_cart_76 (x1 : Int32) (x2 : Int32) : Nat → mm_M → Int32 → Int32 → Option (Int32 × mm_M)
  | 0, _, _, _ => none
  | n + 1, M, v3, v4 =>
    if 200 ≤ v4 then
      bn (fX7_lay M v3 0 x1) fun M3 =>
      bn (fX7_lay M3 v3 1 x2) fun M5 =>
      bn (fX7_lay M5 v3 7 ((M5.1 732 10) + (M5.1 732 1))) fun M7 =>
      bn (fX7_lay M7 v3 9 (-6)) fun M9 =>
      bn (fX7_lay M9 v3 11 (-6)) fun M11 =>
      bn (fX7_lay M11 v3 12 (-6)) fun M13 =>
      bn (fX7_lay M13 v3 14 (-6)) fun M15 =>
      lt (sI M15 732 13 ((M15.1 732 13) + 1)) fun M16 =>
      some (v3, M16)
    else
      gd (¬ (((392 + (200 * v3)) + v4) < 0 ∨ 3592 ≤ ((392 + (200 * v3)) + v4).toNatClampNeg)) <|
      lt (sI M 732 ((392 + (200 * v3)) + v4).toNatClampNeg 0) fun M18 =>
      lt (v4 + 1) fun y19 =>
      fX7_cart_76 x1 x2 n M18 v3 y19

def fX7_cart_52 (x1 : Int32) (x2 : Int32) : Nat → mm_M → Int32 → Int32 → Option (Int32 × mm_M)
  | 0, _, _, _ => none
  | n + 1, M, v3, v4 =>
    if 20 ≤ v4 then
      fX7_cart_76 x1 x2 FU M v3 0
    else
      bn (fX7_lay M v3 v4 0) fun M3 =>
      lt (v4 + 1) fun y4 =>
      fX7_cart_52 x1 x2 n M3 v3 y4

def fX7_cart (M : mm_M) (x1 : Int32) (x2 : Int32) : Option (Int32 × mm_M) :=
  bn (fX7_in M x1 0 5) fun r2 =>
  if r2 = true then
    bn (fX7_in M x2 1 6) fun r5 =>
    if r5 = true then
      if (M.1 732 13) = 16 then
        some ((-4), M)
      else
        bn (fX7_keep M) fun M9 =>
        lt (M9.1 732 13) fun y10 =>
        fX7_cart_52 x1 x2 FU M9 y10 0
    else
      some ((-2), M)
  else
    some ((-2), M)

def fX7_pointsAt_62 (x1 : Int32) (x2 : Int32) (M : mm_M) : Nat → Int32 → Int32 → Option (Int32)
  | 0, _, _ => none
  | n + 1, v3, v6 =>
    if (M.1 732 10) < v6 then
      some v3
    else
      gd (¬ (((392 + (200 * x1)) + (v6 - v6 / 200 * 200)) < 0 ∨ 3592 ≤ ((392 + (200 * x1)) + (v6 - v6 / 200 * 200)).toNatClampNeg)) <|
      lt (v3 + (M.1 732 ((392 + (200 * x1)) + (v6 - v6 / 200 * 200)).toNatClampNeg)) fun y3 =>
      lt (v6 + 1) fun y4 =>
      fX7_pointsAt_62 x1 x2 M n y3 y4

def fX7_pointsAt_43 (x1 : Int32) (x2 : Int32) (M : mm_M) (t0 : Int32) : Option (Int32) :=
  if 0 ≤ t0 then
    fX7_pointsAt_62 x1 x2 M FU 0 t0
  else
    fX7_pointsAt_62 x1 x2 M FU 0 0

def fX7_pointsAt (M : mm_M) (x1 : Int32) (x2 : Int32) : Option (Int32) :=
  lt ((x2 - (M.1 732 5)) + 1) fun y1 =>
  lt (((M.1 732 10) - 200) + 1) fun y2 =>
  if y1 ≤ y2 then
    fX7_pointsAt_43 x1 x2 M y2
  else
    fX7_pointsAt_43 x1 x2 M y1

def fX7_give_98 (x1 : Int32) (x2 : Int32) : Nat → mm_M → Int32 → Option (mm_M)
  | 0, _, _ => none
  | n + 1, M, v3 =>
    if 200 ≤ v3 then
      some M
    else
      gd (¬ (((392 + (200 * x1)) + v3) < 0 ∨ 3592 ≤ ((392 + (200 * x1)) + v3).toNatClampNeg)) <|
      lt (sI M 732 ((392 + (200 * x1)) + v3).toNatClampNeg 0) fun M3 =>
      lt (v3 + 1) fun y4 =>
      fX7_give_98 x1 x2 n M3 y4

def fX7_give (M : mm_M) (x1 : Int32) (x2 : Int32) : Option (mm_M) :=
  gd (¬ (((392 + (200 * x1)) + ((M.1 732 10) - (M.1 732 10) / 200 * 200)) < 0 ∨ 3592 ≤ ((392 + (200 * x1)) + ((M.1 732 10) - (M.1 732 10) / 200 * 200)).toNatClampNeg)) <|
  lt (sI M 732 ((392 + (200 * x1)) + ((M.1 732 10) - (M.1 732 10) / 200 * 200)).toNatClampNeg ((M.1 732 ((392 + (200 * x1)) + ((M.1 732 10) - (M.1 732 10) / 200 * 200)).toNatClampNeg) + x2)) fun M2 =>
  bn (fX7_of M2 x1 17) fun r4 =>
  bn (fX7_lay M2 x1 17 (r4 + (x2 * (M2.1 732 6)))) fun M6 =>
  bn (fX7_pointsAt M6 x1 (M6.1 732 10)) fun r8 =>
  if r8 < (M6.1 732 3) then
    some M6
  else
    bn (fX7_lay M6 x1 9 ((M6.1 732 10) + (M6.1 732 4))) fun M11 =>
    fX7_give_98 x1 x2 FU M11 0

def fX7_isNumber (M : mm_M) (x1 : Int32) : Option (Bool) :=
  if x1 = (-6) then
    some true
  else
    bn (fX7_isPitch M x1) fun r3 =>
    if r3 = true then
      some true
    else
      some false

def fX7_tryWish_72 (x1 : Int32) (x2 : Int32) (x3 : Int32) (x4 : Int32) (x5 : Bool) (M : mm_M) (v6 : Int32) (t0 : Bool) : Option (Int32 × mm_M) :=
  bn (fX7_isNumber M x2) fun r2 =>
  if r2 = true then
    bn (fX7_isNumber M x3) fun r5 =>
    if r5 = true then
      bn (fX7_isNumber M x4) fun r8 =>
      if r8 = true then
        if t0 = true then
          some ((-2), M)
        else
          bn (fX7_keepIf M x5) fun M12 =>
          bn (fX7_lay M12 x1 2 v6) fun M14 =>
          bn (fX7_lay M14 x1 3 x2) fun M16 =>
          bn (fX7_lay M16 x1 4 x3) fun M18 =>
          bn (fX7_lay M18 x1 5 x4) fun M20 =>
          some (v6, M20)
      else
        some ((-2), M)
    else
      some ((-2), M)
  else
    some ((-2), M)

def fX7_tryWish_67 (x1 : Int32) (x2 : Int32) (x3 : Int32) (x4 : Int32) (x5 : Bool) (M : mm_M) (v6 : Int32) : Option (Int32 × mm_M) :=
  fX7_tryWish_72 x1 x2 x3 x4 x5 M v6 true

def fX7_tryWish_71 (x1 : Int32) (x2 : Int32) (x3 : Int32) (x4 : Int32) (x5 : Bool) (M : mm_M) (v6 : Int32) : Option (Int32 × mm_M) :=
  fX7_tryWish_72 x1 x2 x3 x4 x5 M v6 false

def fX7_tryWish_49 (x1 : Int32) (x2 : Int32) (x3 : Int32) (x4 : Int32) (x5 : Bool) (M : mm_M) (v6 : Int32) : Option (Int32 × mm_M) :=
  if v6 ≤ 2 then
    fX7_tryWish_71 x1 x2 x3 x4 x5 M v6
  else
    if x2 = x4 then
      fX7_tryWish_67 x1 x2 x3 x4 x5 M v6
    else
      if x3 = x4 then
        fX7_tryWish_67 x1 x2 x3 x4 x5 M v6
      else
        fX7_tryWish_71 x1 x2 x3 x4 x5 M v6

def fX7_tryWish_36 (x1 : Int32) (x2 : Int32) (x3 : Int32) (x4 : Int32) (x5 : Bool) (M : mm_M) (t0 : Int32) : Option (Int32 × mm_M) :=
  if t0 ≤ 1 then
    fX7_tryWish_49 x1 x2 x3 x4 x5 M t0
  else
    if x2 = x3 then
      fX7_tryWish_67 x1 x2 x3 x4 x5 M t0
    else
      fX7_tryWish_49 x1 x2 x3 x4 x5 M t0

def fX7_tryWish (M : mm_M) (x1 : Int32) (x2 : Int32) (x3 : Int32) (x4 : Int32) (x5 : Bool) : Option (Int32 × mm_M) :=
  bn (fX7_isCart M x1) fun r2 =>
  if r2 = true then
    if 0 ≤ x2 then
      if 0 ≤ x3 then
        if 0 ≤ x4 then
          fX7_tryWish_36 x1 x2 x3 x4 x5 M 3
        else
          fX7_tryWish_36 x1 x2 x3 x4 x5 M 2
      else
        fX7_tryWish_36 x1 x2 x3 x4 x5 M 1
    else
      fX7_tryWish_36 x1 x2 x3 x4 x5 M 0
  else
    some ((-1), M)

def fX7_wish (M : mm_M) (x1 : Int32) (x2 : Int32) (x3 : Int32) (x4 : Int32) : Option (Int32 × mm_M) :=
  bn2 (fX7_tryWish M x1 x2 x3 x4 true) fun r2 M3 =>
  some (r2, M3)

def fX7_tryFine (M : mm_M) (x1 : Int32) (x2 : Int32) (x3 : Bool) : Option (Int32 × mm_M) :=
  bn (fX7_isCart M x1) fun r2 =>
  if r2 = true then
    bn (fX7_in M x2 1 9) fun r5 =>
    if r5 = true then
      bn (fX7_keepIf M x3) fun M8 =>
      bn (fX7_give M8 x1 x2) fun M10 =>
      bn (fX7_pointsAt M10 x1 (M10.1 732 10)) fun r12 =>
      some (r12, M10)
    else
      some ((-2), M)
  else
    some ((-1), M)

def fX7_fine (M : mm_M) (x1 : Int32) (x2 : Int32) : Option (Int32 × mm_M) :=
  bn2 (fX7_tryFine M x1 x2 true) fun r2 M3 =>
  some (r2, M3)

def fX7_waiting_4 (M : mm_M) : Nat → Int32 → Int32 → Option (Int32)
  | 0, _, _ => none
  | n + 1, v1, v2 =>
    if (M.1 732 13) ≤ v2 then
      some v1
    else
      bn (fX7_of M v2 8) fun r3 =>
      lt (v1 + r3) fun y4 =>
      lt (v2 + 1) fun y5 =>
      fX7_waiting_4 M n y4 y5

def fX7_waiting (M : mm_M) : Option (Int32) :=
  fX7_waiting_4 M FU 0 0

def fX7_tryCheck (M : mm_M) (x1 : Int32) (x2 : Bool) : Option (Int32 × mm_M) :=
  bn (fX7_isCart M x1) fun r2 =>
  if r2 = true then
    bn (fX7_of M x1 8) fun r5 =>
    if r5 = 1 then
      some ((-5), M)
    else
      bn (fX7_keepIf M x2) fun M8 =>
      bn (fX7_lay M8 x1 8 1) fun M10 =>
      bn (fX7_waiting M10) fun r12 =>
      some (r12, M10)
  else
    some ((-1), M)

def fX7_check (M : mm_M) (x1 : Int32) : Option (Int32 × mm_M) :=
  bn2 (fX7_tryCheck M x1 true) fun r2 M3 =>
  some (r2, M3)

def fX7_trySwap (M : mm_M) (x1 : Int32) (x2 : Int32) (x3 : Bool) : Option (Int32 × mm_M) :=
  bn (fX7_isCart M x1) fun r2 =>
  if r2 = true then
    bn (fX7_isCart M x2) fun r5 =>
    if r5 = true then
      if x1 = x2 then
        some ((-1), M)
      else
        if (M.1 732 14) = 8 then
          some ((-4), M)
        else
          bn (fX7_keepIf M x3) fun M10 =>
          gd (¬ ((16 + (2 * (M10.1 732 14))) < 0 ∨ 3592 ≤ (16 + (2 * (M10.1 732 14))).toNatClampNeg)) <|
          lt (sI M10 732 (16 + (2 * (M10.1 732 14))).toNatClampNeg x1) fun M12 =>
          gd (¬ (((16 + (2 * (M12.1 732 14))) + 1) < 0 ∨ 3592 ≤ ((16 + (2 * (M12.1 732 14))) + 1).toNatClampNeg)) <|
          lt (sI M12 732 ((16 + (2 * (M12.1 732 14))) + 1).toNatClampNeg x2) fun M14 =>
          lt (sI M14 732 14 ((M14.1 732 14) + 1)) fun M15 =>
          some ((M15.1 732 14), M15)
    else
      some ((-1), M)
  else
    some ((-1), M)

def fX7_swap (M : mm_M) (x1 : Int32) (x2 : Int32) : Option (Int32 × mm_M) :=
  bn2 (fX7_trySwap M x1 x2 true) fun r2 M3 =>
  some (r2, M3)

def fX7_balance (M : mm_M) (x1 : Int32) : Option (Int32) :=
  bn (fX7_of M x1 15) fun r2 =>
  bn (fX7_of M x1 16) fun r4 =>
  bn (fX7_of M x1 17) fun r6 =>
  bn (fX7_of M x1 18) fun r8 =>
  some (((r2 - r4) - r6) - r8)

def fX7_pay (M : mm_M) (x1 : Int32) (x2 : Int32) : Option (Int32 × mm_M) :=
  bn (fX7_isCart M x1) fun r2 =>
  if r2 = true then
    bn (fX7_in M x2 1 1000000) fun r5 =>
    if r5 = true then
      bn (fX7_keep M) fun M8 =>
      bn (fX7_of M8 x1 15) fun r10 =>
      bn (fX7_lay M8 x1 15 (r10 + x2)) fun M12 =>
      bn (fX7_balance M12 x1) fun r14 =>
      if r14 < 0 then
        some (0, M12)
      else
        some (1, M12)
    else
      some ((-2), M)
  else
    some ((-1), M)

def fX7_nextToCheck_32 (M : mm_M) (k5 : Int32 → Int32 → Option (Int32)) (v1 : Int32) (v2 : Int32) (t0 : Bool) : Option (Int32) :=
  if t0 = true then
    if v1 < 0 then
      lt (v2 + 1) fun y4 =>
      k5 v2 y4
    else
      bn (fX7_of M v2 7) fun r6 =>
      bn (fX7_of M v1 7) fun r8 =>
      if r8 ≤ r6 then
        lt (v2 + 1) fun y10 =>
        k5 v1 y10
      else
        lt (v2 + 1) fun y11 =>
        k5 v2 y11
  else
    lt (v2 + 1) fun y2 =>
    k5 v1 y2

def fX7_nextToCheck_5 (M : mm_M) : Nat → Int32 → Int32 → Option (Int32)
  | 0, _, _ => none
  | n + 1, v1, v2 =>
    if (M.1 732 13) ≤ v2 then
      some v1
    else
      bn (fX7_of M v2 8) fun r3 =>
      if r3 = 1 then
        fX7_nextToCheck_32 M (fX7_nextToCheck_5 M n) v1 v2 true
      else
        fX7_nextToCheck_32 M (fX7_nextToCheck_5 M n) v1 v2 false

def fX7_nextToCheck (M : mm_M) : Option (Int32) :=
  fX7_nextToCheck_5 M FU (-6) 0

def fX7_checkAll_2  : Nat → mm_M → Int32 → Option (mm_M)
  | 0, _, _ => none
  | n + 1, M, v1 =>
    if (M.1 732 2) ≤ v1 then
      some M
    else
      bn (fX7_nextToCheck M) fun r3 =>
      if r3 < 0 then
        lt (v1 + 1) fun y5 =>
        fX7_checkAll_2 n M y5
      else
        bn (fX7_lay M r3 7 ((M.1 732 10) + (M.1 732 1))) fun M7 =>
        bn (fX7_lay M7 r3 8 0) fun M9 =>
        lt (v1 + 1) fun y10 =>
        fX7_checkAll_2 n M9 y10

def fX7_checkAll (M : mm_M) : Option (mm_M) :=
  fX7_checkAll_2 FU M 0

def fX7_whyOut (M : mm_M) (x1 : Int32) : Option (Int32) :=
  bn (fX7_of M x1 2) fun r2 =>
  if r2 = 0 then
    some 1
  else
    bn (fX7_of M x1 7) fun r5 =>
    if (M.1 732 10) ≤ r5 then
      bn (fX7_of M x1 9) fun r8 =>
      if r8 < (M.1 732 10) then
        some 0
      else
        some 3
    else
      some 2

def fX7_beginDay_42 (k2 : mm_M → Int32 → Option (mm_M)) (M : mm_M) (v1 : Int32) (t1 : Int32) (t3 : Bool) : Option (mm_M) :=
  bn (fX7_lay M t1 19 (b2i t3)) fun M2 =>
  bn (fX7_lay M2 v1 11 (-6)) fun M4 =>
  bn (fX7_lay M4 v1 12 (-6)) fun M6 =>
  bn (fX7_lay M6 v1 14 (-6)) fun M8 =>
  lt (v1 + 1) fun y9 =>
  k2 M8 y9

def fX7_beginDay_80  : Nat → mm_M → Int32 → Option (mm_M)
  | 0, _, _ => none
  | n + 1, M, v1 =>
    if (M.1 732 12) ≤ v1 then
      some M
    else
      gd (¬ (((32 + (4 * v1)) + 3) < 0 ∨ 3592 ≤ ((32 + (4 * v1)) + 3).toNatClampNeg)) <|
      lt (sI M 732 ((32 + (4 * v1)) + 3).toNatClampNeg (-6)) fun M3 =>
      lt (v1 + 1) fun y4 =>
      fX7_beginDay_80 n M3 y4

def fX7_beginDay_2  : Nat → mm_M → Int32 → Option (mm_M)
  | 0, _, _ => none
  | n + 1, M, v1 =>
    if (M.1 732 13) ≤ v1 then
      fX7_beginDay_80 FU M 0
    else
      bn (fX7_whyOut M v1) fun r3 =>
      bn (fX7_lay M v1 13 r3) fun M5 =>
      bn (fX7_whyOut M5 v1) fun r7 =>
      if r7 = 0 then
        fX7_beginDay_42 (fX7_beginDay_2 n) M5 v1 v1 true
      else
        fX7_beginDay_42 (fX7_beginDay_2 n) M5 v1 v1 false

def fX7_beginDay (M : mm_M) : Option (mm_M) :=
  fX7_beginDay_2 FU M 0

def fX7_isKindAt_19 (x1 : Int32) (x2 : Int32) (x3 : Int32) (M : mm_M) (t0 : Int32) : Option (Bool) :=
  if t0 < 0 then
    some false
  else
    if t0 = x3 then
      some false
    else
      bn (fX7_of M t0 0) fun r4 =>
      if r4 = x2 then
        some true
      else
        some false

def fX7_isKindAt (M : mm_M) (x1 : Int32) (x2 : Int32) (x3 : Int32) : Option (Bool) :=
  bn (fX7_isPitch M x1) fun r2 =>
  if r2 = true then
    bn (fX7_ofP M x1 3) fun r5 =>
    fX7_isKindAt_19 x1 x2 x3 M r5
  else
    fX7_isKindAt_19 x1 x2 x3 M (-6)

def fX7_isApart (M : mm_M) (x1 : Int32) (x2 : Int32) : Option (Bool) :=
  bn (fX7_of M x1 0) fun r2 =>
  bn (fX7_isKindAt M (x2 - 1) r2 x1) fun r4 =>
  if r4 = true then
    some false
  else
    bn (fX7_of M x1 0) fun r7 =>
    bn (fX7_isKindAt M (x2 + 1) r7 x1) fun r9 =>
    if r9 = true then
      some false
    else
      some true

def fX7_put (M : mm_M) (x1 : Int32) (x2 : Int32) : Option (mm_M) :=
  bn (fX7_lay M x1 11 x2) fun M2 =>
  gd (¬ (((32 + (4 * x2)) + 3) < 0 ∨ 3592 ≤ ((32 + (4 * x2)) + 3).toNatClampNeg)) <|
  lt (sI M2 732 ((32 + (4 * x2)) + 3).toNatClampNeg x1) fun M4 =>
  some M4

def fX7_choose_2 (x1 : Int32) : Nat → mm_M → Int32 → Option (mm_M)
  | 0, _, _ => none
  | n + 1, M, v2 =>
    bn (fX7_of M x1 2) fun r2 =>
    if r2 ≤ v2 then
      bn (fX7_lay M x1 13 4) fun M5 =>
      some M5
    else
      bn (fX7_of M x1 (3 + v2)) fun r7 =>
      bn (fX7_ofP M r7 3) fun r9 =>
      if 0 ≤ r9 then
        lt (v2 + 1) fun y11 =>
        fX7_choose_2 x1 n M y11
      else
        bn (fX7_isApart M x1 r7) fun r13 =>
        if r13 = true then
          bn (fX7_put M x1 r7) fun M17 =>
          some M17
        else
          lt (v2 + 1) fun y15 =>
          fX7_choose_2 x1 n M y15

def fX7_choose (M : mm_M) (x1 : Int32) : Option (mm_M) :=
  fX7_choose_2 x1 FU M 0

def fX7_isToDraw (M : mm_M) (x1 : Int32) : Option (Bool) :=
  bn (fX7_of M x1 19) fun r2 =>
  if r2 = 1 then
    bn (fX7_of M x1 14) fun r5 =>
    if 0 ≤ r5 then
      some false
    else
      some true
  else
    some false

def fX7_ticketsOf (M : mm_M) (x1 : Int32) : Option (Int32) :=
  bn (fX7_of M x1 6) fun r2 =>
  lt (1 + r2) fun y3 =>
  if (M.1 732 0) ≤ y3 then
    some (M.1 732 0)
  else
    some y3

def fX7_drawOne_52 (x1 : Int32) (k35 : mm_M → Int32 → Int32 → Option (Int32 × mm_M)) (M : mm_M) (v2 : Int32) (v3 : Int32) : Option (Int32 × mm_M) :=
  bn (fX7_isToDraw M v3) fun r2 =>
  if r2 = true then
    bn (fX7_ticketsOf M v3) fun r7 =>
    lt (v2 - r7) fun y8 =>
    lt (v3 + 1) fun y9 =>
    k35 M y8 y9
  else
    lt (v2 - 0) fun y4 =>
    lt (v3 + 1) fun y5 =>
    k35 M y4 y5

def fX7_drawOne_35 (x1 : Int32) : Nat → mm_M → Int32 → Int32 → Option (Int32 × mm_M)
  | 0, _, _, _ => none
  | n + 1, M, v2, v3 =>
    bn (fX7_isToDraw M v3) fun r2 =>
    if r2 = true then
      bn (fX7_ticketsOf M v3) fun r5 =>
      if v2 < r5 then
        some (v3, M)
      else
        fX7_drawOne_52 x1 (fX7_drawOne_35 x1 n) M v2 v3
    else
      fX7_drawOne_52 x1 (fX7_drawOne_35 x1 n) M v2 v3

def fX7_drawOne (M : mm_M) (x1 : Int32) : Option (Int32 × mm_M) :=
  lt (sI M 732 11 (((75 * (M.1 732 11)) + 74) - ((75 * (M.1 732 11)) + 74) / 65537 * 65537)) fun M1 =>
  gd (¬ x1 = 0) <|
  lt ((M1.1 732 11) - (M1.1 732 11) / x1 * x1) fun y3 =>
  fX7_drawOne_35 x1 FU M1 y3 0

def fX7_drawAll_62 (k4 : mm_M → Int32 → Bool → Option (mm_M)) (M : mm_M) (v1 : Int32) (v3 : Int32) (t0 : Bool) : Option (mm_M) :=
  if t0 = true then
    bn2 (fX7_drawOne M v3) fun r3 M4 =>
    bn (fX7_lay M4 r3 14 v1) fun M6 =>
    lt (v1 + 1) fun y7 =>
    bn (fX7_choose M6 r3) fun M9 =>
    k4 M9 y7 t0
  else
    k4 M v1 t0

def fX7_drawAll_13 (k4 : mm_M → Int32 → Bool → Option (mm_M)) : Nat → mm_M → Int32 → Int32 → Int32 → Option (mm_M)
  | 0, _, _, _, _ => none
  | n + 1, M, v1, v3, v4 =>
    if (M.1 732 13) ≤ v4 then
      if v3 ≤ 0 then
        fX7_drawAll_62 k4 M v1 v3 false
      else
        fX7_drawAll_62 k4 M v1 v3 true
    else
      bn (fX7_isToDraw M v4) fun r4 =>
      if r4 = true then
        bn (fX7_ticketsOf M v4) fun r9 =>
        lt (v3 + r9) fun y10 =>
        lt (v4 + 1) fun y11 =>
        fX7_drawAll_13 k4 n M v1 y10 y11
      else
        lt (v3 + 0) fun y6 =>
        lt (v4 + 1) fun y7 =>
        fX7_drawAll_13 k4 n M v1 y6 y7

def fX7_drawAll_4  : Nat → mm_M → Int32 → Bool → Option (mm_M)
  | 0, _, _, _ => none
  | n + 1, M, v1, v2 =>
    if v2 = true then
      fX7_drawAll_13 (fX7_drawAll_4 n) FU M v1 0 0
    else
      some M

def fX7_drawAll (M : mm_M) : Option (mm_M) :=
  fX7_drawAll_4 FU M 0 true

def fX7_drawnAt_2 (x1 : Int32) (M : mm_M) : Nat → Int32 → Option (Int32)
  | 0, _ => none
  | n + 1, v2 =>
    if (M.1 732 13) ≤ v2 then
      some (-6)
    else
      bn (fX7_of M v2 14) fun r3 =>
      if r3 = x1 then
        some v2
      else
        lt (v2 + 1) fun y5 =>
        fX7_drawnAt_2 x1 M n y5

def fX7_drawnAt (M : mm_M) (x1 : Int32) : Option (Int32) :=
  fX7_drawnAt_2 x1 M FU 0

def fX7_cook_108 (x1 : Int32) (M : mm_M) : Option (mm_M) :=
  bn (fX7_of M x1 12) fun r2 =>
  if 0 ≤ r2 then
    some M
  else
    bn (fX7_of M x1 11) fun r5 =>
    gd (¬ (((32 + (4 * r5)) + 3) < 0 ∨ 3592 ≤ ((32 + (4 * r5)) + 3).toNatClampNeg)) <|
    lt (sI M 732 ((32 + (4 * r5)) + 3).toNatClampNeg (-6)) fun M7 =>
    bn (fX7_lay M7 x1 11 (-6)) fun M9 =>
    bn (fX7_lay M9 x1 13 5) fun M11 =>
    if (M11.1 732 7) ≤ 0 then
      some M11
    else
      bn (fX7_give M11 x1 (M11.1 732 7)) fun M14 =>
      some M14

def fX7_cook_9 (x1 : Int32) : Nat → mm_M → Int32 → Int32 → Option (mm_M)
  | 0, _, _, _ => none
  | n + 1, M, v2, v3 =>
    if (M.1 732 8) < (v3 + v2) then
      fX7_cook_108 x1 M
    else
      bn (fX7_of M x1 12) fun r3 =>
      if 0 ≤ r3 then
        fX7_cook_108 x1 M
      else
        lt (((1 <<< (v2 &&& 31)) - 1) <<< (v3 &&& 31)) fun y5 =>
        if ((M.1 731 8) &&& y5) = 0 then
          lt (sI M 731 8 ((M.1 731 8) ||| y5)) fun M13 =>
          bn (fX7_lay M13 x1 12 v3) fun M15 =>
          lt (v3 + 1) fun y16 =>
          fX7_cook_9 x1 n M15 v2 y16
        else
          if ((M.1 731 9) &&& y5) = 0 then
            lt (sI M 731 9 ((M.1 731 9) ||| y5)) fun M9 =>
            bn (fX7_lay M9 x1 12 v3) fun M11 =>
            lt (v3 + 1) fun y12 =>
            fX7_cook_9 x1 n M11 v2 y12
          else
            lt (v3 + 1) fun y8 =>
            fX7_cook_9 x1 n M v2 y8

def fX7_cook (M : mm_M) (x1 : Int32) : Option (mm_M) :=
  bn (fX7_of M x1 1) fun r2 =>
  fX7_cook_9 x1 FU M r2 0

def fX7_cookAll_37 (k18 : mm_M → Int32 → Int32 → Option (mm_M)) (M : mm_M) (v1 : Int32) : Option (mm_M) :=
  lt (v1 + 1) fun y1 =>
  bn (fX7_drawnAt M y1) fun r3 =>
  k18 M y1 r3

def fX7_cookAll_18  : Nat → mm_M → Int32 → Int32 → Option (mm_M)
  | 0, _, _, _ => none
  | n + 1, M, v1, v2 =>
    if v2 < 0 then
      some M
    else
      bn (fX7_of M v2 11) fun r3 =>
      if r3 < 0 then
        fX7_cookAll_37 (fX7_cookAll_18 n) M v1
      else
        bn (fX7_cook M v2) fun M6 =>
        fX7_cookAll_37 (fX7_cookAll_18 n) M6 v1

def fX7_cookAll (M : mm_M) : Option (mm_M) :=
  lt (sI M 731 8 0) fun M1 =>
  lt (sI M1 731 9 0) fun M2 =>
  bn (fX7_drawnAt M2 0) fun r4 =>
  fX7_cookAll_18 FU M2 0 r4

def fX7_swapAll_106 (k2 : mm_M → Int32 → Option (mm_M)) (M : mm_M) (v1 : Int32) (v2 : Int32) (v3 : Int32) (v4 : Int32) (v5 : Int32) (t0 : Bool) : Option (mm_M) :=
  if t0 = true then
    bn (fX7_of M v2 18) fun r8 =>
    bn (fX7_lay M v2 18 (r8 + (M.1 732 9))) fun M10 =>
    bn (fX7_of M10 v3 18) fun r12 =>
    bn (fX7_lay M10 v3 18 (r12 + (M10.1 732 9))) fun M14 =>
    lt (sI M14 732 15 ((M14.1 732 15) + 1)) fun M15 =>
    lt (v1 + 1) fun y16 =>
    k2 M15 y16
  else
    bn (fX7_put M v2 v4) fun M3 =>
    bn (fX7_put M3 v3 v5) fun M5 =>
    lt (v1 + 1) fun y6 =>
    k2 M5 y6

def fX7_swapAll_105 (k2 : mm_M → Int32 → Option (mm_M)) (M : mm_M) (v1 : Int32) (v2 : Int32) (v3 : Int32) (v4 : Int32) (v5 : Int32) : Option (mm_M) :=
  fX7_swapAll_106 k2 M v1 v2 v3 v4 v5 false

def fX7_swapAll_2  : Nat → mm_M → Int32 → Option (mm_M)
  | 0, _, _ => none
  | n + 1, M, v1 =>
    if (M.1 732 14) ≤ v1 then
      lt (sI M 732 14 0) fun M2 =>
      some M2
    else
      gd (¬ ((16 + (2 * v1)) < 0 ∨ 3592 ≤ (16 + (2 * v1)).toNatClampNeg)) <|
      lt (M.1 732 (16 + (2 * v1)).toNatClampNeg) fun y4 =>
      gd (¬ (((16 + (2 * v1)) + 1) < 0 ∨ 3592 ≤ ((16 + (2 * v1)) + 1).toNatClampNeg)) <|
      lt (M.1 732 ((16 + (2 * v1)) + 1).toNatClampNeg) fun y6 =>
      bn (fX7_of M y4 11) fun r8 =>
      bn (fX7_of M y6 11) fun r10 =>
      if r8 < 0 then
        lt (v1 + 1) fun y12 =>
        fX7_swapAll_2 n M y12
      else
        if r10 < 0 then
          lt (v1 + 1) fun y14 =>
          fX7_swapAll_2 n M y14
        else
          bn (fX7_put M y4 r10) fun M16 =>
          bn (fX7_put M16 y6 r8) fun M18 =>
          bn (fX7_isApart M18 y4 r10) fun r20 =>
          if r20 = true then
            bn (fX7_isApart M18 y6 r8) fun r23 =>
            if r23 = true then
              fX7_swapAll_106 (fX7_swapAll_2 n) M18 v1 y4 y6 r8 r10 true
            else
              fX7_swapAll_105 (fX7_swapAll_2 n) M18 v1 y4 y6 r8 r10
          else
            fX7_swapAll_105 (fX7_swapAll_2 n) M18 v1 y4 y6 r8 r10

def fX7_swapAll (M : mm_M) : Option (mm_M) :=
  fX7_swapAll_2 FU M 0

def fX7_trade_2  : Nat → mm_M → Int32 → Option (mm_M)
  | 0, _, _ => none
  | n + 1, M, v1 =>
    if (M.1 732 13) ≤ v1 then
      some M
    else
      bn (fX7_of M v1 11) fun r3 =>
      if r3 < 0 then
        bn (fX7_of M v1 6) fun r6 =>
        bn (fX7_of M v1 19) fun r8 =>
        bn (fX7_lay M v1 6 (r6 + r8)) fun M10 =>
        lt (v1 + 1) fun y11 =>
        fX7_trade_2 n M10 y11
      else
        bn (fX7_of M v1 16) fun r13 =>
        bn (fX7_ofP M r3 0) fun r15 =>
        bn (fX7_lay M v1 16 (r13 + r15)) fun M17 =>
        bn (fX7_of M17 v1 10) fun r19 =>
        bn (fX7_lay M17 v1 10 (r19 + 1)) fun M21 =>
        bn (fX7_lay M21 v1 6 0) fun M23 =>
        gd (¬ (((32 + (4 * r3)) + 1) < 0 ∨ 3592 ≤ ((32 + (4 * r3)) + 1).toNatClampNeg)) <|
        lt (sI M23 732 ((32 + (4 * r3)) + 1).toNatClampNeg ((M23.1 732 ((32 + (4 * r3)) + 1).toNatClampNeg) + 1)) fun M25 =>
        gd (¬ (((32 + (4 * r3)) + 2) < 0 ∨ 3592 ≤ ((32 + (4 * r3)) + 2).toNatClampNeg)) <|
        bn (fX7_ofP M25 r3 0) fun r28 =>
        lt (sI M25 732 ((32 + (4 * r3)) + 2).toNatClampNeg ((M25.1 732 ((32 + (4 * r3)) + 2).toNatClampNeg) + r28)) fun M29 =>
        lt (v1 + 1) fun y30 =>
        fX7_trade_2 n M29 y30

def fX7_trade (M : mm_M) : Option (mm_M) :=
  fX7_trade_2 FU M 0

def fX7_passDay_37  : Nat → mm_M → Int32 → Option (mm_M)
  | 0, _, _ => none
  | n + 1, M, v1 =>
    if (M.1 732 13) ≤ v1 then
      some M
    else
      gd (¬ (((392 + (200 * v1)) + ((M.1 732 10) - (M.1 732 10) / 200 * 200)) < 0 ∨ 3592 ≤ ((392 + (200 * v1)) + ((M.1 732 10) - (M.1 732 10) / 200 * 200)).toNatClampNeg)) <|
      lt (sI M 732 ((392 + (200 * v1)) + ((M.1 732 10) - (M.1 732 10) / 200 * 200)).toNatClampNeg 0) fun M3 =>
      lt (v1 + 1) fun y4 =>
      fX7_passDay_37 n M3 y4

def fX7_passDay (M : mm_M) : Option (mm_M) :=
  bn (fX7_checkAll M) fun M2 =>
  bn (fX7_beginDay M2) fun M4 =>
  bn (fX7_drawAll M4) fun M6 =>
  bn (fX7_cookAll M6) fun M8 =>
  bn (fX7_swapAll M8) fun M10 =>
  bn (fX7_trade M10) fun M12 =>
  lt (sI M12 732 10 ((M12.1 732 10) + 1)) fun M13 =>
  fX7_passDay_37 FU M13 0

def fX7_tryDays_20 (x1 : Int32) (x2 : Bool) : Nat → mm_M → Int32 → Option (Int32 × mm_M)
  | 0, _, _ => none
  | n + 1, M, v3 =>
    if x1 ≤ v3 then
      some ((M.1 732 10), M)
    else
      bn (fX7_passDay M) fun M3 =>
      lt (v3 + 1) fun y4 =>
      fX7_tryDays_20 x1 x2 n M3 y4

def fX7_tryDays (M : mm_M) (x1 : Int32) (x2 : Bool) : Option (Int32 × mm_M) :=
  bn (fX7_in M x1 1 60) fun r2 =>
  if r2 = true then
    bn (fX7_keepIf M x2) fun M5 =>
    fX7_tryDays_20 x1 x2 FU M5 0
  else
    some ((-2), M)

def fX7_days (M : mm_M) (x1 : Int32) : Option (Int32 × mm_M) :=
  bn2 (fX7_tryDays M x1 true) fun r2 M3 =>
  some (r2, M3)

def fX7_ofCart_88 (x1 : Int32) (x2 : Int32) (M : mm_M) : Option (Int32) :=
  bn (fX7_of M x1 x2) fun r2 =>
  some r2

def fX7_ofCart_95 (x1 : Int32) (x2 : Int32) (M : mm_M) : Option (Int32) :=
  bn (fX7_of M x1 2) fun r2 =>
  if r2 ≤ (x2 - 3) then
    some (-6)
  else
    bn (fX7_of M x1 x2) fun r5 =>
    some r5

def fX7_ofCart_119 (x1 : Int32) (x2 : Int32) (M : mm_M) : Option (Int32) :=
  bn (fX7_of M x1 x2) fun r2 =>
  some r2

def fX7_ofCart (M : mm_M) (x1 : Int32) (x2 : Int32) : Option (Int32) :=
  bn (fX7_isCart M x1) fun r2 =>
  if r2 = true then
    if x2 = 0 then
      fX7_ofCart_88 x1 x2 M
    else if x2 = 1 then
      fX7_ofCart_88 x1 x2 M
    else if x2 = 2 then
      fX7_ofCart_88 x1 x2 M
    else if x2 = 3 then
      fX7_ofCart_95 x1 x2 M
    else if x2 = 4 then
      fX7_ofCart_95 x1 x2 M
    else if x2 = 5 then
      fX7_ofCart_95 x1 x2 M
    else if x2 = 6 then
      fX7_ofCart_119 x1 x2 M
    else if x2 = 7 then
      fX7_ofCart_119 x1 x2 M
    else if x2 = 8 then
      fX7_ofCart_119 x1 x2 M
    else if x2 = 9 then
      bn (fX7_pointsAt M x1 (M.1 732 10)) fun r15 =>
      some r15
    else if x2 = 10 then
      bn (fX7_of M x1 9) fun r18 =>
      some r18
    else if x2 = 11 then
      bn (fX7_of M x1 10) fun r21 =>
      some r21
    else if x2 = 12 then
      bn (fX7_of M x1 11) fun r24 =>
      some r24
    else if x2 = 13 then
      bn (fX7_of M x1 12) fun r27 =>
      some r27
    else if x2 = 14 then
      bn (fX7_of M x1 13) fun r30 =>
      some r30
    else if x2 = 15 then
      bn (fX7_of M x1 14) fun r33 =>
      some r33
    else 
      some (-2)
  else
    some (-1)

def fX7_money (M : mm_M) (x1 : Int32) (x2 : Int32) : Option (Int64) :=
  bn (fX7_isCart M x1) fun r2 =>
  if r2 = true then
    if x2 = 0 then
      bn (fX7_balance M x1) fun r11 =>
      some (r11.toInt64)
    else
      bn (fX7_in M x2 1 4) fun r6 =>
      if r6 = true then
        bn (fX7_of M x1 ((15 + x2) - 1)) fun r9 =>
        some (r9.toInt64)
      else
        some ((-2) : Int64)
  else
    some ((-1) : Int64)

def fX7_ofPitch (M : mm_M) (x1 : Int32) (x2 : Int32) : Option (Int32) :=
  bn (fX7_isPitch M x1) fun r2 =>
  if r2 = true then
    bn (fX7_in M x2 0 3) fun r5 =>
    if r5 = true then
      bn (fX7_ofP M x1 x2) fun r8 =>
      some r8
    else
      some (-2)
  else
    some (-1)

def fX7_atPitches_4 (M : mm_M) : Nat → Int32 → Int32 → Option (Int32)
  | 0, _, _ => none
  | n + 1, v1, v2 =>
    if (M.1 732 13) ≤ v2 then
      some v1
    else
      bn (fX7_of M v2 11) fun r3 =>
      if r3 < 0 then
        lt (v1 + 0) fun y5 =>
        lt (v2 + 1) fun y6 =>
        fX7_atPitches_4 M n y5 y6
      else
        lt (v1 + 1) fun y7 =>
        lt (v2 + 1) fun y8 =>
        fX7_atPitches_4 M n y7 y8

def fX7_atPitches (M : mm_M) : Option (Int32) :=
  fX7_atPitches_4 M FU 0 0

def fX7_count (M : mm_M) (x1 : Int32) : Option (Int32) :=
  bn (fX7_in M x1 8 17) fun r2 =>
  if r2 = true then
    gd (¬ ((x1 - 8) < 0 ∨ 3592 ≤ (x1 - 8).toNatClampNeg)) <|
    some (M.1 732 (x1 - 8).toNatClampNeg)
  else
    if x1 = 0 then
      some (M.1 732 10)
    else if x1 = 1 then
      some (M.1 732 13)
    else if x1 = 2 then
      some (M.1 732 12)
    else if x1 = 3 then
      some (M.1 732 11)
    else if x1 = 4 then
      bn (fX7_waiting M) fun r10 =>
      some r10
    else if x1 = 5 then
      some (M.1 732 14)
    else if x1 = 6 then
      some (M.1 731 7)
    else if x1 = 7 then
      some (M.1 731 2)
    else if x1 = 8 then
      some (-2)
    else if x1 = 9 then
      some (-2)
    else if x1 = 10 then
      some (-2)
    else if x1 = 11 then
      some (-2)
    else if x1 = 12 then
      some (-2)
    else if x1 = 13 then
      some (-2)
    else if x1 = 14 then
      some (-2)
    else if x1 = 15 then
      some (-2)
    else if x1 = 16 then
      some (-2)
    else if x1 = 17 then
      some (-2)
    else if x1 = 18 then
      bn (fX7_atPitches M) fun r26 =>
      some r26
    else if x1 = 19 then
      some (M.1 732 15)
    else 
      some (-2)

def fX7_pointsOn (M : mm_M) (x1 : Int32) (x2 : Int32) : Option (Int32) :=
  bn (fX7_isCart M x1) fun r2 =>
  if r2 = true then
    bn (fX7_in M x2 (M.1 732 10) ((M.1 732 10) + 400)) fun r5 =>
    if r5 = true then
      bn (fX7_pointsAt M x1 x2) fun r8 =>
      some r8
    else
      some (-2)
  else
    some (-1)

def fX7_wouldHave (M : mm_M) (x1 : Int32) : Option (Int32 × mm_M) :=
  bn (fX7_isCart M x1) fun r2 =>
  if r2 = true then
    bn (fX7_layAside M) fun M5 =>
    bn (fX7_passDay M5) fun M7 =>
    bn (fX7_of M7 x1 11) fun r9 =>
    bn (fX7_layBack M7) fun M11 =>
    some (r9, M11)
  else
    some ((-1), M)

def fX7_ifWished (M : mm_M) (x1 : Int32) (x2 : Int32) : Option (Int32 × mm_M) :=
  bn (fX7_isCart M x1) fun r2 =>
  if r2 = true then
    bn (fX7_isPitch M x2) fun r5 =>
    if r5 = true then
      bn (fX7_layAside M) fun M8 =>
      bn (fX7_lay M8 x1 2 1) fun M10 =>
      bn (fX7_lay M10 x1 3 x2) fun M12 =>
      bn (fX7_passDay M12) fun M14 =>
      bn (fX7_of M14 x1 11) fun r16 =>
      bn (fX7_layBack M14) fun M18 =>
      some (r16, M18)
    else
      some ((-1), M)
  else
    some ((-1), M)

def fX7_firstDay_56 (x1 : Int32) (M : mm_M) (v2 : Int32) : Option (Int32 × mm_M) :=
  bn (fX7_layBack M) fun M2 =>
  some (v2, M2)

def fX7_firstDay_19 (x1 : Int32) : Nat → mm_M → Int32 → Int32 → Option (Int32 × mm_M)
  | 0, _, _, _ => none
  | n + 1, M, v2, v3 =>
    if 60 ≤ v3 then
      fX7_firstDay_56 x1 M v2
    else
      if 0 ≤ v2 then
        fX7_firstDay_56 x1 M v2
      else
        bn (fX7_passDay M) fun M4 =>
        bn (fX7_of M4 x1 11) fun r6 =>
        if r6 < 0 then
          lt (v3 + 1) fun y8 =>
          fX7_firstDay_19 x1 n M4 (-6) y8
        else
          lt (v3 + 1) fun y9 =>
          fX7_firstDay_19 x1 n M4 v3 y9

def fX7_firstDay (M : mm_M) (x1 : Int32) : Option (Int32 × mm_M) :=
  bn (fX7_isCart M x1) fun r2 =>
  if r2 = true then
    bn (fX7_layAside M) fun M5 =>
    fX7_firstDay_19 x1 FU M5 (-6) 0
  else
    some ((-1), M)

def fX7_daysOf_38 (x1 : Int32) (x2 : Int32) : Nat → mm_M → Int32 → Int32 → Option (Int32 × mm_M)
  | 0, _, _, _ => none
  | n + 1, M, v3, v4 =>
    if x2 ≤ v4 then
      bn (fX7_of M x1 10) fun r3 =>
      lt (r3 - v3) fun y4 =>
      bn (fX7_layBack M) fun M6 =>
      some (y4, M6)
    else
      bn (fX7_passDay M) fun M8 =>
      lt (v4 + 1) fun y9 =>
      fX7_daysOf_38 x1 x2 n M8 v3 y9

def fX7_daysOf (M : mm_M) (x1 : Int32) (x2 : Int32) : Option (Int32 × mm_M) :=
  bn (fX7_isCart M x1) fun r2 =>
  if r2 = true then
    bn (fX7_in M x2 1 60) fun r5 =>
    if r5 = true then
      bn (fX7_layAside M) fun M8 =>
      bn (fX7_of M8 x1 10) fun r10 =>
      fX7_daysOf_38 x1 x2 FU M8 r10 0
    else
      some ((-2), M)
  else
    some ((-1), M)

def fX7_luckySeed_84 (x1 : Int32) (x2 : Int32) (k28 : mm_M → Int32 → Int32 → Option (Int32 × mm_M)) (M : mm_M) (v4 : Int32) (t0 : Int32) : Option (Int32 × mm_M) :=
  bn (fX7_layBack M) fun M2 =>
  lt (v4 + 1) fun y3 =>
  k28 M2 t0 y3

def fX7_luckySeed_77 (x1 : Int32) (x2 : Int32) (k28 : mm_M → Int32 → Int32 → Option (Int32 × mm_M)) (M : mm_M) (v4 : Int32) : Option (Int32 × mm_M) :=
  fX7_luckySeed_84 x1 x2 k28 M v4 v4

def fX7_luckySeed_82 (x1 : Int32) (x2 : Int32) (k28 : mm_M → Int32 → Int32 → Option (Int32 × mm_M)) (M : mm_M) (v4 : Int32) : Option (Int32 × mm_M) :=
  fX7_luckySeed_84 x1 x2 k28 M v4 (-6)

def fX7_luckySeed_28 (x1 : Int32) (x2 : Int32) : Nat → mm_M → Int32 → Int32 → Option (Int32 × mm_M)
  | 0, _, _, _ => none
  | n + 1, M, v3, v4 =>
    if 200 ≤ v4 then
      some (v3, M)
    else
      if 0 ≤ v3 then
        some (v3, M)
      else
        lt (sI M 732 11 v4) fun M3 =>
        bn (fX7_passDay M3) fun M5 =>
        bn (fX7_of M5 x1 11) fun r7 =>
        if r7 < 0 then
          fX7_luckySeed_82 x1 x2 (fX7_luckySeed_28 x1 x2 n) M5 v4
        else
          if x2 < 0 then
            fX7_luckySeed_77 x1 x2 (fX7_luckySeed_28 x1 x2 n) M5 v4
          else
            if r7 = x2 then
              fX7_luckySeed_77 x1 x2 (fX7_luckySeed_28 x1 x2 n) M5 v4
            else
              fX7_luckySeed_82 x1 x2 (fX7_luckySeed_28 x1 x2 n) M5 v4

def fX7_luckySeed (M : mm_M) (x1 : Int32) (x2 : Int32) : Option (Int32 × mm_M) :=
  bn (fX7_isCart M x1) fun r2 =>
  if r2 = true then
    bn (fX7_isNumber M x2) fun r5 =>
    if r5 = true then
      bn (fX7_layAside M) fun M8 =>
      fX7_luckySeed_28 x1 x2 FU M8 (-6) 0
    else
      some ((-1), M)
  else
    some ((-1), M)

def fX7_whyNot_38 (x1 : Int32) (x2 : Int32) (M : mm_M) : Option (Int32) :=
  bn (fX7_isApart M x1 x2) fun r2 =>
  if r2 = true then
    some 0
  else
    some 2

def fX7_whyNot (M : mm_M) (x1 : Int32) (x2 : Int32) : Option (Int32) :=
  bn (fX7_isCart M x1) fun r2 =>
  if r2 = true then
    bn (fX7_isPitch M x2) fun r5 =>
    if r5 = true then
      bn (fX7_ofP M x2 3) fun r8 =>
      if r8 < 0 then
        fX7_whyNot_38 x1 x2 M
      else
        if r8 = x1 then
          fX7_whyNot_38 x1 x2 M
        else
          some 1
    else
      some (-1)
  else
    some (-1)

def fX7_put__86 (x1 : Int64) : Nat → mm_M → Int32 → Int32 → Option (Int32 × mm_M)
  | 0, _, _, _ => none
  | n + 1, M, v3, v6 =>
    if v3 ≤ v6 then
      lt (sI M 731 7 ((M.1 731 7) + v3)) fun M2 =>
      some ((M2.1 731 7), M2)
    else
      gd (¬ (((M.1 731 7) + v6) < 0 ∨ 80 ≤ ((M.1 731 7) + v6).toNatClampNeg)) <|
      lt (sI M 737 ((M.1 731 7) + v6).toNatClampNeg (((x1 >>> ((8 * ((v3 - 1) - v6)).toInt64 &&& 63)) &&& (255 : Int64)).toInt32)) fun M4 =>
      lt (v6 + 1) fun y5 =>
      fX7_put__86 x1 n M4 v3 y5

def fX7_put__55 (x1 : Int64) (M : mm_M) (v3 : Int32) (v4 : Int64) : Option (Int32 × mm_M) :=
  if v3 = 0 then
    some ((-2), M)
  else
    if (lg_cmp v4 (0 : Int64)) = 0 then
      if ((M.1 731 7) + v3) ≤ 80 then
        fX7_put__86 x1 FU M v3 0
      else
        some ((-4), M)
    else
      some ((-2), M)

def fX7_put__5 (x1 : Int64) : Nat → mm_M → Int32 → Int64 → Option (Int32 × mm_M)
  | 0, _, _, _ => none
  | n + 1, M, v3, v4 =>
    if 8 ≤ v3 then
      fX7_put__55 x1 M v3 v4
    else
      if (lg_cmp (v4 &&& (255 : Int64)) (0 : Int64)) = 0 then
        fX7_put__55 x1 M v3 v4
      else
        bn (fX7_in M ((v4 &&& (255 : Int64)).toInt32) 33 126) fun r4 =>
        if r4 = true then
          lt (v3 + 1) fun y6 =>
          lt ((v4.toUInt64 >>> ((8 : Int32).toInt64.toUInt64 &&& Int64.toUInt64 63)).toInt64) fun y7 =>
          fX7_put__5 x1 n M y6 y7
        else
          some ((-2), M)

def fX7_put_ (M : mm_M) (x1 : Int64) : Option (Int32 × mm_M) :=
  fX7_put__5 x1 FU M 0 x1

def fX7_wipe (M : mm_M) : Option (Int32 × mm_M) :=
  lt (M.1 731 7) fun y1 =>
  lt (sI M 731 7 0) fun M2 =>
  some (y1, M2)

def fX7_next (M : mm_M) : Option (Int32) :=
  if (M.1 731 7) ≤ (M.1 731 10) then
    some 0
  else
    gd (¬ ((M.1 731 10) < 0 ∨ 80 ≤ (M.1 731 10).toNatClampNeg)) <|
    some (M.1 737 (M.1 731 10).toNatClampNeg)

def fX7_takeOne_25 (x1 : Int32) (x2 : Int32) (x3 : Int32) (M : mm_M) (t1 : Bool) : Option (mm_M) :=
  lt (sI M 731 11 (b2i t1)) fun M1 =>
  if (M1.1 731 11) = 0 then
    bn (fX7_next M1) fun r4 =>
    gd (¬ (((4 * (M1.1 731 12)) + x1) < 0 ∨ 116 ≤ ((4 * (M1.1 731 12)) + x1).toNatClampNeg)) <|
    lt (sI M1 739 ((4 * (M1.1 731 12)) + x1).toNatClampNeg (r4 - x2)) fun M6 =>
    lt (sI M6 731 10 ((M6.1 731 10) + 1)) fun M7 =>
    some M7
  else
    some M1

def fX7_takeOne_20 (x1 : Int32) (x2 : Int32) (x3 : Int32) (M : mm_M) : Option (mm_M) :=
  fX7_takeOne_25 x1 x2 x3 M true

def fX7_takeOne (M : mm_M) (x1 : Int32) (x2 : Int32) (x3 : Int32) : Option (mm_M) :=
  if (M.1 731 11) = 0 then
    bn (fX7_next M) fun r3 =>
    bn (fX7_in M r3 x2 x3) fun r5 =>
    if r5 = true then
      fX7_takeOne_25 x1 x2 x3 M false
    else
      fX7_takeOne_20 x1 x2 x3 M
  else
    fX7_takeOne_20 x1 x2 x3 M

def fX7_takeNumber (M : mm_M) : Option (mm_M) :=
  bn (fX7_takeOne M 0 48 57) fun M2 =>
  lt (4 * (M2.1 731 12)) fun y3 =>
  if (M2.1 731 11) = 0 then
    gd (¬ (y3 < 0 ∨ 116 ≤ y3.toNatClampNeg)) <|
    if (M2.1 739 y3.toNatClampNeg) ≤ 0 then
      some M2
    else
      bn (fX7_next M2) fun r8 =>
      bn (fX7_in M2 r8 48 57) fun r10 =>
      if r10 = true then
        bn (fX7_next M2) fun r13 =>
        lt (sI M2 739 y3.toNatClampNeg (((10 * (M2.1 739 y3.toNatClampNeg)) + r13) - 48)) fun M14 =>
        lt (sI M14 731 10 ((M14.1 731 10) + 1)) fun M15 =>
        bn (fX7_next M15) fun r17 =>
        bn (fX7_in M15 r17 48 57) fun r19 =>
        lt (sI M15 731 11 (b2i r19)) fun M20 =>
        some M20
      else
        some M2
  else
    some M2

def fX7_takeWishes_11  : Nat → mm_M → Int32 → Option (mm_M)
  | 0, _, _ => none
  | n + 1, M, v1 =>
    if 3 < v1 then
      some M
    else
      gd (¬ (((4 * (M.1 731 12)) + v1) < 0 ∨ 116 ≤ ((4 * (M.1 731 12)) + v1).toNatClampNeg)) <|
      lt (sI M 739 ((4 * (M.1 731 12)) + v1).toNatClampNeg (-6)) fun M3 =>
      if (M3.1 731 11) = 0 then
        bn (fX7_next M3) fun r7 =>
        bn (fX7_in M3 r7 48 57) fun r9 =>
        if r9 = true then
          bn (fX7_takeOne M3 v1 48 57) fun M13 =>
          lt (v1 + 1) fun y14 =>
          fX7_takeWishes_11 n M13 y14
        else
          lt (v1 + 1) fun y11 =>
          fX7_takeWishes_11 n M3 y11
      else
        lt (v1 + 1) fun y5 =>
        fX7_takeWishes_11 n M3 y5

def fX7_takeWishes (M : mm_M) : Option (mm_M) :=
  bn (fX7_takeOne M 0 65 80) fun M2 =>
  fX7_takeWishes_11 FU M2 1

def fX7_takeOrder_151 (M : mm_M) (v1 : Int32) : Option (mm_M) :=
  if (M.1 731 11) = 0 then
    gd (¬ ((M.1 731 12) < 0 ∨ 29 ≤ (M.1 731 12).toNatClampNeg)) <|
    lt (sI M 738 (M.1 731 12).toNatClampNeg v1) fun M3 =>
    lt (sI M3 731 12 ((M3.1 731 12) + 1)) fun M4 =>
    some M4
  else
    some M

def fX7_takeOrder (M : mm_M) : Option (mm_M) :=
  bn (fX7_next M) fun r2 =>
  lt (sI M 731 10 ((M.1 731 10) + 1)) fun M3 =>
  if r2 = 99 then
    bn (fX7_takeOne M3 0 65 80) fun M6 =>
    fX7_takeOrder_151 M6 r2
  else if r2 = 100 then
    bn (fX7_takeNumber M3) fun M9 =>
    fX7_takeOrder_151 M9 r2
  else if r2 = 102 then
    bn (fX7_takeOne M3 0 65 80) fun M12 =>
    bn (fX7_takeOne M12 1 49 57) fun M14 =>
    fX7_takeOrder_151 M14 r2
  else if r2 = 115 then
    bn (fX7_takeOne M3 0 65 80) fun M17 =>
    bn (fX7_takeOne M17 1 65 80) fun M19 =>
    fX7_takeOrder_151 M19 r2
  else if r2 = 119 then
    bn (fX7_takeWishes M3) fun M22 =>
    fX7_takeOrder_151 M22 r2
  else 
    lt (sI M3 731 10 ((M3.1 731 10) - 1)) fun M23 =>
    lt (sI M23 731 11 1) fun M24 =>
    fX7_takeOrder_151 M24 r2

def fX7_fault_52 (k19 : mm_M → Option (Int32 × mm_M)) (M : mm_M) (t1 : Bool) : Option (Int32 × mm_M) :=
  lt (sI M 731 11 (b2i t1)) fun M1 =>
  if (M1.1 731 11) = 0 then
    lt (sI M1 731 10 ((M1.1 731 10) + 1)) fun M3 =>
    bn (fX7_takeOrder M3) fun M5 =>
    k19 M5
  else
    k19 M1

def fX7_fault_79 (M : mm_M) : Option (Int32 × mm_M) :=
  if (M.1 731 11) = 0 then
    some ((-6), M)
  else
    some ((M.1 731 10), M)

def fX7_fault_19  : Nat → mm_M → Option (Int32 × mm_M)
  | 0, _ => none
  | n + 1, M =>
    if (M.1 731 11) = 0 then
      if (M.1 731 7) ≤ (M.1 731 10) then
        fX7_fault_79 M
      else
        bn (fX7_next M) fun r4 =>
        if r4 = 59 then
          fX7_fault_52 (fX7_fault_19 n) M false
        else
          fX7_fault_52 (fX7_fault_19 n) M true
    else
      fX7_fault_79 M

def fX7_fault (M : mm_M) : Option (Int32 × mm_M) :=
  lt (sI M 731 10 0) fun M1 =>
  lt (sI M1 731 11 0) fun M2 =>
  lt (sI M2 731 12 0) fun M3 =>
  bn (fX7_takeOrder M3) fun M5 =>
  fX7_fault_19 FU M5

def fX7_carry (M : mm_M) (x1 : Int32) : Option (Int32 × mm_M) :=
  lt (4 * x1) fun y1 =>
  gd (¬ (x1 < 0 ∨ 29 ≤ x1.toNatClampNeg)) <|
  if (M.1 738 x1.toNatClampNeg) = 99 then
    gd (¬ (y1 < 0 ∨ 116 ≤ y1.toNatClampNeg)) <|
    bn2 (fX7_tryCheck M (M.1 739 y1.toNatClampNeg) false) fun r6 M7 =>
    some (r6, M7)
  else if (M.1 738 x1.toNatClampNeg) = 102 then
    gd (¬ (y1 < 0 ∨ 116 ≤ y1.toNatClampNeg)) <|
    gd (¬ ((y1 + 1) < 0 ∨ 116 ≤ (y1 + 1).toNatClampNeg)) <|
    bn2 (fX7_tryFine M (M.1 739 y1.toNatClampNeg) (1 + (M.1 739 (y1 + 1).toNatClampNeg)) false) fun r12 M13 =>
    some (r12, M13)
  else if (M.1 738 x1.toNatClampNeg) = 115 then
    gd (¬ (y1 < 0 ∨ 116 ≤ y1.toNatClampNeg)) <|
    gd (¬ ((y1 + 1) < 0 ∨ 116 ≤ (y1 + 1).toNatClampNeg)) <|
    bn2 (fX7_trySwap M (M.1 739 y1.toNatClampNeg) (M.1 739 (y1 + 1).toNatClampNeg) false) fun r18 M19 =>
    some (r18, M19)
  else if (M.1 738 x1.toNatClampNeg) = 119 then
    gd (¬ (y1 < 0 ∨ 116 ≤ y1.toNatClampNeg)) <|
    gd (¬ ((y1 + 1) < 0 ∨ 116 ≤ (y1 + 1).toNatClampNeg)) <|
    gd (¬ ((y1 + 2) < 0 ∨ 116 ≤ (y1 + 2).toNatClampNeg)) <|
    gd (¬ ((y1 + 3) < 0 ∨ 116 ≤ (y1 + 3).toNatClampNeg)) <|
    bn2 (fX7_tryWish M (M.1 739 y1.toNatClampNeg) (M.1 739 (y1 + 1).toNatClampNeg) (M.1 739 (y1 + 2).toNatClampNeg) (M.1 739 (y1 + 3).toNatClampNeg) false) fun r26 M27 =>
    some (r26, M27)
  else 
    gd (¬ (y1 < 0 ∨ 116 ≤ y1.toNatClampNeg)) <|
    bn2 (fX7_tryDays M (M.1 739 y1.toNatClampNeg) false) fun r30 M31 =>
    some (r30, M31)

def fX7_carryOut_16  : Nat → mm_M → Int32 → Option (Int32 × mm_M)
  | 0, _, _ => none
  | n + 1, M, v1 =>
    if (M.1 731 12) ≤ v1 then
      lt (sI M 731 7 0) fun M2 =>
      some (v1, M2)
    else
      bn2 (fX7_carry M v1) fun r4 M5 =>
      if r4 < 0 then
        lt (sI M5 731 7 0) fun M7 =>
        some (v1, M7)
      else
        lt (v1 + 1) fun y8 =>
        fX7_carryOut_16 n M5 y8

def fX7_carryOut (M : mm_M) : Option (Int32 × mm_M) :=
  bn2 (fX7_fault M) fun r2 M3 =>
  if r2 < 0 then
    bn (fX7_keep M3) fun M6 =>
    fX7_carryOut_16 FU M6 0
  else
    some ((-3), M3)

def fX7_undo_22  : Nat → mm_M → Int32 → Option (Int32 × mm_M)
  | 0, _, _ => none
  | n + 1, M, v1 =>
    if 3592 ≤ v1 then
      some ((M.1 731 2), M)
    else
      gd (¬ (((3592 * (M.1 731 2)) + v1) < 0 ∨ 21552 ≤ ((3592 * (M.1 731 2)) + v1).toNatClampNeg)) <|
      gd (¬ (v1 < 0 ∨ 3592 ≤ v1.toNatClampNeg)) <|
      lt (sI M 732 v1.toNatClampNeg (M.1 733 ((3592 * (M.1 731 2)) + v1).toNatClampNeg)) fun M4 =>
      lt (v1 + 1) fun y5 =>
      fX7_undo_22 n M4 y5

def fX7_undo (M : mm_M) : Option (Int32 × mm_M) :=
  if (M.1 731 2) = 0 then
    some ((-5), M)
  else
    lt (sI M 731 2 ((M.1 731 2) - 1)) fun M2 =>
    fX7_undo_22 FU M2 0

def fX7_save_14 (x1 : Int32) : Nat → mm_M → Int32 → Option (Int32 × mm_M)
  | 0, _, _ => none
  | n + 1, M, v2 =>
    if 3592 ≤ v2 then
      gd (¬ (x1 < 0 ∨ 2 ≤ x1.toNatClampNeg)) <|
      lt (sI M 735 x1.toNatClampNeg 1) fun M3 =>
      some ((M3.1 732 10), M3)
    else
      gd (¬ (v2 < 0 ∨ 3592 ≤ v2.toNatClampNeg)) <|
      gd (¬ (((3592 * x1) + v2) < 0 ∨ 7184 ≤ ((3592 * x1) + v2).toNatClampNeg)) <|
      lt (sI M 734 ((3592 * x1) + v2).toNatClampNeg (M.1 732 v2.toNatClampNeg)) fun M6 =>
      lt (v2 + 1) fun y7 =>
      fX7_save_14 x1 n M6 y7

def fX7_save (M : mm_M) (x1 : Int32) : Option (Int32 × mm_M) :=
  bn (fX7_in M x1 0 1) fun r2 =>
  if r2 = true then
    fX7_save_14 x1 FU M 0
  else
    some ((-2), M)

def fX7_restore_30 (x1 : Int32) : Nat → mm_M → Int32 → Option (Int32 × mm_M)
  | 0, _, _ => none
  | n + 1, M, v2 =>
    if 3592 ≤ v2 then
      some ((M.1 732 10), M)
    else
      gd (¬ (((3592 * x1) + v2) < 0 ∨ 7184 ≤ ((3592 * x1) + v2).toNatClampNeg)) <|
      gd (¬ (v2 < 0 ∨ 3592 ≤ v2.toNatClampNeg)) <|
      lt (sI M 732 v2.toNatClampNeg (M.1 734 ((3592 * x1) + v2).toNatClampNeg)) fun M4 =>
      lt (v2 + 1) fun y5 =>
      fX7_restore_30 x1 n M4 y5

def fX7_restore (M : mm_M) (x1 : Int32) : Option (Int32 × mm_M) :=
  bn (fX7_in M x1 0 1) fun r2 =>
  if r2 = true then
    gd (¬ (x1 < 0 ∨ 2 ≤ x1.toNatClampNeg)) <|
    if (M.1 735 x1.toNatClampNeg) = 0 then
      some ((-5), M)
    else
      bn (fX7_keep M) fun M7 =>
      fX7_restore_30 x1 FU M7 0
  else
    some ((-2), M)
end
section
/-! MY OWN KIT, fourth part: makers -/
def zR (R : mm_R) (o : Nat) : mm_R := fun o' k' => if o' = o then none else R o' k'
def zM (M : mm_M) (o : Nat) : mm_M := (fun o' k' => if o' = o then 0 else M.1 o' k', fun o' k' => if o' = o then 0 else M.2 o' k')
theorem zR_at (R : mm_R) (o : Nat) : zR R o o = fun _ => none := by funext k; simp [zR]
theorem zM_at1 (M : mm_M) (o : Nat) : (zM M o).1 o = fun _ => 0 := by funext k; simp [zM]
theorem zM_at2 (M : mm_M) (o : Nat) : (zM M o).2 o = fun _ => 0 := by funext k; simp [zM]
theorem mm_en_z {G : mm_G} {R : mm_R} {M : mm_M} {o : Nat} : ∀ o', o' ≠ o → mm_en G (zR R o) (zM M o) o' = mm_en G R M o' := by
  intro o' h
  have e1 : (zM M o).1 o' = M.1 o' := by funext j; simp [zM, h]
  have e2 : (zM M o).2 o' = M.2 o' := by funext j; simp [zM, h]
  have e3 : zR R o o' = R o' := by funext j; simp [zR, h]
  unfold mm_en
  rw [e1, e2, e3]
/-- one cell comes -/
theorem mm_push {G : mm_G} {R : mm_R} {N : Nat} {M : mm_M} {H H1 : Heap} (hM : mm_P G R N M H) (hN : N < 731) (hz : H.size = mm_lo G + N) (o1 : ∀ q : Nat, q < H.size → H1[q]? = H[q]?) (he : va_at G.1 vwCl (mm_lo G + N, mm_e G (fun _ => 0) (fun _ => 0) (fun _ => none) (kT N)) H1) : mm_P G (zR R N) (N + 1) (zM M N) H1 := by
  refine ⟨fun k q hk => ?_, hN⟩
  obtain ⟨hkN, e⟩ := mm_Wi hk
  subst e
  by_cases h : k = N
  · subst h
    unfold mm_en
    rw [zM_at1, zM_at2, zR_at]
    exact he
  · rw [mm_en_z k h]
    exact (hM.1 k _ (mm_Wg (by omega))).kept (o1 _ (by rw [hz]; show mm_lo G + k < _; omega))
section MMM
variable {p : Program} {l : Launch} {e : Env} {Rm : Room} {s : State} {m : MethodId} {args : Array Value} {below : List Frame} {meth : Method} {c : Code} {H : Heap} {locs : List Loc} {cells slots : Nat} {Q : State → Prop}
variable {cc : ByteArray} {pc : Nat} {ls : Array Slot} {rest : List Value} {G : mm_G} {own : String} {nL : Nat} {ret : Option FieldType} {R : mm_R} {N : Nat} {M : mm_M} {o : Nat}
theorem mm_S1 (hS : va_S (mm_A G) s.heap H locs) {H1 : Heap} {h : Nat} (hh : H.size = h) (z1 : H1.size = h + 1) (o1 : ∀ q, q < h → H1[q]? = H[q]?) : va_S (mm_A G) s.heap H1 locs := by
  subst hh
  exact ⟨Nat.le_trans hS.1 (by omega), fun x h1 h2 => (o1 x (Nat.lt_of_lt_of_le h1 hS.1)).trans (hS.2.1 x h1 h2), hS.2.2⟩
theorem mm_new (C : mm_C G p s m args meth c own cc nL ret) (hN7 : N < 731) (hz : H.size = mm_lo G + N) (hM : mm_P G R N M H) (hS : va_S (mm_A G) s.heap H locs) {ci Nf index : Nat} {Cn : String} {T : u_T} {fs : List Value} (hT : kT N = (ci, 0)) (hc : vwCl[ci]? = some (Cn, T, Nf)) (hw : ∀ w ∈ u_ws Cn T Nf, w ∈ mm_good) (ty : Nat → FieldType) (hty : ∀ k, k < Nf → parseFieldDescriptor (T k).2.2.1 = some (ty k)) (hcl : Cond.classLink own index Cn ∈ mm_good) (hinst : Cond.instantiable Cn Nf ∈ mm_good) (hini : Cond.initialized Cn ∈ mm_good) (he : mm_e G (fun _ => 0) (fun _ => 0) (fun _ => none) (ci, 0) = .inr (ci, fs)) (hfs : ∀ j, j < Nf → defaultValue (ty j) = vp_V fs j) (hcells : cells + 1 ≤ Rm.cells) (hslots : slots + Nf ≤ Rm.slots) (hdg : decode cc pc = .ok (.new index, 3))
    (kk : ∀ H1 : Heap, mm_P G (zR R N) (N + 1) (zM M N) H1 → va_S (mm_A G) s.heap H1 locs → H1.size = mm_lo G + (N + 1) → W p l e Rm s m args below meth c H1 locs (cells + 1) (slots + Nf) Q (F0 m (pc + 3) ls (.ref (mm_lo G + N) :: rest))) : W p l e Rm s m args below meth c H locs cells slots Q (F0 m pc ls rest) := by
  obtain ⟨hx, hb, -, hts, hown, -, -, hK, -⟩ := C
  have hKn := hK.1.1 ci _ hc
  refine W.newcK hx hb hown (hts _ hcl) (hts _ hinst) (hts _ hini) rfl hdg hcells hslots hKn.2.1 rfl fun H1 kC hkC e1 z1 o1 => ?_
  rw [hz] at e1
  rw [hz]
  refine kk H1 (mm_push hM hN7 hz o1 ?_) (mm_S1 hS rfl z1 o1) (by rw [z1, hz]; omega)
  rw [hT, he]
  exact ⟨_, hc, (u_born ty hts hw hKn hkC e1 hty).to hfs⟩
theorem mm_newa (C : mm_C G p s m args meth c own cc nL ret) (hN7 : N < 731) (hz : H.size = mm_lo G + N) (hM : mm_P G R N M H) (hS : va_S (mm_A G) s.heap H locs) {k kk0 : Nat} {n : Int32} {atype : ArrayType} {ty : FieldType} (hty : newarray.typeOf atype = ty) (hT : kT N = (kk0, k)) (hids : (mm_tys G)[kk0 - 7]? = some (G.2.1 (kk0 - 7), ty)) (hcell : ∀ cA : ClassId, va_at G.1 vwCl (mm_lo G + N, .inl (G.2.1 (kk0 - 7), (k, .inl (fun _ => 0)))) = va_at G.1 vwCl (mm_lo G + N, mm_e G (fun _ => 0) (fun _ => 0) (fun _ => none) (kk0, k))) (hdef : defaultValue ty = .int 0) (hprim : ∀ (U : State) (cA : ClassId), va_RA U cA ty → U.vm.findClass ("[" ++ ty.toString) = some cA) (hn : ¬ n < 0) (hN : n.toNatClampNeg = k) (hbytes : k * componentBytes ty ≤ 536870912) (harr : Cond.arrayClass ty ∈ mm_good) (hcells : cells + 1 ≤ Rm.cells) (hslots : slots + k ≤ Rm.slots) (hdg : decode cc pc = .ok (.newarray atype, 2))
    (kk : ∀ H1 : Heap, mm_P G (zR R N) (N + 1) (zM M N) H1 → va_S (mm_A G) s.heap H1 locs → H1.size = mm_lo G + (N + 1) → W p l e Rm s m args below meth c H1 locs (cells + 1) (slots + k) Q (F0 m (pc + 2) ls (.ref (mm_lo G + N) :: rest))) : W p l e Rm s m args below meth c H locs cells slots Q (F0 m pc ls (.int n :: rest)) := by
  obtain ⟨hx, hb, -, hts, hown, -, -, hK, -⟩ := C
  subst hty
  refine va_newaK hx hb (hts _ harr) rfl hdg rfl hn hN hbytes hcells hslots rfl fun H1 cA e1 z1 o1 hAr hNm => ?_
  have hcA : cA = G.2.1 (kk0 - 7) := Option.some.inj (hNm.symm.trans (hprim _ _ (hK.1.2 _ _ hids).2))
  rw [hz] at e1
  rw [hz]
  refine kk H1 (mm_push hM hN7 hz o1 ?_) (mm_S1 hS rfl z1 o1) (by rw [z1, hz]; omega)
  rw [hT, ← hcell cA]
  show H1[mm_lo G + N]? = some (arrV (G.2.1 (kk0 - 7)) k (fun _ => .int 0))
  rw [e1, hcA, hdef]
theorem mm_newq (C : mm_C G p s m args meth c own cc nL ret) (hN7 : N < 731) (hz : H.size = mm_lo G + N) (hM : mm_P G R N M H) (hS : va_S (mm_A G) s.heap H locs) {k kk0 index : Nat} {n : Int32} {Cn : String} (hT : kT N = (kk0, k)) (hids : (mm_tys G)[kk0 - 7]? = some (G.2.1 (kk0 - 7), .object Cn)) (hcell : mm_e G (fun _ => 0) (fun _ => 0) (fun _ => none) (kk0, k) = .inl (G.2.1 (kk0 - 7), (k, .inr (.inr (.inr (.inr (fun _ => none))))))) (hn : ¬ n < 0) (hN : n.toNatClampNeg = k) (hbytes : k * 4 ≤ 536870912) (hcl : Cond.classLink own index Cn ∈ mm_good) (hover : Cond.arrayOver (.object Cn) ∈ lw_tbl) (hcells : cells + 1 ≤ Rm.cells) (hslots : slots + k ≤ Rm.slots) (hdg : decode cc pc = .ok (.anewarray index, 3))
    (kk : ∀ H1 : Heap, mm_P G (zR R N) (N + 1) (zM M N) H1 → va_S (mm_A G) s.heap H1 locs → H1.size = mm_lo G + (N + 1) → W p l e Rm s m args below meth c H1 locs (cells + 1) (slots + k) Q (F0 m (pc + 3) ls (.ref (mm_lo G + N) :: rest))) : W p l e Rm s m args below meth c H locs cells slots Q (F0 m pc ls (.int n :: rest)) := by
  obtain ⟨hx, hb, -, hts, hown, -, -, hK, -⟩ := C
  subst hN
  refine W.anew hx hb hown (hts _ hcl) (va_AO.use (hK.2.2.2 _ hover)) rfl hdg rfl hn hbytes hcells hslots fun cA kA comp f1 f2 f3 f4 => ?_
  obtain ⟨kA', comp', g1, g2, g3, g4⟩ := (hK.1.2 _ _ hids).2
  have hcA : cA = G.2.1 (kk0 - 7) := Option.some.inj (f1.symm.trans g4)
  generalize hH1 : H.push ({ cls := cA, slots := Array.replicate n.toNatClampNeg .null, vm := .none } : Cell) = H1
  have z1 : H1.size = H.size + 1 := by rw [← hH1, Array.size_push]
  have e1 : H1[H.size]? = some (arrV cA n.toNatClampNeg (fun _ => .null)) := by rw [← hH1, Array.getElem?_push_size, ← arrV_new]
  have o1 : ∀ q : Nat, q < H.size → H1[q]? = H[q]? := fun q hq => by rw [← hH1, Array.getElem?_push, if_neg (Nat.ne_of_lt hq)]
  rw [hz] at e1
  rw [hz]
  refine kk H1 (mm_push hM hN7 hz o1 ?_) (mm_S1 hS rfl z1 o1) (by rw [z1, hz]; omega)
  rw [hT, hcell]
  show H1[mm_lo G + N]? = some (vp_cell (G.2.1 (kk0 - 7)) _)
  rw [vp_cell_q, e1, hcA]
  rfl
/-- a reference into an array of references -/
theorem mm_ast (C : mm_C G p s m args meth c own cc nL ret) (hM : mm_P G R N M H) (hS : va_S (mm_A G) s.heap H locs) (ho : o < N) {k n : Nat} (hT : kT o = (k, n)) {v ci : Nat} {r : vw_C} (hc : vwCl[ci]? = some r) (hids : (mm_tys G)[k - 7]? = some (G.2.1 (k - 7), .object r.1)) (hcell : ∀ (I : Nat → Int32) (L : Nat → Int64) (Rf : Nat → Option Nat), mm_e G I L Rf (k, n) = .inl (G.2.1 (k - 7), (n, .inr (.inr (.inr (.inr (fun j => (Rf j).map (fun a => mm_lo G + a)))))))) (hv : v < N) {vs : List Value} (hev : mm_en G R M v = .inr (ci, vs)) {i : Int32} (hin : vp_in i n) (hdg : decode cc pc = .ok (.aastore, 1))
    (kk : ∀ (H1 : Heap) (locs1 : List Loc), mm_P G (sR R o i.toNatClampNeg (some v)) N M H1 → va_S (mm_A G) s.heap H1 locs1 → H1.size = H.size → W p l e Rm s m args below meth c H1 locs1 cells slots Q (F0 m (pc + 1) ls rest)) : W p l e Rm s m args below meth c H locs cells slots Q (F0 m pc ls (.ref (mm_lo G + v) :: .int i :: .ref (mm_lo G + o) :: rest)) := by
  obtain ⟨hx, hb, -, hts, hown, -, -, hK, -⟩ := C
  have hlt : i.toNatClampNeg < n := Nat.not_le.mp fun q => hin (Or.inr q)
  have h0 : ¬ i < 0 := fun q => hin (Or.inl q)
  have hP0 := hM.1 o _ (mm_Wg ho)
  have e0 : mm_en G R M o = .inl (G.2.1 (k - 7), (n, .inr (.inr (.inr (.inr (fun j => (R o j).map (fun a => mm_lo G + a))))))) := by unfold mm_en; rw [hT]; exact hcell _ _ _
  have e1 : mm_en G (sR R o i.toNatClampNeg (some v)) M o = .inl (G.2.1 (k - 7), (n, .inr (.inr (.inr (.inr (fun j => (if j = i.toNatClampNeg then some v else R o j).map (fun a => mm_lo G + a))))))) := by unfold mm_en; rw [hT, hcell, sR_at]
  rw [e0] at hP0
  have hPv := hM.1 v _ (mm_Wg hv)
  rw [hev] at hPv
  obtain ⟨r', hr', cellV, g1, g2, g3, -⟩ := hPv
  have hcls := (hK.1.1 ci r hc).2
  obtain ⟨kA, comp, k1, k2, k3, -⟩ := (hK.1.2 _ _ hids).2
  have hcomp : comp = G.1.1 ci := Option.some.inj (k3.symm.trans hcls.1)
  subst hcomp
  obtain ⟨kC, hkC, -⟩ := hcls.2
  refine W.aast hx hb hP0 (fun q h => by cases h) (fun h => by cases h) k1 k2 rfl hkC ⟨h0, by show _ < (arrV _ _ _).slots.size; rw [arrV_size]; exact hlt⟩ g1 (fun q h => by rw [g3] at h; cases h) (by rw [g2]; exact hkC) (by rw [g2]; exact va_assign hcls) rfl rfl hdg fun H1 e z oq => ?_
  refine kk H1 _ (mm_upd hM oq ?_ mm_en_R) (hS.put z oq (mm_Ai (Nat.lt_of_lt_of_le ho hM.2))) z
  rw [e1]
  show H1[mm_lo G + o]? = some (vp_cell _ _)
  rw [e, vp_cell_q, vp_cell_q, arrV_store]
  congr 2
  funext q
  by_cases hq : q = i.toNatClampNeg
  · simp [updV, hq, va_rf]
  · simp [updV, hq]
theorem mm_objInit (C : mm_C G p s m args meth c own cc nL ret) {idx a : Nat} (hl : ls.size = nL) (hlink : Cond.methodLink own idx objectInit ∈ mm_good) (hinst : Cond.instanceMethod objectInit ∈ mm_good) (hcode : Cond.code objectInit ⟨#[0xb1]⟩ 1 none ∈ mm_good) (hfr : 1 ≤ Rm.frames) (hlo : (rest.map fun v => v.category).sum + 12 ≤ Rm.locals) (hdg : decode cc pc = .ok (.invokespecial idx, 3)) (kk : W p l e Rm s m args below meth c H locs cells slots Q (F0 m (pc + 3) ls rest)) : W p l e Rm s m args below meth c H locs cells slots Q (F0 m pc ls (.ref a :: rest)) := by
  obtain ⟨hx, hb, -, hts, hown, hml, -, hK, -⟩ := C
  exact W.objInit hx hb hown (hts _ hlink) (hts _ hinst) (hts _ hcode) rfl (by rw [hml]; exact hl) rfl hdg hfr (by show 2 * 0 + _ + 12 ≤ _; omega) kk
variable {y : MethodName} {bytes : ByteArray} {maxL n index mc ms : Nat} {rm : Room} {w1 : mm_Ws} {st : List Value}
theorem mm_toBc (C : mm_C G p s m args meth c own cc nL ret) (hz : H.size = mm_lo G + N) (hM : mm_P G R N M H) (hS : va_S (mm_A G) s.heap H locs) {U : State} (hU : U.heap = H) (hW : s.WarmedH U.vm) : mm_Bc G (R, N, M) U := ⟨by rw [hU]; exact hz, mm_toB C hM hS hU hW⟩
/-- a maker is called, by a link of its own or between nest mates -/
theorem mm_runI (C : mm_C G p s m args meth c own cc nL ret) (hz : H.size = mm_lo G + N) (hM : mm_P G R N M H) (hS : va_S (mm_A G) s.heap H locs) (hcal : Met l y (mm_ws y bytes maxL none) rm (va_Pc [.ref (mm_lo G + o)] (mm_Bc G (R, N, M))) (mm_Qc G w1) mc ms (mm_A G)) (hcode : Cond.code y bytes maxL none ∈ mm_good) (hini : Cond.initialized y.cls ∈ mm_good) (hinst : Cond.instanceMethod y ∈ mm_good) (hy1 : y.name = "<init>") (hd : y.cls ≠ "java/lang/invoke/MethodHandle" ∧ y.cls ≠ "java/lang/invoke/VarHandle" ∧ (parseMethodDescriptor y.desc).map (fun d => d.parameters.length) = some 0) (hrc : rm.cells = mc) (hrs : rm.slots = ms) (hR : rm.frames + 1 ≤ Rm.frames ∧ 8 + (maxL + 11) + rm.locals ≤ Rm.locals) (hlink : Cond.methodLink own index y ∈ mm_good ∨ ∃ host : String, Cond.methodLinkNest own index y host ∈ lw_tbl)
    (hl : ls.size = nL) (hroom : (rest.map fun v => v.category).sum ≤ 8) (hf : cells + mc ≤ Rm.cells ∧ slots + ms ≤ Rm.slots) (hdg : decode cc pc = .ok (.invokespecial index, 3))
    (kk : ∀ (H1 : Heap) (locs1 : List Loc), mm_P G w1.1 w1.2.1 w1.2.2 H1 → va_S (mm_A G) s.heap H1 locs1 → H1.size = mm_lo G + w1.2.1 → W p l e Rm s m args below meth c H1 locs1 (cells + mc) (slots + ms) Q (F0 m (pc + 3) ls rest)) : W p l e Rm s m args below meth c H locs cells slots Q (F0 m pc ls (.ref (mm_lo G + o) :: rest)) := by
  obtain ⟨hx, hb, -, hts, hown, hml, -, hK, -⟩ := id C
  have hpre : PreS s H (va_Pc [.ref (mm_lo G + o)] (mm_Bc G (R, N, M))) [.ref (mm_lo G + o)] := ⟨mm_blindc, fun U hU hW => ⟨rfl, mm_toBc C hz hM hS hU hW⟩⟩
  have fin : ∀ {a : Array Value}, va_Run p l e Rm s m args below meth c H locs cells slots mc ms (F0 m pc ls (.ref (mm_lo G + o) :: rest)) rest (mm_Qc G w1 a) (mm_A G) → W p l e Rm s m args below meth c H locs cells slots Q (F0 m pc ls (.ref (mm_lo G + o) :: rest)) := by
    intro a hr
    exact va_callv hr hS (fun _ _ h => h) (fun _ h => h) (fun u t H1 locs1 ht _ _ hB _ _ hS1 => by subst ht; exact kk _ locs1 hB.2.1 hS1 hB.1)
  rcases hlink with hlink | ⟨host, hlink⟩
  · exact fin (va_runI (As := []) (rest := rest) ⟨hx, hb, hml, hown, hts⟩ hcal (cwI 0 hts (mm_gws hcode) rfl hrc hrs (hts _ hini) (hts _ hlink) (hts _ hinst) hy1 hd hR) hpre rfl rfl hl rfl (lv_room hroom) hdg hf)
  · exact fin (va_runIN (As := []) (rest := rest) ⟨hx, hb, hml, hown, hts⟩ hcal ⟨va_cnB 0 hts (mm_gws hcode) rfl hrc hrs (hK.2.2.1 _ _ _ _ hlink) (hts _ hini) hd hR, hy1, hts _ hinst⟩ hpre rfl rfl hl rfl (lv_room hroom) hdg hf)
end MMM
theorem st1 {N' N d N0 cl : Nat} (e : N' = N + d) (h : N = N0 + cl) : N' = N0 + (cl + d) := by omega
theorem st2 {o N' N d : Nat} (h : o < N) (e : N' = N + d) : o < N' := by omega
theorem st3 {N' N : Nat} (e : N' = N + 1) : N < N' := by omega
theorem st4 {N N0 cl mc : Nat} (g : N < N0 + mc) (h : N = N0 + cl) : cl + 1 ≤ mc := by omega
theorem st5 {Z Z0 sl n ms : Nat} (g : Z + n ≤ Z0 + ms) (h : Z = Z0 + sl) : sl + n ≤ ms := by omega
theorem st6 {N N0 cl mc : Nat} (g : N = N0 + mc) (h : N = N0 + cl) : cl = mc := by omega
end
