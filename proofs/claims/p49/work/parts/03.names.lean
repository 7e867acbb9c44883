def RX0 : String := "SlipArchive$1"
def TX0 : u_T := fun k => match k with
  | _ => ("", "", "", false)
def tyX0 : Nat → FieldType := fun k => match k with
  | _ => .int
abbrev wsX00 : List Cond := u_ws RX0 TX0 0
theorem nmX0 : ∀ a, a < 0 → ∀ b, b < 0 → a ≠ b → (TX0 a).2.1 ≠ (TX0 b).2.1 := by decide +kernel
theorem tyX0_ok : ∀ k, k < 0 → parseFieldDescriptor (TX0 k).2.2.1 = some (tyX0 k) := by decide +kernel
def RX1 : String := "SlipArchive$History"
def TX1 : u_T := fun k => match k with
  | 0 => ("SlipArchive$History", "slots", "[LSlipArchive$Stacks;", true)
  | 1 => ("SlipArchive$History", "first", "I", false)
  | _ => ("SlipArchive$History", "count", "I", false)
def tyX1 : Nat → FieldType := fun k => match k with
  | 0 => .array (.object "SlipArchive$Stacks")
  | 1 => .int
  | _ => .int
abbrev wsX10 : List Cond := u_ws RX1 TX1 3
theorem nmX1 : ∀ a, a < 3 → ∀ b, b < 3 → a ≠ b → (TX1 a).2.1 ≠ (TX1 b).2.1 := by decide +kernel
theorem tyX1_ok : ∀ k, k < 3 → parseFieldDescriptor (TX1 k).2.2.1 = some (tyX1 k) := by decide +kernel
abbrev cX1_init : ByteArray := prog_3_method_1_code
def yX1_init : MethodName := ⟨RX1, "<init>", "()V"⟩
abbrev cX1_count : ByteArray := prog_3_method_2_code
def yX1_count : MethodName := ⟨RX1, "count", "()I"⟩
abbrev cX1_clear : ByteArray := prog_3_method_3_code
def yX1_clear : MethodName := ⟨RX1, "clear", "()V"⟩
abbrev cX1_prepare : ByteArray := prog_3_method_4_code
def yX1_prepare : MethodName := ⟨RX1, "prepare", "(LSlipArchive$Stacks;)V"⟩
abbrev cX1_keep : ByteArray := prog_3_method_5_code
def yX1_keep : MethodName := ⟨RX1, "keep", "()V"⟩
abbrev cX1_takeBack : ByteArray := prog_3_method_6_code
def yX1_takeBack : MethodName := ⟨RX1, "takeBack", "(LSlipArchive$Stacks;)Z"⟩
abbrev cX1_slotBehindKept : ByteArray := prog_3_method_7_code
def yX1_slotBehindKept : MethodName := ⟨RX1, "slotBehindKept", "()LSlipArchive$Stacks;"⟩
def RX2 : String := "SlipArchive$Line"
def TX2 : u_T := fun k => match k with
  | 0 => ("SlipArchive$Line", "items", "[I", true)
  | _ => ("SlipArchive$Line", "count", "I", false)
def tyX2 : Nat → FieldType := fun k => match k with
  | 0 => .array .int
  | _ => .int
abbrev wsX20 : List Cond := u_ws RX2 TX2 2
theorem nmX2 : ∀ a, a < 2 → ∀ b, b < 2 → a ≠ b → (TX2 a).2.1 ≠ (TX2 b).2.1 := by decide +kernel
theorem tyX2_ok : ∀ k, k < 2 → parseFieldDescriptor (TX2 k).2.2.1 = some (tyX2 k) := by decide +kernel
abbrev cX2_init : ByteArray := prog_4_method_1_code
def yX2_init : MethodName := ⟨RX2, "<init>", "(I)V"⟩
abbrev cX2_count : ByteArray := prog_4_method_2_code
def yX2_count : MethodName := ⟨RX2, "count", "()I"⟩
abbrev cX2_get : ByteArray := prog_4_method_3_code
def yX2_get : MethodName := ⟨RX2, "get", "(I)I"⟩
abbrev cX2_set : ByteArray := prog_4_method_4_code
def yX2_set : MethodName := ⟨RX2, "set", "(II)V"⟩
abbrev cX2_raise : ByteArray := prog_4_method_5_code
def yX2_raise : MethodName := ⟨RX2, "raise", "(II)V"⟩
abbrev cX2_add : ByteArray := prog_4_method_6_code
def yX2_add : MethodName := ⟨RX2, "add", "(I)V"⟩
abbrev cX2_insert : ByteArray := prog_4_method_7_code
def yX2_insert : MethodName := ⟨RX2, "insert", "(II)V"⟩
abbrev cX2_removeAt : ByteArray := prog_4_method_8_code
def yX2_removeAt : MethodName := ⟨RX2, "removeAt", "(I)V"⟩
abbrev cX2_placeOf : ByteArray := prog_4_method_9_code
def yX2_placeOf : MethodName := ⟨RX2, "placeOf", "(I)I"⟩
abbrev cX2_countOf : ByteArray := prog_4_method_10_code
def yX2_countOf : MethodName := ⟨RX2, "countOf", "(I)I"⟩
abbrev cX2_clear : ByteArray := prog_4_method_11_code
def yX2_clear : MethodName := ⟨RX2, "clear", "()V"⟩
abbrev cX2_fillWithZeros : ByteArray := prog_4_method_12_code
def yX2_fillWithZeros : MethodName := ⟨RX2, "fillWithZeros", "(I)V"⟩
abbrev cX2_copyFrom : ByteArray := prog_4_method_13_code
def yX2_copyFrom : MethodName := ⟨RX2, "copyFrom", "(LSlipArchive$Line;)V"⟩
def RX3 : String := "SlipArchive$Order"
def TX3 : u_T := fun k => match k with
  | _ => ("", "", "", false)
def tyX3 : Nat → FieldType := fun k => match k with
  | _ => .int
abbrev wsX30 : List Cond := u_ws RX3 TX3 0
theorem nmX3 : ∀ a, a < 0 → ∀ b, b < 0 → a ≠ b → (TX3 a).2.1 ≠ (TX3 b).2.1 := by decide +kernel
theorem tyX3_ok : ∀ k, k < 0 → parseFieldDescriptor (TX3 k).2.2.1 = some (tyX3 k) := by decide +kernel
def RX4 : String := "SlipArchive$Parser"
def TX4 : u_T := fun k => match k with
  | 0 => ("SlipArchive$Parser", "tokens", "LSlipArchive$Tokens;", true)
  | 1 => ("SlipArchive$Parser", "error", "I", false)
  | _ => ("SlipArchive$Parser", "errorAt", "I", false)
def tyX4 : Nat → FieldType := fun k => match k with
  | 0 => .object "SlipArchive$Tokens"
  | 1 => .int
  | _ => .int
abbrev wsX40 : List Cond := u_ws RX4 TX4 3
theorem nmX4 : ∀ a, a < 3 → ∀ b, b < 3 → a ≠ b → (TX4 a).2.1 ≠ (TX4 b).2.1 := by decide +kernel
theorem tyX4_ok : ∀ k, k < 3 → parseFieldDescriptor (TX4 k).2.2.1 = some (tyX4 k) := by decide +kernel
abbrev cX4_init : ByteArray := prog_6_method_1_code
def yX4_init : MethodName := ⟨RX4, "<init>", "(LSlipArchive$Line;)V"⟩
abbrev cX4_errorPlace : ByteArray := prog_6_method_2_code
def yX4_errorPlace : MethodName := ⟨RX4, "errorPlace", "()I"⟩
abbrev cX4_readArchive : ByteArray := prog_6_method_3_code
def yX4_readArchive : MethodName := ⟨RX4, "readArchive", "(ILSlipArchive$Stacks;)I"⟩
abbrev cX4_begin : ByteArray := prog_6_method_5_code
def yX4_begin : MethodName := ⟨RX4, "begin", "(I)V"⟩
abbrev cX4_readHead : ByteArray := prog_6_method_6_code
def yX4_readHead : MethodName := ⟨RX4, "readHead", "(LSlipArchive$Stacks;)Z"⟩
abbrev cX4_readFolder : ByteArray := prog_6_method_7_code
def yX4_readFolder : MethodName := ⟨RX4, "readFolder", "(LSlipArchive$Stacks;)Z"⟩
abbrev cX4_readNumber : ByteArray := prog_6_method_10_code
def yX4_readNumber : MethodName := ⟨RX4, "readNumber", "(II)Z"⟩
abbrev cX4_isEnded : ByteArray := prog_6_method_11_code
def yX4_isEnded : MethodName := ⟨RX4, "isEnded", "()Z"⟩
abbrev cX4_fail : ByteArray := prog_6_method_12_code
def yX4_fail : MethodName := ⟨RX4, "fail", "(I)Z"⟩
def RX5 : String := "SlipArchive$Row"
def TX5 : u_T := fun k => match k with
  | 0 => ("SlipArchive$Row", "folders", "LSlipArchive$Line;", true)
  | 1 => ("SlipArchive$Row", "looked", "LSlipArchive$Line;", true)
  | 2 => ("SlipArchive$Row", "runs", "LSlipArchive$Line;", true)
  | _ => ("SlipArchive$Row", "marks", "LSlipArchive$Line;", true)
def tyX5 : Nat → FieldType := fun k => match k with
  | 0 => .object "SlipArchive$Line"
  | 1 => .object "SlipArchive$Line"
  | 2 => .object "SlipArchive$Line"
  | _ => .object "SlipArchive$Line"
abbrev wsX50 : List Cond := u_ws RX5 TX5 4
theorem nmX5 : ∀ a, a < 4 → ∀ b, b < 4 → a ≠ b → (TX5 a).2.1 ≠ (TX5 b).2.1 := by decide +kernel
theorem tyX5_ok : ∀ k, k < 4 → parseFieldDescriptor (TX5 k).2.2.1 = some (tyX5 k) := by decide +kernel
abbrev cX5_init : ByteArray := prog_7_method_1_code
def yX5_init : MethodName := ⟨RX5, "<init>", "(LSlipArchive$Line;)V"⟩
abbrev cX5_markAt : ByteArray := prog_7_method_2_code
def yX5_markAt : MethodName := ⟨RX5, "markAt", "(I)I"⟩
abbrev cX5_halve : ByteArray := prog_7_method_3_code
def yX5_halve : MethodName := ⟨RX5, "halve", "(I)I"⟩
abbrev cX5_placeBehindMiss : ByteArray := prog_7_method_4_code
def yX5_placeBehindMiss : MethodName := ⟨RX5, "placeBehindMiss", "(I)I"⟩
abbrev cX5_missedByHalving : ByteArray := prog_7_method_5_code
def yX5_missedByHalving : MethodName := ⟨RX5, "missedByHalving", "()I"⟩
abbrev cX5_isWrong : ByteArray := prog_7_method_6_code
def yX5_isWrong : MethodName := ⟨RX5, "isWrong", "(I)Z"⟩
abbrev cX5_wrongPairs : ByteArray := prog_7_method_7_code
def yX5_wrongPairs : MethodName := ⟨RX5, "wrongPairs", "()I"⟩
abbrev cX5_pairsInWrongOrder : ByteArray := prog_7_method_8_code
def yX5_pairsInWrongOrder : MethodName := ⟨RX5, "pairsInWrongOrder", "()I"⟩
abbrev cX5_longestRun : ByteArray := prog_7_method_9_code
def yX5_longestRun : MethodName := ⟨RX5, "longestRun", "()I"⟩
abbrev cX5_placeInOrder : ByteArray := prog_7_method_10_code
def yX5_placeInOrder : MethodName := ⟨RX5, "placeInOrder", "(I)I"⟩
abbrev cX5_farthestFromOrder : ByteArray := prog_7_method_11_code
def yX5_farthestFromOrder : MethodName := ⟨RX5, "farthestFromOrder", "()I"⟩
abbrev cX5_moveTo : ByteArray := prog_7_method_12_code
def yX5_moveTo : MethodName := ⟨RX5, "moveTo", "(II)I"⟩
abbrev cX5_moveToOrder : ByteArray := prog_7_method_13_code
def yX5_moveToOrder : MethodName := ⟨RX5, "moveToOrder", "(I)I"⟩
abbrev cX5_swapWrongPairs : ByteArray := prog_7_method_14_code
def yX5_swapWrongPairs : MethodName := ⟨RX5, "swapWrongPairs", "(I)I"⟩
abbrev cX5_firstWrong : ByteArray := prog_7_method_15_code
def yX5_firstWrong : MethodName := ⟨RX5, "firstWrong", "()I"⟩
def RX6 : String := "SlipArchive$Script"
def TX6 : u_T := fun k => match k with
  | 0 => ("SlipArchive$Script", "orders", "[LSlipArchive$Order;", true)
  | 1 => ("SlipArchive$Script", "firsts", "LSlipArchive$Line;", true)
  | _ => ("SlipArchive$Script", "seconds", "LSlipArchive$Line;", true)
def tyX6 : Nat → FieldType := fun k => match k with
  | 0 => .array (.object "SlipArchive$Order")
  | 1 => .object "SlipArchive$Line"
  | _ => .object "SlipArchive$Line"
abbrev wsX60 : List Cond := u_ws RX6 TX6 3
theorem nmX6 : ∀ a, a < 3 → ∀ b, b < 3 → a ≠ b → (TX6 a).2.1 ≠ (TX6 b).2.1 := by decide +kernel
theorem tyX6_ok : ∀ k, k < 3 → parseFieldDescriptor (TX6 k).2.2.1 = some (tyX6 k) := by decide +kernel
abbrev cX6_init : ByteArray := prog_8_method_1_code
def yX6_init : MethodName := ⟨RX6, "<init>", "()V"⟩
def RX7 : String := "SlipArchive$Slips"
def TX7 : u_T := fun k => match k with
  | 0 => ("SlipArchive$Slips", "readers", "LSlipArchive$Line;", true)
  | 1 => ("SlipArchive$Slips", "folders", "LSlipArchive$Line;", true)
  | 2 => ("SlipArchive$Slips", "dates", "LSlipArchive$Line;", true)
  | _ => ("SlipArchive$Slips", "tries", "LSlipArchive$Line;", true)
def tyX7 : Nat → FieldType := fun k => match k with
  | 0 => .object "SlipArchive$Line"
  | 1 => .object "SlipArchive$Line"
  | 2 => .object "SlipArchive$Line"
  | _ => .object "SlipArchive$Line"
abbrev wsX70 : List Cond := u_ws RX7 TX7 4
theorem nmX7 : ∀ a, a < 4 → ∀ b, b < 4 → a ≠ b → (TX7 a).2.1 ≠ (TX7 b).2.1 := by decide +kernel
theorem tyX7_ok : ∀ k, k < 4 → parseFieldDescriptor (TX7 k).2.2.1 = some (tyX7 k) := by decide +kernel
abbrev cX7_init : ByteArray := prog_9_method_1_code
def yX7_init : MethodName := ⟨RX7, "<init>", "()V"⟩
abbrev cX7_count : ByteArray := prog_9_method_2_code
def yX7_count : MethodName := ⟨RX7, "count", "()I"⟩
abbrev cX7_has : ByteArray := prog_9_method_3_code
def yX7_has : MethodName := ⟨RX7, "has", "(I)Z"⟩
abbrev cX7_add : ByteArray := prog_9_method_4_code
def yX7_add : MethodName := ⟨RX7, "add", "(III)V"⟩
abbrev cX7_removeAt : ByteArray := prog_9_method_5_code
def yX7_removeAt : MethodName := ⟨RX7, "removeAt", "(I)V"⟩
abbrev cX7_placeFor : ByteArray := prog_9_method_6_code
def yX7_placeFor : MethodName := ⟨RX7, "placeFor", "(II)I"⟩
abbrev cX7_clear : ByteArray := prog_9_method_7_code
def yX7_clear : MethodName := ⟨RX7, "clear", "()V"⟩
abbrev cX7_copyFrom : ByteArray := prog_9_method_8_code
def yX7_copyFrom : MethodName := ⟨RX7, "copyFrom", "(LSlipArchive$Slips;)V"⟩
def RX8 : String := "SlipArchive$Stacks"
def TX8 : u_T := fun k => match k with
  | 0 => ("SlipArchive$Stacks", "day", "I", false)
  | 1 => ("SlipArchive$Stacks", "period", "I", false)
  | 2 => ("SlipArchive$Stacks", "hands", "I", false)
  | 3 => ("SlipArchive$Stacks", "limit", "I", false)
  | 4 => ("SlipArchive$Stacks", "marks", "LSlipArchive$Line;", true)
  | 5 => ("SlipArchive$Stacks", "embargoes", "LSlipArchive$Line;", true)
  | 6 => ("SlipArchive$Stacks", "states", "LSlipArchive$Line;", true)
  | 7 => ("SlipArchive$Stacks", "holders", "LSlipArchive$Line;", true)
  | 8 => ("SlipArchive$Stacks", "lent", "LSlipArchive$Line;", true)
  | 9 => ("SlipArchive$Stacks", "having", "LSlipArchive$Line;", true)
  | 10 => ("SlipArchive$Stacks", "received", "LSlipArchive$Line;", true)
  | 11 => ("SlipArchive$Stacks", "row", "LSlipArchive$Row;", true)
  | 12 => ("SlipArchive$Stacks", "trolley", "LSlipArchive$Line;", true)
  | 13 => ("SlipArchive$Stacks", "slips", "LSlipArchive$Slips;", true)
  | _ => ("SlipArchive$Stacks", "accounts", "LSlipArchive$Line;", true)
def tyX8 : Nat → FieldType := fun k => match k with
  | 0 => .int
  | 1 => .int
  | 2 => .int
  | 3 => .int
  | 4 => .object "SlipArchive$Line"
  | 5 => .object "SlipArchive$Line"
  | 6 => .object "SlipArchive$Line"
  | 7 => .object "SlipArchive$Line"
  | 8 => .object "SlipArchive$Line"
  | 9 => .object "SlipArchive$Line"
  | 10 => .object "SlipArchive$Line"
  | 11 => .object "SlipArchive$Row"
  | 12 => .object "SlipArchive$Line"
  | 13 => .object "SlipArchive$Slips"
  | _ => .object "SlipArchive$Line"
abbrev wsX80 : List Cond := u_ws RX8 TX8 15
theorem nmX8 : ∀ a, a < 15 → ∀ b, b < 15 → a ≠ b → (TX8 a).2.1 ≠ (TX8 b).2.1 := by decide +kernel
theorem tyX8_ok : ∀ k, k < 15 → parseFieldDescriptor (TX8 k).2.2.1 = some (tyX8 k) := by decide +kernel
abbrev cX8_init : ByteArray := prog_10_method_1_code
def yX8_init : MethodName := ⟨RX8, "<init>", "()V"⟩
abbrev cX8_begin : ByteArray := prog_10_method_2_code
def yX8_begin : MethodName := ⟨RX8, "begin", "(IIII)V"⟩
abbrev cX8_addFolder : ByteArray := prog_10_method_3_code
def yX8_addFolder : MethodName := ⟨RX8, "addFolder", "(II)V"⟩
abbrev cX8_copyFrom : ByteArray := prog_10_method_4_code
def yX8_copyFrom : MethodName := ⟨RX8, "copyFrom", "(LSlipArchive$Stacks;)V"⟩
abbrev cX8_hasFolder : ByteArray := prog_10_method_5_code
def yX8_hasFolder : MethodName := ⟨RX8, "hasFolder", "(I)Z"⟩
abbrev cX8_hasReader : ByteArray := prog_10_method_6_code
def yX8_hasReader : MethodName := ⟨RX8, "hasReader", "(I)Z"⟩
abbrev cX8_isClosed : ByteArray := prog_10_method_7_code
def yX8_isClosed : MethodName := ⟨RX8, "isClosed", "(I)Z"⟩
abbrev cX8_whereabouts : ByteArray := prog_10_method_8_code
def yX8_whereabouts : MethodName := ⟨RX8, "whereabouts", "(I)I"⟩
abbrev cX8_isRefilingDay : ByteArray := prog_10_method_9_code
def yX8_isRefilingDay : MethodName := ⟨RX8, "isRefilingDay", "()Z"⟩
abbrev cX8_daysToRefiling : ByteArray := prog_10_method_10_code
def yX8_daysToRefiling : MethodName := ⟨RX8, "daysToRefiling", "()I"⟩
abbrev cX8_idleness : ByteArray := prog_10_method_11_code
def yX8_idleness : MethodName := ⟨RX8, "idleness", "(I)I"⟩
abbrev cX8_foldersAstray : ByteArray := prog_10_method_12_code
def yX8_foldersAstray : MethodName := ⟨RX8, "foldersAstray", "()I"⟩
abbrev cX8_readersAboveLimit : ByteArray := prog_10_method_13_code
def yX8_readersAboveLimit : MethodName := ⟨RX8, "readersAboveLimit", "()I"⟩
abbrev cX8_slipsForOwnFolders : ByteArray := prog_10_method_14_code
def yX8_slipsForOwnFolders : MethodName := ⟨RX8, "slipsForOwnFolders", "()I"⟩
abbrev cX8_refusal : ByteArray := prog_10_method_15_code
def yX8_refusal : MethodName := ⟨RX8, "refusal", "(II)I"⟩
abbrev cX8_handIn : ByteArray := prog_10_method_16_code
def yX8_handIn : MethodName := ⟨RX8, "handIn", "(II)I"⟩
abbrev cX8_takeAway : ByteArray := prog_10_method_17_code
def yX8_takeAway : MethodName := ⟨RX8, "takeAway", "(I)I"⟩
abbrev cX8_bringBack : ByteArray := prog_10_method_18_code
def yX8_bringBack : MethodName := ⟨RX8, "bringBack", "(I)I"⟩
abbrev cX8_closeUntil : ByteArray := prog_10_method_19_code
def yX8_closeUntil : MethodName := ⟨RX8, "closeUntil", "(II)I"⟩
abbrev cX8_swapNeighbours : ByteArray := prog_10_method_20_code
def yX8_swapNeighbours : MethodName := ⟨RX8, "swapNeighbours", "(I)I"⟩
abbrev cX8_passDays : ByteArray := prog_10_method_21_code
def yX8_passDays : MethodName := ⟨RX8, "passDays", "(II)I"⟩
abbrev cX8_nextDay : ByteArray := prog_10_method_22_code
def yX8_nextDay : MethodName := ⟨RX8, "nextDay", "()I"⟩
abbrev cX8_refileTrolley : ByteArray := prog_10_method_23_code
def yX8_refileTrolley : MethodName := ⟨RX8, "refileTrolley", "()V"⟩
abbrev cX8_isFoundFor : ByteArray := prog_10_method_24_code
def yX8_isFoundFor : MethodName := ⟨RX8, "isFoundFor", "(I)Z"⟩
abbrev cX8_serve : ByteArray := prog_10_method_25_code
def yX8_serve : MethodName := ⟨RX8, "serve", "(I)V"⟩
def RX9 : String := "SlipArchive$Tokens"
def TX9 : u_T := fun k => match k with
  | 0 => ("SlipArchive$Tokens", "bytes", "LSlipArchive$Line;", true)
  | 1 => ("SlipArchive$Tokens", "length", "I", false)
  | 2 => ("SlipArchive$Tokens", "position", "I", false)
  | 3 => ("SlipArchive$Tokens", "start", "I", false)
  | 4 => ("SlipArchive$Tokens", "kind", "I", false)
  | _ => ("SlipArchive$Tokens", "value", "I", false)
def tyX9 : Nat → FieldType := fun k => match k with
  | 0 => .object "SlipArchive$Line"
  | 1 => .int
  | 2 => .int
  | 3 => .int
  | 4 => .int
  | _ => .int
abbrev wsX90 : List Cond := u_ws RX9 TX9 6
theorem nmX9 : ∀ a, a < 6 → ∀ b, b < 6 → a ≠ b → (TX9 a).2.1 ≠ (TX9 b).2.1 := by decide +kernel
theorem tyX9_ok : ∀ k, k < 6 → parseFieldDescriptor (TX9 k).2.2.1 = some (tyX9 k) := by decide +kernel
abbrev cX9_init : ByteArray := prog_11_method_1_code
def yX9_init : MethodName := ⟨RX9, "<init>", "(LSlipArchive$Line;)V"⟩
abbrev cX9_begin : ByteArray := prog_11_method_2_code
def yX9_begin : MethodName := ⟨RX9, "begin", "(I)V"⟩
abbrev cX9_start : ByteArray := prog_11_method_3_code
def yX9_start : MethodName := ⟨RX9, "start", "()I"⟩
abbrev cX9_kind : ByteArray := prog_11_method_4_code
def yX9_kind : MethodName := ⟨RX9, "kind", "()I"⟩
abbrev cX9_value : ByteArray := prog_11_method_5_code
def yX9_value : MethodName := ⟨RX9, "value", "()I"⟩
abbrev cX9_next : ByteArray := prog_11_method_6_code
def yX9_next : MethodName := ⟨RX9, "next", "()V"⟩
abbrev cX9_isWord : ByteArray := prog_11_method_7_code
def yX9_isWord : MethodName := ⟨RX9, "isWord", "(Ljava/lang/String;)Z"⟩
abbrev cX9_readWord : ByteArray := prog_11_method_8_code
def yX9_readWord : MethodName := ⟨RX9, "readWord", "()V"⟩
abbrev cX9_readNumber : ByteArray := prog_11_method_9_code
def yX9_readNumber : MethodName := ⟨RX9, "readNumber", "()V"⟩
abbrev cX9_isBlank : ByteArray := prog_11_method_10_code
def yX9_isBlank : MethodName := ⟨RX9, "isBlank", "(I)Z"⟩
abbrev cX9_isLetter : ByteArray := prog_11_method_11_code
def yX9_isLetter : MethodName := ⟨RX9, "isLetter", "(I)Z"⟩
abbrev cX9_isDigit : ByteArray := prog_11_method_12_code
def yX9_isDigit : MethodName := ⟨RX9, "isDigit", "(I)Z"⟩
def RX10 : String := "SlipArchive"
def TX10 : u_T := fun k => match k with
  | 0 => ("SlipArchive", "buffer", "LSlipArchive$Line;", true)
  | 1 => ("SlipArchive", "formatted", "LSlipArchive$Line;", true)
  | 2 => ("SlipArchive", "lasting", "LSlipArchive$Line;", true)
  | 3 => ("SlipArchive", "parser", "LSlipArchive$Parser;", true)
  | 4 => ("SlipArchive", "script", "LSlipArchive$Script;", true)
  | 5 => ("SlipArchive", "history", "LSlipArchive$History;", true)
  | 6 => ("SlipArchive", "now", "LSlipArchive$Stacks;", true)
  | 7 => ("SlipArchive", "draft", "LSlipArchive$Stacks;", true)
  | 8 => ("SlipArchive", "snapshot", "LSlipArchive$Stacks;", true)
  | 9 => ("SlipArchive", "hasSnapshot", "Z", false)
  | _ => ("SlipArchive", "errorAt", "I", false)
def tyX10 : Nat → FieldType := fun k => match k with
  | 0 => .object "SlipArchive$Line"
  | 1 => .object "SlipArchive$Line"
  | 2 => .object "SlipArchive$Line"
  | 3 => .object "SlipArchive$Parser"
  | 4 => .object "SlipArchive$Script"
  | 5 => .object "SlipArchive$History"
  | 6 => .object "SlipArchive$Stacks"
  | 7 => .object "SlipArchive$Stacks"
  | 8 => .object "SlipArchive$Stacks"
  | 9 => .boolean
  | _ => .int
abbrev wsX100 : List Cond := u_ws RX10 TX10 11
theorem nmX10 : ∀ a, a < 11 → ∀ b, b < 11 → a ≠ b → (TX10 a).2.1 ≠ (TX10 b).2.1 := by decide +kernel
theorem tyX10_ok : ∀ k, k < 11 → parseFieldDescriptor (TX10 k).2.2.1 = some (tyX10 k) := by decide +kernel
abbrev cX10_init : ByteArray := prog_1_method_1_code
def yX10_init : MethodName := ⟨RX10, "<init>", "()V"⟩
abbrev cX10_feed : ByteArray := prog_1_method_2_code
def yX10_feed : MethodName := ⟨RX10, "feed", "(IIIII)I"⟩
abbrev cX10_appendBytes : ByteArray := prog_1_method_3_code
def yX10_appendBytes : MethodName := ⟨RX10, "appendBytes", "(I)V"⟩
abbrev cX10_load : ByteArray := prog_1_method_4_code
def yX10_load : MethodName := ⟨RX10, "load", "(I)I"⟩
abbrev cX10_size : ByteArray := prog_1_method_6_code
def yX10_size : MethodName := ⟨RX10, "size", "(I)I"⟩
abbrev cX10_account : ByteArray := prog_1_method_7_code
def yX10_account : MethodName := ⟨RX10, "account", "(I)I"⟩
abbrev cX10_folder : ByteArray := prog_1_method_8_code
def yX10_folder : MethodName := ⟨RX10, "folder", "(II)I"⟩
abbrev cX10_marked : ByteArray := prog_1_method_9_code
def yX10_marked : MethodName := ⟨RX10, "marked", "(I)I"⟩
abbrev cX10_at : ByteArray := prog_1_method_10_code
def yX10_at : MethodName := ⟨RX10, "at", "(I)I"⟩
abbrev cX10_reader : ByteArray := prog_1_method_11_code
def yX10_reader : MethodName := ⟨RX10, "reader", "(II)I"⟩
abbrev cX10_waiting : ByteArray := prog_1_method_12_code
def yX10_waiting : MethodName := ⟨RX10, "waiting", "(II)I"⟩
abbrev cX10_gap : ByteArray := prog_1_method_13_code
def yX10_gap : MethodName := ⟨RX10, "gap", "()I"⟩
abbrev cX10_found : ByteArray := prog_1_method_14_code
def yX10_found : MethodName := ⟨RX10, "found", "(I)I"⟩
abbrev cX10_looks : ByteArray := prog_1_method_15_code
def yX10_looks : MethodName := ⟨RX10, "looks", "(I)I"⟩
abbrev cX10_missed : ByteArray := prog_1_method_16_code
def yX10_missed : MethodName := ⟨RX10, "missed", "()I"⟩
abbrev cX10_refilePlace : ByteArray := prog_1_method_17_code
def yX10_refilePlace : MethodName := ⟨RX10, "refilePlace", "(I)I"⟩
abbrev cX10_inversions : ByteArray := prog_1_method_18_code
def yX10_inversions : MethodName := ⟨RX10, "inversions", "()I"⟩
abbrev cX10_longestOrdered : ByteArray := prog_1_method_19_code
def yX10_longestOrdered : MethodName := ⟨RX10, "longestOrdered", "()I"⟩
abbrev cX10_lookedAt : ByteArray := prog_1_method_20_code
def yX10_lookedAt : MethodName := ⟨RX10, "lookedAt", "(II)I"⟩
abbrev cX10_mostMisplaced : ByteArray := prog_1_method_21_code
def yX10_mostMisplaced : MethodName := ⟨RX10, "mostMisplaced", "()I"⟩
abbrev cX10_mostAsked : ByteArray := prog_1_method_22_code
def yX10_mostAsked : MethodName := ⟨RX10, "mostAsked", "()I"⟩
abbrev cX10_why : ByteArray := prog_1_method_23_code
def yX10_why : MethodName := ⟨RX10, "why", "(II)I"⟩
abbrev cX10_cause : ByteArray := prog_1_method_24_code
def yX10_cause : MethodName := ⟨RX10, "cause", "(II)I"⟩
abbrev cX10_waitsFor : ByteArray := prog_1_method_25_code
def yX10_waitsFor : MethodName := ⟨RX10, "waitsFor", "(I)I"⟩
abbrev cX10_servedIn : ByteArray := prog_1_method_26_code
def yX10_servedIn : MethodName := ⟨RX10, "servedIn", "(I)I"⟩
abbrev cX10_servedBy : ByteArray := prog_1_method_27_code
def yX10_servedBy : MethodName := ⟨RX10, "servedBy", "(I)I"⟩
abbrev cX10_waitingIn : ByteArray := prog_1_method_28_code
def yX10_waitingIn : MethodName := ⟨RX10, "waitingIn", "(I)I"⟩
abbrev cX10_swapsLeft : ByteArray := prog_1_method_30_code
def yX10_swapsLeft : MethodName := ⟨RX10, "swapsLeft", "()I"⟩
abbrev cX10_missedAfter : ByteArray := prog_1_method_31_code
def yX10_missedAfter : MethodName := ⟨RX10, "missedAfter", "(I)I"⟩
abbrev cX10_slip : ByteArray := prog_1_method_34_code
def yX10_slip : MethodName := ⟨RX10, "slip", "(II)I"⟩
abbrev cX10_dropSlip : ByteArray := prog_1_method_35_code
def yX10_dropSlip : MethodName := ⟨RX10, "dropSlip", "(I)I"⟩
abbrev cX10_giveBack : ByteArray := prog_1_method_36_code
def yX10_giveBack : MethodName := ⟨RX10, "giveBack", "(I)I"⟩
abbrev cX10_days : ByteArray := prog_1_method_37_code
def yX10_days : MethodName := ⟨RX10, "days", "(I)I"⟩
abbrev cX10_misfile : ByteArray := prog_1_method_38_code
def yX10_misfile : MethodName := ⟨RX10, "misfile", "(II)I"⟩
abbrev cX10_straighten : ByteArray := prog_1_method_39_code
def yX10_straighten : MethodName := ⟨RX10, "straighten", "(I)I"⟩
abbrev cX10_check : ByteArray := prog_1_method_40_code
def yX10_check : MethodName := ⟨RX10, "check", "(I)I"⟩
abbrev cX10_setEmbargo : ByteArray := prog_1_method_41_code
def yX10_setEmbargo : MethodName := ⟨RX10, "setEmbargo", "(II)I"⟩
abbrev cX10_settled : ByteArray := prog_1_method_43_code
def yX10_settled : MethodName := ⟨RX10, "settled", "(I)I"⟩
abbrev cX10_counted : ByteArray := prog_1_method_44_code
def yX10_counted : MethodName := ⟨RX10, "counted", "(I)I"⟩
abbrev cX10_undoCount : ByteArray := prog_1_method_49_code
def yX10_undoCount : MethodName := ⟨RX10, "undoCount", "()I"⟩
abbrev cX10_undo : ByteArray := prog_1_method_50_code
def yX10_undo : MethodName := ⟨RX10, "undo", "()I"⟩
abbrev cX10_saveSnapshot : ByteArray := prog_1_method_51_code
def yX10_saveSnapshot : MethodName := ⟨RX10, "saveSnapshot", "()V"⟩
abbrev cX10_restoreSnapshot : ByteArray := prog_1_method_52_code
def yX10_restoreSnapshot : MethodName := ⟨RX10, "restoreSnapshot", "()Z"⟩
def RX11 : String := "SlipArchiveModel"
def TX11 : u_T := fun k => match k with
  | _ => ("", "", "", false)
def tyX11 : Nat → FieldType := fun k => match k with
  | _ => .int
abbrev wsX110 : List Cond := u_ws RX11 TX11 0
theorem nmX11 : ∀ a, a < 0 → ∀ b, b < 0 → a ≠ b → (TX11 a).2.1 ≠ (TX11 b).2.1 := by decide +kernel
theorem tyX11_ok : ∀ k, k < 0 → parseFieldDescriptor (TX11 k).2.2.1 = some (tyX11 k) := by decide +kernel
def RJx145de : String := "java/io/Serializable"
def TJx145de : u_T := fun k => match k with
  | _ => ("", "", "", false)
def tyJx145de : Nat → FieldType := fun k => match k with
  | _ => .int
def RJ5 : String := "java/lang/AbstractStringBuilder"
def TJ5 : u_T := fun k => match k with
  | _ => ("", "", "", false)
def tyJ5 : Nat → FieldType := fun k => match k with
  | _ => .int
abbrev cJ5_init_a7421 : ByteArray := prog_15_method_3_code
def yJ5_init_a7421 : MethodName := ⟨RJ5, "<init>", "(Ljava/lang/String;)V"⟩
abbrev cJ5_length_8abf5 : ByteArray := prog_15_method_6_code
def yJ5_length_8abf5 : MethodName := ⟨RJ5, "length", "()I"⟩
abbrev cJ5_ensureCapacityInternal_d00df : ByteArray := prog_15_method_9_code
def yJ5_ensureCapacityInternal_d00df : MethodName := ⟨RJ5, "ensureCapacityInternal", "(I)V"⟩
abbrev cJ5_newCapacity_0f7a4 : ByteArray := prog_15_method_10_code
def yJ5_newCapacity_0f7a4 : MethodName := ⟨RJ5, "newCapacity", "(I)I"⟩
abbrev cJ5_inflate_da8c8 : ByteArray := prog_15_method_11_code
def yJ5_inflate_da8c8 : MethodName := ⟨RJ5, "inflate", "()V"⟩
abbrev cJ5_append_cf1ce : ByteArray := prog_15_method_22_code
def yJ5_append_cf1ce : MethodName := ⟨RJ5, "append", "(Ljava/lang/String;)Ljava/lang/AbstractStringBuilder;"⟩
abbrev cJ5_appendNull_278bc : ByteArray := prog_15_method_26_code
def yJ5_appendNull_278bc : MethodName := ⟨RJ5, "appendNull", "()Ljava/lang/AbstractStringBuilder;"⟩
abbrev cJ5_append_3fe6f : ByteArray := prog_15_method_31_code
def yJ5_append_3fe6f : MethodName := ⟨RJ5, "append", "(C)Ljava/lang/AbstractStringBuilder;"⟩
abbrev cJ5_append_c97b9 : ByteArray := prog_15_method_32_code
def yJ5_append_c97b9 : MethodName := ⟨RJ5, "append", "(I)Ljava/lang/AbstractStringBuilder;"⟩
abbrev cJ5_getValue_6d5f1 : ByteArray := prog_15_method_64_code
def yJ5_getValue_6d5f1 : MethodName := ⟨RJ5, "getValue", "()[B"⟩
abbrev cJ5_isLatin1_aae02 : ByteArray := prog_15_method_68_code
def yJ5_isLatin1_aae02 : MethodName := ⟨RJ5, "isLatin1", "()Z"⟩
abbrev cJ5_inflateIfNeededFor_a7421 : ByteArray := prog_15_method_71_code
def yJ5_inflateIfNeededFor_a7421 : MethodName := ⟨RJ5, "inflateIfNeededFor", "(Ljava/lang/String;)V"⟩
abbrev cJ5_putStringAt_47b60 : ByteArray := prog_15_method_73_code
def yJ5_putStringAt_47b60 : MethodName := ⟨RJ5, "putStringAt", "(ILjava/lang/String;)V"⟩
def RJx2cfe8 : String := "java/lang/Appendable"
def TJx2cfe8 : u_T := fun k => match k with
  | _ => ("", "", "", false)
def tyJx2cfe8 : Nat → FieldType := fun k => match k with
  | _ => .int
def RJx9f9b0 : String := "java/lang/CharSequence"
def TJx9f9b0 : u_T := fun k => match k with
  | _ => ("", "", "", false)
def tyJx9f9b0 : Nat → FieldType := fun k => match k with
  | _ => .int
def RJx8e188 : String := "java/lang/Cloneable"
def TJx8e188 : u_T := fun k => match k with
  | _ => ("", "", "", false)
def tyJx8e188 : Nat → FieldType := fun k => match k with
  | _ => .int
def RJxb160c : String := "java/lang/Comparable"
def TJxb160c : u_T := fun k => match k with
  | _ => ("", "", "", false)
def tyJxb160c : Nat → FieldType := fun k => match k with
  | _ => .int
def RJx29ce0 : String := "java/lang/Enum"
def TJx29ce0 : u_T := fun k => match k with
  | _ => ("", "", "", false)
def tyJx29ce0 : Nat → FieldType := fun k => match k with
  | _ => .int
def RJ6 : String := "java/lang/Integer"
def TJ6 : u_T := fun k => match k with
  | _ => ("", "", "", false)
def tyJ6 : Nat → FieldType := fun k => match k with
  | _ => .int
abbrev cJ6_getChars_ba4f3 : ByteArray := prog_22_method_12_code
def yJ6_getChars_ba4f3 : MethodName := ⟨RJ6, "getChars", "(II[B)I"⟩
abbrev cJ6_stringSize_0f7a4 : ByteArray := prog_22_method_13_code
def yJ6_stringSize_0f7a4 : MethodName := ⟨RJ6, "stringSize", "(I)I"⟩
def RJ9 : String := "java/lang/Math"
def TJ9 : u_T := fun k => match k with
  | _ => ("", "", "", false)
def tyJ9 : Nat → FieldType := fun k => match k with
  | _ => .int
abbrev cJ9_abs_0f7a4 : ByteArray := prog_23_method_59_code
def yJ9_abs_0f7a4 : MethodName := ⟨RJ9, "abs", "(I)I"⟩
abbrev cJ9_max_7cf53 : ByteArray := prog_23_method_65_code
def yJ9_max_7cf53 : MethodName := ⟨RJ9, "max", "(II)I"⟩
abbrev cJ9_min_7cf53 : ByteArray := prog_23_method_69_code
def yJ9_min_7cf53 : MethodName := ⟨RJ9, "min", "(II)I"⟩
def RJxd2413 : String := "java/lang/Number"
def TJxd2413 : u_T := fun k => match k with
  | _ => ("", "", "", false)
def tyJxd2413 : Nat → FieldType := fun k => match k with
  | _ => .int
def RJ0 : String := "java/lang/String"
def TJ0 : u_T := fun k => match k with
  | 0 => ("java/lang/String", "value", "[B", true)
  | 1 => ("java/lang/String", "coder", "B", true)
  | 2 => ("java/lang/String", "hash", "I", false)
  | _ => ("java/lang/String", "hashIsZero", "Z", false)
def tyJ0 : Nat → FieldType := fun k => match k with
  | 0 => .array .byte
  | 1 => .byte
  | 2 => .int
  | _ => .boolean
abbrev cJ0_init_81219 : ByteArray := prog_26_method_53_code
def yJ0_init_81219 : MethodName := ⟨RJ0, "<init>", "(Ljava/lang/StringBuilder;)V"⟩
abbrev cJ0_length_8abf5 : ByteArray := prog_26_method_54_code
def yJ0_length_8abf5 : MethodName := ⟨RJ0, "length", "()I"⟩
abbrev cJ0_charAt_5068e : ByteArray := prog_26_method_56_code
def yJ0_charAt_5068e : MethodName := ⟨RJ0, "charAt", "(I)C"⟩
abbrev cJ0_getBytes_840e7 : ByteArray := prog_26_method_147_code
def yJ0_getBytes_840e7 : MethodName := ⟨RJ0, "getBytes", "([BIB)V"⟩
abbrev cJ0_init_db425 : ByteArray := prog_26_method_150_code
def yJ0_init_db425 : MethodName := ⟨RJ0, "<init>", "(Ljava/lang/AbstractStringBuilder;Ljava/lang/Void;)V"⟩
abbrev cJ0_coder_7d493 : ByteArray := prog_26_method_152_code
def yJ0_coder_7d493 : MethodName := ⟨RJ0, "coder", "()B"⟩
abbrev cJ0_isLatin1_aae02 : ByteArray := prog_26_method_154_code
def yJ0_isLatin1_aae02 : MethodName := ⟨RJ0, "isLatin1", "()Z"⟩
abbrev cJ0_checkIndex_df160 : ByteArray := prog_26_method_155_code
def yJ0_checkIndex_df160 : MethodName := ⟨RJ0, "checkIndex", "(II)V"⟩
abbrev cJ0_checkBoundsOffCount_cabcc : ByteArray := prog_26_method_157_code
def yJ0_checkBoundsOffCount_cabcc : MethodName := ⟨RJ0, "checkBoundsOffCount", "(III)I"⟩
abbrev cJ0_checkBoundsBeginEnd_23922 : ByteArray := prog_26_method_158_code
def yJ0_checkBoundsBeginEnd_23922 : MethodName := ⟨RJ0, "checkBoundsBeginEnd", "(III)V"⟩
def RJ4 : String := "java/lang/StringBuilder"
def TJ4 : u_T := fun k => match k with
  | 0 => ("java/lang/AbstractStringBuilder", "value", "[B", false)
  | 1 => ("java/lang/AbstractStringBuilder", "coder", "B", false)
  | 2 => ("java/lang/AbstractStringBuilder", "maybeLatin1", "Z", false)
  | _ => ("java/lang/AbstractStringBuilder", "count", "I", false)
def tyJ4 : Nat → FieldType := fun k => match k with
  | 0 => .array .byte
  | 1 => .byte
  | 2 => .boolean
  | _ => .int
abbrev cJ4_init_a7421 : ByteArray := prog_27_method_3_code
def yJ4_init_a7421 : MethodName := ⟨RJ4, "<init>", "(Ljava/lang/String;)V"⟩
abbrev cJ4_append_15ec4 : ByteArray := prog_27_method_7_code
def yJ4_append_15ec4 : MethodName := ⟨RJ4, "append", "(Ljava/lang/String;)Ljava/lang/StringBuilder;"⟩
abbrev cJ4_append_cf468 : ByteArray := prog_27_method_14_code
def yJ4_append_cf468 : MethodName := ⟨RJ4, "append", "(C)Ljava/lang/StringBuilder;"⟩
abbrev cJ4_append_bf812 : ByteArray := prog_27_method_15_code
def yJ4_append_bf812 : MethodName := ⟨RJ4, "append", "(I)Ljava/lang/StringBuilder;"⟩
abbrev cJ4_toString_0e30d : ByteArray := prog_27_method_42_code
def yJ4_toString_0e30d : MethodName := ⟨RJ4, "toString", "()Ljava/lang/String;"⟩
abbrev cJ4_append_cf1ce : ByteArray := prog_27_method_80_code
def yJ4_append_cf1ce : MethodName := ⟨RJ4, "append", "(Ljava/lang/String;)Ljava/lang/AbstractStringBuilder;"⟩
abbrev cJ4_length_8abf5 : ByteArray := prog_27_method_93_code
def yJ4_length_8abf5 : MethodName := ⟨RJ4, "length", "()I"⟩
def RJ1 : String := "java/lang/StringLatin1"
def TJ1 : u_T := fun k => match k with
  | _ => ("", "", "", false)
def tyJ1 : Nat → FieldType := fun k => match k with
  | _ => .int
abbrev cJ1_charAt_3b067 : ByteArray := prog_28_method_2_code
def yJ1_charAt_3b067 : MethodName := ⟨RJ1, "charAt", "([BI)C"⟩
abbrev cJ1_canEncode_fc78d : ByteArray := prog_28_method_3_code
def yJ1_canEncode_fc78d : MethodName := ⟨RJ1, "canEncode", "(C)Z"⟩
abbrev cJ1_inflate_0e8fd : ByteArray := prog_28_method_50_code
def yJ1_inflate_0e8fd : MethodName := ⟨RJ1, "inflate", "([BI[BII)V"⟩
def RJ2 : String := "java/lang/StringUTF16"
def TJ2 : u_T := fun k => match k with
  | _ => ("", "", "", false)
def tyJ2 : Nat → FieldType := fun k => match k with
  | _ => .int
abbrev cJ2_newBytesFor_77867 : ByteArray := prog_29_method_2_code
def yJ2_newBytesFor_77867 : MethodName := ⟨RJ2, "newBytesFor", "(I)[B"⟩
abbrev cJ2_newBytesLength_0f7a4 : ByteArray := prog_29_method_3_code
def yJ2_newBytesLength_0f7a4 : MethodName := ⟨RJ2, "newBytesLength", "(I)I"⟩
abbrev cJ2_putChar_b72d1 : ByteArray := prog_29_method_4_code
def yJ2_putChar_b72d1 : MethodName := ⟨RJ2, "putChar", "([BII)V"⟩
abbrev cJ2_getChar_3b067 : ByteArray := prog_29_method_5_code
def yJ2_getChar_3b067 : MethodName := ⟨RJ2, "getChar", "([BI)C"⟩
abbrev cJ2_length_9d52b : ByteArray := prog_29_method_6_code
def yJ2_length_9d52b : MethodName := ⟨RJ2, "length", "([B)I"⟩
abbrev cJ2_coderFromArrayLen_85cad : ByteArray := prog_29_method_15_code
def yJ2_coderFromArrayLen_85cad : MethodName := ⟨RJ2, "coderFromArrayLen", "([BI)B"⟩
abbrev cJ2_compress_39247 : ByteArray := prog_29_method_17_code
def yJ2_compress_39247 : MethodName := ⟨RJ2, "compress", "([BII)[B"⟩
abbrev cJ2_compress_5af95 : ByteArray := prog_29_method_22_code
def yJ2_compress_5af95 : MethodName := ⟨RJ2, "compress", "([BI[BII)I"⟩
abbrev cJ2_putCharSB_b72d1 : ByteArray := prog_29_method_71_code
def yJ2_putCharSB_b72d1 : MethodName := ⟨RJ2, "putCharSB", "([BII)V"⟩
abbrev cJ2_getChars_46870 : ByteArray := prog_29_method_77_code
def yJ2_getChars_46870 : MethodName := ⟨RJ2, "getChars", "(III[B)I"⟩
abbrev cJ2_putCharsAt_cd4e5 : ByteArray := prog_29_method_81_code
def yJ2_putCharsAt_cd4e5 : MethodName := ⟨RJ2, "putCharsAt", "([BICCCC)I"⟩
abbrev cJ2_charAt_3b067 : ByteArray := prog_29_method_83_code
def yJ2_charAt_3b067 : MethodName := ⟨RJ2, "charAt", "([BI)C"⟩
abbrev cJ2_inflate_0e8fd : ByteArray := prog_29_method_86_code
def yJ2_inflate_0e8fd : MethodName := ⟨RJ2, "inflate", "([BI[BII)V"⟩
abbrev cJ2_getChars_ba4f3 : ByteArray := prog_29_method_89_code
def yJ2_getChars_ba4f3 : MethodName := ⟨RJ2, "getChars", "(II[B)I"⟩
abbrev cJ2_checkIndex_2214a : ByteArray := prog_29_method_91_code
def yJ2_checkIndex_2214a : MethodName := ⟨RJ2, "checkIndex", "(I[B)V"⟩
abbrev cJ2_checkBoundsBeginEnd_d044e : ByteArray := prog_29_method_93_code
def yJ2_checkBoundsBeginEnd_d044e : MethodName := ⟨RJ2, "checkBoundsBeginEnd", "(II[B)V"⟩
abbrev cJ2_checkBoundsOffCount_d044e : ByteArray := prog_29_method_94_code
def yJ2_checkBoundsOffCount_d044e : MethodName := ⟨RJ2, "checkBoundsOffCount", "(II[B)V"⟩
def RJ10 : String := "java/lang/System"
def TJ10 : u_T := fun k => match k with
  | _ => ("", "", "", false)
def tyJ10 : Nat → FieldType := fun k => match k with
  | _ => .int
def RJxfd54e : String := "java/lang/constant/Constable"
def TJxfd54e : u_T := fun k => match k with
  | _ => ("", "", "", false)
def tyJxfd54e : Nat → FieldType := fun k => match k with
  | _ => .int
def RJx3cf43 : String := "java/lang/constant/ConstantDesc"
def TJx3cf43 : u_T := fun k => match k with
  | _ => ("", "", "", false)
def tyJx3cf43 : Nat → FieldType := fun k => match k with
  | _ => .int
def RJ7 : String := "java/util/Arrays"
def TJ7 : u_T := fun k => match k with
  | _ => ("", "", "", false)
def tyJ7 : Nat → FieldType := fun k => match k with
  | _ => .int
abbrev cJ7_copyOf_9075b : ByteArray := prog_34_method_121_code
def yJ7_copyOf_9075b : MethodName := ⟨RJ7, "copyOf", "([BI)[B"⟩
abbrev cJ7_checkLength_df160 : ByteArray := prog_34_method_131_code
def yJ7_checkLength_df160 : MethodName := ⟨RJ7, "checkLength", "(II)V"⟩
abbrev cJ7_copyOfRange_39247 : ByteArray := prog_34_method_132_code
def yJ7_copyOfRange_39247 : MethodName := ⟨RJ7, "copyOfRange", "([BII)[B"⟩
abbrev cJ7_copyOfRangeByte_39247 : ByteArray := prog_34_method_133_code
def yJ7_copyOfRangeByte_39247 : MethodName := ⟨RJ7, "copyOfRangeByte", "([BII)[B"⟩
def RJ8 : String := "jdk/internal/util/ArraysSupport"
def TJ8 : u_T := fun k => match k with
  | _ => ("", "", "", false)
def tyJ8 : Nat → FieldType := fun k => match k with
  | _ => .int
abbrev cJ8_newLength_cabcc : ByteArray := prog_36_method_27_code
def yJ8_newLength_cabcc : MethodName := ⟨RJ8, "newLength", "(III)I"⟩
abbrev cJ8_hugeLength_7cf53 : ByteArray := prog_36_method_28_code
def yJ8_hugeLength_7cf53 : MethodName := ⟨RJ8, "hugeLength", "(II)I"⟩
def RJ3 : String := "jdk/internal/util/Preconditions"
def TJ3 : u_T := fun k => match k with
  | _ => ("", "", "", false)
def tyJ3 : Nat → FieldType := fun k => match k with
  | _ => .int
abbrev cJ3_checkIndex_8e157 : ByteArray := prog_37_method_11_code
def yJ3_checkIndex_8e157 : MethodName := ⟨RJ3, "checkIndex", "(IILjava/util/function/BiFunction;)I"⟩
abbrev cJ3_checkFromToIndex_8c36e : ByteArray := prog_37_method_12_code
def yJ3_checkFromToIndex_8c36e : MethodName := ⟨RJ3, "checkFromToIndex", "(IIILjava/util/function/BiFunction;)I"⟩
abbrev cJ3_checkFromIndexSize_8c36e : ByteArray := prog_37_method_13_code
def yJ3_checkFromIndexSize_8c36e : MethodName := ⟨RJ3, "checkFromIndexSize", "(IIILjava/util/function/BiFunction;)I"⟩
def RL : String := "SlipArchiveLaw"
abbrev cL_most : ByteArray := method_2_code
def yL_most : MethodName := ⟨RL, "most", "(II)I"⟩
abbrev cL_cell : ByteArray := method_3_code
def yL_cell : MethodName := ⟨RL, "cell", "([II)I"⟩
abbrev cL_add : ByteArray := method_4_code
def yL_add : MethodName := ⟨RL, "add", "(LSlipArchive;[II)V"⟩
abbrev cL_say : ByteArray := method_5_code
def yL_say : MethodName := ⟨RL, "say", "(LSlipArchive;[ILjava/lang/String;)V"⟩
abbrev cL_end : ByteArray := method_6_code
def yL_end : MethodName := ⟨RL, "end", "(LSlipArchive;[I)I"⟩
abbrev cL_all : ByteArray := method_7_code
def yL_all : MethodName := ⟨RL, "all", "(LSlipArchive;)[I"⟩
abbrev cL_alike : ByteArray := method_8_code
def yL_alike : MethodName := ⟨RL, "alike", "([I[I)Z"⟩
abbrev cL_isArchive : ByteArray := method_9_code
def yL_isArchive : MethodName := ⟨RL, "isArchive", "(LSlipArchive;)Z"⟩
abbrev cL_isServed : ByteArray := method_10_code
def yL_isServed : MethodName := ⟨RL, "isServed", "(LSlipArchive;I)Z"⟩
abbrev cL_act : ByteArray := method_11_code
def yL_act : MethodName := ⟨RL, "act", "(LSlipArchive;I)Z"⟩
abbrev cL_law : ByteArray := code
def yL_law : MethodName := ⟨RL, "law", "([I)Z"⟩
abbrev vwCl : List vw_C := [(RX1, TX1, 3), (RX2, TX2, 2), (RX4, TX4, 3), (RX5, TX5, 4), (RX6, TX6, 3), (RX7, TX7, 4), (RX8, TX8, 15), (RX9, TX9, 6), (RX10, TX10, 11), (RJ0, TJ0, 4), (RJ4, TJ4, 4)]
