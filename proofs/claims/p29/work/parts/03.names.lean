def RX0 : String := "RailSequence$Log"
def TX0 : u_T := fun k => match k with
  | 0 => ("RailSequence$Log", "numbers", "[I", true)
  | _ => ("RailSequence$Log", "length", "I", false)
def tyX0 : Nat → FieldType := fun k => match k with
  | 0 => .array .int
  | _ => .int
abbrev wsX00 : List Cond := u_ws RX0 TX0 2
theorem nmX0 : ∀ a, a < 2 → ∀ b, b < 2 → a ≠ b → (TX0 a).2.1 ≠ (TX0 b).2.1 := by decide +kernel
theorem tyX0_ok : ∀ k, k < 2 → parseFieldDescriptor (TX0 k).2.2.1 = some (tyX0 k) := by decide +kernel
abbrev cX0_init : ByteArray := prog_2_method_1_code
def yX0_init : MethodName := ⟨RX0, "<init>", "()V"⟩
abbrev cX0_copyFrom : ByteArray := prog_2_method_2_code
def yX0_copyFrom : MethodName := ⟨RX0, "copyFrom", "(LRailSequence$Log;)V"⟩
abbrev cX0_enter : ByteArray := prog_2_method_3_code
def yX0_enter : MethodName := ⟨RX0, "enter", "(IIII)V"⟩
abbrev cX0_numberAt : ByteArray := prog_2_method_4_code
def yX0_numberAt : MethodName := ⟨RX0, "numberAt", "(II)I"⟩
abbrev cX0_removeRail : ByteArray := prog_2_method_5_code
def yX0_removeRail : MethodName := ⟨RX0, "removeRail", "(I)I"⟩
def RX1 : String := "RailSequence$Plant"
def TX1 : u_T := fun k => match k with
  | 0 => ("RailSequence$Plant", "rails", "I", false)
  | 1 => ("RailSequence$Plant", "tickNumber", "I", false)
  | 2 => ("RailSequence$Plant", "residue", "I", false)
  | 3 => ("RailSequence$Plant", "wanted", "I", false)
  | 4 => ("RailSequence$Plant", "properties", "[I", true)
  | 5 => ("RailSequence$Plant", "needs", "[I", true)
  | 6 => ("RailSequence$Plant", "state", "[I", true)
  | 7 => ("RailSequence$Plant", "voltage", "[I", true)
  | 8 => ("RailSequence$Plant", "stuck", "[I", true)
  | 9 => ("RailSequence$Plant", "shorted", "[I", true)
  | 10 => ("RailSequence$Plant", "time", "[I", true)
  | 11 => ("RailSequence$Plant", "failures", "[I", true)
  | 12 => ("RailSequence$Plant", "blame", "[I", true)
  | 13 => ("RailSequence$Plant", "accounts", "[I", true)
  | 14 => ("RailSequence$Plant", "log", "LRailSequence$Log;", true)
  | 15 => ("RailSequence$Plant", "stateBefore", "[I", true)
  | 16 => ("RailSequence$Plant", "voltageBefore", "[I", true)
  | _ => ("RailSequence$Plant", "timeBefore", "[I", true)
def tyX1 : Nat → FieldType := fun k => match k with
  | 0 => .int
  | 1 => .int
  | 2 => .int
  | 3 => .int
  | 4 => .array .int
  | 5 => .array .int
  | 6 => .array .int
  | 7 => .array .int
  | 8 => .array .int
  | 9 => .array .int
  | 10 => .array .int
  | 11 => .array .int
  | 12 => .array .int
  | 13 => .array .int
  | 14 => .object "RailSequence$Log"
  | 15 => .array .int
  | 16 => .array .int
  | _ => .array .int
abbrev wsX10 : List Cond := u_ws RX1 TX1 18
theorem nmX1 : ∀ a, a < 18 → ∀ b, b < 18 → a ≠ b → (TX1 a).2.1 ≠ (TX1 b).2.1 := by decide +kernel
theorem tyX1_ok : ∀ k, k < 18 → parseFieldDescriptor (TX1 k).2.2.1 = some (tyX1 k) := by decide +kernel
abbrev cX1_init : ByteArray := prog_3_method_1_code
def yX1_init : MethodName := ⟨RX1, "<init>", "()V"⟩
abbrev cX1_copyFrom : ByteArray := prog_3_method_2_code
def yX1_copyFrom : MethodName := ⟨RX1, "copyFrom", "(LRailSequence$Plant;)V"⟩
abbrev cX1_add : ByteArray := prog_3_method_3_code
def yX1_add : MethodName := ⟨RX1, "add", "(IIII)V"⟩
abbrev cX1_propertyOf : ByteArray := prog_3_method_4_code
def yX1_propertyOf : MethodName := ⟨RX1, "propertyOf", "(II)I"⟩
abbrev cX1_isWanted : ByteArray := prog_3_method_5_code
def yX1_isWanted : MethodName := ⟨RX1, "isWanted", "(I)Z"⟩
abbrev cX1_isDischarged : ByteArray := prog_3_method_6_code
def yX1_isDischarged : MethodName := ⟨RX1, "isDischarged", "(I)Z"⟩
abbrev cX1_hasFlag : ByteArray := prog_3_method_7_code
def yX1_hasFlag : MethodName := ⟨RX1, "hasFlag", "(I)Z"⟩
abbrev cX1_numberOf : ByteArray := prog_3_method_8_code
def yX1_numberOf : MethodName := ⟨RX1, "numberOf", "(II)I"⟩
abbrev cX1_firstBlameOf : ByteArray := prog_3_method_9_code
def yX1_firstBlameOf : MethodName := ⟨RX1, "firstBlameOf", "(I)I"⟩
abbrev cX1_leastPatienceOf : ByteArray := prog_3_method_10_code
def yX1_leastPatienceOf : MethodName := ⟨RX1, "leastPatienceOf", "(I)I"⟩
abbrev cX1_withAllNeeded : ByteArray := prog_3_method_11_code
def yX1_withAllNeeded : MethodName := ⟨RX1, "withAllNeeded", "(I)I"⟩
abbrev cX1_withFollowers : ByteArray := prog_3_method_12_code
def yX1_withFollowers : MethodName := ⟨RX1, "withFollowers", "(I)I"⟩
abbrev cX1_maskOf : ByteArray := prog_3_method_13_code
def yX1_maskOf : MethodName := ⟨RX1, "maskOf", "(I)I"⟩
abbrev cX1_sumOfVoltages : ByteArray := prog_3_method_14_code
def yX1_sumOfVoltages : MethodName := ⟨RX1, "sumOfVoltages", "()I"⟩
abbrev cX1_isAnyShorted : ByteArray := prog_3_method_15_code
def yX1_isAnyShorted : MethodName := ⟨RX1, "isAnyShorted", "()Z"⟩
abbrev cX1_isAllOff : ByteArray := prog_3_method_16_code
def yX1_isAllOff : MethodName := ⟨RX1, "isAllOff", "()Z"⟩
abbrev cX1_passTick : ByteArray := prog_3_method_17_code
def yX1_passTick : MethodName := ⟨RX1, "passTick", "()I"⟩
abbrev cX1_rememberBefore : ByteArray := prog_3_method_18_code
def yX1_rememberBefore : MethodName := ⟨RX1, "rememberBefore", "()V"⟩
abbrev cX1_moveVoltages : ByteArray := prog_3_method_19_code
def yX1_moveVoltages : MethodName := ⟨RX1, "moveVoltages", "()V"⟩
abbrev cX1_nextState : ByteArray := prog_3_method_20_code
def yX1_nextState : MethodName := ⟨RX1, "nextState", "(I)I"⟩
abbrev cX1_afterOff : ByteArray := prog_3_method_21_code
def yX1_afterOff : MethodName := ⟨RX1, "afterOff", "(I)I"⟩
abbrev cX1_afterWaiting : ByteArray := prog_3_method_22_code
def yX1_afterWaiting : MethodName := ⟨RX1, "afterWaiting", "(I)I"⟩
abbrev cX1_afterRising : ByteArray := prog_3_method_23_code
def yX1_afterRising : MethodName := ⟨RX1, "afterRising", "(I)I"⟩
abbrev cX1_afterGood : ByteArray := prog_3_method_24_code
def yX1_afterGood : MethodName := ⟨RX1, "afterGood", "(I)I"⟩
abbrev cX1_afterFalling : ByteArray := prog_3_method_25_code
def yX1_afterFalling : MethodName := ⟨RX1, "afterFalling", "(I)I"⟩
abbrev cX1_afterFailure : ByteArray := prog_3_method_26_code
def yX1_afterFailure : MethodName := ⟨RX1, "afterFailure", "(I)I"⟩
abbrev cX1_lowestBadNeed : ByteArray := prog_3_method_27_code
def yX1_lowestBadNeed : MethodName := ⟨RX1, "lowestBadNeed", "(I)I"⟩
abbrev cX1_areUsersAtRest : ByteArray := prog_3_method_28_code
def yX1_areUsersAtRest : MethodName := ⟨RX1, "areUsersAtRest", "(I)Z"⟩
abbrev cX1_become : ByteArray := prog_3_method_29_code
def yX1_become : MethodName := ⟨RX1, "become", "(II)V"⟩
abbrev cX1_endTick : ByteArray := prog_3_method_30_code
def yX1_endTick : MethodName := ⟨RX1, "endTick", "()V"⟩
abbrev cX1_wasStill : ByteArray := prog_3_method_31_code
def yX1_wasStill : MethodName := ⟨RX1, "wasStill", "()Z"⟩
abbrev cX1_justDropped : ByteArray := prog_3_method_32_code
def yX1_justDropped : MethodName := ⟨RX1, "justDropped", "()I"⟩
abbrev cX1_dropForRestart : ByteArray := prog_3_method_33_code
def yX1_dropForRestart : MethodName := ⟨RX1, "dropForRestart", "(I)I"⟩
abbrev cX1_isToDrop : ByteArray := prog_3_method_34_code
def yX1_isToDrop : MethodName := ⟨RX1, "isToDrop", "(I)Z"⟩
def RX2 : String := "RailSequence$TextReader"
def TX2 : u_T := fun k => match k with
  | 0 => ("RailSequence$TextReader", "numbers", "[I", true)
  | 1 => ("RailSequence$TextReader", "needs", "I", false)
  | 2 => ("RailSequence$TextReader", "part", "I", false)
  | _ => ("RailSequence$TextReader", "latestNeed", "I", false)
def tyX2 : Nat → FieldType := fun k => match k with
  | 0 => .array .int
  | 1 => .int
  | 2 => .int
  | _ => .int
abbrev wsX20 : List Cond := u_ws RX2 TX2 4
theorem nmX2 : ∀ a, a < 4 → ∀ b, b < 4 → a ≠ b → (TX2 a).2.1 ≠ (TX2 b).2.1 := by decide +kernel
theorem tyX2_ok : ∀ k, k < 4 → parseFieldDescriptor (TX2 k).2.2.1 = some (tyX2 k) := by decide +kernel
abbrev cX2_init : ByteArray := prog_4_method_1_code
def yX2_init : MethodName := ⟨RX2, "<init>", "()V"⟩
def RX3 : String := "RailSequence"
def TX3 : u_T := fun k => match k with
  | 0 => ("RailSequence", "now", "LRailSequence$Plant;", true)
  | 1 => ("RailSequence", "future", "LRailSequence$Plant;", true)
  | 2 => ("RailSequence", "saved", "[LRailSequence$Plant;", true)
  | 3 => ("RailSequence", "savedStates", "I", false)
  | 4 => ("RailSequence", "buffer", "[I", true)
  | 5 => ("RailSequence", "bufferLength", "I", false)
  | _ => ("RailSequence", "reader", "LRailSequence$TextReader;", true)
def tyX3 : Nat → FieldType := fun k => match k with
  | 0 => .object "RailSequence$Plant"
  | 1 => .object "RailSequence$Plant"
  | 2 => .array (.object "RailSequence$Plant")
  | 3 => .int
  | 4 => .array .int
  | 5 => .int
  | _ => .object "RailSequence$TextReader"
abbrev wsX30 : List Cond := u_ws RX3 TX3 7
theorem nmX3 : ∀ a, a < 7 → ∀ b, b < 7 → a ≠ b → (TX3 a).2.1 ≠ (TX3 b).2.1 := by decide +kernel
theorem tyX3_ok : ∀ k, k < 7 → parseFieldDescriptor (TX3 k).2.2.1 = some (tyX3 k) := by decide +kernel
abbrev cX3_init : ByteArray := prog_1_method_1_code
def yX3_init : MethodName := ⟨RX3, "<init>", "()V"⟩
abbrev cX3_addRail : ByteArray := prog_1_method_2_code
def yX3_addRail : MethodName := ⟨RX3, "addRail", "(IIII)I"⟩
abbrev cX3_set : ByteArray := prog_1_method_3_code
def yX3_set : MethodName := ⟨RX3, "set", "(III)I"⟩
abbrev cX3_setNeeds : ByteArray := prog_1_method_4_code
def yX3_setNeeds : MethodName := ⟨RX3, "setNeeds", "(II)I"⟩
abbrev cX3_setResidue : ByteArray := prog_1_method_5_code
def yX3_setResidue : MethodName := ⟨RX3, "setResidue", "(I)I"⟩
abbrev cX3_on : ByteArray := prog_1_method_6_code
def yX3_on : MethodName := ⟨RX3, "on", "(I)I"⟩
abbrev cX3_off : ByteArray := prog_1_method_7_code
def yX3_off : MethodName := ⟨RX3, "off", "(I)I"⟩
abbrev cX3_restart : ByteArray := prog_1_method_8_code
def yX3_restart : MethodName := ⟨RX3, "restart", "(I)I"⟩
abbrev cX3_shortCircuit : ByteArray := prog_1_method_9_code
def yX3_shortCircuit : MethodName := ⟨RX3, "shortCircuit", "(II)I"⟩
abbrev cX3_stick : ByteArray := prog_1_method_10_code
def yX3_stick : MethodName := ⟨RX3, "stick", "(II)I"⟩
abbrev cX3_tick : ByteArray := prog_1_method_11_code
def yX3_tick : MethodName := ⟨RX3, "tick", "(I)I"⟩
abbrev cX3_rail : ByteArray := prog_1_method_17_code
def yX3_rail : MethodName := ⟨RX3, "rail", "(II)I"⟩
abbrev cX3_account : ByteArray := prog_1_method_18_code
def yX3_account : MethodName := ⟨RX3, "account", "(II)I"⟩
abbrev cX3_entry : ByteArray := prog_1_method_19_code
def yX3_entry : MethodName := ⟨RX3, "entry", "(II)I"⟩
abbrev cX3_forget : ByteArray := prog_1_method_20_code
def yX3_forget : MethodName := ⟨RX3, "forget", "(I)I"⟩
abbrev cX3_count : ByteArray := prog_1_method_21_code
def yX3_count : MethodName := ⟨RX3, "count", "(I)I"⟩
abbrev cX3_allGoodIn : ByteArray := prog_1_method_22_code
def yX3_allGoodIn : MethodName := ⟨RX3, "allGoodIn", "()I"⟩
abbrev cX3_allOffIn : ByteArray := prog_1_method_23_code
def yX3_allOffIn : MethodName := ⟨RX3, "allOffIn", "()I"⟩
abbrev cX3_ifShort : ByteArray := prog_1_method_24_code
def yX3_ifShort : MethodName := ⟨RX3, "ifShort", "(III)I"⟩
abbrev cX3_leastPatience : ByteArray := prog_1_method_25_code
def yX3_leastPatience : MethodName := ⟨RX3, "leastPatience", "(I)I"⟩
abbrev cX3_goodShare : ByteArray := prog_1_method_26_code
def yX3_goodShare : MethodName := ⟨RX3, "goodShare", "()D"⟩
abbrev cX3_isRail : ByteArray := prog_1_method_28_code
def yX3_isRail : MethodName := ⟨RX3, "isRail", "(I)Z"⟩
abbrev cX3_areRails : ByteArray := prog_1_method_29_code
def yX3_areRails : MethodName := ⟨RX3, "areRails", "(I)Z"⟩
abbrev cX3_areBelow : ByteArray := prog_1_method_30_code
def yX3_areBelow : MethodName := ⟨RX3, "areBelow", "(II)Z"⟩
abbrev cX3_isInRange : ByteArray := prog_1_method_31_code
def yX3_isInRange : MethodName := ⟨RX3, "isInRange", "(II)Z"⟩
abbrev cX3_save : ByteArray := prog_1_method_32_code
def yX3_save : MethodName := ⟨RX3, "save", "()V"⟩
abbrev cX3_dropOldestSaved : ByteArray := prog_1_method_33_code
def yX3_dropOldestSaved : MethodName := ⟨RX3, "dropOldestSaved", "()V"⟩
abbrev cX3_countOf : ByteArray := prog_1_method_37_code
def yX3_countOf : MethodName := ⟨RX3, "countOf", "(I)I"⟩
def RX4 : String := "RailSequenceModel"
def TX4 : u_T := fun k => match k with
  | _ => ("", "", "", false)
def tyX4 : Nat → FieldType := fun k => match k with
  | _ => .int
abbrev wsX40 : List Cond := u_ws RX4 TX4 0
theorem nmX4 : ∀ a, a < 0 → ∀ b, b < 0 → a ≠ b → (TX4 a).2.1 ≠ (TX4 b).2.1 := by decide +kernel
theorem tyX4_ok : ∀ k, k < 0 → parseFieldDescriptor (TX4 k).2.2.1 = some (tyX4 k) := by decide +kernel
def RJ9 : String := "java/lang/Math"
def TJ9 : u_T := fun k => match k with
  | _ => ("", "", "", false)
def tyJ9 : Nat → FieldType := fun k => match k with
  | _ => .int
abbrev wsJ90 : List Cond := u_ws RJ9 TJ9 0
theorem nmJ9 : ∀ a, a < 0 → ∀ b, b < 0 → a ≠ b → (TJ9 a).2.1 ≠ (TJ9 b).2.1 := by decide +kernel
theorem tyJ9_ok : ∀ k, k < 0 → parseFieldDescriptor (TJ9 k).2.2.1 = some (tyJ9 k) := by decide +kernel
abbrev cJ9_max_7cf53 : ByteArray := prog_11_method_65_code
def yJ9_max_7cf53 : MethodName := ⟨RJ9, "max", "(II)I"⟩
abbrev cJ9_min_7cf53 : ByteArray := prog_11_method_69_code
def yJ9_min_7cf53 : MethodName := ⟨RJ9, "min", "(II)I"⟩
def RJ0 : String := "java/lang/String"
def TJ0 : u_T := fun k => match k with
  | _ => ("", "", "", false)
def tyJ0 : Nat → FieldType := fun k => match k with
  | _ => .int
abbrev wsJ00 : List Cond := u_ws RJ0 TJ0 0
theorem nmJ0 : ∀ a, a < 0 → ∀ b, b < 0 → a ≠ b → (TJ0 a).2.1 ≠ (TJ0 b).2.1 := by decide +kernel
theorem tyJ0_ok : ∀ k, k < 0 → parseFieldDescriptor (TJ0 k).2.2.1 = some (tyJ0 k) := by decide +kernel
def RJ10 : String := "java/lang/System"
def TJ10 : u_T := fun k => match k with
  | _ => ("", "", "", false)
def tyJ10 : Nat → FieldType := fun k => match k with
  | _ => .int
abbrev wsJ100 : List Cond := u_ws RJ10 TJ10 0
theorem nmJ10 : ∀ a, a < 0 → ∀ b, b < 0 → a ≠ b → (TJ10 a).2.1 ≠ (TJ10 b).2.1 := by decide +kernel
theorem tyJ10_ok : ∀ k, k < 0 → parseFieldDescriptor (TJ10 k).2.2.1 = some (tyJ10 k) := by decide +kernel
def RL : String := "RailSequenceLaw"
abbrev cL_cell : ByteArray := method_2_code
def yL_cell : MethodName := ⟨RL, "cell", "([II)I"⟩
abbrev cL_at : ByteArray := method_3_code
def yL_at : MethodName := ⟨RL, "at", "(II)I"⟩
abbrev cL_flag : ByteArray := method_4_code
def yL_flag : MethodName := ⟨RL, "flag", "(I[I[I)Z"⟩
abbrev cL_enter : ByteArray := method_5_code
def yL_enter : MethodName := ⟨RL, "enter", "(II[I[I[I[I)V"⟩
abbrev cL_next : ByteArray := method_6_code
def yL_next : MethodName := ⟨RL, "next", "(II[I[I[I)I"⟩
abbrev cL_tick : ByteArray := method_7_code
def yL_tick : MethodName := ⟨RL, "tick", "([I[I[I[I[I)V"⟩
abbrev cL_mask : ByteArray := method_8_code
def yL_mask : MethodName := ⟨RL, "mask", "(II[I[I)I"⟩
abbrev cL_closed : ByteArray := method_9_code
def yL_closed : MethodName := ⟨RL, "closed", "(IZ[I[I)I"⟩
abbrev cL_patience : ByteArray := method_10_code
def yL_patience : MethodName := ⟨RL, "patience", "(I[I)I"⟩
abbrev cL_told : ByteArray := method_11_code
def yL_told : MethodName := ⟨RL, "told", "(LRailSequence;[I[I[I[I[I)Z"⟩
abbrev cL_ahead : ByteArray := method_12_code
def yL_ahead : MethodName := ⟨RL, "ahead", "(LRailSequence;II[I[I[I)Z"⟩
abbrev cL_value : ByteArray := method_13_code
def yL_value : MethodName := ⟨RL, "value", "(II)I"⟩
abbrev cL_act : ByteArray := method_14_code
def yL_act : MethodName := ⟨RL, "act", "(LRailSequence;III[I[I[I[I[I)Z"⟩
abbrev cL_law : ByteArray := code
def yL_law : MethodName := ⟨RL, "law", "([I)Z"⟩
abbrev vwCl : List vw_C := [(RX0, TX0, 2), (RX1, TX1, 18), (RX2, TX2, 4), (RX3, TX3, 7)]
/-- the words that every method may use: those of the tables that a call carries over -/
def AW : List Cond := lw_tbl.filter goodWord
theorem aw_in {w : Cond} (h : w ∈ lw_tbl) (g : goodWord w = true) : w ∈ AW := List.mem_filter.mpr ⟨h, g⟩
theorem aw0 {w : Cond} (i : Nat) (h : (k2_sels lw_privs)[i]? = some w) (g : goodWord w = true) : w ∈ AW := aw_in (List.mem_append_left _ (List.mem_of_getElem? h)) g
theorem aw1 {w : Cond} (i : Nat) (h : tables_1_1[i]? = some w) (g : goodWord w = true) : w ∈ AW := aw_in (List.mem_append_right _ (List.mem_append_left _ (List.mem_of_getElem? h))) g
theorem aw2 {w : Cond} (i : Nat) (h : tables_1_2[i]? = some w) (g : goodWord w = true) : w ∈ AW := aw_in (List.mem_append_right _ (List.mem_append_right _ (List.mem_append_left _ (List.mem_of_getElem? h)))) g
theorem aw3 {w : Cond} (i : Nat) (h : tables_1_3[i]? = some w) (g : goodWord w = true) : w ∈ AW := aw_in (List.mem_append_right _ (List.mem_append_right _ (List.mem_append_right _ (List.mem_of_getElem? h)))) g
theorem AW_good {big : List Cond} (h : ∀ w ∈ AW, w ∈ big) : GoodIn big AW := fun w hw => ⟨h w hw, good_of_word (List.mem_filter.mp hw).2⟩
