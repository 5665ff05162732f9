section
-- ===== PART A: goes FIRST, ahead of the names: the tables' words, and 'selects' of the private methods out of them =====
/-- a private method of a class that the tables say can be made, by its rows of tables_1 -/
def lw_okq (q : MethodName × Nat) : Prop := (q.1.cls ≠ "java/lang/invoke/MethodHandle" ∧ q.1.cls ≠ "java/lang/invoke/VarHandle") ∧ Cond.instantiable q.1.cls q.2 ∈ tables_1 ∧ Cond.privateMethod q.1 ∈ tables_1 ∧ Cond.instanceMethod q.1 ∈ tables_1
theorem lw_p0 : lw_okq (⟨"java/lang/Throwable", "fillInStackTrace", "(I)Ljava/lang/Throwable;"⟩, 6) := ⟨⟨by decide +kernel, by decide +kernel⟩, List.mem_of_getElem? (i := 189) (by decide +kernel), List.mem_of_getElem? (i := 187) (by decide +kernel), List.mem_of_getElem? (i := 188) (by decide +kernel)⟩
theorem lw_p1 : lw_okq (⟨"RailSequence", "countOf", "(I)I"⟩, 7) := ⟨⟨by decide +kernel, by decide +kernel⟩, List.mem_of_getElem? (i := 14) (by decide +kernel), List.mem_of_getElem? (i := 219) (by decide +kernel), List.mem_of_getElem? (i := 220) (by decide +kernel)⟩
theorem lw_p2 : lw_okq (⟨"RailSequence", "isRail", "(I)Z"⟩, 7) := ⟨⟨by decide +kernel, by decide +kernel⟩, List.mem_of_getElem? (i := 14) (by decide +kernel), List.mem_of_getElem? (i := 344) (by decide +kernel), List.mem_of_getElem? (i := 345) (by decide +kernel)⟩
theorem lw_p3 : lw_okq (⟨"RailSequence", "areRails", "(I)Z"⟩, 7) := ⟨⟨by decide +kernel, by decide +kernel⟩, List.mem_of_getElem? (i := 14) (by decide +kernel), List.mem_of_getElem? (i := 472) (by decide +kernel), List.mem_of_getElem? (i := 473) (by decide +kernel)⟩
theorem lw_p4 : lw_okq (⟨"RailSequence", "save", "()V"⟩, 7) := ⟨⟨by decide +kernel, by decide +kernel⟩, List.mem_of_getElem? (i := 14) (by decide +kernel), List.mem_of_getElem? (i := 496) (by decide +kernel), List.mem_of_getElem? (i := 497) (by decide +kernel)⟩
theorem lw_p5 : lw_okq (⟨"RailSequence", "dropOldestSaved", "()V"⟩, 7) := ⟨⟨by decide +kernel, by decide +kernel⟩, List.mem_of_getElem? (i := 14) (by decide +kernel), List.mem_of_getElem? (i := 500) (by decide +kernel), List.mem_of_getElem? (i := 501) (by decide +kernel)⟩
def lw_privs_1 : List (MethodName × Nat) := [(⟨"java/lang/Throwable", "fillInStackTrace", "(I)Ljava/lang/Throwable;"⟩, 6), (⟨"RailSequence", "countOf", "(I)I"⟩, 7), (⟨"RailSequence", "isRail", "(I)Z"⟩, 7), (⟨"RailSequence", "areRails", "(I)Z"⟩, 7), (⟨"RailSequence", "save", "()V"⟩, 7), (⟨"RailSequence", "dropOldestSaved", "()V"⟩, 7)]
theorem lw_r1 : ∀ q ∈ lw_privs_1, lw_okq q := List.forall_mem_cons.mpr ⟨lw_p0, List.forall_mem_cons.mpr ⟨lw_p1, List.forall_mem_cons.mpr ⟨lw_p2, List.forall_mem_cons.mpr ⟨lw_p3, List.forall_mem_cons.mpr ⟨lw_p4, List.forall_mem_cons.mpr ⟨lw_p5, fun _ h => absurd h List.not_mem_nil⟩⟩⟩⟩⟩⟩
def lw_privs : List (MethodName × Nat) := lw_privs_1
def lw_tbl : List Cond := k2_sels lw_privs ++ tables_1
theorem lw_privs_ok : ∀ q ∈ lw_privs, lw_okq q := lw_r1
/-- the streams that the claim lets the run draw from -/
abbrev lw_cs : List Choice := [Jvm.Choice.named "NaN.bits"]
theorem lw_bits : nanBits ∈ lw_cs := by first | decide | exact List.mem_cons_self | simp [lw_cs, nanBits]
end
section
def RX0 : String := "RailSequence$Log"
def TX0 : u_T := fun k => match k with
  | 0 => ("RailSequence$Log", "numbers", "[I", true)
  | _ => ("RailSequence$Log", "length", "I", false)
def tyX0 : Nat → FieldType := fun k => match k with
  | 0 => .array .int
  | _ => .int
abbrev wsX00 : List Cond := u_ws RX0 TX0 2
theorem nmX0 : ∀ a, a < 2 → ∀ b, b < 2 → a ≠ b → (TX0 a).2.1 ≠ (TX0 b).2.1 := by decide +kernel
theorem tyX0_ok : ∀ k, k < 2 → parseFieldDescriptor (TX0 k).2.2.1 = some (tyX0 k) := by decide +kernel
abbrev cX0_init : ByteArray := prog_2_method_1_code
def yX0_init : MethodName := ⟨RX0, "<init>", "()V"⟩
abbrev cX0_copyFrom : ByteArray := prog_2_method_2_code
def yX0_copyFrom : MethodName := ⟨RX0, "copyFrom", "(LRailSequence$Log;)V"⟩
abbrev cX0_enter : ByteArray := prog_2_method_3_code
def yX0_enter : MethodName := ⟨RX0, "enter", "(IIII)V"⟩
abbrev cX0_numberAt : ByteArray := prog_2_method_4_code
def yX0_numberAt : MethodName := ⟨RX0, "numberAt", "(II)I"⟩
abbrev cX0_removeRail : ByteArray := prog_2_method_5_code
def yX0_removeRail : MethodName := ⟨RX0, "removeRail", "(I)I"⟩
def RX1 : String := "RailSequence$Plant"
def TX1 : u_T := fun k => match k with
  | 0 => ("RailSequence$Plant", "rails", "I", false)
  | 1 => ("RailSequence$Plant", "tickNumber", "I", false)
  | 2 => ("RailSequence$Plant", "residue", "I", false)
  | 3 => ("RailSequence$Plant", "wanted", "I", false)
  | 4 => ("RailSequence$Plant", "properties", "[I", true)
  | 5 => ("RailSequence$Plant", "needs", "[I", true)
  | 6 => ("RailSequence$Plant", "state", "[I", true)
  | 7 => ("RailSequence$Plant", "voltage", "[I", true)
  | 8 => ("RailSequence$Plant", "stuck", "[I", true)
  | 9 => ("RailSequence$Plant", "shorted", "[I", true)
  | 10 => ("RailSequence$Plant", "time", "[I", true)
  | 11 => ("RailSequence$Plant", "failures", "[I", true)
  | 12 => ("RailSequence$Plant", "blame", "[I", true)
  | 13 => ("RailSequence$Plant", "accounts", "[I", true)
  | 14 => ("RailSequence$Plant", "log", "LRailSequence$Log;", true)
  | 15 => ("RailSequence$Plant", "stateBefore", "[I", true)
  | 16 => ("RailSequence$Plant", "voltageBefore", "[I", true)
  | _ => ("RailSequence$Plant", "timeBefore", "[I", true)
def tyX1 : Nat → FieldType := fun k => match k with
  | 0 => .int
  | 1 => .int
  | 2 => .int
  | 3 => .int
  | 4 => .array .int
  | 5 => .array .int
  | 6 => .array .int
  | 7 => .array .int
  | 8 => .array .int
  | 9 => .array .int
  | 10 => .array .int
  | 11 => .array .int
  | 12 => .array .int
  | 13 => .array .int
  | 14 => .object "RailSequence$Log"
  | 15 => .array .int
  | 16 => .array .int
  | _ => .array .int
abbrev wsX10 : List Cond := u_ws RX1 TX1 18
theorem nmX1 : ∀ a, a < 18 → ∀ b, b < 18 → a ≠ b → (TX1 a).2.1 ≠ (TX1 b).2.1 := by decide +kernel
theorem tyX1_ok : ∀ k, k < 18 → parseFieldDescriptor (TX1 k).2.2.1 = some (tyX1 k) := by decide +kernel
abbrev cX1_init : ByteArray := prog_3_method_1_code
def yX1_init : MethodName := ⟨RX1, "<init>", "()V"⟩
abbrev cX1_copyFrom : ByteArray := prog_3_method_2_code
def yX1_copyFrom : MethodName := ⟨RX1, "copyFrom", "(LRailSequence$Plant;)V"⟩
abbrev cX1_add : ByteArray := prog_3_method_3_code
def yX1_add : MethodName := ⟨RX1, "add", "(IIII)V"⟩
abbrev cX1_propertyOf : ByteArray := prog_3_method_4_code
def yX1_propertyOf : MethodName := ⟨RX1, "propertyOf", "(II)I"⟩
abbrev cX1_isWanted : ByteArray := prog_3_method_5_code
def yX1_isWanted : MethodName := ⟨RX1, "isWanted", "(I)Z"⟩
abbrev cX1_isDischarged : ByteArray := prog_3_method_6_code
def yX1_isDischarged : MethodName := ⟨RX1, "isDischarged", "(I)Z"⟩
abbrev cX1_hasFlag : ByteArray := prog_3_method_7_code
def yX1_hasFlag : MethodName := ⟨RX1, "hasFlag", "(I)Z"⟩
abbrev cX1_numberOf : ByteArray := prog_3_method_8_code
def yX1_numberOf : MethodName := ⟨RX1, "numberOf", "(II)I"⟩
abbrev cX1_firstBlameOf : ByteArray := prog_3_method_9_code
def yX1_firstBlameOf : MethodName := ⟨RX1, "firstBlameOf", "(I)I"⟩
abbrev cX1_leastPatienceOf : ByteArray := prog_3_method_10_code
def yX1_leastPatienceOf : MethodName := ⟨RX1, "leastPatienceOf", "(I)I"⟩
abbrev cX1_withAllNeeded : ByteArray := prog_3_method_11_code
def yX1_withAllNeeded : MethodName := ⟨RX1, "withAllNeeded", "(I)I"⟩
abbrev cX1_withFollowers : ByteArray := prog_3_method_12_code
def yX1_withFollowers : MethodName := ⟨RX1, "withFollowers", "(I)I"⟩
abbrev cX1_maskOf : ByteArray := prog_3_method_13_code
def yX1_maskOf : MethodName := ⟨RX1, "maskOf", "(I)I"⟩
abbrev cX1_sumOfVoltages : ByteArray := prog_3_method_14_code
def yX1_sumOfVoltages : MethodName := ⟨RX1, "sumOfVoltages", "()I"⟩
abbrev cX1_isAnyShorted : ByteArray := prog_3_method_15_code
def yX1_isAnyShorted : MethodName := ⟨RX1, "isAnyShorted", "()Z"⟩
abbrev cX1_isAllOff : ByteArray := prog_3_method_16_code
def yX1_isAllOff : MethodName := ⟨RX1, "isAllOff", "()Z"⟩
abbrev cX1_passTick : ByteArray := prog_3_method_17_code
def yX1_passTick : MethodName := ⟨RX1, "passTick", "()I"⟩
abbrev cX1_rememberBefore : ByteArray := prog_3_method_18_code
def yX1_rememberBefore : MethodName := ⟨RX1, "rememberBefore", "()V"⟩
abbrev cX1_moveVoltages : ByteArray := prog_3_method_19_code
def yX1_moveVoltages : MethodName := ⟨RX1, "moveVoltages", "()V"⟩
abbrev cX1_nextState : ByteArray := prog_3_method_20_code
def yX1_nextState : MethodName := ⟨RX1, "nextState", "(I)I"⟩
abbrev cX1_afterOff : ByteArray := prog_3_method_21_code
def yX1_afterOff : MethodName := ⟨RX1, "afterOff", "(I)I"⟩
abbrev cX1_afterWaiting : ByteArray := prog_3_method_22_code
def yX1_afterWaiting : MethodName := ⟨RX1, "afterWaiting", "(I)I"⟩
abbrev cX1_afterRising : ByteArray := prog_3_method_23_code
def yX1_afterRising : MethodName := ⟨RX1, "afterRising", "(I)I"⟩
abbrev cX1_afterGood : ByteArray := prog_3_method_24_code
def yX1_afterGood : MethodName := ⟨RX1, "afterGood", "(I)I"⟩
abbrev cX1_afterFalling : ByteArray := prog_3_method_25_code
def yX1_afterFalling : MethodName := ⟨RX1, "afterFalling", "(I)I"⟩
abbrev cX1_afterFailure : ByteArray := prog_3_method_26_code
def yX1_afterFailure : MethodName := ⟨RX1, "afterFailure", "(I)I"⟩
abbrev cX1_lowestBadNeed : ByteArray := prog_3_method_27_code
def yX1_lowestBadNeed : MethodName := ⟨RX1, "lowestBadNeed", "(I)I"⟩
abbrev cX1_areUsersAtRest : ByteArray := prog_3_method_28_code
def yX1_areUsersAtRest : MethodName := ⟨RX1, "areUsersAtRest", "(I)Z"⟩
abbrev cX1_become : ByteArray := prog_3_method_29_code
def yX1_become : MethodName := ⟨RX1, "become", "(II)V"⟩
abbrev cX1_endTick : ByteArray := prog_3_method_30_code
def yX1_endTick : MethodName := ⟨RX1, "endTick", "()V"⟩
abbrev cX1_wasStill : ByteArray := prog_3_method_31_code
def yX1_wasStill : MethodName := ⟨RX1, "wasStill", "()Z"⟩
abbrev cX1_justDropped : ByteArray := prog_3_method_32_code
def yX1_justDropped : MethodName := ⟨RX1, "justDropped", "()I"⟩
abbrev cX1_dropForRestart : ByteArray := prog_3_method_33_code
def yX1_dropForRestart : MethodName := ⟨RX1, "dropForRestart", "(I)I"⟩
abbrev cX1_isToDrop : ByteArray := prog_3_method_34_code
def yX1_isToDrop : MethodName := ⟨RX1, "isToDrop", "(I)Z"⟩
def RX2 : String := "RailSequence$TextReader"
def TX2 : u_T := fun k => match k with
  | 0 => ("RailSequence$TextReader", "numbers", "[I", true)
  | 1 => ("RailSequence$TextReader", "needs", "I", false)
  | 2 => ("RailSequence$TextReader", "part", "I", false)
  | _ => ("RailSequence$TextReader", "latestNeed", "I", false)
def tyX2 : Nat → FieldType := fun k => match k with
  | 0 => .array .int
  | 1 => .int
  | 2 => .int
  | _ => .int
abbrev wsX20 : List Cond := u_ws RX2 TX2 4
theorem nmX2 : ∀ a, a < 4 → ∀ b, b < 4 → a ≠ b → (TX2 a).2.1 ≠ (TX2 b).2.1 := by decide +kernel
theorem tyX2_ok : ∀ k, k < 4 → parseFieldDescriptor (TX2 k).2.2.1 = some (tyX2 k) := by decide +kernel
abbrev cX2_init : ByteArray := prog_4_method_1_code
def yX2_init : MethodName := ⟨RX2, "<init>", "()V"⟩
def RX3 : String := "RailSequence"
def TX3 : u_T := fun k => match k with
  | 0 => ("RailSequence", "now", "LRailSequence$Plant;", true)
  | 1 => ("RailSequence", "future", "LRailSequence$Plant;", true)
  | 2 => ("RailSequence", "saved", "[LRailSequence$Plant;", true)
  | 3 => ("RailSequence", "savedStates", "I", false)
  | 4 => ("RailSequence", "buffer", "[I", true)
  | 5 => ("RailSequence", "bufferLength", "I", false)
  | _ => ("RailSequence", "reader", "LRailSequence$TextReader;", true)
def tyX3 : Nat → FieldType := fun k => match k with
  | 0 => .object "RailSequence$Plant"
  | 1 => .object "RailSequence$Plant"
  | 2 => .array (.object "RailSequence$Plant")
  | 3 => .int
  | 4 => .array .int
  | 5 => .int
  | _ => .object "RailSequence$TextReader"
abbrev wsX30 : List Cond := u_ws RX3 TX3 7
theorem nmX3 : ∀ a, a < 7 → ∀ b, b < 7 → a ≠ b → (TX3 a).2.1 ≠ (TX3 b).2.1 := by decide +kernel
theorem tyX3_ok : ∀ k, k < 7 → parseFieldDescriptor (TX3 k).2.2.1 = some (tyX3 k) := by decide +kernel
abbrev cX3_init : ByteArray := prog_1_method_1_code
def yX3_init : MethodName := ⟨RX3, "<init>", "()V"⟩
abbrev cX3_addRail : ByteArray := prog_1_method_2_code
def yX3_addRail : MethodName := ⟨RX3, "addRail", "(IIII)I"⟩
abbrev cX3_set : ByteArray := prog_1_method_3_code
def yX3_set : MethodName := ⟨RX3, "set", "(III)I"⟩
abbrev cX3_setNeeds : ByteArray := prog_1_method_4_code
def yX3_setNeeds : MethodName := ⟨RX3, "setNeeds", "(II)I"⟩
abbrev cX3_setResidue : ByteArray := prog_1_method_5_code
def yX3_setResidue : MethodName := ⟨RX3, "setResidue", "(I)I"⟩
abbrev cX3_on : ByteArray := prog_1_method_6_code
def yX3_on : MethodName := ⟨RX3, "on", "(I)I"⟩
abbrev cX3_off : ByteArray := prog_1_method_7_code
def yX3_off : MethodName := ⟨RX3, "off", "(I)I"⟩
abbrev cX3_restart : ByteArray := prog_1_method_8_code
def yX3_restart : MethodName := ⟨RX3, "restart", "(I)I"⟩
abbrev cX3_shortCircuit : ByteArray := prog_1_method_9_code
def yX3_shortCircuit : MethodName := ⟨RX3, "shortCircuit", "(II)I"⟩
abbrev cX3_stick : ByteArray := prog_1_method_10_code
def yX3_stick : MethodName := ⟨RX3, "stick", "(II)I"⟩
abbrev cX3_tick : ByteArray := prog_1_method_11_code
def yX3_tick : MethodName := ⟨RX3, "tick", "(I)I"⟩
abbrev cX3_rail : ByteArray := prog_1_method_17_code
def yX3_rail : MethodName := ⟨RX3, "rail", "(II)I"⟩
abbrev cX3_account : ByteArray := prog_1_method_18_code
def yX3_account : MethodName := ⟨RX3, "account", "(II)I"⟩
abbrev cX3_entry : ByteArray := prog_1_method_19_code
def yX3_entry : MethodName := ⟨RX3, "entry", "(II)I"⟩
abbrev cX3_forget : ByteArray := prog_1_method_20_code
def yX3_forget : MethodName := ⟨RX3, "forget", "(I)I"⟩
abbrev cX3_count : ByteArray := prog_1_method_21_code
def yX3_count : MethodName := ⟨RX3, "count", "(I)I"⟩
abbrev cX3_allGoodIn : ByteArray := prog_1_method_22_code
def yX3_allGoodIn : MethodName := ⟨RX3, "allGoodIn", "()I"⟩
abbrev cX3_allOffIn : ByteArray := prog_1_method_23_code
def yX3_allOffIn : MethodName := ⟨RX3, "allOffIn", "()I"⟩
abbrev cX3_ifShort : ByteArray := prog_1_method_24_code
def yX3_ifShort : MethodName := ⟨RX3, "ifShort", "(III)I"⟩
abbrev cX3_leastPatience : ByteArray := prog_1_method_25_code
def yX3_leastPatience : MethodName := ⟨RX3, "leastPatience", "(I)I"⟩
abbrev cX3_goodShare : ByteArray := prog_1_method_26_code
def yX3_goodShare : MethodName := ⟨RX3, "goodShare", "()D"⟩
abbrev cX3_isRail : ByteArray := prog_1_method_28_code
def yX3_isRail : MethodName := ⟨RX3, "isRail", "(I)Z"⟩
abbrev cX3_areRails : ByteArray := prog_1_method_29_code
def yX3_areRails : MethodName := ⟨RX3, "areRails", "(I)Z"⟩
abbrev cX3_areBelow : ByteArray := prog_1_method_30_code
def yX3_areBelow : MethodName := ⟨RX3, "areBelow", "(II)Z"⟩
abbrev cX3_isInRange : ByteArray := prog_1_method_31_code
def yX3_isInRange : MethodName := ⟨RX3, "isInRange", "(II)Z"⟩
abbrev cX3_save : ByteArray := prog_1_method_32_code
def yX3_save : MethodName := ⟨RX3, "save", "()V"⟩
abbrev cX3_dropOldestSaved : ByteArray := prog_1_method_33_code
def yX3_dropOldestSaved : MethodName := ⟨RX3, "dropOldestSaved", "()V"⟩
abbrev cX3_countOf : ByteArray := prog_1_method_37_code
def yX3_countOf : MethodName := ⟨RX3, "countOf", "(I)I"⟩
def RX4 : String := "RailSequenceModel"
def TX4 : u_T := fun k => match k with
  | _ => ("", "", "", false)
def tyX4 : Nat → FieldType := fun k => match k with
  | _ => .int
abbrev wsX40 : List Cond := u_ws RX4 TX4 0
theorem nmX4 : ∀ a, a < 0 → ∀ b, b < 0 → a ≠ b → (TX4 a).2.1 ≠ (TX4 b).2.1 := by decide +kernel
theorem tyX4_ok : ∀ k, k < 0 → parseFieldDescriptor (TX4 k).2.2.1 = some (tyX4 k) := by decide +kernel
def RJ9 : String := "java/lang/Math"
def TJ9 : u_T := fun k => match k with
  | _ => ("", "", "", false)
def tyJ9 : Nat → FieldType := fun k => match k with
  | _ => .int
abbrev wsJ90 : List Cond := u_ws RJ9 TJ9 0
theorem nmJ9 : ∀ a, a < 0 → ∀ b, b < 0 → a ≠ b → (TJ9 a).2.1 ≠ (TJ9 b).2.1 := by decide +kernel
theorem tyJ9_ok : ∀ k, k < 0 → parseFieldDescriptor (TJ9 k).2.2.1 = some (tyJ9 k) := by decide +kernel
abbrev cJ9_max_7cf53 : ByteArray := prog_11_method_65_code
def yJ9_max_7cf53 : MethodName := ⟨RJ9, "max", "(II)I"⟩
abbrev cJ9_min_7cf53 : ByteArray := prog_11_method_69_code
def yJ9_min_7cf53 : MethodName := ⟨RJ9, "min", "(II)I"⟩
def RJ0 : String := "java/lang/String"
def TJ0 : u_T := fun k => match k with
  | _ => ("", "", "", false)
def tyJ0 : Nat → FieldType := fun k => match k with
  | _ => .int
abbrev wsJ00 : List Cond := u_ws RJ0 TJ0 0
theorem nmJ0 : ∀ a, a < 0 → ∀ b, b < 0 → a ≠ b → (TJ0 a).2.1 ≠ (TJ0 b).2.1 := by decide +kernel
theorem tyJ0_ok : ∀ k, k < 0 → parseFieldDescriptor (TJ0 k).2.2.1 = some (tyJ0 k) := by decide +kernel
def RJ10 : String := "java/lang/System"
def TJ10 : u_T := fun k => match k with
  | _ => ("", "", "", false)
def tyJ10 : Nat → FieldType := fun k => match k with
  | _ => .int
abbrev wsJ100 : List Cond := u_ws RJ10 TJ10 0
theorem nmJ10 : ∀ a, a < 0 → ∀ b, b < 0 → a ≠ b → (TJ10 a).2.1 ≠ (TJ10 b).2.1 := by decide +kernel
theorem tyJ10_ok : ∀ k, k < 0 → parseFieldDescriptor (TJ10 k).2.2.1 = some (tyJ10 k) := by decide +kernel
def RL : String := "RailSequenceLaw"
abbrev cL_cell : ByteArray := method_2_code
def yL_cell : MethodName := ⟨RL, "cell", "([II)I"⟩
abbrev cL_at : ByteArray := method_3_code
def yL_at : MethodName := ⟨RL, "at", "(II)I"⟩
abbrev cL_flag : ByteArray := method_4_code
def yL_flag : MethodName := ⟨RL, "flag", "(I[I[I)Z"⟩
abbrev cL_enter : ByteArray := method_5_code
def yL_enter : MethodName := ⟨RL, "enter", "(II[I[I[I[I)V"⟩
abbrev cL_next : ByteArray := method_6_code
def yL_next : MethodName := ⟨RL, "next", "(II[I[I[I)I"⟩
abbrev cL_tick : ByteArray := method_7_code
def yL_tick : MethodName := ⟨RL, "tick", "([I[I[I[I[I)V"⟩
abbrev cL_mask : ByteArray := method_8_code
def yL_mask : MethodName := ⟨RL, "mask", "(II[I[I)I"⟩
abbrev cL_closed : ByteArray := method_9_code
def yL_closed : MethodName := ⟨RL, "closed", "(IZ[I[I)I"⟩
abbrev cL_patience : ByteArray := method_10_code
def yL_patience : MethodName := ⟨RL, "patience", "(I[I)I"⟩
abbrev cL_told : ByteArray := method_11_code
def yL_told : MethodName := ⟨RL, "told", "(LRailSequence;[I[I[I[I[I)Z"⟩
abbrev cL_ahead : ByteArray := method_12_code
def yL_ahead : MethodName := ⟨RL, "ahead", "(LRailSequence;II[I[I[I)Z"⟩
abbrev cL_value : ByteArray := method_13_code
def yL_value : MethodName := ⟨RL, "value", "(II)I"⟩
abbrev cL_act : ByteArray := method_14_code
def yL_act : MethodName := ⟨RL, "act", "(LRailSequence;III[I[I[I[I[I)Z"⟩
abbrev cL_law : ByteArray := code
def yL_law : MethodName := ⟨RL, "law", "([I)Z"⟩
abbrev vwCl : List vw_C := [(RX0, TX0, 2), (RX1, TX1, 18), (RX2, TX2, 4), (RX3, TX3, 7)]
/-- the words that every method may use: those of the tables that a call carries over -/
def AW : List Cond := lw_tbl.filter goodWord
theorem aw_in {w : Cond} (h : w ∈ lw_tbl) (g : goodWord w = true) : w ∈ AW := List.mem_filter.mpr ⟨h, g⟩
theorem aw0 {w : Cond} (i : Nat) (h : (k2_sels lw_privs)[i]? = some w) (g : goodWord w = true) : w ∈ AW := aw_in (List.mem_append_left _ (List.mem_of_getElem? h)) g
theorem aw1 {w : Cond} (i : Nat) (h : tables_1_1[i]? = some w) (g : goodWord w = true) : w ∈ AW := aw_in (List.mem_append_right _ (List.mem_append_left _ (List.mem_of_getElem? h))) g
theorem aw2 {w : Cond} (i : Nat) (h : tables_1_2[i]? = some w) (g : goodWord w = true) : w ∈ AW := aw_in (List.mem_append_right _ (List.mem_append_right _ (List.mem_append_left _ (List.mem_of_getElem? h)))) g
theorem aw3 {w : Cond} (i : Nat) (h : tables_1_3[i]? = some w) (g : goodWord w = true) : w ∈ AW := aw_in (List.mem_append_right _ (List.mem_append_right _ (List.mem_append_right _ (List.mem_of_getElem? h)))) g
theorem AW_good {big : List Cond} (h : ∀ w ∈ AW, w ∈ big) : GoodIn big AW := fun w hw => ⟨h w hw, good_of_word (List.mem_filter.mp hw).2⟩
end
section
theorem dX0_init_0 : decode cX0_init 0 = .ok (.aload_n 0, 1) := by decide +kernel
theorem dX0_init_1 : decode cX0_init 1 = .ok (.invokespecial 1, 3) := by decide +kernel
theorem dX0_init_4 : decode cX0_init 4 = .ok (.aload_n 0, 1) := by decide +kernel
theorem dX0_init_5 : decode cX0_init 5 = .ok (.bipush 64, 2) := by decide +kernel
theorem dX0_init_7 : decode cX0_init 7 = .ok (.newarray .int, 2) := by decide +kernel
theorem dX0_init_9 : decode cX0_init 9 = .ok (.putfield 9, 3) := by decide +kernel
theorem dX0_init_12 : decode cX0_init 12 = .ok (.return_, 1) := by decide +kernel
theorem dX0_copyFrom_0 : decode cX0_copyFrom 0 = .ok (.aload_n 0, 1) := by decide +kernel
theorem dX0_copyFrom_1 : decode cX0_copyFrom 1 = .ok (.aload_n 1, 1) := by decide +kernel
theorem dX0_copyFrom_2 : decode cX0_copyFrom 2 = .ok (.getfield 13, 3) := by decide +kernel
theorem dX0_copyFrom_5 : decode cX0_copyFrom 5 = .ok (.putfield 13, 3) := by decide +kernel
theorem dX0_copyFrom_8 : decode cX0_copyFrom 8 = .ok (.aload_n 1, 1) := by decide +kernel
theorem dX0_copyFrom_9 : decode cX0_copyFrom 9 = .ok (.getfield 9, 3) := by decide +kernel
theorem dX0_copyFrom_12 : decode cX0_copyFrom 12 = .ok (.iconst 0, 1) := by decide +kernel
theorem dX0_copyFrom_13 : decode cX0_copyFrom 13 = .ok (.aload_n 0, 1) := by decide +kernel
theorem dX0_copyFrom_14 : decode cX0_copyFrom 14 = .ok (.getfield 9, 3) := by decide +kernel
theorem dX0_copyFrom_17 : decode cX0_copyFrom 17 = .ok (.iconst 0, 1) := by decide +kernel
theorem dX0_copyFrom_18 : decode cX0_copyFrom 18 = .ok (.bipush 64, 2) := by decide +kernel
theorem dX0_copyFrom_20 : decode cX0_copyFrom 20 = .ok (.invokestatic 17, 3) := by decide +kernel
theorem dX0_copyFrom_23 : decode cX0_copyFrom 23 = .ok (.return_, 1) := by decide +kernel
theorem dX0_enter_0 : decode cX0_enter 0 = .ok (.aload_n 0, 1) := by decide +kernel
theorem dX0_enter_1 : decode cX0_enter 1 = .ok (.getfield 9, 3) := by decide +kernel
theorem dX0_enter_4 : decode cX0_enter 4 = .ok (.iconst 0, 1) := by decide +kernel
theorem dX0_enter_5 : decode cX0_enter 5 = .ok (.aload_n 0, 1) := by decide +kernel
theorem dX0_enter_6 : decode cX0_enter 6 = .ok (.getfield 9, 3) := by decide +kernel
theorem dX0_enter_9 : decode cX0_enter 9 = .ok (.iconst 4, 1) := by decide +kernel
theorem dX0_enter_10 : decode cX0_enter 10 = .ok (.bipush 60, 2) := by decide +kernel
theorem dX0_enter_12 : decode cX0_enter 12 = .ok (.invokestatic 17, 3) := by decide +kernel
theorem dX0_enter_15 : decode cX0_enter 15 = .ok (.aload_n 0, 1) := by decide +kernel
theorem dX0_enter_16 : decode cX0_enter 16 = .ok (.getfield 9, 3) := by decide +kernel
theorem dX0_enter_19 : decode cX0_enter 19 = .ok (.iconst 0, 1) := by decide +kernel
theorem dX0_enter_20 : decode cX0_enter 20 = .ok (.iload_n 1, 1) := by decide +kernel
theorem dX0_enter_21 : decode cX0_enter 21 = .ok (.iastore, 1) := by decide +kernel
theorem dX0_enter_22 : decode cX0_enter 22 = .ok (.aload_n 0, 1) := by decide +kernel
theorem dX0_enter_23 : decode cX0_enter 23 = .ok (.getfield 9, 3) := by decide +kernel
theorem dX0_enter_26 : decode cX0_enter 26 = .ok (.iconst 1, 1) := by decide +kernel
theorem dX0_enter_27 : decode cX0_enter 27 = .ok (.iload_n 2, 1) := by decide +kernel
theorem dX0_enter_28 : decode cX0_enter 28 = .ok (.iastore, 1) := by decide +kernel
theorem dX0_enter_29 : decode cX0_enter 29 = .ok (.aload_n 0, 1) := by decide +kernel
theorem dX0_enter_30 : decode cX0_enter 30 = .ok (.getfield 9, 3) := by decide +kernel
theorem dX0_enter_33 : decode cX0_enter 33 = .ok (.iconst 2, 1) := by decide +kernel
theorem dX0_enter_34 : decode cX0_enter 34 = .ok (.iload_n 3, 1) := by decide +kernel
theorem dX0_enter_35 : decode cX0_enter 35 = .ok (.iastore, 1) := by decide +kernel
theorem dX0_enter_36 : decode cX0_enter 36 = .ok (.aload_n 0, 1) := by decide +kernel
theorem dX0_enter_37 : decode cX0_enter 37 = .ok (.getfield 9, 3) := by decide +kernel
theorem dX0_enter_40 : decode cX0_enter 40 = .ok (.iconst 3, 1) := by decide +kernel
theorem dX0_enter_41 : decode cX0_enter 41 = .ok (.iload 4, 2) := by decide +kernel
theorem dX0_enter_43 : decode cX0_enter 43 = .ok (.iastore, 1) := by decide +kernel
theorem dX0_enter_44 : decode cX0_enter 44 = .ok (.aload_n 0, 1) := by decide +kernel
theorem dX0_enter_45 : decode cX0_enter 45 = .ok (.aload_n 0, 1) := by decide +kernel
theorem dX0_enter_46 : decode cX0_enter 46 = .ok (.getfield 13, 3) := by decide +kernel
theorem dX0_enter_49 : decode cX0_enter 49 = .ok (.iconst 1, 1) := by decide +kernel
theorem dX0_enter_50 : decode cX0_enter 50 = .ok (.iadd, 1) := by decide +kernel
theorem dX0_enter_51 : decode cX0_enter 51 = .ok (.bipush 16, 2) := by decide +kernel
theorem dX0_enter_53 : decode cX0_enter 53 = .ok (.invokestatic 23, 3) := by decide +kernel
theorem dX0_enter_56 : decode cX0_enter 56 = .ok (.putfield 13, 3) := by decide +kernel
theorem dX0_enter_59 : decode cX0_enter 59 = .ok (.return_, 1) := by decide +kernel
theorem dX0_numberAt_0 : decode cX0_numberAt 0 = .ok (.aload_n 0, 1) := by decide +kernel
theorem dX0_numberAt_1 : decode cX0_numberAt 1 = .ok (.getfield 9, 3) := by decide +kernel
theorem dX0_numberAt_4 : decode cX0_numberAt 4 = .ok (.iload_n 1, 1) := by decide +kernel
theorem dX0_numberAt_5 : decode cX0_numberAt 5 = .ok (.iconst 4, 1) := by decide +kernel
theorem dX0_numberAt_6 : decode cX0_numberAt 6 = .ok (.imul, 1) := by decide +kernel
theorem dX0_numberAt_7 : decode cX0_numberAt 7 = .ok (.iload_n 2, 1) := by decide +kernel
theorem dX0_numberAt_8 : decode cX0_numberAt 8 = .ok (.iadd, 1) := by decide +kernel
theorem dX0_numberAt_9 : decode cX0_numberAt 9 = .ok (.iaload, 1) := by decide +kernel
theorem dX0_numberAt_10 : decode cX0_numberAt 10 = .ok (.ireturn, 1) := by decide +kernel
theorem dX0_removeRail_0 : decode cX0_removeRail 0 = .ok (.iconst 0, 1) := by decide +kernel
theorem dX0_removeRail_1 : decode cX0_removeRail 1 = .ok (.istore_n 2, 1) := by decide +kernel
theorem dX0_removeRail_2 : decode cX0_removeRail 2 = .ok (.iconst 0, 1) := by decide +kernel
theorem dX0_removeRail_3 : decode cX0_removeRail 3 = .ok (.istore_n 3, 1) := by decide +kernel
theorem dX0_removeRail_4 : decode cX0_removeRail 4 = .ok (.iload_n 3, 1) := by decide +kernel
theorem dX0_removeRail_5 : decode cX0_removeRail 5 = .ok (.aload_n 0, 1) := by decide +kernel
theorem dX0_removeRail_6 : decode cX0_removeRail 6 = .ok (.getfield 13, 3) := by decide +kernel
theorem dX0_removeRail_9 : decode cX0_removeRail 9 = .ok (.if_icmp .ge 40, 3) := by decide +kernel
theorem dX0_removeRail_12 : decode cX0_removeRail 12 = .ok (.aload_n 0, 1) := by decide +kernel
theorem dX0_removeRail_13 : decode cX0_removeRail 13 = .ok (.iload_n 3, 1) := by decide +kernel
theorem dX0_removeRail_14 : decode cX0_removeRail 14 = .ok (.iconst 1, 1) := by decide +kernel
theorem dX0_removeRail_15 : decode cX0_removeRail 15 = .ok (.invokevirtual 29, 3) := by decide +kernel
theorem dX0_removeRail_18 : decode cX0_removeRail 18 = .ok (.iload_n 1, 1) := by decide +kernel
theorem dX0_removeRail_19 : decode cX0_removeRail 19 = .ok (.if_icmp .eq 24, 3) := by decide +kernel
theorem dX0_removeRail_22 : decode cX0_removeRail 22 = .ok (.aload_n 0, 1) := by decide +kernel
theorem dX0_removeRail_23 : decode cX0_removeRail 23 = .ok (.getfield 9, 3) := by decide +kernel
theorem dX0_removeRail_26 : decode cX0_removeRail 26 = .ok (.iload_n 3, 1) := by decide +kernel
theorem dX0_removeRail_27 : decode cX0_removeRail 27 = .ok (.iconst 4, 1) := by decide +kernel
theorem dX0_removeRail_28 : decode cX0_removeRail 28 = .ok (.imul, 1) := by decide +kernel
theorem dX0_removeRail_29 : decode cX0_removeRail 29 = .ok (.aload_n 0, 1) := by decide +kernel
theorem dX0_removeRail_30 : decode cX0_removeRail 30 = .ok (.getfield 9, 3) := by decide +kernel
theorem dX0_removeRail_33 : decode cX0_removeRail 33 = .ok (.iload_n 2, 1) := by decide +kernel
theorem dX0_removeRail_34 : decode cX0_removeRail 34 = .ok (.iconst 4, 1) := by decide +kernel
theorem dX0_removeRail_35 : decode cX0_removeRail 35 = .ok (.imul, 1) := by decide +kernel
theorem dX0_removeRail_36 : decode cX0_removeRail 36 = .ok (.iconst 4, 1) := by decide +kernel
theorem dX0_removeRail_37 : decode cX0_removeRail 37 = .ok (.invokestatic 17, 3) := by decide +kernel
theorem dX0_removeRail_40 : decode cX0_removeRail 40 = .ok (.iinc 2 1, 3) := by decide +kernel
theorem dX0_removeRail_43 : decode cX0_removeRail 43 = .ok (.iinc 3 1, 3) := by decide +kernel
theorem dX0_removeRail_46 : decode cX0_removeRail 46 = .ok (.goto (-42), 3) := by decide +kernel
theorem dX0_removeRail_49 : decode cX0_removeRail 49 = .ok (.aload_n 0, 1) := by decide +kernel
theorem dX0_removeRail_50 : decode cX0_removeRail 50 = .ok (.getfield 13, 3) := by decide +kernel
theorem dX0_removeRail_53 : decode cX0_removeRail 53 = .ok (.iload_n 2, 1) := by decide +kernel
theorem dX0_removeRail_54 : decode cX0_removeRail 54 = .ok (.isub, 1) := by decide +kernel
theorem dX0_removeRail_55 : decode cX0_removeRail 55 = .ok (.istore_n 3, 1) := by decide +kernel
theorem dX0_removeRail_56 : decode cX0_removeRail 56 = .ok (.aload_n 0, 1) := by decide +kernel
theorem dX0_removeRail_57 : decode cX0_removeRail 57 = .ok (.iload_n 2, 1) := by decide +kernel
theorem dX0_removeRail_58 : decode cX0_removeRail 58 = .ok (.putfield 13, 3) := by decide +kernel
theorem dX0_removeRail_61 : decode cX0_removeRail 61 = .ok (.iload_n 3, 1) := by decide +kernel
theorem dX0_removeRail_62 : decode cX0_removeRail 62 = .ok (.ireturn, 1) := by decide +kernel
theorem dX1_init_0 : decode cX1_init 0 = .ok (.aload_n 0, 1) := by decide +kernel
theorem dX1_init_1 : decode cX1_init 1 = .ok (.invokespecial 3, 3) := by decide +kernel
theorem dX1_init_4 : decode cX1_init 4 = .ok (.aload_n 0, 1) := by decide +kernel
theorem dX1_init_5 : decode cX1_init 5 = .ok (.bipush 100, 2) := by decide +kernel
theorem dX1_init_7 : decode cX1_init 7 = .ok (.putfield 9, 3) := by decide +kernel
theorem dX1_init_10 : decode cX1_init 10 = .ok (.aload_n 0, 1) := by decide +kernel
theorem dX1_init_11 : decode cX1_init 11 = .ok (.bipush 56, 2) := by decide +kernel
theorem dX1_init_13 : decode cX1_init 13 = .ok (.newarray .int, 2) := by decide +kernel
theorem dX1_init_15 : decode cX1_init 15 = .ok (.putfield 15, 3) := by decide +kernel
theorem dX1_init_18 : decode cX1_init 18 = .ok (.aload_n 0, 1) := by decide +kernel
theorem dX1_init_19 : decode cX1_init 19 = .ok (.bipush 8, 2) := by decide +kernel
theorem dX1_init_21 : decode cX1_init 21 = .ok (.newarray .int, 2) := by decide +kernel
theorem dX1_init_23 : decode cX1_init 23 = .ok (.putfield 19, 3) := by decide +kernel
theorem dX1_init_26 : decode cX1_init 26 = .ok (.aload_n 0, 1) := by decide +kernel
theorem dX1_init_27 : decode cX1_init 27 = .ok (.bipush 8, 2) := by decide +kernel
theorem dX1_init_29 : decode cX1_init 29 = .ok (.newarray .int, 2) := by decide +kernel
theorem dX1_init_31 : decode cX1_init 31 = .ok (.putfield 22, 3) := by decide +kernel
theorem dX1_init_34 : decode cX1_init 34 = .ok (.aload_n 0, 1) := by decide +kernel
theorem dX1_init_35 : decode cX1_init 35 = .ok (.bipush 8, 2) := by decide +kernel
theorem dX1_init_37 : decode cX1_init 37 = .ok (.newarray .int, 2) := by decide +kernel
theorem dX1_init_39 : decode cX1_init 39 = .ok (.putfield 25, 3) := by decide +kernel
theorem dX1_init_42 : decode cX1_init 42 = .ok (.aload_n 0, 1) := by decide +kernel
theorem dX1_init_43 : decode cX1_init 43 = .ok (.bipush 8, 2) := by decide +kernel
theorem dX1_init_45 : decode cX1_init 45 = .ok (.newarray .int, 2) := by decide +kernel
theorem dX1_init_47 : decode cX1_init 47 = .ok (.putfield 28, 3) := by decide +kernel
theorem dX1_init_50 : decode cX1_init 50 = .ok (.aload_n 0, 1) := by decide +kernel
theorem dX1_init_51 : decode cX1_init 51 = .ok (.bipush 8, 2) := by decide +kernel
theorem dX1_init_53 : decode cX1_init 53 = .ok (.newarray .int, 2) := by decide +kernel
theorem dX1_init_55 : decode cX1_init 55 = .ok (.putfield 31, 3) := by decide +kernel
theorem dX1_init_58 : decode cX1_init 58 = .ok (.aload_n 0, 1) := by decide +kernel
theorem dX1_init_59 : decode cX1_init 59 = .ok (.bipush 8, 2) := by decide +kernel
theorem dX1_init_61 : decode cX1_init 61 = .ok (.newarray .int, 2) := by decide +kernel
theorem dX1_init_63 : decode cX1_init 63 = .ok (.putfield 34, 3) := by decide +kernel
theorem dX1_init_66 : decode cX1_init 66 = .ok (.aload_n 0, 1) := by decide +kernel
theorem dX1_init_67 : decode cX1_init 67 = .ok (.bipush 8, 2) := by decide +kernel
theorem dX1_init_69 : decode cX1_init 69 = .ok (.newarray .int, 2) := by decide +kernel
theorem dX1_init_71 : decode cX1_init 71 = .ok (.putfield 37, 3) := by decide +kernel
theorem dX1_init_74 : decode cX1_init 74 = .ok (.aload_n 0, 1) := by decide +kernel
theorem dX1_init_75 : decode cX1_init 75 = .ok (.bipush 8, 2) := by decide +kernel
theorem dX1_init_77 : decode cX1_init 77 = .ok (.newarray .int, 2) := by decide +kernel
theorem dX1_init_79 : decode cX1_init 79 = .ok (.putfield 40, 3) := by decide +kernel
theorem dX1_init_82 : decode cX1_init 82 = .ok (.aload_n 0, 1) := by decide +kernel
theorem dX1_init_83 : decode cX1_init 83 = .ok (.bipush 32, 2) := by decide +kernel
theorem dX1_init_85 : decode cX1_init 85 = .ok (.newarray .int, 2) := by decide +kernel
theorem dX1_init_87 : decode cX1_init 87 = .ok (.putfield 43, 3) := by decide +kernel
theorem dX1_init_90 : decode cX1_init 90 = .ok (.aload_n 0, 1) := by decide +kernel
theorem dX1_init_91 : decode cX1_init 91 = .ok (.new 46, 3) := by decide +kernel
theorem dX1_init_94 : decode cX1_init 94 = .ok (.dup, 1) := by decide +kernel
theorem dX1_init_95 : decode cX1_init 95 = .ok (.invokespecial 48, 3) := by decide +kernel
theorem dX1_init_98 : decode cX1_init 98 = .ok (.putfield 49, 3) := by decide +kernel
theorem dX1_init_101 : decode cX1_init 101 = .ok (.aload_n 0, 1) := by decide +kernel
theorem dX1_init_102 : decode cX1_init 102 = .ok (.bipush 8, 2) := by decide +kernel
theorem dX1_init_104 : decode cX1_init 104 = .ok (.newarray .int, 2) := by decide +kernel
theorem dX1_init_106 : decode cX1_init 106 = .ok (.putfield 53, 3) := by decide +kernel
theorem dX1_init_109 : decode cX1_init 109 = .ok (.aload_n 0, 1) := by decide +kernel
theorem dX1_init_110 : decode cX1_init 110 = .ok (.bipush 8, 2) := by decide +kernel
theorem dX1_init_112 : decode cX1_init 112 = .ok (.newarray .int, 2) := by decide +kernel
theorem dX1_init_114 : decode cX1_init 114 = .ok (.putfield 56, 3) := by decide +kernel
theorem dX1_init_117 : decode cX1_init 117 = .ok (.aload_n 0, 1) := by decide +kernel
theorem dX1_init_118 : decode cX1_init 118 = .ok (.bipush 8, 2) := by decide +kernel
theorem dX1_init_120 : decode cX1_init 120 = .ok (.newarray .int, 2) := by decide +kernel
theorem dX1_init_122 : decode cX1_init 122 = .ok (.putfield 59, 3) := by decide +kernel
theorem dX1_init_125 : decode cX1_init 125 = .ok (.return_, 1) := by decide +kernel
theorem dX1_copyFrom_0 : decode cX1_copyFrom 0 = .ok (.aload_n 0, 1) := by decide +kernel
theorem dX1_copyFrom_1 : decode cX1_copyFrom 1 = .ok (.aload_n 1, 1) := by decide +kernel
theorem dX1_copyFrom_2 : decode cX1_copyFrom 2 = .ok (.getfield 62, 3) := by decide +kernel
theorem dX1_copyFrom_5 : decode cX1_copyFrom 5 = .ok (.putfield 62, 3) := by decide +kernel
theorem dX1_copyFrom_8 : decode cX1_copyFrom 8 = .ok (.aload_n 0, 1) := by decide +kernel
theorem dX1_copyFrom_9 : decode cX1_copyFrom 9 = .ok (.aload_n 1, 1) := by decide +kernel
theorem dX1_copyFrom_10 : decode cX1_copyFrom 10 = .ok (.getfield 65, 3) := by decide +kernel
theorem dX1_copyFrom_13 : decode cX1_copyFrom 13 = .ok (.putfield 65, 3) := by decide +kernel
theorem dX1_copyFrom_16 : decode cX1_copyFrom 16 = .ok (.aload_n 0, 1) := by decide +kernel
theorem dX1_copyFrom_17 : decode cX1_copyFrom 17 = .ok (.aload_n 1, 1) := by decide +kernel
theorem dX1_copyFrom_18 : decode cX1_copyFrom 18 = .ok (.getfield 9, 3) := by decide +kernel
theorem dX1_copyFrom_21 : decode cX1_copyFrom 21 = .ok (.putfield 9, 3) := by decide +kernel
theorem dX1_copyFrom_24 : decode cX1_copyFrom 24 = .ok (.aload_n 0, 1) := by decide +kernel
theorem dX1_copyFrom_25 : decode cX1_copyFrom 25 = .ok (.aload_n 1, 1) := by decide +kernel
theorem dX1_copyFrom_26 : decode cX1_copyFrom 26 = .ok (.getfield 68, 3) := by decide +kernel
theorem dX1_copyFrom_29 : decode cX1_copyFrom 29 = .ok (.putfield 68, 3) := by decide +kernel
theorem dX1_copyFrom_32 : decode cX1_copyFrom 32 = .ok (.aload_n 1, 1) := by decide +kernel
theorem dX1_copyFrom_33 : decode cX1_copyFrom 33 = .ok (.getfield 15, 3) := by decide +kernel
theorem dX1_copyFrom_36 : decode cX1_copyFrom 36 = .ok (.iconst 0, 1) := by decide +kernel
theorem dX1_copyFrom_37 : decode cX1_copyFrom 37 = .ok (.aload_n 0, 1) := by decide +kernel
theorem dX1_copyFrom_38 : decode cX1_copyFrom 38 = .ok (.getfield 15, 3) := by decide +kernel
theorem dX1_copyFrom_41 : decode cX1_copyFrom 41 = .ok (.iconst 0, 1) := by decide +kernel
theorem dX1_copyFrom_42 : decode cX1_copyFrom 42 = .ok (.bipush 56, 2) := by decide +kernel
theorem dX1_copyFrom_44 : decode cX1_copyFrom 44 = .ok (.invokestatic 71, 3) := by decide +kernel
theorem dX1_copyFrom_47 : decode cX1_copyFrom 47 = .ok (.aload_n 1, 1) := by decide +kernel
theorem dX1_copyFrom_48 : decode cX1_copyFrom 48 = .ok (.getfield 19, 3) := by decide +kernel
theorem dX1_copyFrom_51 : decode cX1_copyFrom 51 = .ok (.iconst 0, 1) := by decide +kernel
theorem dX1_copyFrom_52 : decode cX1_copyFrom 52 = .ok (.aload_n 0, 1) := by decide +kernel
theorem dX1_copyFrom_53 : decode cX1_copyFrom 53 = .ok (.getfield 19, 3) := by decide +kernel
theorem dX1_copyFrom_56 : decode cX1_copyFrom 56 = .ok (.iconst 0, 1) := by decide +kernel
theorem dX1_copyFrom_57 : decode cX1_copyFrom 57 = .ok (.bipush 8, 2) := by decide +kernel
theorem dX1_copyFrom_59 : decode cX1_copyFrom 59 = .ok (.invokestatic 71, 3) := by decide +kernel
theorem dX1_copyFrom_62 : decode cX1_copyFrom 62 = .ok (.aload_n 1, 1) := by decide +kernel
theorem dX1_copyFrom_63 : decode cX1_copyFrom 63 = .ok (.getfield 22, 3) := by decide +kernel
theorem dX1_copyFrom_66 : decode cX1_copyFrom 66 = .ok (.iconst 0, 1) := by decide +kernel
theorem dX1_copyFrom_67 : decode cX1_copyFrom 67 = .ok (.aload_n 0, 1) := by decide +kernel
theorem dX1_copyFrom_68 : decode cX1_copyFrom 68 = .ok (.getfield 22, 3) := by decide +kernel
theorem dX1_copyFrom_71 : decode cX1_copyFrom 71 = .ok (.iconst 0, 1) := by decide +kernel
theorem dX1_copyFrom_72 : decode cX1_copyFrom 72 = .ok (.bipush 8, 2) := by decide +kernel
theorem dX1_copyFrom_74 : decode cX1_copyFrom 74 = .ok (.invokestatic 71, 3) := by decide +kernel
theorem dX1_copyFrom_77 : decode cX1_copyFrom 77 = .ok (.aload_n 1, 1) := by decide +kernel
theorem dX1_copyFrom_78 : decode cX1_copyFrom 78 = .ok (.getfield 25, 3) := by decide +kernel
theorem dX1_copyFrom_81 : decode cX1_copyFrom 81 = .ok (.iconst 0, 1) := by decide +kernel
theorem dX1_copyFrom_82 : decode cX1_copyFrom 82 = .ok (.aload_n 0, 1) := by decide +kernel
theorem dX1_copyFrom_83 : decode cX1_copyFrom 83 = .ok (.getfield 25, 3) := by decide +kernel
theorem dX1_copyFrom_86 : decode cX1_copyFrom 86 = .ok (.iconst 0, 1) := by decide +kernel
theorem dX1_copyFrom_87 : decode cX1_copyFrom 87 = .ok (.bipush 8, 2) := by decide +kernel
theorem dX1_copyFrom_89 : decode cX1_copyFrom 89 = .ok (.invokestatic 71, 3) := by decide +kernel
theorem dX1_copyFrom_92 : decode cX1_copyFrom 92 = .ok (.aload_n 1, 1) := by decide +kernel
theorem dX1_copyFrom_93 : decode cX1_copyFrom 93 = .ok (.getfield 28, 3) := by decide +kernel
theorem dX1_copyFrom_96 : decode cX1_copyFrom 96 = .ok (.iconst 0, 1) := by decide +kernel
theorem dX1_copyFrom_97 : decode cX1_copyFrom 97 = .ok (.aload_n 0, 1) := by decide +kernel
theorem dX1_copyFrom_98 : decode cX1_copyFrom 98 = .ok (.getfield 28, 3) := by decide +kernel
theorem dX1_copyFrom_101 : decode cX1_copyFrom 101 = .ok (.iconst 0, 1) := by decide +kernel
theorem dX1_copyFrom_102 : decode cX1_copyFrom 102 = .ok (.bipush 8, 2) := by decide +kernel
theorem dX1_copyFrom_104 : decode cX1_copyFrom 104 = .ok (.invokestatic 71, 3) := by decide +kernel
theorem dX1_copyFrom_107 : decode cX1_copyFrom 107 = .ok (.aload_n 1, 1) := by decide +kernel
theorem dX1_copyFrom_108 : decode cX1_copyFrom 108 = .ok (.getfield 31, 3) := by decide +kernel
theorem dX1_copyFrom_111 : decode cX1_copyFrom 111 = .ok (.iconst 0, 1) := by decide +kernel
theorem dX1_copyFrom_112 : decode cX1_copyFrom 112 = .ok (.aload_n 0, 1) := by decide +kernel
theorem dX1_copyFrom_113 : decode cX1_copyFrom 113 = .ok (.getfield 31, 3) := by decide +kernel
theorem dX1_copyFrom_116 : decode cX1_copyFrom 116 = .ok (.iconst 0, 1) := by decide +kernel
theorem dX1_copyFrom_117 : decode cX1_copyFrom 117 = .ok (.bipush 8, 2) := by decide +kernel
theorem dX1_copyFrom_119 : decode cX1_copyFrom 119 = .ok (.invokestatic 71, 3) := by decide +kernel
theorem dX1_copyFrom_122 : decode cX1_copyFrom 122 = .ok (.aload_n 1, 1) := by decide +kernel
theorem dX1_copyFrom_123 : decode cX1_copyFrom 123 = .ok (.getfield 34, 3) := by decide +kernel
theorem dX1_copyFrom_126 : decode cX1_copyFrom 126 = .ok (.iconst 0, 1) := by decide +kernel
theorem dX1_copyFrom_127 : decode cX1_copyFrom 127 = .ok (.aload_n 0, 1) := by decide +kernel
theorem dX1_copyFrom_128 : decode cX1_copyFrom 128 = .ok (.getfield 34, 3) := by decide +kernel
theorem dX1_copyFrom_131 : decode cX1_copyFrom 131 = .ok (.iconst 0, 1) := by decide +kernel
theorem dX1_copyFrom_132 : decode cX1_copyFrom 132 = .ok (.bipush 8, 2) := by decide +kernel
theorem dX1_copyFrom_134 : decode cX1_copyFrom 134 = .ok (.invokestatic 71, 3) := by decide +kernel
theorem dX1_copyFrom_137 : decode cX1_copyFrom 137 = .ok (.aload_n 1, 1) := by decide +kernel
theorem dX1_copyFrom_138 : decode cX1_copyFrom 138 = .ok (.getfield 37, 3) := by decide +kernel
theorem dX1_copyFrom_141 : decode cX1_copyFrom 141 = .ok (.iconst 0, 1) := by decide +kernel
theorem dX1_copyFrom_142 : decode cX1_copyFrom 142 = .ok (.aload_n 0, 1) := by decide +kernel
theorem dX1_copyFrom_143 : decode cX1_copyFrom 143 = .ok (.getfield 37, 3) := by decide +kernel
theorem dX1_copyFrom_146 : decode cX1_copyFrom 146 = .ok (.iconst 0, 1) := by decide +kernel
theorem dX1_copyFrom_147 : decode cX1_copyFrom 147 = .ok (.bipush 8, 2) := by decide +kernel
theorem dX1_copyFrom_149 : decode cX1_copyFrom 149 = .ok (.invokestatic 71, 3) := by decide +kernel
theorem dX1_copyFrom_152 : decode cX1_copyFrom 152 = .ok (.aload_n 1, 1) := by decide +kernel
theorem dX1_copyFrom_153 : decode cX1_copyFrom 153 = .ok (.getfield 40, 3) := by decide +kernel
theorem dX1_copyFrom_156 : decode cX1_copyFrom 156 = .ok (.iconst 0, 1) := by decide +kernel
theorem dX1_copyFrom_157 : decode cX1_copyFrom 157 = .ok (.aload_n 0, 1) := by decide +kernel
theorem dX1_copyFrom_158 : decode cX1_copyFrom 158 = .ok (.getfield 40, 3) := by decide +kernel
theorem dX1_copyFrom_161 : decode cX1_copyFrom 161 = .ok (.iconst 0, 1) := by decide +kernel
theorem dX1_copyFrom_162 : decode cX1_copyFrom 162 = .ok (.bipush 8, 2) := by decide +kernel
theorem dX1_copyFrom_164 : decode cX1_copyFrom 164 = .ok (.invokestatic 71, 3) := by decide +kernel
theorem dX1_copyFrom_167 : decode cX1_copyFrom 167 = .ok (.aload_n 1, 1) := by decide +kernel
theorem dX1_copyFrom_168 : decode cX1_copyFrom 168 = .ok (.getfield 43, 3) := by decide +kernel
theorem dX1_copyFrom_171 : decode cX1_copyFrom 171 = .ok (.iconst 0, 1) := by decide +kernel
theorem dX1_copyFrom_172 : decode cX1_copyFrom 172 = .ok (.aload_n 0, 1) := by decide +kernel
theorem dX1_copyFrom_173 : decode cX1_copyFrom 173 = .ok (.getfield 43, 3) := by decide +kernel
theorem dX1_copyFrom_176 : decode cX1_copyFrom 176 = .ok (.iconst 0, 1) := by decide +kernel
theorem dX1_copyFrom_177 : decode cX1_copyFrom 177 = .ok (.bipush 32, 2) := by decide +kernel
theorem dX1_copyFrom_179 : decode cX1_copyFrom 179 = .ok (.invokestatic 71, 3) := by decide +kernel
theorem dX1_copyFrom_182 : decode cX1_copyFrom 182 = .ok (.aload_n 0, 1) := by decide +kernel
theorem dX1_copyFrom_183 : decode cX1_copyFrom 183 = .ok (.getfield 49, 3) := by decide +kernel
theorem dX1_copyFrom_186 : decode cX1_copyFrom 186 = .ok (.aload_n 1, 1) := by decide +kernel
theorem dX1_copyFrom_187 : decode cX1_copyFrom 187 = .ok (.getfield 49, 3) := by decide +kernel
theorem dX1_copyFrom_190 : decode cX1_copyFrom 190 = .ok (.invokevirtual 77, 3) := by decide +kernel
theorem dX1_copyFrom_193 : decode cX1_copyFrom 193 = .ok (.return_, 1) := by decide +kernel
theorem dX1_add_0 : decode cX1_add 0 = .ok (.aload_n 0, 1) := by decide +kernel
theorem dX1_add_1 : decode cX1_add 1 = .ok (.getfield 62, 3) := by decide +kernel
theorem dX1_add_4 : decode cX1_add 4 = .ok (.istore 5, 2) := by decide +kernel
theorem dX1_add_6 : decode cX1_add 6 = .ok (.iload 5, 2) := by decide +kernel
theorem dX1_add_8 : decode cX1_add 8 = .ok (.bipush 7, 2) := by decide +kernel
theorem dX1_add_10 : decode cX1_add 10 = .ok (.imul, 1) := by decide +kernel
theorem dX1_add_11 : decode cX1_add 11 = .ok (.istore 6, 2) := by decide +kernel
theorem dX1_add_13 : decode cX1_add 13 = .ok (.aload_n 0, 1) := by decide +kernel
theorem dX1_add_14 : decode cX1_add 14 = .ok (.getfield 15, 3) := by decide +kernel
theorem dX1_add_17 : decode cX1_add 17 = .ok (.iload 6, 2) := by decide +kernel
theorem dX1_add_19 : decode cX1_add 19 = .ok (.iconst 0, 1) := by decide +kernel
theorem dX1_add_20 : decode cX1_add 20 = .ok (.iadd, 1) := by decide +kernel
theorem dX1_add_21 : decode cX1_add 21 = .ok (.iload_n 1, 1) := by decide +kernel
theorem dX1_add_22 : decode cX1_add 22 = .ok (.iastore, 1) := by decide +kernel
theorem dX1_add_23 : decode cX1_add 23 = .ok (.aload_n 0, 1) := by decide +kernel
theorem dX1_add_24 : decode cX1_add 24 = .ok (.getfield 15, 3) := by decide +kernel
theorem dX1_add_27 : decode cX1_add 27 = .ok (.iload 6, 2) := by decide +kernel
theorem dX1_add_29 : decode cX1_add 29 = .ok (.iconst 1, 1) := by decide +kernel
theorem dX1_add_30 : decode cX1_add 30 = .ok (.iadd, 1) := by decide +kernel
theorem dX1_add_31 : decode cX1_add 31 = .ok (.iload_n 2, 1) := by decide +kernel
theorem dX1_add_32 : decode cX1_add 32 = .ok (.iastore, 1) := by decide +kernel
theorem dX1_add_33 : decode cX1_add 33 = .ok (.aload_n 0, 1) := by decide +kernel
theorem dX1_add_34 : decode cX1_add 34 = .ok (.getfield 15, 3) := by decide +kernel
theorem dX1_add_37 : decode cX1_add 37 = .ok (.iload 6, 2) := by decide +kernel
theorem dX1_add_39 : decode cX1_add 39 = .ok (.iconst 2, 1) := by decide +kernel
theorem dX1_add_40 : decode cX1_add 40 = .ok (.iadd, 1) := by decide +kernel
theorem dX1_add_41 : decode cX1_add 41 = .ok (.iload_n 3, 1) := by decide +kernel
theorem dX1_add_42 : decode cX1_add 42 = .ok (.iastore, 1) := by decide +kernel
theorem dX1_add_43 : decode cX1_add 43 = .ok (.aload_n 0, 1) := by decide +kernel
theorem dX1_add_44 : decode cX1_add 44 = .ok (.getfield 15, 3) := by decide +kernel
theorem dX1_add_47 : decode cX1_add 47 = .ok (.iload 6, 2) := by decide +kernel
theorem dX1_add_49 : decode cX1_add 49 = .ok (.iconst 3, 1) := by decide +kernel
theorem dX1_add_50 : decode cX1_add 50 = .ok (.iadd, 1) := by decide +kernel
theorem dX1_add_51 : decode cX1_add 51 = .ok (.bipush 90, 2) := by decide +kernel
theorem dX1_add_53 : decode cX1_add 53 = .ok (.iastore, 1) := by decide +kernel
theorem dX1_add_54 : decode cX1_add 54 = .ok (.aload_n 0, 1) := by decide +kernel
theorem dX1_add_55 : decode cX1_add 55 = .ok (.getfield 15, 3) := by decide +kernel
theorem dX1_add_58 : decode cX1_add 58 = .ok (.iload 6, 2) := by decide +kernel
theorem dX1_add_60 : decode cX1_add 60 = .ok (.iconst 4, 1) := by decide +kernel
theorem dX1_add_61 : decode cX1_add 61 = .ok (.iadd, 1) := by decide +kernel
theorem dX1_add_62 : decode cX1_add 62 = .ok (.iconst 2, 1) := by decide +kernel
theorem dX1_add_63 : decode cX1_add 63 = .ok (.iastore, 1) := by decide +kernel
theorem dX1_add_64 : decode cX1_add 64 = .ok (.aload_n 0, 1) := by decide +kernel
theorem dX1_add_65 : decode cX1_add 65 = .ok (.getfield 15, 3) := by decide +kernel
theorem dX1_add_68 : decode cX1_add 68 = .ok (.iload 6, 2) := by decide +kernel
theorem dX1_add_70 : decode cX1_add 70 = .ok (.iconst 5, 1) := by decide +kernel
theorem dX1_add_71 : decode cX1_add 71 = .ok (.iadd, 1) := by decide +kernel
theorem dX1_add_72 : decode cX1_add 72 = .ok (.bipush 40, 2) := by decide +kernel
theorem dX1_add_74 : decode cX1_add 74 = .ok (.iastore, 1) := by decide +kernel
theorem dX1_add_75 : decode cX1_add 75 = .ok (.aload_n 0, 1) := by decide +kernel
theorem dX1_add_76 : decode cX1_add 76 = .ok (.getfield 15, 3) := by decide +kernel
theorem dX1_add_79 : decode cX1_add 79 = .ok (.iload 6, 2) := by decide +kernel
theorem dX1_add_81 : decode cX1_add 81 = .ok (.bipush 6, 2) := by decide +kernel
theorem dX1_add_83 : decode cX1_add 83 = .ok (.iadd, 1) := by decide +kernel
theorem dX1_add_84 : decode cX1_add 84 = .ok (.iconst 2, 1) := by decide +kernel
theorem dX1_add_85 : decode cX1_add 85 = .ok (.iastore, 1) := by decide +kernel
theorem dX1_add_86 : decode cX1_add 86 = .ok (.aload_n 0, 1) := by decide +kernel
theorem dX1_add_87 : decode cX1_add 87 = .ok (.getfield 19, 3) := by decide +kernel
theorem dX1_add_90 : decode cX1_add 90 = .ok (.iload 5, 2) := by decide +kernel
theorem dX1_add_92 : decode cX1_add 92 = .ok (.iload 4, 2) := by decide +kernel
theorem dX1_add_94 : decode cX1_add 94 = .ok (.iastore, 1) := by decide +kernel
theorem dX1_add_95 : decode cX1_add 95 = .ok (.aload_n 0, 1) := by decide +kernel
theorem dX1_add_96 : decode cX1_add 96 = .ok (.getfield 22, 3) := by decide +kernel
theorem dX1_add_99 : decode cX1_add 99 = .ok (.iload 5, 2) := by decide +kernel
theorem dX1_add_101 : decode cX1_add 101 = .ok (.iconst 0, 1) := by decide +kernel
theorem dX1_add_102 : decode cX1_add 102 = .ok (.iastore, 1) := by decide +kernel
theorem dX1_add_103 : decode cX1_add 103 = .ok (.aload_n 0, 1) := by decide +kernel
theorem dX1_add_104 : decode cX1_add 104 = .ok (.getfield 25, 3) := by decide +kernel
theorem dX1_add_107 : decode cX1_add 107 = .ok (.iload 5, 2) := by decide +kernel
theorem dX1_add_109 : decode cX1_add 109 = .ok (.iconst 0, 1) := by decide +kernel
theorem dX1_add_110 : decode cX1_add 110 = .ok (.iastore, 1) := by decide +kernel
theorem dX1_add_111 : decode cX1_add 111 = .ok (.aload_n 0, 1) := by decide +kernel
theorem dX1_add_112 : decode cX1_add 112 = .ok (.getfield 28, 3) := by decide +kernel
theorem dX1_add_115 : decode cX1_add 115 = .ok (.iload 5, 2) := by decide +kernel
theorem dX1_add_117 : decode cX1_add 117 = .ok (.iconst 0, 1) := by decide +kernel
theorem dX1_add_118 : decode cX1_add 118 = .ok (.iastore, 1) := by decide +kernel
theorem dX1_add_119 : decode cX1_add 119 = .ok (.aload_n 0, 1) := by decide +kernel
theorem dX1_add_120 : decode cX1_add 120 = .ok (.getfield 31, 3) := by decide +kernel
theorem dX1_add_123 : decode cX1_add 123 = .ok (.iload 5, 2) := by decide +kernel
theorem dX1_add_125 : decode cX1_add 125 = .ok (.iconst 0, 1) := by decide +kernel
theorem dX1_add_126 : decode cX1_add 126 = .ok (.iastore, 1) := by decide +kernel
theorem dX1_add_127 : decode cX1_add 127 = .ok (.aload_n 0, 1) := by decide +kernel
theorem dX1_add_128 : decode cX1_add 128 = .ok (.getfield 34, 3) := by decide +kernel
theorem dX1_add_131 : decode cX1_add 131 = .ok (.iload 5, 2) := by decide +kernel
theorem dX1_add_133 : decode cX1_add 133 = .ok (.iconst 0, 1) := by decide +kernel
theorem dX1_add_134 : decode cX1_add 134 = .ok (.iastore, 1) := by decide +kernel
theorem dX1_add_135 : decode cX1_add 135 = .ok (.aload_n 0, 1) := by decide +kernel
theorem dX1_add_136 : decode cX1_add 136 = .ok (.getfield 37, 3) := by decide +kernel
theorem dX1_add_139 : decode cX1_add 139 = .ok (.iload 5, 2) := by decide +kernel
theorem dX1_add_141 : decode cX1_add 141 = .ok (.iconst 0, 1) := by decide +kernel
theorem dX1_add_142 : decode cX1_add 142 = .ok (.iastore, 1) := by decide +kernel
theorem dX1_add_143 : decode cX1_add 143 = .ok (.aload_n 0, 1) := by decide +kernel
theorem dX1_add_144 : decode cX1_add 144 = .ok (.getfield 40, 3) := by decide +kernel
theorem dX1_add_147 : decode cX1_add 147 = .ok (.iload 5, 2) := by decide +kernel
theorem dX1_add_149 : decode cX1_add 149 = .ok (.iconst (-1), 1) := by decide +kernel
theorem dX1_add_150 : decode cX1_add 150 = .ok (.iastore, 1) := by decide +kernel
theorem dX1_add_151 : decode cX1_add 151 = .ok (.iconst 0, 1) := by decide +kernel
theorem dX1_add_152 : decode cX1_add 152 = .ok (.istore 7, 2) := by decide +kernel
theorem dX1_add_154 : decode cX1_add 154 = .ok (.iload 7, 2) := by decide +kernel
theorem dX1_add_156 : decode cX1_add 156 = .ok (.iconst 4, 1) := by decide +kernel
theorem dX1_add_157 : decode cX1_add 157 = .ok (.if_icmp .ge 22, 3) := by decide +kernel
theorem dX1_add_160 : decode cX1_add 160 = .ok (.aload_n 0, 1) := by decide +kernel
theorem dX1_add_161 : decode cX1_add 161 = .ok (.getfield 43, 3) := by decide +kernel
theorem dX1_add_164 : decode cX1_add 164 = .ok (.iload 5, 2) := by decide +kernel
theorem dX1_add_166 : decode cX1_add 166 = .ok (.iconst 4, 1) := by decide +kernel
theorem dX1_add_167 : decode cX1_add 167 = .ok (.imul, 1) := by decide +kernel
theorem dX1_add_168 : decode cX1_add 168 = .ok (.iload 7, 2) := by decide +kernel
theorem dX1_add_170 : decode cX1_add 170 = .ok (.iadd, 1) := by decide +kernel
theorem dX1_add_171 : decode cX1_add 171 = .ok (.iconst 0, 1) := by decide +kernel
theorem dX1_add_172 : decode cX1_add 172 = .ok (.iastore, 1) := by decide +kernel
theorem dX1_add_173 : decode cX1_add 173 = .ok (.iinc 7 1, 3) := by decide +kernel
theorem dX1_add_176 : decode cX1_add 176 = .ok (.goto (-22), 3) := by decide +kernel
theorem dX1_add_179 : decode cX1_add 179 = .ok (.aload_n 0, 1) := by decide +kernel
theorem dX1_add_180 : decode cX1_add 180 = .ok (.dup, 1) := by decide +kernel
theorem dX1_add_181 : decode cX1_add 181 = .ok (.getfield 62, 3) := by decide +kernel
theorem dX1_add_184 : decode cX1_add 184 = .ok (.iconst 1, 1) := by decide +kernel
theorem dX1_add_185 : decode cX1_add 185 = .ok (.iadd, 1) := by decide +kernel
theorem dX1_add_186 : decode cX1_add 186 = .ok (.putfield 62, 3) := by decide +kernel
theorem dX1_add_189 : decode cX1_add 189 = .ok (.return_, 1) := by decide +kernel
theorem dX1_propertyOf_0 : decode cX1_propertyOf 0 = .ok (.aload_n 0, 1) := by decide +kernel
theorem dX1_propertyOf_1 : decode cX1_propertyOf 1 = .ok (.getfield 15, 3) := by decide +kernel
theorem dX1_propertyOf_4 : decode cX1_propertyOf 4 = .ok (.iload_n 1, 1) := by decide +kernel
theorem dX1_propertyOf_5 : decode cX1_propertyOf 5 = .ok (.bipush 7, 2) := by decide +kernel
theorem dX1_propertyOf_7 : decode cX1_propertyOf 7 = .ok (.imul, 1) := by decide +kernel
theorem dX1_propertyOf_8 : decode cX1_propertyOf 8 = .ok (.iload_n 2, 1) := by decide +kernel
theorem dX1_propertyOf_9 : decode cX1_propertyOf 9 = .ok (.iadd, 1) := by decide +kernel
theorem dX1_propertyOf_10 : decode cX1_propertyOf 10 = .ok (.iaload, 1) := by decide +kernel
theorem dX1_propertyOf_11 : decode cX1_propertyOf 11 = .ok (.ireturn, 1) := by decide +kernel
theorem dX1_isWanted_0 : decode cX1_isWanted 0 = .ok (.aload_n 0, 1) := by decide +kernel
theorem dX1_isWanted_1 : decode cX1_isWanted 1 = .ok (.getfield 68, 3) := by decide +kernel
theorem dX1_isWanted_4 : decode cX1_isWanted 4 = .ok (.iconst 1, 1) := by decide +kernel
theorem dX1_isWanted_5 : decode cX1_isWanted 5 = .ok (.iload_n 1, 1) := by decide +kernel
theorem dX1_isWanted_6 : decode cX1_isWanted 6 = .ok (.ishl, 1) := by decide +kernel
theorem dX1_isWanted_7 : decode cX1_isWanted 7 = .ok (.iand, 1) := by decide +kernel
theorem dX1_isWanted_8 : decode cX1_isWanted 8 = .ok (.ifCond .eq 7, 3) := by decide +kernel
theorem dX1_isWanted_11 : decode cX1_isWanted 11 = .ok (.iconst 1, 1) := by decide +kernel
theorem dX1_isWanted_12 : decode cX1_isWanted 12 = .ok (.goto 4, 3) := by decide +kernel
theorem dX1_isWanted_15 : decode cX1_isWanted 15 = .ok (.iconst 0, 1) := by decide +kernel
theorem dX1_isWanted_16 : decode cX1_isWanted 16 = .ok (.ireturn, 1) := by decide +kernel
theorem dX1_isDischarged_0 : decode cX1_isDischarged 0 = .ok (.aload_n 0, 1) := by decide +kernel
theorem dX1_isDischarged_1 : decode cX1_isDischarged 1 = .ok (.getfield 25, 3) := by decide +kernel
theorem dX1_isDischarged_4 : decode cX1_isDischarged 4 = .ok (.iload_n 1, 1) := by decide +kernel
theorem dX1_isDischarged_5 : decode cX1_isDischarged 5 = .ok (.iaload, 1) := by decide +kernel
theorem dX1_isDischarged_6 : decode cX1_isDischarged 6 = .ok (.aload_n 0, 1) := by decide +kernel
theorem dX1_isDischarged_7 : decode cX1_isDischarged 7 = .ok (.getfield 9, 3) := by decide +kernel
theorem dX1_isDischarged_10 : decode cX1_isDischarged 10 = .ok (.if_icmp .gt 7, 3) := by decide +kernel
theorem dX1_isDischarged_13 : decode cX1_isDischarged 13 = .ok (.iconst 1, 1) := by decide +kernel
theorem dX1_isDischarged_14 : decode cX1_isDischarged 14 = .ok (.goto 4, 3) := by decide +kernel
theorem dX1_isDischarged_17 : decode cX1_isDischarged 17 = .ok (.iconst 0, 1) := by decide +kernel
theorem dX1_isDischarged_18 : decode cX1_isDischarged 18 = .ok (.ireturn, 1) := by decide +kernel
theorem dX1_hasFlag_0 : decode cX1_hasFlag 0 = .ok (.aload_n 0, 1) := by decide +kernel
theorem dX1_hasFlag_1 : decode cX1_hasFlag 1 = .ok (.getfield 28, 3) := by decide +kernel
theorem dX1_hasFlag_4 : decode cX1_hasFlag 4 = .ok (.iload_n 1, 1) := by decide +kernel
theorem dX1_hasFlag_5 : decode cX1_hasFlag 5 = .ok (.iaload, 1) := by decide +kernel
theorem dX1_hasFlag_6 : decode cX1_hasFlag 6 = .ok (.ifCond .eq 19, 3) := by decide +kernel
theorem dX1_hasFlag_9 : decode cX1_hasFlag 9 = .ok (.aload_n 0, 1) := by decide +kernel
theorem dX1_hasFlag_10 : decode cX1_hasFlag 10 = .ok (.getfield 28, 3) := by decide +kernel
theorem dX1_hasFlag_13 : decode cX1_hasFlag 13 = .ok (.iload_n 1, 1) := by decide +kernel
theorem dX1_hasFlag_14 : decode cX1_hasFlag 14 = .ok (.iaload, 1) := by decide +kernel
theorem dX1_hasFlag_15 : decode cX1_hasFlag 15 = .ok (.iconst 2, 1) := by decide +kernel
theorem dX1_hasFlag_16 : decode cX1_hasFlag 16 = .ok (.if_icmp .ne 7, 3) := by decide +kernel
theorem dX1_hasFlag_19 : decode cX1_hasFlag 19 = .ok (.iconst 1, 1) := by decide +kernel
theorem dX1_hasFlag_20 : decode cX1_hasFlag 20 = .ok (.goto 4, 3) := by decide +kernel
theorem dX1_hasFlag_23 : decode cX1_hasFlag 23 = .ok (.iconst 0, 1) := by decide +kernel
theorem dX1_hasFlag_24 : decode cX1_hasFlag 24 = .ok (.ireturn, 1) := by decide +kernel
theorem dX1_hasFlag_25 : decode cX1_hasFlag 25 = .ok (.iload_n 1, 1) := by decide +kernel
theorem dX1_hasFlag_26 : decode cX1_hasFlag 26 = .ok (.bipush 7, 2) := by decide +kernel
theorem dX1_hasFlag_28 : decode cX1_hasFlag 28 = .ok (.imul, 1) := by decide +kernel
theorem dX1_hasFlag_29 : decode cX1_hasFlag 29 = .ok (.istore_n 2, 1) := by decide +kernel
theorem dX1_hasFlag_30 : decode cX1_hasFlag 30 = .ok (.aload_n 0, 1) := by decide +kernel
theorem dX1_hasFlag_31 : decode cX1_hasFlag 31 = .ok (.getfield 25, 3) := by decide +kernel
theorem dX1_hasFlag_34 : decode cX1_hasFlag 34 = .ok (.iload_n 1, 1) := by decide +kernel
theorem dX1_hasFlag_35 : decode cX1_hasFlag 35 = .ok (.iaload, 1) := by decide +kernel
theorem dX1_hasFlag_36 : decode cX1_hasFlag 36 = .ok (.bipush 100, 2) := by decide +kernel
theorem dX1_hasFlag_38 : decode cX1_hasFlag 38 = .ok (.imul, 1) := by decide +kernel
theorem dX1_hasFlag_39 : decode cX1_hasFlag 39 = .ok (.aload_n 0, 1) := by decide +kernel
theorem dX1_hasFlag_40 : decode cX1_hasFlag 40 = .ok (.getfield 15, 3) := by decide +kernel
theorem dX1_hasFlag_43 : decode cX1_hasFlag 43 = .ok (.iload_n 2, 1) := by decide +kernel
theorem dX1_hasFlag_44 : decode cX1_hasFlag 44 = .ok (.iconst 0, 1) := by decide +kernel
theorem dX1_hasFlag_45 : decode cX1_hasFlag 45 = .ok (.iadd, 1) := by decide +kernel
theorem dX1_hasFlag_46 : decode cX1_hasFlag 46 = .ok (.iaload, 1) := by decide +kernel
theorem dX1_hasFlag_47 : decode cX1_hasFlag 47 = .ok (.aload_n 0, 1) := by decide +kernel
theorem dX1_hasFlag_48 : decode cX1_hasFlag 48 = .ok (.getfield 15, 3) := by decide +kernel
theorem dX1_hasFlag_51 : decode cX1_hasFlag 51 = .ok (.iload_n 2, 1) := by decide +kernel
theorem dX1_hasFlag_52 : decode cX1_hasFlag 52 = .ok (.iconst 3, 1) := by decide +kernel
theorem dX1_hasFlag_53 : decode cX1_hasFlag 53 = .ok (.iadd, 1) := by decide +kernel
theorem dX1_hasFlag_54 : decode cX1_hasFlag 54 = .ok (.iaload, 1) := by decide +kernel
theorem dX1_hasFlag_55 : decode cX1_hasFlag 55 = .ok (.imul, 1) := by decide +kernel
theorem dX1_hasFlag_56 : decode cX1_hasFlag 56 = .ok (.if_icmp .lt 7, 3) := by decide +kernel
theorem dX1_hasFlag_59 : decode cX1_hasFlag 59 = .ok (.iconst 1, 1) := by decide +kernel
theorem dX1_hasFlag_60 : decode cX1_hasFlag 60 = .ok (.goto 4, 3) := by decide +kernel
theorem dX1_hasFlag_63 : decode cX1_hasFlag 63 = .ok (.iconst 0, 1) := by decide +kernel
theorem dX1_hasFlag_64 : decode cX1_hasFlag 64 = .ok (.ireturn, 1) := by decide +kernel
theorem dX1_numberOf_0 : decode cX1_numberOf 0 = .ok (.iload_n 2, 1) := by decide +kernel
theorem dX1_numberOf_1 : decode cX1_numberOf 1 = .ok (.tableswitch 167 7 18 #[63, 70, 84, 98, 105, 112, 126, 133, 140, 147, 154, 161], 63) := by decide +kernel
theorem dX1_numberOf_64 : decode cX1_numberOf 64 = .ok (.aload_n 0, 1) := by decide +kernel
theorem dX1_numberOf_65 : decode cX1_numberOf 65 = .ok (.getfield 19, 3) := by decide +kernel
theorem dX1_numberOf_68 : decode cX1_numberOf 68 = .ok (.iload_n 1, 1) := by decide +kernel
theorem dX1_numberOf_69 : decode cX1_numberOf 69 = .ok (.iaload, 1) := by decide +kernel
theorem dX1_numberOf_70 : decode cX1_numberOf 70 = .ok (.ireturn, 1) := by decide +kernel
theorem dX1_numberOf_71 : decode cX1_numberOf 71 = .ok (.aload_n 0, 1) := by decide +kernel
theorem dX1_numberOf_72 : decode cX1_numberOf 72 = .ok (.iconst 1, 1) := by decide +kernel
theorem dX1_numberOf_73 : decode cX1_numberOf 73 = .ok (.iload_n 1, 1) := by decide +kernel
theorem dX1_numberOf_74 : decode cX1_numberOf 74 = .ok (.ishl, 1) := by decide +kernel
theorem dX1_numberOf_75 : decode cX1_numberOf 75 = .ok (.invokevirtual 81, 3) := by decide +kernel
theorem dX1_numberOf_78 : decode cX1_numberOf 78 = .ok (.iconst 1, 1) := by decide +kernel
theorem dX1_numberOf_79 : decode cX1_numberOf 79 = .ok (.iload_n 1, 1) := by decide +kernel
theorem dX1_numberOf_80 : decode cX1_numberOf 80 = .ok (.ishl, 1) := by decide +kernel
theorem dX1_numberOf_81 : decode cX1_numberOf 81 = .ok (.iconst (-1), 1) := by decide +kernel
theorem dX1_numberOf_82 : decode cX1_numberOf 82 = .ok (.ixor, 1) := by decide +kernel
theorem dX1_numberOf_83 : decode cX1_numberOf 83 = .ok (.iand, 1) := by decide +kernel
theorem dX1_numberOf_84 : decode cX1_numberOf 84 = .ok (.ireturn, 1) := by decide +kernel
theorem dX1_numberOf_85 : decode cX1_numberOf 85 = .ok (.aload_n 0, 1) := by decide +kernel
theorem dX1_numberOf_86 : decode cX1_numberOf 86 = .ok (.iload_n 1, 1) := by decide +kernel
theorem dX1_numberOf_87 : decode cX1_numberOf 87 = .ok (.invokevirtual 85, 3) := by decide +kernel
theorem dX1_numberOf_90 : decode cX1_numberOf 90 = .ok (.ifCond .eq 7, 3) := by decide +kernel
theorem dX1_numberOf_93 : decode cX1_numberOf 93 = .ok (.iconst 1, 1) := by decide +kernel
theorem dX1_numberOf_94 : decode cX1_numberOf 94 = .ok (.goto 4, 3) := by decide +kernel
theorem dX1_numberOf_97 : decode cX1_numberOf 97 = .ok (.iconst 0, 1) := by decide +kernel
theorem dX1_numberOf_98 : decode cX1_numberOf 98 = .ok (.ireturn, 1) := by decide +kernel
theorem dX1_numberOf_99 : decode cX1_numberOf 99 = .ok (.aload_n 0, 1) := by decide +kernel
theorem dX1_numberOf_100 : decode cX1_numberOf 100 = .ok (.getfield 22, 3) := by decide +kernel
theorem dX1_numberOf_103 : decode cX1_numberOf 103 = .ok (.iload_n 1, 1) := by decide +kernel
theorem dX1_numberOf_104 : decode cX1_numberOf 104 = .ok (.iaload, 1) := by decide +kernel
theorem dX1_numberOf_105 : decode cX1_numberOf 105 = .ok (.ireturn, 1) := by decide +kernel
theorem dX1_numberOf_106 : decode cX1_numberOf 106 = .ok (.aload_n 0, 1) := by decide +kernel
theorem dX1_numberOf_107 : decode cX1_numberOf 107 = .ok (.getfield 25, 3) := by decide +kernel
theorem dX1_numberOf_110 : decode cX1_numberOf 110 = .ok (.iload_n 1, 1) := by decide +kernel
theorem dX1_numberOf_111 : decode cX1_numberOf 111 = .ok (.iaload, 1) := by decide +kernel
theorem dX1_numberOf_112 : decode cX1_numberOf 112 = .ok (.ireturn, 1) := by decide +kernel
theorem dX1_numberOf_113 : decode cX1_numberOf 113 = .ok (.aload_n 0, 1) := by decide +kernel
theorem dX1_numberOf_114 : decode cX1_numberOf 114 = .ok (.iload_n 1, 1) := by decide +kernel
theorem dX1_numberOf_115 : decode cX1_numberOf 115 = .ok (.invokevirtual 89, 3) := by decide +kernel
theorem dX1_numberOf_118 : decode cX1_numberOf 118 = .ok (.ifCond .eq 7, 3) := by decide +kernel
theorem dX1_numberOf_121 : decode cX1_numberOf 121 = .ok (.iconst 1, 1) := by decide +kernel
theorem dX1_numberOf_122 : decode cX1_numberOf 122 = .ok (.goto 4, 3) := by decide +kernel
theorem dX1_numberOf_125 : decode cX1_numberOf 125 = .ok (.iconst 0, 1) := by decide +kernel
theorem dX1_numberOf_126 : decode cX1_numberOf 126 = .ok (.ireturn, 1) := by decide +kernel
theorem dX1_numberOf_127 : decode cX1_numberOf 127 = .ok (.aload_n 0, 1) := by decide +kernel
theorem dX1_numberOf_128 : decode cX1_numberOf 128 = .ok (.getfield 28, 3) := by decide +kernel
theorem dX1_numberOf_131 : decode cX1_numberOf 131 = .ok (.iload_n 1, 1) := by decide +kernel
theorem dX1_numberOf_132 : decode cX1_numberOf 132 = .ok (.iaload, 1) := by decide +kernel
theorem dX1_numberOf_133 : decode cX1_numberOf 133 = .ok (.ireturn, 1) := by decide +kernel
theorem dX1_numberOf_134 : decode cX1_numberOf 134 = .ok (.aload_n 0, 1) := by decide +kernel
theorem dX1_numberOf_135 : decode cX1_numberOf 135 = .ok (.getfield 31, 3) := by decide +kernel
theorem dX1_numberOf_138 : decode cX1_numberOf 138 = .ok (.iload_n 1, 1) := by decide +kernel
theorem dX1_numberOf_139 : decode cX1_numberOf 139 = .ok (.iaload, 1) := by decide +kernel
theorem dX1_numberOf_140 : decode cX1_numberOf 140 = .ok (.ireturn, 1) := by decide +kernel
theorem dX1_numberOf_141 : decode cX1_numberOf 141 = .ok (.aload_n 0, 1) := by decide +kernel
theorem dX1_numberOf_142 : decode cX1_numberOf 142 = .ok (.getfield 34, 3) := by decide +kernel
theorem dX1_numberOf_145 : decode cX1_numberOf 145 = .ok (.iload_n 1, 1) := by decide +kernel
theorem dX1_numberOf_146 : decode cX1_numberOf 146 = .ok (.iaload, 1) := by decide +kernel
theorem dX1_numberOf_147 : decode cX1_numberOf 147 = .ok (.ireturn, 1) := by decide +kernel
theorem dX1_numberOf_148 : decode cX1_numberOf 148 = .ok (.aload_n 0, 1) := by decide +kernel
theorem dX1_numberOf_149 : decode cX1_numberOf 149 = .ok (.getfield 37, 3) := by decide +kernel
theorem dX1_numberOf_152 : decode cX1_numberOf 152 = .ok (.iload_n 1, 1) := by decide +kernel
theorem dX1_numberOf_153 : decode cX1_numberOf 153 = .ok (.iaload, 1) := by decide +kernel
theorem dX1_numberOf_154 : decode cX1_numberOf 154 = .ok (.ireturn, 1) := by decide +kernel
theorem dX1_numberOf_155 : decode cX1_numberOf 155 = .ok (.aload_n 0, 1) := by decide +kernel
theorem dX1_numberOf_156 : decode cX1_numberOf 156 = .ok (.getfield 40, 3) := by decide +kernel
theorem dX1_numberOf_159 : decode cX1_numberOf 159 = .ok (.iload_n 1, 1) := by decide +kernel
theorem dX1_numberOf_160 : decode cX1_numberOf 160 = .ok (.iaload, 1) := by decide +kernel
theorem dX1_numberOf_161 : decode cX1_numberOf 161 = .ok (.ireturn, 1) := by decide +kernel
theorem dX1_numberOf_162 : decode cX1_numberOf 162 = .ok (.aload_n 0, 1) := by decide +kernel
theorem dX1_numberOf_163 : decode cX1_numberOf 163 = .ok (.iload_n 1, 1) := by decide +kernel
theorem dX1_numberOf_164 : decode cX1_numberOf 164 = .ok (.invokevirtual 92, 3) := by decide +kernel
theorem dX1_numberOf_167 : decode cX1_numberOf 167 = .ok (.ireturn, 1) := by decide +kernel
theorem dX1_numberOf_168 : decode cX1_numberOf 168 = .ok (.aload_n 0, 1) := by decide +kernel
theorem dX1_numberOf_169 : decode cX1_numberOf 169 = .ok (.iload_n 1, 1) := by decide +kernel
theorem dX1_numberOf_170 : decode cX1_numberOf 170 = .ok (.iload_n 2, 1) := by decide +kernel
theorem dX1_numberOf_171 : decode cX1_numberOf 171 = .ok (.invokevirtual 95, 3) := by decide +kernel
theorem dX1_numberOf_174 : decode cX1_numberOf 174 = .ok (.ireturn, 1) := by decide +kernel
theorem dX1_firstBlameOf_0 : decode cX1_firstBlameOf 0 = .ok (.aload_n 0, 1) := by decide +kernel
theorem dX1_firstBlameOf_1 : decode cX1_firstBlameOf 1 = .ok (.getfield 40, 3) := by decide +kernel
theorem dX1_firstBlameOf_4 : decode cX1_firstBlameOf 4 = .ok (.iload_n 1, 1) := by decide +kernel
theorem dX1_firstBlameOf_5 : decode cX1_firstBlameOf 5 = .ok (.iaload, 1) := by decide +kernel
theorem dX1_firstBlameOf_6 : decode cX1_firstBlameOf 6 = .ok (.iconst (-1), 1) := by decide +kernel
theorem dX1_firstBlameOf_7 : decode cX1_firstBlameOf 7 = .ok (.if_icmp .ne 5, 3) := by decide +kernel
theorem dX1_firstBlameOf_10 : decode cX1_firstBlameOf 10 = .ok (.iconst (-1), 1) := by decide +kernel
theorem dX1_firstBlameOf_11 : decode cX1_firstBlameOf 11 = .ok (.ireturn, 1) := by decide +kernel
theorem dX1_firstBlameOf_12 : decode cX1_firstBlameOf 12 = .ok (.iload_n 1, 1) := by decide +kernel
theorem dX1_firstBlameOf_13 : decode cX1_firstBlameOf 13 = .ok (.istore_n 2, 1) := by decide +kernel
theorem dX1_firstBlameOf_14 : decode cX1_firstBlameOf 14 = .ok (.iconst 0, 1) := by decide +kernel
theorem dX1_firstBlameOf_15 : decode cX1_firstBlameOf 15 = .ok (.istore_n 3, 1) := by decide +kernel
theorem dX1_firstBlameOf_16 : decode cX1_firstBlameOf 16 = .ok (.iload_n 3, 1) := by decide +kernel
theorem dX1_firstBlameOf_17 : decode cX1_firstBlameOf 17 = .ok (.bipush 8, 2) := by decide +kernel
theorem dX1_firstBlameOf_19 : decode cX1_firstBlameOf 19 = .ok (.if_icmp .ge 26, 3) := by decide +kernel
theorem dX1_firstBlameOf_22 : decode cX1_firstBlameOf 22 = .ok (.aload_n 0, 1) := by decide +kernel
theorem dX1_firstBlameOf_23 : decode cX1_firstBlameOf 23 = .ok (.getfield 40, 3) := by decide +kernel
theorem dX1_firstBlameOf_26 : decode cX1_firstBlameOf 26 = .ok (.iload_n 2, 1) := by decide +kernel
theorem dX1_firstBlameOf_27 : decode cX1_firstBlameOf 27 = .ok (.iaload, 1) := by decide +kernel
theorem dX1_firstBlameOf_28 : decode cX1_firstBlameOf 28 = .ok (.iconst (-1), 1) := by decide +kernel
theorem dX1_firstBlameOf_29 : decode cX1_firstBlameOf 29 = .ok (.if_icmp .eq 16, 3) := by decide +kernel
theorem dX1_firstBlameOf_32 : decode cX1_firstBlameOf 32 = .ok (.aload_n 0, 1) := by decide +kernel
theorem dX1_firstBlameOf_33 : decode cX1_firstBlameOf 33 = .ok (.getfield 40, 3) := by decide +kernel
theorem dX1_firstBlameOf_36 : decode cX1_firstBlameOf 36 = .ok (.iload_n 2, 1) := by decide +kernel
theorem dX1_firstBlameOf_37 : decode cX1_firstBlameOf 37 = .ok (.iaload, 1) := by decide +kernel
theorem dX1_firstBlameOf_38 : decode cX1_firstBlameOf 38 = .ok (.istore_n 2, 1) := by decide +kernel
theorem dX1_firstBlameOf_39 : decode cX1_firstBlameOf 39 = .ok (.iinc 3 1, 3) := by decide +kernel
theorem dX1_firstBlameOf_42 : decode cX1_firstBlameOf 42 = .ok (.goto (-26), 3) := by decide +kernel
theorem dX1_firstBlameOf_45 : decode cX1_firstBlameOf 45 = .ok (.iload_n 2, 1) := by decide +kernel
theorem dX1_firstBlameOf_46 : decode cX1_firstBlameOf 46 = .ok (.ireturn, 1) := by decide +kernel
theorem dX1_leastPatienceOf_0 : decode cX1_leastPatienceOf 0 = .ok (.aload_n 0, 1) := by decide +kernel
theorem dX1_leastPatienceOf_1 : decode cX1_leastPatienceOf 1 = .ok (.iload_n 1, 1) := by decide +kernel
theorem dX1_leastPatienceOf_2 : decode cX1_leastPatienceOf 2 = .ok (.iconst 0, 1) := by decide +kernel
theorem dX1_leastPatienceOf_3 : decode cX1_leastPatienceOf 3 = .ok (.invokevirtual 95, 3) := by decide +kernel
theorem dX1_leastPatienceOf_6 : decode cX1_leastPatienceOf 6 = .ok (.aload_n 0, 1) := by decide +kernel
theorem dX1_leastPatienceOf_7 : decode cX1_leastPatienceOf 7 = .ok (.iload_n 1, 1) := by decide +kernel
theorem dX1_leastPatienceOf_8 : decode cX1_leastPatienceOf 8 = .ok (.iconst 3, 1) := by decide +kernel
theorem dX1_leastPatienceOf_9 : decode cX1_leastPatienceOf 9 = .ok (.invokevirtual 95, 3) := by decide +kernel
theorem dX1_leastPatienceOf_12 : decode cX1_leastPatienceOf 12 = .ok (.imul, 1) := by decide +kernel
theorem dX1_leastPatienceOf_13 : decode cX1_leastPatienceOf 13 = .ok (.istore_n 2, 1) := by decide +kernel
theorem dX1_leastPatienceOf_14 : decode cX1_leastPatienceOf 14 = .ok (.aload_n 0, 1) := by decide +kernel
theorem dX1_leastPatienceOf_15 : decode cX1_leastPatienceOf 15 = .ok (.iload_n 1, 1) := by decide +kernel
theorem dX1_leastPatienceOf_16 : decode cX1_leastPatienceOf 16 = .ok (.iconst 1, 1) := by decide +kernel
theorem dX1_leastPatienceOf_17 : decode cX1_leastPatienceOf 17 = .ok (.invokevirtual 95, 3) := by decide +kernel
theorem dX1_leastPatienceOf_20 : decode cX1_leastPatienceOf 20 = .ok (.bipush 100, 2) := by decide +kernel
theorem dX1_leastPatienceOf_22 : decode cX1_leastPatienceOf 22 = .ok (.imul, 1) := by decide +kernel
theorem dX1_leastPatienceOf_23 : decode cX1_leastPatienceOf 23 = .ok (.istore_n 3, 1) := by decide +kernel
theorem dX1_leastPatienceOf_24 : decode cX1_leastPatienceOf 24 = .ok (.getstatic 99, 3) := by decide +kernel
theorem dX1_leastPatienceOf_27 : decode cX1_leastPatienceOf 27 = .ok (.iconst 5, 1) := by decide +kernel
theorem dX1_leastPatienceOf_28 : decode cX1_leastPatienceOf 28 = .ok (.iaload, 1) := by decide +kernel
theorem dX1_leastPatienceOf_29 : decode cX1_leastPatienceOf 29 = .ok (.istore 4, 2) := by decide +kernel
theorem dX1_leastPatienceOf_31 : decode cX1_leastPatienceOf 31 = .ok (.iload 4, 2) := by decide +kernel
theorem dX1_leastPatienceOf_33 : decode cX1_leastPatienceOf 33 = .ok (.getstatic 102, 3) := by decide +kernel
theorem dX1_leastPatienceOf_36 : decode cX1_leastPatienceOf 36 = .ok (.iconst 5, 1) := by decide +kernel
theorem dX1_leastPatienceOf_37 : decode cX1_leastPatienceOf 37 = .ok (.iaload, 1) := by decide +kernel
theorem dX1_leastPatienceOf_38 : decode cX1_leastPatienceOf 38 = .ok (.if_icmp .gt 20, 3) := by decide +kernel
theorem dX1_leastPatienceOf_41 : decode cX1_leastPatienceOf 41 = .ok (.iload 4, 2) := by decide +kernel
theorem dX1_leastPatienceOf_43 : decode cX1_leastPatienceOf 43 = .ok (.iload_n 3, 1) := by decide +kernel
theorem dX1_leastPatienceOf_44 : decode cX1_leastPatienceOf 44 = .ok (.imul, 1) := by decide +kernel
theorem dX1_leastPatienceOf_45 : decode cX1_leastPatienceOf 45 = .ok (.iload_n 2, 1) := by decide +kernel
theorem dX1_leastPatienceOf_46 : decode cX1_leastPatienceOf 46 = .ok (.if_icmp .lt 6, 3) := by decide +kernel
theorem dX1_leastPatienceOf_49 : decode cX1_leastPatienceOf 49 = .ok (.iload 4, 2) := by decide +kernel
theorem dX1_leastPatienceOf_51 : decode cX1_leastPatienceOf 51 = .ok (.ireturn, 1) := by decide +kernel
theorem dX1_leastPatienceOf_52 : decode cX1_leastPatienceOf 52 = .ok (.iinc 4 1, 3) := by decide +kernel
theorem dX1_leastPatienceOf_55 : decode cX1_leastPatienceOf 55 = .ok (.goto (-24), 3) := by decide +kernel
theorem dX1_leastPatienceOf_58 : decode cX1_leastPatienceOf 58 = .ok (.iconst (-1), 1) := by decide +kernel
theorem dX1_leastPatienceOf_59 : decode cX1_leastPatienceOf 59 = .ok (.ireturn, 1) := by decide +kernel
theorem dX1_withAllNeeded_0 : decode cX1_withAllNeeded 0 = .ok (.iload_n 1, 1) := by decide +kernel
theorem dX1_withAllNeeded_1 : decode cX1_withAllNeeded 1 = .ok (.istore_n 2, 1) := by decide +kernel
theorem dX1_withAllNeeded_2 : decode cX1_withAllNeeded 2 = .ok (.aload_n 0, 1) := by decide +kernel
theorem dX1_withAllNeeded_3 : decode cX1_withAllNeeded 3 = .ok (.getfield 62, 3) := by decide +kernel
theorem dX1_withAllNeeded_6 : decode cX1_withAllNeeded 6 = .ok (.iconst 1, 1) := by decide +kernel
theorem dX1_withAllNeeded_7 : decode cX1_withAllNeeded 7 = .ok (.isub, 1) := by decide +kernel
theorem dX1_withAllNeeded_8 : decode cX1_withAllNeeded 8 = .ok (.istore_n 3, 1) := by decide +kernel
theorem dX1_withAllNeeded_9 : decode cX1_withAllNeeded 9 = .ok (.iload_n 3, 1) := by decide +kernel
theorem dX1_withAllNeeded_10 : decode cX1_withAllNeeded 10 = .ok (.ifCond .lt 26, 3) := by decide +kernel
theorem dX1_withAllNeeded_13 : decode cX1_withAllNeeded 13 = .ok (.iload_n 2, 1) := by decide +kernel
theorem dX1_withAllNeeded_14 : decode cX1_withAllNeeded 14 = .ok (.iconst 1, 1) := by decide +kernel
theorem dX1_withAllNeeded_15 : decode cX1_withAllNeeded 15 = .ok (.iload_n 3, 1) := by decide +kernel
theorem dX1_withAllNeeded_16 : decode cX1_withAllNeeded 16 = .ok (.ishl, 1) := by decide +kernel
theorem dX1_withAllNeeded_17 : decode cX1_withAllNeeded 17 = .ok (.iand, 1) := by decide +kernel
theorem dX1_withAllNeeded_18 : decode cX1_withAllNeeded 18 = .ok (.ifCond .eq 12, 3) := by decide +kernel
theorem dX1_withAllNeeded_21 : decode cX1_withAllNeeded 21 = .ok (.iload_n 2, 1) := by decide +kernel
theorem dX1_withAllNeeded_22 : decode cX1_withAllNeeded 22 = .ok (.aload_n 0, 1) := by decide +kernel
theorem dX1_withAllNeeded_23 : decode cX1_withAllNeeded 23 = .ok (.getfield 19, 3) := by decide +kernel
theorem dX1_withAllNeeded_26 : decode cX1_withAllNeeded 26 = .ok (.iload_n 3, 1) := by decide +kernel
theorem dX1_withAllNeeded_27 : decode cX1_withAllNeeded 27 = .ok (.iaload, 1) := by decide +kernel
theorem dX1_withAllNeeded_28 : decode cX1_withAllNeeded 28 = .ok (.ior, 1) := by decide +kernel
theorem dX1_withAllNeeded_29 : decode cX1_withAllNeeded 29 = .ok (.istore_n 2, 1) := by decide +kernel
theorem dX1_withAllNeeded_30 : decode cX1_withAllNeeded 30 = .ok (.iinc 3 (-1), 3) := by decide +kernel
theorem dX1_withAllNeeded_33 : decode cX1_withAllNeeded 33 = .ok (.goto (-24), 3) := by decide +kernel
theorem dX1_withAllNeeded_36 : decode cX1_withAllNeeded 36 = .ok (.iload_n 2, 1) := by decide +kernel
theorem dX1_withAllNeeded_37 : decode cX1_withAllNeeded 37 = .ok (.ireturn, 1) := by decide +kernel
theorem dX1_withFollowers_0 : decode cX1_withFollowers 0 = .ok (.iload_n 1, 1) := by decide +kernel
theorem dX1_withFollowers_1 : decode cX1_withFollowers 1 = .ok (.istore_n 2, 1) := by decide +kernel
theorem dX1_withFollowers_2 : decode cX1_withFollowers 2 = .ok (.iconst 0, 1) := by decide +kernel
theorem dX1_withFollowers_3 : decode cX1_withFollowers 3 = .ok (.istore_n 3, 1) := by decide +kernel
theorem dX1_withFollowers_4 : decode cX1_withFollowers 4 = .ok (.iload_n 3, 1) := by decide +kernel
theorem dX1_withFollowers_5 : decode cX1_withFollowers 5 = .ok (.aload_n 0, 1) := by decide +kernel
theorem dX1_withFollowers_6 : decode cX1_withFollowers 6 = .ok (.getfield 62, 3) := by decide +kernel
theorem dX1_withFollowers_9 : decode cX1_withFollowers 9 = .ok (.if_icmp .ge 26, 3) := by decide +kernel
theorem dX1_withFollowers_12 : decode cX1_withFollowers 12 = .ok (.iload_n 2, 1) := by decide +kernel
theorem dX1_withFollowers_13 : decode cX1_withFollowers 13 = .ok (.aload_n 0, 1) := by decide +kernel
theorem dX1_withFollowers_14 : decode cX1_withFollowers 14 = .ok (.getfield 19, 3) := by decide +kernel
theorem dX1_withFollowers_17 : decode cX1_withFollowers 17 = .ok (.iload_n 3, 1) := by decide +kernel
theorem dX1_withFollowers_18 : decode cX1_withFollowers 18 = .ok (.iaload, 1) := by decide +kernel
theorem dX1_withFollowers_19 : decode cX1_withFollowers 19 = .ok (.iand, 1) := by decide +kernel
theorem dX1_withFollowers_20 : decode cX1_withFollowers 20 = .ok (.ifCond .eq 9, 3) := by decide +kernel
theorem dX1_withFollowers_23 : decode cX1_withFollowers 23 = .ok (.iload_n 2, 1) := by decide +kernel
theorem dX1_withFollowers_24 : decode cX1_withFollowers 24 = .ok (.iconst 1, 1) := by decide +kernel
theorem dX1_withFollowers_25 : decode cX1_withFollowers 25 = .ok (.iload_n 3, 1) := by decide +kernel
theorem dX1_withFollowers_26 : decode cX1_withFollowers 26 = .ok (.ishl, 1) := by decide +kernel
theorem dX1_withFollowers_27 : decode cX1_withFollowers 27 = .ok (.ior, 1) := by decide +kernel
theorem dX1_withFollowers_28 : decode cX1_withFollowers 28 = .ok (.istore_n 2, 1) := by decide +kernel
theorem dX1_withFollowers_29 : decode cX1_withFollowers 29 = .ok (.iinc 3 1, 3) := by decide +kernel
theorem dX1_withFollowers_32 : decode cX1_withFollowers 32 = .ok (.goto (-28), 3) := by decide +kernel
theorem dX1_withFollowers_35 : decode cX1_withFollowers 35 = .ok (.iload_n 2, 1) := by decide +kernel
theorem dX1_withFollowers_36 : decode cX1_withFollowers 36 = .ok (.ireturn, 1) := by decide +kernel
theorem dX1_maskOf_0 : decode cX1_maskOf 0 = .ok (.iconst 0, 1) := by decide +kernel
theorem dX1_maskOf_1 : decode cX1_maskOf 1 = .ok (.istore_n 2, 1) := by decide +kernel
theorem dX1_maskOf_2 : decode cX1_maskOf 2 = .ok (.iconst 0, 1) := by decide +kernel
theorem dX1_maskOf_3 : decode cX1_maskOf 3 = .ok (.istore_n 3, 1) := by decide +kernel
theorem dX1_maskOf_4 : decode cX1_maskOf 4 = .ok (.iload_n 3, 1) := by decide +kernel
theorem dX1_maskOf_5 : decode cX1_maskOf 5 = .ok (.aload_n 0, 1) := by decide +kernel
theorem dX1_maskOf_6 : decode cX1_maskOf 6 = .ok (.getfield 62, 3) := by decide +kernel
theorem dX1_maskOf_9 : decode cX1_maskOf 9 = .ok (.if_icmp .ge 25, 3) := by decide +kernel
theorem dX1_maskOf_12 : decode cX1_maskOf 12 = .ok (.aload_n 0, 1) := by decide +kernel
theorem dX1_maskOf_13 : decode cX1_maskOf 13 = .ok (.getfield 22, 3) := by decide +kernel
theorem dX1_maskOf_16 : decode cX1_maskOf 16 = .ok (.iload_n 3, 1) := by decide +kernel
theorem dX1_maskOf_17 : decode cX1_maskOf 17 = .ok (.iaload, 1) := by decide +kernel
theorem dX1_maskOf_18 : decode cX1_maskOf 18 = .ok (.iload_n 1, 1) := by decide +kernel
theorem dX1_maskOf_19 : decode cX1_maskOf 19 = .ok (.if_icmp .ne 9, 3) := by decide +kernel
theorem dX1_maskOf_22 : decode cX1_maskOf 22 = .ok (.iload_n 2, 1) := by decide +kernel
theorem dX1_maskOf_23 : decode cX1_maskOf 23 = .ok (.iconst 1, 1) := by decide +kernel
theorem dX1_maskOf_24 : decode cX1_maskOf 24 = .ok (.iload_n 3, 1) := by decide +kernel
theorem dX1_maskOf_25 : decode cX1_maskOf 25 = .ok (.ishl, 1) := by decide +kernel
theorem dX1_maskOf_26 : decode cX1_maskOf 26 = .ok (.ior, 1) := by decide +kernel
theorem dX1_maskOf_27 : decode cX1_maskOf 27 = .ok (.istore_n 2, 1) := by decide +kernel
theorem dX1_maskOf_28 : decode cX1_maskOf 28 = .ok (.iinc 3 1, 3) := by decide +kernel
theorem dX1_maskOf_31 : decode cX1_maskOf 31 = .ok (.goto (-27), 3) := by decide +kernel
theorem dX1_maskOf_34 : decode cX1_maskOf 34 = .ok (.iload_n 2, 1) := by decide +kernel
theorem dX1_maskOf_35 : decode cX1_maskOf 35 = .ok (.ireturn, 1) := by decide +kernel
theorem dX1_sumOfVoltages_0 : decode cX1_sumOfVoltages 0 = .ok (.iconst 0, 1) := by decide +kernel
theorem dX1_sumOfVoltages_1 : decode cX1_sumOfVoltages 1 = .ok (.istore_n 1, 1) := by decide +kernel
theorem dX1_sumOfVoltages_2 : decode cX1_sumOfVoltages 2 = .ok (.iconst 0, 1) := by decide +kernel
theorem dX1_sumOfVoltages_3 : decode cX1_sumOfVoltages 3 = .ok (.istore_n 2, 1) := by decide +kernel
theorem dX1_sumOfVoltages_4 : decode cX1_sumOfVoltages 4 = .ok (.iload_n 2, 1) := by decide +kernel
theorem dX1_sumOfVoltages_5 : decode cX1_sumOfVoltages 5 = .ok (.aload_n 0, 1) := by decide +kernel
theorem dX1_sumOfVoltages_6 : decode cX1_sumOfVoltages 6 = .ok (.getfield 62, 3) := by decide +kernel
theorem dX1_sumOfVoltages_9 : decode cX1_sumOfVoltages 9 = .ok (.if_icmp .ge 18, 3) := by decide +kernel
theorem dX1_sumOfVoltages_12 : decode cX1_sumOfVoltages 12 = .ok (.iload_n 1, 1) := by decide +kernel
theorem dX1_sumOfVoltages_13 : decode cX1_sumOfVoltages 13 = .ok (.aload_n 0, 1) := by decide +kernel
theorem dX1_sumOfVoltages_14 : decode cX1_sumOfVoltages 14 = .ok (.getfield 25, 3) := by decide +kernel
theorem dX1_sumOfVoltages_17 : decode cX1_sumOfVoltages 17 = .ok (.iload_n 2, 1) := by decide +kernel
theorem dX1_sumOfVoltages_18 : decode cX1_sumOfVoltages 18 = .ok (.iaload, 1) := by decide +kernel
theorem dX1_sumOfVoltages_19 : decode cX1_sumOfVoltages 19 = .ok (.iadd, 1) := by decide +kernel
theorem dX1_sumOfVoltages_20 : decode cX1_sumOfVoltages 20 = .ok (.istore_n 1, 1) := by decide +kernel
theorem dX1_sumOfVoltages_21 : decode cX1_sumOfVoltages 21 = .ok (.iinc 2 1, 3) := by decide +kernel
theorem dX1_sumOfVoltages_24 : decode cX1_sumOfVoltages 24 = .ok (.goto (-20), 3) := by decide +kernel
theorem dX1_sumOfVoltages_27 : decode cX1_sumOfVoltages 27 = .ok (.iload_n 1, 1) := by decide +kernel
theorem dX1_sumOfVoltages_28 : decode cX1_sumOfVoltages 28 = .ok (.ireturn, 1) := by decide +kernel
theorem dX1_isAnyShorted_0 : decode cX1_isAnyShorted 0 = .ok (.iconst 0, 1) := by decide +kernel
theorem dX1_isAnyShorted_1 : decode cX1_isAnyShorted 1 = .ok (.istore_n 1, 1) := by decide +kernel
theorem dX1_isAnyShorted_2 : decode cX1_isAnyShorted 2 = .ok (.iload_n 1, 1) := by decide +kernel
theorem dX1_isAnyShorted_3 : decode cX1_isAnyShorted 3 = .ok (.aload_n 0, 1) := by decide +kernel
theorem dX1_isAnyShorted_4 : decode cX1_isAnyShorted 4 = .ok (.getfield 62, 3) := by decide +kernel
theorem dX1_isAnyShorted_7 : decode cX1_isAnyShorted 7 = .ok (.if_icmp .ge 20, 3) := by decide +kernel
theorem dX1_isAnyShorted_10 : decode cX1_isAnyShorted 10 = .ok (.aload_n 0, 1) := by decide +kernel
theorem dX1_isAnyShorted_11 : decode cX1_isAnyShorted 11 = .ok (.getfield 31, 3) := by decide +kernel
theorem dX1_isAnyShorted_14 : decode cX1_isAnyShorted 14 = .ok (.iload_n 1, 1) := by decide +kernel
theorem dX1_isAnyShorted_15 : decode cX1_isAnyShorted 15 = .ok (.iaload, 1) := by decide +kernel
theorem dX1_isAnyShorted_16 : decode cX1_isAnyShorted 16 = .ok (.ifCond .le 5, 3) := by decide +kernel
theorem dX1_isAnyShorted_19 : decode cX1_isAnyShorted 19 = .ok (.iconst 1, 1) := by decide +kernel
theorem dX1_isAnyShorted_20 : decode cX1_isAnyShorted 20 = .ok (.ireturn, 1) := by decide +kernel
theorem dX1_isAnyShorted_21 : decode cX1_isAnyShorted 21 = .ok (.iinc 1 1, 3) := by decide +kernel
theorem dX1_isAnyShorted_24 : decode cX1_isAnyShorted 24 = .ok (.goto (-22), 3) := by decide +kernel
theorem dX1_isAnyShorted_27 : decode cX1_isAnyShorted 27 = .ok (.iconst 0, 1) := by decide +kernel
theorem dX1_isAnyShorted_28 : decode cX1_isAnyShorted 28 = .ok (.ireturn, 1) := by decide +kernel
theorem dX1_isAllOff_0 : decode cX1_isAllOff 0 = .ok (.iconst 0, 1) := by decide +kernel
theorem dX1_isAllOff_1 : decode cX1_isAllOff 1 = .ok (.istore_n 1, 1) := by decide +kernel
theorem dX1_isAllOff_2 : decode cX1_isAllOff 2 = .ok (.iload_n 1, 1) := by decide +kernel
theorem dX1_isAllOff_3 : decode cX1_isAllOff 3 = .ok (.aload_n 0, 1) := by decide +kernel
theorem dX1_isAllOff_4 : decode cX1_isAllOff 4 = .ok (.getfield 62, 3) := by decide +kernel
theorem dX1_isAllOff_7 : decode cX1_isAllOff 7 = .ok (.if_icmp .ge 28, 3) := by decide +kernel
theorem dX1_isAllOff_10 : decode cX1_isAllOff 10 = .ok (.aload_n 0, 1) := by decide +kernel
theorem dX1_isAllOff_11 : decode cX1_isAllOff 11 = .ok (.getfield 22, 3) := by decide +kernel
theorem dX1_isAllOff_14 : decode cX1_isAllOff 14 = .ok (.iload_n 1, 1) := by decide +kernel
theorem dX1_isAllOff_15 : decode cX1_isAllOff 15 = .ok (.iaload, 1) := by decide +kernel
theorem dX1_isAllOff_16 : decode cX1_isAllOff 16 = .ok (.ifCond .ne 11, 3) := by decide +kernel
theorem dX1_isAllOff_19 : decode cX1_isAllOff 19 = .ok (.aload_n 0, 1) := by decide +kernel
theorem dX1_isAllOff_20 : decode cX1_isAllOff 20 = .ok (.iload_n 1, 1) := by decide +kernel
theorem dX1_isAllOff_21 : decode cX1_isAllOff 21 = .ok (.invokevirtual 105, 3) := by decide +kernel
theorem dX1_isAllOff_24 : decode cX1_isAllOff 24 = .ok (.ifCond .ne 5, 3) := by decide +kernel
theorem dX1_isAllOff_27 : decode cX1_isAllOff 27 = .ok (.iconst 0, 1) := by decide +kernel
theorem dX1_isAllOff_28 : decode cX1_isAllOff 28 = .ok (.ireturn, 1) := by decide +kernel
theorem dX1_isAllOff_29 : decode cX1_isAllOff 29 = .ok (.iinc 1 1, 3) := by decide +kernel
theorem dX1_isAllOff_32 : decode cX1_isAllOff 32 = .ok (.goto (-30), 3) := by decide +kernel
theorem dX1_isAllOff_35 : decode cX1_isAllOff 35 = .ok (.iconst 1, 1) := by decide +kernel
theorem dX1_isAllOff_36 : decode cX1_isAllOff 36 = .ok (.ireturn, 1) := by decide +kernel
theorem dX1_passTick_0 : decode cX1_passTick 0 = .ok (.aload_n 0, 1) := by decide +kernel
theorem dX1_passTick_1 : decode cX1_passTick 1 = .ok (.invokevirtual 108, 3) := by decide +kernel
theorem dX1_passTick_4 : decode cX1_passTick 4 = .ok (.aload_n 0, 1) := by decide +kernel
theorem dX1_passTick_5 : decode cX1_passTick 5 = .ok (.invokevirtual 111, 3) := by decide +kernel
theorem dX1_passTick_8 : decode cX1_passTick 8 = .ok (.iconst 0, 1) := by decide +kernel
theorem dX1_passTick_9 : decode cX1_passTick 9 = .ok (.istore_n 1, 1) := by decide +kernel
theorem dX1_passTick_10 : decode cX1_passTick 10 = .ok (.iconst 0, 1) := by decide +kernel
theorem dX1_passTick_11 : decode cX1_passTick 11 = .ok (.istore_n 2, 1) := by decide +kernel
theorem dX1_passTick_12 : decode cX1_passTick 12 = .ok (.iload_n 2, 1) := by decide +kernel
theorem dX1_passTick_13 : decode cX1_passTick 13 = .ok (.aload_n 0, 1) := by decide +kernel
theorem dX1_passTick_14 : decode cX1_passTick 14 = .ok (.getfield 62, 3) := by decide +kernel
theorem dX1_passTick_17 : decode cX1_passTick 17 = .ok (.if_icmp .ge 34, 3) := by decide +kernel
theorem dX1_passTick_20 : decode cX1_passTick 20 = .ok (.aload_n 0, 1) := by decide +kernel
theorem dX1_passTick_21 : decode cX1_passTick 21 = .ok (.iload_n 2, 1) := by decide +kernel
theorem dX1_passTick_22 : decode cX1_passTick 22 = .ok (.invokevirtual 114, 3) := by decide +kernel
theorem dX1_passTick_25 : decode cX1_passTick 25 = .ok (.istore_n 3, 1) := by decide +kernel
theorem dX1_passTick_26 : decode cX1_passTick 26 = .ok (.iload_n 3, 1) := by decide +kernel
theorem dX1_passTick_27 : decode cX1_passTick 27 = .ok (.aload_n 0, 1) := by decide +kernel
theorem dX1_passTick_28 : decode cX1_passTick 28 = .ok (.getfield 22, 3) := by decide +kernel
theorem dX1_passTick_31 : decode cX1_passTick 31 = .ok (.iload_n 2, 1) := by decide +kernel
theorem dX1_passTick_32 : decode cX1_passTick 32 = .ok (.iaload, 1) := by decide +kernel
theorem dX1_passTick_33 : decode cX1_passTick 33 = .ok (.if_icmp .eq 12, 3) := by decide +kernel
theorem dX1_passTick_36 : decode cX1_passTick 36 = .ok (.aload_n 0, 1) := by decide +kernel
theorem dX1_passTick_37 : decode cX1_passTick 37 = .ok (.iload_n 2, 1) := by decide +kernel
theorem dX1_passTick_38 : decode cX1_passTick 38 = .ok (.iload_n 3, 1) := by decide +kernel
theorem dX1_passTick_39 : decode cX1_passTick 39 = .ok (.invokevirtual 117, 3) := by decide +kernel
theorem dX1_passTick_42 : decode cX1_passTick 42 = .ok (.iinc 1 1, 3) := by decide +kernel
theorem dX1_passTick_45 : decode cX1_passTick 45 = .ok (.iinc 2 1, 3) := by decide +kernel
theorem dX1_passTick_48 : decode cX1_passTick 48 = .ok (.goto (-36), 3) := by decide +kernel
theorem dX1_passTick_51 : decode cX1_passTick 51 = .ok (.aload_n 0, 1) := by decide +kernel
theorem dX1_passTick_52 : decode cX1_passTick 52 = .ok (.invokevirtual 121, 3) := by decide +kernel
theorem dX1_passTick_55 : decode cX1_passTick 55 = .ok (.iload_n 1, 1) := by decide +kernel
theorem dX1_passTick_56 : decode cX1_passTick 56 = .ok (.ireturn, 1) := by decide +kernel
theorem dX1_rememberBefore_0 : decode cX1_rememberBefore 0 = .ok (.aload_n 0, 1) := by decide +kernel
theorem dX1_rememberBefore_1 : decode cX1_rememberBefore 1 = .ok (.getfield 22, 3) := by decide +kernel
theorem dX1_rememberBefore_4 : decode cX1_rememberBefore 4 = .ok (.iconst 0, 1) := by decide +kernel
theorem dX1_rememberBefore_5 : decode cX1_rememberBefore 5 = .ok (.aload_n 0, 1) := by decide +kernel
theorem dX1_rememberBefore_6 : decode cX1_rememberBefore 6 = .ok (.getfield 53, 3) := by decide +kernel
theorem dX1_rememberBefore_9 : decode cX1_rememberBefore 9 = .ok (.iconst 0, 1) := by decide +kernel
theorem dX1_rememberBefore_10 : decode cX1_rememberBefore 10 = .ok (.bipush 8, 2) := by decide +kernel
theorem dX1_rememberBefore_12 : decode cX1_rememberBefore 12 = .ok (.invokestatic 71, 3) := by decide +kernel
theorem dX1_rememberBefore_15 : decode cX1_rememberBefore 15 = .ok (.aload_n 0, 1) := by decide +kernel
theorem dX1_rememberBefore_16 : decode cX1_rememberBefore 16 = .ok (.getfield 25, 3) := by decide +kernel
theorem dX1_rememberBefore_19 : decode cX1_rememberBefore 19 = .ok (.iconst 0, 1) := by decide +kernel
theorem dX1_rememberBefore_20 : decode cX1_rememberBefore 20 = .ok (.aload_n 0, 1) := by decide +kernel
theorem dX1_rememberBefore_21 : decode cX1_rememberBefore 21 = .ok (.getfield 56, 3) := by decide +kernel
theorem dX1_rememberBefore_24 : decode cX1_rememberBefore 24 = .ok (.iconst 0, 1) := by decide +kernel
theorem dX1_rememberBefore_25 : decode cX1_rememberBefore 25 = .ok (.bipush 8, 2) := by decide +kernel
theorem dX1_rememberBefore_27 : decode cX1_rememberBefore 27 = .ok (.invokestatic 71, 3) := by decide +kernel
theorem dX1_rememberBefore_30 : decode cX1_rememberBefore 30 = .ok (.aload_n 0, 1) := by decide +kernel
theorem dX1_rememberBefore_31 : decode cX1_rememberBefore 31 = .ok (.getfield 34, 3) := by decide +kernel
theorem dX1_rememberBefore_34 : decode cX1_rememberBefore 34 = .ok (.iconst 0, 1) := by decide +kernel
theorem dX1_rememberBefore_35 : decode cX1_rememberBefore 35 = .ok (.aload_n 0, 1) := by decide +kernel
theorem dX1_rememberBefore_36 : decode cX1_rememberBefore 36 = .ok (.getfield 59, 3) := by decide +kernel
theorem dX1_rememberBefore_39 : decode cX1_rememberBefore 39 = .ok (.iconst 0, 1) := by decide +kernel
theorem dX1_rememberBefore_40 : decode cX1_rememberBefore 40 = .ok (.bipush 8, 2) := by decide +kernel
theorem dX1_rememberBefore_42 : decode cX1_rememberBefore 42 = .ok (.invokestatic 71, 3) := by decide +kernel
theorem dX1_rememberBefore_45 : decode cX1_rememberBefore 45 = .ok (.return_, 1) := by decide +kernel
theorem dX1_moveVoltages_0 : decode cX1_moveVoltages 0 = .ok (.iconst 0, 1) := by decide +kernel
theorem dX1_moveVoltages_1 : decode cX1_moveVoltages 1 = .ok (.istore_n 1, 1) := by decide +kernel
theorem dX1_moveVoltages_2 : decode cX1_moveVoltages 2 = .ok (.iload_n 1, 1) := by decide +kernel
theorem dX1_moveVoltages_3 : decode cX1_moveVoltages 3 = .ok (.aload_n 0, 1) := by decide +kernel
theorem dX1_moveVoltages_4 : decode cX1_moveVoltages 4 = .ok (.getfield 62, 3) := by decide +kernel
theorem dX1_moveVoltages_7 : decode cX1_moveVoltages 7 = .ok (.if_icmp .ge 120, 3) := by decide +kernel
theorem dX1_moveVoltages_10 : decode cX1_moveVoltages 10 = .ok (.aload_n 0, 1) := by decide +kernel
theorem dX1_moveVoltages_11 : decode cX1_moveVoltages 11 = .ok (.getfield 22, 3) := by decide +kernel
theorem dX1_moveVoltages_14 : decode cX1_moveVoltages 14 = .ok (.iload_n 1, 1) := by decide +kernel
theorem dX1_moveVoltages_15 : decode cX1_moveVoltages 15 = .ok (.iaload, 1) := by decide +kernel
theorem dX1_moveVoltages_16 : decode cX1_moveVoltages 16 = .ok (.iconst 2, 1) := by decide +kernel
theorem dX1_moveVoltages_17 : decode cX1_moveVoltages 17 = .ok (.if_icmp .eq 13, 3) := by decide +kernel
theorem dX1_moveVoltages_20 : decode cX1_moveVoltages 20 = .ok (.aload_n 0, 1) := by decide +kernel
theorem dX1_moveVoltages_21 : decode cX1_moveVoltages 21 = .ok (.getfield 22, 3) := by decide +kernel
theorem dX1_moveVoltages_24 : decode cX1_moveVoltages 24 = .ok (.iload_n 1, 1) := by decide +kernel
theorem dX1_moveVoltages_25 : decode cX1_moveVoltages 25 = .ok (.iaload, 1) := by decide +kernel
theorem dX1_moveVoltages_26 : decode cX1_moveVoltages 26 = .ok (.iconst 3, 1) := by decide +kernel
theorem dX1_moveVoltages_27 : decode cX1_moveVoltages 27 = .ok (.if_icmp .ne 16, 3) := by decide +kernel
theorem dX1_moveVoltages_30 : decode cX1_moveVoltages 30 = .ok (.aload_n 0, 1) := by decide +kernel
theorem dX1_moveVoltages_31 : decode cX1_moveVoltages 31 = .ok (.getfield 31, 3) := by decide +kernel
theorem dX1_moveVoltages_34 : decode cX1_moveVoltages 34 = .ok (.iload_n 1, 1) := by decide +kernel
theorem dX1_moveVoltages_35 : decode cX1_moveVoltages 35 = .ok (.iaload, 1) := by decide +kernel
theorem dX1_moveVoltages_36 : decode cX1_moveVoltages 36 = .ok (.ifCond .ne 7, 3) := by decide +kernel
theorem dX1_moveVoltages_39 : decode cX1_moveVoltages 39 = .ok (.iconst 1, 1) := by decide +kernel
theorem dX1_moveVoltages_40 : decode cX1_moveVoltages 40 = .ok (.goto 4, 3) := by decide +kernel
theorem dX1_moveVoltages_43 : decode cX1_moveVoltages 43 = .ok (.iconst 0, 1) := by decide +kernel
theorem dX1_moveVoltages_44 : decode cX1_moveVoltages 44 = .ok (.istore_n 2, 1) := by decide +kernel
theorem dX1_moveVoltages_45 : decode cX1_moveVoltages 45 = .ok (.iload_n 2, 1) := by decide +kernel
theorem dX1_moveVoltages_46 : decode cX1_moveVoltages 46 = .ok (.ifCond .eq 12, 3) := by decide +kernel
theorem dX1_moveVoltages_49 : decode cX1_moveVoltages 49 = .ok (.aload_n 0, 1) := by decide +kernel
theorem dX1_moveVoltages_50 : decode cX1_moveVoltages 50 = .ok (.iload_n 1, 1) := by decide +kernel
theorem dX1_moveVoltages_51 : decode cX1_moveVoltages 51 = .ok (.iconst 0, 1) := by decide +kernel
theorem dX1_moveVoltages_52 : decode cX1_moveVoltages 52 = .ok (.invokevirtual 95, 3) := by decide +kernel
theorem dX1_moveVoltages_55 : decode cX1_moveVoltages 55 = .ok (.goto 4, 3) := by decide +kernel
theorem dX1_moveVoltages_58 : decode cX1_moveVoltages 58 = .ok (.iconst 0, 1) := by decide +kernel
theorem dX1_moveVoltages_59 : decode cX1_moveVoltages 59 = .ok (.istore_n 3, 1) := by decide +kernel
theorem dX1_moveVoltages_60 : decode cX1_moveVoltages 60 = .ok (.aload_n 0, 1) := by decide +kernel
theorem dX1_moveVoltages_61 : decode cX1_moveVoltages 61 = .ok (.iload_n 1, 1) := by decide +kernel
theorem dX1_moveVoltages_62 : decode cX1_moveVoltages 62 = .ok (.iload_n 2, 1) := by decide +kernel
theorem dX1_moveVoltages_63 : decode cX1_moveVoltages 63 = .ok (.ifCond .eq 7, 3) := by decide +kernel
theorem dX1_moveVoltages_66 : decode cX1_moveVoltages 66 = .ok (.iconst 1, 1) := by decide +kernel
theorem dX1_moveVoltages_67 : decode cX1_moveVoltages 67 = .ok (.goto 4, 3) := by decide +kernel
theorem dX1_moveVoltages_70 : decode cX1_moveVoltages 70 = .ok (.iconst 2, 1) := by decide +kernel
theorem dX1_moveVoltages_71 : decode cX1_moveVoltages 71 = .ok (.invokevirtual 95, 3) := by decide +kernel
theorem dX1_moveVoltages_74 : decode cX1_moveVoltages 74 = .ok (.istore 4, 2) := by decide +kernel
theorem dX1_moveVoltages_76 : decode cX1_moveVoltages 76 = .ok (.aload_n 0, 1) := by decide +kernel
theorem dX1_moveVoltages_77 : decode cX1_moveVoltages 77 = .ok (.getfield 25, 3) := by decide +kernel
theorem dX1_moveVoltages_80 : decode cX1_moveVoltages 80 = .ok (.iload_n 1, 1) := by decide +kernel
theorem dX1_moveVoltages_81 : decode cX1_moveVoltages 81 = .ok (.aload_n 0, 1) := by decide +kernel
theorem dX1_moveVoltages_82 : decode cX1_moveVoltages 82 = .ok (.getfield 25, 3) := by decide +kernel
theorem dX1_moveVoltages_85 : decode cX1_moveVoltages 85 = .ok (.iload_n 1, 1) := by decide +kernel
theorem dX1_moveVoltages_86 : decode cX1_moveVoltages 86 = .ok (.iaload, 1) := by decide +kernel
theorem dX1_moveVoltages_87 : decode cX1_moveVoltages 87 = .ok (.iload_n 3, 1) := by decide +kernel
theorem dX1_moveVoltages_88 : decode cX1_moveVoltages 88 = .ok (.if_icmp .ge 19, 3) := by decide +kernel
theorem dX1_moveVoltages_91 : decode cX1_moveVoltages 91 = .ok (.iload_n 3, 1) := by decide +kernel
theorem dX1_moveVoltages_92 : decode cX1_moveVoltages 92 = .ok (.aload_n 0, 1) := by decide +kernel
theorem dX1_moveVoltages_93 : decode cX1_moveVoltages 93 = .ok (.getfield 25, 3) := by decide +kernel
theorem dX1_moveVoltages_96 : decode cX1_moveVoltages 96 = .ok (.iload_n 1, 1) := by decide +kernel
theorem dX1_moveVoltages_97 : decode cX1_moveVoltages 97 = .ok (.iaload, 1) := by decide +kernel
theorem dX1_moveVoltages_98 : decode cX1_moveVoltages 98 = .ok (.iload 4, 2) := by decide +kernel
theorem dX1_moveVoltages_100 : decode cX1_moveVoltages 100 = .ok (.iadd, 1) := by decide +kernel
theorem dX1_moveVoltages_101 : decode cX1_moveVoltages 101 = .ok (.invokestatic 124, 3) := by decide +kernel
theorem dX1_moveVoltages_104 : decode cX1_moveVoltages 104 = .ok (.goto 16, 3) := by decide +kernel
theorem dX1_moveVoltages_107 : decode cX1_moveVoltages 107 = .ok (.iload_n 3, 1) := by decide +kernel
theorem dX1_moveVoltages_108 : decode cX1_moveVoltages 108 = .ok (.aload_n 0, 1) := by decide +kernel
theorem dX1_moveVoltages_109 : decode cX1_moveVoltages 109 = .ok (.getfield 25, 3) := by decide +kernel
theorem dX1_moveVoltages_112 : decode cX1_moveVoltages 112 = .ok (.iload_n 1, 1) := by decide +kernel
theorem dX1_moveVoltages_113 : decode cX1_moveVoltages 113 = .ok (.iaload, 1) := by decide +kernel
theorem dX1_moveVoltages_114 : decode cX1_moveVoltages 114 = .ok (.iload 4, 2) := by decide +kernel
theorem dX1_moveVoltages_116 : decode cX1_moveVoltages 116 = .ok (.isub, 1) := by decide +kernel
theorem dX1_moveVoltages_117 : decode cX1_moveVoltages 117 = .ok (.invokestatic 129, 3) := by decide +kernel
theorem dX1_moveVoltages_120 : decode cX1_moveVoltages 120 = .ok (.iastore, 1) := by decide +kernel
theorem dX1_moveVoltages_121 : decode cX1_moveVoltages 121 = .ok (.iinc 1 1, 3) := by decide +kernel
theorem dX1_moveVoltages_124 : decode cX1_moveVoltages 124 = .ok (.goto (-122), 3) := by decide +kernel
theorem dX1_moveVoltages_127 : decode cX1_moveVoltages 127 = .ok (.return_, 1) := by decide +kernel
theorem dX1_nextState_0 : decode cX1_nextState 0 = .ok (.aload_n 0, 1) := by decide +kernel
theorem dX1_nextState_1 : decode cX1_nextState 1 = .ok (.getfield 22, 3) := by decide +kernel
theorem dX1_nextState_4 : decode cX1_nextState 4 = .ok (.iload_n 1, 1) := by decide +kernel
theorem dX1_nextState_5 : decode cX1_nextState 5 = .ok (.iaload, 1) := by decide +kernel
theorem dX1_nextState_6 : decode cX1_nextState 6 = .ok (.tableswitch 64 0 4 #[34, 40, 46, 52, 58], 34) := by decide +kernel
theorem dX1_nextState_40 : decode cX1_nextState 40 = .ok (.aload_n 0, 1) := by decide +kernel
theorem dX1_nextState_41 : decode cX1_nextState 41 = .ok (.iload_n 1, 1) := by decide +kernel
theorem dX1_nextState_42 : decode cX1_nextState 42 = .ok (.invokevirtual 132, 3) := by decide +kernel
theorem dX1_nextState_45 : decode cX1_nextState 45 = .ok (.ireturn, 1) := by decide +kernel
theorem dX1_nextState_46 : decode cX1_nextState 46 = .ok (.aload_n 0, 1) := by decide +kernel
theorem dX1_nextState_47 : decode cX1_nextState 47 = .ok (.iload_n 1, 1) := by decide +kernel
theorem dX1_nextState_48 : decode cX1_nextState 48 = .ok (.invokevirtual 135, 3) := by decide +kernel
theorem dX1_nextState_51 : decode cX1_nextState 51 = .ok (.ireturn, 1) := by decide +kernel
theorem dX1_nextState_52 : decode cX1_nextState 52 = .ok (.aload_n 0, 1) := by decide +kernel
theorem dX1_nextState_53 : decode cX1_nextState 53 = .ok (.iload_n 1, 1) := by decide +kernel
theorem dX1_nextState_54 : decode cX1_nextState 54 = .ok (.invokevirtual 138, 3) := by decide +kernel
theorem dX1_nextState_57 : decode cX1_nextState 57 = .ok (.ireturn, 1) := by decide +kernel
theorem dX1_nextState_58 : decode cX1_nextState 58 = .ok (.aload_n 0, 1) := by decide +kernel
theorem dX1_nextState_59 : decode cX1_nextState 59 = .ok (.iload_n 1, 1) := by decide +kernel
theorem dX1_nextState_60 : decode cX1_nextState 60 = .ok (.invokevirtual 141, 3) := by decide +kernel
theorem dX1_nextState_63 : decode cX1_nextState 63 = .ok (.ireturn, 1) := by decide +kernel
theorem dX1_nextState_64 : decode cX1_nextState 64 = .ok (.aload_n 0, 1) := by decide +kernel
theorem dX1_nextState_65 : decode cX1_nextState 65 = .ok (.iload_n 1, 1) := by decide +kernel
theorem dX1_nextState_66 : decode cX1_nextState 66 = .ok (.invokevirtual 144, 3) := by decide +kernel
theorem dX1_nextState_69 : decode cX1_nextState 69 = .ok (.ireturn, 1) := by decide +kernel
theorem dX1_nextState_70 : decode cX1_nextState 70 = .ok (.aload_n 0, 1) := by decide +kernel
theorem dX1_nextState_71 : decode cX1_nextState 71 = .ok (.iload_n 1, 1) := by decide +kernel
theorem dX1_nextState_72 : decode cX1_nextState 72 = .ok (.invokevirtual 85, 3) := by decide +kernel
theorem dX1_nextState_75 : decode cX1_nextState 75 = .ok (.ifCond .ne 15, 3) := by decide +kernel
theorem dX1_nextState_78 : decode cX1_nextState 78 = .ok (.aload_n 0, 1) := by decide +kernel
theorem dX1_nextState_79 : decode cX1_nextState 79 = .ok (.iload_n 1, 1) := by decide +kernel
theorem dX1_nextState_80 : decode cX1_nextState 80 = .ok (.invokevirtual 105, 3) := by decide +kernel
theorem dX1_nextState_83 : decode cX1_nextState 83 = .ok (.ifCond .eq 7, 3) := by decide +kernel
theorem dX1_nextState_86 : decode cX1_nextState 86 = .ok (.iconst 0, 1) := by decide +kernel
theorem dX1_nextState_87 : decode cX1_nextState 87 = .ok (.goto 4, 3) := by decide +kernel
theorem dX1_nextState_90 : decode cX1_nextState 90 = .ok (.iconst 5, 1) := by decide +kernel
theorem dX1_nextState_91 : decode cX1_nextState 91 = .ok (.ireturn, 1) := by decide +kernel
theorem dX1_afterOff_0 : decode cX1_afterOff 0 = .ok (.aload_n 0, 1) := by decide +kernel
theorem dX1_afterOff_1 : decode cX1_afterOff 1 = .ok (.iload_n 1, 1) := by decide +kernel
theorem dX1_afterOff_2 : decode cX1_afterOff 2 = .ok (.invokevirtual 85, 3) := by decide +kernel
theorem dX1_afterOff_5 : decode cX1_afterOff 5 = .ok (.ifCond .ne 5, 3) := by decide +kernel
theorem dX1_afterOff_8 : decode cX1_afterOff 8 = .ok (.iconst 0, 1) := by decide +kernel
theorem dX1_afterOff_9 : decode cX1_afterOff 9 = .ok (.ireturn, 1) := by decide +kernel
theorem dX1_afterOff_10 : decode cX1_afterOff 10 = .ok (.aload_n 0, 1) := by decide +kernel
theorem dX1_afterOff_11 : decode cX1_afterOff 11 = .ok (.getfield 34, 3) := by decide +kernel
theorem dX1_afterOff_14 : decode cX1_afterOff 14 = .ok (.iload_n 1, 1) := by decide +kernel
theorem dX1_afterOff_15 : decode cX1_afterOff 15 = .ok (.iconst 0, 1) := by decide +kernel
theorem dX1_afterOff_16 : decode cX1_afterOff 16 = .ok (.iastore, 1) := by decide +kernel
theorem dX1_afterOff_17 : decode cX1_afterOff 17 = .ok (.aload_n 0, 1) := by decide +kernel
theorem dX1_afterOff_18 : decode cX1_afterOff 18 = .ok (.getfield 37, 3) := by decide +kernel
theorem dX1_afterOff_21 : decode cX1_afterOff 21 = .ok (.iload_n 1, 1) := by decide +kernel
theorem dX1_afterOff_22 : decode cX1_afterOff 22 = .ok (.iconst 0, 1) := by decide +kernel
theorem dX1_afterOff_23 : decode cX1_afterOff 23 = .ok (.iastore, 1) := by decide +kernel
theorem dX1_afterOff_24 : decode cX1_afterOff 24 = .ok (.iconst 1, 1) := by decide +kernel
theorem dX1_afterOff_25 : decode cX1_afterOff 25 = .ok (.ireturn, 1) := by decide +kernel
theorem dX1_afterWaiting_0 : decode cX1_afterWaiting 0 = .ok (.aload_n 0, 1) := by decide +kernel
theorem dX1_afterWaiting_1 : decode cX1_afterWaiting 1 = .ok (.iload_n 1, 1) := by decide +kernel
theorem dX1_afterWaiting_2 : decode cX1_afterWaiting 2 = .ok (.invokevirtual 85, 3) := by decide +kernel
theorem dX1_afterWaiting_5 : decode cX1_afterWaiting 5 = .ok (.ifCond .ne 5, 3) := by decide +kernel
theorem dX1_afterWaiting_8 : decode cX1_afterWaiting 8 = .ok (.iconst 0, 1) := by decide +kernel
theorem dX1_afterWaiting_9 : decode cX1_afterWaiting 9 = .ok (.ireturn, 1) := by decide +kernel
theorem dX1_afterWaiting_10 : decode cX1_afterWaiting 10 = .ok (.aload_n 0, 1) := by decide +kernel
theorem dX1_afterWaiting_11 : decode cX1_afterWaiting 11 = .ok (.iload_n 1, 1) := by decide +kernel
theorem dX1_afterWaiting_12 : decode cX1_afterWaiting 12 = .ok (.invokevirtual 105, 3) := by decide +kernel
theorem dX1_afterWaiting_15 : decode cX1_afterWaiting 15 = .ok (.ifCond .eq 12, 3) := by decide +kernel
theorem dX1_afterWaiting_18 : decode cX1_afterWaiting 18 = .ok (.aload_n 0, 1) := by decide +kernel
theorem dX1_afterWaiting_19 : decode cX1_afterWaiting 19 = .ok (.iload_n 1, 1) := by decide +kernel
theorem dX1_afterWaiting_20 : decode cX1_afterWaiting 20 = .ok (.invokevirtual 147, 3) := by decide +kernel
theorem dX1_afterWaiting_23 : decode cX1_afterWaiting 23 = .ok (.iconst (-1), 1) := by decide +kernel
theorem dX1_afterWaiting_24 : decode cX1_afterWaiting 24 = .ok (.if_icmp .eq 12, 3) := by decide +kernel
theorem dX1_afterWaiting_27 : decode cX1_afterWaiting 27 = .ok (.aload_n 0, 1) := by decide +kernel
theorem dX1_afterWaiting_28 : decode cX1_afterWaiting 28 = .ok (.getfield 34, 3) := by decide +kernel
theorem dX1_afterWaiting_31 : decode cX1_afterWaiting 31 = .ok (.iload_n 1, 1) := by decide +kernel
theorem dX1_afterWaiting_32 : decode cX1_afterWaiting 32 = .ok (.iconst 0, 1) := by decide +kernel
theorem dX1_afterWaiting_33 : decode cX1_afterWaiting 33 = .ok (.iastore, 1) := by decide +kernel
theorem dX1_afterWaiting_34 : decode cX1_afterWaiting 34 = .ok (.iconst 1, 1) := by decide +kernel
theorem dX1_afterWaiting_35 : decode cX1_afterWaiting 35 = .ok (.ireturn, 1) := by decide +kernel
theorem dX1_afterWaiting_36 : decode cX1_afterWaiting 36 = .ok (.aload_n 0, 1) := by decide +kernel
theorem dX1_afterWaiting_37 : decode cX1_afterWaiting 37 = .ok (.getfield 34, 3) := by decide +kernel
theorem dX1_afterWaiting_40 : decode cX1_afterWaiting 40 = .ok (.iload_n 1, 1) := by decide +kernel
theorem dX1_afterWaiting_41 : decode cX1_afterWaiting 41 = .ok (.dup2, 1) := by decide +kernel
theorem dX1_afterWaiting_42 : decode cX1_afterWaiting 42 = .ok (.iaload, 1) := by decide +kernel
theorem dX1_afterWaiting_43 : decode cX1_afterWaiting 43 = .ok (.iconst 1, 1) := by decide +kernel
theorem dX1_afterWaiting_44 : decode cX1_afterWaiting 44 = .ok (.iadd, 1) := by decide +kernel
theorem dX1_afterWaiting_45 : decode cX1_afterWaiting 45 = .ok (.iastore, 1) := by decide +kernel
theorem dX1_afterWaiting_46 : decode cX1_afterWaiting 46 = .ok (.aload_n 0, 1) := by decide +kernel
theorem dX1_afterWaiting_47 : decode cX1_afterWaiting 47 = .ok (.getfield 34, 3) := by decide +kernel
theorem dX1_afterWaiting_50 : decode cX1_afterWaiting 50 = .ok (.iload_n 1, 1) := by decide +kernel
theorem dX1_afterWaiting_51 : decode cX1_afterWaiting 51 = .ok (.iaload, 1) := by decide +kernel
theorem dX1_afterWaiting_52 : decode cX1_afterWaiting 52 = .ok (.aload_n 0, 1) := by decide +kernel
theorem dX1_afterWaiting_53 : decode cX1_afterWaiting 53 = .ok (.iload_n 1, 1) := by decide +kernel
theorem dX1_afterWaiting_54 : decode cX1_afterWaiting 54 = .ok (.iconst 4, 1) := by decide +kernel
theorem dX1_afterWaiting_55 : decode cX1_afterWaiting 55 = .ok (.invokevirtual 95, 3) := by decide +kernel
theorem dX1_afterWaiting_58 : decode cX1_afterWaiting 58 = .ok (.if_icmp .gt 5, 3) := by decide +kernel
theorem dX1_afterWaiting_61 : decode cX1_afterWaiting 61 = .ok (.iconst 1, 1) := by decide +kernel
theorem dX1_afterWaiting_62 : decode cX1_afterWaiting 62 = .ok (.ireturn, 1) := by decide +kernel
theorem dX1_afterWaiting_63 : decode cX1_afterWaiting 63 = .ok (.aload_n 0, 1) := by decide +kernel
theorem dX1_afterWaiting_64 : decode cX1_afterWaiting 64 = .ok (.getfield 34, 3) := by decide +kernel
theorem dX1_afterWaiting_67 : decode cX1_afterWaiting 67 = .ok (.iload_n 1, 1) := by decide +kernel
theorem dX1_afterWaiting_68 : decode cX1_afterWaiting 68 = .ok (.iconst 0, 1) := by decide +kernel
theorem dX1_afterWaiting_69 : decode cX1_afterWaiting 69 = .ok (.iastore, 1) := by decide +kernel
theorem dX1_afterWaiting_70 : decode cX1_afterWaiting 70 = .ok (.iconst 2, 1) := by decide +kernel
theorem dX1_afterWaiting_71 : decode cX1_afterWaiting 71 = .ok (.ireturn, 1) := by decide +kernel
theorem dX1_afterRising_0 : decode cX1_afterRising 0 = .ok (.aload_n 0, 1) := by decide +kernel
theorem dX1_afterRising_1 : decode cX1_afterRising 1 = .ok (.iload_n 1, 1) := by decide +kernel
theorem dX1_afterRising_2 : decode cX1_afterRising 2 = .ok (.invokevirtual 85, 3) := by decide +kernel
theorem dX1_afterRising_5 : decode cX1_afterRising 5 = .ok (.ifCond .ne 12, 3) := by decide +kernel
theorem dX1_afterRising_8 : decode cX1_afterRising 8 = .ok (.aload_n 0, 1) := by decide +kernel
theorem dX1_afterRising_9 : decode cX1_afterRising 9 = .ok (.getfield 40, 3) := by decide +kernel
theorem dX1_afterRising_12 : decode cX1_afterRising 12 = .ok (.iload_n 1, 1) := by decide +kernel
theorem dX1_afterRising_13 : decode cX1_afterRising 13 = .ok (.iconst (-1), 1) := by decide +kernel
theorem dX1_afterRising_14 : decode cX1_afterRising 14 = .ok (.iastore, 1) := by decide +kernel
theorem dX1_afterRising_15 : decode cX1_afterRising 15 = .ok (.iconst 4, 1) := by decide +kernel
theorem dX1_afterRising_16 : decode cX1_afterRising 16 = .ok (.ireturn, 1) := by decide +kernel
theorem dX1_afterRising_17 : decode cX1_afterRising 17 = .ok (.aload_n 0, 1) := by decide +kernel
theorem dX1_afterRising_18 : decode cX1_afterRising 18 = .ok (.iload_n 1, 1) := by decide +kernel
theorem dX1_afterRising_19 : decode cX1_afterRising 19 = .ok (.invokevirtual 147, 3) := by decide +kernel
theorem dX1_afterRising_22 : decode cX1_afterRising 22 = .ok (.istore_n 2, 1) := by decide +kernel
theorem dX1_afterRising_23 : decode cX1_afterRising 23 = .ok (.iload_n 2, 1) := by decide +kernel
theorem dX1_afterRising_24 : decode cX1_afterRising 24 = .ok (.iconst (-1), 1) := by decide +kernel
theorem dX1_afterRising_25 : decode cX1_afterRising 25 = .ok (.if_icmp .eq 12, 3) := by decide +kernel
theorem dX1_afterRising_28 : decode cX1_afterRising 28 = .ok (.aload_n 0, 1) := by decide +kernel
theorem dX1_afterRising_29 : decode cX1_afterRising 29 = .ok (.getfield 40, 3) := by decide +kernel
theorem dX1_afterRising_32 : decode cX1_afterRising 32 = .ok (.iload_n 1, 1) := by decide +kernel
theorem dX1_afterRising_33 : decode cX1_afterRising 33 = .ok (.iload_n 2, 1) := by decide +kernel
theorem dX1_afterRising_34 : decode cX1_afterRising 34 = .ok (.iastore, 1) := by decide +kernel
theorem dX1_afterRising_35 : decode cX1_afterRising 35 = .ok (.iconst 4, 1) := by decide +kernel
theorem dX1_afterRising_36 : decode cX1_afterRising 36 = .ok (.ireturn, 1) := by decide +kernel
theorem dX1_afterRising_37 : decode cX1_afterRising 37 = .ok (.aload_n 0, 1) := by decide +kernel
theorem dX1_afterRising_38 : decode cX1_afterRising 38 = .ok (.iload_n 1, 1) := by decide +kernel
theorem dX1_afterRising_39 : decode cX1_afterRising 39 = .ok (.invokevirtual 89, 3) := by decide +kernel
theorem dX1_afterRising_42 : decode cX1_afterRising 42 = .ok (.ifCond .eq 12, 3) := by decide +kernel
theorem dX1_afterRising_45 : decode cX1_afterRising 45 = .ok (.aload_n 0, 1) := by decide +kernel
theorem dX1_afterRising_46 : decode cX1_afterRising 46 = .ok (.getfield 40, 3) := by decide +kernel
theorem dX1_afterRising_49 : decode cX1_afterRising 49 = .ok (.iload_n 1, 1) := by decide +kernel
theorem dX1_afterRising_50 : decode cX1_afterRising 50 = .ok (.iconst (-1), 1) := by decide +kernel
theorem dX1_afterRising_51 : decode cX1_afterRising 51 = .ok (.iastore, 1) := by decide +kernel
theorem dX1_afterRising_52 : decode cX1_afterRising 52 = .ok (.iconst 3, 1) := by decide +kernel
theorem dX1_afterRising_53 : decode cX1_afterRising 53 = .ok (.ireturn, 1) := by decide +kernel
theorem dX1_afterRising_54 : decode cX1_afterRising 54 = .ok (.aload_n 0, 1) := by decide +kernel
theorem dX1_afterRising_55 : decode cX1_afterRising 55 = .ok (.getfield 34, 3) := by decide +kernel
theorem dX1_afterRising_58 : decode cX1_afterRising 58 = .ok (.iload_n 1, 1) := by decide +kernel
theorem dX1_afterRising_59 : decode cX1_afterRising 59 = .ok (.dup2, 1) := by decide +kernel
theorem dX1_afterRising_60 : decode cX1_afterRising 60 = .ok (.iaload, 1) := by decide +kernel
theorem dX1_afterRising_61 : decode cX1_afterRising 61 = .ok (.iconst 1, 1) := by decide +kernel
theorem dX1_afterRising_62 : decode cX1_afterRising 62 = .ok (.iadd, 1) := by decide +kernel
theorem dX1_afterRising_63 : decode cX1_afterRising 63 = .ok (.iastore, 1) := by decide +kernel
theorem dX1_afterRising_64 : decode cX1_afterRising 64 = .ok (.aload_n 0, 1) := by decide +kernel
theorem dX1_afterRising_65 : decode cX1_afterRising 65 = .ok (.getfield 34, 3) := by decide +kernel
theorem dX1_afterRising_68 : decode cX1_afterRising 68 = .ok (.iload_n 1, 1) := by decide +kernel
theorem dX1_afterRising_69 : decode cX1_afterRising 69 = .ok (.iaload, 1) := by decide +kernel
theorem dX1_afterRising_70 : decode cX1_afterRising 70 = .ok (.aload_n 0, 1) := by decide +kernel
theorem dX1_afterRising_71 : decode cX1_afterRising 71 = .ok (.iload_n 1, 1) := by decide +kernel
theorem dX1_afterRising_72 : decode cX1_afterRising 72 = .ok (.iconst 5, 1) := by decide +kernel
theorem dX1_afterRising_73 : decode cX1_afterRising 73 = .ok (.invokevirtual 95, 3) := by decide +kernel
theorem dX1_afterRising_76 : decode cX1_afterRising 76 = .ok (.if_icmp .lt 11, 3) := by decide +kernel
theorem dX1_afterRising_79 : decode cX1_afterRising 79 = .ok (.aload_n 0, 1) := by decide +kernel
theorem dX1_afterRising_80 : decode cX1_afterRising 80 = .ok (.iload_n 1, 1) := by decide +kernel
theorem dX1_afterRising_81 : decode cX1_afterRising 81 = .ok (.invokevirtual 150, 3) := by decide +kernel
theorem dX1_afterRising_84 : decode cX1_afterRising 84 = .ok (.goto 4, 3) := by decide +kernel
theorem dX1_afterRising_87 : decode cX1_afterRising 87 = .ok (.iconst 2, 1) := by decide +kernel
theorem dX1_afterRising_88 : decode cX1_afterRising 88 = .ok (.ireturn, 1) := by decide +kernel
theorem dX1_afterGood_0 : decode cX1_afterGood 0 = .ok (.aload_n 0, 1) := by decide +kernel
theorem dX1_afterGood_1 : decode cX1_afterGood 1 = .ok (.iload_n 1, 1) := by decide +kernel
theorem dX1_afterGood_2 : decode cX1_afterGood 2 = .ok (.invokevirtual 147, 3) := by decide +kernel
theorem dX1_afterGood_5 : decode cX1_afterGood 5 = .ok (.istore_n 2, 1) := by decide +kernel
theorem dX1_afterGood_6 : decode cX1_afterGood 6 = .ok (.iload_n 2, 1) := by decide +kernel
theorem dX1_afterGood_7 : decode cX1_afterGood 7 = .ok (.iconst (-1), 1) := by decide +kernel
theorem dX1_afterGood_8 : decode cX1_afterGood 8 = .ok (.if_icmp .eq 12, 3) := by decide +kernel
theorem dX1_afterGood_11 : decode cX1_afterGood 11 = .ok (.aload_n 0, 1) := by decide +kernel
theorem dX1_afterGood_12 : decode cX1_afterGood 12 = .ok (.getfield 40, 3) := by decide +kernel
theorem dX1_afterGood_15 : decode cX1_afterGood 15 = .ok (.iload_n 1, 1) := by decide +kernel
theorem dX1_afterGood_16 : decode cX1_afterGood 16 = .ok (.iload_n 2, 1) := by decide +kernel
theorem dX1_afterGood_17 : decode cX1_afterGood 17 = .ok (.iastore, 1) := by decide +kernel
theorem dX1_afterGood_18 : decode cX1_afterGood 18 = .ok (.iconst 4, 1) := by decide +kernel
theorem dX1_afterGood_19 : decode cX1_afterGood 19 = .ok (.ireturn, 1) := by decide +kernel
theorem dX1_afterGood_20 : decode cX1_afterGood 20 = .ok (.aload_n 0, 1) := by decide +kernel
theorem dX1_afterGood_21 : decode cX1_afterGood 21 = .ok (.iload_n 1, 1) := by decide +kernel
theorem dX1_afterGood_22 : decode cX1_afterGood 22 = .ok (.invokevirtual 89, 3) := by decide +kernel
theorem dX1_afterGood_25 : decode cX1_afterGood 25 = .ok (.ifCond .ne 9, 3) := by decide +kernel
theorem dX1_afterGood_28 : decode cX1_afterGood 28 = .ok (.aload_n 0, 1) := by decide +kernel
theorem dX1_afterGood_29 : decode cX1_afterGood 29 = .ok (.iload_n 1, 1) := by decide +kernel
theorem dX1_afterGood_30 : decode cX1_afterGood 30 = .ok (.invokevirtual 150, 3) := by decide +kernel
theorem dX1_afterGood_33 : decode cX1_afterGood 33 = .ok (.ireturn, 1) := by decide +kernel
theorem dX1_afterGood_34 : decode cX1_afterGood 34 = .ok (.aload_n 0, 1) := by decide +kernel
theorem dX1_afterGood_35 : decode cX1_afterGood 35 = .ok (.iload_n 1, 1) := by decide +kernel
theorem dX1_afterGood_36 : decode cX1_afterGood 36 = .ok (.invokevirtual 85, 3) := by decide +kernel
theorem dX1_afterGood_39 : decode cX1_afterGood 39 = .ok (.ifCond .ne 20, 3) := by decide +kernel
theorem dX1_afterGood_42 : decode cX1_afterGood 42 = .ok (.aload_n 0, 1) := by decide +kernel
theorem dX1_afterGood_43 : decode cX1_afterGood 43 = .ok (.iload_n 1, 1) := by decide +kernel
theorem dX1_afterGood_44 : decode cX1_afterGood 44 = .ok (.invokevirtual 153, 3) := by decide +kernel
theorem dX1_afterGood_47 : decode cX1_afterGood 47 = .ok (.ifCond .eq 12, 3) := by decide +kernel
theorem dX1_afterGood_50 : decode cX1_afterGood 50 = .ok (.aload_n 0, 1) := by decide +kernel
theorem dX1_afterGood_51 : decode cX1_afterGood 51 = .ok (.getfield 40, 3) := by decide +kernel
theorem dX1_afterGood_54 : decode cX1_afterGood 54 = .ok (.iload_n 1, 1) := by decide +kernel
theorem dX1_afterGood_55 : decode cX1_afterGood 55 = .ok (.iconst (-1), 1) := by decide +kernel
theorem dX1_afterGood_56 : decode cX1_afterGood 56 = .ok (.iastore, 1) := by decide +kernel
theorem dX1_afterGood_57 : decode cX1_afterGood 57 = .ok (.iconst 4, 1) := by decide +kernel
theorem dX1_afterGood_58 : decode cX1_afterGood 58 = .ok (.ireturn, 1) := by decide +kernel
theorem dX1_afterGood_59 : decode cX1_afterGood 59 = .ok (.iconst 3, 1) := by decide +kernel
theorem dX1_afterGood_60 : decode cX1_afterGood 60 = .ok (.ireturn, 1) := by decide +kernel
theorem dX1_afterFalling_0 : decode cX1_afterFalling 0 = .ok (.aload_n 0, 1) := by decide +kernel
theorem dX1_afterFalling_1 : decode cX1_afterFalling 1 = .ok (.iload_n 1, 1) := by decide +kernel
theorem dX1_afterFalling_2 : decode cX1_afterFalling 2 = .ok (.invokevirtual 105, 3) := by decide +kernel
theorem dX1_afterFalling_5 : decode cX1_afterFalling 5 = .ok (.ifCond .ne 5, 3) := by decide +kernel
theorem dX1_afterFalling_8 : decode cX1_afterFalling 8 = .ok (.iconst 4, 1) := by decide +kernel
theorem dX1_afterFalling_9 : decode cX1_afterFalling 9 = .ok (.ireturn, 1) := by decide +kernel
theorem dX1_afterFalling_10 : decode cX1_afterFalling 10 = .ok (.aload_n 0, 1) := by decide +kernel
theorem dX1_afterFalling_11 : decode cX1_afterFalling 11 = .ok (.iload_n 1, 1) := by decide +kernel
theorem dX1_afterFalling_12 : decode cX1_afterFalling 12 = .ok (.invokevirtual 85, 3) := by decide +kernel
theorem dX1_afterFalling_15 : decode cX1_afterFalling 15 = .ok (.ifCond .ne 5, 3) := by decide +kernel
theorem dX1_afterFalling_18 : decode cX1_afterFalling 18 = .ok (.iconst 0, 1) := by decide +kernel
theorem dX1_afterFalling_19 : decode cX1_afterFalling 19 = .ok (.ireturn, 1) := by decide +kernel
theorem dX1_afterFalling_20 : decode cX1_afterFalling 20 = .ok (.aload_n 0, 1) := by decide +kernel
theorem dX1_afterFalling_21 : decode cX1_afterFalling 21 = .ok (.getfield 34, 3) := by decide +kernel
theorem dX1_afterFalling_24 : decode cX1_afterFalling 24 = .ok (.iload_n 1, 1) := by decide +kernel
theorem dX1_afterFalling_25 : decode cX1_afterFalling 25 = .ok (.iconst 0, 1) := by decide +kernel
theorem dX1_afterFalling_26 : decode cX1_afterFalling 26 = .ok (.iastore, 1) := by decide +kernel
theorem dX1_afterFalling_27 : decode cX1_afterFalling 27 = .ok (.iconst 1, 1) := by decide +kernel
theorem dX1_afterFalling_28 : decode cX1_afterFalling 28 = .ok (.ireturn, 1) := by decide +kernel
theorem dX1_afterFailure_0 : decode cX1_afterFailure 0 = .ok (.aload_n 0, 1) := by decide +kernel
theorem dX1_afterFailure_1 : decode cX1_afterFailure 1 = .ok (.getfield 40, 3) := by decide +kernel
theorem dX1_afterFailure_4 : decode cX1_afterFailure 4 = .ok (.iload_n 1, 1) := by decide +kernel
theorem dX1_afterFailure_5 : decode cX1_afterFailure 5 = .ok (.iload_n 1, 1) := by decide +kernel
theorem dX1_afterFailure_6 : decode cX1_afterFailure 6 = .ok (.iastore, 1) := by decide +kernel
theorem dX1_afterFailure_7 : decode cX1_afterFailure 7 = .ok (.aload_n 0, 1) := by decide +kernel
theorem dX1_afterFailure_8 : decode cX1_afterFailure 8 = .ok (.getfield 37, 3) := by decide +kernel
theorem dX1_afterFailure_11 : decode cX1_afterFailure 11 = .ok (.iload_n 1, 1) := by decide +kernel
theorem dX1_afterFailure_12 : decode cX1_afterFailure 12 = .ok (.dup2, 1) := by decide +kernel
theorem dX1_afterFailure_13 : decode cX1_afterFailure 13 = .ok (.iaload, 1) := by decide +kernel
theorem dX1_afterFailure_14 : decode cX1_afterFailure 14 = .ok (.iconst 1, 1) := by decide +kernel
theorem dX1_afterFailure_15 : decode cX1_afterFailure 15 = .ok (.iadd, 1) := by decide +kernel
theorem dX1_afterFailure_16 : decode cX1_afterFailure 16 = .ok (.iastore, 1) := by decide +kernel
theorem dX1_afterFailure_17 : decode cX1_afterFailure 17 = .ok (.aload_n 0, 1) := by decide +kernel
theorem dX1_afterFailure_18 : decode cX1_afterFailure 18 = .ok (.getfield 43, 3) := by decide +kernel
theorem dX1_afterFailure_21 : decode cX1_afterFailure 21 = .ok (.iload_n 1, 1) := by decide +kernel
theorem dX1_afterFailure_22 : decode cX1_afterFailure 22 = .ok (.iconst 4, 1) := by decide +kernel
theorem dX1_afterFailure_23 : decode cX1_afterFailure 23 = .ok (.imul, 1) := by decide +kernel
theorem dX1_afterFailure_24 : decode cX1_afterFailure 24 = .ok (.iconst 2, 1) := by decide +kernel
theorem dX1_afterFailure_25 : decode cX1_afterFailure 25 = .ok (.iadd, 1) := by decide +kernel
theorem dX1_afterFailure_26 : decode cX1_afterFailure 26 = .ok (.dup2, 1) := by decide +kernel
theorem dX1_afterFailure_27 : decode cX1_afterFailure 27 = .ok (.iaload, 1) := by decide +kernel
theorem dX1_afterFailure_28 : decode cX1_afterFailure 28 = .ok (.iconst 1, 1) := by decide +kernel
theorem dX1_afterFailure_29 : decode cX1_afterFailure 29 = .ok (.iadd, 1) := by decide +kernel
theorem dX1_afterFailure_30 : decode cX1_afterFailure 30 = .ok (.iastore, 1) := by decide +kernel
theorem dX1_afterFailure_31 : decode cX1_afterFailure 31 = .ok (.aload_n 0, 1) := by decide +kernel
theorem dX1_afterFailure_32 : decode cX1_afterFailure 32 = .ok (.getfield 37, 3) := by decide +kernel
theorem dX1_afterFailure_35 : decode cX1_afterFailure 35 = .ok (.iload_n 1, 1) := by decide +kernel
theorem dX1_afterFailure_36 : decode cX1_afterFailure 36 = .ok (.iaload, 1) := by decide +kernel
theorem dX1_afterFailure_37 : decode cX1_afterFailure 37 = .ok (.aload_n 0, 1) := by decide +kernel
theorem dX1_afterFailure_38 : decode cX1_afterFailure 38 = .ok (.iload_n 1, 1) := by decide +kernel
theorem dX1_afterFailure_39 : decode cX1_afterFailure 39 = .ok (.bipush 6, 2) := by decide +kernel
theorem dX1_afterFailure_41 : decode cX1_afterFailure 41 = .ok (.invokevirtual 95, 3) := by decide +kernel
theorem dX1_afterFailure_44 : decode cX1_afterFailure 44 = .ok (.if_icmp .lt 7, 3) := by decide +kernel
theorem dX1_afterFailure_47 : decode cX1_afterFailure 47 = .ok (.iconst 5, 1) := by decide +kernel
theorem dX1_afterFailure_48 : decode cX1_afterFailure 48 = .ok (.goto 4, 3) := by decide +kernel
theorem dX1_afterFailure_51 : decode cX1_afterFailure 51 = .ok (.iconst 4, 1) := by decide +kernel
theorem dX1_afterFailure_52 : decode cX1_afterFailure 52 = .ok (.ireturn, 1) := by decide +kernel
theorem dX1_lowestBadNeed_0 : decode cX1_lowestBadNeed 0 = .ok (.iconst 0, 1) := by decide +kernel
theorem dX1_lowestBadNeed_1 : decode cX1_lowestBadNeed 1 = .ok (.istore_n 2, 1) := by decide +kernel
theorem dX1_lowestBadNeed_2 : decode cX1_lowestBadNeed 2 = .ok (.iload_n 2, 1) := by decide +kernel
theorem dX1_lowestBadNeed_3 : decode cX1_lowestBadNeed 3 = .ok (.iload_n 1, 1) := by decide +kernel
theorem dX1_lowestBadNeed_4 : decode cX1_lowestBadNeed 4 = .ok (.if_icmp .ge 52, 3) := by decide +kernel
theorem dX1_lowestBadNeed_7 : decode cX1_lowestBadNeed 7 = .ok (.aload_n 0, 1) := by decide +kernel
theorem dX1_lowestBadNeed_8 : decode cX1_lowestBadNeed 8 = .ok (.getfield 19, 3) := by decide +kernel
theorem dX1_lowestBadNeed_11 : decode cX1_lowestBadNeed 11 = .ok (.iload_n 1, 1) := by decide +kernel
theorem dX1_lowestBadNeed_12 : decode cX1_lowestBadNeed 12 = .ok (.iaload, 1) := by decide +kernel
theorem dX1_lowestBadNeed_13 : decode cX1_lowestBadNeed 13 = .ok (.iconst 1, 1) := by decide +kernel
theorem dX1_lowestBadNeed_14 : decode cX1_lowestBadNeed 14 = .ok (.iload_n 2, 1) := by decide +kernel
theorem dX1_lowestBadNeed_15 : decode cX1_lowestBadNeed 15 = .ok (.ishl, 1) := by decide +kernel
theorem dX1_lowestBadNeed_16 : decode cX1_lowestBadNeed 16 = .ok (.iand, 1) := by decide +kernel
theorem dX1_lowestBadNeed_17 : decode cX1_lowestBadNeed 17 = .ok (.ifCond .eq 7, 3) := by decide +kernel
theorem dX1_lowestBadNeed_20 : decode cX1_lowestBadNeed 20 = .ok (.iconst 1, 1) := by decide +kernel
theorem dX1_lowestBadNeed_21 : decode cX1_lowestBadNeed 21 = .ok (.goto 4, 3) := by decide +kernel
theorem dX1_lowestBadNeed_24 : decode cX1_lowestBadNeed 24 = .ok (.iconst 0, 1) := by decide +kernel
theorem dX1_lowestBadNeed_25 : decode cX1_lowestBadNeed 25 = .ok (.istore_n 3, 1) := by decide +kernel
theorem dX1_lowestBadNeed_26 : decode cX1_lowestBadNeed 26 = .ok (.iload_n 3, 1) := by decide +kernel
theorem dX1_lowestBadNeed_27 : decode cX1_lowestBadNeed 27 = .ok (.ifCond .eq 23, 3) := by decide +kernel
theorem dX1_lowestBadNeed_30 : decode cX1_lowestBadNeed 30 = .ok (.aload_n 0, 1) := by decide +kernel
theorem dX1_lowestBadNeed_31 : decode cX1_lowestBadNeed 31 = .ok (.getfield 53, 3) := by decide +kernel
theorem dX1_lowestBadNeed_34 : decode cX1_lowestBadNeed 34 = .ok (.iload_n 2, 1) := by decide +kernel
theorem dX1_lowestBadNeed_35 : decode cX1_lowestBadNeed 35 = .ok (.iaload, 1) := by decide +kernel
theorem dX1_lowestBadNeed_36 : decode cX1_lowestBadNeed 36 = .ok (.iconst 3, 1) := by decide +kernel
theorem dX1_lowestBadNeed_37 : decode cX1_lowestBadNeed 37 = .ok (.if_icmp .ne 11, 3) := by decide +kernel
theorem dX1_lowestBadNeed_40 : decode cX1_lowestBadNeed 40 = .ok (.aload_n 0, 1) := by decide +kernel
theorem dX1_lowestBadNeed_41 : decode cX1_lowestBadNeed 41 = .ok (.iload_n 2, 1) := by decide +kernel
theorem dX1_lowestBadNeed_42 : decode cX1_lowestBadNeed 42 = .ok (.invokevirtual 89, 3) := by decide +kernel
theorem dX1_lowestBadNeed_45 : decode cX1_lowestBadNeed 45 = .ok (.ifCond .ne 5, 3) := by decide +kernel
theorem dX1_lowestBadNeed_48 : decode cX1_lowestBadNeed 48 = .ok (.iload_n 2, 1) := by decide +kernel
theorem dX1_lowestBadNeed_49 : decode cX1_lowestBadNeed 49 = .ok (.ireturn, 1) := by decide +kernel
theorem dX1_lowestBadNeed_50 : decode cX1_lowestBadNeed 50 = .ok (.iinc 2 1, 3) := by decide +kernel
theorem dX1_lowestBadNeed_53 : decode cX1_lowestBadNeed 53 = .ok (.goto (-51), 3) := by decide +kernel
theorem dX1_lowestBadNeed_56 : decode cX1_lowestBadNeed 56 = .ok (.iconst (-1), 1) := by decide +kernel
theorem dX1_lowestBadNeed_57 : decode cX1_lowestBadNeed 57 = .ok (.ireturn, 1) := by decide +kernel
theorem dX1_areUsersAtRest_0 : decode cX1_areUsersAtRest 0 = .ok (.iload_n 1, 1) := by decide +kernel
theorem dX1_areUsersAtRest_1 : decode cX1_areUsersAtRest 1 = .ok (.iconst 1, 1) := by decide +kernel
theorem dX1_areUsersAtRest_2 : decode cX1_areUsersAtRest 2 = .ok (.iadd, 1) := by decide +kernel
theorem dX1_areUsersAtRest_3 : decode cX1_areUsersAtRest 3 = .ok (.istore_n 2, 1) := by decide +kernel
theorem dX1_areUsersAtRest_4 : decode cX1_areUsersAtRest 4 = .ok (.iload_n 2, 1) := by decide +kernel
theorem dX1_areUsersAtRest_5 : decode cX1_areUsersAtRest 5 = .ok (.aload_n 0, 1) := by decide +kernel
theorem dX1_areUsersAtRest_6 : decode cX1_areUsersAtRest 6 = .ok (.getfield 62, 3) := by decide +kernel
theorem dX1_areUsersAtRest_9 : decode cX1_areUsersAtRest 9 = .ok (.if_icmp .ge 73, 3) := by decide +kernel
theorem dX1_areUsersAtRest_12 : decode cX1_areUsersAtRest 12 = .ok (.aload_n 0, 1) := by decide +kernel
theorem dX1_areUsersAtRest_13 : decode cX1_areUsersAtRest 13 = .ok (.getfield 19, 3) := by decide +kernel
theorem dX1_areUsersAtRest_16 : decode cX1_areUsersAtRest 16 = .ok (.iload_n 2, 1) := by decide +kernel
theorem dX1_areUsersAtRest_17 : decode cX1_areUsersAtRest 17 = .ok (.iaload, 1) := by decide +kernel
theorem dX1_areUsersAtRest_18 : decode cX1_areUsersAtRest 18 = .ok (.iconst 1, 1) := by decide +kernel
theorem dX1_areUsersAtRest_19 : decode cX1_areUsersAtRest 19 = .ok (.iload_n 1, 1) := by decide +kernel
theorem dX1_areUsersAtRest_20 : decode cX1_areUsersAtRest 20 = .ok (.ishl, 1) := by decide +kernel
theorem dX1_areUsersAtRest_21 : decode cX1_areUsersAtRest 21 = .ok (.iand, 1) := by decide +kernel
theorem dX1_areUsersAtRest_22 : decode cX1_areUsersAtRest 22 = .ok (.ifCond .eq 7, 3) := by decide +kernel
theorem dX1_areUsersAtRest_25 : decode cX1_areUsersAtRest 25 = .ok (.iconst 1, 1) := by decide +kernel
theorem dX1_areUsersAtRest_26 : decode cX1_areUsersAtRest 26 = .ok (.goto 4, 3) := by decide +kernel
theorem dX1_areUsersAtRest_29 : decode cX1_areUsersAtRest 29 = .ok (.iconst 0, 1) := by decide +kernel
theorem dX1_areUsersAtRest_30 : decode cX1_areUsersAtRest 30 = .ok (.istore_n 3, 1) := by decide +kernel
theorem dX1_areUsersAtRest_31 : decode cX1_areUsersAtRest 31 = .ok (.aload_n 0, 1) := by decide +kernel
theorem dX1_areUsersAtRest_32 : decode cX1_areUsersAtRest 32 = .ok (.getfield 53, 3) := by decide +kernel
theorem dX1_areUsersAtRest_35 : decode cX1_areUsersAtRest 35 = .ok (.iload_n 2, 1) := by decide +kernel
theorem dX1_areUsersAtRest_36 : decode cX1_areUsersAtRest 36 = .ok (.iaload, 1) := by decide +kernel
theorem dX1_areUsersAtRest_37 : decode cX1_areUsersAtRest 37 = .ok (.ifCond .eq 13, 3) := by decide +kernel
theorem dX1_areUsersAtRest_40 : decode cX1_areUsersAtRest 40 = .ok (.aload_n 0, 1) := by decide +kernel
theorem dX1_areUsersAtRest_41 : decode cX1_areUsersAtRest 41 = .ok (.getfield 53, 3) := by decide +kernel
theorem dX1_areUsersAtRest_44 : decode cX1_areUsersAtRest 44 = .ok (.iload_n 2, 1) := by decide +kernel
theorem dX1_areUsersAtRest_45 : decode cX1_areUsersAtRest 45 = .ok (.iaload, 1) := by decide +kernel
theorem dX1_areUsersAtRest_46 : decode cX1_areUsersAtRest 46 = .ok (.iconst 5, 1) := by decide +kernel
theorem dX1_areUsersAtRest_47 : decode cX1_areUsersAtRest 47 = .ok (.if_icmp .ne 7, 3) := by decide +kernel
theorem dX1_areUsersAtRest_50 : decode cX1_areUsersAtRest 50 = .ok (.iconst 1, 1) := by decide +kernel
theorem dX1_areUsersAtRest_51 : decode cX1_areUsersAtRest 51 = .ok (.goto 4, 3) := by decide +kernel
theorem dX1_areUsersAtRest_54 : decode cX1_areUsersAtRest 54 = .ok (.iconst 0, 1) := by decide +kernel
theorem dX1_areUsersAtRest_55 : decode cX1_areUsersAtRest 55 = .ok (.istore 4, 2) := by decide +kernel
theorem dX1_areUsersAtRest_57 : decode cX1_areUsersAtRest 57 = .ok (.iload_n 3, 1) := by decide +kernel
theorem dX1_areUsersAtRest_58 : decode cX1_areUsersAtRest 58 = .ok (.ifCond .eq 18, 3) := by decide +kernel
theorem dX1_areUsersAtRest_61 : decode cX1_areUsersAtRest 61 = .ok (.iload 4, 2) := by decide +kernel
theorem dX1_areUsersAtRest_63 : decode cX1_areUsersAtRest 63 = .ok (.ifCond .eq 11, 3) := by decide +kernel
theorem dX1_areUsersAtRest_66 : decode cX1_areUsersAtRest 66 = .ok (.aload_n 0, 1) := by decide +kernel
theorem dX1_areUsersAtRest_67 : decode cX1_areUsersAtRest 67 = .ok (.iload_n 2, 1) := by decide +kernel
theorem dX1_areUsersAtRest_68 : decode cX1_areUsersAtRest 68 = .ok (.invokevirtual 105, 3) := by decide +kernel
theorem dX1_areUsersAtRest_71 : decode cX1_areUsersAtRest 71 = .ok (.ifCond .ne 5, 3) := by decide +kernel
theorem dX1_areUsersAtRest_74 : decode cX1_areUsersAtRest 74 = .ok (.iconst 0, 1) := by decide +kernel
theorem dX1_areUsersAtRest_75 : decode cX1_areUsersAtRest 75 = .ok (.ireturn, 1) := by decide +kernel
theorem dX1_areUsersAtRest_76 : decode cX1_areUsersAtRest 76 = .ok (.iinc 2 1, 3) := by decide +kernel
theorem dX1_areUsersAtRest_79 : decode cX1_areUsersAtRest 79 = .ok (.goto (-75), 3) := by decide +kernel
theorem dX1_areUsersAtRest_82 : decode cX1_areUsersAtRest 82 = .ok (.iconst 1, 1) := by decide +kernel
theorem dX1_areUsersAtRest_83 : decode cX1_areUsersAtRest 83 = .ok (.ireturn, 1) := by decide +kernel
theorem dX1_become_0 : decode cX1_become 0 = .ok (.aload_n 0, 1) := by decide +kernel
theorem dX1_become_1 : decode cX1_become 1 = .ok (.getfield 22, 3) := by decide +kernel
theorem dX1_become_4 : decode cX1_become 4 = .ok (.iload_n 1, 1) := by decide +kernel
theorem dX1_become_5 : decode cX1_become 5 = .ok (.iload_n 2, 1) := by decide +kernel
theorem dX1_become_6 : decode cX1_become 6 = .ok (.iastore, 1) := by decide +kernel
theorem dX1_become_7 : decode cX1_become 7 = .ok (.iload_n 2, 1) := by decide +kernel
theorem dX1_become_8 : decode cX1_become 8 = .ok (.iconst 2, 1) := by decide +kernel
theorem dX1_become_9 : decode cX1_become 9 = .ok (.if_icmp .ne 17, 3) := by decide +kernel
theorem dX1_become_12 : decode cX1_become 12 = .ok (.aload_n 0, 1) := by decide +kernel
theorem dX1_become_13 : decode cX1_become 13 = .ok (.getfield 43, 3) := by decide +kernel
theorem dX1_become_16 : decode cX1_become 16 = .ok (.iload_n 1, 1) := by decide +kernel
theorem dX1_become_17 : decode cX1_become 17 = .ok (.iconst 4, 1) := by decide +kernel
theorem dX1_become_18 : decode cX1_become 18 = .ok (.imul, 1) := by decide +kernel
theorem dX1_become_19 : decode cX1_become 19 = .ok (.iconst 0, 1) := by decide +kernel
theorem dX1_become_20 : decode cX1_become 20 = .ok (.iadd, 1) := by decide +kernel
theorem dX1_become_21 : decode cX1_become 21 = .ok (.dup2, 1) := by decide +kernel
theorem dX1_become_22 : decode cX1_become 22 = .ok (.iaload, 1) := by decide +kernel
theorem dX1_become_23 : decode cX1_become 23 = .ok (.iconst 1, 1) := by decide +kernel
theorem dX1_become_24 : decode cX1_become 24 = .ok (.iadd, 1) := by decide +kernel
theorem dX1_become_25 : decode cX1_become 25 = .ok (.iastore, 1) := by decide +kernel
theorem dX1_become_26 : decode cX1_become 26 = .ok (.iload_n 2, 1) := by decide +kernel
theorem dX1_become_27 : decode cX1_become 27 = .ok (.iconst 3, 1) := by decide +kernel
theorem dX1_become_28 : decode cX1_become 28 = .ok (.if_icmp .ne 17, 3) := by decide +kernel
theorem dX1_become_31 : decode cX1_become 31 = .ok (.aload_n 0, 1) := by decide +kernel
theorem dX1_become_32 : decode cX1_become 32 = .ok (.getfield 43, 3) := by decide +kernel
theorem dX1_become_35 : decode cX1_become 35 = .ok (.iload_n 1, 1) := by decide +kernel
theorem dX1_become_36 : decode cX1_become 36 = .ok (.iconst 4, 1) := by decide +kernel
theorem dX1_become_37 : decode cX1_become 37 = .ok (.imul, 1) := by decide +kernel
theorem dX1_become_38 : decode cX1_become 38 = .ok (.iconst 1, 1) := by decide +kernel
theorem dX1_become_39 : decode cX1_become 39 = .ok (.iadd, 1) := by decide +kernel
theorem dX1_become_40 : decode cX1_become 40 = .ok (.dup2, 1) := by decide +kernel
theorem dX1_become_41 : decode cX1_become 41 = .ok (.iaload, 1) := by decide +kernel
theorem dX1_become_42 : decode cX1_become 42 = .ok (.iconst 1, 1) := by decide +kernel
theorem dX1_become_43 : decode cX1_become 43 = .ok (.iadd, 1) := by decide +kernel
theorem dX1_become_44 : decode cX1_become 44 = .ok (.iastore, 1) := by decide +kernel
theorem dX1_become_45 : decode cX1_become 45 = .ok (.aload_n 0, 1) := by decide +kernel
theorem dX1_become_46 : decode cX1_become 46 = .ok (.getfield 49, 3) := by decide +kernel
theorem dX1_become_49 : decode cX1_become 49 = .ok (.aload_n 0, 1) := by decide +kernel
theorem dX1_become_50 : decode cX1_become 50 = .ok (.getfield 65, 3) := by decide +kernel
theorem dX1_become_53 : decode cX1_become 53 = .ok (.iload_n 1, 1) := by decide +kernel
theorem dX1_become_54 : decode cX1_become 54 = .ok (.iload_n 2, 1) := by decide +kernel
theorem dX1_become_55 : decode cX1_become 55 = .ok (.aload_n 0, 1) := by decide +kernel
theorem dX1_become_56 : decode cX1_become 56 = .ok (.getfield 40, 3) := by decide +kernel
theorem dX1_become_59 : decode cX1_become 59 = .ok (.iload_n 1, 1) := by decide +kernel
theorem dX1_become_60 : decode cX1_become 60 = .ok (.iaload, 1) := by decide +kernel
theorem dX1_become_61 : decode cX1_become 61 = .ok (.invokevirtual 156, 3) := by decide +kernel
theorem dX1_become_64 : decode cX1_become 64 = .ok (.return_, 1) := by decide +kernel
theorem dX1_endTick_0 : decode cX1_endTick 0 = .ok (.iconst 0, 1) := by decide +kernel
theorem dX1_endTick_1 : decode cX1_endTick 1 = .ok (.istore_n 1, 1) := by decide +kernel
theorem dX1_endTick_2 : decode cX1_endTick 2 = .ok (.iload_n 1, 1) := by decide +kernel
theorem dX1_endTick_3 : decode cX1_endTick 3 = .ok (.aload_n 0, 1) := by decide +kernel
theorem dX1_endTick_4 : decode cX1_endTick 4 = .ok (.getfield 62, 3) := by decide +kernel
theorem dX1_endTick_7 : decode cX1_endTick 7 = .ok (.if_icmp .ge 52, 3) := by decide +kernel
theorem dX1_endTick_10 : decode cX1_endTick 10 = .ok (.aload_n 0, 1) := by decide +kernel
theorem dX1_endTick_11 : decode cX1_endTick 11 = .ok (.getfield 31, 3) := by decide +kernel
theorem dX1_endTick_14 : decode cX1_endTick 14 = .ok (.iload_n 1, 1) := by decide +kernel
theorem dX1_endTick_15 : decode cX1_endTick 15 = .ok (.iaload, 1) := by decide +kernel
theorem dX1_endTick_16 : decode cX1_endTick 16 = .ok (.ifCond .le 13, 3) := by decide +kernel
theorem dX1_endTick_19 : decode cX1_endTick 19 = .ok (.aload_n 0, 1) := by decide +kernel
theorem dX1_endTick_20 : decode cX1_endTick 20 = .ok (.getfield 31, 3) := by decide +kernel
theorem dX1_endTick_23 : decode cX1_endTick 23 = .ok (.iload_n 1, 1) := by decide +kernel
theorem dX1_endTick_24 : decode cX1_endTick 24 = .ok (.dup2, 1) := by decide +kernel
theorem dX1_endTick_25 : decode cX1_endTick 25 = .ok (.iaload, 1) := by decide +kernel
theorem dX1_endTick_26 : decode cX1_endTick 26 = .ok (.iconst 1, 1) := by decide +kernel
theorem dX1_endTick_27 : decode cX1_endTick 27 = .ok (.isub, 1) := by decide +kernel
theorem dX1_endTick_28 : decode cX1_endTick 28 = .ok (.iastore, 1) := by decide +kernel
theorem dX1_endTick_29 : decode cX1_endTick 29 = .ok (.aload_n 0, 1) := by decide +kernel
theorem dX1_endTick_30 : decode cX1_endTick 30 = .ok (.getfield 22, 3) := by decide +kernel
theorem dX1_endTick_33 : decode cX1_endTick 33 = .ok (.iload_n 1, 1) := by decide +kernel
theorem dX1_endTick_34 : decode cX1_endTick 34 = .ok (.iaload, 1) := by decide +kernel
theorem dX1_endTick_35 : decode cX1_endTick 35 = .ok (.iconst 3, 1) := by decide +kernel
theorem dX1_endTick_36 : decode cX1_endTick 36 = .ok (.if_icmp .ne 17, 3) := by decide +kernel
theorem dX1_endTick_39 : decode cX1_endTick 39 = .ok (.aload_n 0, 1) := by decide +kernel
theorem dX1_endTick_40 : decode cX1_endTick 40 = .ok (.getfield 43, 3) := by decide +kernel
theorem dX1_endTick_43 : decode cX1_endTick 43 = .ok (.iload_n 1, 1) := by decide +kernel
theorem dX1_endTick_44 : decode cX1_endTick 44 = .ok (.iconst 4, 1) := by decide +kernel
theorem dX1_endTick_45 : decode cX1_endTick 45 = .ok (.imul, 1) := by decide +kernel
theorem dX1_endTick_46 : decode cX1_endTick 46 = .ok (.iconst 3, 1) := by decide +kernel
theorem dX1_endTick_47 : decode cX1_endTick 47 = .ok (.iadd, 1) := by decide +kernel
theorem dX1_endTick_48 : decode cX1_endTick 48 = .ok (.dup2, 1) := by decide +kernel
theorem dX1_endTick_49 : decode cX1_endTick 49 = .ok (.iaload, 1) := by decide +kernel
theorem dX1_endTick_50 : decode cX1_endTick 50 = .ok (.iconst 1, 1) := by decide +kernel
theorem dX1_endTick_51 : decode cX1_endTick 51 = .ok (.iadd, 1) := by decide +kernel
theorem dX1_endTick_52 : decode cX1_endTick 52 = .ok (.iastore, 1) := by decide +kernel
theorem dX1_endTick_53 : decode cX1_endTick 53 = .ok (.iinc 1 1, 3) := by decide +kernel
theorem dX1_endTick_56 : decode cX1_endTick 56 = .ok (.goto (-54), 3) := by decide +kernel
theorem dX1_endTick_59 : decode cX1_endTick 59 = .ok (.aload_n 0, 1) := by decide +kernel
theorem dX1_endTick_60 : decode cX1_endTick 60 = .ok (.dup, 1) := by decide +kernel
theorem dX1_endTick_61 : decode cX1_endTick 61 = .ok (.getfield 65, 3) := by decide +kernel
theorem dX1_endTick_64 : decode cX1_endTick 64 = .ok (.iconst 1, 1) := by decide +kernel
theorem dX1_endTick_65 : decode cX1_endTick 65 = .ok (.iadd, 1) := by decide +kernel
theorem dX1_endTick_66 : decode cX1_endTick 66 = .ok (.putfield 65, 3) := by decide +kernel
theorem dX1_endTick_69 : decode cX1_endTick 69 = .ok (.return_, 1) := by decide +kernel
theorem dX1_wasStill_0 : decode cX1_wasStill 0 = .ok (.iconst 0, 1) := by decide +kernel
theorem dX1_wasStill_1 : decode cX1_wasStill 1 = .ok (.istore_n 1, 1) := by decide +kernel
theorem dX1_wasStill_2 : decode cX1_wasStill 2 = .ok (.iload_n 1, 1) := by decide +kernel
theorem dX1_wasStill_3 : decode cX1_wasStill 3 = .ok (.aload_n 0, 1) := by decide +kernel
theorem dX1_wasStill_4 : decode cX1_wasStill 4 = .ok (.getfield 62, 3) := by decide +kernel
theorem dX1_wasStill_7 : decode cX1_wasStill 7 = .ok (.if_icmp .ge 56, 3) := by decide +kernel
theorem dX1_wasStill_10 : decode cX1_wasStill 10 = .ok (.aload_n 0, 1) := by decide +kernel
theorem dX1_wasStill_11 : decode cX1_wasStill 11 = .ok (.getfield 22, 3) := by decide +kernel
theorem dX1_wasStill_14 : decode cX1_wasStill 14 = .ok (.iload_n 1, 1) := by decide +kernel
theorem dX1_wasStill_15 : decode cX1_wasStill 15 = .ok (.iaload, 1) := by decide +kernel
theorem dX1_wasStill_16 : decode cX1_wasStill 16 = .ok (.aload_n 0, 1) := by decide +kernel
theorem dX1_wasStill_17 : decode cX1_wasStill 17 = .ok (.getfield 53, 3) := by decide +kernel
theorem dX1_wasStill_20 : decode cX1_wasStill 20 = .ok (.iload_n 1, 1) := by decide +kernel
theorem dX1_wasStill_21 : decode cX1_wasStill 21 = .ok (.iaload, 1) := by decide +kernel
theorem dX1_wasStill_22 : decode cX1_wasStill 22 = .ok (.if_icmp .ne 33, 3) := by decide +kernel
theorem dX1_wasStill_25 : decode cX1_wasStill 25 = .ok (.aload_n 0, 1) := by decide +kernel
theorem dX1_wasStill_26 : decode cX1_wasStill 26 = .ok (.getfield 25, 3) := by decide +kernel
theorem dX1_wasStill_29 : decode cX1_wasStill 29 = .ok (.iload_n 1, 1) := by decide +kernel
theorem dX1_wasStill_30 : decode cX1_wasStill 30 = .ok (.iaload, 1) := by decide +kernel
theorem dX1_wasStill_31 : decode cX1_wasStill 31 = .ok (.aload_n 0, 1) := by decide +kernel
theorem dX1_wasStill_32 : decode cX1_wasStill 32 = .ok (.getfield 56, 3) := by decide +kernel
theorem dX1_wasStill_35 : decode cX1_wasStill 35 = .ok (.iload_n 1, 1) := by decide +kernel
theorem dX1_wasStill_36 : decode cX1_wasStill 36 = .ok (.iaload, 1) := by decide +kernel
theorem dX1_wasStill_37 : decode cX1_wasStill 37 = .ok (.if_icmp .ne 18, 3) := by decide +kernel
theorem dX1_wasStill_40 : decode cX1_wasStill 40 = .ok (.aload_n 0, 1) := by decide +kernel
theorem dX1_wasStill_41 : decode cX1_wasStill 41 = .ok (.getfield 34, 3) := by decide +kernel
theorem dX1_wasStill_44 : decode cX1_wasStill 44 = .ok (.iload_n 1, 1) := by decide +kernel
theorem dX1_wasStill_45 : decode cX1_wasStill 45 = .ok (.iaload, 1) := by decide +kernel
theorem dX1_wasStill_46 : decode cX1_wasStill 46 = .ok (.aload_n 0, 1) := by decide +kernel
theorem dX1_wasStill_47 : decode cX1_wasStill 47 = .ok (.getfield 59, 3) := by decide +kernel
theorem dX1_wasStill_50 : decode cX1_wasStill 50 = .ok (.iload_n 1, 1) := by decide +kernel
theorem dX1_wasStill_51 : decode cX1_wasStill 51 = .ok (.iaload, 1) := by decide +kernel
theorem dX1_wasStill_52 : decode cX1_wasStill 52 = .ok (.if_icmp .eq 5, 3) := by decide +kernel
theorem dX1_wasStill_55 : decode cX1_wasStill 55 = .ok (.iconst 0, 1) := by decide +kernel
theorem dX1_wasStill_56 : decode cX1_wasStill 56 = .ok (.ireturn, 1) := by decide +kernel
theorem dX1_wasStill_57 : decode cX1_wasStill 57 = .ok (.iinc 1 1, 3) := by decide +kernel
theorem dX1_wasStill_60 : decode cX1_wasStill 60 = .ok (.goto (-58), 3) := by decide +kernel
theorem dX1_wasStill_63 : decode cX1_wasStill 63 = .ok (.iconst 1, 1) := by decide +kernel
theorem dX1_wasStill_64 : decode cX1_wasStill 64 = .ok (.ireturn, 1) := by decide +kernel
theorem dX1_justDropped_0 : decode cX1_justDropped 0 = .ok (.iconst 0, 1) := by decide +kernel
theorem dX1_justDropped_1 : decode cX1_justDropped 1 = .ok (.istore_n 1, 1) := by decide +kernel
theorem dX1_justDropped_2 : decode cX1_justDropped 2 = .ok (.iconst 0, 1) := by decide +kernel
theorem dX1_justDropped_3 : decode cX1_justDropped 3 = .ok (.istore_n 2, 1) := by decide +kernel
theorem dX1_justDropped_4 : decode cX1_justDropped 4 = .ok (.iload_n 2, 1) := by decide +kernel
theorem dX1_justDropped_5 : decode cX1_justDropped 5 = .ok (.aload_n 0, 1) := by decide +kernel
theorem dX1_justDropped_6 : decode cX1_justDropped 6 = .ok (.getfield 62, 3) := by decide +kernel
theorem dX1_justDropped_9 : decode cX1_justDropped 9 = .ok (.if_icmp .ge 60, 3) := by decide +kernel
theorem dX1_justDropped_12 : decode cX1_justDropped 12 = .ok (.aload_n 0, 1) := by decide +kernel
theorem dX1_justDropped_13 : decode cX1_justDropped 13 = .ok (.getfield 22, 3) := by decide +kernel
theorem dX1_justDropped_16 : decode cX1_justDropped 16 = .ok (.iload_n 2, 1) := by decide +kernel
theorem dX1_justDropped_17 : decode cX1_justDropped 17 = .ok (.iaload, 1) := by decide +kernel
theorem dX1_justDropped_18 : decode cX1_justDropped 18 = .ok (.iconst 4, 1) := by decide +kernel
theorem dX1_justDropped_19 : decode cX1_justDropped 19 = .ok (.if_icmp .eq 13, 3) := by decide +kernel
theorem dX1_justDropped_22 : decode cX1_justDropped 22 = .ok (.aload_n 0, 1) := by decide +kernel
theorem dX1_justDropped_23 : decode cX1_justDropped 23 = .ok (.getfield 22, 3) := by decide +kernel
theorem dX1_justDropped_26 : decode cX1_justDropped 26 = .ok (.iload_n 2, 1) := by decide +kernel
theorem dX1_justDropped_27 : decode cX1_justDropped 27 = .ok (.iaload, 1) := by decide +kernel
theorem dX1_justDropped_28 : decode cX1_justDropped 28 = .ok (.iconst 5, 1) := by decide +kernel
theorem dX1_justDropped_29 : decode cX1_justDropped 29 = .ok (.if_icmp .ne 7, 3) := by decide +kernel
theorem dX1_justDropped_32 : decode cX1_justDropped 32 = .ok (.iconst 1, 1) := by decide +kernel
theorem dX1_justDropped_33 : decode cX1_justDropped 33 = .ok (.goto 4, 3) := by decide +kernel
theorem dX1_justDropped_36 : decode cX1_justDropped 36 = .ok (.iconst 0, 1) := by decide +kernel
theorem dX1_justDropped_37 : decode cX1_justDropped 37 = .ok (.istore_n 3, 1) := by decide +kernel
theorem dX1_justDropped_38 : decode cX1_justDropped 38 = .ok (.iload_n 3, 1) := by decide +kernel
theorem dX1_justDropped_39 : decode cX1_justDropped 39 = .ok (.ifCond .eq 24, 3) := by decide +kernel
theorem dX1_justDropped_42 : decode cX1_justDropped 42 = .ok (.aload_n 0, 1) := by decide +kernel
theorem dX1_justDropped_43 : decode cX1_justDropped 43 = .ok (.getfield 22, 3) := by decide +kernel
theorem dX1_justDropped_46 : decode cX1_justDropped 46 = .ok (.iload_n 2, 1) := by decide +kernel
theorem dX1_justDropped_47 : decode cX1_justDropped 47 = .ok (.iaload, 1) := by decide +kernel
theorem dX1_justDropped_48 : decode cX1_justDropped 48 = .ok (.aload_n 0, 1) := by decide +kernel
theorem dX1_justDropped_49 : decode cX1_justDropped 49 = .ok (.getfield 53, 3) := by decide +kernel
theorem dX1_justDropped_52 : decode cX1_justDropped 52 = .ok (.iload_n 2, 1) := by decide +kernel
theorem dX1_justDropped_53 : decode cX1_justDropped 53 = .ok (.iaload, 1) := by decide +kernel
theorem dX1_justDropped_54 : decode cX1_justDropped 54 = .ok (.if_icmp .eq 9, 3) := by decide +kernel
theorem dX1_justDropped_57 : decode cX1_justDropped 57 = .ok (.iload_n 1, 1) := by decide +kernel
theorem dX1_justDropped_58 : decode cX1_justDropped 58 = .ok (.iconst 1, 1) := by decide +kernel
theorem dX1_justDropped_59 : decode cX1_justDropped 59 = .ok (.iload_n 2, 1) := by decide +kernel
theorem dX1_justDropped_60 : decode cX1_justDropped 60 = .ok (.ishl, 1) := by decide +kernel
theorem dX1_justDropped_61 : decode cX1_justDropped 61 = .ok (.ior, 1) := by decide +kernel
theorem dX1_justDropped_62 : decode cX1_justDropped 62 = .ok (.istore_n 1, 1) := by decide +kernel
theorem dX1_justDropped_63 : decode cX1_justDropped 63 = .ok (.iinc 2 1, 3) := by decide +kernel
theorem dX1_justDropped_66 : decode cX1_justDropped 66 = .ok (.goto (-62), 3) := by decide +kernel
theorem dX1_justDropped_69 : decode cX1_justDropped 69 = .ok (.iload_n 1, 1) := by decide +kernel
theorem dX1_justDropped_70 : decode cX1_justDropped 70 = .ok (.ireturn, 1) := by decide +kernel
theorem dX1_dropForRestart_0 : decode cX1_dropForRestart 0 = .ok (.aload_n 0, 1) := by decide +kernel
theorem dX1_dropForRestart_1 : decode cX1_dropForRestart 1 = .ok (.iconst 1, 1) := by decide +kernel
theorem dX1_dropForRestart_2 : decode cX1_dropForRestart 2 = .ok (.iload_n 1, 1) := by decide +kernel
theorem dX1_dropForRestart_3 : decode cX1_dropForRestart 3 = .ok (.ishl, 1) := by decide +kernel
theorem dX1_dropForRestart_4 : decode cX1_dropForRestart 4 = .ok (.invokevirtual 81, 3) := by decide +kernel
theorem dX1_dropForRestart_7 : decode cX1_dropForRestart 7 = .ok (.istore_n 2, 1) := by decide +kernel
theorem dX1_dropForRestart_8 : decode cX1_dropForRestart 8 = .ok (.iconst 0, 1) := by decide +kernel
theorem dX1_dropForRestart_9 : decode cX1_dropForRestart 9 = .ok (.istore_n 3, 1) := by decide +kernel
theorem dX1_dropForRestart_10 : decode cX1_dropForRestart 10 = .ok (.iload_n 1, 1) := by decide +kernel
theorem dX1_dropForRestart_11 : decode cX1_dropForRestart 11 = .ok (.istore 4, 2) := by decide +kernel
theorem dX1_dropForRestart_13 : decode cX1_dropForRestart 13 = .ok (.iload 4, 2) := by decide +kernel
theorem dX1_dropForRestart_15 : decode cX1_dropForRestart 15 = .ok (.aload_n 0, 1) := by decide +kernel
theorem dX1_dropForRestart_16 : decode cX1_dropForRestart 16 = .ok (.getfield 62, 3) := by decide +kernel
theorem dX1_dropForRestart_19 : decode cX1_dropForRestart 19 = .ok (.if_icmp .ge 53, 3) := by decide +kernel
theorem dX1_dropForRestart_22 : decode cX1_dropForRestart 22 = .ok (.iload_n 2, 1) := by decide +kernel
theorem dX1_dropForRestart_23 : decode cX1_dropForRestart 23 = .ok (.iconst 1, 1) := by decide +kernel
theorem dX1_dropForRestart_24 : decode cX1_dropForRestart 24 = .ok (.iload 4, 2) := by decide +kernel
theorem dX1_dropForRestart_26 : decode cX1_dropForRestart 26 = .ok (.ishl, 1) := by decide +kernel
theorem dX1_dropForRestart_27 : decode cX1_dropForRestart 27 = .ok (.iand, 1) := by decide +kernel
theorem dX1_dropForRestart_28 : decode cX1_dropForRestart 28 = .ok (.ifCond .eq 38, 3) := by decide +kernel
theorem dX1_dropForRestart_31 : decode cX1_dropForRestart 31 = .ok (.aload_n 0, 1) := by decide +kernel
theorem dX1_dropForRestart_32 : decode cX1_dropForRestart 32 = .ok (.iload 4, 2) := by decide +kernel
theorem dX1_dropForRestart_34 : decode cX1_dropForRestart 34 = .ok (.invokevirtual 160, 3) := by decide +kernel
theorem dX1_dropForRestart_37 : decode cX1_dropForRestart 37 = .ok (.ifCond .eq 29, 3) := by decide +kernel
theorem dX1_dropForRestart_40 : decode cX1_dropForRestart 40 = .ok (.aload_n 0, 1) := by decide +kernel
theorem dX1_dropForRestart_41 : decode cX1_dropForRestart 41 = .ok (.getfield 40, 3) := by decide +kernel
theorem dX1_dropForRestart_44 : decode cX1_dropForRestart 44 = .ok (.iload 4, 2) := by decide +kernel
theorem dX1_dropForRestart_46 : decode cX1_dropForRestart 46 = .ok (.iload_n 1, 1) := by decide +kernel
theorem dX1_dropForRestart_47 : decode cX1_dropForRestart 47 = .ok (.iastore, 1) := by decide +kernel
theorem dX1_dropForRestart_48 : decode cX1_dropForRestart 48 = .ok (.aload_n 0, 1) := by decide +kernel
theorem dX1_dropForRestart_49 : decode cX1_dropForRestart 49 = .ok (.getfield 37, 3) := by decide +kernel
theorem dX1_dropForRestart_52 : decode cX1_dropForRestart 52 = .ok (.iload 4, 2) := by decide +kernel
theorem dX1_dropForRestart_54 : decode cX1_dropForRestart 54 = .ok (.iconst 0, 1) := by decide +kernel
theorem dX1_dropForRestart_55 : decode cX1_dropForRestart 55 = .ok (.iastore, 1) := by decide +kernel
theorem dX1_dropForRestart_56 : decode cX1_dropForRestart 56 = .ok (.aload_n 0, 1) := by decide +kernel
theorem dX1_dropForRestart_57 : decode cX1_dropForRestart 57 = .ok (.iload 4, 2) := by decide +kernel
theorem dX1_dropForRestart_59 : decode cX1_dropForRestart 59 = .ok (.iconst 4, 1) := by decide +kernel
theorem dX1_dropForRestart_60 : decode cX1_dropForRestart 60 = .ok (.invokevirtual 117, 3) := by decide +kernel
theorem dX1_dropForRestart_63 : decode cX1_dropForRestart 63 = .ok (.iinc 3 1, 3) := by decide +kernel
theorem dX1_dropForRestart_66 : decode cX1_dropForRestart 66 = .ok (.iinc 4 1, 3) := by decide +kernel
theorem dX1_dropForRestart_69 : decode cX1_dropForRestart 69 = .ok (.goto (-56), 3) := by decide +kernel
theorem dX1_dropForRestart_72 : decode cX1_dropForRestart 72 = .ok (.iload_n 3, 1) := by decide +kernel
theorem dX1_dropForRestart_73 : decode cX1_dropForRestart 73 = .ok (.ireturn, 1) := by decide +kernel
theorem dX1_isToDrop_0 : decode cX1_isToDrop 0 = .ok (.aload_n 0, 1) := by decide +kernel
theorem dX1_isToDrop_1 : decode cX1_isToDrop 1 = .ok (.getfield 22, 3) := by decide +kernel
theorem dX1_isToDrop_4 : decode cX1_isToDrop 4 = .ok (.iload_n 1, 1) := by decide +kernel
theorem dX1_isToDrop_5 : decode cX1_isToDrop 5 = .ok (.iaload, 1) := by decide +kernel
theorem dX1_isToDrop_6 : decode cX1_isToDrop 6 = .ok (.iconst 2, 1) := by decide +kernel
theorem dX1_isToDrop_7 : decode cX1_isToDrop 7 = .ok (.if_icmp .eq 31, 3) := by decide +kernel
theorem dX1_isToDrop_10 : decode cX1_isToDrop 10 = .ok (.aload_n 0, 1) := by decide +kernel
theorem dX1_isToDrop_11 : decode cX1_isToDrop 11 = .ok (.getfield 22, 3) := by decide +kernel
theorem dX1_isToDrop_14 : decode cX1_isToDrop 14 = .ok (.iload_n 1, 1) := by decide +kernel
theorem dX1_isToDrop_15 : decode cX1_isToDrop 15 = .ok (.iaload, 1) := by decide +kernel
theorem dX1_isToDrop_16 : decode cX1_isToDrop 16 = .ok (.iconst 3, 1) := by decide +kernel
theorem dX1_isToDrop_17 : decode cX1_isToDrop 17 = .ok (.if_icmp .eq 21, 3) := by decide +kernel
theorem dX1_isToDrop_20 : decode cX1_isToDrop 20 = .ok (.aload_n 0, 1) := by decide +kernel
theorem dX1_isToDrop_21 : decode cX1_isToDrop 21 = .ok (.getfield 22, 3) := by decide +kernel
theorem dX1_isToDrop_24 : decode cX1_isToDrop 24 = .ok (.iload_n 1, 1) := by decide +kernel
theorem dX1_isToDrop_25 : decode cX1_isToDrop 25 = .ok (.iaload, 1) := by decide +kernel
theorem dX1_isToDrop_26 : decode cX1_isToDrop 26 = .ok (.iconst 5, 1) := by decide +kernel
theorem dX1_isToDrop_27 : decode cX1_isToDrop 27 = .ok (.if_icmp .ne 15, 3) := by decide +kernel
theorem dX1_isToDrop_30 : decode cX1_isToDrop 30 = .ok (.aload_n 0, 1) := by decide +kernel
theorem dX1_isToDrop_31 : decode cX1_isToDrop 31 = .ok (.iload_n 1, 1) := by decide +kernel
theorem dX1_isToDrop_32 : decode cX1_isToDrop 32 = .ok (.invokevirtual 85, 3) := by decide +kernel
theorem dX1_isToDrop_35 : decode cX1_isToDrop 35 = .ok (.ifCond .eq 7, 3) := by decide +kernel
theorem dX1_isToDrop_38 : decode cX1_isToDrop 38 = .ok (.iconst 1, 1) := by decide +kernel
theorem dX1_isToDrop_39 : decode cX1_isToDrop 39 = .ok (.goto 4, 3) := by decide +kernel
theorem dX1_isToDrop_42 : decode cX1_isToDrop 42 = .ok (.iconst 0, 1) := by decide +kernel
theorem dX1_isToDrop_43 : decode cX1_isToDrop 43 = .ok (.ireturn, 1) := by decide +kernel
theorem dX2_init_0 : decode cX2_init 0 = .ok (.aload_n 0, 1) := by decide +kernel
theorem dX2_init_1 : decode cX2_init 1 = .ok (.invokespecial 3, 3) := by decide +kernel
theorem dX2_init_4 : decode cX2_init 4 = .ok (.aload_n 0, 1) := by decide +kernel
theorem dX2_init_5 : decode cX2_init 5 = .ok (.iconst 3, 1) := by decide +kernel
theorem dX2_init_6 : decode cX2_init 6 = .ok (.newarray .int, 2) := by decide +kernel
theorem dX2_init_8 : decode cX2_init 8 = .ok (.putfield 11, 3) := by decide +kernel
theorem dX2_init_11 : decode cX2_init 11 = .ok (.return_, 1) := by decide +kernel
theorem dX3_init_0 : decode cX3_init 0 = .ok (.aload_n 0, 1) := by decide +kernel
theorem dX3_init_1 : decode cX3_init 1 = .ok (.invokespecial 1, 3) := by decide +kernel
theorem dX3_init_4 : decode cX3_init 4 = .ok (.aload_n 0, 1) := by decide +kernel
theorem dX3_init_5 : decode cX3_init 5 = .ok (.new 7, 3) := by decide +kernel
theorem dX3_init_8 : decode cX3_init 8 = .ok (.dup, 1) := by decide +kernel
theorem dX3_init_9 : decode cX3_init 9 = .ok (.invokespecial 9, 3) := by decide +kernel
theorem dX3_init_12 : decode cX3_init 12 = .ok (.putfield 10, 3) := by decide +kernel
theorem dX3_init_15 : decode cX3_init 15 = .ok (.aload_n 0, 1) := by decide +kernel
theorem dX3_init_16 : decode cX3_init 16 = .ok (.new 7, 3) := by decide +kernel
theorem dX3_init_19 : decode cX3_init 19 = .ok (.dup, 1) := by decide +kernel
theorem dX3_init_20 : decode cX3_init 20 = .ok (.invokespecial 9, 3) := by decide +kernel
theorem dX3_init_23 : decode cX3_init 23 = .ok (.putfield 16, 3) := by decide +kernel
theorem dX3_init_26 : decode cX3_init 26 = .ok (.aload_n 0, 1) := by decide +kernel
theorem dX3_init_27 : decode cX3_init 27 = .ok (.bipush 6, 2) := by decide +kernel
theorem dX3_init_29 : decode cX3_init 29 = .ok (.anewarray 7, 3) := by decide +kernel
theorem dX3_init_32 : decode cX3_init 32 = .ok (.putfield 19, 3) := by decide +kernel
theorem dX3_init_35 : decode cX3_init 35 = .ok (.aload_n 0, 1) := by decide +kernel
theorem dX3_init_36 : decode cX3_init 36 = .ok (.bipush 60, 2) := by decide +kernel
theorem dX3_init_38 : decode cX3_init 38 = .ok (.newarray .int, 2) := by decide +kernel
theorem dX3_init_40 : decode cX3_init 40 = .ok (.putfield 23, 3) := by decide +kernel
theorem dX3_init_43 : decode cX3_init 43 = .ok (.aload_n 0, 1) := by decide +kernel
theorem dX3_init_44 : decode cX3_init 44 = .ok (.new 27, 3) := by decide +kernel
theorem dX3_init_47 : decode cX3_init 47 = .ok (.dup, 1) := by decide +kernel
theorem dX3_init_48 : decode cX3_init 48 = .ok (.invokespecial 29, 3) := by decide +kernel
theorem dX3_init_51 : decode cX3_init 51 = .ok (.putfield 30, 3) := by decide +kernel
theorem dX3_init_54 : decode cX3_init 54 = .ok (.iconst 0, 1) := by decide +kernel
theorem dX3_init_55 : decode cX3_init 55 = .ok (.istore_n 1, 1) := by decide +kernel
theorem dX3_init_56 : decode cX3_init 56 = .ok (.iload_n 1, 1) := by decide +kernel
theorem dX3_init_57 : decode cX3_init 57 = .ok (.bipush 6, 2) := by decide +kernel
theorem dX3_init_59 : decode cX3_init 59 = .ok (.if_icmp .ge 22, 3) := by decide +kernel
theorem dX3_init_62 : decode cX3_init 62 = .ok (.aload_n 0, 1) := by decide +kernel
theorem dX3_init_63 : decode cX3_init 63 = .ok (.getfield 19, 3) := by decide +kernel
theorem dX3_init_66 : decode cX3_init 66 = .ok (.iload_n 1, 1) := by decide +kernel
theorem dX3_init_67 : decode cX3_init 67 = .ok (.new 7, 3) := by decide +kernel
theorem dX3_init_70 : decode cX3_init 70 = .ok (.dup, 1) := by decide +kernel
theorem dX3_init_71 : decode cX3_init 71 = .ok (.invokespecial 9, 3) := by decide +kernel
theorem dX3_init_74 : decode cX3_init 74 = .ok (.aastore, 1) := by decide +kernel
theorem dX3_init_75 : decode cX3_init 75 = .ok (.iinc 1 1, 3) := by decide +kernel
theorem dX3_init_78 : decode cX3_init 78 = .ok (.goto (-22), 3) := by decide +kernel
theorem dX3_init_81 : decode cX3_init 81 = .ok (.return_, 1) := by decide +kernel
theorem dX3_addRail_0 : decode cX3_addRail 0 = .ok (.iconst 0, 1) := by decide +kernel
theorem dX3_addRail_1 : decode cX3_addRail 1 = .ok (.iload_n 1, 1) := by decide +kernel
theorem dX3_addRail_2 : decode cX3_addRail 2 = .ok (.invokestatic 34, 3) := by decide +kernel
theorem dX3_addRail_5 : decode cX3_addRail 5 = .ok (.ifCond .eq 19, 3) := by decide +kernel
theorem dX3_addRail_8 : decode cX3_addRail 8 = .ok (.iconst 1, 1) := by decide +kernel
theorem dX3_addRail_9 : decode cX3_addRail 9 = .ok (.iload_n 2, 1) := by decide +kernel
theorem dX3_addRail_10 : decode cX3_addRail 10 = .ok (.invokestatic 34, 3) := by decide +kernel
theorem dX3_addRail_13 : decode cX3_addRail 13 = .ok (.ifCond .eq 11, 3) := by decide +kernel
theorem dX3_addRail_16 : decode cX3_addRail 16 = .ok (.iconst 2, 1) := by decide +kernel
theorem dX3_addRail_17 : decode cX3_addRail 17 = .ok (.iload_n 3, 1) := by decide +kernel
theorem dX3_addRail_18 : decode cX3_addRail 18 = .ok (.invokestatic 34, 3) := by decide +kernel
theorem dX3_addRail_21 : decode cX3_addRail 21 = .ok (.ifCond .ne 13, 3) := by decide +kernel
theorem dX3_addRail_24 : decode cX3_addRail 24 = .ok (.new 38, 3) := by decide +kernel
theorem dX3_addRail_27 : decode cX3_addRail 27 = .ok (.dup, 1) := by decide +kernel
theorem dX3_addRail_28 : decode cX3_addRail 28 = .ok (.ldc 40, 2) := by decide +kernel
theorem dX3_addRail_30 : decode cX3_addRail 30 = .ok (.invokespecial 42, 3) := by decide +kernel
theorem dX3_addRail_33 : decode cX3_addRail 33 = .ok (.athrow, 1) := by decide +kernel
theorem dX3_addRail_34 : decode cX3_addRail 34 = .ok (.aload_n 0, 1) := by decide +kernel
theorem dX3_addRail_35 : decode cX3_addRail 35 = .ok (.iload 4, 2) := by decide +kernel
theorem dX3_addRail_37 : decode cX3_addRail 37 = .ok (.invokevirtual 45, 3) := by decide +kernel
theorem dX3_addRail_40 : decode cX3_addRail 40 = .ok (.ifCond .ne 13, 3) := by decide +kernel
theorem dX3_addRail_43 : decode cX3_addRail 43 = .ok (.new 38, 3) := by decide +kernel
theorem dX3_addRail_46 : decode cX3_addRail 46 = .ok (.dup, 1) := by decide +kernel
theorem dX3_addRail_47 : decode cX3_addRail 47 = .ok (.ldc 49, 2) := by decide +kernel
theorem dX3_addRail_49 : decode cX3_addRail 49 = .ok (.invokespecial 42, 3) := by decide +kernel
theorem dX3_addRail_52 : decode cX3_addRail 52 = .ok (.athrow, 1) := by decide +kernel
theorem dX3_addRail_53 : decode cX3_addRail 53 = .ok (.aload_n 0, 1) := by decide +kernel
theorem dX3_addRail_54 : decode cX3_addRail 54 = .ok (.getfield 10, 3) := by decide +kernel
theorem dX3_addRail_57 : decode cX3_addRail 57 = .ok (.getfield 51, 3) := by decide +kernel
theorem dX3_addRail_60 : decode cX3_addRail 60 = .ok (.bipush 8, 2) := by decide +kernel
theorem dX3_addRail_62 : decode cX3_addRail 62 = .ok (.if_icmp .lt 13, 3) := by decide +kernel
theorem dX3_addRail_65 : decode cX3_addRail 65 = .ok (.new 55, 3) := by decide +kernel
theorem dX3_addRail_68 : decode cX3_addRail 68 = .ok (.dup, 1) := by decide +kernel
theorem dX3_addRail_69 : decode cX3_addRail 69 = .ok (.ldc 57, 2) := by decide +kernel
theorem dX3_addRail_71 : decode cX3_addRail 71 = .ok (.invokespecial 59, 3) := by decide +kernel
theorem dX3_addRail_74 : decode cX3_addRail 74 = .ok (.athrow, 1) := by decide +kernel
theorem dX3_addRail_75 : decode cX3_addRail 75 = .ok (.aload_n 0, 1) := by decide +kernel
theorem dX3_addRail_76 : decode cX3_addRail 76 = .ok (.invokevirtual 60, 3) := by decide +kernel
theorem dX3_addRail_79 : decode cX3_addRail 79 = .ok (.aload_n 0, 1) := by decide +kernel
theorem dX3_addRail_80 : decode cX3_addRail 80 = .ok (.getfield 10, 3) := by decide +kernel
theorem dX3_addRail_83 : decode cX3_addRail 83 = .ok (.iload_n 1, 1) := by decide +kernel
theorem dX3_addRail_84 : decode cX3_addRail 84 = .ok (.iload_n 2, 1) := by decide +kernel
theorem dX3_addRail_85 : decode cX3_addRail 85 = .ok (.iload_n 3, 1) := by decide +kernel
theorem dX3_addRail_86 : decode cX3_addRail 86 = .ok (.iload 4, 2) := by decide +kernel
theorem dX3_addRail_88 : decode cX3_addRail 88 = .ok (.invokevirtual 63, 3) := by decide +kernel
theorem dX3_addRail_91 : decode cX3_addRail 91 = .ok (.aload_n 0, 1) := by decide +kernel
theorem dX3_addRail_92 : decode cX3_addRail 92 = .ok (.getfield 10, 3) := by decide +kernel
theorem dX3_addRail_95 : decode cX3_addRail 95 = .ok (.getfield 51, 3) := by decide +kernel
theorem dX3_addRail_98 : decode cX3_addRail 98 = .ok (.iconst 1, 1) := by decide +kernel
theorem dX3_addRail_99 : decode cX3_addRail 99 = .ok (.isub, 1) := by decide +kernel
theorem dX3_addRail_100 : decode cX3_addRail 100 = .ok (.ireturn, 1) := by decide +kernel
theorem dX3_set_0 : decode cX3_set 0 = .ok (.aload_n 0, 1) := by decide +kernel
theorem dX3_set_1 : decode cX3_set 1 = .ok (.iload_n 1, 1) := by decide +kernel
theorem dX3_set_2 : decode cX3_set 2 = .ok (.invokevirtual 67, 3) := by decide +kernel
theorem dX3_set_5 : decode cX3_set 5 = .ok (.ifCond .eq 13, 3) := by decide +kernel
theorem dX3_set_8 : decode cX3_set 8 = .ok (.iload_n 2, 1) := by decide +kernel
theorem dX3_set_9 : decode cX3_set 9 = .ok (.ifCond .lt 9, 3) := by decide +kernel
theorem dX3_set_12 : decode cX3_set 12 = .ok (.iload_n 2, 1) := by decide +kernel
theorem dX3_set_13 : decode cX3_set 13 = .ok (.bipush 7, 2) := by decide +kernel
theorem dX3_set_15 : decode cX3_set 15 = .ok (.if_icmp .lt 13, 3) := by decide +kernel
theorem dX3_set_18 : decode cX3_set 18 = .ok (.new 70, 3) := by decide +kernel
theorem dX3_set_21 : decode cX3_set 21 = .ok (.dup, 1) := by decide +kernel
theorem dX3_set_22 : decode cX3_set 22 = .ok (.ldc 72, 2) := by decide +kernel
theorem dX3_set_24 : decode cX3_set 24 = .ok (.invokespecial 74, 3) := by decide +kernel
end
section
theorem dX3_set_27 : decode cX3_set 27 = .ok (.athrow, 1) := by decide +kernel
theorem dX3_set_28 : decode cX3_set 28 = .ok (.iload_n 2, 1) := by decide +kernel
theorem dX3_set_29 : decode cX3_set 29 = .ok (.iload_n 3, 1) := by decide +kernel
theorem dX3_set_30 : decode cX3_set 30 = .ok (.invokestatic 34, 3) := by decide +kernel
theorem dX3_set_33 : decode cX3_set 33 = .ok (.ifCond .ne 13, 3) := by decide +kernel
theorem dX3_set_36 : decode cX3_set 36 = .ok (.new 38, 3) := by decide +kernel
theorem dX3_set_39 : decode cX3_set 39 = .ok (.dup, 1) := by decide +kernel
theorem dX3_set_40 : decode cX3_set 40 = .ok (.ldc 75, 2) := by decide +kernel
theorem dX3_set_42 : decode cX3_set 42 = .ok (.invokespecial 42, 3) := by decide +kernel
theorem dX3_set_45 : decode cX3_set 45 = .ok (.athrow, 1) := by decide +kernel
theorem dX3_set_46 : decode cX3_set 46 = .ok (.aload_n 0, 1) := by decide +kernel
theorem dX3_set_47 : decode cX3_set 47 = .ok (.invokevirtual 60, 3) := by decide +kernel
theorem dX3_set_50 : decode cX3_set 50 = .ok (.aload_n 0, 1) := by decide +kernel
theorem dX3_set_51 : decode cX3_set 51 = .ok (.getfield 10, 3) := by decide +kernel
theorem dX3_set_54 : decode cX3_set 54 = .ok (.iload_n 1, 1) := by decide +kernel
theorem dX3_set_55 : decode cX3_set 55 = .ok (.iload_n 2, 1) := by decide +kernel
theorem dX3_set_56 : decode cX3_set 56 = .ok (.invokevirtual 77, 3) := by decide +kernel
theorem dX3_set_59 : decode cX3_set 59 = .ok (.istore 4, 2) := by decide +kernel
theorem dX3_set_61 : decode cX3_set 61 = .ok (.aload_n 0, 1) := by decide +kernel
theorem dX3_set_62 : decode cX3_set 62 = .ok (.getfield 10, 3) := by decide +kernel
theorem dX3_set_65 : decode cX3_set 65 = .ok (.getfield 81, 3) := by decide +kernel
theorem dX3_set_68 : decode cX3_set 68 = .ok (.iload_n 1, 1) := by decide +kernel
theorem dX3_set_69 : decode cX3_set 69 = .ok (.bipush 7, 2) := by decide +kernel
theorem dX3_set_71 : decode cX3_set 71 = .ok (.imul, 1) := by decide +kernel
theorem dX3_set_72 : decode cX3_set 72 = .ok (.iload_n 2, 1) := by decide +kernel
theorem dX3_set_73 : decode cX3_set 73 = .ok (.iadd, 1) := by decide +kernel
theorem dX3_set_74 : decode cX3_set 74 = .ok (.iload_n 3, 1) := by decide +kernel
theorem dX3_set_75 : decode cX3_set 75 = .ok (.iastore, 1) := by decide +kernel
theorem dX3_set_76 : decode cX3_set 76 = .ok (.iload 4, 2) := by decide +kernel
theorem dX3_set_78 : decode cX3_set 78 = .ok (.ireturn, 1) := by decide +kernel
theorem dX3_setNeeds_0 : decode cX3_setNeeds 0 = .ok (.aload_n 0, 1) := by decide +kernel
theorem dX3_setNeeds_1 : decode cX3_setNeeds 1 = .ok (.iload_n 1, 1) := by decide +kernel
theorem dX3_setNeeds_2 : decode cX3_setNeeds 2 = .ok (.invokevirtual 67, 3) := by decide +kernel
theorem dX3_setNeeds_5 : decode cX3_setNeeds 5 = .ok (.ifCond .ne 13, 3) := by decide +kernel
theorem dX3_setNeeds_8 : decode cX3_setNeeds 8 = .ok (.new 70, 3) := by decide +kernel
theorem dX3_setNeeds_11 : decode cX3_setNeeds 11 = .ok (.dup, 1) := by decide +kernel
theorem dX3_setNeeds_12 : decode cX3_setNeeds 12 = .ok (.ldc 84, 2) := by decide +kernel
theorem dX3_setNeeds_14 : decode cX3_setNeeds 14 = .ok (.invokespecial 74, 3) := by decide +kernel
theorem dX3_setNeeds_17 : decode cX3_setNeeds 17 = .ok (.athrow, 1) := by decide +kernel
theorem dX3_setNeeds_18 : decode cX3_setNeeds 18 = .ok (.iload_n 1, 1) := by decide +kernel
theorem dX3_setNeeds_19 : decode cX3_setNeeds 19 = .ok (.iload_n 2, 1) := by decide +kernel
theorem dX3_setNeeds_20 : decode cX3_setNeeds 20 = .ok (.invokestatic 86, 3) := by decide +kernel
theorem dX3_setNeeds_23 : decode cX3_setNeeds 23 = .ok (.ifCond .ne 13, 3) := by decide +kernel
theorem dX3_setNeeds_26 : decode cX3_setNeeds 26 = .ok (.new 38, 3) := by decide +kernel
theorem dX3_setNeeds_29 : decode cX3_setNeeds 29 = .ok (.dup, 1) := by decide +kernel
theorem dX3_setNeeds_30 : decode cX3_setNeeds 30 = .ok (.ldc 89, 2) := by decide +kernel
theorem dX3_setNeeds_32 : decode cX3_setNeeds 32 = .ok (.invokespecial 42, 3) := by decide +kernel
theorem dX3_setNeeds_35 : decode cX3_setNeeds 35 = .ok (.athrow, 1) := by decide +kernel
theorem dX3_setNeeds_36 : decode cX3_setNeeds 36 = .ok (.aload_n 0, 1) := by decide +kernel
theorem dX3_setNeeds_37 : decode cX3_setNeeds 37 = .ok (.getfield 10, 3) := by decide +kernel
theorem dX3_setNeeds_40 : decode cX3_setNeeds 40 = .ok (.getfield 91, 3) := by decide +kernel
theorem dX3_setNeeds_43 : decode cX3_setNeeds 43 = .ok (.iload_n 1, 1) := by decide +kernel
theorem dX3_setNeeds_44 : decode cX3_setNeeds 44 = .ok (.iaload, 1) := by decide +kernel
theorem dX3_setNeeds_45 : decode cX3_setNeeds 45 = .ok (.ifCond .eq 26, 3) := by decide +kernel
theorem dX3_setNeeds_48 : decode cX3_setNeeds 48 = .ok (.aload_n 0, 1) := by decide +kernel
theorem dX3_setNeeds_49 : decode cX3_setNeeds 49 = .ok (.getfield 10, 3) := by decide +kernel
theorem dX3_setNeeds_52 : decode cX3_setNeeds 52 = .ok (.getfield 91, 3) := by decide +kernel
theorem dX3_setNeeds_55 : decode cX3_setNeeds 55 = .ok (.iload_n 1, 1) := by decide +kernel
theorem dX3_setNeeds_56 : decode cX3_setNeeds 56 = .ok (.iaload, 1) := by decide +kernel
theorem dX3_setNeeds_57 : decode cX3_setNeeds 57 = .ok (.iconst 5, 1) := by decide +kernel
theorem dX3_setNeeds_58 : decode cX3_setNeeds 58 = .ok (.if_icmp .eq 13, 3) := by decide +kernel
theorem dX3_setNeeds_61 : decode cX3_setNeeds 61 = .ok (.new 55, 3) := by decide +kernel
theorem dX3_setNeeds_64 : decode cX3_setNeeds 64 = .ok (.dup, 1) := by decide +kernel
theorem dX3_setNeeds_65 : decode cX3_setNeeds 65 = .ok (.ldc 94, 2) := by decide +kernel
theorem dX3_setNeeds_67 : decode cX3_setNeeds 67 = .ok (.invokespecial 59, 3) := by decide +kernel
theorem dX3_setNeeds_70 : decode cX3_setNeeds 70 = .ok (.athrow, 1) := by decide +kernel
theorem dX3_setNeeds_71 : decode cX3_setNeeds 71 = .ok (.aload_n 0, 1) := by decide +kernel
theorem dX3_setNeeds_72 : decode cX3_setNeeds 72 = .ok (.invokevirtual 60, 3) := by decide +kernel
theorem dX3_setNeeds_75 : decode cX3_setNeeds 75 = .ok (.aload_n 0, 1) := by decide +kernel
theorem dX3_setNeeds_76 : decode cX3_setNeeds 76 = .ok (.getfield 10, 3) := by decide +kernel
theorem dX3_setNeeds_79 : decode cX3_setNeeds 79 = .ok (.getfield 96, 3) := by decide +kernel
theorem dX3_setNeeds_82 : decode cX3_setNeeds 82 = .ok (.iload_n 1, 1) := by decide +kernel
theorem dX3_setNeeds_83 : decode cX3_setNeeds 83 = .ok (.iaload, 1) := by decide +kernel
theorem dX3_setNeeds_84 : decode cX3_setNeeds 84 = .ok (.istore_n 3, 1) := by decide +kernel
theorem dX3_setNeeds_85 : decode cX3_setNeeds 85 = .ok (.aload_n 0, 1) := by decide +kernel
theorem dX3_setNeeds_86 : decode cX3_setNeeds 86 = .ok (.getfield 10, 3) := by decide +kernel
theorem dX3_setNeeds_89 : decode cX3_setNeeds 89 = .ok (.getfield 96, 3) := by decide +kernel
theorem dX3_setNeeds_92 : decode cX3_setNeeds 92 = .ok (.iload_n 1, 1) := by decide +kernel
theorem dX3_setNeeds_93 : decode cX3_setNeeds 93 = .ok (.iload_n 2, 1) := by decide +kernel
theorem dX3_setNeeds_94 : decode cX3_setNeeds 94 = .ok (.iastore, 1) := by decide +kernel
theorem dX3_setNeeds_95 : decode cX3_setNeeds 95 = .ok (.iload_n 3, 1) := by decide +kernel
theorem dX3_setNeeds_96 : decode cX3_setNeeds 96 = .ok (.ireturn, 1) := by decide +kernel
theorem dX3_setResidue_0 : decode cX3_setResidue 0 = .ok (.iload_n 1, 1) := by decide +kernel
theorem dX3_setResidue_1 : decode cX3_setResidue 1 = .ok (.ifCond .lt 10, 3) := by decide +kernel
theorem dX3_setResidue_4 : decode cX3_setResidue 4 = .ok (.iload_n 1, 1) := by decide +kernel
theorem dX3_setResidue_5 : decode cX3_setResidue 5 = .ok (.sipush 500, 3) := by decide +kernel
theorem dX3_setResidue_8 : decode cX3_setResidue 8 = .ok (.if_icmp .le 13, 3) := by decide +kernel
theorem dX3_setResidue_11 : decode cX3_setResidue 11 = .ok (.new 38, 3) := by decide +kernel
theorem dX3_setResidue_14 : decode cX3_setResidue 14 = .ok (.dup, 1) := by decide +kernel
theorem dX3_setResidue_15 : decode cX3_setResidue 15 = .ok (.ldc 99, 2) := by decide +kernel
theorem dX3_setResidue_17 : decode cX3_setResidue 17 = .ok (.invokespecial 42, 3) := by decide +kernel
theorem dX3_setResidue_20 : decode cX3_setResidue 20 = .ok (.athrow, 1) := by decide +kernel
theorem dX3_setResidue_21 : decode cX3_setResidue 21 = .ok (.aload_n 0, 1) := by decide +kernel
theorem dX3_setResidue_22 : decode cX3_setResidue 22 = .ok (.invokevirtual 60, 3) := by decide +kernel
theorem dX3_setResidue_25 : decode cX3_setResidue 25 = .ok (.aload_n 0, 1) := by decide +kernel
theorem dX3_setResidue_26 : decode cX3_setResidue 26 = .ok (.getfield 10, 3) := by decide +kernel
theorem dX3_setResidue_29 : decode cX3_setResidue 29 = .ok (.getfield 101, 3) := by decide +kernel
theorem dX3_setResidue_32 : decode cX3_setResidue 32 = .ok (.istore_n 2, 1) := by decide +kernel
theorem dX3_setResidue_33 : decode cX3_setResidue 33 = .ok (.aload_n 0, 1) := by decide +kernel
theorem dX3_setResidue_34 : decode cX3_setResidue 34 = .ok (.getfield 10, 3) := by decide +kernel
theorem dX3_setResidue_37 : decode cX3_setResidue 37 = .ok (.iload_n 1, 1) := by decide +kernel
theorem dX3_setResidue_38 : decode cX3_setResidue 38 = .ok (.putfield 101, 3) := by decide +kernel
theorem dX3_setResidue_41 : decode cX3_setResidue 41 = .ok (.iload_n 2, 1) := by decide +kernel
theorem dX3_setResidue_42 : decode cX3_setResidue 42 = .ok (.ireturn, 1) := by decide +kernel
theorem dX3_on_0 : decode cX3_on 0 = .ok (.aload_n 0, 1) := by decide +kernel
theorem dX3_on_1 : decode cX3_on 1 = .ok (.iload_n 1, 1) := by decide +kernel
theorem dX3_on_2 : decode cX3_on 2 = .ok (.invokevirtual 45, 3) := by decide +kernel
theorem dX3_on_5 : decode cX3_on 5 = .ok (.ifCond .ne 13, 3) := by decide +kernel
theorem dX3_on_8 : decode cX3_on 8 = .ok (.new 38, 3) := by decide +kernel
theorem dX3_on_11 : decode cX3_on 11 = .ok (.dup, 1) := by decide +kernel
theorem dX3_on_12 : decode cX3_on 12 = .ok (.ldc 104, 2) := by decide +kernel
theorem dX3_on_14 : decode cX3_on 14 = .ok (.invokespecial 42, 3) := by decide +kernel
theorem dX3_on_17 : decode cX3_on 17 = .ok (.athrow, 1) := by decide +kernel
theorem dX3_on_18 : decode cX3_on 18 = .ok (.aload_n 0, 1) := by decide +kernel
theorem dX3_on_19 : decode cX3_on 19 = .ok (.invokevirtual 60, 3) := by decide +kernel
theorem dX3_on_22 : decode cX3_on 22 = .ok (.aload_n 0, 1) := by decide +kernel
theorem dX3_on_23 : decode cX3_on 23 = .ok (.getfield 10, 3) := by decide +kernel
theorem dX3_on_26 : decode cX3_on 26 = .ok (.dup, 1) := by decide +kernel
theorem dX3_on_27 : decode cX3_on 27 = .ok (.getfield 106, 3) := by decide +kernel
theorem dX3_on_30 : decode cX3_on 30 = .ok (.aload_n 0, 1) := by decide +kernel
theorem dX3_on_31 : decode cX3_on 31 = .ok (.getfield 10, 3) := by decide +kernel
theorem dX3_on_34 : decode cX3_on 34 = .ok (.iload_n 1, 1) := by decide +kernel
theorem dX3_on_35 : decode cX3_on 35 = .ok (.invokevirtual 109, 3) := by decide +kernel
theorem dX3_on_38 : decode cX3_on 38 = .ok (.ior, 1) := by decide +kernel
theorem dX3_on_39 : decode cX3_on 39 = .ok (.putfield 106, 3) := by decide +kernel
theorem dX3_on_42 : decode cX3_on 42 = .ok (.aload_n 0, 1) := by decide +kernel
theorem dX3_on_43 : decode cX3_on 43 = .ok (.getfield 10, 3) := by decide +kernel
theorem dX3_on_46 : decode cX3_on 46 = .ok (.getfield 106, 3) := by decide +kernel
theorem dX3_on_49 : decode cX3_on 49 = .ok (.ireturn, 1) := by decide +kernel
theorem dX3_off_0 : decode cX3_off 0 = .ok (.aload_n 0, 1) := by decide +kernel
theorem dX3_off_1 : decode cX3_off 1 = .ok (.iload_n 1, 1) := by decide +kernel
theorem dX3_off_2 : decode cX3_off 2 = .ok (.invokevirtual 45, 3) := by decide +kernel
theorem dX3_off_5 : decode cX3_off 5 = .ok (.ifCond .ne 13, 3) := by decide +kernel
theorem dX3_off_8 : decode cX3_off 8 = .ok (.new 38, 3) := by decide +kernel
theorem dX3_off_11 : decode cX3_off 11 = .ok (.dup, 1) := by decide +kernel
theorem dX3_off_12 : decode cX3_off 12 = .ok (.ldc 104, 2) := by decide +kernel
theorem dX3_off_14 : decode cX3_off 14 = .ok (.invokespecial 42, 3) := by decide +kernel
theorem dX3_off_17 : decode cX3_off 17 = .ok (.athrow, 1) := by decide +kernel
theorem dX3_off_18 : decode cX3_off 18 = .ok (.aload_n 0, 1) := by decide +kernel
theorem dX3_off_19 : decode cX3_off 19 = .ok (.invokevirtual 60, 3) := by decide +kernel
theorem dX3_off_22 : decode cX3_off 22 = .ok (.aload_n 0, 1) := by decide +kernel
theorem dX3_off_23 : decode cX3_off 23 = .ok (.getfield 10, 3) := by decide +kernel
theorem dX3_off_26 : decode cX3_off 26 = .ok (.dup, 1) := by decide +kernel
theorem dX3_off_27 : decode cX3_off 27 = .ok (.getfield 106, 3) := by decide +kernel
theorem dX3_off_30 : decode cX3_off 30 = .ok (.aload_n 0, 1) := by decide +kernel
theorem dX3_off_31 : decode cX3_off 31 = .ok (.getfield 10, 3) := by decide +kernel
theorem dX3_off_34 : decode cX3_off 34 = .ok (.iload_n 1, 1) := by decide +kernel
theorem dX3_off_35 : decode cX3_off 35 = .ok (.invokevirtual 113, 3) := by decide +kernel
theorem dX3_off_38 : decode cX3_off 38 = .ok (.iconst (-1), 1) := by decide +kernel
theorem dX3_off_39 : decode cX3_off 39 = .ok (.ixor, 1) := by decide +kernel
theorem dX3_off_40 : decode cX3_off 40 = .ok (.iand, 1) := by decide +kernel
theorem dX3_off_41 : decode cX3_off 41 = .ok (.putfield 106, 3) := by decide +kernel
theorem dX3_off_44 : decode cX3_off 44 = .ok (.aload_n 0, 1) := by decide +kernel
theorem dX3_off_45 : decode cX3_off 45 = .ok (.getfield 10, 3) := by decide +kernel
theorem dX3_off_48 : decode cX3_off 48 = .ok (.getfield 106, 3) := by decide +kernel
theorem dX3_off_51 : decode cX3_off 51 = .ok (.ireturn, 1) := by decide +kernel
theorem dX3_restart_0 : decode cX3_restart 0 = .ok (.aload_n 0, 1) := by decide +kernel
theorem dX3_restart_1 : decode cX3_restart 1 = .ok (.iload_n 1, 1) := by decide +kernel
theorem dX3_restart_2 : decode cX3_restart 2 = .ok (.invokevirtual 67, 3) := by decide +kernel
theorem dX3_restart_5 : decode cX3_restart 5 = .ok (.ifCond .ne 13, 3) := by decide +kernel
theorem dX3_restart_8 : decode cX3_restart 8 = .ok (.new 70, 3) := by decide +kernel
theorem dX3_restart_11 : decode cX3_restart 11 = .ok (.dup, 1) := by decide +kernel
theorem dX3_restart_12 : decode cX3_restart 12 = .ok (.ldc 84, 2) := by decide +kernel
theorem dX3_restart_14 : decode cX3_restart 14 = .ok (.invokespecial 74, 3) := by decide +kernel
theorem dX3_restart_17 : decode cX3_restart 17 = .ok (.athrow, 1) := by decide +kernel
theorem dX3_restart_18 : decode cX3_restart 18 = .ok (.aload_n 0, 1) := by decide +kernel
theorem dX3_restart_19 : decode cX3_restart 19 = .ok (.getfield 10, 3) := by decide +kernel
theorem dX3_restart_22 : decode cX3_restart 22 = .ok (.iload_n 1, 1) := by decide +kernel
theorem dX3_restart_23 : decode cX3_restart 23 = .ok (.invokevirtual 116, 3) := by decide +kernel
theorem dX3_restart_26 : decode cX3_restart 26 = .ok (.ifCond .ne 13, 3) := by decide +kernel
theorem dX3_restart_29 : decode cX3_restart 29 = .ok (.new 55, 3) := by decide +kernel
theorem dX3_restart_32 : decode cX3_restart 32 = .ok (.dup, 1) := by decide +kernel
theorem dX3_restart_33 : decode cX3_restart 33 = .ok (.ldc 119, 2) := by decide +kernel
theorem dX3_restart_35 : decode cX3_restart 35 = .ok (.invokespecial 59, 3) := by decide +kernel
theorem dX3_restart_38 : decode cX3_restart 38 = .ok (.athrow, 1) := by decide +kernel
theorem dX3_restart_39 : decode cX3_restart 39 = .ok (.aload_n 0, 1) := by decide +kernel
theorem dX3_restart_40 : decode cX3_restart 40 = .ok (.invokevirtual 60, 3) := by decide +kernel
theorem dX3_restart_43 : decode cX3_restart 43 = .ok (.aload_n 0, 1) := by decide +kernel
theorem dX3_restart_44 : decode cX3_restart 44 = .ok (.getfield 10, 3) := by decide +kernel
theorem dX3_restart_47 : decode cX3_restart 47 = .ok (.iload_n 1, 1) := by decide +kernel
theorem dX3_restart_48 : decode cX3_restart 48 = .ok (.invokevirtual 121, 3) := by decide +kernel
theorem dX3_restart_51 : decode cX3_restart 51 = .ok (.ireturn, 1) := by decide +kernel
theorem dX3_shortCircuit_0 : decode cX3_shortCircuit 0 = .ok (.aload_n 0, 1) := by decide +kernel
theorem dX3_shortCircuit_1 : decode cX3_shortCircuit 1 = .ok (.iload_n 1, 1) := by decide +kernel
theorem dX3_shortCircuit_2 : decode cX3_shortCircuit 2 = .ok (.invokevirtual 67, 3) := by decide +kernel
theorem dX3_shortCircuit_5 : decode cX3_shortCircuit 5 = .ok (.ifCond .ne 13, 3) := by decide +kernel
theorem dX3_shortCircuit_8 : decode cX3_shortCircuit 8 = .ok (.new 70, 3) := by decide +kernel
theorem dX3_shortCircuit_11 : decode cX3_shortCircuit 11 = .ok (.dup, 1) := by decide +kernel
theorem dX3_shortCircuit_12 : decode cX3_shortCircuit 12 = .ok (.ldc 84, 2) := by decide +kernel
theorem dX3_shortCircuit_14 : decode cX3_shortCircuit 14 = .ok (.invokespecial 74, 3) := by decide +kernel
theorem dX3_shortCircuit_17 : decode cX3_shortCircuit 17 = .ok (.athrow, 1) := by decide +kernel
theorem dX3_shortCircuit_18 : decode cX3_shortCircuit 18 = .ok (.iload_n 2, 1) := by decide +kernel
theorem dX3_shortCircuit_19 : decode cX3_shortCircuit 19 = .ok (.ifCond .lt 10, 3) := by decide +kernel
theorem dX3_shortCircuit_22 : decode cX3_shortCircuit 22 = .ok (.iload_n 2, 1) := by decide +kernel
theorem dX3_shortCircuit_23 : decode cX3_shortCircuit 23 = .ok (.sipush 500, 3) := by decide +kernel
theorem dX3_shortCircuit_26 : decode cX3_shortCircuit 26 = .ok (.if_icmp .le 13, 3) := by decide +kernel
theorem dX3_shortCircuit_29 : decode cX3_shortCircuit 29 = .ok (.new 38, 3) := by decide +kernel
theorem dX3_shortCircuit_32 : decode cX3_shortCircuit 32 = .ok (.dup, 1) := by decide +kernel
theorem dX3_shortCircuit_33 : decode cX3_shortCircuit 33 = .ok (.ldc 124, 2) := by decide +kernel
theorem dX3_shortCircuit_35 : decode cX3_shortCircuit 35 = .ok (.invokespecial 42, 3) := by decide +kernel
theorem dX3_shortCircuit_38 : decode cX3_shortCircuit 38 = .ok (.athrow, 1) := by decide +kernel
theorem dX3_shortCircuit_39 : decode cX3_shortCircuit 39 = .ok (.aload_n 0, 1) := by decide +kernel
theorem dX3_shortCircuit_40 : decode cX3_shortCircuit 40 = .ok (.invokevirtual 60, 3) := by decide +kernel
theorem dX3_shortCircuit_43 : decode cX3_shortCircuit 43 = .ok (.aload_n 0, 1) := by decide +kernel
theorem dX3_shortCircuit_44 : decode cX3_shortCircuit 44 = .ok (.getfield 10, 3) := by decide +kernel
theorem dX3_shortCircuit_47 : decode cX3_shortCircuit 47 = .ok (.getfield 126, 3) := by decide +kernel
theorem dX3_shortCircuit_50 : decode cX3_shortCircuit 50 = .ok (.iload_n 1, 1) := by decide +kernel
theorem dX3_shortCircuit_51 : decode cX3_shortCircuit 51 = .ok (.iaload, 1) := by decide +kernel
theorem dX3_shortCircuit_52 : decode cX3_shortCircuit 52 = .ok (.istore_n 3, 1) := by decide +kernel
theorem dX3_shortCircuit_53 : decode cX3_shortCircuit 53 = .ok (.aload_n 0, 1) := by decide +kernel
theorem dX3_shortCircuit_54 : decode cX3_shortCircuit 54 = .ok (.getfield 10, 3) := by decide +kernel
theorem dX3_shortCircuit_57 : decode cX3_shortCircuit 57 = .ok (.getfield 126, 3) := by decide +kernel
theorem dX3_shortCircuit_60 : decode cX3_shortCircuit 60 = .ok (.iload_n 1, 1) := by decide +kernel
theorem dX3_shortCircuit_61 : decode cX3_shortCircuit 61 = .ok (.iload_n 2, 1) := by decide +kernel
theorem dX3_shortCircuit_62 : decode cX3_shortCircuit 62 = .ok (.iastore, 1) := by decide +kernel
theorem dX3_shortCircuit_63 : decode cX3_shortCircuit 63 = .ok (.iload_n 3, 1) := by decide +kernel
theorem dX3_shortCircuit_64 : decode cX3_shortCircuit 64 = .ok (.ireturn, 1) := by decide +kernel
theorem dX3_stick_0 : decode cX3_stick 0 = .ok (.aload_n 0, 1) := by decide +kernel
theorem dX3_stick_1 : decode cX3_stick 1 = .ok (.iload_n 1, 1) := by decide +kernel
theorem dX3_stick_2 : decode cX3_stick 2 = .ok (.invokevirtual 67, 3) := by decide +kernel
theorem dX3_stick_5 : decode cX3_stick 5 = .ok (.ifCond .ne 13, 3) := by decide +kernel
theorem dX3_stick_8 : decode cX3_stick 8 = .ok (.new 70, 3) := by decide +kernel
theorem dX3_stick_11 : decode cX3_stick 11 = .ok (.dup, 1) := by decide +kernel
theorem dX3_stick_12 : decode cX3_stick 12 = .ok (.ldc 84, 2) := by decide +kernel
theorem dX3_stick_14 : decode cX3_stick 14 = .ok (.invokespecial 74, 3) := by decide +kernel
theorem dX3_stick_17 : decode cX3_stick 17 = .ok (.athrow, 1) := by decide +kernel
theorem dX3_stick_18 : decode cX3_stick 18 = .ok (.iload_n 2, 1) := by decide +kernel
theorem dX3_stick_19 : decode cX3_stick 19 = .ok (.ifCond .lt 8, 3) := by decide +kernel
theorem dX3_stick_22 : decode cX3_stick 22 = .ok (.iload_n 2, 1) := by decide +kernel
theorem dX3_stick_23 : decode cX3_stick 23 = .ok (.iconst 2, 1) := by decide +kernel
theorem dX3_stick_24 : decode cX3_stick 24 = .ok (.if_icmp .le 13, 3) := by decide +kernel
theorem dX3_stick_27 : decode cX3_stick 27 = .ok (.new 38, 3) := by decide +kernel
theorem dX3_stick_30 : decode cX3_stick 30 = .ok (.dup, 1) := by decide +kernel
theorem dX3_stick_31 : decode cX3_stick 31 = .ok (.ldc 129, 2) := by decide +kernel
theorem dX3_stick_33 : decode cX3_stick 33 = .ok (.invokespecial 42, 3) := by decide +kernel
theorem dX3_stick_36 : decode cX3_stick 36 = .ok (.athrow, 1) := by decide +kernel
theorem dX3_stick_37 : decode cX3_stick 37 = .ok (.aload_n 0, 1) := by decide +kernel
theorem dX3_stick_38 : decode cX3_stick 38 = .ok (.invokevirtual 60, 3) := by decide +kernel
theorem dX3_stick_41 : decode cX3_stick 41 = .ok (.aload_n 0, 1) := by decide +kernel
theorem dX3_stick_42 : decode cX3_stick 42 = .ok (.getfield 10, 3) := by decide +kernel
theorem dX3_stick_45 : decode cX3_stick 45 = .ok (.getfield 131, 3) := by decide +kernel
theorem dX3_stick_48 : decode cX3_stick 48 = .ok (.iload_n 1, 1) := by decide +kernel
theorem dX3_stick_49 : decode cX3_stick 49 = .ok (.iaload, 1) := by decide +kernel
theorem dX3_stick_50 : decode cX3_stick 50 = .ok (.istore_n 3, 1) := by decide +kernel
theorem dX3_stick_51 : decode cX3_stick 51 = .ok (.aload_n 0, 1) := by decide +kernel
theorem dX3_stick_52 : decode cX3_stick 52 = .ok (.getfield 10, 3) := by decide +kernel
theorem dX3_stick_55 : decode cX3_stick 55 = .ok (.getfield 131, 3) := by decide +kernel
theorem dX3_stick_58 : decode cX3_stick 58 = .ok (.iload_n 1, 1) := by decide +kernel
theorem dX3_stick_59 : decode cX3_stick 59 = .ok (.iload_n 2, 1) := by decide +kernel
theorem dX3_stick_60 : decode cX3_stick 60 = .ok (.iastore, 1) := by decide +kernel
theorem dX3_stick_61 : decode cX3_stick 61 = .ok (.iload_n 3, 1) := by decide +kernel
theorem dX3_stick_62 : decode cX3_stick 62 = .ok (.ireturn, 1) := by decide +kernel
theorem dX3_tick_0 : decode cX3_tick 0 = .ok (.iload_n 1, 1) := by decide +kernel
theorem dX3_tick_1 : decode cX3_tick 1 = .ok (.iconst 1, 1) := by decide +kernel
theorem dX3_tick_2 : decode cX3_tick 2 = .ok (.if_icmp .lt 10, 3) := by decide +kernel
theorem dX3_tick_5 : decode cX3_tick 5 = .ok (.iload_n 1, 1) := by decide +kernel
theorem dX3_tick_6 : decode cX3_tick 6 = .ok (.sipush 200, 3) := by decide +kernel
theorem dX3_tick_9 : decode cX3_tick 9 = .ok (.if_icmp .le 13, 3) := by decide +kernel
theorem dX3_tick_12 : decode cX3_tick 12 = .ok (.new 38, 3) := by decide +kernel
theorem dX3_tick_15 : decode cX3_tick 15 = .ok (.dup, 1) := by decide +kernel
theorem dX3_tick_16 : decode cX3_tick 16 = .ok (.ldc 124, 2) := by decide +kernel
theorem dX3_tick_18 : decode cX3_tick 18 = .ok (.invokespecial 42, 3) := by decide +kernel
theorem dX3_tick_21 : decode cX3_tick 21 = .ok (.athrow, 1) := by decide +kernel
theorem dX3_tick_22 : decode cX3_tick 22 = .ok (.aload_n 0, 1) := by decide +kernel
theorem dX3_tick_23 : decode cX3_tick 23 = .ok (.getfield 10, 3) := by decide +kernel
theorem dX3_tick_26 : decode cX3_tick 26 = .ok (.getfield 134, 3) := by decide +kernel
theorem dX3_tick_29 : decode cX3_tick 29 = .ok (.iload_n 1, 1) := by decide +kernel
theorem dX3_tick_30 : decode cX3_tick 30 = .ok (.iadd, 1) := by decide +kernel
theorem dX3_tick_31 : decode cX3_tick 31 = .ok (.sipush 20000, 3) := by decide +kernel
theorem dX3_tick_34 : decode cX3_tick 34 = .ok (.if_icmp .le 13, 3) := by decide +kernel
theorem dX3_tick_37 : decode cX3_tick 37 = .ok (.new 55, 3) := by decide +kernel
theorem dX3_tick_40 : decode cX3_tick 40 = .ok (.dup, 1) := by decide +kernel
theorem dX3_tick_41 : decode cX3_tick 41 = .ok (.ldc 137, 2) := by decide +kernel
theorem dX3_tick_43 : decode cX3_tick 43 = .ok (.invokespecial 59, 3) := by decide +kernel
theorem dX3_tick_46 : decode cX3_tick 46 = .ok (.athrow, 1) := by decide +kernel
theorem dX3_tick_47 : decode cX3_tick 47 = .ok (.aload_n 0, 1) := by decide +kernel
theorem dX3_tick_48 : decode cX3_tick 48 = .ok (.invokevirtual 60, 3) := by decide +kernel
theorem dX3_tick_51 : decode cX3_tick 51 = .ok (.iconst 0, 1) := by decide +kernel
theorem dX3_tick_52 : decode cX3_tick 52 = .ok (.istore_n 2, 1) := by decide +kernel
theorem dX3_tick_53 : decode cX3_tick 53 = .ok (.iconst 0, 1) := by decide +kernel
theorem dX3_tick_54 : decode cX3_tick 54 = .ok (.istore_n 3, 1) := by decide +kernel
theorem dX3_tick_55 : decode cX3_tick 55 = .ok (.iload_n 3, 1) := by decide +kernel
theorem dX3_tick_56 : decode cX3_tick 56 = .ok (.iload_n 1, 1) := by decide +kernel
theorem dX3_tick_57 : decode cX3_tick 57 = .ok (.if_icmp .ge 19, 3) := by decide +kernel
theorem dX3_tick_60 : decode cX3_tick 60 = .ok (.iload_n 2, 1) := by decide +kernel
theorem dX3_tick_61 : decode cX3_tick 61 = .ok (.aload_n 0, 1) := by decide +kernel
theorem dX3_tick_62 : decode cX3_tick 62 = .ok (.getfield 10, 3) := by decide +kernel
theorem dX3_tick_65 : decode cX3_tick 65 = .ok (.invokevirtual 139, 3) := by decide +kernel
theorem dX3_tick_68 : decode cX3_tick 68 = .ok (.iadd, 1) := by decide +kernel
theorem dX3_tick_69 : decode cX3_tick 69 = .ok (.istore_n 2, 1) := by decide +kernel
theorem dX3_tick_70 : decode cX3_tick 70 = .ok (.iinc 3 1, 3) := by decide +kernel
theorem dX3_tick_73 : decode cX3_tick 73 = .ok (.goto (-18), 3) := by decide +kernel
theorem dX3_tick_76 : decode cX3_tick 76 = .ok (.iload_n 2, 1) := by decide +kernel
theorem dX3_tick_77 : decode cX3_tick 77 = .ok (.ireturn, 1) := by decide +kernel
theorem dX3_rail_0 : decode cX3_rail 0 = .ok (.aload_n 0, 1) := by decide +kernel
theorem dX3_rail_1 : decode cX3_rail 1 = .ok (.iload_n 1, 1) := by decide +kernel
theorem dX3_rail_2 : decode cX3_rail 2 = .ok (.invokevirtual 67, 3) := by decide +kernel
theorem dX3_rail_5 : decode cX3_rail 5 = .ok (.ifCond .ne 13, 3) := by decide +kernel
theorem dX3_rail_8 : decode cX3_rail 8 = .ok (.new 70, 3) := by decide +kernel
theorem dX3_rail_11 : decode cX3_rail 11 = .ok (.dup, 1) := by decide +kernel
theorem dX3_rail_12 : decode cX3_rail 12 = .ok (.ldc 84, 2) := by decide +kernel
theorem dX3_rail_14 : decode cX3_rail 14 = .ok (.invokespecial 74, 3) := by decide +kernel
theorem dX3_rail_17 : decode cX3_rail 17 = .ok (.athrow, 1) := by decide +kernel
theorem dX3_rail_18 : decode cX3_rail 18 = .ok (.iload_n 2, 1) := by decide +kernel
theorem dX3_rail_19 : decode cX3_rail 19 = .ok (.ifCond .lt 9, 3) := by decide +kernel
theorem dX3_rail_22 : decode cX3_rail 22 = .ok (.iload_n 2, 1) := by decide +kernel
theorem dX3_rail_23 : decode cX3_rail 23 = .ok (.bipush 19, 2) := by decide +kernel
theorem dX3_rail_25 : decode cX3_rail 25 = .ok (.if_icmp .lt 13, 3) := by decide +kernel
theorem dX3_rail_28 : decode cX3_rail 28 = .ok (.new 38, 3) := by decide +kernel
theorem dX3_rail_31 : decode cX3_rail 31 = .ok (.dup, 1) := by decide +kernel
theorem dX3_rail_32 : decode cX3_rail 32 = .ok (.ldc 173, 2) := by decide +kernel
theorem dX3_rail_34 : decode cX3_rail 34 = .ok (.invokespecial 42, 3) := by decide +kernel
theorem dX3_rail_37 : decode cX3_rail 37 = .ok (.athrow, 1) := by decide +kernel
theorem dX3_rail_38 : decode cX3_rail 38 = .ok (.aload_n 0, 1) := by decide +kernel
theorem dX3_rail_39 : decode cX3_rail 39 = .ok (.getfield 10, 3) := by decide +kernel
theorem dX3_rail_42 : decode cX3_rail 42 = .ok (.iload_n 1, 1) := by decide +kernel
theorem dX3_rail_43 : decode cX3_rail 43 = .ok (.iload_n 2, 1) := by decide +kernel
theorem dX3_rail_44 : decode cX3_rail 44 = .ok (.invokevirtual 175, 3) := by decide +kernel
theorem dX3_rail_47 : decode cX3_rail 47 = .ok (.ireturn, 1) := by decide +kernel
theorem dX3_account_0 : decode cX3_account 0 = .ok (.aload_n 0, 1) := by decide +kernel
theorem dX3_account_1 : decode cX3_account 1 = .ok (.iload_n 1, 1) := by decide +kernel
theorem dX3_account_2 : decode cX3_account 2 = .ok (.invokevirtual 67, 3) := by decide +kernel
theorem dX3_account_5 : decode cX3_account 5 = .ok (.ifCond .ne 13, 3) := by decide +kernel
theorem dX3_account_8 : decode cX3_account 8 = .ok (.new 70, 3) := by decide +kernel
theorem dX3_account_11 : decode cX3_account 11 = .ok (.dup, 1) := by decide +kernel
theorem dX3_account_12 : decode cX3_account 12 = .ok (.ldc 84, 2) := by decide +kernel
theorem dX3_account_14 : decode cX3_account 14 = .ok (.invokespecial 74, 3) := by decide +kernel
theorem dX3_account_17 : decode cX3_account 17 = .ok (.athrow, 1) := by decide +kernel
theorem dX3_account_18 : decode cX3_account 18 = .ok (.iload_n 2, 1) := by decide +kernel
theorem dX3_account_19 : decode cX3_account 19 = .ok (.ifCond .lt 8, 3) := by decide +kernel
theorem dX3_account_22 : decode cX3_account 22 = .ok (.iload_n 2, 1) := by decide +kernel
theorem dX3_account_23 : decode cX3_account 23 = .ok (.iconst 4, 1) := by decide +kernel
theorem dX3_account_24 : decode cX3_account 24 = .ok (.if_icmp .lt 13, 3) := by decide +kernel
theorem dX3_account_27 : decode cX3_account 27 = .ok (.new 38, 3) := by decide +kernel
theorem dX3_account_30 : decode cX3_account 30 = .ok (.dup, 1) := by decide +kernel
theorem dX3_account_31 : decode cX3_account 31 = .ok (.ldc 178, 2) := by decide +kernel
theorem dX3_account_33 : decode cX3_account 33 = .ok (.invokespecial 42, 3) := by decide +kernel
theorem dX3_account_36 : decode cX3_account 36 = .ok (.athrow, 1) := by decide +kernel
theorem dX3_account_37 : decode cX3_account 37 = .ok (.aload_n 0, 1) := by decide +kernel
theorem dX3_account_38 : decode cX3_account 38 = .ok (.getfield 10, 3) := by decide +kernel
theorem dX3_account_41 : decode cX3_account 41 = .ok (.getfield 180, 3) := by decide +kernel
theorem dX3_account_44 : decode cX3_account 44 = .ok (.iload_n 1, 1) := by decide +kernel
theorem dX3_account_45 : decode cX3_account 45 = .ok (.iconst 4, 1) := by decide +kernel
theorem dX3_account_46 : decode cX3_account 46 = .ok (.imul, 1) := by decide +kernel
theorem dX3_account_47 : decode cX3_account 47 = .ok (.iload_n 2, 1) := by decide +kernel
theorem dX3_account_48 : decode cX3_account 48 = .ok (.iadd, 1) := by decide +kernel
theorem dX3_account_49 : decode cX3_account 49 = .ok (.iaload, 1) := by decide +kernel
theorem dX3_account_50 : decode cX3_account 50 = .ok (.ireturn, 1) := by decide +kernel
theorem dX3_entry_0 : decode cX3_entry 0 = .ok (.iload_n 1, 1) := by decide +kernel
theorem dX3_entry_1 : decode cX3_entry 1 = .ok (.ifCond .lt 18, 3) := by decide +kernel
theorem dX3_entry_4 : decode cX3_entry 4 = .ok (.iload_n 1, 1) := by decide +kernel
theorem dX3_entry_5 : decode cX3_entry 5 = .ok (.bipush 16, 2) := by decide +kernel
theorem dX3_entry_7 : decode cX3_entry 7 = .ok (.if_icmp .ge 12, 3) := by decide +kernel
theorem dX3_entry_10 : decode cX3_entry 10 = .ok (.iload_n 2, 1) := by decide +kernel
theorem dX3_entry_11 : decode cX3_entry 11 = .ok (.ifCond .lt 8, 3) := by decide +kernel
theorem dX3_entry_14 : decode cX3_entry 14 = .ok (.iload_n 2, 1) := by decide +kernel
theorem dX3_entry_15 : decode cX3_entry 15 = .ok (.iconst 4, 1) := by decide +kernel
theorem dX3_entry_16 : decode cX3_entry 16 = .ok (.if_icmp .lt 13, 3) := by decide +kernel
theorem dX3_entry_19 : decode cX3_entry 19 = .ok (.new 38, 3) := by decide +kernel
theorem dX3_entry_22 : decode cX3_entry 22 = .ok (.dup, 1) := by decide +kernel
theorem dX3_entry_23 : decode cX3_entry 23 = .ok (.ldc 185, 2) := by decide +kernel
theorem dX3_entry_25 : decode cX3_entry 25 = .ok (.invokespecial 42, 3) := by decide +kernel
theorem dX3_entry_28 : decode cX3_entry 28 = .ok (.athrow, 1) := by decide +kernel
theorem dX3_entry_29 : decode cX3_entry 29 = .ok (.iload_n 1, 1) := by decide +kernel
theorem dX3_entry_30 : decode cX3_entry 30 = .ok (.aload_n 0, 1) := by decide +kernel
theorem dX3_entry_31 : decode cX3_entry 31 = .ok (.getfield 10, 3) := by decide +kernel
theorem dX3_entry_34 : decode cX3_entry 34 = .ok (.getfield 187, 3) := by decide +kernel
theorem dX3_entry_37 : decode cX3_entry 37 = .ok (.getfield 191, 3) := by decide +kernel
theorem dX3_entry_40 : decode cX3_entry 40 = .ok (.if_icmp .ge 18, 3) := by decide +kernel
theorem dX3_entry_43 : decode cX3_entry 43 = .ok (.aload_n 0, 1) := by decide +kernel
theorem dX3_entry_44 : decode cX3_entry 44 = .ok (.getfield 10, 3) := by decide +kernel
theorem dX3_entry_47 : decode cX3_entry 47 = .ok (.getfield 187, 3) := by decide +kernel
theorem dX3_entry_50 : decode cX3_entry 50 = .ok (.iload_n 1, 1) := by decide +kernel
theorem dX3_entry_51 : decode cX3_entry 51 = .ok (.iload_n 2, 1) := by decide +kernel
theorem dX3_entry_52 : decode cX3_entry 52 = .ok (.invokevirtual 194, 3) := by decide +kernel
theorem dX3_entry_55 : decode cX3_entry 55 = .ok (.goto 4, 3) := by decide +kernel
theorem dX3_entry_58 : decode cX3_entry 58 = .ok (.iconst (-1), 1) := by decide +kernel
theorem dX3_entry_59 : decode cX3_entry 59 = .ok (.ireturn, 1) := by decide +kernel
theorem dX3_forget_0 : decode cX3_forget 0 = .ok (.aload_n 0, 1) := by decide +kernel
theorem dX3_forget_1 : decode cX3_forget 1 = .ok (.iload_n 1, 1) := by decide +kernel
theorem dX3_forget_2 : decode cX3_forget 2 = .ok (.invokevirtual 67, 3) := by decide +kernel
theorem dX3_forget_5 : decode cX3_forget 5 = .ok (.ifCond .ne 13, 3) := by decide +kernel
theorem dX3_forget_8 : decode cX3_forget 8 = .ok (.new 70, 3) := by decide +kernel
theorem dX3_forget_11 : decode cX3_forget 11 = .ok (.dup, 1) := by decide +kernel
theorem dX3_forget_12 : decode cX3_forget 12 = .ok (.ldc 84, 2) := by decide +kernel
theorem dX3_forget_14 : decode cX3_forget 14 = .ok (.invokespecial 74, 3) := by decide +kernel
theorem dX3_forget_17 : decode cX3_forget 17 = .ok (.athrow, 1) := by decide +kernel
theorem dX3_forget_18 : decode cX3_forget 18 = .ok (.aload_n 0, 1) := by decide +kernel
theorem dX3_forget_19 : decode cX3_forget 19 = .ok (.invokevirtual 60, 3) := by decide +kernel
theorem dX3_forget_22 : decode cX3_forget 22 = .ok (.aload_n 0, 1) := by decide +kernel
theorem dX3_forget_23 : decode cX3_forget 23 = .ok (.getfield 10, 3) := by decide +kernel
theorem dX3_forget_26 : decode cX3_forget 26 = .ok (.getfield 187, 3) := by decide +kernel
theorem dX3_forget_29 : decode cX3_forget 29 = .ok (.iload_n 1, 1) := by decide +kernel
theorem dX3_forget_30 : decode cX3_forget 30 = .ok (.invokevirtual 197, 3) := by decide +kernel
theorem dX3_forget_33 : decode cX3_forget 33 = .ok (.ireturn, 1) := by decide +kernel
theorem dX3_count_0 : decode cX3_count 0 = .ok (.iload_n 1, 1) := by decide +kernel
theorem dX3_count_1 : decode cX3_count 1 = .ok (.ifCond .lt 9, 3) := by decide +kernel
theorem dX3_count_4 : decode cX3_count 4 = .ok (.iload_n 1, 1) := by decide +kernel
theorem dX3_count_5 : decode cX3_count 5 = .ok (.bipush 10, 2) := by decide +kernel
theorem dX3_count_7 : decode cX3_count 7 = .ok (.if_icmp .lt 13, 3) := by decide +kernel
theorem dX3_count_10 : decode cX3_count 10 = .ok (.new 38, 3) := by decide +kernel
theorem dX3_count_13 : decode cX3_count 13 = .ok (.dup, 1) := by decide +kernel
theorem dX3_count_14 : decode cX3_count 14 = .ok (.ldc 200, 2) := by decide +kernel
theorem dX3_count_16 : decode cX3_count 16 = .ok (.invokespecial 42, 3) := by decide +kernel
theorem dX3_count_19 : decode cX3_count 19 = .ok (.athrow, 1) := by decide +kernel
theorem dX3_count_20 : decode cX3_count 20 = .ok (.aload_n 0, 1) := by decide +kernel
theorem dX3_count_21 : decode cX3_count 21 = .ok (.iload_n 1, 1) := by decide +kernel
theorem dX3_count_22 : decode cX3_count 22 = .ok (.invokevirtual 202, 3) := by decide +kernel
theorem dX3_count_25 : decode cX3_count 25 = .ok (.ireturn, 1) := by decide +kernel
theorem dX3_allGoodIn_0 : decode cX3_allGoodIn 0 = .ok (.aload_n 0, 1) := by decide +kernel
theorem dX3_allGoodIn_1 : decode cX3_allGoodIn 1 = .ok (.getfield 16, 3) := by decide +kernel
theorem dX3_allGoodIn_4 : decode cX3_allGoodIn 4 = .ok (.aload_n 0, 1) := by decide +kernel
theorem dX3_allGoodIn_5 : decode cX3_allGoodIn 5 = .ok (.getfield 10, 3) := by decide +kernel
theorem dX3_allGoodIn_8 : decode cX3_allGoodIn 8 = .ok (.invokevirtual 164, 3) := by decide +kernel
theorem dX3_allGoodIn_11 : decode cX3_allGoodIn 11 = .ok (.iconst 0, 1) := by decide +kernel
theorem dX3_allGoodIn_12 : decode cX3_allGoodIn 12 = .ok (.istore_n 1, 1) := by decide +kernel
theorem dX3_allGoodIn_13 : decode cX3_allGoodIn 13 = .ok (.iload_n 1, 1) := by decide +kernel
theorem dX3_allGoodIn_14 : decode cX3_allGoodIn 14 = .ok (.sipush 1000, 3) := by decide +kernel
theorem dX3_allGoodIn_17 : decode cX3_allGoodIn 17 = .ok (.if_icmp .gt 72, 3) := by decide +kernel
theorem dX3_allGoodIn_20 : decode cX3_allGoodIn 20 = .ok (.aload_n 0, 1) := by decide +kernel
theorem dX3_allGoodIn_21 : decode cX3_allGoodIn 21 = .ok (.getfield 16, 3) := by decide +kernel
theorem dX3_allGoodIn_24 : decode cX3_allGoodIn 24 = .ok (.getfield 106, 3) := by decide +kernel
theorem dX3_allGoodIn_27 : decode cX3_allGoodIn 27 = .ok (.aload_n 0, 1) := by decide +kernel
theorem dX3_allGoodIn_28 : decode cX3_allGoodIn 28 = .ok (.getfield 16, 3) := by decide +kernel
theorem dX3_allGoodIn_31 : decode cX3_allGoodIn 31 = .ok (.iconst 3, 1) := by decide +kernel
theorem dX3_allGoodIn_32 : decode cX3_allGoodIn 32 = .ok (.invokevirtual 205, 3) := by decide +kernel
theorem dX3_allGoodIn_35 : decode cX3_allGoodIn 35 = .ok (.iconst (-1), 1) := by decide +kernel
theorem dX3_allGoodIn_36 : decode cX3_allGoodIn 36 = .ok (.ixor, 1) := by decide +kernel
theorem dX3_allGoodIn_37 : decode cX3_allGoodIn 37 = .ok (.iand, 1) := by decide +kernel
theorem dX3_allGoodIn_38 : decode cX3_allGoodIn 38 = .ok (.ifCond .ne 5, 3) := by decide +kernel
theorem dX3_allGoodIn_41 : decode cX3_allGoodIn 41 = .ok (.iload_n 1, 1) := by decide +kernel
theorem dX3_allGoodIn_42 : decode cX3_allGoodIn 42 = .ok (.ireturn, 1) := by decide +kernel
theorem dX3_allGoodIn_43 : decode cX3_allGoodIn 43 = .ok (.aload_n 0, 1) := by decide +kernel
theorem dX3_allGoodIn_44 : decode cX3_allGoodIn 44 = .ok (.getfield 16, 3) := by decide +kernel
theorem dX3_allGoodIn_47 : decode cX3_allGoodIn 47 = .ok (.invokevirtual 208, 3) := by decide +kernel
theorem dX3_allGoodIn_50 : decode cX3_allGoodIn 50 = .ok (.ifCond .ne 7, 3) := by decide +kernel
theorem dX3_allGoodIn_53 : decode cX3_allGoodIn 53 = .ok (.iconst 1, 1) := by decide +kernel
theorem dX3_allGoodIn_54 : decode cX3_allGoodIn 54 = .ok (.goto 4, 3) := by decide +kernel
theorem dX3_allGoodIn_57 : decode cX3_allGoodIn 57 = .ok (.iconst 0, 1) := by decide +kernel
theorem dX3_allGoodIn_58 : decode cX3_allGoodIn 58 = .ok (.istore_n 2, 1) := by decide +kernel
theorem dX3_allGoodIn_59 : decode cX3_allGoodIn 59 = .ok (.aload_n 0, 1) := by decide +kernel
theorem dX3_allGoodIn_60 : decode cX3_allGoodIn 60 = .ok (.getfield 16, 3) := by decide +kernel
theorem dX3_allGoodIn_63 : decode cX3_allGoodIn 63 = .ok (.invokevirtual 139, 3) := by decide +kernel
theorem dX3_allGoodIn_66 : decode cX3_allGoodIn 66 = .ok (.pop, 1) := by decide +kernel
theorem dX3_allGoodIn_67 : decode cX3_allGoodIn 67 = .ok (.iload_n 2, 1) := by decide +kernel
theorem dX3_allGoodIn_68 : decode cX3_allGoodIn 68 = .ok (.ifCond .eq 15, 3) := by decide +kernel
theorem dX3_allGoodIn_71 : decode cX3_allGoodIn 71 = .ok (.aload_n 0, 1) := by decide +kernel
theorem dX3_allGoodIn_72 : decode cX3_allGoodIn 72 = .ok (.getfield 16, 3) := by decide +kernel
theorem dX3_allGoodIn_75 : decode cX3_allGoodIn 75 = .ok (.invokevirtual 211, 3) := by decide +kernel
theorem dX3_allGoodIn_78 : decode cX3_allGoodIn 78 = .ok (.ifCond .eq 5, 3) := by decide +kernel
theorem dX3_allGoodIn_81 : decode cX3_allGoodIn 81 = .ok (.iconst (-1), 1) := by decide +kernel
theorem dX3_allGoodIn_82 : decode cX3_allGoodIn 82 = .ok (.ireturn, 1) := by decide +kernel
theorem dX3_allGoodIn_83 : decode cX3_allGoodIn 83 = .ok (.iinc 1 1, 3) := by decide +kernel
theorem dX3_allGoodIn_86 : decode cX3_allGoodIn 86 = .ok (.goto (-73), 3) := by decide +kernel
theorem dX3_allGoodIn_89 : decode cX3_allGoodIn 89 = .ok (.iconst (-1), 1) := by decide +kernel
theorem dX3_allGoodIn_90 : decode cX3_allGoodIn 90 = .ok (.ireturn, 1) := by decide +kernel
theorem dX3_allOffIn_0 : decode cX3_allOffIn 0 = .ok (.aload_n 0, 1) := by decide +kernel
theorem dX3_allOffIn_1 : decode cX3_allOffIn 1 = .ok (.getfield 16, 3) := by decide +kernel
theorem dX3_allOffIn_4 : decode cX3_allOffIn 4 = .ok (.aload_n 0, 1) := by decide +kernel
theorem dX3_allOffIn_5 : decode cX3_allOffIn 5 = .ok (.getfield 10, 3) := by decide +kernel
theorem dX3_allOffIn_8 : decode cX3_allOffIn 8 = .ok (.invokevirtual 164, 3) := by decide +kernel
theorem dX3_allOffIn_11 : decode cX3_allOffIn 11 = .ok (.aload_n 0, 1) := by decide +kernel
theorem dX3_allOffIn_12 : decode cX3_allOffIn 12 = .ok (.getfield 16, 3) := by decide +kernel
theorem dX3_allOffIn_15 : decode cX3_allOffIn 15 = .ok (.iconst 0, 1) := by decide +kernel
theorem dX3_allOffIn_16 : decode cX3_allOffIn 16 = .ok (.putfield 106, 3) := by decide +kernel
theorem dX3_allOffIn_19 : decode cX3_allOffIn 19 = .ok (.iconst 0, 1) := by decide +kernel
theorem dX3_allOffIn_20 : decode cX3_allOffIn 20 = .ok (.istore_n 1, 1) := by decide +kernel
theorem dX3_allOffIn_21 : decode cX3_allOffIn 21 = .ok (.iload_n 1, 1) := by decide +kernel
theorem dX3_allOffIn_22 : decode cX3_allOffIn 22 = .ok (.sipush 1000, 3) := by decide +kernel
theorem dX3_allOffIn_25 : decode cX3_allOffIn 25 = .ok (.if_icmp .gt 29, 3) := by decide +kernel
theorem dX3_allOffIn_28 : decode cX3_allOffIn 28 = .ok (.aload_n 0, 1) := by decide +kernel
theorem dX3_allOffIn_29 : decode cX3_allOffIn 29 = .ok (.getfield 16, 3) := by decide +kernel
theorem dX3_allOffIn_32 : decode cX3_allOffIn 32 = .ok (.invokevirtual 214, 3) := by decide +kernel
theorem dX3_allOffIn_35 : decode cX3_allOffIn 35 = .ok (.ifCond .eq 5, 3) := by decide +kernel
theorem dX3_allOffIn_38 : decode cX3_allOffIn 38 = .ok (.iload_n 1, 1) := by decide +kernel
theorem dX3_allOffIn_39 : decode cX3_allOffIn 39 = .ok (.ireturn, 1) := by decide +kernel
theorem dX3_allOffIn_40 : decode cX3_allOffIn 40 = .ok (.aload_n 0, 1) := by decide +kernel
theorem dX3_allOffIn_41 : decode cX3_allOffIn 41 = .ok (.getfield 16, 3) := by decide +kernel
theorem dX3_allOffIn_44 : decode cX3_allOffIn 44 = .ok (.invokevirtual 139, 3) := by decide +kernel
theorem dX3_allOffIn_47 : decode cX3_allOffIn 47 = .ok (.pop, 1) := by decide +kernel
theorem dX3_allOffIn_48 : decode cX3_allOffIn 48 = .ok (.iinc 1 1, 3) := by decide +kernel
theorem dX3_allOffIn_51 : decode cX3_allOffIn 51 = .ok (.goto (-30), 3) := by decide +kernel
theorem dX3_allOffIn_54 : decode cX3_allOffIn 54 = .ok (.iconst (-1), 1) := by decide +kernel
theorem dX3_allOffIn_55 : decode cX3_allOffIn 55 = .ok (.ireturn, 1) := by decide +kernel
theorem dX3_ifShort_0 : decode cX3_ifShort 0 = .ok (.aload_n 0, 1) := by decide +kernel
theorem dX3_ifShort_1 : decode cX3_ifShort 1 = .ok (.iload_n 1, 1) := by decide +kernel
theorem dX3_ifShort_2 : decode cX3_ifShort 2 = .ok (.invokevirtual 67, 3) := by decide +kernel
theorem dX3_ifShort_5 : decode cX3_ifShort 5 = .ok (.ifCond .ne 13, 3) := by decide +kernel
theorem dX3_ifShort_8 : decode cX3_ifShort 8 = .ok (.new 70, 3) := by decide +kernel
theorem dX3_ifShort_11 : decode cX3_ifShort 11 = .ok (.dup, 1) := by decide +kernel
theorem dX3_ifShort_12 : decode cX3_ifShort 12 = .ok (.ldc 84, 2) := by decide +kernel
theorem dX3_ifShort_14 : decode cX3_ifShort 14 = .ok (.invokespecial 74, 3) := by decide +kernel
theorem dX3_ifShort_17 : decode cX3_ifShort 17 = .ok (.athrow, 1) := by decide +kernel
theorem dX3_ifShort_18 : decode cX3_ifShort 18 = .ok (.iload_n 2, 1) := by decide +kernel
theorem dX3_ifShort_19 : decode cX3_ifShort 19 = .ok (.iconst 1, 1) := by decide +kernel
theorem dX3_ifShort_20 : decode cX3_ifShort 20 = .ok (.if_icmp .lt 19, 3) := by decide +kernel
theorem dX3_ifShort_23 : decode cX3_ifShort 23 = .ok (.iload_n 2, 1) := by decide +kernel
theorem dX3_ifShort_24 : decode cX3_ifShort 24 = .ok (.sipush 500, 3) := by decide +kernel
theorem dX3_ifShort_27 : decode cX3_ifShort 27 = .ok (.if_icmp .gt 12, 3) := by decide +kernel
theorem dX3_ifShort_30 : decode cX3_ifShort 30 = .ok (.iload_n 3, 1) := by decide +kernel
theorem dX3_ifShort_31 : decode cX3_ifShort 31 = .ok (.ifCond .lt 8, 3) := by decide +kernel
theorem dX3_ifShort_34 : decode cX3_ifShort 34 = .ok (.iload_n 3, 1) := by decide +kernel
theorem dX3_ifShort_35 : decode cX3_ifShort 35 = .ok (.iconst 2, 1) := by decide +kernel
theorem dX3_ifShort_36 : decode cX3_ifShort 36 = .ok (.if_icmp .le 13, 3) := by decide +kernel
theorem dX3_ifShort_39 : decode cX3_ifShort 39 = .ok (.new 38, 3) := by decide +kernel
theorem dX3_ifShort_42 : decode cX3_ifShort 42 = .ok (.dup, 1) := by decide +kernel
theorem dX3_ifShort_43 : decode cX3_ifShort 43 = .ok (.ldc 217, 2) := by decide +kernel
theorem dX3_ifShort_45 : decode cX3_ifShort 45 = .ok (.invokespecial 42, 3) := by decide +kernel
theorem dX3_ifShort_48 : decode cX3_ifShort 48 = .ok (.athrow, 1) := by decide +kernel
theorem dX3_ifShort_49 : decode cX3_ifShort 49 = .ok (.aload_n 0, 1) := by decide +kernel
theorem dX3_ifShort_50 : decode cX3_ifShort 50 = .ok (.getfield 16, 3) := by decide +kernel
theorem dX3_ifShort_53 : decode cX3_ifShort 53 = .ok (.aload_n 0, 1) := by decide +kernel
theorem dX3_ifShort_54 : decode cX3_ifShort 54 = .ok (.getfield 10, 3) := by decide +kernel
theorem dX3_ifShort_57 : decode cX3_ifShort 57 = .ok (.invokevirtual 164, 3) := by decide +kernel
theorem dX3_ifShort_60 : decode cX3_ifShort 60 = .ok (.aload_n 0, 1) := by decide +kernel
theorem dX3_ifShort_61 : decode cX3_ifShort 61 = .ok (.getfield 16, 3) := by decide +kernel
theorem dX3_ifShort_64 : decode cX3_ifShort 64 = .ok (.getfield 126, 3) := by decide +kernel
theorem dX3_ifShort_67 : decode cX3_ifShort 67 = .ok (.iload_n 1, 1) := by decide +kernel
theorem dX3_ifShort_68 : decode cX3_ifShort 68 = .ok (.iload_n 2, 1) := by decide +kernel
theorem dX3_ifShort_69 : decode cX3_ifShort 69 = .ok (.iastore, 1) := by decide +kernel
theorem dX3_ifShort_70 : decode cX3_ifShort 70 = .ok (.iconst 0, 1) := by decide +kernel
theorem dX3_ifShort_71 : decode cX3_ifShort 71 = .ok (.istore 4, 2) := by decide +kernel
theorem dX3_ifShort_73 : decode cX3_ifShort 73 = .ok (.iconst 0, 1) := by decide +kernel
theorem dX3_ifShort_74 : decode cX3_ifShort 74 = .ok (.istore 5, 2) := by decide +kernel
theorem dX3_ifShort_76 : decode cX3_ifShort 76 = .ok (.iload 5, 2) := by decide +kernel
theorem dX3_ifShort_78 : decode cX3_ifShort 78 = .ok (.bipush 100, 2) := by decide +kernel
theorem dX3_ifShort_80 : decode cX3_ifShort 80 = .ok (.if_icmp .ge 29, 3) := by decide +kernel
theorem dX3_ifShort_83 : decode cX3_ifShort 83 = .ok (.aload_n 0, 1) := by decide +kernel
theorem dX3_ifShort_84 : decode cX3_ifShort 84 = .ok (.getfield 16, 3) := by decide +kernel
theorem dX3_ifShort_87 : decode cX3_ifShort 87 = .ok (.invokevirtual 139, 3) := by decide +kernel
theorem dX3_ifShort_90 : decode cX3_ifShort 90 = .ok (.pop, 1) := by decide +kernel
theorem dX3_ifShort_91 : decode cX3_ifShort 91 = .ok (.iload 4, 2) := by decide +kernel
theorem dX3_ifShort_93 : decode cX3_ifShort 93 = .ok (.aload_n 0, 1) := by decide +kernel
theorem dX3_ifShort_94 : decode cX3_ifShort 94 = .ok (.getfield 16, 3) := by decide +kernel
theorem dX3_ifShort_97 : decode cX3_ifShort 97 = .ok (.invokevirtual 219, 3) := by decide +kernel
theorem dX3_ifShort_100 : decode cX3_ifShort 100 = .ok (.ior, 1) := by decide +kernel
theorem dX3_ifShort_101 : decode cX3_ifShort 101 = .ok (.istore 4, 2) := by decide +kernel
theorem dX3_ifShort_103 : decode cX3_ifShort 103 = .ok (.iinc 5 1, 3) := by decide +kernel
theorem dX3_ifShort_106 : decode cX3_ifShort 106 = .ok (.goto (-30), 3) := by decide +kernel
theorem dX3_ifShort_109 : decode cX3_ifShort 109 = .ok (.iload_n 3, 1) := by decide +kernel
theorem dX3_ifShort_110 : decode cX3_ifShort 110 = .ok (.ifCond .ne 6, 3) := by decide +kernel
theorem dX3_ifShort_113 : decode cX3_ifShort 113 = .ok (.iload 4, 2) := by decide +kernel
theorem dX3_ifShort_115 : decode cX3_ifShort 115 = .ok (.ireturn, 1) := by decide +kernel
theorem dX3_ifShort_116 : decode cX3_ifShort 116 = .ok (.aload_n 0, 1) := by decide +kernel
theorem dX3_ifShort_117 : decode cX3_ifShort 117 = .ok (.getfield 16, 3) := by decide +kernel
theorem dX3_ifShort_120 : decode cX3_ifShort 120 = .ok (.iload_n 3, 1) := by decide +kernel
theorem dX3_ifShort_121 : decode cX3_ifShort 121 = .ok (.iconst 1, 1) := by decide +kernel
theorem dX3_ifShort_122 : decode cX3_ifShort 122 = .ok (.if_icmp .ne 7, 3) := by decide +kernel
theorem dX3_ifShort_125 : decode cX3_ifShort 125 = .ok (.iconst 3, 1) := by decide +kernel
theorem dX3_ifShort_126 : decode cX3_ifShort 126 = .ok (.goto 4, 3) := by decide +kernel
theorem dX3_ifShort_129 : decode cX3_ifShort 129 = .ok (.iconst 5, 1) := by decide +kernel
theorem dX3_ifShort_130 : decode cX3_ifShort 130 = .ok (.invokevirtual 205, 3) := by decide +kernel
theorem dX3_ifShort_133 : decode cX3_ifShort 133 = .ok (.ireturn, 1) := by decide +kernel
theorem dX3_leastPatience_0 : decode cX3_leastPatience 0 = .ok (.aload_n 0, 1) := by decide +kernel
theorem dX3_leastPatience_1 : decode cX3_leastPatience 1 = .ok (.iload_n 1, 1) := by decide +kernel
theorem dX3_leastPatience_2 : decode cX3_leastPatience 2 = .ok (.invokevirtual 67, 3) := by decide +kernel
theorem dX3_leastPatience_5 : decode cX3_leastPatience 5 = .ok (.ifCond .ne 13, 3) := by decide +kernel
theorem dX3_leastPatience_8 : decode cX3_leastPatience 8 = .ok (.new 70, 3) := by decide +kernel
theorem dX3_leastPatience_11 : decode cX3_leastPatience 11 = .ok (.dup, 1) := by decide +kernel
theorem dX3_leastPatience_12 : decode cX3_leastPatience 12 = .ok (.ldc 84, 2) := by decide +kernel
theorem dX3_leastPatience_14 : decode cX3_leastPatience 14 = .ok (.invokespecial 74, 3) := by decide +kernel
theorem dX3_leastPatience_17 : decode cX3_leastPatience 17 = .ok (.athrow, 1) := by decide +kernel
theorem dX3_leastPatience_18 : decode cX3_leastPatience 18 = .ok (.aload_n 0, 1) := by decide +kernel
theorem dX3_leastPatience_19 : decode cX3_leastPatience 19 = .ok (.getfield 10, 3) := by decide +kernel
theorem dX3_leastPatience_22 : decode cX3_leastPatience 22 = .ok (.iload_n 1, 1) := by decide +kernel
theorem dX3_leastPatience_23 : decode cX3_leastPatience 23 = .ok (.invokevirtual 222, 3) := by decide +kernel
theorem dX3_leastPatience_26 : decode cX3_leastPatience 26 = .ok (.ireturn, 1) := by decide +kernel
theorem dX3_goodShare_0 : decode cX3_goodShare 0 = .ok (.aload_n 0, 1) := by decide +kernel
theorem dX3_goodShare_1 : decode cX3_goodShare 1 = .ok (.getfield 10, 3) := by decide +kernel
theorem dX3_goodShare_4 : decode cX3_goodShare 4 = .ok (.getfield 134, 3) := by decide +kernel
theorem dX3_goodShare_7 : decode cX3_goodShare 7 = .ok (.aload_n 0, 1) := by decide +kernel
theorem dX3_goodShare_8 : decode cX3_goodShare 8 = .ok (.getfield 10, 3) := by decide +kernel
theorem dX3_goodShare_11 : decode cX3_goodShare 11 = .ok (.getfield 51, 3) := by decide +kernel
theorem dX3_goodShare_14 : decode cX3_goodShare 14 = .ok (.imul, 1) := by decide +kernel
theorem dX3_goodShare_15 : decode cX3_goodShare 15 = .ok (.istore_n 1, 1) := by decide +kernel
theorem dX3_goodShare_16 : decode cX3_goodShare 16 = .ok (.iload_n 1, 1) := by decide +kernel
theorem dX3_goodShare_17 : decode cX3_goodShare 17 = .ok (.ifCond .ne 5, 3) := by decide +kernel
theorem dX3_goodShare_20 : decode cX3_goodShare 20 = .ok (.dconst 0, 1) := by decide +kernel
theorem dX3_goodShare_21 : decode cX3_goodShare 21 = .ok (.dreturn, 1) := by decide +kernel
theorem dX3_goodShare_22 : decode cX3_goodShare 22 = .ok (.iconst 0, 1) := by decide +kernel
theorem dX3_goodShare_23 : decode cX3_goodShare 23 = .ok (.istore_n 2, 1) := by decide +kernel
theorem dX3_goodShare_24 : decode cX3_goodShare 24 = .ok (.iconst 0, 1) := by decide +kernel
theorem dX3_goodShare_25 : decode cX3_goodShare 25 = .ok (.istore_n 3, 1) := by decide +kernel
theorem dX3_goodShare_26 : decode cX3_goodShare 26 = .ok (.iload_n 3, 1) := by decide +kernel
theorem dX3_goodShare_27 : decode cX3_goodShare 27 = .ok (.aload_n 0, 1) := by decide +kernel
theorem dX3_goodShare_28 : decode cX3_goodShare 28 = .ok (.getfield 10, 3) := by decide +kernel
theorem dX3_goodShare_31 : decode cX3_goodShare 31 = .ok (.getfield 51, 3) := by decide +kernel
theorem dX3_goodShare_34 : decode cX3_goodShare 34 = .ok (.if_icmp .ge 25, 3) := by decide +kernel
theorem dX3_goodShare_37 : decode cX3_goodShare 37 = .ok (.iload_n 2, 1) := by decide +kernel
theorem dX3_goodShare_38 : decode cX3_goodShare 38 = .ok (.aload_n 0, 1) := by decide +kernel
theorem dX3_goodShare_39 : decode cX3_goodShare 39 = .ok (.getfield 10, 3) := by decide +kernel
theorem dX3_goodShare_42 : decode cX3_goodShare 42 = .ok (.getfield 180, 3) := by decide +kernel
theorem dX3_goodShare_45 : decode cX3_goodShare 45 = .ok (.iload_n 3, 1) := by decide +kernel
theorem dX3_goodShare_46 : decode cX3_goodShare 46 = .ok (.iconst 4, 1) := by decide +kernel
theorem dX3_goodShare_47 : decode cX3_goodShare 47 = .ok (.imul, 1) := by decide +kernel
theorem dX3_goodShare_48 : decode cX3_goodShare 48 = .ok (.iconst 3, 1) := by decide +kernel
theorem dX3_goodShare_49 : decode cX3_goodShare 49 = .ok (.iadd, 1) := by decide +kernel
theorem dX3_goodShare_50 : decode cX3_goodShare 50 = .ok (.iaload, 1) := by decide +kernel
theorem dX3_goodShare_51 : decode cX3_goodShare 51 = .ok (.iadd, 1) := by decide +kernel
theorem dX3_goodShare_52 : decode cX3_goodShare 52 = .ok (.istore_n 2, 1) := by decide +kernel
theorem dX3_goodShare_53 : decode cX3_goodShare 53 = .ok (.iinc 3 1, 3) := by decide +kernel
theorem dX3_goodShare_56 : decode cX3_goodShare 56 = .ok (.goto (-30), 3) := by decide +kernel
theorem dX3_goodShare_59 : decode cX3_goodShare 59 = .ok (.iload_n 2, 1) := by decide +kernel
theorem dX3_goodShare_60 : decode cX3_goodShare 60 = .ok (.i2d, 1) := by decide +kernel
theorem dX3_goodShare_61 : decode cX3_goodShare 61 = .ok (.iload_n 1, 1) := by decide +kernel
theorem dX3_goodShare_62 : decode cX3_goodShare 62 = .ok (.i2d, 1) := by decide +kernel
theorem dX3_goodShare_63 : decode cX3_goodShare 63 = .ok (.ddiv, 1) := by decide +kernel
theorem dX3_goodShare_64 : decode cX3_goodShare 64 = .ok (.dreturn, 1) := by decide +kernel
theorem dX3_isRail_0 : decode cX3_isRail 0 = .ok (.iload_n 1, 1) := by decide +kernel
theorem dX3_isRail_1 : decode cX3_isRail 1 = .ok (.ifCond .lt 18, 3) := by decide +kernel
theorem dX3_isRail_4 : decode cX3_isRail 4 = .ok (.iload_n 1, 1) := by decide +kernel
theorem dX3_isRail_5 : decode cX3_isRail 5 = .ok (.aload_n 0, 1) := by decide +kernel
theorem dX3_isRail_6 : decode cX3_isRail 6 = .ok (.getfield 10, 3) := by decide +kernel
theorem dX3_isRail_9 : decode cX3_isRail 9 = .ok (.getfield 51, 3) := by decide +kernel
theorem dX3_isRail_12 : decode cX3_isRail 12 = .ok (.if_icmp .ge 7, 3) := by decide +kernel
theorem dX3_isRail_15 : decode cX3_isRail 15 = .ok (.iconst 1, 1) := by decide +kernel
theorem dX3_isRail_16 : decode cX3_isRail 16 = .ok (.goto 4, 3) := by decide +kernel
theorem dX3_isRail_19 : decode cX3_isRail 19 = .ok (.iconst 0, 1) := by decide +kernel
theorem dX3_isRail_20 : decode cX3_isRail 20 = .ok (.ireturn, 1) := by decide +kernel
theorem dX3_areRails_0 : decode cX3_areRails 0 = .ok (.aload_n 0, 1) := by decide +kernel
theorem dX3_areRails_1 : decode cX3_areRails 1 = .ok (.getfield 10, 3) := by decide +kernel
theorem dX3_areRails_4 : decode cX3_areRails 4 = .ok (.getfield 51, 3) := by decide +kernel
theorem dX3_areRails_7 : decode cX3_areRails 7 = .ok (.iload_n 1, 1) := by decide +kernel
theorem dX3_areRails_8 : decode cX3_areRails 8 = .ok (.invokestatic 86, 3) := by decide +kernel
theorem dX3_areRails_11 : decode cX3_areRails 11 = .ok (.ireturn, 1) := by decide +kernel
theorem dX3_areBelow_0 : decode cX3_areBelow 0 = .ok (.iload_n 1, 1) := by decide +kernel
theorem dX3_areBelow_1 : decode cX3_areBelow 1 = .ok (.iconst 1, 1) := by decide +kernel
theorem dX3_areBelow_2 : decode cX3_areBelow 2 = .ok (.iload_n 0, 1) := by decide +kernel
theorem dX3_areBelow_3 : decode cX3_areBelow 3 = .ok (.ishl, 1) := by decide +kernel
theorem dX3_areBelow_4 : decode cX3_areBelow 4 = .ok (.iconst 1, 1) := by decide +kernel
theorem dX3_areBelow_5 : decode cX3_areBelow 5 = .ok (.isub, 1) := by decide +kernel
theorem dX3_areBelow_6 : decode cX3_areBelow 6 = .ok (.iconst (-1), 1) := by decide +kernel
theorem dX3_areBelow_7 : decode cX3_areBelow 7 = .ok (.ixor, 1) := by decide +kernel
theorem dX3_areBelow_8 : decode cX3_areBelow 8 = .ok (.iand, 1) := by decide +kernel
theorem dX3_areBelow_9 : decode cX3_areBelow 9 = .ok (.ifCond .ne 7, 3) := by decide +kernel
theorem dX3_areBelow_12 : decode cX3_areBelow 12 = .ok (.iconst 1, 1) := by decide +kernel
theorem dX3_areBelow_13 : decode cX3_areBelow 13 = .ok (.goto 4, 3) := by decide +kernel
theorem dX3_areBelow_16 : decode cX3_areBelow 16 = .ok (.iconst 0, 1) := by decide +kernel
theorem dX3_areBelow_17 : decode cX3_areBelow 17 = .ok (.ireturn, 1) := by decide +kernel
theorem dX3_isInRange_0 : decode cX3_isInRange 0 = .ok (.iload_n 1, 1) := by decide +kernel
theorem dX3_isInRange_1 : decode cX3_isInRange 1 = .ok (.getstatic 254, 3) := by decide +kernel
theorem dX3_isInRange_4 : decode cX3_isInRange 4 = .ok (.iload_n 0, 1) := by decide +kernel
theorem dX3_isInRange_5 : decode cX3_isInRange 5 = .ok (.iaload, 1) := by decide +kernel
theorem dX3_isInRange_6 : decode cX3_isInRange 6 = .ok (.if_icmp .lt 16, 3) := by decide +kernel
theorem dX3_isInRange_9 : decode cX3_isInRange 9 = .ok (.iload_n 1, 1) := by decide +kernel
theorem dX3_isInRange_10 : decode cX3_isInRange 10 = .ok (.getstatic 257, 3) := by decide +kernel
theorem dX3_isInRange_13 : decode cX3_isInRange 13 = .ok (.iload_n 0, 1) := by decide +kernel
theorem dX3_isInRange_14 : decode cX3_isInRange 14 = .ok (.iaload, 1) := by decide +kernel
theorem dX3_isInRange_15 : decode cX3_isInRange 15 = .ok (.if_icmp .gt 7, 3) := by decide +kernel
theorem dX3_isInRange_18 : decode cX3_isInRange 18 = .ok (.iconst 1, 1) := by decide +kernel
theorem dX3_isInRange_19 : decode cX3_isInRange 19 = .ok (.goto 4, 3) := by decide +kernel
theorem dX3_isInRange_22 : decode cX3_isInRange 22 = .ok (.iconst 0, 1) := by decide +kernel
theorem dX3_isInRange_23 : decode cX3_isInRange 23 = .ok (.ireturn, 1) := by decide +kernel
theorem dX3_save_0 : decode cX3_save 0 = .ok (.aload_n 0, 1) := by decide +kernel
theorem dX3_save_1 : decode cX3_save 1 = .ok (.getfield 168, 3) := by decide +kernel
theorem dX3_save_4 : decode cX3_save 4 = .ok (.bipush 6, 2) := by decide +kernel
theorem dX3_save_6 : decode cX3_save 6 = .ok (.if_icmp .lt 7, 3) := by decide +kernel
theorem dX3_save_9 : decode cX3_save 9 = .ok (.aload_n 0, 1) := by decide +kernel
theorem dX3_save_10 : decode cX3_save 10 = .ok (.invokevirtual 260, 3) := by decide +kernel
theorem dX3_save_13 : decode cX3_save 13 = .ok (.aload_n 0, 1) := by decide +kernel
theorem dX3_save_14 : decode cX3_save 14 = .ok (.getfield 19, 3) := by decide +kernel
theorem dX3_save_17 : decode cX3_save 17 = .ok (.aload_n 0, 1) := by decide +kernel
theorem dX3_save_18 : decode cX3_save 18 = .ok (.getfield 168, 3) := by decide +kernel
theorem dX3_save_21 : decode cX3_save 21 = .ok (.aaload, 1) := by decide +kernel
theorem dX3_save_22 : decode cX3_save 22 = .ok (.aload_n 0, 1) := by decide +kernel
theorem dX3_save_23 : decode cX3_save 23 = .ok (.getfield 10, 3) := by decide +kernel
theorem dX3_save_26 : decode cX3_save 26 = .ok (.invokevirtual 164, 3) := by decide +kernel
theorem dX3_save_29 : decode cX3_save 29 = .ok (.aload_n 0, 1) := by decide +kernel
theorem dX3_save_30 : decode cX3_save 30 = .ok (.dup, 1) := by decide +kernel
theorem dX3_save_31 : decode cX3_save 31 = .ok (.getfield 168, 3) := by decide +kernel
theorem dX3_save_34 : decode cX3_save 34 = .ok (.iconst 1, 1) := by decide +kernel
theorem dX3_save_35 : decode cX3_save 35 = .ok (.iadd, 1) := by decide +kernel
theorem dX3_save_36 : decode cX3_save 36 = .ok (.putfield 168, 3) := by decide +kernel
theorem dX3_save_39 : decode cX3_save 39 = .ok (.return_, 1) := by decide +kernel
theorem dX3_dropOldestSaved_0 : decode cX3_dropOldestSaved 0 = .ok (.aload_n 0, 1) := by decide +kernel
theorem dX3_dropOldestSaved_1 : decode cX3_dropOldestSaved 1 = .ok (.getfield 19, 3) := by decide +kernel
theorem dX3_dropOldestSaved_4 : decode cX3_dropOldestSaved 4 = .ok (.iconst 0, 1) := by decide +kernel
theorem dX3_dropOldestSaved_5 : decode cX3_dropOldestSaved 5 = .ok (.aaload, 1) := by decide +kernel
theorem dX3_dropOldestSaved_6 : decode cX3_dropOldestSaved 6 = .ok (.astore_n 1, 1) := by decide +kernel
theorem dX3_dropOldestSaved_7 : decode cX3_dropOldestSaved 7 = .ok (.iconst 1, 1) := by decide +kernel
theorem dX3_dropOldestSaved_8 : decode cX3_dropOldestSaved 8 = .ok (.istore_n 2, 1) := by decide +kernel
theorem dX3_dropOldestSaved_9 : decode cX3_dropOldestSaved 9 = .ok (.iload_n 2, 1) := by decide +kernel
theorem dX3_dropOldestSaved_10 : decode cX3_dropOldestSaved 10 = .ok (.bipush 6, 2) := by decide +kernel
theorem dX3_dropOldestSaved_12 : decode cX3_dropOldestSaved 12 = .ok (.if_icmp .ge 23, 3) := by decide +kernel
theorem dX3_dropOldestSaved_15 : decode cX3_dropOldestSaved 15 = .ok (.aload_n 0, 1) := by decide +kernel
theorem dX3_dropOldestSaved_16 : decode cX3_dropOldestSaved 16 = .ok (.getfield 19, 3) := by decide +kernel
theorem dX3_dropOldestSaved_19 : decode cX3_dropOldestSaved 19 = .ok (.iload_n 2, 1) := by decide +kernel
theorem dX3_dropOldestSaved_20 : decode cX3_dropOldestSaved 20 = .ok (.iconst 1, 1) := by decide +kernel
theorem dX3_dropOldestSaved_21 : decode cX3_dropOldestSaved 21 = .ok (.isub, 1) := by decide +kernel
theorem dX3_dropOldestSaved_22 : decode cX3_dropOldestSaved 22 = .ok (.aload_n 0, 1) := by decide +kernel
theorem dX3_dropOldestSaved_23 : decode cX3_dropOldestSaved 23 = .ok (.getfield 19, 3) := by decide +kernel
theorem dX3_dropOldestSaved_26 : decode cX3_dropOldestSaved 26 = .ok (.iload_n 2, 1) := by decide +kernel
theorem dX3_dropOldestSaved_27 : decode cX3_dropOldestSaved 27 = .ok (.aaload, 1) := by decide +kernel
theorem dX3_dropOldestSaved_28 : decode cX3_dropOldestSaved 28 = .ok (.aastore, 1) := by decide +kernel
theorem dX3_dropOldestSaved_29 : decode cX3_dropOldestSaved 29 = .ok (.iinc 2 1, 3) := by decide +kernel
theorem dX3_dropOldestSaved_32 : decode cX3_dropOldestSaved 32 = .ok (.goto (-23), 3) := by decide +kernel
theorem dX3_dropOldestSaved_35 : decode cX3_dropOldestSaved 35 = .ok (.aload_n 0, 1) := by decide +kernel
theorem dX3_dropOldestSaved_36 : decode cX3_dropOldestSaved 36 = .ok (.getfield 19, 3) := by decide +kernel
theorem dX3_dropOldestSaved_39 : decode cX3_dropOldestSaved 39 = .ok (.iconst 5, 1) := by decide +kernel
theorem dX3_dropOldestSaved_40 : decode cX3_dropOldestSaved 40 = .ok (.aload_n 1, 1) := by decide +kernel
theorem dX3_dropOldestSaved_41 : decode cX3_dropOldestSaved 41 = .ok (.aastore, 1) := by decide +kernel
theorem dX3_dropOldestSaved_42 : decode cX3_dropOldestSaved 42 = .ok (.aload_n 0, 1) := by decide +kernel
theorem dX3_dropOldestSaved_43 : decode cX3_dropOldestSaved 43 = .ok (.iconst 5, 1) := by decide +kernel
theorem dX3_dropOldestSaved_44 : decode cX3_dropOldestSaved 44 = .ok (.putfield 168, 3) := by decide +kernel
theorem dX3_dropOldestSaved_47 : decode cX3_dropOldestSaved 47 = .ok (.return_, 1) := by decide +kernel
theorem dX3_countOf_0 : decode cX3_countOf 0 = .ok (.iload_n 1, 1) := by decide +kernel
theorem dX3_countOf_1 : decode cX3_countOf 1 = .ok (.tableswitch 125 0 8 #[51, 59, 67, 75, 83, 92, 101, 112, 120], 51) := by decide +kernel
theorem dX3_countOf_52 : decode cX3_countOf 52 = .ok (.aload_n 0, 1) := by decide +kernel
theorem dX3_countOf_53 : decode cX3_countOf 53 = .ok (.getfield 10, 3) := by decide +kernel
theorem dX3_countOf_56 : decode cX3_countOf 56 = .ok (.getfield 51, 3) := by decide +kernel
theorem dX3_countOf_59 : decode cX3_countOf 59 = .ok (.ireturn, 1) := by decide +kernel
theorem dX3_countOf_60 : decode cX3_countOf 60 = .ok (.aload_n 0, 1) := by decide +kernel
theorem dX3_countOf_61 : decode cX3_countOf 61 = .ok (.getfield 10, 3) := by decide +kernel
theorem dX3_countOf_64 : decode cX3_countOf 64 = .ok (.getfield 134, 3) := by decide +kernel
theorem dX3_countOf_67 : decode cX3_countOf 67 = .ok (.ireturn, 1) := by decide +kernel
theorem dX3_countOf_68 : decode cX3_countOf 68 = .ok (.aload_n 0, 1) := by decide +kernel
theorem dX3_countOf_69 : decode cX3_countOf 69 = .ok (.getfield 10, 3) := by decide +kernel
theorem dX3_countOf_72 : decode cX3_countOf 72 = .ok (.getfield 101, 3) := by decide +kernel
theorem dX3_countOf_75 : decode cX3_countOf 75 = .ok (.ireturn, 1) := by decide +kernel
theorem dX3_countOf_76 : decode cX3_countOf 76 = .ok (.aload_n 0, 1) := by decide +kernel
theorem dX3_countOf_77 : decode cX3_countOf 77 = .ok (.getfield 10, 3) := by decide +kernel
theorem dX3_countOf_80 : decode cX3_countOf 80 = .ok (.getfield 106, 3) := by decide +kernel
theorem dX3_countOf_83 : decode cX3_countOf 83 = .ok (.ireturn, 1) := by decide +kernel
theorem dX3_countOf_84 : decode cX3_countOf 84 = .ok (.aload_n 0, 1) := by decide +kernel
theorem dX3_countOf_85 : decode cX3_countOf 85 = .ok (.getfield 10, 3) := by decide +kernel
theorem dX3_countOf_88 : decode cX3_countOf 88 = .ok (.iconst 3, 1) := by decide +kernel
theorem dX3_countOf_89 : decode cX3_countOf 89 = .ok (.invokevirtual 205, 3) := by decide +kernel
theorem dX3_countOf_92 : decode cX3_countOf 92 = .ok (.ireturn, 1) := by decide +kernel
theorem dX3_countOf_93 : decode cX3_countOf 93 = .ok (.aload_n 0, 1) := by decide +kernel
theorem dX3_countOf_94 : decode cX3_countOf 94 = .ok (.getfield 10, 3) := by decide +kernel
theorem dX3_countOf_97 : decode cX3_countOf 97 = .ok (.iconst 5, 1) := by decide +kernel
theorem dX3_countOf_98 : decode cX3_countOf 98 = .ok (.invokevirtual 205, 3) := by decide +kernel
theorem dX3_countOf_101 : decode cX3_countOf 101 = .ok (.ireturn, 1) := by decide +kernel
theorem dX3_countOf_102 : decode cX3_countOf 102 = .ok (.aload_n 0, 1) := by decide +kernel
theorem dX3_countOf_103 : decode cX3_countOf 103 = .ok (.getfield 10, 3) := by decide +kernel
theorem dX3_countOf_106 : decode cX3_countOf 106 = .ok (.getfield 187, 3) := by decide +kernel
theorem dX3_countOf_109 : decode cX3_countOf 109 = .ok (.getfield 191, 3) := by decide +kernel
theorem dX3_countOf_112 : decode cX3_countOf 112 = .ok (.ireturn, 1) := by decide +kernel
theorem dX3_countOf_113 : decode cX3_countOf 113 = .ok (.aload_n 0, 1) := by decide +kernel
theorem dX3_countOf_114 : decode cX3_countOf 114 = .ok (.getfield 10, 3) := by decide +kernel
theorem dX3_countOf_117 : decode cX3_countOf 117 = .ok (.invokevirtual 277, 3) := by decide +kernel
theorem dX3_countOf_120 : decode cX3_countOf 120 = .ok (.ireturn, 1) := by decide +kernel
theorem dX3_countOf_121 : decode cX3_countOf 121 = .ok (.aload_n 0, 1) := by decide +kernel
theorem dX3_countOf_122 : decode cX3_countOf 122 = .ok (.getfield 168, 3) := by decide +kernel
theorem dX3_countOf_125 : decode cX3_countOf 125 = .ok (.ireturn, 1) := by decide +kernel
theorem dX3_countOf_126 : decode cX3_countOf 126 = .ok (.aload_n 0, 1) := by decide +kernel
theorem dX3_countOf_127 : decode cX3_countOf 127 = .ok (.getfield 16, 3) := by decide +kernel
theorem dX3_countOf_130 : decode cX3_countOf 130 = .ok (.aload_n 0, 1) := by decide +kernel
theorem dX3_countOf_131 : decode cX3_countOf 131 = .ok (.getfield 10, 3) := by decide +kernel
theorem dX3_countOf_134 : decode cX3_countOf 134 = .ok (.invokevirtual 164, 3) := by decide +kernel
theorem dX3_countOf_137 : decode cX3_countOf 137 = .ok (.aload_n 0, 1) := by decide +kernel
theorem dX3_countOf_138 : decode cX3_countOf 138 = .ok (.getfield 16, 3) := by decide +kernel
theorem dX3_countOf_141 : decode cX3_countOf 141 = .ok (.invokevirtual 139, 3) := by decide +kernel
theorem dX3_countOf_144 : decode cX3_countOf 144 = .ok (.pop, 1) := by decide +kernel
theorem dX3_countOf_145 : decode cX3_countOf 145 = .ok (.aload_n 0, 1) := by decide +kernel
theorem dX3_countOf_146 : decode cX3_countOf 146 = .ok (.getfield 16, 3) := by decide +kernel
theorem dX3_countOf_149 : decode cX3_countOf 149 = .ok (.invokevirtual 211, 3) := by decide +kernel
theorem dX3_countOf_152 : decode cX3_countOf 152 = .ok (.ifCond .eq 7, 3) := by decide +kernel
theorem dX3_countOf_155 : decode cX3_countOf 155 = .ok (.iconst 1, 1) := by decide +kernel
theorem dX3_countOf_156 : decode cX3_countOf 156 = .ok (.goto 4, 3) := by decide +kernel
theorem dX3_countOf_159 : decode cX3_countOf 159 = .ok (.iconst 0, 1) := by decide +kernel
theorem dX3_countOf_160 : decode cX3_countOf 160 = .ok (.ireturn, 1) := by decide +kernel
theorem dL_cell_0 : decode cL_cell 0 = .ok (.iload_n 1, 1) := by decide +kernel
theorem dL_cell_1 : decode cL_cell 1 = .ok (.aload_n 0, 1) := by decide +kernel
theorem dL_cell_2 : decode cL_cell 2 = .ok (.arraylength, 1) := by decide +kernel
theorem dL_cell_3 : decode cL_cell 3 = .ok (.if_icmp .ge 9, 3) := by decide +kernel
theorem dL_cell_6 : decode cL_cell 6 = .ok (.aload_n 0, 1) := by decide +kernel
theorem dL_cell_7 : decode cL_cell 7 = .ok (.iload_n 1, 1) := by decide +kernel
theorem dL_cell_8 : decode cL_cell 8 = .ok (.iaload, 1) := by decide +kernel
theorem dL_cell_9 : decode cL_cell 9 = .ok (.goto 9, 3) := by decide +kernel
theorem dL_cell_12 : decode cL_cell 12 = .ok (.ldc 7, 2) := by decide +kernel
theorem dL_cell_14 : decode cL_cell 14 = .ok (.iload_n 1, 1) := by decide +kernel
theorem dL_cell_15 : decode cL_cell 15 = .ok (.iconst 1, 1) := by decide +kernel
theorem dL_cell_16 : decode cL_cell 16 = .ok (.iadd, 1) := by decide +kernel
theorem dL_cell_17 : decode cL_cell 17 = .ok (.imul, 1) := by decide +kernel
theorem dL_cell_18 : decode cL_cell 18 = .ok (.ireturn, 1) := by decide +kernel
theorem dL_at_0 : decode cL_at 0 = .ok (.iload_n 0, 1) := by decide +kernel
theorem dL_at_1 : decode cL_at 1 = .ok (.iconst 1, 1) := by decide +kernel
theorem dL_at_2 : decode cL_at 2 = .ok (.iushr, 1) := by decide +kernel
theorem dL_at_3 : decode cL_at 3 = .ok (.iload_n 1, 1) := by decide +kernel
theorem dL_at_4 : decode cL_at 4 = .ok (.irem, 1) := by decide +kernel
theorem dL_at_5 : decode cL_at 5 = .ok (.ireturn, 1) := by decide +kernel
theorem dL_flag_0 : decode cL_flag 0 = .ok (.aload_n 2, 1) := by decide +kernel
theorem dL_flag_1 : decode cL_flag 1 = .ok (.bipush 9, 2) := by decide +kernel
theorem dL_flag_3 : decode cL_flag 3 = .ok (.iload_n 0, 1) := by decide +kernel
theorem dL_flag_4 : decode cL_flag 4 = .ok (.imul, 1) := by decide +kernel
theorem dL_flag_5 : decode cL_flag 5 = .ok (.iconst 4, 1) := by decide +kernel
theorem dL_flag_6 : decode cL_flag 6 = .ok (.iadd, 1) := by decide +kernel
theorem dL_flag_7 : decode cL_flag 7 = .ok (.iaload, 1) := by decide +kernel
theorem dL_flag_8 : decode cL_flag 8 = .ok (.iconst 2, 1) := by decide +kernel
theorem dL_flag_9 : decode cL_flag 9 = .ok (.if_icmp .eq 43, 3) := by decide +kernel
theorem dL_flag_12 : decode cL_flag 12 = .ok (.aload_n 2, 1) := by decide +kernel
theorem dL_flag_13 : decode cL_flag 13 = .ok (.bipush 9, 2) := by decide +kernel
theorem dL_flag_15 : decode cL_flag 15 = .ok (.iload_n 0, 1) := by decide +kernel
theorem dL_flag_16 : decode cL_flag 16 = .ok (.imul, 1) := by decide +kernel
theorem dL_flag_17 : decode cL_flag 17 = .ok (.iconst 4, 1) := by decide +kernel
theorem dL_flag_18 : decode cL_flag 18 = .ok (.iadd, 1) := by decide +kernel
theorem dL_flag_19 : decode cL_flag 19 = .ok (.iaload, 1) := by decide +kernel
theorem dL_flag_20 : decode cL_flag 20 = .ok (.ifCond .ne 36, 3) := by decide +kernel
theorem dL_flag_23 : decode cL_flag 23 = .ok (.bipush 100, 2) := by decide +kernel
theorem dL_flag_25 : decode cL_flag 25 = .ok (.aload_n 2, 1) := by decide +kernel
theorem dL_flag_26 : decode cL_flag 26 = .ok (.bipush 9, 2) := by decide +kernel
theorem dL_flag_28 : decode cL_flag 28 = .ok (.iload_n 0, 1) := by decide +kernel
theorem dL_flag_29 : decode cL_flag 29 = .ok (.imul, 1) := by decide +kernel
theorem dL_flag_30 : decode cL_flag 30 = .ok (.iconst 3, 1) := by decide +kernel
theorem dL_flag_31 : decode cL_flag 31 = .ok (.iadd, 1) := by decide +kernel
theorem dL_flag_32 : decode cL_flag 32 = .ok (.iaload, 1) := by decide +kernel
theorem dL_flag_33 : decode cL_flag 33 = .ok (.imul, 1) := by decide +kernel
theorem dL_flag_34 : decode cL_flag 34 = .ok (.aload_n 1, 1) := by decide +kernel
theorem dL_flag_35 : decode cL_flag 35 = .ok (.bipush 7, 2) := by decide +kernel
theorem dL_flag_37 : decode cL_flag 37 = .ok (.iload_n 0, 1) := by decide +kernel
theorem dL_flag_38 : decode cL_flag 38 = .ok (.imul, 1) := by decide +kernel
theorem dL_flag_39 : decode cL_flag 39 = .ok (.iaload, 1) := by decide +kernel
theorem dL_flag_40 : decode cL_flag 40 = .ok (.aload_n 1, 1) := by decide +kernel
theorem dL_flag_41 : decode cL_flag 41 = .ok (.bipush 7, 2) := by decide +kernel
theorem dL_flag_43 : decode cL_flag 43 = .ok (.iload_n 0, 1) := by decide +kernel
theorem dL_flag_44 : decode cL_flag 44 = .ok (.imul, 1) := by decide +kernel
theorem dL_flag_45 : decode cL_flag 45 = .ok (.iconst 3, 1) := by decide +kernel
theorem dL_flag_46 : decode cL_flag 46 = .ok (.iadd, 1) := by decide +kernel
theorem dL_flag_47 : decode cL_flag 47 = .ok (.iaload, 1) := by decide +kernel
theorem dL_flag_48 : decode cL_flag 48 = .ok (.imul, 1) := by decide +kernel
theorem dL_flag_49 : decode cL_flag 49 = .ok (.if_icmp .lt 7, 3) := by decide +kernel
theorem dL_flag_52 : decode cL_flag 52 = .ok (.iconst 1, 1) := by decide +kernel
theorem dL_flag_53 : decode cL_flag 53 = .ok (.goto 4, 3) := by decide +kernel
theorem dL_flag_56 : decode cL_flag 56 = .ok (.iconst 0, 1) := by decide +kernel
theorem dL_flag_57 : decode cL_flag 57 = .ok (.ireturn, 1) := by decide +kernel
theorem dL_enter_0 : decode cL_enter 0 = .ok (.aload_n 2, 1) := by decide +kernel
theorem dL_enter_1 : decode cL_enter 1 = .ok (.bipush 9, 2) := by decide +kernel
theorem dL_enter_3 : decode cL_enter 3 = .ok (.iload_n 0, 1) := by decide +kernel
theorem dL_enter_4 : decode cL_enter 4 = .ok (.imul, 1) := by decide +kernel
theorem dL_enter_5 : decode cL_enter 5 = .ok (.iconst 2, 1) := by decide +kernel
theorem dL_enter_6 : decode cL_enter 6 = .ok (.iadd, 1) := by decide +kernel
theorem dL_enter_7 : decode cL_enter 7 = .ok (.iload_n 1, 1) := by decide +kernel
theorem dL_enter_8 : decode cL_enter 8 = .ok (.iastore, 1) := by decide +kernel
theorem dL_enter_9 : decode cL_enter 9 = .ok (.aload 5, 2) := by decide +kernel
theorem dL_enter_11 : decode cL_enter 11 = .ok (.iconst 4, 1) := by decide +kernel
theorem dL_enter_12 : decode cL_enter 12 = .ok (.dup2, 1) := by decide +kernel
theorem dL_enter_13 : decode cL_enter 13 = .ok (.iaload, 1) := by decide +kernel
theorem dL_enter_14 : decode cL_enter 14 = .ok (.iconst 1, 1) := by decide +kernel
theorem dL_enter_15 : decode cL_enter 15 = .ok (.iadd, 1) := by decide +kernel
theorem dL_enter_16 : decode cL_enter 16 = .ok (.iastore, 1) := by decide +kernel
theorem dL_enter_17 : decode cL_enter 17 = .ok (.iload_n 1, 1) := by decide +kernel
theorem dL_enter_18 : decode cL_enter 18 = .ok (.iconst 3, 1) := by decide +kernel
theorem dL_enter_19 : decode cL_enter 19 = .ok (.if_icmp .le 13, 3) := by decide +kernel
theorem dL_enter_22 : decode cL_enter 22 = .ok (.aload 5, 2) := by decide +kernel
theorem dL_enter_24 : decode cL_enter 24 = .ok (.iconst 5, 1) := by decide +kernel
theorem dL_enter_25 : decode cL_enter 25 = .ok (.dup2, 1) := by decide +kernel
theorem dL_enter_26 : decode cL_enter 26 = .ok (.iaload, 1) := by decide +kernel
theorem dL_enter_27 : decode cL_enter 27 = .ok (.iconst 1, 1) := by decide +kernel
theorem dL_enter_28 : decode cL_enter 28 = .ok (.iload_n 0, 1) := by decide +kernel
theorem dL_enter_29 : decode cL_enter 29 = .ok (.ishl, 1) := by decide +kernel
theorem dL_enter_30 : decode cL_enter 30 = .ok (.ior, 1) := by decide +kernel
theorem dL_enter_31 : decode cL_enter 31 = .ok (.iastore, 1) := by decide +kernel
theorem dL_enter_32 : decode cL_enter 32 = .ok (.iload_n 1, 1) := by decide +kernel
theorem dL_enter_33 : decode cL_enter 33 = .ok (.iconst 2, 1) := by decide +kernel
theorem dL_enter_34 : decode cL_enter 34 = .ok (.if_icmp .eq 8, 3) := by decide +kernel
theorem dL_enter_37 : decode cL_enter 37 = .ok (.iload_n 1, 1) := by decide +kernel
theorem dL_enter_38 : decode cL_enter 38 = .ok (.iconst 3, 1) := by decide +kernel
theorem dL_enter_39 : decode cL_enter 39 = .ok (.if_icmp .ne 16, 3) := by decide +kernel
theorem dL_enter_42 : decode cL_enter 42 = .ok (.aload_n 3, 1) := by decide +kernel
theorem dL_enter_43 : decode cL_enter 43 = .ok (.iconst 4, 1) := by decide +kernel
theorem dL_enter_44 : decode cL_enter 44 = .ok (.iload_n 0, 1) := by decide +kernel
theorem dL_enter_45 : decode cL_enter 45 = .ok (.imul, 1) := by decide +kernel
theorem dL_enter_46 : decode cL_enter 46 = .ok (.iload_n 1, 1) := by decide +kernel
theorem dL_enter_47 : decode cL_enter 47 = .ok (.iadd, 1) := by decide +kernel
theorem dL_enter_48 : decode cL_enter 48 = .ok (.iconst 2, 1) := by decide +kernel
theorem dL_enter_49 : decode cL_enter 49 = .ok (.isub, 1) := by decide +kernel
theorem dL_enter_50 : decode cL_enter 50 = .ok (.dup2, 1) := by decide +kernel
theorem dL_enter_51 : decode cL_enter 51 = .ok (.iaload, 1) := by decide +kernel
theorem dL_enter_52 : decode cL_enter 52 = .ok (.iconst 1, 1) := by decide +kernel
theorem dL_enter_53 : decode cL_enter 53 = .ok (.iadd, 1) := by decide +kernel
theorem dL_enter_54 : decode cL_enter 54 = .ok (.iastore, 1) := by decide +kernel
theorem dL_enter_55 : decode cL_enter 55 = .ok (.bipush 59, 2) := by decide +kernel
theorem dL_enter_57 : decode cL_enter 57 = .ok (.istore 6, 2) := by decide +kernel
theorem dL_enter_59 : decode cL_enter 59 = .ok (.iload 6, 2) := by decide +kernel
theorem dL_enter_61 : decode cL_enter 61 = .ok (.ifCond .lt 21, 3) := by decide +kernel
theorem dL_enter_64 : decode cL_enter 64 = .ok (.aload 4, 2) := by decide +kernel
theorem dL_enter_66 : decode cL_enter 66 = .ok (.iload 6, 2) := by decide +kernel
theorem dL_enter_68 : decode cL_enter 68 = .ok (.iconst 4, 1) := by decide +kernel
theorem dL_enter_69 : decode cL_enter 69 = .ok (.iadd, 1) := by decide +kernel
theorem dL_enter_70 : decode cL_enter 70 = .ok (.aload 4, 2) := by decide +kernel
theorem dL_enter_72 : decode cL_enter 72 = .ok (.iload 6, 2) := by decide +kernel
theorem dL_enter_74 : decode cL_enter 74 = .ok (.iaload, 1) := by decide +kernel
theorem dL_enter_75 : decode cL_enter 75 = .ok (.iastore, 1) := by decide +kernel
theorem dL_enter_76 : decode cL_enter 76 = .ok (.iinc 6 (-1), 3) := by decide +kernel
theorem dL_enter_79 : decode cL_enter 79 = .ok (.goto (-20), 3) := by decide +kernel
theorem dL_enter_82 : decode cL_enter 82 = .ok (.aload 4, 2) := by decide +kernel
theorem dL_enter_84 : decode cL_enter 84 = .ok (.iconst 0, 1) := by decide +kernel
theorem dL_enter_85 : decode cL_enter 85 = .ok (.aload 5, 2) := by decide +kernel
theorem dL_enter_87 : decode cL_enter 87 = .ok (.iconst 2, 1) := by decide +kernel
theorem dL_enter_88 : decode cL_enter 88 = .ok (.iaload, 1) := by decide +kernel
theorem dL_enter_89 : decode cL_enter 89 = .ok (.iastore, 1) := by decide +kernel
theorem dL_enter_90 : decode cL_enter 90 = .ok (.aload 4, 2) := by decide +kernel
theorem dL_enter_92 : decode cL_enter 92 = .ok (.iconst 1, 1) := by decide +kernel
theorem dL_enter_93 : decode cL_enter 93 = .ok (.iload_n 0, 1) := by decide +kernel
theorem dL_enter_94 : decode cL_enter 94 = .ok (.iastore, 1) := by decide +kernel
theorem dL_enter_95 : decode cL_enter 95 = .ok (.aload 4, 2) := by decide +kernel
theorem dL_enter_97 : decode cL_enter 97 = .ok (.iconst 2, 1) := by decide +kernel
theorem dL_enter_98 : decode cL_enter 98 = .ok (.iload_n 1, 1) := by decide +kernel
theorem dL_enter_99 : decode cL_enter 99 = .ok (.iastore, 1) := by decide +kernel
theorem dL_enter_100 : decode cL_enter 100 = .ok (.aload 4, 2) := by decide +kernel
theorem dL_enter_102 : decode cL_enter 102 = .ok (.iconst 3, 1) := by decide +kernel
theorem dL_enter_103 : decode cL_enter 103 = .ok (.aload_n 2, 1) := by decide +kernel
theorem dL_enter_104 : decode cL_enter 104 = .ok (.bipush 9, 2) := by decide +kernel
theorem dL_enter_106 : decode cL_enter 106 = .ok (.iload_n 0, 1) := by decide +kernel
theorem dL_enter_107 : decode cL_enter 107 = .ok (.imul, 1) := by decide +kernel
theorem dL_enter_108 : decode cL_enter 108 = .ok (.bipush 8, 2) := by decide +kernel
theorem dL_enter_110 : decode cL_enter 110 = .ok (.iadd, 1) := by decide +kernel
theorem dL_enter_111 : decode cL_enter 111 = .ok (.iaload, 1) := by decide +kernel
theorem dL_enter_112 : decode cL_enter 112 = .ok (.iastore, 1) := by decide +kernel
theorem dL_enter_113 : decode cL_enter 113 = .ok (.aload 5, 2) := by decide +kernel
theorem dL_enter_115 : decode cL_enter 115 = .ok (.iconst 3, 1) := by decide +kernel
theorem dL_enter_116 : decode cL_enter 116 = .ok (.iaload, 1) := by decide +kernel
theorem dL_enter_117 : decode cL_enter 117 = .ok (.bipush 16, 2) := by decide +kernel
theorem dL_enter_119 : decode cL_enter 119 = .ok (.if_icmp .ge 11, 3) := by decide +kernel
theorem dL_enter_122 : decode cL_enter 122 = .ok (.aload 5, 2) := by decide +kernel
theorem dL_enter_124 : decode cL_enter 124 = .ok (.iconst 3, 1) := by decide +kernel
theorem dL_enter_125 : decode cL_enter 125 = .ok (.dup2, 1) := by decide +kernel
theorem dL_enter_126 : decode cL_enter 126 = .ok (.iaload, 1) := by decide +kernel
theorem dL_enter_127 : decode cL_enter 127 = .ok (.iconst 1, 1) := by decide +kernel
theorem dL_enter_128 : decode cL_enter 128 = .ok (.iadd, 1) := by decide +kernel
theorem dL_enter_129 : decode cL_enter 129 = .ok (.iastore, 1) := by decide +kernel
theorem dL_enter_130 : decode cL_enter 130 = .ok (.return_, 1) := by decide +kernel
theorem dL_next_0 : decode cL_next 0 = .ok (.bipush 9, 2) := by decide +kernel
theorem dL_next_2 : decode cL_next 2 = .ok (.iload_n 0, 1) := by decide +kernel
theorem dL_next_3 : decode cL_next 3 = .ok (.imul, 1) := by decide +kernel
theorem dL_next_4 : decode cL_next 4 = .ok (.istore 5, 2) := by decide +kernel
theorem dL_next_6 : decode cL_next 6 = .ok (.iconst (-1), 1) := by decide +kernel
theorem dL_next_7 : decode cL_next 7 = .ok (.istore 6, 2) := by decide +kernel
theorem dL_next_9 : decode cL_next 9 = .ok (.iconst 0, 1) := by decide +kernel
theorem dL_next_10 : decode cL_next 10 = .ok (.istore 7, 2) := by decide +kernel
theorem dL_next_12 : decode cL_next 12 = .ok (.iload 7, 2) := by decide +kernel
theorem dL_next_14 : decode cL_next 14 = .ok (.iload_n 0, 1) := by decide +kernel
theorem dL_next_15 : decode cL_next 15 = .ok (.if_icmp .ge 54, 3) := by decide +kernel
theorem dL_next_18 : decode cL_next 18 = .ok (.iload 6, 2) := by decide +kernel
theorem dL_next_20 : decode cL_next 20 = .ok (.ifCond .ge 49, 3) := by decide +kernel
theorem dL_next_23 : decode cL_next 23 = .ok (.aload_n 3, 1) := by decide +kernel
theorem dL_next_24 : decode cL_next 24 = .ok (.iload 5, 2) := by decide +kernel
theorem dL_next_26 : decode cL_next 26 = .ok (.iaload, 1) := by decide +kernel
theorem dL_next_27 : decode cL_next 27 = .ok (.iload 7, 2) := by decide +kernel
theorem dL_next_29 : decode cL_next 29 = .ok (.ishr, 1) := by decide +kernel
theorem dL_next_30 : decode cL_next 30 = .ok (.iconst 1, 1) := by decide +kernel
theorem dL_next_31 : decode cL_next 31 = .ok (.iand, 1) := by decide +kernel
theorem dL_next_32 : decode cL_next 32 = .ok (.iconst 1, 1) := by decide +kernel
theorem dL_next_33 : decode cL_next 33 = .ok (.if_icmp .ne 30, 3) := by decide +kernel
theorem dL_next_36 : decode cL_next 36 = .ok (.iload_n 1, 1) := by decide +kernel
theorem dL_next_37 : decode cL_next 37 = .ok (.iconst 3, 1) := by decide +kernel
theorem dL_next_38 : decode cL_next 38 = .ok (.iload 7, 2) := by decide +kernel
theorem dL_next_40 : decode cL_next 40 = .ok (.imul, 1) := by decide +kernel
theorem dL_next_41 : decode cL_next 41 = .ok (.ishr, 1) := by decide +kernel
theorem dL_next_42 : decode cL_next 42 = .ok (.bipush 7, 2) := by decide +kernel
theorem dL_next_44 : decode cL_next 44 = .ok (.iand, 1) := by decide +kernel
theorem dL_next_45 : decode cL_next 45 = .ok (.iconst 3, 1) := by decide +kernel
theorem dL_next_46 : decode cL_next 46 = .ok (.if_icmp .ne 13, 3) := by decide +kernel
theorem dL_next_49 : decode cL_next 49 = .ok (.iload 7, 2) := by decide +kernel
theorem dL_next_51 : decode cL_next 51 = .ok (.aload_n 2, 1) := by decide +kernel
theorem dL_next_52 : decode cL_next 52 = .ok (.aload_n 3, 1) := by decide +kernel
theorem dL_next_53 : decode cL_next 53 = .ok (.invokestatic 8, 3) := by decide +kernel
theorem dL_next_56 : decode cL_next 56 = .ok (.ifCond .ne 7, 3) := by decide +kernel
theorem dL_next_59 : decode cL_next 59 = .ok (.iload 7, 2) := by decide +kernel
theorem dL_next_61 : decode cL_next 61 = .ok (.istore 6, 2) := by decide +kernel
theorem dL_next_63 : decode cL_next 63 = .ok (.iinc 7 1, 3) := by decide +kernel
theorem dL_next_66 : decode cL_next 66 = .ok (.goto (-54), 3) := by decide +kernel
theorem dL_next_69 : decode cL_next 69 = .ok (.aload_n 3, 1) := by decide +kernel
theorem dL_next_70 : decode cL_next 70 = .ok (.iload 5, 2) := by decide +kernel
theorem dL_next_72 : decode cL_next 72 = .ok (.iconst 1, 1) := by decide +kernel
theorem dL_next_73 : decode cL_next 73 = .ok (.iadd, 1) := by decide +kernel
theorem dL_next_74 : decode cL_next 74 = .ok (.iaload, 1) := by decide +kernel
theorem dL_next_75 : decode cL_next 75 = .ok (.iconst 1, 1) := by decide +kernel
theorem dL_next_76 : decode cL_next 76 = .ok (.if_icmp .ne 7, 3) := by decide +kernel
theorem dL_next_79 : decode cL_next 79 = .ok (.iconst 1, 1) := by decide +kernel
theorem dL_next_80 : decode cL_next 80 = .ok (.goto 4, 3) := by decide +kernel
theorem dL_next_83 : decode cL_next 83 = .ok (.iconst 0, 1) := by decide +kernel
theorem dL_next_84 : decode cL_next 84 = .ok (.istore 7, 2) := by decide +kernel
theorem dL_next_86 : decode cL_next 86 = .ok (.aload_n 3, 1) := by decide +kernel
theorem dL_next_87 : decode cL_next 87 = .ok (.iload 5, 2) := by decide +kernel
theorem dL_next_89 : decode cL_next 89 = .ok (.iconst 3, 1) := by decide +kernel
theorem dL_next_90 : decode cL_next 90 = .ok (.iadd, 1) := by decide +kernel
theorem dL_next_91 : decode cL_next 91 = .ok (.iaload, 1) := by decide +kernel
theorem dL_next_92 : decode cL_next 92 = .ok (.aload 4, 2) := by decide +kernel
theorem dL_next_94 : decode cL_next 94 = .ok (.iconst 1, 1) := by decide +kernel
theorem dL_next_95 : decode cL_next 95 = .ok (.iaload, 1) := by decide +kernel
theorem dL_next_96 : decode cL_next 96 = .ok (.if_icmp .gt 7, 3) := by decide +kernel
theorem dL_next_99 : decode cL_next 99 = .ok (.iconst 1, 1) := by decide +kernel
theorem dL_next_100 : decode cL_next 100 = .ok (.goto 4, 3) := by decide +kernel
theorem dL_next_103 : decode cL_next 103 = .ok (.iconst 0, 1) := by decide +kernel
theorem dL_next_104 : decode cL_next 104 = .ok (.istore 8, 2) := by decide +kernel
theorem dL_next_106 : decode cL_next 106 = .ok (.iload_n 1, 1) := by decide +kernel
theorem dL_next_107 : decode cL_next 107 = .ok (.iconst 3, 1) := by decide +kernel
theorem dL_next_108 : decode cL_next 108 = .ok (.iload_n 0, 1) := by decide +kernel
theorem dL_next_109 : decode cL_next 109 = .ok (.imul, 1) := by decide +kernel
theorem dL_next_110 : decode cL_next 110 = .ok (.ishr, 1) := by decide +kernel
theorem dL_next_111 : decode cL_next 111 = .ok (.bipush 7, 2) := by decide +kernel
theorem dL_next_113 : decode cL_next 113 = .ok (.iand, 1) := by decide +kernel
theorem dL_next_114 : decode cL_next 114 = .ok (.istore 9, 2) := by decide +kernel
theorem dL_next_116 : decode cL_next 116 = .ok (.iload 9, 2) := by decide +kernel
theorem dL_next_118 : decode cL_next 118 = .ok (.ifCond .ne 14, 3) := by decide +kernel
theorem dL_next_121 : decode cL_next 121 = .ok (.iload 7, 2) := by decide +kernel
theorem dL_next_123 : decode cL_next 123 = .ok (.ifCond .eq 7, 3) := by decide +kernel
theorem dL_next_126 : decode cL_next 126 = .ok (.iconst 1, 1) := by decide +kernel
theorem dL_next_127 : decode cL_next 127 = .ok (.goto 4, 3) := by decide +kernel
theorem dL_next_130 : decode cL_next 130 = .ok (.iconst (-1), 1) := by decide +kernel
theorem dL_next_131 : decode cL_next 131 = .ok (.ireturn, 1) := by decide +kernel
theorem dL_next_132 : decode cL_next 132 = .ok (.iload 9, 2) := by decide +kernel
theorem dL_next_134 : decode cL_next 134 = .ok (.iconst 1, 1) := by decide +kernel
theorem dL_next_135 : decode cL_next 135 = .ok (.if_icmp .ne 46, 3) := by decide +kernel
theorem dL_next_138 : decode cL_next 138 = .ok (.iload 7, 2) := by decide +kernel
theorem dL_next_140 : decode cL_next 140 = .ok (.ifCond .ne 7, 3) := by decide +kernel
theorem dL_next_143 : decode cL_next 143 = .ok (.iconst 0, 1) := by decide +kernel
theorem dL_next_144 : decode cL_next 144 = .ok (.goto 36, 3) := by decide +kernel
theorem dL_next_147 : decode cL_next 147 = .ok (.iload 8, 2) := by decide +kernel
theorem dL_next_149 : decode cL_next 149 = .ok (.ifCond .eq 30, 3) := by decide +kernel
theorem dL_next_152 : decode cL_next 152 = .ok (.iload 6, 2) := by decide +kernel
theorem dL_next_154 : decode cL_next 154 = .ok (.ifCond .ge 25, 3) := by decide +kernel
theorem dL_next_157 : decode cL_next 157 = .ok (.aload_n 3, 1) := by decide +kernel
theorem dL_next_158 : decode cL_next 158 = .ok (.iload 5, 2) := by decide +kernel
theorem dL_next_160 : decode cL_next 160 = .ok (.bipush 6, 2) := by decide +kernel
theorem dL_next_162 : decode cL_next 162 = .ok (.iadd, 1) := by decide +kernel
theorem dL_next_163 : decode cL_next 163 = .ok (.iaload, 1) := by decide +kernel
theorem dL_next_164 : decode cL_next 164 = .ok (.aload_n 2, 1) := by decide +kernel
theorem dL_next_165 : decode cL_next 165 = .ok (.bipush 7, 2) := by decide +kernel
theorem dL_next_167 : decode cL_next 167 = .ok (.iload_n 0, 1) := by decide +kernel
theorem dL_next_168 : decode cL_next 168 = .ok (.imul, 1) := by decide +kernel
theorem dL_next_169 : decode cL_next 169 = .ok (.iconst 4, 1) := by decide +kernel
theorem dL_next_170 : decode cL_next 170 = .ok (.iadd, 1) := by decide +kernel
theorem dL_next_171 : decode cL_next 171 = .ok (.iaload, 1) := by decide +kernel
theorem dL_next_172 : decode cL_next 172 = .ok (.if_icmp .lt 7, 3) := by decide +kernel
theorem dL_next_175 : decode cL_next 175 = .ok (.iconst 2, 1) := by decide +kernel
theorem dL_next_176 : decode cL_next 176 = .ok (.goto 4, 3) := by decide +kernel
theorem dL_next_179 : decode cL_next 179 = .ok (.iconst (-1), 1) := by decide +kernel
theorem dL_next_180 : decode cL_next 180 = .ok (.ireturn, 1) := by decide +kernel
theorem dL_next_181 : decode cL_next 181 = .ok (.iload 9, 2) := by decide +kernel
theorem dL_next_183 : decode cL_next 183 = .ok (.iconst 4, 1) := by decide +kernel
theorem dL_next_184 : decode cL_next 184 = .ok (.if_icmp .ne 23, 3) := by decide +kernel
theorem dL_next_187 : decode cL_next 187 = .ok (.iload 8, 2) := by decide +kernel
theorem dL_next_189 : decode cL_next 189 = .ok (.ifCond .ne 7, 3) := by decide +kernel
theorem dL_next_192 : decode cL_next 192 = .ok (.iconst (-1), 1) := by decide +kernel
theorem dL_next_193 : decode cL_next 193 = .ok (.goto 13, 3) := by decide +kernel
theorem dL_next_196 : decode cL_next 196 = .ok (.iload 7, 2) := by decide +kernel
theorem dL_next_198 : decode cL_next 198 = .ok (.ifCond .eq 7, 3) := by decide +kernel
theorem dL_next_201 : decode cL_next 201 = .ok (.iconst 1, 1) := by decide +kernel
theorem dL_next_202 : decode cL_next 202 = .ok (.goto 4, 3) := by decide +kernel
theorem dL_next_205 : decode cL_next 205 = .ok (.iconst 0, 1) := by decide +kernel
theorem dL_next_206 : decode cL_next 206 = .ok (.ireturn, 1) := by decide +kernel
theorem dL_next_207 : decode cL_next 207 = .ok (.iload 9, 2) := by decide +kernel
theorem dL_next_209 : decode cL_next 209 = .ok (.iconst 5, 1) := by decide +kernel
theorem dL_next_210 : decode cL_next 210 = .ok (.if_icmp .ne 19, 3) := by decide +kernel
theorem dL_next_213 : decode cL_next 213 = .ok (.iload 7, 2) := by decide +kernel
theorem dL_next_215 : decode cL_next 215 = .ok (.ifCond .ne 12, 3) := by decide +kernel
theorem dL_next_218 : decode cL_next 218 = .ok (.iload 8, 2) := by decide +kernel
theorem dL_next_220 : decode cL_next 220 = .ok (.ifCond .eq 7, 3) := by decide +kernel
theorem dL_next_223 : decode cL_next 223 = .ok (.iconst 0, 1) := by decide +kernel
theorem dL_next_224 : decode cL_next 224 = .ok (.goto 4, 3) := by decide +kernel
theorem dL_next_227 : decode cL_next 227 = .ok (.iconst (-1), 1) := by decide +kernel
theorem dL_next_228 : decode cL_next 228 = .ok (.ireturn, 1) := by decide +kernel
theorem dL_next_229 : decode cL_next 229 = .ok (.iload 9, 2) := by decide +kernel
theorem dL_next_231 : decode cL_next 231 = .ok (.iconst 2, 1) := by decide +kernel
theorem dL_next_232 : decode cL_next 232 = .ok (.if_icmp .ne 11, 3) := by decide +kernel
theorem dL_next_235 : decode cL_next 235 = .ok (.iload 7, 2) := by decide +kernel
theorem dL_next_237 : decode cL_next 237 = .ok (.ifCond .ne 6, 3) := by decide +kernel
theorem dL_next_240 : decode cL_next 240 = .ok (.bipush 24, 2) := by decide +kernel
theorem dL_next_242 : decode cL_next 242 = .ok (.ireturn, 1) := by decide +kernel
theorem dL_next_243 : decode cL_next 243 = .ok (.iload 6, 2) := by decide +kernel
theorem dL_next_245 : decode cL_next 245 = .ok (.ifCond .lt 13, 3) := by decide +kernel
theorem dL_next_248 : decode cL_next 248 = .ok (.iconst 4, 1) := by decide +kernel
theorem dL_next_249 : decode cL_next 249 = .ok (.bipush 20, 2) := by decide +kernel
theorem dL_next_251 : decode cL_next 251 = .ok (.iload 6, 2) := by decide +kernel
theorem dL_next_253 : decode cL_next 253 = .ok (.iconst 2, 1) := by decide +kernel
theorem dL_next_254 : decode cL_next 254 = .ok (.iadd, 1) := by decide +kernel
theorem dL_next_255 : decode cL_next 255 = .ok (.imul, 1) := by decide +kernel
theorem dL_next_256 : decode cL_next 256 = .ok (.iadd, 1) := by decide +kernel
theorem dL_next_257 : decode cL_next 257 = .ok (.ireturn, 1) := by decide +kernel
theorem dL_next_258 : decode cL_next 258 = .ok (.iload 9, 2) := by decide +kernel
theorem dL_next_260 : decode cL_next 260 = .ok (.iconst 2, 1) := by decide +kernel
theorem dL_next_261 : decode cL_next 261 = .ok (.if_icmp .ne 51, 3) := by decide +kernel
theorem dL_next_264 : decode cL_next 264 = .ok (.iload_n 0, 1) := by decide +kernel
theorem dL_next_265 : decode cL_next 265 = .ok (.aload_n 2, 1) := by decide +kernel
theorem dL_next_266 : decode cL_next 266 = .ok (.aload_n 3, 1) := by decide +kernel
theorem dL_next_267 : decode cL_next 267 = .ok (.invokestatic 8, 3) := by decide +kernel
theorem dL_next_270 : decode cL_next 270 = .ok (.ifCond .eq 8, 3) := by decide +kernel
theorem dL_next_273 : decode cL_next 273 = .ok (.bipush 23, 2) := by decide +kernel
theorem dL_next_275 : decode cL_next 275 = .ok (.goto 36, 3) := by decide +kernel
theorem dL_next_278 : decode cL_next 278 = .ok (.aload_n 3, 1) := by decide +kernel
theorem dL_next_279 : decode cL_next 279 = .ok (.iload 5, 2) := by decide +kernel
theorem dL_next_281 : decode cL_next 281 = .ok (.bipush 6, 2) := by decide +kernel
theorem dL_next_283 : decode cL_next 283 = .ok (.iadd, 1) := by decide +kernel
theorem dL_next_284 : decode cL_next 284 = .ok (.iaload, 1) := by decide +kernel
theorem dL_next_285 : decode cL_next 285 = .ok (.iconst 1, 1) := by decide +kernel
theorem dL_next_286 : decode cL_next 286 = .ok (.iadd, 1) := by decide +kernel
theorem dL_next_287 : decode cL_next 287 = .ok (.aload_n 2, 1) := by decide +kernel
theorem dL_next_288 : decode cL_next 288 = .ok (.bipush 7, 2) := by decide +kernel
theorem dL_next_290 : decode cL_next 290 = .ok (.iload_n 0, 1) := by decide +kernel
theorem dL_next_291 : decode cL_next 291 = .ok (.imul, 1) := by decide +kernel
theorem dL_next_292 : decode cL_next 292 = .ok (.iconst 5, 1) := by decide +kernel
theorem dL_next_293 : decode cL_next 293 = .ok (.iadd, 1) := by decide +kernel
theorem dL_next_294 : decode cL_next 294 = .ok (.iaload, 1) := by decide +kernel
theorem dL_next_295 : decode cL_next 295 = .ok (.if_icmp .lt 15, 3) := by decide +kernel
theorem dL_next_298 : decode cL_next 298 = .ok (.bipush 6, 2) := by decide +kernel
theorem dL_next_300 : decode cL_next 300 = .ok (.bipush 20, 2) := by decide +kernel
theorem dL_next_302 : decode cL_next 302 = .ok (.iload_n 0, 1) := by decide +kernel
theorem dL_next_303 : decode cL_next 303 = .ok (.iconst 2, 1) := by decide +kernel
theorem dL_next_304 : decode cL_next 304 = .ok (.iadd, 1) := by decide +kernel
theorem dL_next_305 : decode cL_next 305 = .ok (.imul, 1) := by decide +kernel
theorem dL_next_306 : decode cL_next 306 = .ok (.iadd, 1) := by decide +kernel
theorem dL_next_307 : decode cL_next 307 = .ok (.goto 4, 3) := by decide +kernel
theorem dL_next_310 : decode cL_next 310 = .ok (.iconst (-1), 1) := by decide +kernel
theorem dL_next_311 : decode cL_next 311 = .ok (.ireturn, 1) := by decide +kernel
theorem dL_next_312 : decode cL_next 312 = .ok (.iload_n 0, 1) := by decide +kernel
theorem dL_next_313 : decode cL_next 313 = .ok (.aload_n 2, 1) := by decide +kernel
theorem dL_next_314 : decode cL_next 314 = .ok (.aload_n 3, 1) := by decide +kernel
theorem dL_next_315 : decode cL_next 315 = .ok (.invokestatic 8, 3) := by decide +kernel
theorem dL_next_318 : decode cL_next 318 = .ok (.ifCond .ne 13, 3) := by decide +kernel
theorem dL_next_321 : decode cL_next 321 = .ok (.bipush 6, 2) := by decide +kernel
theorem dL_next_323 : decode cL_next 323 = .ok (.bipush 20, 2) := by decide +kernel
theorem dL_next_325 : decode cL_next 325 = .ok (.iload_n 0, 1) := by decide +kernel
theorem dL_next_326 : decode cL_next 326 = .ok (.iconst 2, 1) := by decide +kernel
theorem dL_next_327 : decode cL_next 327 = .ok (.iadd, 1) := by decide +kernel
theorem dL_next_328 : decode cL_next 328 = .ok (.imul, 1) := by decide +kernel
theorem dL_next_329 : decode cL_next 329 = .ok (.iadd, 1) := by decide +kernel
theorem dL_next_330 : decode cL_next 330 = .ok (.ireturn, 1) := by decide +kernel
theorem dL_next_331 : decode cL_next 331 = .ok (.iload 7, 2) := by decide +kernel
theorem dL_next_333 : decode cL_next 333 = .ok (.ifCond .eq 5, 3) := by decide +kernel
theorem dL_next_336 : decode cL_next 336 = .ok (.iconst (-1), 1) := by decide +kernel
theorem dL_next_337 : decode cL_next 337 = .ok (.ireturn, 1) := by decide +kernel
theorem dL_next_338 : decode cL_next 338 = .ok (.iload_n 0, 1) := by decide +kernel
theorem dL_next_339 : decode cL_next 339 = .ok (.iconst 1, 1) := by decide +kernel
theorem dL_next_340 : decode cL_next 340 = .ok (.iadd, 1) := by decide +kernel
theorem dL_next_341 : decode cL_next 341 = .ok (.istore 10, 2) := by decide +kernel
theorem dL_next_343 : decode cL_next 343 = .ok (.iload 10, 2) := by decide +kernel
theorem dL_next_345 : decode cL_next 345 = .ok (.aload 4, 2) := by decide +kernel
theorem dL_next_347 : decode cL_next 347 = .ok (.iconst 0, 1) := by decide +kernel
theorem dL_next_348 : decode cL_next 348 = .ok (.iaload, 1) := by decide +kernel
theorem dL_next_349 : decode cL_next 349 = .ok (.if_icmp .ge 67, 3) := by decide +kernel
theorem dL_next_352 : decode cL_next 352 = .ok (.aload_n 3, 1) := by decide +kernel
theorem dL_next_353 : decode cL_next 353 = .ok (.bipush 9, 2) := by decide +kernel
theorem dL_next_355 : decode cL_next 355 = .ok (.iload 10, 2) := by decide +kernel
theorem dL_next_357 : decode cL_next 357 = .ok (.imul, 1) := by decide +kernel
theorem dL_next_358 : decode cL_next 358 = .ok (.iaload, 1) := by decide +kernel
theorem dL_next_359 : decode cL_next 359 = .ok (.iload_n 0, 1) := by decide +kernel
theorem dL_next_360 : decode cL_next 360 = .ok (.ishr, 1) := by decide +kernel
theorem dL_next_361 : decode cL_next 361 = .ok (.iconst 1, 1) := by decide +kernel
theorem dL_next_362 : decode cL_next 362 = .ok (.iand, 1) := by decide +kernel
theorem dL_next_363 : decode cL_next 363 = .ok (.iconst 1, 1) := by decide +kernel
theorem dL_next_364 : decode cL_next 364 = .ok (.if_icmp .ne 46, 3) := by decide +kernel
theorem dL_next_367 : decode cL_next 367 = .ok (.aload_n 3, 1) := by decide +kernel
theorem dL_next_368 : decode cL_next 368 = .ok (.bipush 9, 2) := by decide +kernel
theorem dL_next_370 : decode cL_next 370 = .ok (.iload 10, 2) := by decide +kernel
theorem dL_next_372 : decode cL_next 372 = .ok (.imul, 1) := by decide +kernel
theorem dL_next_373 : decode cL_next 373 = .ok (.iconst 3, 1) := by decide +kernel
theorem dL_next_374 : decode cL_next 374 = .ok (.iadd, 1) := by decide +kernel
theorem dL_next_375 : decode cL_next 375 = .ok (.iaload, 1) := by decide +kernel
theorem dL_next_376 : decode cL_next 376 = .ok (.aload 4, 2) := by decide +kernel
theorem dL_next_378 : decode cL_next 378 = .ok (.iconst 1, 1) := by decide +kernel
theorem dL_next_379 : decode cL_next 379 = .ok (.iaload, 1) := by decide +kernel
theorem dL_next_380 : decode cL_next 380 = .ok (.if_icmp .gt 28, 3) := by decide +kernel
theorem dL_next_383 : decode cL_next 383 = .ok (.iload_n 1, 1) := by decide +kernel
theorem dL_next_384 : decode cL_next 384 = .ok (.iconst 3, 1) := by decide +kernel
theorem dL_next_385 : decode cL_next 385 = .ok (.iload 10, 2) := by decide +kernel
theorem dL_next_387 : decode cL_next 387 = .ok (.imul, 1) := by decide +kernel
theorem dL_next_388 : decode cL_next 388 = .ok (.ishr, 1) := by decide +kernel
theorem dL_next_389 : decode cL_next 389 = .ok (.bipush 7, 2) := by decide +kernel
theorem dL_next_391 : decode cL_next 391 = .ok (.iand, 1) := by decide +kernel
theorem dL_next_392 : decode cL_next 392 = .ok (.ifCond .eq 18, 3) := by decide +kernel
theorem dL_next_395 : decode cL_next 395 = .ok (.iload_n 1, 1) := by decide +kernel
theorem dL_next_396 : decode cL_next 396 = .ok (.iconst 3, 1) := by decide +kernel
theorem dL_next_397 : decode cL_next 397 = .ok (.iload 10, 2) := by decide +kernel
theorem dL_next_399 : decode cL_next 399 = .ok (.imul, 1) := by decide +kernel
theorem dL_next_400 : decode cL_next 400 = .ok (.ishr, 1) := by decide +kernel
theorem dL_next_401 : decode cL_next 401 = .ok (.bipush 7, 2) := by decide +kernel
theorem dL_next_403 : decode cL_next 403 = .ok (.iand, 1) := by decide +kernel
theorem dL_next_404 : decode cL_next 404 = .ok (.iconst 5, 1) := by decide +kernel
theorem dL_next_405 : decode cL_next 405 = .ok (.if_icmp .eq 5, 3) := by decide +kernel
theorem dL_next_408 : decode cL_next 408 = .ok (.iconst (-1), 1) := by decide +kernel
theorem dL_next_409 : decode cL_next 409 = .ok (.ireturn, 1) := by decide +kernel
theorem dL_next_410 : decode cL_next 410 = .ok (.iinc 10 1, 3) := by decide +kernel
theorem dL_next_413 : decode cL_next 413 = .ok (.goto (-70), 3) := by decide +kernel
theorem dL_next_416 : decode cL_next 416 = .ok (.bipush 24, 2) := by decide +kernel
theorem dL_next_418 : decode cL_next 418 = .ok (.ireturn, 1) := by decide +kernel
theorem dL_tick_0 : decode cL_tick 0 = .ok (.iconst 0, 1) := by decide +kernel
theorem dL_tick_1 : decode cL_tick 1 = .ok (.istore 5, 2) := by decide +kernel
theorem dL_tick_3 : decode cL_tick 3 = .ok (.iconst 0, 1) := by decide +kernel
theorem dL_tick_4 : decode cL_tick 4 = .ok (.istore 6, 2) := by decide +kernel
theorem dL_tick_6 : decode cL_tick 6 = .ok (.iload 6, 2) := by decide +kernel
theorem dL_tick_8 : decode cL_tick 8 = .ok (.aload 4, 2) := by decide +kernel
theorem dL_tick_10 : decode cL_tick 10 = .ok (.iconst 0, 1) := by decide +kernel
theorem dL_tick_11 : decode cL_tick 11 = .ok (.iaload, 1) := by decide +kernel
theorem dL_tick_12 : decode cL_tick 12 = .ok (.if_icmp .ge 172, 3) := by decide +kernel
theorem dL_tick_15 : decode cL_tick 15 = .ok (.bipush 9, 2) := by decide +kernel
theorem dL_tick_17 : decode cL_tick 17 = .ok (.iload 6, 2) := by decide +kernel
theorem dL_tick_19 : decode cL_tick 19 = .ok (.imul, 1) := by decide +kernel
theorem dL_tick_20 : decode cL_tick 20 = .ok (.istore 7, 2) := by decide +kernel
theorem dL_tick_22 : decode cL_tick 22 = .ok (.aload_n 1, 1) := by decide +kernel
theorem dL_tick_23 : decode cL_tick 23 = .ok (.iload 7, 2) := by decide +kernel
theorem dL_tick_25 : decode cL_tick 25 = .ok (.iconst 2, 1) := by decide +kernel
theorem dL_tick_26 : decode cL_tick 26 = .ok (.iadd, 1) := by decide +kernel
theorem dL_tick_27 : decode cL_tick 27 = .ok (.iaload, 1) := by decide +kernel
theorem dL_tick_28 : decode cL_tick 28 = .ok (.iconst 2, 1) := by decide +kernel
theorem dL_tick_29 : decode cL_tick 29 = .ok (.if_icmp .eq 13, 3) := by decide +kernel
theorem dL_tick_32 : decode cL_tick 32 = .ok (.aload_n 1, 1) := by decide +kernel
theorem dL_tick_33 : decode cL_tick 33 = .ok (.iload 7, 2) := by decide +kernel
theorem dL_tick_35 : decode cL_tick 35 = .ok (.iconst 2, 1) := by decide +kernel
theorem dL_tick_36 : decode cL_tick 36 = .ok (.iadd, 1) := by decide +kernel
theorem dL_tick_37 : decode cL_tick 37 = .ok (.iaload, 1) := by decide +kernel
theorem dL_tick_38 : decode cL_tick 38 = .ok (.iconst 3, 1) := by decide +kernel
theorem dL_tick_39 : decode cL_tick 39 = .ok (.if_icmp .ne 16, 3) := by decide +kernel
theorem dL_tick_42 : decode cL_tick 42 = .ok (.aload_n 1, 1) := by decide +kernel
theorem dL_tick_43 : decode cL_tick 43 = .ok (.iload 7, 2) := by decide +kernel
theorem dL_tick_45 : decode cL_tick 45 = .ok (.iconst 5, 1) := by decide +kernel
theorem dL_tick_46 : decode cL_tick 46 = .ok (.iadd, 1) := by decide +kernel
theorem dL_tick_47 : decode cL_tick 47 = .ok (.iaload, 1) := by decide +kernel
theorem dL_tick_48 : decode cL_tick 48 = .ok (.ifCond .ne 7, 3) := by decide +kernel
theorem dL_tick_51 : decode cL_tick 51 = .ok (.iconst 1, 1) := by decide +kernel
theorem dL_tick_52 : decode cL_tick 52 = .ok (.goto 4, 3) := by decide +kernel
theorem dL_tick_55 : decode cL_tick 55 = .ok (.iconst 0, 1) := by decide +kernel
theorem dL_tick_56 : decode cL_tick 56 = .ok (.istore 8, 2) := by decide +kernel
theorem dL_tick_58 : decode cL_tick 58 = .ok (.iload 8, 2) := by decide +kernel
theorem dL_tick_60 : decode cL_tick 60 = .ok (.ifCond .eq 13, 3) := by decide +kernel
theorem dL_tick_63 : decode cL_tick 63 = .ok (.aload_n 0, 1) := by decide +kernel
theorem dL_tick_64 : decode cL_tick 64 = .ok (.bipush 7, 2) := by decide +kernel
theorem dL_tick_66 : decode cL_tick 66 = .ok (.iload 6, 2) := by decide +kernel
theorem dL_tick_68 : decode cL_tick 68 = .ok (.imul, 1) := by decide +kernel
theorem dL_tick_69 : decode cL_tick 69 = .ok (.iaload, 1) := by decide +kernel
theorem dL_tick_70 : decode cL_tick 70 = .ok (.goto 4, 3) := by decide +kernel
theorem dL_tick_73 : decode cL_tick 73 = .ok (.iconst 0, 1) := by decide +kernel
theorem dL_tick_74 : decode cL_tick 74 = .ok (.istore 9, 2) := by decide +kernel
theorem dL_tick_76 : decode cL_tick 76 = .ok (.iload 8, 2) := by decide +kernel
theorem dL_tick_78 : decode cL_tick 78 = .ok (.ifCond .eq 15, 3) := by decide +kernel
theorem dL_tick_81 : decode cL_tick 81 = .ok (.aload_n 0, 1) := by decide +kernel
theorem dL_tick_82 : decode cL_tick 82 = .ok (.bipush 7, 2) := by decide +kernel
theorem dL_tick_84 : decode cL_tick 84 = .ok (.iload 6, 2) := by decide +kernel
theorem dL_tick_86 : decode cL_tick 86 = .ok (.imul, 1) := by decide +kernel
theorem dL_tick_87 : decode cL_tick 87 = .ok (.iconst 1, 1) := by decide +kernel
theorem dL_tick_88 : decode cL_tick 88 = .ok (.iadd, 1) := by decide +kernel
theorem dL_tick_89 : decode cL_tick 89 = .ok (.iaload, 1) := by decide +kernel
theorem dL_tick_90 : decode cL_tick 90 = .ok (.goto 12, 3) := by decide +kernel
theorem dL_tick_93 : decode cL_tick 93 = .ok (.aload_n 0, 1) := by decide +kernel
theorem dL_tick_94 : decode cL_tick 94 = .ok (.bipush 7, 2) := by decide +kernel
theorem dL_tick_96 : decode cL_tick 96 = .ok (.iload 6, 2) := by decide +kernel
theorem dL_tick_98 : decode cL_tick 98 = .ok (.imul, 1) := by decide +kernel
theorem dL_tick_99 : decode cL_tick 99 = .ok (.iconst 2, 1) := by decide +kernel
theorem dL_tick_100 : decode cL_tick 100 = .ok (.iadd, 1) := by decide +kernel
theorem dL_tick_101 : decode cL_tick 101 = .ok (.iaload, 1) := by decide +kernel
theorem dL_tick_102 : decode cL_tick 102 = .ok (.istore 10, 2) := by decide +kernel
theorem dL_tick_104 : decode cL_tick 104 = .ok (.iload 9, 2) := by decide +kernel
theorem dL_tick_106 : decode cL_tick 106 = .ok (.aload_n 1, 1) := by decide +kernel
theorem dL_tick_107 : decode cL_tick 107 = .ok (.iload 7, 2) := by decide +kernel
theorem dL_tick_109 : decode cL_tick 109 = .ok (.iconst 3, 1) := by decide +kernel
theorem dL_tick_110 : decode cL_tick 110 = .ok (.iadd, 1) := by decide +kernel
theorem dL_tick_111 : decode cL_tick 111 = .ok (.iaload, 1) := by decide +kernel
theorem dL_tick_112 : decode cL_tick 112 = .ok (.isub, 1) := by decide +kernel
theorem dL_tick_113 : decode cL_tick 113 = .ok (.istore 11, 2) := by decide +kernel
theorem dL_tick_115 : decode cL_tick 115 = .ok (.aload_n 1, 1) := by decide +kernel
theorem dL_tick_116 : decode cL_tick 116 = .ok (.iload 7, 2) := by decide +kernel
theorem dL_tick_118 : decode cL_tick 118 = .ok (.iconst 3, 1) := by decide +kernel
theorem dL_tick_119 : decode cL_tick 119 = .ok (.iadd, 1) := by decide +kernel
theorem dL_tick_120 : decode cL_tick 120 = .ok (.iload 11, 2) := by decide +kernel
theorem dL_tick_122 : decode cL_tick 122 = .ok (.iload 10, 2) := by decide +kernel
theorem dL_tick_124 : decode cL_tick 124 = .ok (.if_icmp .le 15, 3) := by decide +kernel
theorem dL_tick_127 : decode cL_tick 127 = .ok (.aload_n 1, 1) := by decide +kernel
theorem dL_tick_128 : decode cL_tick 128 = .ok (.iload 7, 2) := by decide +kernel
theorem dL_tick_130 : decode cL_tick 130 = .ok (.iconst 3, 1) := by decide +kernel
theorem dL_tick_131 : decode cL_tick 131 = .ok (.iadd, 1) := by decide +kernel
theorem dL_tick_132 : decode cL_tick 132 = .ok (.iaload, 1) := by decide +kernel
theorem dL_tick_133 : decode cL_tick 133 = .ok (.iload 10, 2) := by decide +kernel
theorem dL_tick_135 : decode cL_tick 135 = .ok (.iadd, 1) := by decide +kernel
theorem dL_tick_136 : decode cL_tick 136 = .ok (.goto 25, 3) := by decide +kernel
theorem dL_tick_139 : decode cL_tick 139 = .ok (.iload 11, 2) := by decide +kernel
theorem dL_tick_141 : decode cL_tick 141 = .ok (.iload 10, 2) := by decide +kernel
theorem dL_tick_143 : decode cL_tick 143 = .ok (.ineg, 1) := by decide +kernel
theorem dL_tick_144 : decode cL_tick 144 = .ok (.if_icmp .ge 15, 3) := by decide +kernel
theorem dL_tick_147 : decode cL_tick 147 = .ok (.aload_n 1, 1) := by decide +kernel
theorem dL_tick_148 : decode cL_tick 148 = .ok (.iload 7, 2) := by decide +kernel
theorem dL_tick_150 : decode cL_tick 150 = .ok (.iconst 3, 1) := by decide +kernel
theorem dL_tick_151 : decode cL_tick 151 = .ok (.iadd, 1) := by decide +kernel
theorem dL_tick_152 : decode cL_tick 152 = .ok (.iaload, 1) := by decide +kernel
theorem dL_tick_153 : decode cL_tick 153 = .ok (.iload 10, 2) := by decide +kernel
theorem dL_tick_155 : decode cL_tick 155 = .ok (.isub, 1) := by decide +kernel
theorem dL_tick_156 : decode cL_tick 156 = .ok (.goto 5, 3) := by decide +kernel
theorem dL_tick_159 : decode cL_tick 159 = .ok (.iload 9, 2) := by decide +kernel
theorem dL_tick_161 : decode cL_tick 161 = .ok (.iastore, 1) := by decide +kernel
theorem dL_tick_162 : decode cL_tick 162 = .ok (.iload 5, 2) := by decide +kernel
theorem dL_tick_164 : decode cL_tick 164 = .ok (.aload_n 1, 1) := by decide +kernel
theorem dL_tick_165 : decode cL_tick 165 = .ok (.iload 7, 2) := by decide +kernel
theorem dL_tick_167 : decode cL_tick 167 = .ok (.iconst 2, 1) := by decide +kernel
theorem dL_tick_168 : decode cL_tick 168 = .ok (.iadd, 1) := by decide +kernel
theorem dL_tick_169 : decode cL_tick 169 = .ok (.iaload, 1) := by decide +kernel
theorem dL_tick_170 : decode cL_tick 170 = .ok (.iconst 3, 1) := by decide +kernel
theorem dL_tick_171 : decode cL_tick 171 = .ok (.iload 6, 2) := by decide +kernel
theorem dL_tick_173 : decode cL_tick 173 = .ok (.imul, 1) := by decide +kernel
theorem dL_tick_174 : decode cL_tick 174 = .ok (.ishl, 1) := by decide +kernel
theorem dL_tick_175 : decode cL_tick 175 = .ok (.ior, 1) := by decide +kernel
theorem dL_tick_176 : decode cL_tick 176 = .ok (.istore 5, 2) := by decide +kernel
theorem dL_tick_178 : decode cL_tick 178 = .ok (.iinc 6 1, 3) := by decide +kernel
theorem dL_tick_181 : decode cL_tick 181 = .ok (.goto (-175), 3) := by decide +kernel
theorem dL_tick_184 : decode cL_tick 184 = .ok (.iconst 0, 1) := by decide +kernel
theorem dL_tick_185 : decode cL_tick 185 = .ok (.istore 6, 2) := by decide +kernel
theorem dL_tick_187 : decode cL_tick 187 = .ok (.iload 6, 2) := by decide +kernel
theorem dL_tick_189 : decode cL_tick 189 = .ok (.aload 4, 2) := by decide +kernel
theorem dL_tick_191 : decode cL_tick 191 = .ok (.iconst 0, 1) := by decide +kernel
theorem dL_tick_192 : decode cL_tick 192 = .ok (.iaload, 1) := by decide +kernel
theorem dL_tick_193 : decode cL_tick 193 = .ok (.if_icmp .ge 344, 3) := by decide +kernel
theorem dL_tick_196 : decode cL_tick 196 = .ok (.bipush 9, 2) := by decide +kernel
theorem dL_tick_198 : decode cL_tick 198 = .ok (.iload 6, 2) := by decide +kernel
theorem dL_tick_200 : decode cL_tick 200 = .ok (.imul, 1) := by decide +kernel
theorem dL_tick_201 : decode cL_tick 201 = .ok (.istore 7, 2) := by decide +kernel
theorem dL_tick_203 : decode cL_tick 203 = .ok (.aload_n 1, 1) := by decide +kernel
theorem dL_tick_204 : decode cL_tick 204 = .ok (.iload 7, 2) := by decide +kernel
theorem dL_tick_206 : decode cL_tick 206 = .ok (.iconst 2, 1) := by decide +kernel
theorem dL_tick_207 : decode cL_tick 207 = .ok (.iadd, 1) := by decide +kernel
theorem dL_tick_208 : decode cL_tick 208 = .ok (.iaload, 1) := by decide +kernel
theorem dL_tick_209 : decode cL_tick 209 = .ok (.istore 8, 2) := by decide +kernel
theorem dL_tick_211 : decode cL_tick 211 = .ok (.iload 6, 2) := by decide +kernel
theorem dL_tick_213 : decode cL_tick 213 = .ok (.iload 5, 2) := by decide +kernel
theorem dL_tick_215 : decode cL_tick 215 = .ok (.aload_n 0, 1) := by decide +kernel
theorem dL_tick_216 : decode cL_tick 216 = .ok (.aload_n 1, 1) := by decide +kernel
theorem dL_tick_217 : decode cL_tick 217 = .ok (.aload 4, 2) := by decide +kernel
theorem dL_tick_219 : decode cL_tick 219 = .ok (.invokestatic 14, 3) := by decide +kernel
theorem dL_tick_222 : decode cL_tick 222 = .ok (.istore 9, 2) := by decide +kernel
theorem dL_tick_224 : decode cL_tick 224 = .ok (.iload 8, 2) := by decide +kernel
theorem dL_tick_226 : decode cL_tick 226 = .ok (.iconst 1, 1) := by decide +kernel
theorem dL_tick_227 : decode cL_tick 227 = .ok (.if_icmp .ne 117, 3) := by decide +kernel
theorem dL_tick_230 : decode cL_tick 230 = .ok (.iload 9, 2) := by decide +kernel
theorem dL_tick_232 : decode cL_tick 232 = .ok (.ifCond .ge 112, 3) := by decide +kernel
theorem dL_tick_235 : decode cL_tick 235 = .ok (.aload_n 1, 1) := by decide +kernel
theorem dL_tick_236 : decode cL_tick 236 = .ok (.iload 7, 2) := by decide +kernel
theorem dL_tick_238 : decode cL_tick 238 = .ok (.iconst 3, 1) := by decide +kernel
theorem dL_tick_239 : decode cL_tick 239 = .ok (.iadd, 1) := by decide +kernel
theorem dL_tick_240 : decode cL_tick 240 = .ok (.iaload, 1) := by decide +kernel
theorem dL_tick_241 : decode cL_tick 241 = .ok (.aload 4, 2) := by decide +kernel
theorem dL_tick_243 : decode cL_tick 243 = .ok (.iconst 1, 1) := by decide +kernel
theorem dL_tick_244 : decode cL_tick 244 = .ok (.iaload, 1) := by decide +kernel
theorem dL_tick_245 : decode cL_tick 245 = .ok (.if_icmp .gt 7, 3) := by decide +kernel
theorem dL_tick_248 : decode cL_tick 248 = .ok (.iconst 1, 1) := by decide +kernel
theorem dL_tick_249 : decode cL_tick 249 = .ok (.goto 4, 3) := by decide +kernel
theorem dL_tick_252 : decode cL_tick 252 = .ok (.iconst 0, 1) := by decide +kernel
theorem dL_tick_253 : decode cL_tick 253 = .ok (.istore 10, 2) := by decide +kernel
theorem dL_tick_255 : decode cL_tick 255 = .ok (.iconst 0, 1) := by decide +kernel
theorem dL_tick_256 : decode cL_tick 256 = .ok (.istore 11, 2) := by decide +kernel
theorem dL_tick_258 : decode cL_tick 258 = .ok (.iload 11, 2) := by decide +kernel
theorem dL_tick_260 : decode cL_tick 260 = .ok (.iload 6, 2) := by decide +kernel
theorem dL_tick_262 : decode cL_tick 262 = .ok (.if_icmp .ge 57, 3) := by decide +kernel
theorem dL_tick_265 : decode cL_tick 265 = .ok (.iload 10, 2) := by decide +kernel
theorem dL_tick_267 : decode cL_tick 267 = .ok (.ifCond .eq 43, 3) := by decide +kernel
theorem dL_tick_270 : decode cL_tick 270 = .ok (.aload_n 1, 1) := by decide +kernel
theorem dL_tick_271 : decode cL_tick 271 = .ok (.iload 7, 2) := by decide +kernel
theorem dL_tick_273 : decode cL_tick 273 = .ok (.iaload, 1) := by decide +kernel
theorem dL_tick_274 : decode cL_tick 274 = .ok (.iload 11, 2) := by decide +kernel
theorem dL_tick_276 : decode cL_tick 276 = .ok (.ishr, 1) := by decide +kernel
theorem dL_tick_277 : decode cL_tick 277 = .ok (.iconst 1, 1) := by decide +kernel
theorem dL_tick_278 : decode cL_tick 278 = .ok (.iand, 1) := by decide +kernel
theorem dL_tick_279 : decode cL_tick 279 = .ok (.ifCond .eq 27, 3) := by decide +kernel
theorem dL_tick_282 : decode cL_tick 282 = .ok (.iload 5, 2) := by decide +kernel
theorem dL_tick_284 : decode cL_tick 284 = .ok (.iconst 3, 1) := by decide +kernel
theorem dL_tick_285 : decode cL_tick 285 = .ok (.iload 11, 2) := by decide +kernel
theorem dL_tick_287 : decode cL_tick 287 = .ok (.imul, 1) := by decide +kernel
theorem dL_tick_288 : decode cL_tick 288 = .ok (.ishr, 1) := by decide +kernel
theorem dL_tick_289 : decode cL_tick 289 = .ok (.bipush 7, 2) := by decide +kernel
theorem dL_tick_291 : decode cL_tick 291 = .ok (.iand, 1) := by decide +kernel
theorem dL_tick_292 : decode cL_tick 292 = .ok (.iconst 3, 1) := by decide +kernel
theorem dL_tick_293 : decode cL_tick 293 = .ok (.if_icmp .ne 17, 3) := by decide +kernel
theorem dL_tick_296 : decode cL_tick 296 = .ok (.iload 11, 2) := by decide +kernel
theorem dL_tick_298 : decode cL_tick 298 = .ok (.aload_n 0, 1) := by decide +kernel
theorem dL_tick_299 : decode cL_tick 299 = .ok (.aload_n 1, 1) := by decide +kernel
theorem dL_tick_300 : decode cL_tick 300 = .ok (.invokestatic 8, 3) := by decide +kernel
theorem dL_tick_303 : decode cL_tick 303 = .ok (.ifCond .eq 7, 3) := by decide +kernel
theorem dL_tick_306 : decode cL_tick 306 = .ok (.iconst 1, 1) := by decide +kernel
theorem dL_tick_307 : decode cL_tick 307 = .ok (.goto 4, 3) := by decide +kernel
theorem dL_tick_310 : decode cL_tick 310 = .ok (.iconst 0, 1) := by decide +kernel
theorem dL_tick_311 : decode cL_tick 311 = .ok (.istore 10, 2) := by decide +kernel
theorem dL_tick_313 : decode cL_tick 313 = .ok (.iinc 11 1, 3) := by decide +kernel
theorem dL_tick_316 : decode cL_tick 316 = .ok (.goto (-58), 3) := by decide +kernel
theorem dL_tick_319 : decode cL_tick 319 = .ok (.aload_n 1, 1) := by decide +kernel
theorem dL_tick_320 : decode cL_tick 320 = .ok (.iload 7, 2) := by decide +kernel
theorem dL_tick_322 : decode cL_tick 322 = .ok (.bipush 6, 2) := by decide +kernel
theorem dL_tick_324 : decode cL_tick 324 = .ok (.iadd, 1) := by decide +kernel
theorem dL_tick_325 : decode cL_tick 325 = .ok (.iload 10, 2) := by decide +kernel
theorem dL_tick_327 : decode cL_tick 327 = .ok (.ifCond .eq 15, 3) := by decide +kernel
theorem dL_tick_330 : decode cL_tick 330 = .ok (.aload_n 1, 1) := by decide +kernel
theorem dL_tick_331 : decode cL_tick 331 = .ok (.iload 7, 2) := by decide +kernel
theorem dL_tick_333 : decode cL_tick 333 = .ok (.bipush 6, 2) := by decide +kernel
theorem dL_tick_335 : decode cL_tick 335 = .ok (.iadd, 1) := by decide +kernel
theorem dL_tick_336 : decode cL_tick 336 = .ok (.iaload, 1) := by decide +kernel
theorem dL_tick_337 : decode cL_tick 337 = .ok (.iconst 1, 1) := by decide +kernel
theorem dL_tick_338 : decode cL_tick 338 = .ok (.iadd, 1) := by decide +kernel
theorem dL_tick_339 : decode cL_tick 339 = .ok (.goto 4, 3) := by decide +kernel
theorem dL_tick_342 : decode cL_tick 342 = .ok (.iconst 0, 1) := by decide +kernel
theorem dL_tick_343 : decode cL_tick 343 = .ok (.iastore, 1) := by decide +kernel
theorem dL_tick_344 : decode cL_tick 344 = .ok (.iload 9, 2) := by decide +kernel
theorem dL_tick_346 : decode cL_tick 346 = .ok (.ifCond .lt 17, 3) := by decide +kernel
theorem dL_tick_349 : decode cL_tick 349 = .ok (.iload 9, 2) := by decide +kernel
theorem dL_tick_351 : decode cL_tick 351 = .ok (.bipush 20, 2) := by decide +kernel
theorem dL_tick_353 : decode cL_tick 353 = .ok (.irem, 1) := by decide +kernel
theorem dL_tick_354 : decode cL_tick 354 = .ok (.bipush 6, 2) := by decide +kernel
theorem dL_tick_356 : decode cL_tick 356 = .ok (.if_icmp .ne 7, 3) := by decide +kernel
theorem dL_tick_359 : decode cL_tick 359 = .ok (.iconst 1, 1) := by decide +kernel
theorem dL_tick_360 : decode cL_tick 360 = .ok (.goto 4, 3) := by decide +kernel
theorem dL_tick_363 : decode cL_tick 363 = .ok (.iconst 0, 1) := by decide +kernel
theorem dL_tick_364 : decode cL_tick 364 = .ok (.istore 10, 2) := by decide +kernel
theorem dL_tick_366 : decode cL_tick 366 = .ok (.iload 8, 2) := by decide +kernel
theorem dL_tick_368 : decode cL_tick 368 = .ok (.iconst 2, 1) := by decide +kernel
theorem dL_tick_369 : decode cL_tick 369 = .ok (.if_icmp .ne 24, 3) := by decide +kernel
theorem dL_tick_372 : decode cL_tick 372 = .ok (.iload 9, 2) := by decide +kernel
theorem dL_tick_374 : decode cL_tick 374 = .ok (.ifCond .lt 8, 3) := by decide +kernel
theorem dL_tick_377 : decode cL_tick 377 = .ok (.iload 10, 2) := by decide +kernel
theorem dL_tick_379 : decode cL_tick 379 = .ok (.ifCond .eq 14, 3) := by decide +kernel
theorem dL_tick_382 : decode cL_tick 382 = .ok (.aload_n 1, 1) := by decide +kernel
theorem dL_tick_383 : decode cL_tick 383 = .ok (.iload 7, 2) := by decide +kernel
theorem dL_tick_385 : decode cL_tick 385 = .ok (.bipush 6, 2) := by decide +kernel
theorem dL_tick_387 : decode cL_tick 387 = .ok (.iadd, 1) := by decide +kernel
theorem dL_tick_388 : decode cL_tick 388 = .ok (.dup2, 1) := by decide +kernel
theorem dL_tick_389 : decode cL_tick 389 = .ok (.iaload, 1) := by decide +kernel
theorem dL_tick_390 : decode cL_tick 390 = .ok (.iconst 1, 1) := by decide +kernel
theorem dL_tick_391 : decode cL_tick 391 = .ok (.iadd, 1) := by decide +kernel
theorem dL_tick_392 : decode cL_tick 392 = .ok (.iastore, 1) := by decide +kernel
theorem dL_tick_393 : decode cL_tick 393 = .ok (.iload 9, 2) := by decide +kernel
theorem dL_tick_395 : decode cL_tick 395 = .ok (.ifCond .ge 6, 3) := by decide +kernel
theorem dL_tick_398 : decode cL_tick 398 = .ok (.goto 133, 3) := by decide +kernel
theorem dL_tick_401 : decode cL_tick 401 = .ok (.iload 9, 2) := by decide +kernel
theorem dL_tick_403 : decode cL_tick 403 = .ok (.iconst 1, 1) := by decide +kernel
theorem dL_tick_404 : decode cL_tick 404 = .ok (.if_icmp .eq 9, 3) := by decide +kernel
theorem dL_tick_407 : decode cL_tick 407 = .ok (.iload 9, 2) := by decide +kernel
theorem dL_tick_409 : decode cL_tick 409 = .ok (.iconst 2, 1) := by decide +kernel
theorem dL_tick_410 : decode cL_tick 410 = .ok (.if_icmp .ne 11, 3) := by decide +kernel
theorem dL_tick_413 : decode cL_tick 413 = .ok (.aload_n 1, 1) := by decide +kernel
theorem dL_tick_414 : decode cL_tick 414 = .ok (.iload 7, 2) := by decide +kernel
theorem dL_tick_416 : decode cL_tick 416 = .ok (.bipush 6, 2) := by decide +kernel
theorem dL_tick_418 : decode cL_tick 418 = .ok (.iadd, 1) := by decide +kernel
theorem dL_tick_419 : decode cL_tick 419 = .ok (.iconst 0, 1) := by decide +kernel
theorem dL_tick_420 : decode cL_tick 420 = .ok (.iastore, 1) := by decide +kernel
theorem dL_tick_421 : decode cL_tick 421 = .ok (.iload 8, 2) := by decide +kernel
theorem dL_tick_423 : decode cL_tick 423 = .ok (.ifCond .ne 11, 3) := by decide +kernel
theorem dL_tick_426 : decode cL_tick 426 = .ok (.aload_n 1, 1) := by decide +kernel
theorem dL_tick_427 : decode cL_tick 427 = .ok (.iload 7, 2) := by decide +kernel
theorem dL_tick_429 : decode cL_tick 429 = .ok (.bipush 7, 2) := by decide +kernel
theorem dL_tick_431 : decode cL_tick 431 = .ok (.iadd, 1) := by decide +kernel
theorem dL_tick_432 : decode cL_tick 432 = .ok (.iconst 0, 1) := by decide +kernel
theorem dL_tick_433 : decode cL_tick 433 = .ok (.iastore, 1) := by decide +kernel
theorem dL_tick_434 : decode cL_tick 434 = .ok (.iload 9, 2) := by decide +kernel
theorem dL_tick_436 : decode cL_tick 436 = .ok (.bipush 20, 2) := by decide +kernel
theorem dL_tick_438 : decode cL_tick 438 = .ok (.if_icmp .lt 17, 3) := by decide +kernel
theorem dL_tick_441 : decode cL_tick 441 = .ok (.aload_n 1, 1) := by decide +kernel
theorem dL_tick_442 : decode cL_tick 442 = .ok (.iload 7, 2) := by decide +kernel
theorem dL_tick_444 : decode cL_tick 444 = .ok (.bipush 8, 2) := by decide +kernel
theorem dL_tick_446 : decode cL_tick 446 = .ok (.iadd, 1) := by decide +kernel
theorem dL_tick_447 : decode cL_tick 447 = .ok (.iload 9, 2) := by decide +kernel
theorem dL_tick_449 : decode cL_tick 449 = .ok (.bipush 20, 2) := by decide +kernel
theorem dL_tick_451 : decode cL_tick 451 = .ok (.idiv, 1) := by decide +kernel
theorem dL_tick_452 : decode cL_tick 452 = .ok (.iconst 2, 1) := by decide +kernel
theorem dL_tick_453 : decode cL_tick 453 = .ok (.isub, 1) := by decide +kernel
theorem dL_tick_454 : decode cL_tick 454 = .ok (.iastore, 1) := by decide +kernel
theorem dL_tick_455 : decode cL_tick 455 = .ok (.iload 10, 2) := by decide +kernel
theorem dL_tick_457 : decode cL_tick 457 = .ok (.ifCond .eq 26, 3) := by decide +kernel
theorem dL_tick_460 : decode cL_tick 460 = .ok (.aload_n 1, 1) := by decide +kernel
theorem dL_tick_461 : decode cL_tick 461 = .ok (.iload 7, 2) := by decide +kernel
theorem dL_tick_463 : decode cL_tick 463 = .ok (.bipush 7, 2) := by decide +kernel
theorem dL_tick_465 : decode cL_tick 465 = .ok (.iadd, 1) := by decide +kernel
theorem dL_tick_466 : decode cL_tick 466 = .ok (.dup2, 1) := by decide +kernel
theorem dL_tick_467 : decode cL_tick 467 = .ok (.iaload, 1) := by decide +kernel
theorem dL_tick_468 : decode cL_tick 468 = .ok (.iconst 1, 1) := by decide +kernel
theorem dL_tick_469 : decode cL_tick 469 = .ok (.iadd, 1) := by decide +kernel
theorem dL_tick_470 : decode cL_tick 470 = .ok (.iastore, 1) := by decide +kernel
theorem dL_tick_471 : decode cL_tick 471 = .ok (.aload_n 2, 1) := by decide +kernel
theorem dL_tick_472 : decode cL_tick 472 = .ok (.iconst 4, 1) := by decide +kernel
theorem dL_tick_473 : decode cL_tick 473 = .ok (.iload 6, 2) := by decide +kernel
theorem dL_tick_475 : decode cL_tick 475 = .ok (.imul, 1) := by decide +kernel
theorem dL_tick_476 : decode cL_tick 476 = .ok (.iconst 2, 1) := by decide +kernel
theorem dL_tick_477 : decode cL_tick 477 = .ok (.iadd, 1) := by decide +kernel
theorem dL_tick_478 : decode cL_tick 478 = .ok (.dup2, 1) := by decide +kernel
theorem dL_tick_479 : decode cL_tick 479 = .ok (.iaload, 1) := by decide +kernel
theorem dL_tick_480 : decode cL_tick 480 = .ok (.iconst 1, 1) := by decide +kernel
theorem dL_tick_481 : decode cL_tick 481 = .ok (.iadd, 1) := by decide +kernel
theorem dL_tick_482 : decode cL_tick 482 = .ok (.iastore, 1) := by decide +kernel
theorem dL_tick_483 : decode cL_tick 483 = .ok (.iload 6, 2) := by decide +kernel
theorem dL_tick_485 : decode cL_tick 485 = .ok (.iload 10, 2) := by decide +kernel
theorem dL_tick_487 : decode cL_tick 487 = .ok (.ifCond .eq 31, 3) := by decide +kernel
theorem dL_tick_490 : decode cL_tick 490 = .ok (.aload_n 1, 1) := by decide +kernel
theorem dL_tick_491 : decode cL_tick 491 = .ok (.iload 7, 2) := by decide +kernel
theorem dL_tick_493 : decode cL_tick 493 = .ok (.bipush 7, 2) := by decide +kernel
theorem dL_tick_495 : decode cL_tick 495 = .ok (.iadd, 1) := by decide +kernel
theorem dL_tick_496 : decode cL_tick 496 = .ok (.iaload, 1) := by decide +kernel
theorem dL_tick_497 : decode cL_tick 497 = .ok (.aload_n 0, 1) := by decide +kernel
theorem dL_tick_498 : decode cL_tick 498 = .ok (.bipush 7, 2) := by decide +kernel
theorem dL_tick_500 : decode cL_tick 500 = .ok (.iload 6, 2) := by decide +kernel
theorem dL_tick_502 : decode cL_tick 502 = .ok (.imul, 1) := by decide +kernel
theorem dL_tick_503 : decode cL_tick 503 = .ok (.bipush 6, 2) := by decide +kernel
theorem dL_tick_505 : decode cL_tick 505 = .ok (.iadd, 1) := by decide +kernel
theorem dL_tick_506 : decode cL_tick 506 = .ok (.iaload, 1) := by decide +kernel
theorem dL_tick_507 : decode cL_tick 507 = .ok (.if_icmp .lt 7, 3) := by decide +kernel
theorem dL_tick_510 : decode cL_tick 510 = .ok (.iconst 5, 1) := by decide +kernel
theorem dL_tick_511 : decode cL_tick 511 = .ok (.goto 12, 3) := by decide +kernel
theorem dL_tick_514 : decode cL_tick 514 = .ok (.iconst 4, 1) := by decide +kernel
theorem dL_tick_515 : decode cL_tick 515 = .ok (.goto 8, 3) := by decide +kernel
theorem dL_tick_518 : decode cL_tick 518 = .ok (.iload 9, 2) := by decide +kernel
theorem dL_tick_520 : decode cL_tick 520 = .ok (.bipush 20, 2) := by decide +kernel
theorem dL_tick_522 : decode cL_tick 522 = .ok (.irem, 1) := by decide +kernel
theorem dL_tick_523 : decode cL_tick 523 = .ok (.aload_n 1, 1) := by decide +kernel
theorem dL_tick_524 : decode cL_tick 524 = .ok (.aload_n 2, 1) := by decide +kernel
theorem dL_tick_525 : decode cL_tick 525 = .ok (.aload_n 3, 1) := by decide +kernel
theorem dL_tick_526 : decode cL_tick 526 = .ok (.aload 4, 2) := by decide +kernel
theorem dL_tick_528 : decode cL_tick 528 = .ok (.invokestatic 18, 3) := by decide +kernel
theorem dL_tick_531 : decode cL_tick 531 = .ok (.iinc 6 1, 3) := by decide +kernel
theorem dL_tick_534 : decode cL_tick 534 = .ok (.goto (-347), 3) := by decide +kernel
theorem dL_tick_537 : decode cL_tick 537 = .ok (.iconst 0, 1) := by decide +kernel
theorem dL_tick_538 : decode cL_tick 538 = .ok (.istore 6, 2) := by decide +kernel
theorem dL_tick_540 : decode cL_tick 540 = .ok (.iload 6, 2) := by decide +kernel
theorem dL_tick_542 : decode cL_tick 542 = .ok (.aload 4, 2) := by decide +kernel
theorem dL_tick_544 : decode cL_tick 544 = .ok (.iconst 0, 1) := by decide +kernel
theorem dL_tick_545 : decode cL_tick 545 = .ok (.iaload, 1) := by decide +kernel
theorem dL_tick_546 : decode cL_tick 546 = .ok (.if_icmp .ge 63, 3) := by decide +kernel
theorem dL_tick_549 : decode cL_tick 549 = .ok (.aload_n 1, 1) := by decide +kernel
theorem dL_tick_550 : decode cL_tick 550 = .ok (.bipush 9, 2) := by decide +kernel
theorem dL_tick_552 : decode cL_tick 552 = .ok (.iload 6, 2) := by decide +kernel
theorem dL_tick_554 : decode cL_tick 554 = .ok (.imul, 1) := by decide +kernel
theorem dL_tick_555 : decode cL_tick 555 = .ok (.iconst 5, 1) := by decide +kernel
theorem dL_tick_556 : decode cL_tick 556 = .ok (.iadd, 1) := by decide +kernel
theorem dL_tick_557 : decode cL_tick 557 = .ok (.iaload, 1) := by decide +kernel
theorem dL_tick_558 : decode cL_tick 558 = .ok (.ifCond .le 16, 3) := by decide +kernel
theorem dL_tick_561 : decode cL_tick 561 = .ok (.aload_n 1, 1) := by decide +kernel
theorem dL_tick_562 : decode cL_tick 562 = .ok (.bipush 9, 2) := by decide +kernel
theorem dL_tick_564 : decode cL_tick 564 = .ok (.iload 6, 2) := by decide +kernel
theorem dL_tick_566 : decode cL_tick 566 = .ok (.imul, 1) := by decide +kernel
theorem dL_tick_567 : decode cL_tick 567 = .ok (.iconst 5, 1) := by decide +kernel
theorem dL_tick_568 : decode cL_tick 568 = .ok (.iadd, 1) := by decide +kernel
theorem dL_tick_569 : decode cL_tick 569 = .ok (.dup2, 1) := by decide +kernel
theorem dL_tick_570 : decode cL_tick 570 = .ok (.iaload, 1) := by decide +kernel
theorem dL_tick_571 : decode cL_tick 571 = .ok (.iconst 1, 1) := by decide +kernel
theorem dL_tick_572 : decode cL_tick 572 = .ok (.isub, 1) := by decide +kernel
theorem dL_tick_573 : decode cL_tick 573 = .ok (.iastore, 1) := by decide +kernel
theorem dL_tick_574 : decode cL_tick 574 = .ok (.aload_n 2, 1) := by decide +kernel
theorem dL_tick_575 : decode cL_tick 575 = .ok (.iconst 4, 1) := by decide +kernel
theorem dL_tick_576 : decode cL_tick 576 = .ok (.iload 6, 2) := by decide +kernel
theorem dL_tick_578 : decode cL_tick 578 = .ok (.imul, 1) := by decide +kernel
theorem dL_tick_579 : decode cL_tick 579 = .ok (.iconst 3, 1) := by decide +kernel
theorem dL_tick_580 : decode cL_tick 580 = .ok (.iadd, 1) := by decide +kernel
theorem dL_tick_581 : decode cL_tick 581 = .ok (.dup2, 1) := by decide +kernel
theorem dL_tick_582 : decode cL_tick 582 = .ok (.iaload, 1) := by decide +kernel
theorem dL_tick_583 : decode cL_tick 583 = .ok (.aload_n 1, 1) := by decide +kernel
theorem dL_tick_584 : decode cL_tick 584 = .ok (.bipush 9, 2) := by decide +kernel
theorem dL_tick_586 : decode cL_tick 586 = .ok (.iload 6, 2) := by decide +kernel
theorem dL_tick_588 : decode cL_tick 588 = .ok (.imul, 1) := by decide +kernel
theorem dL_tick_589 : decode cL_tick 589 = .ok (.iconst 2, 1) := by decide +kernel
theorem dL_tick_590 : decode cL_tick 590 = .ok (.iadd, 1) := by decide +kernel
theorem dL_tick_591 : decode cL_tick 591 = .ok (.iaload, 1) := by decide +kernel
theorem dL_tick_592 : decode cL_tick 592 = .ok (.iconst 3, 1) := by decide +kernel
theorem dL_tick_593 : decode cL_tick 593 = .ok (.if_icmp .ne 7, 3) := by decide +kernel
theorem dL_tick_596 : decode cL_tick 596 = .ok (.iconst 1, 1) := by decide +kernel
theorem dL_tick_597 : decode cL_tick 597 = .ok (.goto 4, 3) := by decide +kernel
theorem dL_tick_600 : decode cL_tick 600 = .ok (.iconst 0, 1) := by decide +kernel
theorem dL_tick_601 : decode cL_tick 601 = .ok (.iadd, 1) := by decide +kernel
theorem dL_tick_602 : decode cL_tick 602 = .ok (.iastore, 1) := by decide +kernel
theorem dL_tick_603 : decode cL_tick 603 = .ok (.iinc 6 1, 3) := by decide +kernel
theorem dL_tick_606 : decode cL_tick 606 = .ok (.goto (-66), 3) := by decide +kernel
theorem dL_tick_609 : decode cL_tick 609 = .ok (.aload 4, 2) := by decide +kernel
theorem dL_tick_611 : decode cL_tick 611 = .ok (.iconst 2, 1) := by decide +kernel
theorem dL_tick_612 : decode cL_tick 612 = .ok (.dup2, 1) := by decide +kernel
theorem dL_tick_613 : decode cL_tick 613 = .ok (.iaload, 1) := by decide +kernel
theorem dL_tick_614 : decode cL_tick 614 = .ok (.iconst 1, 1) := by decide +kernel
theorem dL_tick_615 : decode cL_tick 615 = .ok (.iadd, 1) := by decide +kernel
theorem dL_tick_616 : decode cL_tick 616 = .ok (.iastore, 1) := by decide +kernel
theorem dL_tick_617 : decode cL_tick 617 = .ok (.return_, 1) := by decide +kernel
theorem dL_mask_0 : decode cL_mask 0 = .ok (.iconst 0, 1) := by decide +kernel
theorem dL_mask_1 : decode cL_mask 1 = .ok (.istore 4, 2) := by decide +kernel
theorem dL_mask_3 : decode cL_mask 3 = .ok (.iconst 0, 1) := by decide +kernel
theorem dL_mask_4 : decode cL_mask 4 = .ok (.istore 5, 2) := by decide +kernel
theorem dL_mask_6 : decode cL_mask 6 = .ok (.iload 5, 2) := by decide +kernel
theorem dL_mask_8 : decode cL_mask 8 = .ok (.aload_n 3, 1) := by decide +kernel
theorem dL_mask_9 : decode cL_mask 9 = .ok (.iconst 0, 1) := by decide +kernel
theorem dL_mask_10 : decode cL_mask 10 = .ok (.iaload, 1) := by decide +kernel
theorem dL_mask_11 : decode cL_mask 11 = .ok (.if_icmp .ge 35, 3) := by decide +kernel
theorem dL_mask_14 : decode cL_mask 14 = .ok (.iload 4, 2) := by decide +kernel
theorem dL_mask_16 : decode cL_mask 16 = .ok (.aload_n 2, 1) := by decide +kernel
theorem dL_mask_17 : decode cL_mask 17 = .ok (.bipush 9, 2) := by decide +kernel
theorem dL_mask_19 : decode cL_mask 19 = .ok (.iload 5, 2) := by decide +kernel
theorem dL_mask_21 : decode cL_mask 21 = .ok (.imul, 1) := by decide +kernel
theorem dL_mask_22 : decode cL_mask 22 = .ok (.iload_n 0, 1) := by decide +kernel
end
section
theorem dL_mask_23 : decode cL_mask 23 = .ok (.iadd, 1) := by decide +kernel
theorem dL_mask_24 : decode cL_mask 24 = .ok (.iaload, 1) := by decide +kernel
theorem dL_mask_25 : decode cL_mask 25 = .ok (.iload_n 1, 1) := by decide +kernel
theorem dL_mask_26 : decode cL_mask 26 = .ok (.if_icmp .ne 10, 3) := by decide +kernel
theorem dL_mask_29 : decode cL_mask 29 = .ok (.iconst 1, 1) := by decide +kernel
theorem dL_mask_30 : decode cL_mask 30 = .ok (.iload 5, 2) := by decide +kernel
theorem dL_mask_32 : decode cL_mask 32 = .ok (.ishl, 1) := by decide +kernel
theorem dL_mask_33 : decode cL_mask 33 = .ok (.goto 4, 3) := by decide +kernel
theorem dL_mask_36 : decode cL_mask 36 = .ok (.iconst 0, 1) := by decide +kernel
theorem dL_mask_37 : decode cL_mask 37 = .ok (.ior, 1) := by decide +kernel
theorem dL_mask_38 : decode cL_mask 38 = .ok (.istore 4, 2) := by decide +kernel
theorem dL_mask_40 : decode cL_mask 40 = .ok (.iinc 5 1, 3) := by decide +kernel
theorem dL_mask_43 : decode cL_mask 43 = .ok (.goto (-37), 3) := by decide +kernel
theorem dL_mask_46 : decode cL_mask 46 = .ok (.iload 4, 2) := by decide +kernel
theorem dL_mask_48 : decode cL_mask 48 = .ok (.ireturn, 1) := by decide +kernel
theorem dL_closed_0 : decode cL_closed 0 = .ok (.iload_n 0, 1) := by decide +kernel
theorem dL_closed_1 : decode cL_closed 1 = .ok (.istore 4, 2) := by decide +kernel
theorem dL_closed_3 : decode cL_closed 3 = .ok (.iconst 0, 1) := by decide +kernel
theorem dL_closed_4 : decode cL_closed 4 = .ok (.istore 5, 2) := by decide +kernel
theorem dL_closed_6 : decode cL_closed 6 = .ok (.iload 5, 2) := by decide +kernel
theorem dL_closed_8 : decode cL_closed 8 = .ok (.aload_n 3, 1) := by decide +kernel
theorem dL_closed_9 : decode cL_closed 9 = .ok (.iconst 0, 1) := by decide +kernel
theorem dL_closed_10 : decode cL_closed 10 = .ok (.iaload, 1) := by decide +kernel
theorem dL_closed_11 : decode cL_closed 11 = .ok (.if_icmp .ge 79, 3) := by decide +kernel
theorem dL_closed_14 : decode cL_closed 14 = .ok (.iconst 0, 1) := by decide +kernel
theorem dL_closed_15 : decode cL_closed 15 = .ok (.istore 6, 2) := by decide +kernel
theorem dL_closed_17 : decode cL_closed 17 = .ok (.iload 6, 2) := by decide +kernel
theorem dL_closed_19 : decode cL_closed 19 = .ok (.aload_n 3, 1) := by decide +kernel
theorem dL_closed_20 : decode cL_closed 20 = .ok (.iconst 0, 1) := by decide +kernel
theorem dL_closed_21 : decode cL_closed 21 = .ok (.iaload, 1) := by decide +kernel
theorem dL_closed_22 : decode cL_closed 22 = .ok (.if_icmp .ge 62, 3) := by decide +kernel
theorem dL_closed_25 : decode cL_closed 25 = .ok (.iload_n 1, 1) := by decide +kernel
theorem dL_closed_26 : decode cL_closed 26 = .ok (.ifCond .eq 25, 3) := by decide +kernel
theorem dL_closed_29 : decode cL_closed 29 = .ok (.aload_n 2, 1) := by decide +kernel
theorem dL_closed_30 : decode cL_closed 30 = .ok (.bipush 9, 2) := by decide +kernel
theorem dL_closed_32 : decode cL_closed 32 = .ok (.iload 6, 2) := by decide +kernel
theorem dL_closed_34 : decode cL_closed 34 = .ok (.imul, 1) := by decide +kernel
theorem dL_closed_35 : decode cL_closed 35 = .ok (.iaload, 1) := by decide +kernel
theorem dL_closed_36 : decode cL_closed 36 = .ok (.iload 4, 2) := by decide +kernel
theorem dL_closed_38 : decode cL_closed 38 = .ok (.iand, 1) := by decide +kernel
theorem dL_closed_39 : decode cL_closed 39 = .ok (.ifCond .eq 12, 3) := by decide +kernel
theorem dL_closed_42 : decode cL_closed 42 = .ok (.iload 4, 2) := by decide +kernel
theorem dL_closed_44 : decode cL_closed 44 = .ok (.iconst 1, 1) := by decide +kernel
theorem dL_closed_45 : decode cL_closed 45 = .ok (.iload 6, 2) := by decide +kernel
theorem dL_closed_47 : decode cL_closed 47 = .ok (.ishl, 1) := by decide +kernel
theorem dL_closed_48 : decode cL_closed 48 = .ok (.ior, 1) := by decide +kernel
theorem dL_closed_49 : decode cL_closed 49 = .ok (.istore 4, 2) := by decide +kernel
theorem dL_closed_51 : decode cL_closed 51 = .ok (.iload_n 1, 1) := by decide +kernel
theorem dL_closed_52 : decode cL_closed 52 = .ok (.ifCond .ne 26, 3) := by decide +kernel
theorem dL_closed_55 : decode cL_closed 55 = .ok (.iload 4, 2) := by decide +kernel
theorem dL_closed_57 : decode cL_closed 57 = .ok (.iload 6, 2) := by decide +kernel
theorem dL_closed_59 : decode cL_closed 59 = .ok (.ishr, 1) := by decide +kernel
theorem dL_closed_60 : decode cL_closed 60 = .ok (.iconst 1, 1) := by decide +kernel
theorem dL_closed_61 : decode cL_closed 61 = .ok (.iand, 1) := by decide +kernel
theorem dL_closed_62 : decode cL_closed 62 = .ok (.iconst 1, 1) := by decide +kernel
theorem dL_closed_63 : decode cL_closed 63 = .ok (.if_icmp .ne 15, 3) := by decide +kernel
theorem dL_closed_66 : decode cL_closed 66 = .ok (.iload 4, 2) := by decide +kernel
theorem dL_closed_68 : decode cL_closed 68 = .ok (.aload_n 2, 1) := by decide +kernel
theorem dL_closed_69 : decode cL_closed 69 = .ok (.bipush 9, 2) := by decide +kernel
theorem dL_closed_71 : decode cL_closed 71 = .ok (.iload 6, 2) := by decide +kernel
theorem dL_closed_73 : decode cL_closed 73 = .ok (.imul, 1) := by decide +kernel
theorem dL_closed_74 : decode cL_closed 74 = .ok (.iaload, 1) := by decide +kernel
theorem dL_closed_75 : decode cL_closed 75 = .ok (.ior, 1) := by decide +kernel
theorem dL_closed_76 : decode cL_closed 76 = .ok (.istore 4, 2) := by decide +kernel
theorem dL_closed_78 : decode cL_closed 78 = .ok (.iinc 6 1, 3) := by decide +kernel
theorem dL_closed_81 : decode cL_closed 81 = .ok (.goto (-64), 3) := by decide +kernel
theorem dL_closed_84 : decode cL_closed 84 = .ok (.iinc 5 1, 3) := by decide +kernel
theorem dL_closed_87 : decode cL_closed 87 = .ok (.goto (-81), 3) := by decide +kernel
theorem dL_closed_90 : decode cL_closed 90 = .ok (.iload 4, 2) := by decide +kernel
theorem dL_closed_92 : decode cL_closed 92 = .ok (.ireturn, 1) := by decide +kernel
theorem dL_patience_0 : decode cL_patience 0 = .ok (.aload_n 1, 1) := by decide +kernel
theorem dL_patience_1 : decode cL_patience 1 = .ok (.bipush 7, 2) := by decide +kernel
theorem dL_patience_3 : decode cL_patience 3 = .ok (.iload_n 0, 1) := by decide +kernel
theorem dL_patience_4 : decode cL_patience 4 = .ok (.imul, 1) := by decide +kernel
theorem dL_patience_5 : decode cL_patience 5 = .ok (.iaload, 1) := by decide +kernel
theorem dL_patience_6 : decode cL_patience 6 = .ok (.aload_n 1, 1) := by decide +kernel
theorem dL_patience_7 : decode cL_patience 7 = .ok (.bipush 7, 2) := by decide +kernel
theorem dL_patience_9 : decode cL_patience 9 = .ok (.iload_n 0, 1) := by decide +kernel
theorem dL_patience_10 : decode cL_patience 10 = .ok (.imul, 1) := by decide +kernel
theorem dL_patience_11 : decode cL_patience 11 = .ok (.iconst 3, 1) := by decide +kernel
theorem dL_patience_12 : decode cL_patience 12 = .ok (.iadd, 1) := by decide +kernel
theorem dL_patience_13 : decode cL_patience 13 = .ok (.iaload, 1) := by decide +kernel
theorem dL_patience_14 : decode cL_patience 14 = .ok (.imul, 1) := by decide +kernel
theorem dL_patience_15 : decode cL_patience 15 = .ok (.bipush 99, 2) := by decide +kernel
theorem dL_patience_17 : decode cL_patience 17 = .ok (.iadd, 1) := by decide +kernel
theorem dL_patience_18 : decode cL_patience 18 = .ok (.bipush 100, 2) := by decide +kernel
theorem dL_patience_20 : decode cL_patience 20 = .ok (.idiv, 1) := by decide +kernel
theorem dL_patience_21 : decode cL_patience 21 = .ok (.istore_n 2, 1) := by decide +kernel
theorem dL_patience_22 : decode cL_patience 22 = .ok (.iload_n 2, 1) := by decide +kernel
theorem dL_patience_23 : decode cL_patience 23 = .ok (.aload_n 1, 1) := by decide +kernel
theorem dL_patience_24 : decode cL_patience 24 = .ok (.bipush 7, 2) := by decide +kernel
theorem dL_patience_26 : decode cL_patience 26 = .ok (.iload_n 0, 1) := by decide +kernel
theorem dL_patience_27 : decode cL_patience 27 = .ok (.imul, 1) := by decide +kernel
theorem dL_patience_28 : decode cL_patience 28 = .ok (.iconst 1, 1) := by decide +kernel
theorem dL_patience_29 : decode cL_patience 29 = .ok (.iadd, 1) := by decide +kernel
theorem dL_patience_30 : decode cL_patience 30 = .ok (.iaload, 1) := by decide +kernel
theorem dL_patience_31 : decode cL_patience 31 = .ok (.iadd, 1) := by decide +kernel
theorem dL_patience_32 : decode cL_patience 32 = .ok (.iconst 1, 1) := by decide +kernel
theorem dL_patience_33 : decode cL_patience 33 = .ok (.isub, 1) := by decide +kernel
theorem dL_patience_34 : decode cL_patience 34 = .ok (.aload_n 1, 1) := by decide +kernel
theorem dL_patience_35 : decode cL_patience 35 = .ok (.bipush 7, 2) := by decide +kernel
theorem dL_patience_37 : decode cL_patience 37 = .ok (.iload_n 0, 1) := by decide +kernel
theorem dL_patience_38 : decode cL_patience 38 = .ok (.imul, 1) := by decide +kernel
theorem dL_patience_39 : decode cL_patience 39 = .ok (.iconst 1, 1) := by decide +kernel
theorem dL_patience_40 : decode cL_patience 40 = .ok (.iadd, 1) := by decide +kernel
theorem dL_patience_41 : decode cL_patience 41 = .ok (.iaload, 1) := by decide +kernel
theorem dL_patience_42 : decode cL_patience 42 = .ok (.idiv, 1) := by decide +kernel
theorem dL_patience_43 : decode cL_patience 43 = .ok (.istore_n 3, 1) := by decide +kernel
theorem dL_patience_44 : decode cL_patience 44 = .ok (.iload_n 3, 1) := by decide +kernel
theorem dL_patience_45 : decode cL_patience 45 = .ok (.sipush 200, 3) := by decide +kernel
theorem dL_patience_48 : decode cL_patience 48 = .ok (.if_icmp .le 7, 3) := by decide +kernel
theorem dL_patience_51 : decode cL_patience 51 = .ok (.iconst (-1), 1) := by decide +kernel
theorem dL_patience_52 : decode cL_patience 52 = .ok (.goto 4, 3) := by decide +kernel
theorem dL_patience_55 : decode cL_patience 55 = .ok (.iload_n 3, 1) := by decide +kernel
theorem dL_patience_56 : decode cL_patience 56 = .ok (.ireturn, 1) := by decide +kernel
theorem dL_told_0 : decode cL_told 0 = .ok (.iconst 0, 1) := by decide +kernel
theorem dL_told_1 : decode cL_told 1 = .ok (.istore 6, 2) := by decide +kernel
theorem dL_told_3 : decode cL_told 3 = .ok (.iconst 0, 1) := by decide +kernel
theorem dL_told_4 : decode cL_told 4 = .ok (.istore 7, 2) := by decide +kernel
theorem dL_told_6 : decode cL_told 6 = .ok (.iconst 0, 1) := by decide +kernel
theorem dL_told_7 : decode cL_told 7 = .ok (.istore 8, 2) := by decide +kernel
theorem dL_told_9 : decode cL_told 9 = .ok (.iload 8, 2) := by decide +kernel
theorem dL_told_11 : decode cL_told 11 = .ok (.aload 5, 2) := by decide +kernel
theorem dL_told_13 : decode cL_told 13 = .ok (.iconst 0, 1) := by decide +kernel
theorem dL_told_14 : decode cL_told 14 = .ok (.iaload, 1) := by decide +kernel
theorem dL_told_15 : decode cL_told 15 = .ok (.if_icmp .ge 367, 3) := by decide +kernel
theorem dL_told_18 : decode cL_told 18 = .ok (.bipush 9, 2) := by decide +kernel
theorem dL_told_20 : decode cL_told 20 = .ok (.iload 8, 2) := by decide +kernel
theorem dL_told_22 : decode cL_told 22 = .ok (.imul, 1) := by decide +kernel
theorem dL_told_23 : decode cL_told 23 = .ok (.istore 9, 2) := by decide +kernel
theorem dL_told_25 : decode cL_told 25 = .ok (.iload 6, 2) := by decide +kernel
theorem dL_told_27 : decode cL_told 27 = .ok (.aload_n 2, 1) := by decide +kernel
theorem dL_told_28 : decode cL_told 28 = .ok (.iload 9, 2) := by decide +kernel
theorem dL_told_30 : decode cL_told 30 = .ok (.iconst 3, 1) := by decide +kernel
theorem dL_told_31 : decode cL_told 31 = .ok (.iadd, 1) := by decide +kernel
theorem dL_told_32 : decode cL_told 32 = .ok (.iaload, 1) := by decide +kernel
theorem dL_told_33 : decode cL_told 33 = .ok (.iadd, 1) := by decide +kernel
theorem dL_told_34 : decode cL_told 34 = .ok (.istore 6, 2) := by decide +kernel
theorem dL_told_36 : decode cL_told 36 = .ok (.iload 7, 2) := by decide +kernel
theorem dL_told_38 : decode cL_told 38 = .ok (.aload_n 3, 1) := by decide +kernel
theorem dL_told_39 : decode cL_told 39 = .ok (.iconst 4, 1) := by decide +kernel
theorem dL_told_40 : decode cL_told 40 = .ok (.iload 8, 2) := by decide +kernel
theorem dL_told_42 : decode cL_told 42 = .ok (.imul, 1) := by decide +kernel
theorem dL_told_43 : decode cL_told 43 = .ok (.iconst 3, 1) := by decide +kernel
theorem dL_told_44 : decode cL_told 44 = .ok (.iadd, 1) := by decide +kernel
theorem dL_told_45 : decode cL_told 45 = .ok (.iaload, 1) := by decide +kernel
theorem dL_told_46 : decode cL_told 46 = .ok (.iadd, 1) := by decide +kernel
theorem dL_told_47 : decode cL_told 47 = .ok (.istore 7, 2) := by decide +kernel
theorem dL_told_49 : decode cL_told 49 = .ok (.iconst 0, 1) := by decide +kernel
theorem dL_told_50 : decode cL_told 50 = .ok (.istore 10, 2) := by decide +kernel
theorem dL_told_52 : decode cL_told 52 = .ok (.iload 10, 2) := by decide +kernel
theorem dL_told_54 : decode cL_told 54 = .ok (.bipush 7, 2) := by decide +kernel
theorem dL_told_56 : decode cL_told 56 = .ok (.if_icmp .ge 32, 3) := by decide +kernel
theorem dL_told_59 : decode cL_told 59 = .ok (.aload_n 0, 1) := by decide +kernel
theorem dL_told_60 : decode cL_told 60 = .ok (.iload 8, 2) := by decide +kernel
theorem dL_told_62 : decode cL_told 62 = .ok (.iload 10, 2) := by decide +kernel
theorem dL_told_64 : decode cL_told 64 = .ok (.invokevirtual 22, 3) := by decide +kernel
theorem dL_told_67 : decode cL_told 67 = .ok (.aload_n 1, 1) := by decide +kernel
theorem dL_told_68 : decode cL_told 68 = .ok (.bipush 7, 2) := by decide +kernel
theorem dL_told_70 : decode cL_told 70 = .ok (.iload 8, 2) := by decide +kernel
theorem dL_told_72 : decode cL_told 72 = .ok (.imul, 1) := by decide +kernel
theorem dL_told_73 : decode cL_told 73 = .ok (.iload 10, 2) := by decide +kernel
theorem dL_told_75 : decode cL_told 75 = .ok (.iadd, 1) := by decide +kernel
theorem dL_told_76 : decode cL_told 76 = .ok (.iaload, 1) := by decide +kernel
theorem dL_told_77 : decode cL_told 77 = .ok (.if_icmp .eq 5, 3) := by decide +kernel
theorem dL_told_80 : decode cL_told 80 = .ok (.iconst 0, 1) := by decide +kernel
theorem dL_told_81 : decode cL_told 81 = .ok (.ireturn, 1) := by decide +kernel
theorem dL_told_82 : decode cL_told 82 = .ok (.iinc 10 1, 3) := by decide +kernel
theorem dL_told_85 : decode cL_told 85 = .ok (.goto (-33), 3) := by decide +kernel
theorem dL_told_88 : decode cL_told 88 = .ok (.aload_n 2, 1) := by decide +kernel
theorem dL_told_89 : decode cL_told 89 = .ok (.iload 9, 2) := by decide +kernel
theorem dL_told_91 : decode cL_told 91 = .ok (.bipush 8, 2) := by decide +kernel
theorem dL_told_93 : decode cL_told 93 = .ok (.iadd, 1) := by decide +kernel
theorem dL_told_94 : decode cL_told 94 = .ok (.iaload, 1) := by decide +kernel
theorem dL_told_95 : decode cL_told 95 = .ok (.istore 10, 2) := by decide +kernel
theorem dL_told_97 : decode cL_told 97 = .ok (.iconst 0, 1) := by decide +kernel
theorem dL_told_98 : decode cL_told 98 = .ok (.istore 11, 2) := by decide +kernel
theorem dL_told_100 : decode cL_told 100 = .ok (.iload 11, 2) := by decide +kernel
theorem dL_told_102 : decode cL_told 102 = .ok (.bipush 8, 2) := by decide +kernel
theorem dL_told_104 : decode cL_told 104 = .ok (.if_icmp .ge 44, 3) := by decide +kernel
theorem dL_told_107 : decode cL_told 107 = .ok (.iload 10, 2) := by decide +kernel
theorem dL_told_109 : decode cL_told 109 = .ok (.ifCond .lt 39, 3) := by decide +kernel
theorem dL_told_112 : decode cL_told 112 = .ok (.aload_n 2, 1) := by decide +kernel
theorem dL_told_113 : decode cL_told 113 = .ok (.bipush 9, 2) := by decide +kernel
theorem dL_told_115 : decode cL_told 115 = .ok (.iload 10, 2) := by decide +kernel
theorem dL_told_117 : decode cL_told 117 = .ok (.imul, 1) := by decide +kernel
theorem dL_told_118 : decode cL_told 118 = .ok (.bipush 8, 2) := by decide +kernel
theorem dL_told_120 : decode cL_told 120 = .ok (.iadd, 1) := by decide +kernel
theorem dL_told_121 : decode cL_told 121 = .ok (.iaload, 1) := by decide +kernel
theorem dL_told_122 : decode cL_told 122 = .ok (.ifCond .lt 16, 3) := by decide +kernel
theorem dL_told_125 : decode cL_told 125 = .ok (.aload_n 2, 1) := by decide +kernel
theorem dL_told_126 : decode cL_told 126 = .ok (.bipush 9, 2) := by decide +kernel
theorem dL_told_128 : decode cL_told 128 = .ok (.iload 10, 2) := by decide +kernel
theorem dL_told_130 : decode cL_told 130 = .ok (.imul, 1) := by decide +kernel
theorem dL_told_131 : decode cL_told 131 = .ok (.bipush 8, 2) := by decide +kernel
theorem dL_told_133 : decode cL_told 133 = .ok (.iadd, 1) := by decide +kernel
theorem dL_told_134 : decode cL_told 134 = .ok (.iaload, 1) := by decide +kernel
theorem dL_told_135 : decode cL_told 135 = .ok (.goto 5, 3) := by decide +kernel
theorem dL_told_138 : decode cL_told 138 = .ok (.iload 10, 2) := by decide +kernel
theorem dL_told_140 : decode cL_told 140 = .ok (.istore 10, 2) := by decide +kernel
theorem dL_told_142 : decode cL_told 142 = .ok (.iinc 11 1, 3) := by decide +kernel
theorem dL_told_145 : decode cL_told 145 = .ok (.goto (-45), 3) := by decide +kernel
theorem dL_told_148 : decode cL_told 148 = .ok (.aload_n 0, 1) := by decide +kernel
theorem dL_told_149 : decode cL_told 149 = .ok (.iload 8, 2) := by decide +kernel
theorem dL_told_151 : decode cL_told 151 = .ok (.bipush 7, 2) := by decide +kernel
theorem dL_told_153 : decode cL_told 153 = .ok (.invokevirtual 22, 3) := by decide +kernel
theorem dL_told_156 : decode cL_told 156 = .ok (.aload_n 2, 1) := by decide +kernel
theorem dL_told_157 : decode cL_told 157 = .ok (.iload 9, 2) := by decide +kernel
theorem dL_told_159 : decode cL_told 159 = .ok (.iaload, 1) := by decide +kernel
theorem dL_told_160 : decode cL_told 160 = .ok (.if_icmp .ne 84, 3) := by decide +kernel
theorem dL_told_163 : decode cL_told 163 = .ok (.aload_n 0, 1) := by decide +kernel
theorem dL_told_164 : decode cL_told 164 = .ok (.iload 8, 2) := by decide +kernel
theorem dL_told_166 : decode cL_told 166 = .ok (.bipush 8, 2) := by decide +kernel
theorem dL_told_168 : decode cL_told 168 = .ok (.invokevirtual 22, 3) := by decide +kernel
theorem dL_told_171 : decode cL_told 171 = .ok (.iconst 1, 1) := by decide +kernel
theorem dL_told_172 : decode cL_told 172 = .ok (.iload 8, 2) := by decide +kernel
theorem dL_told_174 : decode cL_told 174 = .ok (.ishl, 1) := by decide +kernel
theorem dL_told_175 : decode cL_told 175 = .ok (.iconst 1, 1) := by decide +kernel
theorem dL_told_176 : decode cL_told 176 = .ok (.aload_n 2, 1) := by decide +kernel
theorem dL_told_177 : decode cL_told 177 = .ok (.aload 5, 2) := by decide +kernel
theorem dL_told_179 : decode cL_told 179 = .ok (.invokestatic 28, 3) := by decide +kernel
theorem dL_told_182 : decode cL_told 182 = .ok (.iconst 1, 1) := by decide +kernel
theorem dL_told_183 : decode cL_told 183 = .ok (.iload 8, 2) := by decide +kernel
theorem dL_told_185 : decode cL_told 185 = .ok (.ishl, 1) := by decide +kernel
theorem dL_told_186 : decode cL_told 186 = .ok (.isub, 1) := by decide +kernel
theorem dL_told_187 : decode cL_told 187 = .ok (.if_icmp .ne 57, 3) := by decide +kernel
theorem dL_told_190 : decode cL_told 190 = .ok (.aload_n 0, 1) := by decide +kernel
theorem dL_told_191 : decode cL_told 191 = .ok (.iload 8, 2) := by decide +kernel
theorem dL_told_193 : decode cL_told 193 = .ok (.bipush 12, 2) := by decide +kernel
theorem dL_told_195 : decode cL_told 195 = .ok (.invokevirtual 22, 3) := by decide +kernel
theorem dL_told_198 : decode cL_told 198 = .ok (.iload 8, 2) := by decide +kernel
theorem dL_told_200 : decode cL_told 200 = .ok (.aload_n 1, 1) := by decide +kernel
theorem dL_told_201 : decode cL_told 201 = .ok (.aload_n 2, 1) := by decide +kernel
theorem dL_told_202 : decode cL_told 202 = .ok (.invokestatic 8, 3) := by decide +kernel
theorem dL_told_205 : decode cL_told 205 = .ok (.ifCond .eq 7, 3) := by decide +kernel
theorem dL_told_208 : decode cL_told 208 = .ok (.iconst 1, 1) := by decide +kernel
theorem dL_told_209 : decode cL_told 209 = .ok (.goto 4, 3) := by decide +kernel
theorem dL_told_212 : decode cL_told 212 = .ok (.iconst 0, 1) := by decide +kernel
theorem dL_told_213 : decode cL_told 213 = .ok (.if_icmp .ne 31, 3) := by decide +kernel
theorem dL_told_216 : decode cL_told 216 = .ok (.aload_n 0, 1) := by decide +kernel
theorem dL_told_217 : decode cL_told 217 = .ok (.iload 8, 2) := by decide +kernel
theorem dL_told_219 : decode cL_told 219 = .ok (.bipush 18, 2) := by decide +kernel
theorem dL_told_221 : decode cL_told 221 = .ok (.invokevirtual 22, 3) := by decide +kernel
theorem dL_told_224 : decode cL_told 224 = .ok (.iload 10, 2) := by decide +kernel
theorem dL_told_226 : decode cL_told 226 = .ok (.if_icmp .ne 18, 3) := by decide +kernel
theorem dL_told_229 : decode cL_told 229 = .ok (.aload_n 0, 1) := by decide +kernel
theorem dL_told_230 : decode cL_told 230 = .ok (.iload 8, 2) := by decide +kernel
theorem dL_told_232 : decode cL_told 232 = .ok (.invokevirtual 32, 3) := by decide +kernel
theorem dL_told_235 : decode cL_told 235 = .ok (.iload 8, 2) := by decide +kernel
theorem dL_told_237 : decode cL_told 237 = .ok (.aload_n 1, 1) := by decide +kernel
theorem dL_told_238 : decode cL_told 238 = .ok (.invokestatic 36, 3) := by decide +kernel
theorem dL_told_241 : decode cL_told 241 = .ok (.if_icmp .eq 5, 3) := by decide +kernel
theorem dL_told_244 : decode cL_told 244 = .ok (.iconst 0, 1) := by decide +kernel
theorem dL_told_245 : decode cL_told 245 = .ok (.ireturn, 1) := by decide +kernel
theorem dL_told_246 : decode cL_told 246 = .ok (.aload_n 0, 1) := by decide +kernel
theorem dL_told_247 : decode cL_told 247 = .ok (.iload 8, 2) := by decide +kernel
theorem dL_told_249 : decode cL_told 249 = .ok (.bipush 9, 2) := by decide +kernel
theorem dL_told_251 : decode cL_told 251 = .ok (.invokevirtual 22, 3) := by decide +kernel
theorem dL_told_254 : decode cL_told 254 = .ok (.aload_n 2, 1) := by decide +kernel
theorem dL_told_255 : decode cL_told 255 = .ok (.iload 9, 2) := by decide +kernel
theorem dL_told_257 : decode cL_told 257 = .ok (.iconst 1, 1) := by decide +kernel
theorem dL_told_258 : decode cL_told 258 = .ok (.iadd, 1) := by decide +kernel
theorem dL_told_259 : decode cL_told 259 = .ok (.iaload, 1) := by decide +kernel
theorem dL_told_260 : decode cL_told 260 = .ok (.if_icmp .ne 37, 3) := by decide +kernel
theorem dL_told_263 : decode cL_told 263 = .ok (.aload_n 0, 1) := by decide +kernel
theorem dL_told_264 : decode cL_told 264 = .ok (.iload 8, 2) := by decide +kernel
theorem dL_told_266 : decode cL_told 266 = .ok (.bipush 10, 2) := by decide +kernel
theorem dL_told_268 : decode cL_told 268 = .ok (.invokevirtual 22, 3) := by decide +kernel
theorem dL_told_271 : decode cL_told 271 = .ok (.aload_n 2, 1) := by decide +kernel
theorem dL_told_272 : decode cL_told 272 = .ok (.iload 9, 2) := by decide +kernel
theorem dL_told_274 : decode cL_told 274 = .ok (.iconst 2, 1) := by decide +kernel
theorem dL_told_275 : decode cL_told 275 = .ok (.iadd, 1) := by decide +kernel
theorem dL_told_276 : decode cL_told 276 = .ok (.iaload, 1) := by decide +kernel
theorem dL_told_277 : decode cL_told 277 = .ok (.if_icmp .ne 20, 3) := by decide +kernel
theorem dL_told_280 : decode cL_told 280 = .ok (.aload_n 0, 1) := by decide +kernel
theorem dL_told_281 : decode cL_told 281 = .ok (.iload 8, 2) := by decide +kernel
theorem dL_told_283 : decode cL_told 283 = .ok (.bipush 11, 2) := by decide +kernel
theorem dL_told_285 : decode cL_told 285 = .ok (.invokevirtual 22, 3) := by decide +kernel
theorem dL_told_288 : decode cL_told 288 = .ok (.aload_n 2, 1) := by decide +kernel
theorem dL_told_289 : decode cL_told 289 = .ok (.iload 9, 2) := by decide +kernel
theorem dL_told_291 : decode cL_told 291 = .ok (.iconst 3, 1) := by decide +kernel
theorem dL_told_292 : decode cL_told 292 = .ok (.iadd, 1) := by decide +kernel
theorem dL_told_293 : decode cL_told 293 = .ok (.iaload, 1) := by decide +kernel
theorem dL_told_294 : decode cL_told 294 = .ok (.if_icmp .eq 5, 3) := by decide +kernel
theorem dL_told_297 : decode cL_told 297 = .ok (.iconst 0, 1) := by decide +kernel
theorem dL_told_298 : decode cL_told 298 = .ok (.ireturn, 1) := by decide +kernel
theorem dL_told_299 : decode cL_told 299 = .ok (.bipush 13, 2) := by decide +kernel
theorem dL_told_301 : decode cL_told 301 = .ok (.istore 11, 2) := by decide +kernel
theorem dL_told_303 : decode cL_told 303 = .ok (.iload 11, 2) := by decide +kernel
theorem dL_told_305 : decode cL_told 305 = .ok (.bipush 18, 2) := by decide +kernel
theorem dL_told_307 : decode cL_told 307 = .ok (.if_icmp .ge 32, 3) := by decide +kernel
theorem dL_told_310 : decode cL_told 310 = .ok (.aload_n 0, 1) := by decide +kernel
theorem dL_told_311 : decode cL_told 311 = .ok (.iload 8, 2) := by decide +kernel
theorem dL_told_313 : decode cL_told 313 = .ok (.iload 11, 2) := by decide +kernel
theorem dL_told_315 : decode cL_told 315 = .ok (.invokevirtual 22, 3) := by decide +kernel
theorem dL_told_318 : decode cL_told 318 = .ok (.aload_n 2, 1) := by decide +kernel
theorem dL_told_319 : decode cL_told 319 = .ok (.iload 9, 2) := by decide +kernel
theorem dL_told_321 : decode cL_told 321 = .ok (.iload 11, 2) := by decide +kernel
theorem dL_told_323 : decode cL_told 323 = .ok (.iadd, 1) := by decide +kernel
theorem dL_told_324 : decode cL_told 324 = .ok (.bipush 9, 2) := by decide +kernel
theorem dL_told_326 : decode cL_told 326 = .ok (.isub, 1) := by decide +kernel
theorem dL_told_327 : decode cL_told 327 = .ok (.iaload, 1) := by decide +kernel
theorem dL_told_328 : decode cL_told 328 = .ok (.if_icmp .eq 5, 3) := by decide +kernel
theorem dL_told_331 : decode cL_told 331 = .ok (.iconst 0, 1) := by decide +kernel
theorem dL_told_332 : decode cL_told 332 = .ok (.ireturn, 1) := by decide +kernel
theorem dL_told_333 : decode cL_told 333 = .ok (.iinc 11 1, 3) := by decide +kernel
theorem dL_told_336 : decode cL_told 336 = .ok (.goto (-33), 3) := by decide +kernel
theorem dL_told_339 : decode cL_told 339 = .ok (.iconst 0, 1) := by decide +kernel
theorem dL_told_340 : decode cL_told 340 = .ok (.istore 11, 2) := by decide +kernel
theorem dL_told_342 : decode cL_told 342 = .ok (.iload 11, 2) := by decide +kernel
theorem dL_told_344 : decode cL_told 344 = .ok (.iconst 4, 1) := by decide +kernel
theorem dL_told_345 : decode cL_told 345 = .ok (.if_icmp .ge 31, 3) := by decide +kernel
theorem dL_told_348 : decode cL_told 348 = .ok (.aload_n 0, 1) := by decide +kernel
theorem dL_told_349 : decode cL_told 349 = .ok (.iload 8, 2) := by decide +kernel
theorem dL_told_351 : decode cL_told 351 = .ok (.iload 11, 2) := by decide +kernel
theorem dL_told_353 : decode cL_told 353 = .ok (.invokevirtual 40, 3) := by decide +kernel
theorem dL_told_356 : decode cL_told 356 = .ok (.aload_n 3, 1) := by decide +kernel
theorem dL_told_357 : decode cL_told 357 = .ok (.iconst 4, 1) := by decide +kernel
theorem dL_told_358 : decode cL_told 358 = .ok (.iload 8, 2) := by decide +kernel
theorem dL_told_360 : decode cL_told 360 = .ok (.imul, 1) := by decide +kernel
theorem dL_told_361 : decode cL_told 361 = .ok (.iload 11, 2) := by decide +kernel
theorem dL_told_363 : decode cL_told 363 = .ok (.iadd, 1) := by decide +kernel
theorem dL_told_364 : decode cL_told 364 = .ok (.iaload, 1) := by decide +kernel
theorem dL_told_365 : decode cL_told 365 = .ok (.if_icmp .eq 5, 3) := by decide +kernel
theorem dL_told_368 : decode cL_told 368 = .ok (.iconst 0, 1) := by decide +kernel
theorem dL_told_369 : decode cL_told 369 = .ok (.ireturn, 1) := by decide +kernel
theorem dL_told_370 : decode cL_told 370 = .ok (.iinc 11 1, 3) := by decide +kernel
theorem dL_told_373 : decode cL_told 373 = .ok (.goto (-31), 3) := by decide +kernel
theorem dL_told_376 : decode cL_told 376 = .ok (.iinc 8 1, 3) := by decide +kernel
theorem dL_told_379 : decode cL_told 379 = .ok (.goto (-370), 3) := by decide +kernel
theorem dL_told_382 : decode cL_told 382 = .ok (.iconst 0, 1) := by decide +kernel
theorem dL_told_383 : decode cL_told 383 = .ok (.istore 8, 2) := by decide +kernel
theorem dL_told_385 : decode cL_told 385 = .ok (.iload 8, 2) := by decide +kernel
theorem dL_told_387 : decode cL_told 387 = .ok (.bipush 64, 2) := by decide +kernel
theorem dL_told_389 : decode cL_told 389 = .ok (.if_icmp .ge 46, 3) := by decide +kernel
theorem dL_told_392 : decode cL_told 392 = .ok (.aload_n 0, 1) := by decide +kernel
theorem dL_told_393 : decode cL_told 393 = .ok (.iload 8, 2) := by decide +kernel
theorem dL_told_395 : decode cL_told 395 = .ok (.iconst 4, 1) := by decide +kernel
theorem dL_told_396 : decode cL_told 396 = .ok (.idiv, 1) := by decide +kernel
theorem dL_told_397 : decode cL_told 397 = .ok (.iload 8, 2) := by decide +kernel
theorem dL_told_399 : decode cL_told 399 = .ok (.iconst 4, 1) := by decide +kernel
theorem dL_told_400 : decode cL_told 400 = .ok (.irem, 1) := by decide +kernel
theorem dL_told_401 : decode cL_told 401 = .ok (.invokevirtual 43, 3) := by decide +kernel
theorem dL_told_404 : decode cL_told 404 = .ok (.iload 8, 2) := by decide +kernel
theorem dL_told_406 : decode cL_told 406 = .ok (.iconst 4, 1) := by decide +kernel
theorem dL_told_407 : decode cL_told 407 = .ok (.idiv, 1) := by decide +kernel
theorem dL_told_408 : decode cL_told 408 = .ok (.aload 5, 2) := by decide +kernel
theorem dL_told_410 : decode cL_told 410 = .ok (.iconst 3, 1) := by decide +kernel
theorem dL_told_411 : decode cL_told 411 = .ok (.iaload, 1) := by decide +kernel
theorem dL_told_412 : decode cL_told 412 = .ok (.if_icmp .ge 11, 3) := by decide +kernel
theorem dL_told_415 : decode cL_told 415 = .ok (.aload 4, 2) := by decide +kernel
theorem dL_told_417 : decode cL_told 417 = .ok (.iload 8, 2) := by decide +kernel
theorem dL_told_419 : decode cL_told 419 = .ok (.iaload, 1) := by decide +kernel
theorem dL_told_420 : decode cL_told 420 = .ok (.goto 4, 3) := by decide +kernel
theorem dL_told_423 : decode cL_told 423 = .ok (.iconst (-1), 1) := by decide +kernel
theorem dL_told_424 : decode cL_told 424 = .ok (.if_icmp .eq 5, 3) := by decide +kernel
theorem dL_told_427 : decode cL_told 427 = .ok (.iconst 0, 1) := by decide +kernel
theorem dL_told_428 : decode cL_told 428 = .ok (.ireturn, 1) := by decide +kernel
theorem dL_told_429 : decode cL_told 429 = .ok (.iinc 8 1, 3) := by decide +kernel
theorem dL_told_432 : decode cL_told 432 = .ok (.goto (-47), 3) := by decide +kernel
theorem dL_told_435 : decode cL_told 435 = .ok (.aload 5, 2) := by decide +kernel
theorem dL_told_437 : decode cL_told 437 = .ok (.iconst 2, 1) := by decide +kernel
theorem dL_told_438 : decode cL_told 438 = .ok (.iaload, 1) := by decide +kernel
theorem dL_told_439 : decode cL_told 439 = .ok (.aload 5, 2) := by decide +kernel
theorem dL_told_441 : decode cL_told 441 = .ok (.iconst 0, 1) := by decide +kernel
theorem dL_told_442 : decode cL_told 442 = .ok (.iaload, 1) := by decide +kernel
theorem dL_told_443 : decode cL_told 443 = .ok (.imul, 1) := by decide +kernel
theorem dL_told_444 : decode cL_told 444 = .ok (.istore 8, 2) := by decide +kernel
theorem dL_told_446 : decode cL_told 446 = .ok (.aload_n 0, 1) := by decide +kernel
theorem dL_told_447 : decode cL_told 447 = .ok (.iconst 0, 1) := by decide +kernel
theorem dL_told_448 : decode cL_told 448 = .ok (.invokevirtual 46, 3) := by decide +kernel
theorem dL_told_451 : decode cL_told 451 = .ok (.aload 5, 2) := by decide +kernel
theorem dL_told_453 : decode cL_told 453 = .ok (.iconst 0, 1) := by decide +kernel
theorem dL_told_454 : decode cL_told 454 = .ok (.iaload, 1) := by decide +kernel
theorem dL_told_455 : decode cL_told 455 = .ok (.if_icmp .ne 129, 3) := by decide +kernel
theorem dL_told_458 : decode cL_told 458 = .ok (.aload_n 0, 1) := by decide +kernel
theorem dL_told_459 : decode cL_told 459 = .ok (.iconst 1, 1) := by decide +kernel
theorem dL_told_460 : decode cL_told 460 = .ok (.invokevirtual 46, 3) := by decide +kernel
theorem dL_told_463 : decode cL_told 463 = .ok (.aload 5, 2) := by decide +kernel
theorem dL_told_465 : decode cL_told 465 = .ok (.iconst 2, 1) := by decide +kernel
theorem dL_told_466 : decode cL_told 466 = .ok (.iaload, 1) := by decide +kernel
theorem dL_told_467 : decode cL_told 467 = .ok (.if_icmp .ne 117, 3) := by decide +kernel
theorem dL_told_470 : decode cL_told 470 = .ok (.aload_n 0, 1) := by decide +kernel
theorem dL_told_471 : decode cL_told 471 = .ok (.iconst 2, 1) := by decide +kernel
theorem dL_told_472 : decode cL_told 472 = .ok (.invokevirtual 46, 3) := by decide +kernel
theorem dL_told_475 : decode cL_told 475 = .ok (.aload 5, 2) := by decide +kernel
theorem dL_told_477 : decode cL_told 477 = .ok (.iconst 1, 1) := by decide +kernel
theorem dL_told_478 : decode cL_told 478 = .ok (.iaload, 1) := by decide +kernel
theorem dL_told_479 : decode cL_told 479 = .ok (.if_icmp .ne 105, 3) := by decide +kernel
theorem dL_told_482 : decode cL_told 482 = .ok (.aload_n 0, 1) := by decide +kernel
theorem dL_told_483 : decode cL_told 483 = .ok (.iconst 3, 1) := by decide +kernel
theorem dL_told_484 : decode cL_told 484 = .ok (.invokevirtual 46, 3) := by decide +kernel
theorem dL_told_487 : decode cL_told 487 = .ok (.iconst 1, 1) := by decide +kernel
theorem dL_told_488 : decode cL_told 488 = .ok (.iconst 1, 1) := by decide +kernel
theorem dL_told_489 : decode cL_told 489 = .ok (.aload_n 2, 1) := by decide +kernel
theorem dL_told_490 : decode cL_told 490 = .ok (.aload 5, 2) := by decide +kernel
theorem dL_told_492 : decode cL_told 492 = .ok (.invokestatic 49, 3) := by decide +kernel
theorem dL_told_495 : decode cL_told 495 = .ok (.if_icmp .ne 89, 3) := by decide +kernel
theorem dL_told_498 : decode cL_told 498 = .ok (.aload_n 0, 1) := by decide +kernel
theorem dL_told_499 : decode cL_told 499 = .ok (.iconst 4, 1) := by decide +kernel
theorem dL_told_500 : decode cL_told 500 = .ok (.invokevirtual 46, 3) := by decide +kernel
theorem dL_told_503 : decode cL_told 503 = .ok (.iconst 2, 1) := by decide +kernel
theorem dL_told_504 : decode cL_told 504 = .ok (.iconst 3, 1) := by decide +kernel
theorem dL_told_505 : decode cL_told 505 = .ok (.aload_n 2, 1) := by decide +kernel
theorem dL_told_506 : decode cL_told 506 = .ok (.aload 5, 2) := by decide +kernel
theorem dL_told_508 : decode cL_told 508 = .ok (.invokestatic 49, 3) := by decide +kernel
theorem dL_told_511 : decode cL_told 511 = .ok (.if_icmp .ne 73, 3) := by decide +kernel
theorem dL_told_514 : decode cL_told 514 = .ok (.aload_n 0, 1) := by decide +kernel
theorem dL_told_515 : decode cL_told 515 = .ok (.iconst 5, 1) := by decide +kernel
theorem dL_told_516 : decode cL_told 516 = .ok (.invokevirtual 46, 3) := by decide +kernel
theorem dL_told_519 : decode cL_told 519 = .ok (.iconst 2, 1) := by decide +kernel
theorem dL_told_520 : decode cL_told 520 = .ok (.iconst 5, 1) := by decide +kernel
theorem dL_told_521 : decode cL_told 521 = .ok (.aload_n 2, 1) := by decide +kernel
theorem dL_told_522 : decode cL_told 522 = .ok (.aload 5, 2) := by decide +kernel
theorem dL_told_524 : decode cL_told 524 = .ok (.invokestatic 49, 3) := by decide +kernel
theorem dL_told_527 : decode cL_told 527 = .ok (.if_icmp .ne 57, 3) := by decide +kernel
theorem dL_told_530 : decode cL_told 530 = .ok (.aload_n 0, 1) := by decide +kernel
theorem dL_told_531 : decode cL_told 531 = .ok (.bipush 6, 2) := by decide +kernel
theorem dL_told_533 : decode cL_told 533 = .ok (.invokevirtual 46, 3) := by decide +kernel
theorem dL_told_536 : decode cL_told 536 = .ok (.aload 5, 2) := by decide +kernel
theorem dL_told_538 : decode cL_told 538 = .ok (.iconst 3, 1) := by decide +kernel
theorem dL_told_539 : decode cL_told 539 = .ok (.iaload, 1) := by decide +kernel
theorem dL_told_540 : decode cL_told 540 = .ok (.if_icmp .ne 44, 3) := by decide +kernel
theorem dL_told_543 : decode cL_told 543 = .ok (.aload_n 0, 1) := by decide +kernel
theorem dL_told_544 : decode cL_told 544 = .ok (.bipush 7, 2) := by decide +kernel
theorem dL_told_546 : decode cL_told 546 = .ok (.invokevirtual 46, 3) := by decide +kernel
theorem dL_told_549 : decode cL_told 549 = .ok (.iload 6, 2) := by decide +kernel
theorem dL_told_551 : decode cL_told 551 = .ok (.if_icmp .ne 33, 3) := by decide +kernel
theorem dL_told_554 : decode cL_told 554 = .ok (.aload_n 0, 1) := by decide +kernel
theorem dL_told_555 : decode cL_told 555 = .ok (.invokevirtual 53, 3) := by decide +kernel
theorem dL_told_558 : decode cL_told 558 = .ok (.iload 8, 2) := by decide +kernel
theorem dL_told_560 : decode cL_told 560 = .ok (.ifCond .ne 7, 3) := by decide +kernel
theorem dL_told_563 : decode cL_told 563 = .ok (.dconst 0, 1) := by decide +kernel
theorem dL_told_564 : decode cL_told 564 = .ok (.goto 12, 3) := by decide +kernel
theorem dL_told_567 : decode cL_told 567 = .ok (.dconst 1, 1) := by decide +kernel
theorem dL_told_568 : decode cL_told 568 = .ok (.iload 7, 2) := by decide +kernel
theorem dL_told_570 : decode cL_told 570 = .ok (.i2d, 1) := by decide +kernel
theorem dL_told_571 : decode cL_told 571 = .ok (.dmul, 1) := by decide +kernel
theorem dL_told_572 : decode cL_told 572 = .ok (.iload 8, 2) := by decide +kernel
theorem dL_told_574 : decode cL_told 574 = .ok (.i2d, 1) := by decide +kernel
theorem dL_told_575 : decode cL_told 575 = .ok (.ddiv, 1) := by decide +kernel
theorem dL_told_576 : decode cL_told 576 = .ok (.dcmp .l, 1) := by decide +kernel
theorem dL_told_577 : decode cL_told 577 = .ok (.ifCond .ne 7, 3) := by decide +kernel
theorem dL_told_580 : decode cL_told 580 = .ok (.iconst 1, 1) := by decide +kernel
theorem dL_told_581 : decode cL_told 581 = .ok (.goto 4, 3) := by decide +kernel
theorem dL_told_584 : decode cL_told 584 = .ok (.iconst 0, 1) := by decide +kernel
theorem dL_told_585 : decode cL_told 585 = .ok (.ireturn, 1) := by decide +kernel
theorem dL_ahead_0 : decode cL_ahead 0 = .ok (.bipush 54, 2) := by decide +kernel
theorem dL_ahead_2 : decode cL_ahead 2 = .ok (.newarray .int, 2) := by decide +kernel
theorem dL_ahead_4 : decode cL_ahead 4 = .ok (.astore 6, 2) := by decide +kernel
theorem dL_ahead_6 : decode cL_ahead 6 = .ok (.bipush 24, 2) := by decide +kernel
theorem dL_ahead_8 : decode cL_ahead 8 = .ok (.newarray .int, 2) := by decide +kernel
theorem dL_ahead_10 : decode cL_ahead 10 = .ok (.astore 7, 2) := by decide +kernel
theorem dL_ahead_12 : decode cL_ahead 12 = .ok (.bipush 64, 2) := by decide +kernel
theorem dL_ahead_14 : decode cL_ahead 14 = .ok (.newarray .int, 2) := by decide +kernel
theorem dL_ahead_16 : decode cL_ahead 16 = .ok (.astore 8, 2) := by decide +kernel
theorem dL_ahead_18 : decode cL_ahead 18 = .ok (.bipush 6, 2) := by decide +kernel
theorem dL_ahead_20 : decode cL_ahead 20 = .ok (.newarray .int, 2) := by decide +kernel
theorem dL_ahead_22 : decode cL_ahead 22 = .ok (.astore 9, 2) := by decide +kernel
theorem dL_ahead_24 : decode cL_ahead 24 = .ok (.iconst 0, 1) := by decide +kernel
theorem dL_ahead_25 : decode cL_ahead 25 = .ok (.istore 10, 2) := by decide +kernel
theorem dL_ahead_27 : decode cL_ahead 27 = .ok (.iload 10, 2) := by decide +kernel
theorem dL_ahead_29 : decode cL_ahead 29 = .ok (.iconst 4, 1) := by decide +kernel
theorem dL_ahead_30 : decode cL_ahead 30 = .ok (.if_icmp .ge 561, 3) := by decide +kernel
theorem dL_ahead_33 : decode cL_ahead 33 = .ok (.iconst 0, 1) := by decide +kernel
theorem dL_ahead_34 : decode cL_ahead 34 = .ok (.istore 11, 2) := by decide +kernel
theorem dL_ahead_36 : decode cL_ahead 36 = .ok (.iload 11, 2) := by decide +kernel
theorem dL_ahead_38 : decode cL_ahead 38 = .ok (.bipush 54, 2) := by decide +kernel
theorem dL_ahead_40 : decode cL_ahead 40 = .ok (.if_icmp .ge 19, 3) := by decide +kernel
theorem dL_ahead_43 : decode cL_ahead 43 = .ok (.aload 6, 2) := by decide +kernel
theorem dL_ahead_45 : decode cL_ahead 45 = .ok (.iload 11, 2) := by decide +kernel
theorem dL_ahead_47 : decode cL_ahead 47 = .ok (.aload 4, 2) := by decide +kernel
theorem dL_ahead_49 : decode cL_ahead 49 = .ok (.iload 11, 2) := by decide +kernel
theorem dL_ahead_51 : decode cL_ahead 51 = .ok (.iaload, 1) := by decide +kernel
theorem dL_ahead_52 : decode cL_ahead 52 = .ok (.iastore, 1) := by decide +kernel
theorem dL_ahead_53 : decode cL_ahead 53 = .ok (.iinc 11 1, 3) := by decide +kernel
theorem dL_ahead_56 : decode cL_ahead 56 = .ok (.goto (-20), 3) := by decide +kernel
theorem dL_ahead_59 : decode cL_ahead 59 = .ok (.iconst 0, 1) := by decide +kernel
theorem dL_ahead_60 : decode cL_ahead 60 = .ok (.istore 11, 2) := by decide +kernel
theorem dL_ahead_62 : decode cL_ahead 62 = .ok (.iload 11, 2) := by decide +kernel
theorem dL_ahead_64 : decode cL_ahead 64 = .ok (.bipush 6, 2) := by decide +kernel
theorem dL_ahead_66 : decode cL_ahead 66 = .ok (.if_icmp .ge 19, 3) := by decide +kernel
theorem dL_ahead_69 : decode cL_ahead 69 = .ok (.aload 9, 2) := by decide +kernel
theorem dL_ahead_71 : decode cL_ahead 71 = .ok (.iload 11, 2) := by decide +kernel
theorem dL_ahead_73 : decode cL_ahead 73 = .ok (.aload 5, 2) := by decide +kernel
theorem dL_ahead_75 : decode cL_ahead 75 = .ok (.iload 11, 2) := by decide +kernel
theorem dL_ahead_77 : decode cL_ahead 77 = .ok (.iaload, 1) := by decide +kernel
theorem dL_ahead_78 : decode cL_ahead 78 = .ok (.iastore, 1) := by decide +kernel
theorem dL_ahead_79 : decode cL_ahead 79 = .ok (.iinc 11 1, 3) := by decide +kernel
theorem dL_ahead_82 : decode cL_ahead 82 = .ok (.goto (-20), 3) := by decide +kernel
theorem dL_ahead_85 : decode cL_ahead 85 = .ok (.iload 10, 2) := by decide +kernel
theorem dL_ahead_87 : decode cL_ahead 87 = .ok (.iconst 3, 1) := by decide +kernel
theorem dL_ahead_88 : decode cL_ahead 88 = .ok (.if_icmp .ne 140, 3) := by decide +kernel
theorem dL_ahead_91 : decode cL_ahead 91 = .ok (.aload_n 3, 1) := by decide +kernel
theorem dL_ahead_92 : decode cL_ahead 92 = .ok (.aload 6, 2) := by decide +kernel
theorem dL_ahead_94 : decode cL_ahead 94 = .ok (.aload 7, 2) := by decide +kernel
theorem dL_ahead_96 : decode cL_ahead 96 = .ok (.aload 8, 2) := by decide +kernel
theorem dL_ahead_98 : decode cL_ahead 98 = .ok (.aload 9, 2) := by decide +kernel
theorem dL_ahead_100 : decode cL_ahead 100 = .ok (.invokestatic 57, 3) := by decide +kernel
theorem dL_ahead_103 : decode cL_ahead 103 = .ok (.iconst 1, 1) := by decide +kernel
theorem dL_ahead_104 : decode cL_ahead 104 = .ok (.istore 11, 2) := by decide +kernel
theorem dL_ahead_106 : decode cL_ahead 106 = .ok (.iconst 0, 1) := by decide +kernel
theorem dL_ahead_107 : decode cL_ahead 107 = .ok (.istore 12, 2) := by decide +kernel
theorem dL_ahead_109 : decode cL_ahead 109 = .ok (.iload 12, 2) := by decide +kernel
theorem dL_ahead_111 : decode cL_ahead 111 = .ok (.aload 5, 2) := by decide +kernel
theorem dL_ahead_113 : decode cL_ahead 113 = .ok (.iconst 0, 1) := by decide +kernel
theorem dL_ahead_114 : decode cL_ahead 114 = .ok (.iaload, 1) := by decide +kernel
theorem dL_ahead_115 : decode cL_ahead 115 = .ok (.if_icmp .ge 92, 3) := by decide +kernel
theorem dL_ahead_118 : decode cL_ahead 118 = .ok (.iload 11, 2) := by decide +kernel
theorem dL_ahead_120 : decode cL_ahead 120 = .ok (.ifCond .eq 78, 3) := by decide +kernel
theorem dL_ahead_123 : decode cL_ahead 123 = .ok (.aload 6, 2) := by decide +kernel
theorem dL_ahead_125 : decode cL_ahead 125 = .ok (.bipush 9, 2) := by decide +kernel
theorem dL_ahead_127 : decode cL_ahead 127 = .ok (.iload 12, 2) := by decide +kernel
theorem dL_ahead_129 : decode cL_ahead 129 = .ok (.imul, 1) := by decide +kernel
theorem dL_ahead_130 : decode cL_ahead 130 = .ok (.iconst 2, 1) := by decide +kernel
theorem dL_ahead_131 : decode cL_ahead 131 = .ok (.iadd, 1) := by decide +kernel
theorem dL_ahead_132 : decode cL_ahead 132 = .ok (.iaload, 1) := by decide +kernel
theorem dL_ahead_133 : decode cL_ahead 133 = .ok (.aload 4, 2) := by decide +kernel
theorem dL_ahead_135 : decode cL_ahead 135 = .ok (.bipush 9, 2) := by decide +kernel
theorem dL_ahead_137 : decode cL_ahead 137 = .ok (.iload 12, 2) := by decide +kernel
theorem dL_ahead_139 : decode cL_ahead 139 = .ok (.imul, 1) := by decide +kernel
theorem dL_ahead_140 : decode cL_ahead 140 = .ok (.iconst 2, 1) := by decide +kernel
theorem dL_ahead_141 : decode cL_ahead 141 = .ok (.iadd, 1) := by decide +kernel
theorem dL_ahead_142 : decode cL_ahead 142 = .ok (.iaload, 1) := by decide +kernel
theorem dL_ahead_143 : decode cL_ahead 143 = .ok (.if_icmp .ne 55, 3) := by decide +kernel
theorem dL_ahead_146 : decode cL_ahead 146 = .ok (.aload 6, 2) := by decide +kernel
theorem dL_ahead_148 : decode cL_ahead 148 = .ok (.bipush 9, 2) := by decide +kernel
theorem dL_ahead_150 : decode cL_ahead 150 = .ok (.iload 12, 2) := by decide +kernel
theorem dL_ahead_152 : decode cL_ahead 152 = .ok (.imul, 1) := by decide +kernel
theorem dL_ahead_153 : decode cL_ahead 153 = .ok (.iconst 3, 1) := by decide +kernel
theorem dL_ahead_154 : decode cL_ahead 154 = .ok (.iadd, 1) := by decide +kernel
theorem dL_ahead_155 : decode cL_ahead 155 = .ok (.iaload, 1) := by decide +kernel
theorem dL_ahead_156 : decode cL_ahead 156 = .ok (.aload 4, 2) := by decide +kernel
theorem dL_ahead_158 : decode cL_ahead 158 = .ok (.bipush 9, 2) := by decide +kernel
theorem dL_ahead_160 : decode cL_ahead 160 = .ok (.iload 12, 2) := by decide +kernel
theorem dL_ahead_162 : decode cL_ahead 162 = .ok (.imul, 1) := by decide +kernel
theorem dL_ahead_163 : decode cL_ahead 163 = .ok (.iconst 3, 1) := by decide +kernel
theorem dL_ahead_164 : decode cL_ahead 164 = .ok (.iadd, 1) := by decide +kernel
theorem dL_ahead_165 : decode cL_ahead 165 = .ok (.iaload, 1) := by decide +kernel
theorem dL_ahead_166 : decode cL_ahead 166 = .ok (.if_icmp .ne 32, 3) := by decide +kernel
theorem dL_ahead_169 : decode cL_ahead 169 = .ok (.aload 6, 2) := by decide +kernel
theorem dL_ahead_171 : decode cL_ahead 171 = .ok (.bipush 9, 2) := by decide +kernel
theorem dL_ahead_173 : decode cL_ahead 173 = .ok (.iload 12, 2) := by decide +kernel
theorem dL_ahead_175 : decode cL_ahead 175 = .ok (.imul, 1) := by decide +kernel
theorem dL_ahead_176 : decode cL_ahead 176 = .ok (.bipush 6, 2) := by decide +kernel
theorem dL_ahead_178 : decode cL_ahead 178 = .ok (.iadd, 1) := by decide +kernel
theorem dL_ahead_179 : decode cL_ahead 179 = .ok (.iaload, 1) := by decide +kernel
theorem dL_ahead_180 : decode cL_ahead 180 = .ok (.aload 4, 2) := by decide +kernel
theorem dL_ahead_182 : decode cL_ahead 182 = .ok (.bipush 9, 2) := by decide +kernel
theorem dL_ahead_184 : decode cL_ahead 184 = .ok (.iload 12, 2) := by decide +kernel
theorem dL_ahead_186 : decode cL_ahead 186 = .ok (.imul, 1) := by decide +kernel
theorem dL_ahead_187 : decode cL_ahead 187 = .ok (.bipush 6, 2) := by decide +kernel
theorem dL_ahead_189 : decode cL_ahead 189 = .ok (.iadd, 1) := by decide +kernel
theorem dL_ahead_190 : decode cL_ahead 190 = .ok (.iaload, 1) := by decide +kernel
theorem dL_ahead_191 : decode cL_ahead 191 = .ok (.if_icmp .ne 7, 3) := by decide +kernel
theorem dL_ahead_194 : decode cL_ahead 194 = .ok (.iconst 1, 1) := by decide +kernel
theorem dL_ahead_195 : decode cL_ahead 195 = .ok (.goto 4, 3) := by decide +kernel
theorem dL_ahead_198 : decode cL_ahead 198 = .ok (.iconst 0, 1) := by decide +kernel
theorem dL_ahead_199 : decode cL_ahead 199 = .ok (.istore 11, 2) := by decide +kernel
theorem dL_ahead_201 : decode cL_ahead 201 = .ok (.iinc 12 1, 3) := by decide +kernel
theorem dL_ahead_204 : decode cL_ahead 204 = .ok (.goto (-95), 3) := by decide +kernel
theorem dL_ahead_207 : decode cL_ahead 207 = .ok (.aload_n 0, 1) := by decide +kernel
theorem dL_ahead_208 : decode cL_ahead 208 = .ok (.bipush 9, 2) := by decide +kernel
theorem dL_ahead_210 : decode cL_ahead 210 = .ok (.invokevirtual 46, 3) := by decide +kernel
theorem dL_ahead_213 : decode cL_ahead 213 = .ok (.iload 11, 2) := by decide +kernel
theorem dL_ahead_215 : decode cL_ahead 215 = .ok (.ifCond .eq 7, 3) := by decide +kernel
theorem dL_ahead_218 : decode cL_ahead 218 = .ok (.iconst 1, 1) := by decide +kernel
theorem dL_ahead_219 : decode cL_ahead 219 = .ok (.goto 4, 3) := by decide +kernel
theorem dL_ahead_222 : decode cL_ahead 222 = .ok (.iconst 0, 1) := by decide +kernel
theorem dL_ahead_223 : decode cL_ahead 223 = .ok (.if_icmp .eq 362, 3) := by decide +kernel
theorem dL_ahead_226 : decode cL_ahead 226 = .ok (.iconst 0, 1) := by decide +kernel
theorem dL_ahead_227 : decode cL_ahead 227 = .ok (.ireturn, 1) := by decide +kernel
theorem dL_ahead_228 : decode cL_ahead 228 = .ok (.iload 10, 2) := by decide +kernel
theorem dL_ahead_230 : decode cL_ahead 230 = .ok (.iconst 2, 1) := by decide +kernel
theorem dL_ahead_231 : decode cL_ahead 231 = .ok (.if_icmp .ne 144, 3) := by decide +kernel
theorem dL_ahead_234 : decode cL_ahead 234 = .ok (.iload_n 1, 1) := by decide +kernel
theorem dL_ahead_235 : decode cL_ahead 235 = .ok (.aload 5, 2) := by decide +kernel
theorem dL_ahead_237 : decode cL_ahead 237 = .ok (.iconst 0, 1) := by decide +kernel
theorem dL_ahead_238 : decode cL_ahead 238 = .ok (.iaload, 1) := by decide +kernel
theorem dL_ahead_239 : decode cL_ahead 239 = .ok (.invokestatic 61, 3) := by decide +kernel
theorem dL_ahead_242 : decode cL_ahead 242 = .ok (.istore 11, 2) := by decide +kernel
theorem dL_ahead_244 : decode cL_ahead 244 = .ok (.iconst 1, 1) := by decide +kernel
theorem dL_ahead_245 : decode cL_ahead 245 = .ok (.iload_n 2, 1) := by decide +kernel
theorem dL_ahead_246 : decode cL_ahead 246 = .ok (.iload_n 1, 1) := by decide +kernel
theorem dL_ahead_247 : decode cL_ahead 247 = .ok (.iconst 4, 1) := by decide +kernel
theorem dL_ahead_248 : decode cL_ahead 248 = .ok (.ishr, 1) := by decide +kernel
theorem dL_ahead_249 : decode cL_ahead 249 = .ok (.iconst 3, 1) := by decide +kernel
theorem dL_ahead_250 : decode cL_ahead 250 = .ok (.invokestatic 61, 3) := by decide +kernel
theorem dL_ahead_253 : decode cL_ahead 253 = .ok (.ifCond .ne 9, 3) := by decide +kernel
theorem dL_ahead_256 : decode cL_ahead 256 = .ok (.sipush 500, 3) := by decide +kernel
theorem dL_ahead_259 : decode cL_ahead 259 = .ok (.goto 5, 3) := by decide +kernel
theorem dL_ahead_262 : decode cL_ahead 262 = .ok (.bipush 30, 2) := by decide +kernel
theorem dL_ahead_264 : decode cL_ahead 264 = .ok (.invokestatic 61, 3) := by decide +kernel
theorem dL_ahead_267 : decode cL_ahead 267 = .ok (.iadd, 1) := by decide +kernel
theorem dL_ahead_268 : decode cL_ahead 268 = .ok (.istore 12, 2) := by decide +kernel
theorem dL_ahead_270 : decode cL_ahead 270 = .ok (.aload 6, 2) := by decide +kernel
theorem dL_ahead_272 : decode cL_ahead 272 = .ok (.bipush 9, 2) := by decide +kernel
theorem dL_ahead_274 : decode cL_ahead 274 = .ok (.iload 11, 2) := by decide +kernel
theorem dL_ahead_276 : decode cL_ahead 276 = .ok (.imul, 1) := by decide +kernel
theorem dL_ahead_277 : decode cL_ahead 277 = .ok (.iconst 5, 1) := by decide +kernel
theorem dL_ahead_278 : decode cL_ahead 278 = .ok (.iadd, 1) := by decide +kernel
theorem dL_ahead_279 : decode cL_ahead 279 = .ok (.iload 12, 2) := by decide +kernel
theorem dL_ahead_281 : decode cL_ahead 281 = .ok (.iastore, 1) := by decide +kernel
theorem dL_ahead_282 : decode cL_ahead 282 = .ok (.aload 9, 2) := by decide +kernel
theorem dL_ahead_284 : decode cL_ahead 284 = .ok (.iconst 5, 1) := by decide +kernel
theorem dL_ahead_285 : decode cL_ahead 285 = .ok (.iconst 0, 1) := by decide +kernel
theorem dL_ahead_286 : decode cL_ahead 286 = .ok (.iastore, 1) := by decide +kernel
theorem dL_ahead_287 : decode cL_ahead 287 = .ok (.iconst 0, 1) := by decide +kernel
theorem dL_ahead_288 : decode cL_ahead 288 = .ok (.istore 13, 2) := by decide +kernel
theorem dL_ahead_290 : decode cL_ahead 290 = .ok (.iload 13, 2) := by decide +kernel
theorem dL_ahead_292 : decode cL_ahead 292 = .ok (.bipush 100, 2) := by decide +kernel
theorem dL_ahead_294 : decode cL_ahead 294 = .ok (.if_icmp .ge 21, 3) := by decide +kernel
theorem dL_ahead_297 : decode cL_ahead 297 = .ok (.aload_n 3, 1) := by decide +kernel
theorem dL_ahead_298 : decode cL_ahead 298 = .ok (.aload 6, 2) := by decide +kernel
theorem dL_ahead_300 : decode cL_ahead 300 = .ok (.aload 7, 2) := by decide +kernel
theorem dL_ahead_302 : decode cL_ahead 302 = .ok (.aload 8, 2) := by decide +kernel
theorem dL_ahead_304 : decode cL_ahead 304 = .ok (.aload 9, 2) := by decide +kernel
theorem dL_ahead_306 : decode cL_ahead 306 = .ok (.invokestatic 57, 3) := by decide +kernel
theorem dL_ahead_309 : decode cL_ahead 309 = .ok (.iinc 13 1, 3) := by decide +kernel
theorem dL_ahead_312 : decode cL_ahead 312 = .ok (.goto (-22), 3) := by decide +kernel
theorem dL_ahead_315 : decode cL_ahead 315 = .ok (.aload_n 0, 1) := by decide +kernel
theorem dL_ahead_316 : decode cL_ahead 316 = .ok (.iload 11, 2) := by decide +kernel
theorem dL_ahead_318 : decode cL_ahead 318 = .ok (.iload 12, 2) := by decide +kernel
theorem dL_ahead_320 : decode cL_ahead 320 = .ok (.iconst 0, 1) := by decide +kernel
theorem dL_ahead_321 : decode cL_ahead 321 = .ok (.invokevirtual 64, 3) := by decide +kernel
theorem dL_ahead_324 : decode cL_ahead 324 = .ok (.aload 9, 2) := by decide +kernel
theorem dL_ahead_326 : decode cL_ahead 326 = .ok (.iconst 5, 1) := by decide +kernel
theorem dL_ahead_327 : decode cL_ahead 327 = .ok (.iaload, 1) := by decide +kernel
theorem dL_ahead_328 : decode cL_ahead 328 = .ok (.if_icmp .ne 45, 3) := by decide +kernel
theorem dL_ahead_331 : decode cL_ahead 331 = .ok (.aload_n 0, 1) := by decide +kernel
theorem dL_ahead_332 : decode cL_ahead 332 = .ok (.iload 11, 2) := by decide +kernel
theorem dL_ahead_334 : decode cL_ahead 334 = .ok (.iload 12, 2) := by decide +kernel
theorem dL_ahead_336 : decode cL_ahead 336 = .ok (.iconst 1, 1) := by decide +kernel
theorem dL_ahead_337 : decode cL_ahead 337 = .ok (.invokevirtual 64, 3) := by decide +kernel
theorem dL_ahead_340 : decode cL_ahead 340 = .ok (.iconst 2, 1) := by decide +kernel
theorem dL_ahead_341 : decode cL_ahead 341 = .ok (.iconst 3, 1) := by decide +kernel
theorem dL_ahead_342 : decode cL_ahead 342 = .ok (.aload 6, 2) := by decide +kernel
theorem dL_ahead_344 : decode cL_ahead 344 = .ok (.aload 9, 2) := by decide +kernel
theorem dL_ahead_346 : decode cL_ahead 346 = .ok (.invokestatic 49, 3) := by decide +kernel
theorem dL_ahead_349 : decode cL_ahead 349 = .ok (.if_icmp .ne 24, 3) := by decide +kernel
theorem dL_ahead_352 : decode cL_ahead 352 = .ok (.aload_n 0, 1) := by decide +kernel
theorem dL_ahead_353 : decode cL_ahead 353 = .ok (.iload 11, 2) := by decide +kernel
theorem dL_ahead_355 : decode cL_ahead 355 = .ok (.iload 12, 2) := by decide +kernel
theorem dL_ahead_357 : decode cL_ahead 357 = .ok (.iconst 2, 1) := by decide +kernel
theorem dL_ahead_358 : decode cL_ahead 358 = .ok (.invokevirtual 64, 3) := by decide +kernel
theorem dL_ahead_361 : decode cL_ahead 361 = .ok (.iconst 2, 1) := by decide +kernel
theorem dL_ahead_362 : decode cL_ahead 362 = .ok (.iconst 5, 1) := by decide +kernel
theorem dL_ahead_363 : decode cL_ahead 363 = .ok (.aload 6, 2) := by decide +kernel
theorem dL_ahead_365 : decode cL_ahead 365 = .ok (.aload 9, 2) := by decide +kernel
theorem dL_ahead_367 : decode cL_ahead 367 = .ok (.invokestatic 49, 3) := by decide +kernel
theorem dL_ahead_370 : decode cL_ahead 370 = .ok (.if_icmp .eq 215, 3) := by decide +kernel
theorem dL_ahead_373 : decode cL_ahead 373 = .ok (.iconst 0, 1) := by decide +kernel
theorem dL_ahead_374 : decode cL_ahead 374 = .ok (.ireturn, 1) := by decide +kernel
theorem dL_ahead_375 : decode cL_ahead 375 = .ok (.iload 10, 2) := by decide +kernel
theorem dL_ahead_377 : decode cL_ahead 377 = .ok (.iconst 1, 1) := by decide +kernel
theorem dL_ahead_378 : decode cL_ahead 378 = .ok (.if_icmp .ne 32, 3) := by decide +kernel
theorem dL_ahead_381 : decode cL_ahead 381 = .ok (.iconst 0, 1) := by decide +kernel
theorem dL_ahead_382 : decode cL_ahead 382 = .ok (.istore 11, 2) := by decide +kernel
theorem dL_ahead_384 : decode cL_ahead 384 = .ok (.iload 11, 2) := by decide +kernel
theorem dL_ahead_386 : decode cL_ahead 386 = .ok (.aload 5, 2) := by decide +kernel
theorem dL_ahead_388 : decode cL_ahead 388 = .ok (.iconst 0, 1) := by decide +kernel
theorem dL_ahead_389 : decode cL_ahead 389 = .ok (.iaload, 1) := by decide +kernel
theorem dL_ahead_390 : decode cL_ahead 390 = .ok (.if_icmp .ge 20, 3) := by decide +kernel
theorem dL_ahead_393 : decode cL_ahead 393 = .ok (.aload 6, 2) := by decide +kernel
theorem dL_ahead_395 : decode cL_ahead 395 = .ok (.bipush 9, 2) := by decide +kernel
theorem dL_ahead_397 : decode cL_ahead 397 = .ok (.iload 11, 2) := by decide +kernel
theorem dL_ahead_399 : decode cL_ahead 399 = .ok (.imul, 1) := by decide +kernel
theorem dL_ahead_400 : decode cL_ahead 400 = .ok (.iconst 1, 1) := by decide +kernel
theorem dL_ahead_401 : decode cL_ahead 401 = .ok (.iadd, 1) := by decide +kernel
theorem dL_ahead_402 : decode cL_ahead 402 = .ok (.iconst 0, 1) := by decide +kernel
theorem dL_ahead_403 : decode cL_ahead 403 = .ok (.iastore, 1) := by decide +kernel
theorem dL_ahead_404 : decode cL_ahead 404 = .ok (.iinc 11 1, 3) := by decide +kernel
theorem dL_ahead_407 : decode cL_ahead 407 = .ok (.goto (-23), 3) := by decide +kernel
theorem dL_ahead_410 : decode cL_ahead 410 = .ok (.iconst 0, 1) := by decide +kernel
theorem dL_ahead_411 : decode cL_ahead 411 = .ok (.istore 11, 2) := by decide +kernel
theorem dL_ahead_413 : decode cL_ahead 413 = .ok (.iconst 0, 1) := by decide +kernel
theorem dL_ahead_414 : decode cL_ahead 414 = .ok (.istore 12, 2) := by decide +kernel
theorem dL_ahead_416 : decode cL_ahead 416 = .ok (.iload 11, 2) := by decide +kernel
theorem dL_ahead_418 : decode cL_ahead 418 = .ok (.sipush 1001, 3) := by decide +kernel
theorem dL_ahead_421 : decode cL_ahead 421 = .ok (.if_icmp .ge 132, 3) := by decide +kernel
theorem dL_ahead_424 : decode cL_ahead 424 = .ok (.iload 12, 2) := by decide +kernel
theorem dL_ahead_426 : decode cL_ahead 426 = .ok (.ifCond .ne 127, 3) := by decide +kernel
theorem dL_ahead_429 : decode cL_ahead 429 = .ok (.iconst 1, 1) := by decide +kernel
theorem dL_ahead_430 : decode cL_ahead 430 = .ok (.istore 12, 2) := by decide +kernel
theorem dL_ahead_432 : decode cL_ahead 432 = .ok (.iconst 0, 1) := by decide +kernel
theorem dL_ahead_433 : decode cL_ahead 433 = .ok (.istore 13, 2) := by decide +kernel
theorem dL_ahead_435 : decode cL_ahead 435 = .ok (.iload 13, 2) := by decide +kernel
theorem dL_ahead_437 : decode cL_ahead 437 = .ok (.aload 5, 2) := by decide +kernel
theorem dL_ahead_439 : decode cL_ahead 439 = .ok (.iconst 0, 1) := by decide +kernel
theorem dL_ahead_440 : decode cL_ahead 440 = .ok (.iaload, 1) := by decide +kernel
theorem dL_ahead_441 : decode cL_ahead 441 = .ok (.if_icmp .ge 86, 3) := by decide +kernel
theorem dL_ahead_444 : decode cL_ahead 444 = .ok (.iload 12, 2) := by decide +kernel
theorem dL_ahead_446 : decode cL_ahead 446 = .ok (.ifCond .eq 72, 3) := by decide +kernel
theorem dL_ahead_449 : decode cL_ahead 449 = .ok (.iload 10, 2) := by decide +kernel
theorem dL_ahead_451 : decode cL_ahead 451 = .ok (.ifCond .ne 33, 3) := by decide +kernel
theorem dL_ahead_454 : decode cL_ahead 454 = .ok (.aload 6, 2) := by decide +kernel
theorem dL_ahead_456 : decode cL_ahead 456 = .ok (.bipush 9, 2) := by decide +kernel
theorem dL_ahead_458 : decode cL_ahead 458 = .ok (.iload 13, 2) := by decide +kernel
theorem dL_ahead_460 : decode cL_ahead 460 = .ok (.imul, 1) := by decide +kernel
theorem dL_ahead_461 : decode cL_ahead 461 = .ok (.iconst 1, 1) := by decide +kernel
theorem dL_ahead_462 : decode cL_ahead 462 = .ok (.iadd, 1) := by decide +kernel
theorem dL_ahead_463 : decode cL_ahead 463 = .ok (.iaload, 1) := by decide +kernel
theorem dL_ahead_464 : decode cL_ahead 464 = .ok (.ifCond .eq 50, 3) := by decide +kernel
theorem dL_ahead_467 : decode cL_ahead 467 = .ok (.aload 6, 2) := by decide +kernel
theorem dL_ahead_469 : decode cL_ahead 469 = .ok (.bipush 9, 2) := by decide +kernel
theorem dL_ahead_471 : decode cL_ahead 471 = .ok (.iload 13, 2) := by decide +kernel
theorem dL_ahead_473 : decode cL_ahead 473 = .ok (.imul, 1) := by decide +kernel
theorem dL_ahead_474 : decode cL_ahead 474 = .ok (.iconst 2, 1) := by decide +kernel
theorem dL_ahead_475 : decode cL_ahead 475 = .ok (.iadd, 1) := by decide +kernel
theorem dL_ahead_476 : decode cL_ahead 476 = .ok (.iaload, 1) := by decide +kernel
theorem dL_ahead_477 : decode cL_ahead 477 = .ok (.iconst 3, 1) := by decide +kernel
theorem dL_ahead_478 : decode cL_ahead 478 = .ok (.if_icmp .ne 40, 3) := by decide +kernel
theorem dL_ahead_481 : decode cL_ahead 481 = .ok (.goto 33, 3) := by decide +kernel
theorem dL_ahead_484 : decode cL_ahead 484 = .ok (.aload 6, 2) := by decide +kernel
theorem dL_ahead_486 : decode cL_ahead 486 = .ok (.bipush 9, 2) := by decide +kernel
theorem dL_ahead_488 : decode cL_ahead 488 = .ok (.iload 13, 2) := by decide +kernel
theorem dL_ahead_490 : decode cL_ahead 490 = .ok (.imul, 1) := by decide +kernel
theorem dL_ahead_491 : decode cL_ahead 491 = .ok (.iconst 2, 1) := by decide +kernel
theorem dL_ahead_492 : decode cL_ahead 492 = .ok (.iadd, 1) := by decide +kernel
theorem dL_ahead_493 : decode cL_ahead 493 = .ok (.iaload, 1) := by decide +kernel
theorem dL_ahead_494 : decode cL_ahead 494 = .ok (.ifCond .ne 24, 3) := by decide +kernel
theorem dL_ahead_497 : decode cL_ahead 497 = .ok (.aload 6, 2) := by decide +kernel
theorem dL_ahead_499 : decode cL_ahead 499 = .ok (.bipush 9, 2) := by decide +kernel
theorem dL_ahead_501 : decode cL_ahead 501 = .ok (.iload 13, 2) := by decide +kernel
theorem dL_ahead_503 : decode cL_ahead 503 = .ok (.imul, 1) := by decide +kernel
theorem dL_ahead_504 : decode cL_ahead 504 = .ok (.iconst 3, 1) := by decide +kernel
theorem dL_ahead_505 : decode cL_ahead 505 = .ok (.iadd, 1) := by decide +kernel
theorem dL_ahead_506 : decode cL_ahead 506 = .ok (.iaload, 1) := by decide +kernel
theorem dL_ahead_507 : decode cL_ahead 507 = .ok (.aload 5, 2) := by decide +kernel
theorem dL_ahead_509 : decode cL_ahead 509 = .ok (.iconst 1, 1) := by decide +kernel
theorem dL_ahead_510 : decode cL_ahead 510 = .ok (.iaload, 1) := by decide +kernel
theorem dL_ahead_511 : decode cL_ahead 511 = .ok (.if_icmp .gt 7, 3) := by decide +kernel
theorem dL_ahead_514 : decode cL_ahead 514 = .ok (.iconst 1, 1) := by decide +kernel
theorem dL_ahead_515 : decode cL_ahead 515 = .ok (.goto 4, 3) := by decide +kernel
theorem dL_ahead_518 : decode cL_ahead 518 = .ok (.iconst 0, 1) := by decide +kernel
theorem dL_ahead_519 : decode cL_ahead 519 = .ok (.istore 12, 2) := by decide +kernel
theorem dL_ahead_521 : decode cL_ahead 521 = .ok (.iinc 13 1, 3) := by decide +kernel
theorem dL_ahead_524 : decode cL_ahead 524 = .ok (.goto (-89), 3) := by decide +kernel
theorem dL_ahead_527 : decode cL_ahead 527 = .ok (.iload 12, 2) := by decide +kernel
theorem dL_ahead_529 : decode cL_ahead 529 = .ok (.ifCond .eq 6, 3) := by decide +kernel
theorem dL_ahead_532 : decode cL_ahead 532 = .ok (.goto 21, 3) := by decide +kernel
theorem dL_ahead_535 : decode cL_ahead 535 = .ok (.aload_n 3, 1) := by decide +kernel
theorem dL_ahead_536 : decode cL_ahead 536 = .ok (.aload 6, 2) := by decide +kernel
theorem dL_ahead_538 : decode cL_ahead 538 = .ok (.aload 7, 2) := by decide +kernel
theorem dL_ahead_540 : decode cL_ahead 540 = .ok (.aload 8, 2) := by decide +kernel
theorem dL_ahead_542 : decode cL_ahead 542 = .ok (.aload 9, 2) := by decide +kernel
theorem dL_ahead_544 : decode cL_ahead 544 = .ok (.invokestatic 57, 3) := by decide +kernel
theorem dL_ahead_547 : decode cL_ahead 547 = .ok (.iinc 11 1, 3) := by decide +kernel
theorem dL_ahead_550 : decode cL_ahead 550 = .ok (.goto (-134), 3) := by decide +kernel
theorem dL_ahead_553 : decode cL_ahead 553 = .ok (.iload 10, 2) := by decide +kernel
theorem dL_ahead_555 : decode cL_ahead 555 = .ok (.ifCond .ne 10, 3) := by decide +kernel
theorem dL_ahead_558 : decode cL_ahead 558 = .ok (.aload_n 0, 1) := by decide +kernel
theorem dL_ahead_559 : decode cL_ahead 559 = .ok (.invokevirtual 68, 3) := by decide +kernel
theorem dL_ahead_562 : decode cL_ahead 562 = .ok (.goto 7, 3) := by decide +kernel
theorem dL_ahead_565 : decode cL_ahead 565 = .ok (.aload_n 0, 1) := by decide +kernel
theorem dL_ahead_566 : decode cL_ahead 566 = .ok (.invokevirtual 72, 3) := by decide +kernel
theorem dL_ahead_569 : decode cL_ahead 569 = .ok (.iload 12, 2) := by decide +kernel
theorem dL_ahead_571 : decode cL_ahead 571 = .ok (.ifCond .eq 8, 3) := by decide +kernel
theorem dL_ahead_574 : decode cL_ahead 574 = .ok (.iload 11, 2) := by decide +kernel
theorem dL_ahead_576 : decode cL_ahead 576 = .ok (.goto 4, 3) := by decide +kernel
theorem dL_ahead_579 : decode cL_ahead 579 = .ok (.iconst (-1), 1) := by decide +kernel
theorem dL_ahead_580 : decode cL_ahead 580 = .ok (.if_icmp .eq 5, 3) := by decide +kernel
theorem dL_ahead_583 : decode cL_ahead 583 = .ok (.iconst 0, 1) := by decide +kernel
theorem dL_ahead_584 : decode cL_ahead 584 = .ok (.ireturn, 1) := by decide +kernel
theorem dL_ahead_585 : decode cL_ahead 585 = .ok (.iinc 10 1, 3) := by decide +kernel
theorem dL_ahead_588 : decode cL_ahead 588 = .ok (.goto (-561), 3) := by decide +kernel
theorem dL_ahead_591 : decode cL_ahead 591 = .ok (.iconst 1, 1) := by decide +kernel
theorem dL_ahead_592 : decode cL_ahead 592 = .ok (.ireturn, 1) := by decide +kernel
theorem dL_value_0 : decode cL_value 0 = .ok (.iload_n 0, 1) := by decide +kernel
theorem dL_value_1 : decode cL_value 1 = .ok (.ifCond .ne 16, 3) := by decide +kernel
theorem dL_value_4 : decode cL_value 4 = .ok (.bipush 100, 2) := by decide +kernel
theorem dL_value_6 : decode cL_value 6 = .ok (.iload_n 1, 1) := by decide +kernel
theorem dL_value_7 : decode cL_value 7 = .ok (.sipush 4901, 3) := by decide +kernel
theorem dL_value_10 : decode cL_value 10 = .ok (.invokestatic 61, 3) := by decide +kernel
theorem dL_value_13 : decode cL_value 13 = .ok (.iadd, 1) := by decide +kernel
theorem dL_value_14 : decode cL_value 14 = .ok (.goto 91, 3) := by decide +kernel
theorem dL_value_17 : decode cL_value 17 = .ok (.iload_n 0, 1) := by decide +kernel
theorem dL_value_18 : decode cL_value 18 = .ok (.iconst 3, 1) := by decide +kernel
theorem dL_value_19 : decode cL_value 19 = .ok (.if_icmp .ge 32, 3) := by decide +kernel
theorem dL_value_22 : decode cL_value 22 = .ok (.iconst 1, 1) := by decide +kernel
theorem dL_value_23 : decode cL_value 23 = .ok (.iload_n 1, 1) := by decide +kernel
theorem dL_value_24 : decode cL_value 24 = .ok (.iload_n 1, 1) := by decide +kernel
theorem dL_value_25 : decode cL_value 25 = .ok (.bipush 9, 2) := by decide +kernel
theorem dL_value_27 : decode cL_value 27 = .ok (.ishr, 1) := by decide +kernel
theorem dL_value_28 : decode cL_value 28 = .ok (.iconst 2, 1) := by decide +kernel
theorem dL_value_29 : decode cL_value 29 = .ok (.invokestatic 61, 3) := by decide +kernel
theorem dL_value_32 : decode cL_value 32 = .ok (.ifCond .ne 9, 3) := by decide +kernel
theorem dL_value_35 : decode cL_value 35 = .ok (.sipush 1000, 3) := by decide +kernel
theorem dL_value_38 : decode cL_value 38 = .ok (.goto 6, 3) := by decide +kernel
theorem dL_value_41 : decode cL_value 41 = .ok (.sipush 200, 3) := by decide +kernel
theorem dL_value_44 : decode cL_value 44 = .ok (.invokestatic 61, 3) := by decide +kernel
theorem dL_value_47 : decode cL_value 47 = .ok (.iadd, 1) := by decide +kernel
theorem dL_value_48 : decode cL_value 48 = .ok (.goto 57, 3) := by decide +kernel
theorem dL_value_51 : decode cL_value 51 = .ok (.iload_n 0, 1) := by decide +kernel
theorem dL_value_52 : decode cL_value 52 = .ok (.iconst 3, 1) := by decide +kernel
theorem dL_value_53 : decode cL_value 53 = .ok (.if_icmp .ne 15, 3) := by decide +kernel
theorem dL_value_56 : decode cL_value 56 = .ok (.bipush 50, 2) := by decide +kernel
theorem dL_value_58 : decode cL_value 58 = .ok (.iload_n 1, 1) := by decide +kernel
theorem dL_value_59 : decode cL_value 59 = .ok (.bipush 51, 2) := by decide +kernel
theorem dL_value_61 : decode cL_value 61 = .ok (.invokestatic 61, 3) := by decide +kernel
theorem dL_value_64 : decode cL_value 64 = .ok (.iadd, 1) := by decide +kernel
theorem dL_value_65 : decode cL_value 65 = .ok (.goto 40, 3) := by decide +kernel
theorem dL_value_68 : decode cL_value 68 = .ok (.iload_n 0, 1) := by decide +kernel
theorem dL_value_69 : decode cL_value 69 = .ok (.iconst 4, 1) := by decide +kernel
theorem dL_value_70 : decode cL_value 70 = .ok (.if_icmp .ne 12, 3) := by decide +kernel
theorem dL_value_73 : decode cL_value 73 = .ok (.iload_n 1, 1) := by decide +kernel
theorem dL_value_74 : decode cL_value 74 = .ok (.bipush 12, 2) := by decide +kernel
theorem dL_value_76 : decode cL_value 76 = .ok (.invokestatic 61, 3) := by decide +kernel
theorem dL_value_79 : decode cL_value 79 = .ok (.goto 26, 3) := by decide +kernel
theorem dL_value_82 : decode cL_value 82 = .ok (.iload_n 0, 1) := by decide +kernel
theorem dL_value_83 : decode cL_value 83 = .ok (.iconst 5, 1) := by decide +kernel
theorem dL_value_84 : decode cL_value 84 = .ok (.if_icmp .ne 14, 3) := by decide +kernel
theorem dL_value_87 : decode cL_value 87 = .ok (.iconst 1, 1) := by decide +kernel
theorem dL_value_88 : decode cL_value 88 = .ok (.iload_n 1, 1) := by decide +kernel
theorem dL_value_89 : decode cL_value 89 = .ok (.bipush 60, 2) := by decide +kernel
theorem dL_value_91 : decode cL_value 91 = .ok (.invokestatic 61, 3) := by decide +kernel
theorem dL_value_94 : decode cL_value 94 = .ok (.iadd, 1) := by decide +kernel
theorem dL_value_95 : decode cL_value 95 = .ok (.goto 10, 3) := by decide +kernel
theorem dL_value_98 : decode cL_value 98 = .ok (.iconst 1, 1) := by decide +kernel
theorem dL_value_99 : decode cL_value 99 = .ok (.iload_n 1, 1) := by decide +kernel
theorem dL_value_100 : decode cL_value 100 = .ok (.iconst 4, 1) := by decide +kernel
theorem dL_value_101 : decode cL_value 101 = .ok (.invokestatic 61, 3) := by decide +kernel
theorem dL_value_104 : decode cL_value 104 = .ok (.iadd, 1) := by decide +kernel
theorem dL_value_105 : decode cL_value 105 = .ok (.ireturn, 1) := by decide +kernel
theorem dL_act_0 : decode cL_act 0 = .ok (.iload_n 1, 1) := by decide +kernel
theorem dL_act_1 : decode cL_act 1 = .ok (.iconst 2, 1) := by decide +kernel
theorem dL_act_2 : decode cL_act 2 = .ok (.if_icmp .ge 224, 3) := by decide +kernel
theorem dL_act_5 : decode cL_act 5 = .ok (.aload 8, 2) := by decide +kernel
theorem dL_act_7 : decode cL_act 7 = .ok (.iconst 0, 1) := by decide +kernel
theorem dL_act_8 : decode cL_act 8 = .ok (.iaload, 1) := by decide +kernel
theorem dL_act_9 : decode cL_act 9 = .ok (.bipush 6, 2) := by decide +kernel
theorem dL_act_11 : decode cL_act 11 = .ok (.if_icmp .ne 5, 3) := by decide +kernel
theorem dL_act_14 : decode cL_act 14 = .ok (.iconst 1, 1) := by decide +kernel
theorem dL_act_15 : decode cL_act 15 = .ok (.ireturn, 1) := by decide +kernel
theorem dL_act_16 : decode cL_act 16 = .ok (.aload 8, 2) := by decide +kernel
theorem dL_act_18 : decode cL_act 18 = .ok (.iconst 0, 1) := by decide +kernel
theorem dL_act_19 : decode cL_act 19 = .ok (.iaload, 1) := by decide +kernel
theorem dL_act_20 : decode cL_act 20 = .ok (.istore 9, 2) := by decide +kernel
theorem dL_act_22 : decode cL_act 22 = .ok (.bipush 7, 2) := by decide +kernel
theorem dL_act_24 : decode cL_act 24 = .ok (.newarray .int, 2) := by decide +kernel
theorem dL_act_26 : decode cL_act 26 = .ok (.astore 10, 2) := by decide +kernel
theorem dL_act_28 : decode cL_act 28 = .ok (.aload 10, 2) := by decide +kernel
theorem dL_act_30 : decode cL_act 30 = .ok (.iconst 0, 1) := by decide +kernel
theorem dL_act_31 : decode cL_act 31 = .ok (.iconst 0, 1) := by decide +kernel
theorem dL_act_32 : decode cL_act 32 = .ok (.iload_n 2, 1) := by decide +kernel
theorem dL_act_33 : decode cL_act 33 = .ok (.invokestatic 75, 3) := by decide +kernel
theorem dL_act_36 : decode cL_act 36 = .ok (.iastore, 1) := by decide +kernel
theorem dL_act_37 : decode cL_act 37 = .ok (.aload 10, 2) := by decide +kernel
theorem dL_act_39 : decode cL_act 39 = .ok (.iconst 1, 1) := by decide +kernel
theorem dL_act_40 : decode cL_act 40 = .ok (.bipush 20, 2) := by decide +kernel
theorem dL_act_42 : decode cL_act 42 = .ok (.iconst 1, 1) := by decide +kernel
theorem dL_act_43 : decode cL_act 43 = .ok (.iload_n 3, 1) := by decide +kernel
theorem dL_act_44 : decode cL_act 44 = .ok (.invokestatic 75, 3) := by decide +kernel
theorem dL_act_47 : decode cL_act 47 = .ok (.sipush 900, 3) := by decide +kernel
theorem dL_act_50 : decode cL_act 50 = .ok (.irem, 1) := by decide +kernel
theorem dL_act_51 : decode cL_act 51 = .ok (.iadd, 1) := by decide +kernel
theorem dL_act_52 : decode cL_act 52 = .ok (.iastore, 1) := by decide +kernel
theorem dL_act_53 : decode cL_act 53 = .ok (.aload 10, 2) := by decide +kernel
theorem dL_act_55 : decode cL_act 55 = .ok (.iconst 2, 1) := by decide +kernel
theorem dL_act_56 : decode cL_act 56 = .ok (.bipush 20, 2) := by decide +kernel
theorem dL_act_58 : decode cL_act 58 = .ok (.iconst 2, 1) := by decide +kernel
theorem dL_act_59 : decode cL_act 59 = .ok (.iload_n 2, 1) := by decide +kernel
theorem dL_act_60 : decode cL_act 60 = .ok (.iconst 3, 1) := by decide +kernel
theorem dL_act_61 : decode cL_act 61 = .ok (.ishr, 1) := by decide +kernel
theorem dL_act_62 : decode cL_act 62 = .ok (.invokestatic 75, 3) := by decide +kernel
theorem dL_act_65 : decode cL_act 65 = .ok (.sipush 900, 3) := by decide +kernel
theorem dL_act_68 : decode cL_act 68 = .ok (.irem, 1) := by decide +kernel
theorem dL_act_69 : decode cL_act 69 = .ok (.iadd, 1) := by decide +kernel
theorem dL_act_70 : decode cL_act 70 = .ok (.iastore, 1) := by decide +kernel
theorem dL_act_71 : decode cL_act 71 = .ok (.aload 10, 2) := by decide +kernel
theorem dL_act_73 : decode cL_act 73 = .ok (.iconst 3, 1) := by decide +kernel
theorem dL_act_74 : decode cL_act 74 = .ok (.bipush 90, 2) := by decide +kernel
theorem dL_act_76 : decode cL_act 76 = .ok (.iastore, 1) := by decide +kernel
theorem dL_act_77 : decode cL_act 77 = .ok (.aload 10, 2) := by decide +kernel
theorem dL_act_79 : decode cL_act 79 = .ok (.iconst 4, 1) := by decide +kernel
theorem dL_act_80 : decode cL_act 80 = .ok (.iconst 2, 1) := by decide +kernel
theorem dL_act_81 : decode cL_act 81 = .ok (.iastore, 1) := by decide +kernel
theorem dL_act_82 : decode cL_act 82 = .ok (.aload 10, 2) := by decide +kernel
theorem dL_act_84 : decode cL_act 84 = .ok (.iconst 5, 1) := by decide +kernel
theorem dL_act_85 : decode cL_act 85 = .ok (.bipush 40, 2) := by decide +kernel
theorem dL_act_87 : decode cL_act 87 = .ok (.iastore, 1) := by decide +kernel
theorem dL_act_88 : decode cL_act 88 = .ok (.aload 10, 2) := by decide +kernel
theorem dL_act_90 : decode cL_act 90 = .ok (.bipush 6, 2) := by decide +kernel
theorem dL_act_92 : decode cL_act 92 = .ok (.iconst 2, 1) := by decide +kernel
theorem dL_act_93 : decode cL_act 93 = .ok (.iastore, 1) := by decide +kernel
theorem dL_act_94 : decode cL_act 94 = .ok (.iconst 0, 1) := by decide +kernel
theorem dL_act_95 : decode cL_act 95 = .ok (.istore 11, 2) := by decide +kernel
theorem dL_act_97 : decode cL_act 97 = .ok (.iload 11, 2) := by decide +kernel
theorem dL_act_99 : decode cL_act 99 = .ok (.bipush 7, 2) := by decide +kernel
theorem dL_act_101 : decode cL_act 101 = .ok (.if_icmp .ge 25, 3) := by decide +kernel
theorem dL_act_104 : decode cL_act 104 = .ok (.aload 4, 2) := by decide +kernel
theorem dL_act_106 : decode cL_act 106 = .ok (.bipush 7, 2) := by decide +kernel
theorem dL_act_108 : decode cL_act 108 = .ok (.iload 9, 2) := by decide +kernel
theorem dL_act_110 : decode cL_act 110 = .ok (.imul, 1) := by decide +kernel
theorem dL_act_111 : decode cL_act 111 = .ok (.iload 11, 2) := by decide +kernel
theorem dL_act_113 : decode cL_act 113 = .ok (.iadd, 1) := by decide +kernel
theorem dL_act_114 : decode cL_act 114 = .ok (.aload 10, 2) := by decide +kernel
theorem dL_act_116 : decode cL_act 116 = .ok (.iload 11, 2) := by decide +kernel
theorem dL_act_118 : decode cL_act 118 = .ok (.iaload, 1) := by decide +kernel
theorem dL_act_119 : decode cL_act 119 = .ok (.iastore, 1) := by decide +kernel
theorem dL_act_120 : decode cL_act 120 = .ok (.iinc 11 1, 3) := by decide +kernel
theorem dL_act_123 : decode cL_act 123 = .ok (.goto (-26), 3) := by decide +kernel
theorem dL_act_126 : decode cL_act 126 = .ok (.iconst 0, 1) := by decide +kernel
theorem dL_act_127 : decode cL_act 127 = .ok (.istore 11, 2) := by decide +kernel
theorem dL_act_129 : decode cL_act 129 = .ok (.iload 11, 2) := by decide +kernel
theorem dL_act_131 : decode cL_act 131 = .ok (.bipush 9, 2) := by decide +kernel
theorem dL_act_133 : decode cL_act 133 = .ok (.if_icmp .ge 32, 3) := by decide +kernel
theorem dL_act_136 : decode cL_act 136 = .ok (.aload 5, 2) := by decide +kernel
theorem dL_act_138 : decode cL_act 138 = .ok (.bipush 9, 2) := by decide +kernel
theorem dL_act_140 : decode cL_act 140 = .ok (.iload 9, 2) := by decide +kernel
theorem dL_act_142 : decode cL_act 142 = .ok (.imul, 1) := by decide +kernel
theorem dL_act_143 : decode cL_act 143 = .ok (.iload 11, 2) := by decide +kernel
theorem dL_act_145 : decode cL_act 145 = .ok (.iadd, 1) := by decide +kernel
theorem dL_act_146 : decode cL_act 146 = .ok (.iload 11, 2) := by decide +kernel
theorem dL_act_148 : decode cL_act 148 = .ok (.bipush 8, 2) := by decide +kernel
theorem dL_act_150 : decode cL_act 150 = .ok (.if_icmp .ne 7, 3) := by decide +kernel
theorem dL_act_153 : decode cL_act 153 = .ok (.iconst (-1), 1) := by decide +kernel
theorem dL_act_154 : decode cL_act 154 = .ok (.goto 4, 3) := by decide +kernel
theorem dL_act_157 : decode cL_act 157 = .ok (.iconst 0, 1) := by decide +kernel
theorem dL_act_158 : decode cL_act 158 = .ok (.iastore, 1) := by decide +kernel
theorem dL_act_159 : decode cL_act 159 = .ok (.iinc 11 1, 3) := by decide +kernel
theorem dL_act_162 : decode cL_act 162 = .ok (.goto (-33), 3) := by decide +kernel
theorem dL_act_165 : decode cL_act 165 = .ok (.aload 5, 2) := by decide +kernel
theorem dL_act_167 : decode cL_act 167 = .ok (.bipush 9, 2) := by decide +kernel
theorem dL_act_169 : decode cL_act 169 = .ok (.iload 9, 2) := by decide +kernel
theorem dL_act_171 : decode cL_act 171 = .ok (.imul, 1) := by decide +kernel
theorem dL_act_172 : decode cL_act 172 = .ok (.iload_n 3, 1) := by decide +kernel
theorem dL_act_173 : decode cL_act 173 = .ok (.iconst 4, 1) := by decide +kernel
theorem dL_act_174 : decode cL_act 174 = .ok (.ishr, 1) := by decide +kernel
theorem dL_act_175 : decode cL_act 175 = .ok (.iconst 1, 1) := by decide +kernel
theorem dL_act_176 : decode cL_act 176 = .ok (.iload 9, 2) := by decide +kernel
theorem dL_act_178 : decode cL_act 178 = .ok (.ishl, 1) := by decide +kernel
theorem dL_act_179 : decode cL_act 179 = .ok (.invokestatic 61, 3) := by decide +kernel
theorem dL_act_182 : decode cL_act 182 = .ok (.iastore, 1) := by decide +kernel
theorem dL_act_183 : decode cL_act 183 = .ok (.aload 8, 2) := by decide +kernel
theorem dL_act_185 : decode cL_act 185 = .ok (.iconst 0, 1) := by decide +kernel
theorem dL_act_186 : decode cL_act 186 = .ok (.dup2, 1) := by decide +kernel
theorem dL_act_187 : decode cL_act 187 = .ok (.iaload, 1) := by decide +kernel
theorem dL_act_188 : decode cL_act 188 = .ok (.iconst 1, 1) := by decide +kernel
theorem dL_act_189 : decode cL_act 189 = .ok (.iadd, 1) := by decide +kernel
theorem dL_act_190 : decode cL_act 190 = .ok (.iastore, 1) := by decide +kernel
theorem dL_act_191 : decode cL_act 191 = .ok (.aload_n 0, 1) := by decide +kernel
theorem dL_act_192 : decode cL_act 192 = .ok (.aload 10, 2) := by decide +kernel
theorem dL_act_194 : decode cL_act 194 = .ok (.iconst 0, 1) := by decide +kernel
theorem dL_act_195 : decode cL_act 195 = .ok (.iaload, 1) := by decide +kernel
theorem dL_act_196 : decode cL_act 196 = .ok (.aload 10, 2) := by decide +kernel
theorem dL_act_198 : decode cL_act 198 = .ok (.iconst 1, 1) := by decide +kernel
theorem dL_act_199 : decode cL_act 199 = .ok (.iaload, 1) := by decide +kernel
theorem dL_act_200 : decode cL_act 200 = .ok (.aload 10, 2) := by decide +kernel
theorem dL_act_202 : decode cL_act 202 = .ok (.iconst 2, 1) := by decide +kernel
theorem dL_act_203 : decode cL_act 203 = .ok (.iaload, 1) := by decide +kernel
theorem dL_act_204 : decode cL_act 204 = .ok (.aload 5, 2) := by decide +kernel
theorem dL_act_206 : decode cL_act 206 = .ok (.bipush 9, 2) := by decide +kernel
theorem dL_act_208 : decode cL_act 208 = .ok (.iload 9, 2) := by decide +kernel
theorem dL_act_210 : decode cL_act 210 = .ok (.imul, 1) := by decide +kernel
theorem dL_act_211 : decode cL_act 211 = .ok (.iaload, 1) := by decide +kernel
theorem dL_act_212 : decode cL_act 212 = .ok (.invokevirtual 78, 3) := by decide +kernel
theorem dL_act_215 : decode cL_act 215 = .ok (.iload 9, 2) := by decide +kernel
theorem dL_act_217 : decode cL_act 217 = .ok (.if_icmp .ne 7, 3) := by decide +kernel
theorem dL_act_220 : decode cL_act 220 = .ok (.iconst 1, 1) := by decide +kernel
theorem dL_act_221 : decode cL_act 221 = .ok (.goto 4, 3) := by decide +kernel
theorem dL_act_224 : decode cL_act 224 = .ok (.iconst 0, 1) := by decide +kernel
theorem dL_act_225 : decode cL_act 225 = .ok (.ireturn, 1) := by decide +kernel
theorem dL_act_226 : decode cL_act 226 = .ok (.iload_n 1, 1) := by decide +kernel
theorem dL_act_227 : decode cL_act 227 = .ok (.bipush 7, 2) := by decide +kernel
theorem dL_act_229 : decode cL_act 229 = .ok (.if_icmp .ge 79, 3) := by decide +kernel
theorem dL_act_232 : decode cL_act 232 = .ok (.iconst 1, 1) := by decide +kernel
theorem dL_act_233 : decode cL_act 233 = .ok (.iload_n 3, 1) := by decide +kernel
theorem dL_act_234 : decode cL_act 234 = .ok (.iload_n 2, 1) := by decide +kernel
theorem dL_act_235 : decode cL_act 235 = .ok (.iconst 3, 1) := by decide +kernel
theorem dL_act_236 : decode cL_act 236 = .ok (.invokestatic 61, 3) := by decide +kernel
theorem dL_act_239 : decode cL_act 239 = .ok (.ifCond .ne 8, 3) := by decide +kernel
theorem dL_act_242 : decode cL_act 242 = .ok (.bipush 60, 2) := by decide +kernel
theorem dL_act_244 : decode cL_act 244 = .ok (.goto 5, 3) := by decide +kernel
theorem dL_act_247 : decode cL_act 247 = .ok (.bipush 12, 2) := by decide +kernel
theorem dL_act_249 : decode cL_act 249 = .ok (.invokestatic 61, 3) := by decide +kernel
theorem dL_act_252 : decode cL_act 252 = .ok (.iadd, 1) := by decide +kernel
theorem dL_act_253 : decode cL_act 253 = .ok (.istore 9, 2) := by decide +kernel
theorem dL_act_255 : decode cL_act 255 = .ok (.aload 8, 2) := by decide +kernel
theorem dL_act_257 : decode cL_act 257 = .ok (.iconst 4, 1) := by decide +kernel
theorem dL_act_258 : decode cL_act 258 = .ok (.iconst 0, 1) := by decide +kernel
theorem dL_act_259 : decode cL_act 259 = .ok (.iastore, 1) := by decide +kernel
theorem dL_act_260 : decode cL_act 260 = .ok (.iconst 0, 1) := by decide +kernel
theorem dL_act_261 : decode cL_act 261 = .ok (.istore 10, 2) := by decide +kernel
theorem dL_act_263 : decode cL_act 263 = .ok (.iload 10, 2) := by decide +kernel
theorem dL_act_265 : decode cL_act 265 = .ok (.iload 9, 2) := by decide +kernel
theorem dL_act_267 : decode cL_act 267 = .ok (.if_icmp .ge 22, 3) := by decide +kernel
theorem dL_act_270 : decode cL_act 270 = .ok (.aload 4, 2) := by decide +kernel
theorem dL_act_272 : decode cL_act 272 = .ok (.aload 5, 2) := by decide +kernel
theorem dL_act_274 : decode cL_act 274 = .ok (.aload 6, 2) := by decide +kernel
theorem dL_act_276 : decode cL_act 276 = .ok (.aload 7, 2) := by decide +kernel
theorem dL_act_278 : decode cL_act 278 = .ok (.aload 8, 2) := by decide +kernel
theorem dL_act_280 : decode cL_act 280 = .ok (.invokestatic 57, 3) := by decide +kernel
theorem dL_act_283 : decode cL_act 283 = .ok (.iinc 10 1, 3) := by decide +kernel
theorem dL_act_286 : decode cL_act 286 = .ok (.goto (-23), 3) := by decide +kernel
theorem dL_act_289 : decode cL_act 289 = .ok (.aload_n 0, 1) := by decide +kernel
theorem dL_act_290 : decode cL_act 290 = .ok (.iload 9, 2) := by decide +kernel
theorem dL_act_292 : decode cL_act 292 = .ok (.invokevirtual 82, 3) := by decide +kernel
theorem dL_act_295 : decode cL_act 295 = .ok (.aload 8, 2) := by decide +kernel
theorem dL_act_297 : decode cL_act 297 = .ok (.iconst 4, 1) := by decide +kernel
theorem dL_act_298 : decode cL_act 298 = .ok (.iaload, 1) := by decide +kernel
theorem dL_act_299 : decode cL_act 299 = .ok (.if_icmp .ne 7, 3) := by decide +kernel
theorem dL_act_302 : decode cL_act 302 = .ok (.iconst 1, 1) := by decide +kernel
theorem dL_act_303 : decode cL_act 303 = .ok (.goto 4, 3) := by decide +kernel
theorem dL_act_306 : decode cL_act 306 = .ok (.iconst 0, 1) := by decide +kernel
theorem dL_act_307 : decode cL_act 307 = .ok (.ireturn, 1) := by decide +kernel
theorem dL_act_308 : decode cL_act 308 = .ok (.iload_n 1, 1) := by decide +kernel
theorem dL_act_309 : decode cL_act 309 = .ok (.bipush 10, 2) := by decide +kernel
theorem dL_act_311 : decode cL_act 311 = .ok (.if_icmp .ge 167, 3) := by decide +kernel
theorem dL_act_314 : decode cL_act 314 = .ok (.iload_n 1, 1) := by decide +kernel
theorem dL_act_315 : decode cL_act 315 = .ok (.bipush 9, 2) := by decide +kernel
theorem dL_act_317 : decode cL_act 317 = .ok (.if_icmp .ge 27, 3) := by decide +kernel
theorem dL_act_320 : decode cL_act 320 = .ok (.iload_n 2, 1) := by decide +kernel
theorem dL_act_321 : decode cL_act 321 = .ok (.iconst 1, 1) := by decide +kernel
theorem dL_act_322 : decode cL_act 322 = .ok (.aload 8, 2) := by decide +kernel
theorem dL_act_324 : decode cL_act 324 = .ok (.iconst 0, 1) := by decide +kernel
theorem dL_act_325 : decode cL_act 325 = .ok (.iaload, 1) := by decide +kernel
theorem dL_act_326 : decode cL_act 326 = .ok (.ishl, 1) := by decide +kernel
theorem dL_act_327 : decode cL_act 327 = .ok (.invokestatic 61, 3) := by decide +kernel
theorem dL_act_330 : decode cL_act 330 = .ok (.iload_n 3, 1) := by decide +kernel
theorem dL_act_331 : decode cL_act 331 = .ok (.iconst 1, 1) := by decide +kernel
theorem dL_act_332 : decode cL_act 332 = .ok (.aload 8, 2) := by decide +kernel
theorem dL_act_334 : decode cL_act 334 = .ok (.iconst 0, 1) := by decide +kernel
theorem dL_act_335 : decode cL_act 335 = .ok (.iaload, 1) := by decide +kernel
theorem dL_act_336 : decode cL_act 336 = .ok (.ishl, 1) := by decide +kernel
theorem dL_act_337 : decode cL_act 337 = .ok (.invokestatic 61, 3) := by decide +kernel
theorem dL_act_340 : decode cL_act 340 = .ok (.ior, 1) := by decide +kernel
theorem dL_act_341 : decode cL_act 341 = .ok (.goto 24, 3) := by decide +kernel
theorem dL_act_344 : decode cL_act 344 = .ok (.iload_n 2, 1) := by decide +kernel
theorem dL_act_345 : decode cL_act 345 = .ok (.iconst 1, 1) := by decide +kernel
theorem dL_act_346 : decode cL_act 346 = .ok (.aload 8, 2) := by decide +kernel
theorem dL_act_348 : decode cL_act 348 = .ok (.iconst 0, 1) := by decide +kernel
theorem dL_act_349 : decode cL_act 349 = .ok (.iaload, 1) := by decide +kernel
theorem dL_act_350 : decode cL_act 350 = .ok (.ishl, 1) := by decide +kernel
theorem dL_act_351 : decode cL_act 351 = .ok (.invokestatic 61, 3) := by decide +kernel
theorem dL_act_354 : decode cL_act 354 = .ok (.iload_n 3, 1) := by decide +kernel
theorem dL_act_355 : decode cL_act 355 = .ok (.iconst 1, 1) := by decide +kernel
theorem dL_act_356 : decode cL_act 356 = .ok (.aload 8, 2) := by decide +kernel
theorem dL_act_358 : decode cL_act 358 = .ok (.iconst 0, 1) := by decide +kernel
theorem dL_act_359 : decode cL_act 359 = .ok (.iaload, 1) := by decide +kernel
theorem dL_act_360 : decode cL_act 360 = .ok (.ishl, 1) := by decide +kernel
theorem dL_act_361 : decode cL_act 361 = .ok (.invokestatic 61, 3) := by decide +kernel
theorem dL_act_364 : decode cL_act 364 = .ok (.iand, 1) := by decide +kernel
theorem dL_act_365 : decode cL_act 365 = .ok (.istore 9, 2) := by decide +kernel
theorem dL_act_367 : decode cL_act 367 = .ok (.iload 9, 2) := by decide +kernel
theorem dL_act_369 : decode cL_act 369 = .ok (.iload_n 1, 1) := by decide +kernel
theorem dL_act_370 : decode cL_act 370 = .ok (.bipush 9, 2) := by decide +kernel
theorem dL_act_372 : decode cL_act 372 = .ok (.if_icmp .ne 7, 3) := by decide +kernel
theorem dL_act_375 : decode cL_act 375 = .ok (.iconst 1, 1) := by decide +kernel
theorem dL_act_376 : decode cL_act 376 = .ok (.goto 4, 3) := by decide +kernel
theorem dL_act_379 : decode cL_act 379 = .ok (.iconst 0, 1) := by decide +kernel
theorem dL_act_380 : decode cL_act 380 = .ok (.aload 5, 2) := by decide +kernel
theorem dL_act_382 : decode cL_act 382 = .ok (.aload 8, 2) := by decide +kernel
theorem dL_act_384 : decode cL_act 384 = .ok (.invokestatic 28, 3) := by decide +kernel
theorem dL_act_387 : decode cL_act 387 = .ok (.istore 10, 2) := by decide +kernel
theorem dL_act_389 : decode cL_act 389 = .ok (.iconst 0, 1) := by decide +kernel
theorem dL_act_390 : decode cL_act 390 = .ok (.istore 11, 2) := by decide +kernel
theorem dL_act_392 : decode cL_act 392 = .ok (.iload 11, 2) := by decide +kernel
theorem dL_act_394 : decode cL_act 394 = .ok (.aload 8, 2) := by decide +kernel
theorem dL_act_396 : decode cL_act 396 = .ok (.iconst 0, 1) := by decide +kernel
theorem dL_act_397 : decode cL_act 397 = .ok (.iaload, 1) := by decide +kernel
theorem dL_act_398 : decode cL_act 398 = .ok (.if_icmp .ge 41, 3) := by decide +kernel
theorem dL_act_401 : decode cL_act 401 = .ok (.iload 10, 2) := by decide +kernel
theorem dL_act_403 : decode cL_act 403 = .ok (.iload 11, 2) := by decide +kernel
theorem dL_act_405 : decode cL_act 405 = .ok (.ishr, 1) := by decide +kernel
theorem dL_act_406 : decode cL_act 406 = .ok (.iconst 1, 1) := by decide +kernel
theorem dL_act_407 : decode cL_act 407 = .ok (.iand, 1) := by decide +kernel
theorem dL_act_408 : decode cL_act 408 = .ok (.iconst 1, 1) := by decide +kernel
theorem dL_act_409 : decode cL_act 409 = .ok (.if_icmp .ne 24, 3) := by decide +kernel
theorem dL_act_412 : decode cL_act 412 = .ok (.aload 5, 2) := by decide +kernel
theorem dL_act_414 : decode cL_act 414 = .ok (.bipush 9, 2) := by decide +kernel
theorem dL_act_416 : decode cL_act 416 = .ok (.iload 11, 2) := by decide +kernel
theorem dL_act_418 : decode cL_act 418 = .ok (.imul, 1) := by decide +kernel
theorem dL_act_419 : decode cL_act 419 = .ok (.iconst 1, 1) := by decide +kernel
theorem dL_act_420 : decode cL_act 420 = .ok (.iadd, 1) := by decide +kernel
theorem dL_act_421 : decode cL_act 421 = .ok (.iload_n 1, 1) := by decide +kernel
theorem dL_act_422 : decode cL_act 422 = .ok (.bipush 9, 2) := by decide +kernel
theorem dL_act_424 : decode cL_act 424 = .ok (.if_icmp .ge 7, 3) := by decide +kernel
theorem dL_act_427 : decode cL_act 427 = .ok (.iconst 1, 1) := by decide +kernel
theorem dL_act_428 : decode cL_act 428 = .ok (.goto 4, 3) := by decide +kernel
theorem dL_act_431 : decode cL_act 431 = .ok (.iconst 0, 1) := by decide +kernel
theorem dL_act_432 : decode cL_act 432 = .ok (.iastore, 1) := by decide +kernel
theorem dL_act_433 : decode cL_act 433 = .ok (.iinc 11 1, 3) := by decide +kernel
theorem dL_act_436 : decode cL_act 436 = .ok (.goto (-44), 3) := by decide +kernel
theorem dL_act_439 : decode cL_act 439 = .ok (.iload_n 1, 1) := by decide +kernel
theorem dL_act_440 : decode cL_act 440 = .ok (.bipush 9, 2) := by decide +kernel
theorem dL_act_442 : decode cL_act 442 = .ok (.if_icmp .ge 12, 3) := by decide +kernel
theorem dL_act_445 : decode cL_act 445 = .ok (.aload_n 0, 1) := by decide +kernel
theorem dL_act_446 : decode cL_act 446 = .ok (.iload 9, 2) := by decide +kernel
theorem dL_act_448 : decode cL_act 448 = .ok (.invokevirtual 84, 3) := by decide +kernel
theorem dL_act_451 : decode cL_act 451 = .ok (.goto 9, 3) := by decide +kernel
theorem dL_act_454 : decode cL_act 454 = .ok (.aload_n 0, 1) := by decide +kernel
theorem dL_act_455 : decode cL_act 455 = .ok (.iload 9, 2) := by decide +kernel
theorem dL_act_457 : decode cL_act 457 = .ok (.invokevirtual 87, 3) := by decide +kernel
theorem dL_act_460 : decode cL_act 460 = .ok (.iconst 1, 1) := by decide +kernel
theorem dL_act_461 : decode cL_act 461 = .ok (.iconst 1, 1) := by decide +kernel
theorem dL_act_462 : decode cL_act 462 = .ok (.aload 5, 2) := by decide +kernel
theorem dL_act_464 : decode cL_act 464 = .ok (.aload 8, 2) := by decide +kernel
theorem dL_act_466 : decode cL_act 466 = .ok (.invokestatic 49, 3) := by decide +kernel
theorem dL_act_469 : decode cL_act 469 = .ok (.if_icmp .ne 7, 3) := by decide +kernel
theorem dL_act_472 : decode cL_act 472 = .ok (.iconst 1, 1) := by decide +kernel
theorem dL_act_473 : decode cL_act 473 = .ok (.goto 4, 3) := by decide +kernel
theorem dL_act_476 : decode cL_act 476 = .ok (.iconst 0, 1) := by decide +kernel
theorem dL_act_477 : decode cL_act 477 = .ok (.ireturn, 1) := by decide +kernel
theorem dL_act_478 : decode cL_act 478 = .ok (.iload_n 2, 1) := by decide +kernel
theorem dL_act_479 : decode cL_act 479 = .ok (.aload 8, 2) := by decide +kernel
theorem dL_act_481 : decode cL_act 481 = .ok (.iconst 0, 1) := by decide +kernel
theorem dL_act_482 : decode cL_act 482 = .ok (.iaload, 1) := by decide +kernel
theorem dL_act_483 : decode cL_act 483 = .ok (.invokestatic 61, 3) := by decide +kernel
theorem dL_act_486 : decode cL_act 486 = .ok (.istore 9, 2) := by decide +kernel
theorem dL_act_488 : decode cL_act 488 = .ok (.bipush 9, 2) := by decide +kernel
theorem dL_act_490 : decode cL_act 490 = .ok (.iload 9, 2) := by decide +kernel
theorem dL_act_492 : decode cL_act 492 = .ok (.imul, 1) := by decide +kernel
theorem dL_act_493 : decode cL_act 493 = .ok (.istore 10, 2) := by decide +kernel
theorem dL_act_495 : decode cL_act 495 = .ok (.iload_n 1, 1) := by decide +kernel
theorem dL_act_496 : decode cL_act 496 = .ok (.bipush 10, 2) := by decide +kernel
theorem dL_act_498 : decode cL_act 498 = .ok (.if_icmp .ne 167, 3) := by decide +kernel
theorem dL_act_501 : decode cL_act 501 = .ok (.aload 5, 2) := by decide +kernel
theorem dL_act_503 : decode cL_act 503 = .ok (.iload 10, 2) := by decide +kernel
theorem dL_act_505 : decode cL_act 505 = .ok (.iconst 1, 1) := by decide +kernel
theorem dL_act_506 : decode cL_act 506 = .ok (.iadd, 1) := by decide +kernel
theorem dL_act_507 : decode cL_act 507 = .ok (.iaload, 1) := by decide +kernel
theorem dL_act_508 : decode cL_act 508 = .ok (.ifCond .ne 5, 3) := by decide +kernel
theorem dL_act_511 : decode cL_act 511 = .ok (.iconst 1, 1) := by decide +kernel
theorem dL_act_512 : decode cL_act 512 = .ok (.ireturn, 1) := by decide +kernel
theorem dL_act_513 : decode cL_act 513 = .ok (.iconst 1, 1) := by decide +kernel
theorem dL_act_514 : decode cL_act 514 = .ok (.iload 9, 2) := by decide +kernel
theorem dL_act_516 : decode cL_act 516 = .ok (.ishl, 1) := by decide +kernel
theorem dL_act_517 : decode cL_act 517 = .ok (.iconst 1, 1) := by decide +kernel
theorem dL_act_518 : decode cL_act 518 = .ok (.aload 5, 2) := by decide +kernel
theorem dL_act_520 : decode cL_act 520 = .ok (.aload 8, 2) := by decide +kernel
theorem dL_act_522 : decode cL_act 522 = .ok (.invokestatic 28, 3) := by decide +kernel
theorem dL_act_525 : decode cL_act 525 = .ok (.istore 11, 2) := by decide +kernel
theorem dL_act_527 : decode cL_act 527 = .ok (.aload 8, 2) := by decide +kernel
theorem dL_act_529 : decode cL_act 529 = .ok (.iconst 4, 1) := by decide +kernel
theorem dL_act_530 : decode cL_act 530 = .ok (.iconst 0, 1) := by decide +kernel
theorem dL_act_531 : decode cL_act 531 = .ok (.iastore, 1) := by decide +kernel
theorem dL_act_532 : decode cL_act 532 = .ok (.iconst 0, 1) := by decide +kernel
theorem dL_act_533 : decode cL_act 533 = .ok (.istore 12, 2) := by decide +kernel
theorem dL_act_535 : decode cL_act 535 = .ok (.iload 12, 2) := by decide +kernel
theorem dL_act_537 : decode cL_act 537 = .ok (.aload 8, 2) := by decide +kernel
theorem dL_act_539 : decode cL_act 539 = .ok (.iconst 0, 1) := by decide +kernel
theorem dL_act_540 : decode cL_act 540 = .ok (.iaload, 1) := by decide +kernel
theorem dL_act_541 : decode cL_act 541 = .ok (.if_icmp .ge 105, 3) := by decide +kernel
theorem dL_act_544 : decode cL_act 544 = .ok (.bipush 9, 2) := by decide +kernel
theorem dL_act_546 : decode cL_act 546 = .ok (.iload 12, 2) := by decide +kernel
theorem dL_act_548 : decode cL_act 548 = .ok (.imul, 1) := by decide +kernel
theorem dL_act_549 : decode cL_act 549 = .ok (.istore 13, 2) := by decide +kernel
theorem dL_act_551 : decode cL_act 551 = .ok (.iload 11, 2) := by decide +kernel
theorem dL_act_553 : decode cL_act 553 = .ok (.iload 12, 2) := by decide +kernel
theorem dL_act_555 : decode cL_act 555 = .ok (.ishr, 1) := by decide +kernel
theorem dL_act_556 : decode cL_act 556 = .ok (.iconst 1, 1) := by decide +kernel
theorem dL_act_557 : decode cL_act 557 = .ok (.iand, 1) := by decide +kernel
theorem dL_act_558 : decode cL_act 558 = .ok (.ifCond .eq 82, 3) := by decide +kernel
theorem dL_act_561 : decode cL_act 561 = .ok (.aload 5, 2) := by decide +kernel
theorem dL_act_563 : decode cL_act 563 = .ok (.iload 13, 2) := by decide +kernel
theorem dL_act_565 : decode cL_act 565 = .ok (.iconst 2, 1) := by decide +kernel
theorem dL_act_566 : decode cL_act 566 = .ok (.iadd, 1) := by decide +kernel
theorem dL_act_567 : decode cL_act 567 = .ok (.iaload, 1) := by decide +kernel
theorem dL_act_568 : decode cL_act 568 = .ok (.iconst 2, 1) := by decide +kernel
theorem dL_act_569 : decode cL_act 569 = .ok (.if_icmp .eq 38, 3) := by decide +kernel
theorem dL_act_572 : decode cL_act 572 = .ok (.aload 5, 2) := by decide +kernel
theorem dL_act_574 : decode cL_act 574 = .ok (.iload 13, 2) := by decide +kernel
theorem dL_act_576 : decode cL_act 576 = .ok (.iconst 2, 1) := by decide +kernel
theorem dL_act_577 : decode cL_act 577 = .ok (.iadd, 1) := by decide +kernel
theorem dL_act_578 : decode cL_act 578 = .ok (.iaload, 1) := by decide +kernel
theorem dL_act_579 : decode cL_act 579 = .ok (.iconst 3, 1) := by decide +kernel
theorem dL_act_580 : decode cL_act 580 = .ok (.if_icmp .eq 27, 3) := by decide +kernel
theorem dL_act_583 : decode cL_act 583 = .ok (.aload 5, 2) := by decide +kernel
theorem dL_act_585 : decode cL_act 585 = .ok (.iload 13, 2) := by decide +kernel
theorem dL_act_587 : decode cL_act 587 = .ok (.iconst 2, 1) := by decide +kernel
theorem dL_act_588 : decode cL_act 588 = .ok (.iadd, 1) := by decide +kernel
theorem dL_act_589 : decode cL_act 589 = .ok (.iaload, 1) := by decide +kernel
theorem dL_act_590 : decode cL_act 590 = .ok (.iconst 5, 1) := by decide +kernel
theorem dL_act_591 : decode cL_act 591 = .ok (.if_icmp .ne 49, 3) := by decide +kernel
theorem dL_act_594 : decode cL_act 594 = .ok (.aload 5, 2) := by decide +kernel
theorem dL_act_596 : decode cL_act 596 = .ok (.iload 13, 2) := by decide +kernel
theorem dL_act_598 : decode cL_act 598 = .ok (.iconst 1, 1) := by decide +kernel
theorem dL_act_599 : decode cL_act 599 = .ok (.iadd, 1) := by decide +kernel
theorem dL_act_600 : decode cL_act 600 = .ok (.iaload, 1) := by decide +kernel
theorem dL_act_601 : decode cL_act 601 = .ok (.ifCond .ne 6, 3) := by decide +kernel
theorem dL_act_604 : decode cL_act 604 = .ok (.goto 36, 3) := by decide +kernel
theorem dL_act_607 : decode cL_act 607 = .ok (.aload 5, 2) := by decide +kernel
theorem dL_act_609 : decode cL_act 609 = .ok (.iload 13, 2) := by decide +kernel
theorem dL_act_611 : decode cL_act 611 = .ok (.bipush 7, 2) := by decide +kernel
theorem dL_act_613 : decode cL_act 613 = .ok (.iadd, 1) := by decide +kernel
theorem dL_act_614 : decode cL_act 614 = .ok (.iconst 0, 1) := by decide +kernel
theorem dL_act_615 : decode cL_act 615 = .ok (.iastore, 1) := by decide +kernel
theorem dL_act_616 : decode cL_act 616 = .ok (.aload 5, 2) := by decide +kernel
theorem dL_act_618 : decode cL_act 618 = .ok (.iload 13, 2) := by decide +kernel
theorem dL_act_620 : decode cL_act 620 = .ok (.bipush 8, 2) := by decide +kernel
theorem dL_act_622 : decode cL_act 622 = .ok (.iadd, 1) := by decide +kernel
theorem dL_act_623 : decode cL_act 623 = .ok (.iload 9, 2) := by decide +kernel
theorem dL_act_625 : decode cL_act 625 = .ok (.iastore, 1) := by decide +kernel
theorem dL_act_626 : decode cL_act 626 = .ok (.iload 12, 2) := by decide +kernel
theorem dL_act_628 : decode cL_act 628 = .ok (.iconst 4, 1) := by decide +kernel
theorem dL_act_629 : decode cL_act 629 = .ok (.aload 5, 2) := by decide +kernel
theorem dL_act_631 : decode cL_act 631 = .ok (.aload 6, 2) := by decide +kernel
theorem dL_act_633 : decode cL_act 633 = .ok (.aload 7, 2) := by decide +kernel
theorem dL_act_635 : decode cL_act 635 = .ok (.aload 8, 2) := by decide +kernel
theorem dL_act_637 : decode cL_act 637 = .ok (.invokestatic 18, 3) := by decide +kernel
theorem dL_act_640 : decode cL_act 640 = .ok (.iinc 12 1, 3) := by decide +kernel
theorem dL_act_643 : decode cL_act 643 = .ok (.goto (-108), 3) := by decide +kernel
theorem dL_act_646 : decode cL_act 646 = .ok (.aload_n 0, 1) := by decide +kernel
theorem dL_act_647 : decode cL_act 647 = .ok (.iload 9, 2) := by decide +kernel
theorem dL_act_649 : decode cL_act 649 = .ok (.invokevirtual 90, 3) := by decide +kernel
theorem dL_act_652 : decode cL_act 652 = .ok (.aload 8, 2) := by decide +kernel
theorem dL_act_654 : decode cL_act 654 = .ok (.iconst 4, 1) := by decide +kernel
theorem dL_act_655 : decode cL_act 655 = .ok (.iaload, 1) := by decide +kernel
theorem dL_act_656 : decode cL_act 656 = .ok (.if_icmp .ne 7, 3) := by decide +kernel
theorem dL_act_659 : decode cL_act 659 = .ok (.iconst 1, 1) := by decide +kernel
theorem dL_act_660 : decode cL_act 660 = .ok (.goto 4, 3) := by decide +kernel
theorem dL_act_663 : decode cL_act 663 = .ok (.iconst 0, 1) := by decide +kernel
theorem dL_act_664 : decode cL_act 664 = .ok (.ireturn, 1) := by decide +kernel
theorem dL_act_665 : decode cL_act 665 = .ok (.iload_n 1, 1) := by decide +kernel
theorem dL_act_666 : decode cL_act 666 = .ok (.bipush 11, 2) := by decide +kernel
theorem dL_act_668 : decode cL_act 668 = .ok (.if_icmp .ne 49, 3) := by decide +kernel
theorem dL_act_671 : decode cL_act 671 = .ok (.aload 5, 2) := by decide +kernel
theorem dL_act_673 : decode cL_act 673 = .ok (.iload 10, 2) := by decide +kernel
theorem dL_act_675 : decode cL_act 675 = .ok (.iconst 5, 1) := by decide +kernel
theorem dL_act_676 : decode cL_act 676 = .ok (.iadd, 1) := by decide +kernel
theorem dL_act_677 : decode cL_act 677 = .ok (.iaload, 1) := by decide +kernel
theorem dL_act_678 : decode cL_act 678 = .ok (.istore 11, 2) := by decide +kernel
theorem dL_act_680 : decode cL_act 680 = .ok (.aload 5, 2) := by decide +kernel
theorem dL_act_682 : decode cL_act 682 = .ok (.iload 10, 2) := by decide +kernel
theorem dL_act_684 : decode cL_act 684 = .ok (.iconst 5, 1) := by decide +kernel
theorem dL_act_685 : decode cL_act 685 = .ok (.iadd, 1) := by decide +kernel
theorem dL_act_686 : decode cL_act 686 = .ok (.iload_n 3, 1) := by decide +kernel
theorem dL_act_687 : decode cL_act 687 = .ok (.bipush 40, 2) := by decide +kernel
theorem dL_act_689 : decode cL_act 689 = .ok (.invokestatic 61, 3) := by decide +kernel
theorem dL_act_692 : decode cL_act 692 = .ok (.iastore, 1) := by decide +kernel
theorem dL_act_693 : decode cL_act 693 = .ok (.aload_n 0, 1) := by decide +kernel
theorem dL_act_694 : decode cL_act 694 = .ok (.iload 9, 2) := by decide +kernel
theorem dL_act_696 : decode cL_act 696 = .ok (.aload 5, 2) := by decide +kernel
theorem dL_act_698 : decode cL_act 698 = .ok (.iload 10, 2) := by decide +kernel
theorem dL_act_700 : decode cL_act 700 = .ok (.iconst 5, 1) := by decide +kernel
theorem dL_act_701 : decode cL_act 701 = .ok (.iadd, 1) := by decide +kernel
theorem dL_act_702 : decode cL_act 702 = .ok (.iaload, 1) := by decide +kernel
theorem dL_act_703 : decode cL_act 703 = .ok (.invokevirtual 93, 3) := by decide +kernel
theorem dL_act_706 : decode cL_act 706 = .ok (.iload 11, 2) := by decide +kernel
theorem dL_act_708 : decode cL_act 708 = .ok (.if_icmp .ne 7, 3) := by decide +kernel
theorem dL_act_711 : decode cL_act 711 = .ok (.iconst 1, 1) := by decide +kernel
theorem dL_act_712 : decode cL_act 712 = .ok (.goto 4, 3) := by decide +kernel
theorem dL_act_715 : decode cL_act 715 = .ok (.iconst 0, 1) := by decide +kernel
theorem dL_act_716 : decode cL_act 716 = .ok (.ireturn, 1) := by decide +kernel
theorem dL_act_717 : decode cL_act 717 = .ok (.iload_n 1, 1) := by decide +kernel
theorem dL_act_718 : decode cL_act 718 = .ok (.bipush 12, 2) := by decide +kernel
theorem dL_act_720 : decode cL_act 720 = .ok (.if_icmp .ne 48, 3) := by decide +kernel
theorem dL_act_723 : decode cL_act 723 = .ok (.aload 5, 2) := by decide +kernel
theorem dL_act_725 : decode cL_act 725 = .ok (.iload 10, 2) := by decide +kernel
theorem dL_act_727 : decode cL_act 727 = .ok (.iconst 4, 1) := by decide +kernel
theorem dL_act_728 : decode cL_act 728 = .ok (.iadd, 1) := by decide +kernel
theorem dL_act_729 : decode cL_act 729 = .ok (.iaload, 1) := by decide +kernel
theorem dL_act_730 : decode cL_act 730 = .ok (.istore 11, 2) := by decide +kernel
theorem dL_act_732 : decode cL_act 732 = .ok (.aload 5, 2) := by decide +kernel
theorem dL_act_734 : decode cL_act 734 = .ok (.iload 10, 2) := by decide +kernel
theorem dL_act_736 : decode cL_act 736 = .ok (.iconst 4, 1) := by decide +kernel
theorem dL_act_737 : decode cL_act 737 = .ok (.iadd, 1) := by decide +kernel
theorem dL_act_738 : decode cL_act 738 = .ok (.iload_n 3, 1) := by decide +kernel
theorem dL_act_739 : decode cL_act 739 = .ok (.iconst 3, 1) := by decide +kernel
theorem dL_act_740 : decode cL_act 740 = .ok (.invokestatic 61, 3) := by decide +kernel
theorem dL_act_743 : decode cL_act 743 = .ok (.iastore, 1) := by decide +kernel
theorem dL_act_744 : decode cL_act 744 = .ok (.aload_n 0, 1) := by decide +kernel
theorem dL_act_745 : decode cL_act 745 = .ok (.iload 9, 2) := by decide +kernel
theorem dL_act_747 : decode cL_act 747 = .ok (.aload 5, 2) := by decide +kernel
theorem dL_act_749 : decode cL_act 749 = .ok (.iload 10, 2) := by decide +kernel
theorem dL_act_751 : decode cL_act 751 = .ok (.iconst 4, 1) := by decide +kernel
theorem dL_act_752 : decode cL_act 752 = .ok (.iadd, 1) := by decide +kernel
theorem dL_act_753 : decode cL_act 753 = .ok (.iaload, 1) := by decide +kernel
theorem dL_act_754 : decode cL_act 754 = .ok (.invokevirtual 96, 3) := by decide +kernel
theorem dL_act_757 : decode cL_act 757 = .ok (.iload 11, 2) := by decide +kernel
theorem dL_act_759 : decode cL_act 759 = .ok (.if_icmp .ne 7, 3) := by decide +kernel
theorem dL_act_762 : decode cL_act 762 = .ok (.iconst 1, 1) := by decide +kernel
theorem dL_act_763 : decode cL_act 763 = .ok (.goto 4, 3) := by decide +kernel
theorem dL_act_766 : decode cL_act 766 = .ok (.iconst 0, 1) := by decide +kernel
theorem dL_act_767 : decode cL_act 767 = .ok (.ireturn, 1) := by decide +kernel
theorem dL_act_768 : decode cL_act 768 = .ok (.iload_n 1, 1) := by decide +kernel
theorem dL_act_769 : decode cL_act 769 = .ok (.bipush 15, 2) := by decide +kernel
theorem dL_act_771 : decode cL_act 771 = .ok (.if_icmp .ge 74, 3) := by decide +kernel
theorem dL_act_774 : decode cL_act 774 = .ok (.iload_n 3, 1) := by decide +kernel
theorem dL_act_775 : decode cL_act 775 = .ok (.bipush 7, 2) := by decide +kernel
theorem dL_act_777 : decode cL_act 777 = .ok (.ishr, 1) := by decide +kernel
theorem dL_act_778 : decode cL_act 778 = .ok (.bipush 7, 2) := by decide +kernel
theorem dL_act_780 : decode cL_act 780 = .ok (.invokestatic 61, 3) := by decide +kernel
theorem dL_act_783 : decode cL_act 783 = .ok (.istore 11, 2) := by decide +kernel
theorem dL_act_785 : decode cL_act 785 = .ok (.aload 4, 2) := by decide +kernel
theorem dL_act_787 : decode cL_act 787 = .ok (.bipush 7, 2) := by decide +kernel
theorem dL_act_789 : decode cL_act 789 = .ok (.iload 9, 2) := by decide +kernel
theorem dL_act_791 : decode cL_act 791 = .ok (.imul, 1) := by decide +kernel
theorem dL_act_792 : decode cL_act 792 = .ok (.iload 11, 2) := by decide +kernel
theorem dL_act_794 : decode cL_act 794 = .ok (.iadd, 1) := by decide +kernel
theorem dL_act_795 : decode cL_act 795 = .ok (.iaload, 1) := by decide +kernel
theorem dL_act_796 : decode cL_act 796 = .ok (.istore 12, 2) := by decide +kernel
theorem dL_act_798 : decode cL_act 798 = .ok (.aload 4, 2) := by decide +kernel
theorem dL_act_800 : decode cL_act 800 = .ok (.bipush 7, 2) := by decide +kernel
theorem dL_act_802 : decode cL_act 802 = .ok (.iload 9, 2) := by decide +kernel
theorem dL_act_804 : decode cL_act 804 = .ok (.imul, 1) := by decide +kernel
theorem dL_act_805 : decode cL_act 805 = .ok (.iload 11, 2) := by decide +kernel
theorem dL_act_807 : decode cL_act 807 = .ok (.iadd, 1) := by decide +kernel
theorem dL_act_808 : decode cL_act 808 = .ok (.iload 11, 2) := by decide +kernel
theorem dL_act_810 : decode cL_act 810 = .ok (.iload_n 3, 1) := by decide +kernel
theorem dL_act_811 : decode cL_act 811 = .ok (.invokestatic 75, 3) := by decide +kernel
theorem dL_act_814 : decode cL_act 814 = .ok (.iastore, 1) := by decide +kernel
theorem dL_act_815 : decode cL_act 815 = .ok (.aload_n 0, 1) := by decide +kernel
theorem dL_act_816 : decode cL_act 816 = .ok (.iload 9, 2) := by decide +kernel
theorem dL_act_818 : decode cL_act 818 = .ok (.iload 11, 2) := by decide +kernel
theorem dL_act_820 : decode cL_act 820 = .ok (.aload 4, 2) := by decide +kernel
theorem dL_act_822 : decode cL_act 822 = .ok (.bipush 7, 2) := by decide +kernel
theorem dL_act_824 : decode cL_act 824 = .ok (.iload 9, 2) := by decide +kernel
theorem dL_act_826 : decode cL_act 826 = .ok (.imul, 1) := by decide +kernel
theorem dL_act_827 : decode cL_act 827 = .ok (.iload 11, 2) := by decide +kernel
theorem dL_act_829 : decode cL_act 829 = .ok (.iadd, 1) := by decide +kernel
theorem dL_act_830 : decode cL_act 830 = .ok (.iaload, 1) := by decide +kernel
theorem dL_act_831 : decode cL_act 831 = .ok (.invokevirtual 99, 3) := by decide +kernel
theorem dL_act_834 : decode cL_act 834 = .ok (.iload 12, 2) := by decide +kernel
theorem dL_act_836 : decode cL_act 836 = .ok (.if_icmp .ne 7, 3) := by decide +kernel
theorem dL_act_839 : decode cL_act 839 = .ok (.iconst 1, 1) := by decide +kernel
theorem dL_act_840 : decode cL_act 840 = .ok (.goto 4, 3) := by decide +kernel
theorem dL_act_843 : decode cL_act 843 = .ok (.iconst 0, 1) := by decide +kernel
theorem dL_act_844 : decode cL_act 844 = .ok (.ireturn, 1) := by decide +kernel
theorem dL_act_845 : decode cL_act 845 = .ok (.iload_n 1, 1) := by decide +kernel
theorem dL_act_846 : decode cL_act 846 = .ok (.bipush 15, 2) := by decide +kernel
theorem dL_act_848 : decode cL_act 848 = .ok (.if_icmp .ne 39, 3) := by decide +kernel
theorem dL_act_851 : decode cL_act 851 = .ok (.aload 8, 2) := by decide +kernel
theorem dL_act_853 : decode cL_act 853 = .ok (.iconst 1, 1) := by decide +kernel
theorem dL_act_854 : decode cL_act 854 = .ok (.iaload, 1) := by decide +kernel
theorem dL_act_855 : decode cL_act 855 = .ok (.istore 11, 2) := by decide +kernel
theorem dL_act_857 : decode cL_act 857 = .ok (.aload 8, 2) := by decide +kernel
theorem dL_act_859 : decode cL_act 859 = .ok (.iconst 1, 1) := by decide +kernel
theorem dL_act_860 : decode cL_act 860 = .ok (.iload_n 3, 1) := by decide +kernel
theorem dL_act_861 : decode cL_act 861 = .ok (.sipush 501, 3) := by decide +kernel
theorem dL_act_864 : decode cL_act 864 = .ok (.invokestatic 61, 3) := by decide +kernel
theorem dL_act_867 : decode cL_act 867 = .ok (.iastore, 1) := by decide +kernel
theorem dL_act_868 : decode cL_act 868 = .ok (.aload_n 0, 1) := by decide +kernel
theorem dL_act_869 : decode cL_act 869 = .ok (.aload 8, 2) := by decide +kernel
theorem dL_act_871 : decode cL_act 871 = .ok (.iconst 1, 1) := by decide +kernel
theorem dL_act_872 : decode cL_act 872 = .ok (.iaload, 1) := by decide +kernel
theorem dL_act_873 : decode cL_act 873 = .ok (.invokevirtual 102, 3) := by decide +kernel
theorem dL_act_876 : decode cL_act 876 = .ok (.iload 11, 2) := by decide +kernel
theorem dL_act_878 : decode cL_act 878 = .ok (.if_icmp .ne 7, 3) := by decide +kernel
theorem dL_act_881 : decode cL_act 881 = .ok (.iconst 1, 1) := by decide +kernel
theorem dL_act_882 : decode cL_act 882 = .ok (.goto 4, 3) := by decide +kernel
theorem dL_act_885 : decode cL_act 885 = .ok (.iconst 0, 1) := by decide +kernel
theorem dL_act_886 : decode cL_act 886 = .ok (.ireturn, 1) := by decide +kernel
theorem dL_act_887 : decode cL_act 887 = .ok (.iload_n 1, 1) := by decide +kernel
theorem dL_act_888 : decode cL_act 888 = .ok (.bipush 16, 2) := by decide +kernel
theorem dL_act_890 : decode cL_act 890 = .ok (.if_icmp .ne 66, 3) := by decide +kernel
theorem dL_act_893 : decode cL_act 893 = .ok (.aload 5, 2) := by decide +kernel
theorem dL_act_895 : decode cL_act 895 = .ok (.iload 10, 2) := by decide +kernel
theorem dL_act_897 : decode cL_act 897 = .ok (.iconst 2, 1) := by decide +kernel
theorem dL_act_898 : decode cL_act 898 = .ok (.iadd, 1) := by decide +kernel
theorem dL_act_899 : decode cL_act 899 = .ok (.iaload, 1) := by decide +kernel
theorem dL_act_900 : decode cL_act 900 = .ok (.ifCond .eq 14, 3) := by decide +kernel
theorem dL_act_903 : decode cL_act 903 = .ok (.aload 5, 2) := by decide +kernel
theorem dL_act_905 : decode cL_act 905 = .ok (.iload 10, 2) := by decide +kernel
theorem dL_act_907 : decode cL_act 907 = .ok (.iconst 2, 1) := by decide +kernel
theorem dL_act_908 : decode cL_act 908 = .ok (.iadd, 1) := by decide +kernel
theorem dL_act_909 : decode cL_act 909 = .ok (.iaload, 1) := by decide +kernel
theorem dL_act_910 : decode cL_act 910 = .ok (.iconst 5, 1) := by decide +kernel
theorem dL_act_911 : decode cL_act 911 = .ok (.if_icmp .ne 45, 3) := by decide +kernel
theorem dL_act_914 : decode cL_act 914 = .ok (.aload 5, 2) := by decide +kernel
theorem dL_act_916 : decode cL_act 916 = .ok (.iload 10, 2) := by decide +kernel
theorem dL_act_918 : decode cL_act 918 = .ok (.iaload, 1) := by decide +kernel
theorem dL_act_919 : decode cL_act 919 = .ok (.istore 11, 2) := by decide +kernel
theorem dL_act_921 : decode cL_act 921 = .ok (.aload 5, 2) := by decide +kernel
theorem dL_act_923 : decode cL_act 923 = .ok (.iload 10, 2) := by decide +kernel
theorem dL_act_925 : decode cL_act 925 = .ok (.iload_n 3, 1) := by decide +kernel
theorem dL_act_926 : decode cL_act 926 = .ok (.iconst 1, 1) := by decide +kernel
theorem dL_act_927 : decode cL_act 927 = .ok (.iload 9, 2) := by decide +kernel
theorem dL_act_929 : decode cL_act 929 = .ok (.ishl, 1) := by decide +kernel
theorem dL_act_930 : decode cL_act 930 = .ok (.invokestatic 61, 3) := by decide +kernel
theorem dL_act_933 : decode cL_act 933 = .ok (.iastore, 1) := by decide +kernel
theorem dL_act_934 : decode cL_act 934 = .ok (.aload_n 0, 1) := by decide +kernel
theorem dL_act_935 : decode cL_act 935 = .ok (.iload 9, 2) := by decide +kernel
theorem dL_act_937 : decode cL_act 937 = .ok (.aload 5, 2) := by decide +kernel
theorem dL_act_939 : decode cL_act 939 = .ok (.iload 10, 2) := by decide +kernel
theorem dL_act_941 : decode cL_act 941 = .ok (.iaload, 1) := by decide +kernel
theorem dL_act_942 : decode cL_act 942 = .ok (.invokevirtual 105, 3) := by decide +kernel
theorem dL_act_945 : decode cL_act 945 = .ok (.iload 11, 2) := by decide +kernel
theorem dL_act_947 : decode cL_act 947 = .ok (.if_icmp .ne 7, 3) := by decide +kernel
theorem dL_act_950 : decode cL_act 950 = .ok (.iconst 1, 1) := by decide +kernel
theorem dL_act_951 : decode cL_act 951 = .ok (.goto 4, 3) := by decide +kernel
theorem dL_act_954 : decode cL_act 954 = .ok (.iconst 0, 1) := by decide +kernel
theorem dL_act_955 : decode cL_act 955 = .ok (.ireturn, 1) := by decide +kernel
theorem dL_act_956 : decode cL_act 956 = .ok (.iload_n 1, 1) := by decide +kernel
theorem dL_act_957 : decode cL_act 957 = .ok (.bipush 17, 2) := by decide +kernel
theorem dL_act_959 : decode cL_act 959 = .ok (.if_icmp .ge 5, 3) := by decide +kernel
theorem dL_act_962 : decode cL_act 962 = .ok (.iconst 1, 1) := by decide +kernel
theorem dL_act_963 : decode cL_act 963 = .ok (.ireturn, 1) := by decide +kernel
theorem dL_act_964 : decode cL_act 964 = .ok (.iconst 0, 1) := by decide +kernel
theorem dL_act_965 : decode cL_act 965 = .ok (.istore 11, 2) := by decide +kernel
theorem dL_act_967 : decode cL_act 967 = .ok (.aload 8, 2) := by decide +kernel
theorem dL_act_969 : decode cL_act 969 = .ok (.iconst 3, 1) := by decide +kernel
theorem dL_act_970 : decode cL_act 970 = .ok (.iaload, 1) := by decide +kernel
theorem dL_act_971 : decode cL_act 971 = .ok (.istore 12, 2) := by decide +kernel
theorem dL_act_973 : decode cL_act 973 = .ok (.iconst 0, 1) := by decide +kernel
theorem dL_act_974 : decode cL_act 974 = .ok (.istore 13, 2) := by decide +kernel
theorem dL_act_976 : decode cL_act 976 = .ok (.iload 13, 2) := by decide +kernel
theorem dL_act_978 : decode cL_act 978 = .ok (.iload 12, 2) := by decide +kernel
theorem dL_act_980 : decode cL_act 980 = .ok (.if_icmp .ge 64, 3) := by decide +kernel
theorem dL_act_983 : decode cL_act 983 = .ok (.aload 7, 2) := by decide +kernel
theorem dL_act_985 : decode cL_act 985 = .ok (.iconst 4, 1) := by decide +kernel
theorem dL_act_986 : decode cL_act 986 = .ok (.iload 13, 2) := by decide +kernel
theorem dL_act_988 : decode cL_act 988 = .ok (.imul, 1) := by decide +kernel
theorem dL_act_989 : decode cL_act 989 = .ok (.iconst 1, 1) := by decide +kernel
theorem dL_act_990 : decode cL_act 990 = .ok (.iadd, 1) := by decide +kernel
theorem dL_act_991 : decode cL_act 991 = .ok (.iaload, 1) := by decide +kernel
theorem dL_act_992 : decode cL_act 992 = .ok (.iload 9, 2) := by decide +kernel
theorem dL_act_994 : decode cL_act 994 = .ok (.if_icmp .ne 6, 3) := by decide +kernel
theorem dL_act_997 : decode cL_act 997 = .ok (.goto 41, 3) := by decide +kernel
theorem dL_act_1000 : decode cL_act 1000 = .ok (.iconst 0, 1) := by decide +kernel
theorem dL_act_1001 : decode cL_act 1001 = .ok (.istore 14, 2) := by decide +kernel
theorem dL_act_1003 : decode cL_act 1003 = .ok (.iload 14, 2) := by decide +kernel
theorem dL_act_1005 : decode cL_act 1005 = .ok (.iconst 4, 1) := by decide +kernel
theorem dL_act_1006 : decode cL_act 1006 = .ok (.if_icmp .ge 29, 3) := by decide +kernel
theorem dL_act_1009 : decode cL_act 1009 = .ok (.aload 7, 2) := by decide +kernel
theorem dL_act_1011 : decode cL_act 1011 = .ok (.iconst 4, 1) := by decide +kernel
theorem dL_act_1012 : decode cL_act 1012 = .ok (.iload 11, 2) := by decide +kernel
theorem dL_act_1014 : decode cL_act 1014 = .ok (.imul, 1) := by decide +kernel
theorem dL_act_1015 : decode cL_act 1015 = .ok (.iload 14, 2) := by decide +kernel
theorem dL_act_1017 : decode cL_act 1017 = .ok (.iadd, 1) := by decide +kernel
theorem dL_act_1018 : decode cL_act 1018 = .ok (.aload 7, 2) := by decide +kernel
theorem dL_act_1020 : decode cL_act 1020 = .ok (.iconst 4, 1) := by decide +kernel
theorem dL_act_1021 : decode cL_act 1021 = .ok (.iload 13, 2) := by decide +kernel
theorem dL_act_1023 : decode cL_act 1023 = .ok (.imul, 1) := by decide +kernel
theorem dL_act_1024 : decode cL_act 1024 = .ok (.iload 14, 2) := by decide +kernel
theorem dL_act_1026 : decode cL_act 1026 = .ok (.iadd, 1) := by decide +kernel
theorem dL_act_1027 : decode cL_act 1027 = .ok (.iaload, 1) := by decide +kernel
theorem dL_act_1028 : decode cL_act 1028 = .ok (.iastore, 1) := by decide +kernel
theorem dL_act_1029 : decode cL_act 1029 = .ok (.iinc 14 1, 3) := by decide +kernel
theorem dL_act_1032 : decode cL_act 1032 = .ok (.goto (-29), 3) := by decide +kernel
theorem dL_act_1035 : decode cL_act 1035 = .ok (.iinc 11 1, 3) := by decide +kernel
theorem dL_act_1038 : decode cL_act 1038 = .ok (.iinc 13 1, 3) := by decide +kernel
theorem dL_act_1041 : decode cL_act 1041 = .ok (.goto (-65), 3) := by decide +kernel
theorem dL_act_1044 : decode cL_act 1044 = .ok (.aload 8, 2) := by decide +kernel
theorem dL_act_1046 : decode cL_act 1046 = .ok (.iconst 3, 1) := by decide +kernel
theorem dL_act_1047 : decode cL_act 1047 = .ok (.iload 11, 2) := by decide +kernel
theorem dL_act_1049 : decode cL_act 1049 = .ok (.iastore, 1) := by decide +kernel
theorem dL_act_1050 : decode cL_act 1050 = .ok (.aload_n 0, 1) := by decide +kernel
theorem dL_act_1051 : decode cL_act 1051 = .ok (.iload 9, 2) := by decide +kernel
theorem dL_act_1053 : decode cL_act 1053 = .ok (.invokevirtual 108, 3) := by decide +kernel
theorem dL_act_1056 : decode cL_act 1056 = .ok (.iload 12, 2) := by decide +kernel
theorem dL_act_1058 : decode cL_act 1058 = .ok (.iload 11, 2) := by decide +kernel
theorem dL_act_1060 : decode cL_act 1060 = .ok (.isub, 1) := by decide +kernel
theorem dL_act_1061 : decode cL_act 1061 = .ok (.if_icmp .ne 7, 3) := by decide +kernel
theorem dL_act_1064 : decode cL_act 1064 = .ok (.iconst 1, 1) := by decide +kernel
theorem dL_act_1065 : decode cL_act 1065 = .ok (.goto 4, 3) := by decide +kernel
theorem dL_act_1068 : decode cL_act 1068 = .ok (.iconst 0, 1) := by decide +kernel
theorem dL_act_1069 : decode cL_act 1069 = .ok (.ireturn, 1) := by decide +kernel
theorem dL_law_0 : decode cL_law 0 = .ok (.new 23, 3) := by decide +kernel
theorem dL_law_3 : decode cL_law 3 = .ok (.dup, 1) := by decide +kernel
theorem dL_law_4 : decode cL_law 4 = .ok (.invokespecial 111, 3) := by decide +kernel
theorem dL_law_7 : decode cL_law 7 = .ok (.astore_n 1, 1) := by decide +kernel
theorem dL_law_8 : decode cL_law 8 = .ok (.bipush 42, 2) := by decide +kernel
theorem dL_law_10 : decode cL_law 10 = .ok (.newarray .int, 2) := by decide +kernel
theorem dL_law_12 : decode cL_law 12 = .ok (.astore_n 2, 1) := by decide +kernel
theorem dL_law_13 : decode cL_law 13 = .ok (.bipush 54, 2) := by decide +kernel
theorem dL_law_15 : decode cL_law 15 = .ok (.newarray .int, 2) := by decide +kernel
theorem dL_law_17 : decode cL_law 17 = .ok (.astore_n 3, 1) := by decide +kernel
theorem dL_law_18 : decode cL_law 18 = .ok (.bipush 24, 2) := by decide +kernel
theorem dL_law_20 : decode cL_law 20 = .ok (.newarray .int, 2) := by decide +kernel
theorem dL_law_22 : decode cL_law 22 = .ok (.astore 4, 2) := by decide +kernel
theorem dL_law_24 : decode cL_law 24 = .ok (.bipush 64, 2) := by decide +kernel
theorem dL_law_26 : decode cL_law 26 = .ok (.newarray .int, 2) := by decide +kernel
theorem dL_law_28 : decode cL_law 28 = .ok (.astore 5, 2) := by decide +kernel
theorem dL_law_30 : decode cL_law 30 = .ok (.bipush 6, 2) := by decide +kernel
theorem dL_law_32 : decode cL_law 32 = .ok (.newarray .int, 2) := by decide +kernel
theorem dL_law_34 : decode cL_law 34 = .ok (.astore 6, 2) := by decide +kernel
theorem dL_law_36 : decode cL_law 36 = .ok (.aload 6, 2) := by decide +kernel
theorem dL_law_38 : decode cL_law 38 = .ok (.iconst 1, 1) := by decide +kernel
theorem dL_law_39 : decode cL_law 39 = .ok (.bipush 100, 2) := by decide +kernel
theorem dL_law_41 : decode cL_law 41 = .ok (.iastore, 1) := by decide +kernel
theorem dL_law_42 : decode cL_law 42 = .ok (.aload_n 1, 1) := by decide +kernel
theorem dL_law_43 : decode cL_law 43 = .ok (.aload_n 2, 1) := by decide +kernel
theorem dL_law_44 : decode cL_law 44 = .ok (.aload_n 3, 1) := by decide +kernel
theorem dL_law_45 : decode cL_law 45 = .ok (.aload 4, 2) := by decide +kernel
theorem dL_law_47 : decode cL_law 47 = .ok (.aload 5, 2) := by decide +kernel
theorem dL_law_49 : decode cL_law 49 = .ok (.aload 6, 2) := by decide +kernel
theorem dL_law_51 : decode cL_law 51 = .ok (.invokestatic 112, 3) := by decide +kernel
theorem dL_law_54 : decode cL_law 54 = .ok (.ifCond .eq 12, 3) := by decide +kernel
theorem dL_law_57 : decode cL_law 57 = .ok (.aload_n 1, 1) := by decide +kernel
theorem dL_law_58 : decode cL_law 58 = .ok (.bipush 8, 2) := by decide +kernel
theorem dL_law_60 : decode cL_law 60 = .ok (.invokevirtual 46, 3) := by decide +kernel
theorem dL_law_63 : decode cL_law 63 = .ok (.ifCond .eq 5, 3) := by decide +kernel
theorem dL_law_66 : decode cL_law 66 = .ok (.iconst 0, 1) := by decide +kernel
theorem dL_law_67 : decode cL_law 67 = .ok (.ireturn, 1) := by decide +kernel
theorem dL_law_68 : decode cL_law 68 = .ok (.iconst 0, 1) := by decide +kernel
theorem dL_law_69 : decode cL_law 69 = .ok (.istore 7, 2) := by decide +kernel
theorem dL_law_71 : decode cL_law 71 = .ok (.iload 7, 2) := by decide +kernel
theorem dL_law_73 : decode cL_law 73 = .ok (.bipush 24, 2) := by decide +kernel
theorem dL_law_75 : decode cL_law 75 = .ok (.if_icmp .ge 134, 3) := by decide +kernel
theorem dL_law_78 : decode cL_law 78 = .ok (.aload_n 0, 1) := by decide +kernel
theorem dL_law_79 : decode cL_law 79 = .ok (.iconst 2, 1) := by decide +kernel
theorem dL_law_80 : decode cL_law 80 = .ok (.iload 7, 2) := by decide +kernel
theorem dL_law_82 : decode cL_law 82 = .ok (.imul, 1) := by decide +kernel
theorem dL_law_83 : decode cL_law 83 = .ok (.invokestatic 116, 3) := by decide +kernel
theorem dL_law_86 : decode cL_law 86 = .ok (.ldc 120, 2) := by decide +kernel
theorem dL_law_88 : decode cL_law 88 = .ok (.iand, 1) := by decide +kernel
theorem dL_law_89 : decode cL_law 89 = .ok (.istore 8, 2) := by decide +kernel
theorem dL_law_91 : decode cL_law 91 = .ok (.aload_n 0, 1) := by decide +kernel
theorem dL_law_92 : decode cL_law 92 = .ok (.iconst 2, 1) := by decide +kernel
theorem dL_law_93 : decode cL_law 93 = .ok (.iload 7, 2) := by decide +kernel
theorem dL_law_95 : decode cL_law 95 = .ok (.imul, 1) := by decide +kernel
theorem dL_law_96 : decode cL_law 96 = .ok (.iconst 1, 1) := by decide +kernel
theorem dL_law_97 : decode cL_law 97 = .ok (.iadd, 1) := by decide +kernel
theorem dL_law_98 : decode cL_law 98 = .ok (.invokestatic 116, 3) := by decide +kernel
theorem dL_law_101 : decode cL_law 101 = .ok (.ldc 120, 2) := by decide +kernel
theorem dL_law_103 : decode cL_law 103 = .ok (.iand, 1) := by decide +kernel
theorem dL_law_104 : decode cL_law 104 = .ok (.istore 9, 2) := by decide +kernel
theorem dL_law_106 : decode cL_law 106 = .ok (.aload_n 1, 1) := by decide +kernel
theorem dL_law_107 : decode cL_law 107 = .ok (.iload 7, 2) := by decide +kernel
theorem dL_law_109 : decode cL_law 109 = .ok (.iconst 3, 1) := by decide +kernel
theorem dL_law_110 : decode cL_law 110 = .ok (.if_icmp .ge 7, 3) := by decide +kernel
theorem dL_law_113 : decode cL_law 113 = .ok (.iconst 0, 1) := by decide +kernel
theorem dL_law_114 : decode cL_law 114 = .ok (.goto 24, 3) := by decide +kernel
theorem dL_law_117 : decode cL_law 117 = .ok (.iload 7, 2) := by decide +kernel
theorem dL_law_119 : decode cL_law 119 = .ok (.iconst 3, 1) := by decide +kernel
theorem dL_law_120 : decode cL_law 120 = .ok (.if_icmp .ne 8, 3) := by decide +kernel
theorem dL_law_123 : decode cL_law 123 = .ok (.bipush 7, 2) := by decide +kernel
theorem dL_law_125 : decode cL_law 125 = .ok (.goto 13, 3) := by decide +kernel
theorem dL_law_128 : decode cL_law 128 = .ok (.iload 8, 2) := by decide +kernel
theorem dL_law_130 : decode cL_law 130 = .ok (.bipush 13, 2) := by decide +kernel
theorem dL_law_132 : decode cL_law 132 = .ok (.ishr, 1) := by decide +kernel
theorem dL_law_133 : decode cL_law 133 = .ok (.bipush 18, 2) := by decide +kernel
theorem dL_law_135 : decode cL_law 135 = .ok (.invokestatic 61, 3) := by decide +kernel
theorem dL_law_138 : decode cL_law 138 = .ok (.iload 8, 2) := by decide +kernel
theorem dL_law_140 : decode cL_law 140 = .ok (.iload 9, 2) := by decide +kernel
theorem dL_law_142 : decode cL_law 142 = .ok (.aload_n 2, 1) := by decide +kernel
theorem dL_law_143 : decode cL_law 143 = .ok (.aload_n 3, 1) := by decide +kernel
theorem dL_law_144 : decode cL_law 144 = .ok (.aload 4, 2) := by decide +kernel
theorem dL_law_146 : decode cL_law 146 = .ok (.aload 5, 2) := by decide +kernel
theorem dL_law_148 : decode cL_law 148 = .ok (.aload 6, 2) := by decide +kernel
theorem dL_law_150 : decode cL_law 150 = .ok (.invokestatic 121, 3) := by decide +kernel
theorem dL_law_153 : decode cL_law 153 = .ok (.ifCond .eq 18, 3) := by decide +kernel
theorem dL_law_156 : decode cL_law 156 = .ok (.aload_n 1, 1) := by decide +kernel
theorem dL_law_157 : decode cL_law 157 = .ok (.aload_n 2, 1) := by decide +kernel
theorem dL_law_158 : decode cL_law 158 = .ok (.aload_n 3, 1) := by decide +kernel
theorem dL_law_159 : decode cL_law 159 = .ok (.aload 4, 2) := by decide +kernel
theorem dL_law_161 : decode cL_law 161 = .ok (.aload 5, 2) := by decide +kernel
theorem dL_law_163 : decode cL_law 163 = .ok (.aload 6, 2) := by decide +kernel
theorem dL_law_165 : decode cL_law 165 = .ok (.invokestatic 112, 3) := by decide +kernel
theorem dL_law_168 : decode cL_law 168 = .ok (.ifCond .ne 5, 3) := by decide +kernel
theorem dL_law_171 : decode cL_law 171 = .ok (.iconst 0, 1) := by decide +kernel
theorem dL_law_172 : decode cL_law 172 = .ok (.ireturn, 1) := by decide +kernel
theorem dL_law_173 : decode cL_law 173 = .ok (.iload 7, 2) := by decide +kernel
theorem dL_law_175 : decode cL_law 175 = .ok (.bipush 6, 2) := by decide +kernel
theorem dL_law_177 : decode cL_law 177 = .ok (.irem, 1) := by decide +kernel
theorem dL_law_178 : decode cL_law 178 = .ok (.iconst 5, 1) := by decide +kernel
theorem dL_law_179 : decode cL_law 179 = .ok (.if_icmp .ne 24, 3) := by decide +kernel
theorem dL_law_182 : decode cL_law 182 = .ok (.aload_n 1, 1) := by decide +kernel
theorem dL_law_183 : decode cL_law 183 = .ok (.iload 9, 2) := by decide +kernel
theorem dL_law_185 : decode cL_law 185 = .ok (.iconst 2, 1) := by decide +kernel
theorem dL_law_186 : decode cL_law 186 = .ok (.ishr, 1) := by decide +kernel
theorem dL_law_187 : decode cL_law 187 = .ok (.iload 8, 2) := by decide +kernel
theorem dL_law_189 : decode cL_law 189 = .ok (.iconst 2, 1) := by decide +kernel
theorem dL_law_190 : decode cL_law 190 = .ok (.ishr, 1) := by decide +kernel
theorem dL_law_191 : decode cL_law 191 = .ok (.aload_n 2, 1) := by decide +kernel
theorem dL_law_192 : decode cL_law 192 = .ok (.aload_n 3, 1) := by decide +kernel
theorem dL_law_193 : decode cL_law 193 = .ok (.aload 6, 2) := by decide +kernel
theorem dL_law_195 : decode cL_law 195 = .ok (.invokestatic 125, 3) := by decide +kernel
theorem dL_law_198 : decode cL_law 198 = .ok (.ifCond .ne 5, 3) := by decide +kernel
theorem dL_law_201 : decode cL_law 201 = .ok (.iconst 0, 1) := by decide +kernel
theorem dL_law_202 : decode cL_law 202 = .ok (.ireturn, 1) := by decide +kernel
theorem dL_law_203 : decode cL_law 203 = .ok (.iinc 7 1, 3) := by decide +kernel
theorem dL_law_206 : decode cL_law 206 = .ok (.goto (-135), 3) := by decide +kernel
theorem dL_law_209 : decode cL_law 209 = .ok (.aload_n 1, 1) := by decide +kernel
theorem dL_law_210 : decode cL_law 210 = .ok (.bipush 8, 2) := by decide +kernel
theorem dL_law_212 : decode cL_law 212 = .ok (.invokevirtual 46, 3) := by decide +kernel
theorem dL_law_215 : decode cL_law 215 = .ok (.ifCond .le 7, 3) := by decide +kernel
theorem dL_law_218 : decode cL_law 218 = .ok (.iconst 1, 1) := by decide +kernel
theorem dL_law_219 : decode cL_law 219 = .ok (.goto 4, 3) := by decide +kernel
theorem dL_law_222 : decode cL_law 222 = .ok (.iconst 0, 1) := by decide +kernel
theorem dL_law_223 : decode cL_law 223 = .ok (.ireturn, 1) := by decide +kernel
end
section
/-! A small heap: cells by number; the machine's cell of number i lies at 'gad g i'. 'EE K a pc L S h': from this place of the method, with these locals, this operand stack and this small heap, the walk comes to its end. -/
abbrev MC : Type := (Nat × vp_A) ⊕ (Nat × List Value)
abbrev MH : Type := List MC
def mv (ad : Nat → Nat) : Value → Value
  | .ref a => .ref (ad a)
  | v => v
def ma (ad : Nat → Nat) (a : vp_A) : vp_A := (a.1, match a.2 with
  | .inr (.inr (.inr (.inr f))) => .inr (.inr (.inr (.inr (fun j => (f j).map ad))))
  | x => x)
def mcl (ad : Nat → Nat) (cA : Nat → ClassId) (c : MC) : va_E := match c with
  | .inl p => .inl (cA p.1, ma ad p.2)
  | .inr o => .inr (o.1, o.2.map (mv ad))
def mw (ad : Nat → Nat) (cA : Nat → ClassId) (h : MH) : va_W := h.mapIdx (fun i c => (ad i, mcl ad cA c))
theorem mw_get {ad : Nat → Nat} {cA : Nat → ClassId} {h : MH} {k : Nat} {c : MC} (e : h[k]? = some c) : (mw ad cA h)[k]? = some (ad k, mcl ad cA c) := by
  simp [mw, e]
theorem mw_at {ad : Nat → Nat} {cA : Nat → ClassId} {h : MH} {k : Nat} {q : Nat × va_E} (e : (mw ad cA h)[k]? = some q) : ∃ c, h[k]? = some c ∧ q = (ad k, mcl ad cA c) := by
  simp only [mw, List.getElem?_mapIdx, Option.map_eq_some_iff] at e
  obtain ⟨c, e1, e2⟩ := e
  exact ⟨c, e1, e2.symm⟩
theorem mw_set {ad : Nat → Nat} {cA : Nat → ClassId} {h : MH} {k : Nat} {c : MC} : (mw ad cA h).set k (ad k, mcl ad cA c) = mw ad cA (h.set k c) := by
  apply List.ext_getElem?
  intro i
  simp only [mw, List.getElem?_set, List.getElem?_mapIdx, List.length_mapIdx]
  by_cases hi : k = i
  · subst hi
    by_cases hl : k < h.length
    · simp [hl]
    · simp [hl]
  · simp [hi]
theorem mw_push {ad : Nat → Nat} {cA : Nat → ClassId} {h : MH} {c : MC} : mw ad cA h ++ [(ad h.length, mcl ad cA c)] = mw ad cA (h ++ [c]) := by
  simp [mw, List.mapIdx_append]
theorem mw_len {ad : Nat → Nat} {cA : Nat → ClassId} {h : MH} : (mw ad cA h).length = h.length := by simp [mw]
abbrev Gx : Type := Launch × (Nat → Nat) × Nat × (Nat × (Nat → Int32)) × va_G × (Nat → ClassId)
abbrev gl (g : Gx) : Launch := g.1
abbrev gad (g : Gx) : Nat → Nat := g.2.1
abbrev gb (g : Gx) : Nat := g.2.2.1
abbrev gsc (g : Gx) : Nat × (Nat → Int32) := g.2.2.2.1
abbrev gD (g : Gx) : va_G := g.2.2.2.2.1
abbrev gcA (g : Gx) : Nat → ClassId := g.2.2.2.2.2
def gA (g : Gx) : Nat → Prop := fun q => gb g ≤ q
def gtys (cA : Nat → ClassId) : List (ClassId × FieldType) := [(cA 0, .int), (cA 1, .long), (cA 2, .object "RailSequence$Plant")]
def roL : Nat → Int32 := fun j => ([100, 1, 1, 50, 0, 1, 1] : List Int32).getD j 0
def roM : Nat → Int32 := fun j => ([5000, 1000, 1000, 100, 50, 200, 4] : List Int32).getD j 0
def gro (g : Gx) (i : Nat) : Nat × (Nat → Int32) := match i with
  | 0 => gsc g
  | 1 => (7, roL)
  | _ => (7, roM)
abbrev RO : Nat := 1000000
/-- words that hold beside those of AW -/
def XNest : Cond → Bool
  | .fieldLinkNest .. => true
  | .methodLinkNest .. => true
  | .declares .. => true
  | .castable .. => true
  | _ => false
def XW : List Cond := tables_1.filter XNest
theorem XW_warm {w : Cond} (h : XNest w = true) {s U : State} (hW : s.WarmedH U.vm) (hZ : va_Nw w s) : va_Nw w U := by
  cases w <;> first | exact va_Nw.warmF hW hZ | exact va_Nw.warmM hW hZ | exact va_Nw.warmD hW hZ | exact va_Nw.warmC hW hZ | (simp [XNest] at h; done)
/-- an array of ints that nobody writes -/
def vY (b L : Nat) (xs : Nat → Int32) (U : State) (H : Heap) : Prop := ∃ scr : Cell, H[b]? = some scr ∧ U.isArrayOf scr .int ∧ scr.vm ≠ .unknown ∧ L ≤ scr.slots.size ∧ scr.slots.size.toInt32 = Int32.ofNat L ∧ ∀ j : Nat, j < L → scr.slots[j]? = some (.int (xs j))
theorem vY.kept {b L : Nat} {xs : Nat → Int32} {U : State} {H H1 : Heap} (h : vY b L xs U H) (hq : H1[b]? = H[b]?) : vY b L xs U H1 := by
  obtain ⟨scr, h1, h2⟩ := h
  exact ⟨scr, by rw [hq]; exact h1, h2⟩
theorem vY.moved {b L : Nat} {xs : Nat → Int32} {u U : State} {H : Heap} (hvm : u.vm.Alike U.vm) (h : vY b L xs u H) : vY b L xs U H := by
  obtain ⟨scr, h1, h2, h3⟩ := h
  exact ⟨scr, h1, State.isArrayOf_alike hvm h2, h3⟩
/-- what holds of every state that a method of ours is begun in -/
def Bg (g : Gx) (U : State) : Prop :=
  va_K (gD g) vwCl (gtys (gcA g)) U ∧ (∀ i, i < 3 → vY (gad g (RO + i)) (gro g i).1 (gro g i).2 U U.heap ∧ gad g (RO + i) < gb g) ∧ gb g ≤ U.heap.size ∧
  va_Z "RailSequence" "LEAST" "[I" (.ref (gad g (RO + 1))) (gA g) U U.heap ∧ va_Z "RailSequence" "MOST" "[I" (.ref (gad g (RO + 2))) (gA g) U U.heap ∧
  True ∧ True ∧
  (∀ i, i < 1000 → gad g i = gb g + i) ∧ True ∧ True ∧ (∀ w ∈ XW, va_Nw w U) ∧ True ∧ va_AO "RailSequence$Plant" U
theorem Bg.to {g : Gx} {s U : State} (h : Bg g s) (hW : s.WarmedH U.vm) (hz : s.heap.size ≤ U.heap.size) (hk : ∀ q : Nat, q < s.heap.size → ¬ gA g q → U.heap[q]? = s.heap[q]?) : Bg g U := by
  obtain ⟨h1, h2, h3, h4, h5, h6, h7, h8, h9, h10, h11, h12, h13⟩ := h
  have hvm := hW.alike
  refine ⟨va_K.moved hvm h1, fun i hi => ⟨?_, (h2 i hi).2⟩, Nat.le_trans h3 hz, (h4.moved hvm).kept hk, (h5.moved hvm).kept hk, trivial, trivial, h8, trivial, trivial, fun w hw => XW_warm (List.mem_filter.mp hw).2 hW (h11 w hw), h12, h13.moved hvm⟩
  · obtain ⟨a1, a2⟩ := h2 i hi
    refine (a1.moved hvm).kept (hk _ (Nat.lt_of_lt_of_le a2 h3) (fun z => ?_))
    exact absurd z (Nat.not_le.mpr a2)
/-- the small heap and the machine's -/
def Rel (g : Gx) (fr : Bool) (h : MH) (H : Heap) : Prop :=
  va_P (gD g) vwCl (mw (gad g) (gcA g) h) H ∧ gb g + h.length ≤ H.size ∧ (fr = true → H.size = gb g + h.length) ∧ h.length ≤ 1000
theorem mw_D {g : Gx} (h8 : ∀ i, i < 1000 → gad g i = gb g + i) {h : MH} (hl : h.length ≤ 1000) : va_D (gA g) (mw (gad g) (gcA g) h) := by
  have key : ∀ (k : Nat) (q : Nat × va_E), (mw (gad g) (gcA g) h)[k]? = some q → k < h.length ∧ q.1 = gb g + k := by
    intro k q hq
    obtain ⟨c, e1, rfl⟩ := mw_at hq
    have hk : k < h.length := (List.getElem?_eq_some_iff.mp e1).1
    exact ⟨hk, h8 k (by omega)⟩
  refine ⟨fun i j p q hi hj e => ?_, fun k q hq => ?_⟩
  · have a := (key i p hi).2
    have b := (key j q hj).2
    omega
  · rw [(key k q hq).2]
    exact Nat.le_add_right _ _
/-- where a walk stands: the claim's own words, the machine's, the method's, what its end must meet -/
abbrev Cx : Type := Gx × (Program × Env × Room × State) × (MethodId × Array Value × List Frame × Method × Code) × (State → Prop)
def WW (K : Cx) (H : Heap) (locs : List Loc) (cells slots : Nat) (g : JFrame) : Prop :=
  W K.2.1.1 (gl K.1) K.2.1.2.1 K.2.1.2.2.1 K.2.1.2.2.2 K.2.2.1.1 K.2.2.1.2.1 K.2.2.1.2.2.1 K.2.2.1.2.2.2.1 K.2.2.1.2.2.2.2 H locs cells slots K.2.2.2 g
abbrev kR (K : Cx) : Room := K.2.1.2.2.1
abbrev ks (K : Cx) : State := K.2.1.2.2.2
abbrev km (K : Cx) : MethodId := K.2.2.1.1
abbrev kargs (K : Cx) : Array Value := K.2.2.1.2.1
abbrev kmeth (K : Cx) : Method := K.2.2.1.2.2.2.1
abbrev kc (K : Cx) : Code := K.2.2.1.2.2.2.2
/-- the locals -/
def LR (ad : Nat → Nat) (nL : Nat) (L : List (Option Value)) (ls : Array Slot) : Prop :=
  ls.size = nL ∧ L.length = nL ∧ lv_wf ls ∧ ∀ (i : Nat) (v : Value), L[i]? = some (some v) → ls[i]? = some (.val (mv ad v))
def EE (K : Cx) (a : Bool × Nat × Nat) (pc : Nat) (L : List (Option Value)) (S : List Value) (h : MH) : Prop :=
  ∀ (H : Heap) (ls : Array Slot) (locs : List Loc), Rel K.1 a.1 h H → va_S (gA K.1) (ks K).heap H locs → LR (gad K.1) (kc K).maxLocals L ls →
    WW K H locs a.2.1 a.2.2 (F0 (km K) pc ls (S.map (mv (gad K.1))))
/-- the facts of the method that is walked: its class, its code, its locals, its room -/
def Ok (K : Cx) (own : String) (cc : ByteArray) (nL : Nat) (R : Room) : Prop :=
  K.2.1.1.tables.exec = Jvm.exec ∧ (kc K).code = cc ∧ (kc K).maxLocals = nL ∧ (ks K).vm.findClass own = some (km K).cls ∧ (∀ w ∈ AW, w.before (kargs K) (ks K) = true) ∧ Bg K.1 (ks K) ∧ kR K = R ∧ (kmeth K).locks = false
variable {K : Cx} {own : String} {cc : ByteArray} {nL : Nat} {R : Room} {a : Bool × Nat × Nat} {pc : Nat} {L : List (Option Value)} {S : List Value} {h : MH}
theorem Ok.x (O : Ok K own cc nL R) : K.2.1.1.tables.exec = Jvm.exec := O.1
theorem Ok.b (O : Ok K own cc nL R) : (kc K).code = cc := O.2.1
theorem Ok.ow (O : Ok K own cc nL R) : (ks K).vm.findClass own = some (km K).cls := O.2.2.2.1
theorem Ok.ws (O : Ok K own cc nL R) : ∀ w ∈ AW, w.before (kargs K) (ks K) = true := O.2.2.2.2.1
theorem Ok.bg (O : Ok K own cc nL R) : Bg K.1 (ks K) := O.2.2.2.2.2.1
theorem Ok.k (O : Ok K own cc nL R) : va_K (gD K.1) vwCl (gtys (gcA K.1)) (ks K) := O.bg.1
theorem Ok.A (O : Ok K own cc nL R) : ∀ q, (ks K).heap.size ≤ q → gA K.1 q := fun _ z => Nat.le_trans O.bg.2.2.1 z
theorem Ok.D (O : Ok K own cc nL R) {h : MH} (hl : h.length ≤ 1000) : va_D (gA K.1) (mw (gad K.1) (gcA K.1) h) := mw_D O.bg.2.2.2.2.2.2.2.1 hl
/-! locals -/
def lvl (ad : Nat → Nat) (L : List (Option Value)) : List (Nat × Value) := (List.range L.length).filterMap (fun i => match L[i]? with
  | some (some v) => some (i, mv ad v)
  | _ => none)
theorem lvl_in {ad : Nat → Nat} {L : List (Option Value)} {i : Nat} {v : Value} (h : L[i]? = some (some v)) : (i, mv ad v) ∈ lvl ad L := by
  refine List.mem_filterMap.mpr ⟨i, List.mem_range.mpr (List.getElem?_eq_some_iff.mp h).1, ?_⟩
  rw [h]
theorem lvl_of {ad : Nat → Nat} {L : List (Option Value)} {q : Nat × Value} (h : q ∈ lvl ad L) : ∃ v, L[q.1]? = some (some v) ∧ q.2 = mv ad v := by
  obtain ⟨i, -, h2⟩ := List.mem_filterMap.mp h
  split at h2
  · next v hv =>
    cases h2
    exact ⟨v, hv, rfl⟩
  · cases h2
theorem LR.has {ad : Nat → Nat} {nL : Nat} {L : List (Option Value)} {ls : Array Slot} (h : LR ad nL L ls) : lv_has ls nL (lvl ad L) := by
  refine ⟨h.1, h.2.2.1, fun q hq => ?_⟩
  obtain ⟨v, e1, e2⟩ := lvl_of hq
  rw [e2]
  exact h.2.2.2 _ _ e1
/-- the place before is not the first half of a long -/
def pok (L : List (Option Value)) (i : Nat) : Bool := match i with
  | 0 => true
  | j + 1 => match L[j]? with
    | some (some w) => w.category != 2
    | _ => true
theorem mv_cat {ad : Nat → Nat} (v : Value) : (mv ad v).category = v.category := by cases v <;> rfl
theorem LR.set1 {ad : Nat → Nat} {nL : Nat} {L : List (Option Value)} {ls ls' : Array Slot} {i : Nat} {v : Value} (h : LR ad nL L ls) (hi : i < nL) (hp : pok L i = true)
    (h' : lv_has ls' nL ((i, mv ad v) :: (lvl ad L).filter (fun q => !(q.1 == i) && !(q.1 + 1 == i && q.2.category == 2)))) : LR ad nL (L.set i (some v)) ls' := by
  refine ⟨h'.1, by rw [List.length_set]; exact h.2.1, h'.2.1, fun j w hj => ?_⟩
  rw [List.getElem?_set] at hj
  by_cases hij : i = j
  · subst hij
    rw [if_pos rfl] at hj
    split at hj
    · cases hj
      exact h'.2.2 _ List.mem_cons_self
    · cases hj
  · rw [if_neg hij] at hj
    refine h'.2.2 (j, mv ad w) (List.mem_cons_of_mem _ (List.mem_filter.mpr ⟨lvl_in hj, ?_⟩))
    simp only [Bool.and_eq_true, Bool.not_eq_true', beq_eq_false_iff_ne, ne_eq, Bool.and_eq_false_iff]
    refine ⟨fun z => hij z.symm, ?_⟩
    by_cases hj1 : j + 1 = i
    · right
      subst hj1
      simp only [pok, hj] at hp
      rw [mv_cat]
      simpa using hp
    · exact Or.inl hj1
theorem LR.set2 {ad : Nat → Nat} {nL : Nat} {L : List (Option Value)} {ls ls' : Array Slot} {i : Nat} {v : Value} (h : LR ad nL L ls) (hi : i + 1 < nL) (hp : pok L i = true)
    (h' : lv_has ls' nL ((i, mv ad v) :: (lvl ad L).filter (fun q => !(q.1 == i) && (!(q.1 == i + 1) && !(q.1 + 1 == i && q.2.category == 2))))) : LR ad nL ((L.set i (some v)).set (i + 1) none) ls' := by
  refine ⟨h'.1, by rw [List.length_set, List.length_set]; exact h.2.1, h'.2.1, fun j w hj => ?_⟩
  rw [List.getElem?_set] at hj
  by_cases hij1 : i + 1 = j
  · rw [if_pos hij1] at hj
    split at hj <;> cases hj
  rw [if_neg hij1, List.getElem?_set] at hj
  by_cases hij : i = j
  · subst hij
    rw [if_pos rfl] at hj
    split at hj
    · cases hj
      exact h'.2.2 _ List.mem_cons_self
    · cases hj
  · rw [if_neg hij] at hj
    refine h'.2.2 (j, mv ad w) (List.mem_cons_of_mem _ (List.mem_filter.mpr ⟨lvl_in hj, ?_⟩))
    simp only [Bool.and_eq_true, Bool.not_eq_true', beq_eq_false_iff_ne, ne_eq, Bool.and_eq_false_iff]
    refine ⟨fun z => hij z.symm, fun z => hij1 z.symm, ?_⟩
    by_cases hj1 : j + 1 = i
    · right
      subst hj1
      simp only [pok, hj] at hp
      rw [mv_cat]
      simpa using hp
    · exact Or.inl hj1
/-- fewer known locals -/
def subL : List (Option Value) → List (Option Value) → Prop
  | [], [] => True
  | none :: l, _ :: l' => subL l l'
  | some v :: l, x :: l' => x = some v ∧ subL l l'
  | _, _ => False
theorem subL_get (L' : List (Option Value)) : ∀ L : List (Option Value), subL L' L → L'.length = L.length ∧ ∀ (i : Nat) (v : Value), L'[i]? = some (some v) → L[i]? = some (some v) := by
  induction L' with
  | nil =>
    intro L h
    cases L with
    | nil => exact ⟨rfl, fun i v h => by simp at h⟩
    | cons x l => simp [subL] at h
  | cons y l ih =>
    intro L h
    cases L with
    | nil => cases y <;> simp [subL] at h
    | cons x l' =>
      cases y with
      | none =>
        obtain ⟨e, f⟩ := ih l' (show subL l l' from h)
        refine ⟨by simp [e], fun i v hv => ?_⟩
        cases i with
        | zero => simp at hv
        | succ i => simpa using f i v (by simpa using hv)
      | some w =>
        obtain ⟨hx, h2⟩ := (show x = some w ∧ subL l l' from h)
        subst hx
        obtain ⟨e, f⟩ := ih l' h2
        refine ⟨by simp [e], fun i v hv => ?_⟩
        cases i with
        | zero => simpa using hv
        | succ i => simpa using f i v (by simpa using hv)
theorem E_sub {L' : List (Option Value)} (hs : subL L' L) (k : EE K a pc L' S h) : EE K a pc L S h := by
  intro H ls locs hR hS hL
  obtain ⟨e, f⟩ := subL_get _ _ hs
  exact k H ls locs hR hS ⟨hL.1, e.trans hL.2.1, hL.2.2.1, fun i v hv => hL.2.2.2 i v (f i v hv)⟩
theorem E_widen {cs ss : Nat} (h1 : a.2.1 ≤ cs) (h2 : a.2.2 ≤ ss) (k : EE K (a.1, cs, ss) pc L S h) : EE K a pc L S h := by
  intro H ls locs hR hS hL
  exact W.widen h1 h2 (k H ls locs hR hS hL)
end
section
/-! one instruction, one row, over the small heap -/
variable {K : Cx} {own : String} {cc : ByteArray} {nL : Nat} {R : Room} {a : Bool × Nat × Nat} {pc : Nat} {L : List (Option Value)} {S : List Value} {h : MH}
theorem ob {α β : Type} {x : Option α} {f : α → Option β} {r : β} (hf : x.bind f = some r) : ∃ v, x = some v ∧ f v = some r := by
  cases x with
  | none => cases hf
  | some v => exact ⟨v, rfl, hf⟩
theorem os {α : Type} {x y : α} (hf : some x = some y) : x = y := Option.some.inj hf
theorem E_iadd (O : Ok K own cc nL R) {x y : Int32} (d : decode cc pc = .ok (.iadd, 1))  (kk : EE K a (pc + 1) L (.int (x + y) :: S) h) : EE K a pc L (.int y :: .int x :: S) h := fun H ls locs hR hS hL => lv_iadd O.x O.b d  (kk H ls locs hR hS hL)
theorem E_isub (O : Ok K own cc nL R) {x y : Int32} (d : decode cc pc = .ok (.isub, 1))  (kk : EE K a (pc + 1) L (.int (x - y) :: S) h) : EE K a pc L (.int y :: .int x :: S) h := fun H ls locs hR hS hL => lv_isub O.x O.b d  (kk H ls locs hR hS hL)
theorem E_imul (O : Ok K own cc nL R) {x y : Int32} (d : decode cc pc = .ok (.imul, 1))  (kk : EE K a (pc + 1) L (.int (x * y) :: S) h) : EE K a pc L (.int y :: .int x :: S) h := fun H ls locs hR hS hL => lv_imul O.x O.b d  (kk H ls locs hR hS hL)
theorem E_iand (O : Ok K own cc nL R) {x y : Int32} (d : decode cc pc = .ok (.iand, 1))  (kk : EE K a (pc + 1) L (.int (x &&& y) :: S) h) : EE K a pc L (.int y :: .int x :: S) h := fun H ls locs hR hS hL => lv_iand O.x O.b d  (kk H ls locs hR hS hL)
theorem E_ior (O : Ok K own cc nL R) {x y : Int32} (d : decode cc pc = .ok (.ior, 1))  (kk : EE K a (pc + 1) L (.int (x ||| y) :: S) h) : EE K a pc L (.int y :: .int x :: S) h := fun H ls locs hR hS hL => lv_ior O.x O.b d  (kk H ls locs hR hS hL)
theorem E_ixor (O : Ok K own cc nL R) {x y : Int32} (d : decode cc pc = .ok (.ixor, 1))  (kk : EE K a (pc + 1) L (.int (x ^^^ y) :: S) h) : EE K a pc L (.int y :: .int x :: S) h := fun H ls locs hR hS hL => lv_ixor O.x O.b d  (kk H ls locs hR hS hL)
theorem E_ishl (O : Ok K own cc nL R) {x y : Int32} (d : decode cc pc = .ok (.ishl, 1))  (kk : EE K a (pc + 1) L (.int (x <<< (y &&& 31)) :: S) h) : EE K a pc L (.int y :: .int x :: S) h := fun H ls locs hR hS hL => lv_ishl O.x O.b d  (kk H ls locs hR hS hL)
theorem E_ishr (O : Ok K own cc nL R) {x y : Int32} (d : decode cc pc = .ok (.ishr, 1))  (kk : EE K a (pc + 1) L (.int (x >>> (y &&& 31)) :: S) h) : EE K a pc L (.int y :: .int x :: S) h := fun H ls locs hR hS hL => lv_ishr O.x O.b d  (kk H ls locs hR hS hL)
theorem E_ineg (O : Ok K own cc nL R) {x : Int32} (d : decode cc pc = .ok (.ineg, 1))  (kk : EE K a (pc + 1) L (.int (-x) :: S) h) : EE K a pc L (.int x :: S) h := fun H ls locs hR hS hL => lv_ineg O.x O.b d  (kk H ls locs hR hS hL)
theorem E_ladd (O : Ok K own cc nL R) {x y : Int64} (d : decode cc pc = .ok (.ladd, 1))  (kk : EE K a (pc + 1) L (.long (x + y) :: S) h) : EE K a pc L (.long y :: .long x :: S) h := fun H ls locs hR hS hL => lv_ladd O.x O.b d  (kk H ls locs hR hS hL)
theorem E_lsub (O : Ok K own cc nL R) {x y : Int64} (d : decode cc pc = .ok (.lsub, 1))  (kk : EE K a (pc + 1) L (.long (x - y) :: S) h) : EE K a pc L (.long y :: .long x :: S) h := fun H ls locs hR hS hL => lv_lsub O.x O.b d  (kk H ls locs hR hS hL)
theorem E_lmul (O : Ok K own cc nL R) {x y : Int64} (d : decode cc pc = .ok (.lmul, 1))  (kk : EE K a (pc + 1) L (.long (x * y) :: S) h) : EE K a pc L (.long y :: .long x :: S) h := fun H ls locs hR hS hL => lv_lmul O.x O.b d  (kk H ls locs hR hS hL)
theorem E_lshl (O : Ok K own cc nL R) {x : Int64} {y : Int32} (d : decode cc pc = .ok (.lshl, 1))  (kk : EE K a (pc + 1) L (.long (x <<< (y.toInt64 &&& 63)) :: S) h) : EE K a pc L (.int y :: .long x :: S) h := fun H ls locs hR hS hL => lv_lshl O.x O.b d rfl (kk H ls locs hR hS hL)
theorem E_i2l (O : Ok K own cc nL R) {x : Int32} (d : decode cc pc = .ok (.i2l, 1))  (kk : EE K a (pc + 1) L (.long x.toInt64 :: S) h) : EE K a pc L (.int x :: S) h := fun H ls locs hR hS hL => lv_i2l O.x O.b d rfl (kk H ls locs hR hS hL)
theorem E_lcmp (O : Ok K own cc nL R) {x y : Int64} (d : decode cc pc = .ok (.lcmp, 1))  (kk : EE K a (pc + 1) L (.int (lg_cmp x y) :: S) h) : EE K a pc L (.long y :: .long x :: S) h := fun H ls locs hR hS hL => W.lcmp O.x O.b d  (kk H ls locs hR hS hL)
theorem E_i2d (O : Ok K own cc nL R) {x : Int32} (d : decode cc pc = .ok (.i2d, 1))  (kk : EE K a (pc + 1) L (.double (FP.i2d x) :: S) h) : EE K a pc L (.int x :: S) h := fun H ls locs hR hS hL => lv_i2d O.x O.b d  (kk H ls locs hR hS hL)
theorem E_d2l (O : Ok K own cc nL R) {x : UInt64} (d : decode cc pc = .ok (.d2l, 1))  (kk : EE K a (pc + 1) L (.long (FP.d2l x) :: S) h) : EE K a pc L (.double x :: S) h := fun H ls locs hR hS hL => lv_d2l O.x O.b d  (kk H ls locs hR hS hL)
theorem E_dcmp (O : Ok K own cc nL R) {x y : UInt64} {op : CmpOp} (d : decode cc pc = .ok (.dcmp op, 1))  (kk : EE K a (pc + 1) L (.int (Op.cmpValue (FP.dcmp x y) op) :: S) h) : EE K a pc L (.double y :: .double x :: S) h := fun H ls locs hR hS hL => lv_dcmp O.x O.b d  (kk H ls locs hR hS hL)
theorem E_dconst0 (O : Ok K own cc nL R)  (d : decode cc pc = .ok (.dconst 0, 1))  (kk : EE K a (pc + 1) L (.double 0 :: S) h) : EE K a pc L (S) h := fun H ls locs hR hS hL => lv_dconst0 O.x O.b d  (kk H ls locs hR hS hL)
theorem E_dconst1 (O : Ok K own cc nL R)  (d : decode cc pc = .ok (.dconst 1, 1))  (kk : EE K a (pc + 1) L (.double 4607182418800017408 :: S) h) : EE K a pc L (S) h := fun H ls locs hR hS hL => lv_dconst1 O.x O.b d  (kk H ls locs hR hS hL)
theorem E_lconst (O : Ok K own cc nL R) {n : Fin 2} (v : Int64) (d : decode cc pc = .ok (.lconst n, 1)) (hv : Int64.ofNat (n : Nat) = v) (kk : EE K a (pc + 1) L (.long v :: S) h) : EE K a pc L (S) h := fun H ls locs hR hS hL => lv_lconst O.x O.b d hv (kk H ls locs hR hS hL)
theorem E_iconst (O : Ok K own cc nL R) {n : Int} (v : Int32) (d : decode cc pc = .ok (.iconst n, 1)) (hv : Int32.ofInt n = v) (kk : EE K a (pc + 1) L (.int v :: S) h) : EE K a pc L (S) h := fun H ls locs hR hS hL => lv_iconst O.x O.b d hv (kk H ls locs hR hS hL)
theorem E_bipush (O : Ok K own cc nL R) {n : Int} (v : Int32) (d : decode cc pc = .ok (.bipush n, 2)) (hv : (Int8.ofInt n).toInt32 = v) (kk : EE K a (pc + 2) L (.int v :: S) h) : EE K a pc L (S) h := fun H ls locs hR hS hL => lv_bipush O.x O.b d hv (kk H ls locs hR hS hL)
theorem E_sipush (O : Ok K own cc nL R) {n : Int} (v : Int32) (d : decode cc pc = .ok (.sipush n, 3)) (hv : (Int16.ofInt n).toInt32 = v) (kk : EE K a (pc + 3) L (.int v :: S) h) : EE K a pc L (S) h := fun H ls locs hR hS hL => lv_sipush O.x O.b d hv (kk H ls locs hR hS hL)
/-- an arithmetic of doubles whose answer is no NaN -/
def fdsub (x y : UInt64) : Option UInt64 := if FP.dsub x y &&& 0x7fffffffffffffff ≤ 0x7ff0000000000000 then some (FP.dsub x y) else none
theorem E_dsub (O : Ok K own cc nL R) {x y : UInt64} {ρ : Type} {f : UInt64 → Option ρ} {out : ρ} (d : decode cc pc = .ok (.dsub, 1)) (hf : (fdsub x y).bind f = some out) (kk : ∀ z, f z = some out → EE K a (pc + 1) L (.double z :: S) h) : EE K a pc L (.double y :: .double x :: S) h := by
  intro H ls locs hR hS hL
  unfold fdsub at hf
  split at hf
  · next hn => exact lv_dsub O.x O.b d hn (kk _ hf H ls locs hR hS hL)
  · cases hf
/-- an arithmetic of doubles whose answer is no NaN -/
def fdmul (x y : UInt64) : Option UInt64 := if FP.dmul x y &&& 0x7fffffffffffffff ≤ 0x7ff0000000000000 then some (FP.dmul x y) else none
theorem E_dmul (O : Ok K own cc nL R) {x y : UInt64} {ρ : Type} {f : UInt64 → Option ρ} {out : ρ} (d : decode cc pc = .ok (.dmul, 1)) (hf : (fdmul x y).bind f = some out) (kk : ∀ z, f z = some out → EE K a (pc + 1) L (.double z :: S) h) : EE K a pc L (.double y :: .double x :: S) h := by
  intro H ls locs hR hS hL
  unfold fdmul at hf
  split at hf
  · next hn => exact lv_dmul O.x O.b d hn (kk _ hf H ls locs hR hS hL)
  · cases hf
/-- an arithmetic of doubles whose answer is no NaN -/
def fddiv (x y : UInt64) : Option UInt64 := if FP.ddiv x y &&& 0x7fffffffffffffff ≤ 0x7ff0000000000000 then some (FP.ddiv x y) else none
theorem E_ddiv (O : Ok K own cc nL R) {x y : UInt64} {ρ : Type} {f : UInt64 → Option ρ} {out : ρ} (d : decode cc pc = .ok (.ddiv, 1)) (hf : (fddiv x y).bind f = some out) (kk : ∀ z, f z = some out → EE K a (pc + 1) L (.double z :: S) h) : EE K a pc L (.double y :: .double x :: S) h := by
  intro H ls locs hR hS hL
  unfold fddiv at hf
  split at hf
  · next hn => exact lv_ddiv O.x O.b d hn (kk _ hf H ls locs hR hS hL)
  · cases hf
def fidiv (x y : Int32) : Option Int32 := if y = 0 then none else some (x / y)
def firem (x y : Int32) : Option Int32 := if y = 0 then none else some (x - x / y * y)
theorem E_idiv (O : Ok K own cc nL R) {x y : Int32} {ρ : Type} {f : Int32 → Option ρ} {out : ρ} (d : decode cc pc = .ok (.idiv, 1)) (hf : (fidiv x y).bind f = some out) (kk : ∀ z, f z = some out → EE K a (pc + 1) L (.int z :: S) h) : EE K a pc L (.int y :: .int x :: S) h := by
  intro H ls locs hR hS hL
  unfold fidiv at hf
  split at hf
  · cases hf
  · next hn => exact lv_idiv O.x O.b d hn (kk _ hf H ls locs hR hS hL)
theorem E_irem (O : Ok K own cc nL R) {x y : Int32} {ρ : Type} {f : Int32 → Option ρ} {out : ρ} (d : decode cc pc = .ok (.irem, 1)) (hf : (firem x y).bind f = some out) (kk : ∀ z, f z = some out → EE K a (pc + 1) L (.int z :: S) h) : EE K a pc L (.int y :: .int x :: S) h := by
  intro H ls locs hR hS hL
  unfold firem at hf
  split at hf
  · cases hf
  · next hn => exact lv_irem O.x O.b d hn (kk _ hf H ls locs hR hS hL)
theorem E_ldci (O : Ok K own cc nL R) {index : Nat} (v : Int32) (hw : Cond.constant own index v ∈ AW) (d : decode cc pc = .ok (.ldc index, 2)) (kk : EE K a (pc + 2) L (.int v :: S) h) : EE K a pc L S h := fun H ls locs hR hS hL => lv_ldc O.x O.b O.ow (O.ws _ hw) d (kk H ls locs hR hS hL)
def ushr (x y : Int32) : Int32 := (x.toUInt32 >>> (y.toUInt32 &&& Int32.toUInt32 31)).toInt32
theorem E_iushr (O : Ok K own cc nL R) {x y : Int32} (d : decode cc pc = .ok (.iushr, 1)) (kk : EE K a (pc + 1) L (.int (ushr x y) :: S) h) : EE K a pc L (.int y :: .int x :: S) h := fun H ls locs hR hS hL => lv_iushr O.x O.b d rfl (kk H ls locs hR hS hL)
theorem E_dup (O : Ok K own cc nL R) {v : Value} (d : decode cc pc = .ok (.dup, 1)) (hv : v.category = 1) (kk : EE K a (pc + 1) L (v :: v :: S) h) : EE K a pc L (v :: S) h := fun H ls locs hR hS hL => lv_dup O.x O.b d ((mv_cat v).trans hv) (kk H ls locs hR hS hL)
theorem E_dup2 (O : Ok K own cc nL R) {v u : Value} (d : decode cc pc = .ok (.dup2, 1)) (hv : v.category = 1) (hu : u.category = 1) (kk : EE K a (pc + 1) L (v :: u :: v :: u :: S) h) : EE K a pc L (v :: u :: S) h := fun H ls locs hR hS hL => lv_dup2_11 O.x O.b d ((mv_cat v).trans hv) ((mv_cat u).trans hu) (kk H ls locs hR hS hL)
theorem E_pop (O : Ok K own cc nL R) {v : Value} (d : decode cc pc = .ok (.pop, 1)) (hv : v.category = 1) (kk : EE K a (pc + 1) L S h) : EE K a pc L (v :: S) h := fun H ls locs hR hS hL => lv_pop O.x O.b d ((mv_cat v).trans hv) (kk H ls locs hR hS hL)
theorem E_goto (O : Ok K own cc nL R) {off : Int} (tgt : Nat) (d : decode cc pc = .ok (.goto off, 3)) (ht : (pc : Int) + off = (tgt : Int)) (kk : EE K a tgt L S h) : EE K a pc L S h := fun H ls locs hR hS hL => lv_goto O.x O.b d ht (kk H ls locs hR hS hL)
theorem E_ldc2l (O : Ok K own cc nL R) {index : Nat} (v : Int64) (hw : Cond.constantLong own index v ∈ AW) (d : decode cc pc = .ok (.ldc2_w index, 3)) (kk : EE K a (pc + 3) L (.long v :: S) h) : EE K a pc L S h := fun H ls locs hR hS hL => lv_ldc2 O.x O.b O.ow (O.ws _ hw) d (kk H ls locs hR hS hL)
theorem E_ldc2d (O : Ok K own cc nL R) {index : Nat} (v : UInt64) (hw : Cond.constantDouble own index v ∈ AW) (d : decode cc pc = .ok (.ldc2_w index, 3)) (kk : EE K a (pc + 3) L (.double v :: S) h) : EE K a pc L S h := fun H ls locs hR hS hL => lv_ldc2d O.x O.b O.ow (O.ws _ hw) d (kk H ls locs hR hS hL)
theorem E_iload_n (O : Ok K own cc nL R) {k : Fin 4} (i : Nat) {x : Int32} (d : decode cc pc = .ok (.iload_n k, 1)) (hi : (k : Nat) = i) (hl : L[i]? = some (some (.int x))) (kk : EE K a (pc + 1) L (.int x :: S) h) : EE K a pc L S h := fun H ls locs hR hS hL => lv_iload_n O.x O.b d hi (hL.2.2.2 _ _ hl) (kk H ls locs hR hS hL)
theorem E_iload (O : Ok K own cc nL R) {i : Nat} {x : Int32} (d : decode cc pc = .ok (.iload i, 2)) (hl : L[i]? = some (some (.int x))) (kk : EE K a (pc + 2) L (.int x :: S) h) : EE K a pc L S h := fun H ls locs hR hS hL => lv_iload O.x O.b d (hL.2.2.2 _ _ hl) (kk H ls locs hR hS hL)
theorem E_lload_n (O : Ok K own cc nL R) {k : Fin 4} (i : Nat) {x : Int64} (d : decode cc pc = .ok (.lload_n k, 1)) (hi : (k : Nat) = i) (hl : L[i]? = some (some (.long x))) (kk : EE K a (pc + 1) L (.long x :: S) h) : EE K a pc L S h := fun H ls locs hR hS hL => lv_lload_n O.x O.b d hi (hL.2.2.2 _ _ hl) (kk H ls locs hR hS hL)
theorem E_lload (O : Ok K own cc nL R) {i : Nat} {x : Int64} (d : decode cc pc = .ok (.lload i, 2)) (hl : L[i]? = some (some (.long x))) (kk : EE K a (pc + 2) L (.long x :: S) h) : EE K a pc L S h := fun H ls locs hR hS hL => lv_lload O.x O.b d (hL.2.2.2 _ _ hl) (kk H ls locs hR hS hL)
theorem E_aload_n (O : Ok K own cc nL R) {k : Fin 4} (i : Nat) {x : Nat} (d : decode cc pc = .ok (.aload_n k, 1)) (hi : (k : Nat) = i) (hl : L[i]? = some (some (.ref x))) (kk : EE K a (pc + 1) L (.ref x :: S) h) : EE K a pc L S h := fun H ls locs hR hS hL => lv_aload_n O.x O.b d hi (hL.2.2.2 _ _ hl) (kk H ls locs hR hS hL)
theorem E_aload (O : Ok K own cc nL R) {i : Nat} {x : Nat} (d : decode cc pc = .ok (.aload i, 2)) (hl : L[i]? = some (some (.ref x))) (kk : EE K a (pc + 2) L (.ref x :: S) h) : EE K a pc L S h := fun H ls locs hR hS hL => lv_aload O.x O.b d (hL.2.2.2 _ _ hl) (kk H ls locs hR hS hL)
theorem E_dload_n (O : Ok K own cc nL R) {k : Fin 4} (i : Nat) {x : UInt64} (d : decode cc pc = .ok (.dload_n k, 1)) (hi : (k : Nat) = i) (hl : L[i]? = some (some (.double x))) (kk : EE K a (pc + 1) L (.double x :: S) h) : EE K a pc L S h := fun H ls locs hR hS hL => lv_dload_n O.x O.b d hi (hL.2.2.2 _ _ hl) (kk H ls locs hR hS hL)
theorem E_dload (O : Ok K own cc nL R) {i : Nat} {x : UInt64} (d : decode cc pc = .ok (.dload i, 2)) (hl : L[i]? = some (some (.double x))) (kk : EE K a (pc + 2) L (.double x :: S) h) : EE K a pc L S h := fun H ls locs hR hS hL => lv_dload O.x O.b d (hL.2.2.2 _ _ hl) (kk H ls locs hR hS hL)
theorem E_istore_n (O : Ok K own cc nL R) {k : Fin 4} (i : Nat) {x : Int32} (L' : List (Option Value)) (d : decode cc pc = .ok (.istore_n k, 1)) (hi : (k : Nat) = i) (hn : i < nL) (hp : pok L i = true) (hl : L.set i (some (.int x)) = L') (kk : EE K a (pc + 1) L' S h) : EE K a pc L (.int x :: S) h := by
  intro H ls locs hR hS hL
  subst hl
  have hn' : i < (kc K).maxLocals := by rw [O.2.2.1]; exact hn
  exact lv_istore_n O.x O.b d hi hL.has hn' rfl (fun ls' h' => kk H ls' locs hR hS (hL.set1 hn' hp h'))
theorem E_istore (O : Ok K own cc nL R) {i : Nat} {x : Int32} (L' : List (Option Value)) (d : decode cc pc = .ok (.istore i, 2)) (hn : i < nL) (hp : pok L i = true) (hl : L.set i (some (.int x)) = L') (kk : EE K a (pc + 2) L' S h) : EE K a pc L (.int x :: S) h := by
  intro H ls locs hR hS hL
  subst hl
  have hn' : i < (kc K).maxLocals := by rw [O.2.2.1]; exact hn
  exact lv_istore O.x O.b d hL.has hn' rfl (fun ls' h' => kk H ls' locs hR hS (hL.set1 hn' hp h'))
theorem E_astore_n (O : Ok K own cc nL R) {k : Fin 4} (i : Nat) {x : Nat} (L' : List (Option Value)) (d : decode cc pc = .ok (.astore_n k, 1)) (hi : (k : Nat) = i) (hn : i < nL) (hp : pok L i = true) (hl : L.set i (some (.ref x)) = L') (kk : EE K a (pc + 1) L' S h) : EE K a pc L (.ref x :: S) h := by
  intro H ls locs hR hS hL
  subst hl
  have hn' : i < (kc K).maxLocals := by rw [O.2.2.1]; exact hn
  exact lv_astore_n O.x O.b d hi hL.has hn' rfl (fun ls' h' => kk H ls' locs hR hS (hL.set1 hn' hp h'))
theorem E_astore (O : Ok K own cc nL R) {i : Nat} {x : Nat} (L' : List (Option Value)) (d : decode cc pc = .ok (.astore i, 2)) (hn : i < nL) (hp : pok L i = true) (hl : L.set i (some (.ref x)) = L') (kk : EE K a (pc + 2) L' S h) : EE K a pc L (.ref x :: S) h := by
  intro H ls locs hR hS hL
  subst hl
  have hn' : i < (kc K).maxLocals := by rw [O.2.2.1]; exact hn
  exact lv_astore O.x O.b d hL.has hn' rfl (fun ls' h' => kk H ls' locs hR hS (hL.set1 hn' hp h'))
theorem E_lstore_n (O : Ok K own cc nL R) {k : Fin 4} (i : Nat) {x : Int64} (L' : List (Option Value)) (d : decode cc pc = .ok (.lstore_n k, 1)) (hi : (k : Nat) = i) (hn : i + 1 < nL) (hp : pok L i = true) (hl : (L.set i (some (.long x))).set (i + 1) none = L') (kk : EE K a (pc + 1) L' S h) : EE K a pc L (.long x :: S) h := by
  intro H ls locs hR hS hL
  subst hl
  have hn' : i + 1 < (kc K).maxLocals := by rw [O.2.2.1]; exact hn
  exact lv_lstore_n O.x O.b d hi hL.has hn' rfl (fun ls' h' => kk H ls' locs hR hS (hL.set2 hn' hp h'))
theorem E_lstore (O : Ok K own cc nL R) {i : Nat} {x : Int64} (L' : List (Option Value)) (d : decode cc pc = .ok (.lstore i, 2)) (hn : i + 1 < nL) (hp : pok L i = true) (hl : (L.set i (some (.long x))).set (i + 1) none = L') (kk : EE K a (pc + 2) L' S h) : EE K a pc L (.long x :: S) h := by
  intro H ls locs hR hS hL
  subst hl
  have hn' : i + 1 < (kc K).maxLocals := by rw [O.2.2.1]; exact hn
  exact lv_lstore O.x O.b d hL.has hn' rfl (fun ls' h' => kk H ls' locs hR hS (hL.set2 hn' hp h'))
theorem E_dstore_n (O : Ok K own cc nL R) {k : Fin 4} (i : Nat) {x : UInt64} (L' : List (Option Value)) (d : decode cc pc = .ok (.dstore_n k, 1)) (hi : (k : Nat) = i) (hn : i + 1 < nL) (hp : pok L i = true) (hl : (L.set i (some (.double x))).set (i + 1) none = L') (kk : EE K a (pc + 1) L' S h) : EE K a pc L (.double x :: S) h := by
  intro H ls locs hR hS hL
  subst hl
  have hn' : i + 1 < (kc K).maxLocals := by rw [O.2.2.1]; exact hn
  exact lv_dstore_n O.x O.b d hi hL.has hn' rfl (fun ls' h' => kk H ls' locs hR hS (hL.set2 hn' hp h'))
theorem E_dstore (O : Ok K own cc nL R) {i : Nat} {x : UInt64} (L' : List (Option Value)) (d : decode cc pc = .ok (.dstore i, 2)) (hn : i + 1 < nL) (hp : pok L i = true) (hl : (L.set i (some (.double x))).set (i + 1) none = L') (kk : EE K a (pc + 2) L' S h) : EE K a pc L (.double x :: S) h := by
  intro H ls locs hR hS hL
  subst hl
  have hn' : i + 1 < (kc K).maxLocals := by rw [O.2.2.1]; exact hn
  exact lv_dstore O.x O.b d hL.has hn' rfl (fun ls' h' => kk H ls' locs hR hS (hL.set2 hn' hp h'))
theorem E_iinc (O : Ok K own cc nL R) {i : Nat} {n : Int} {x : Int32} (v : Int32) (L' : List (Option Value)) (d : decode cc pc = .ok (.iinc i n, 3)) (hx : L[i]? = some (some (.int x))) (hn : i < nL) (hp : pok L i = true) (hv : Int32.ofInt n = v) (hl : L.set i (some (.int (x + v))) = L') (kk : EE K a (pc + 3) L' S h) : EE K a pc L S h := by
  intro H ls locs hR hS hL
  subst hl; subst hv
  have hn' : i < (kc K).maxLocals := by rw [O.2.2.1]; exact hn
  have hh : lv_has ls (kc K).maxLocals ((i, .int x) :: lvl (gad K.1) L) := by
    refine ⟨hL.1, hL.2.2.1, fun q hq => ?_⟩
    rcases List.mem_cons.mp hq with rfl | hq
    · exact hL.2.2.2 i _ hx
    · exact hL.has.2.2 q hq
  refine lv_iinc (k := 0) O.x O.b d hh rfl rfl hn' rfl (fun ls' h' => kk H ls' locs hR hS (hL.set1 (v := .int (x + Int32.ofInt n)) hn' hp ?_))
  have e : ((i, Value.int x) :: lvl (gad K.1) L).filter (fun q => !(q.1 == i) && !(q.1 + 1 == i && q.2.category == 2)) = (lvl (gad K.1) L).filter (fun q => !(q.1 == i) && !(q.1 + 1 == i && q.2.category == 2)) := by simp
  rw [e] at h'
  exact h'

theorem E_icmp_eq (O : Ok K own cc nL R) {x y : Int32} {off : Int} (tgt : Nat) {ρ : Type} {A B : Option ρ} {out : ρ} (d : decode cc pc = .ok (.if_icmp .eq off, 3)) (ht : (pc : Int) + off = (tgt : Int)) (hf : (if x = y then A else B) = some out) (kt : A = some out → EE K a tgt L S h) (kf : B = some out → EE K a (pc + 3) L S h) : EE K a pc L (.int y :: .int x :: S) h := fun H ls locs hR hS hL => lv_icmp_eq O.x O.b d ht (fun c => kt (by rw [if_pos c] at hf; exact hf) H ls locs hR hS hL) (fun c => kf (by rw [if_neg c] at hf; exact hf) H ls locs hR hS hL)
theorem E_icmp_ne (O : Ok K own cc nL R) {x y : Int32} {off : Int} (tgt : Nat) {ρ : Type} {A B : Option ρ} {out : ρ} (d : decode cc pc = .ok (.if_icmp .ne off, 3)) (ht : (pc : Int) + off = (tgt : Int)) (hf : (if x = y then B else A) = some out) (kt : A = some out → EE K a tgt L S h) (kf : B = some out → EE K a (pc + 3) L S h) : EE K a pc L (.int y :: .int x :: S) h := fun H ls locs hR hS hL => lv_icmp_ne O.x O.b d ht (fun c => kt (by rw [if_neg c] at hf; exact hf) H ls locs hR hS hL) (fun c => kf (by rw [if_pos c] at hf; exact hf) H ls locs hR hS hL)
theorem E_icmp_lt (O : Ok K own cc nL R) {x y : Int32} {off : Int} (tgt : Nat) {ρ : Type} {A B : Option ρ} {out : ρ} (d : decode cc pc = .ok (.if_icmp .lt off, 3)) (ht : (pc : Int) + off = (tgt : Int)) (hf : (if x < y then A else B) = some out) (kt : A = some out → EE K a tgt L S h) (kf : B = some out → EE K a (pc + 3) L S h) : EE K a pc L (.int y :: .int x :: S) h := fun H ls locs hR hS hL => lv_icmp_lt O.x O.b d ht (fun c => kt (by rw [if_pos c] at hf; exact hf) H ls locs hR hS hL) (fun c => kf (by rw [if_neg c] at hf; exact hf) H ls locs hR hS hL)
theorem E_icmp_ge (O : Ok K own cc nL R) {x y : Int32} {off : Int} (tgt : Nat) {ρ : Type} {A B : Option ρ} {out : ρ} (d : decode cc pc = .ok (.if_icmp .ge off, 3)) (ht : (pc : Int) + off = (tgt : Int)) (hf : (if y ≤ x then A else B) = some out) (kt : A = some out → EE K a tgt L S h) (kf : B = some out → EE K a (pc + 3) L S h) : EE K a pc L (.int y :: .int x :: S) h := fun H ls locs hR hS hL => lv_icmp_ge O.x O.b d ht (fun c => kt (by rw [if_pos c] at hf; exact hf) H ls locs hR hS hL) (fun c => kf (by rw [if_neg c] at hf; exact hf) H ls locs hR hS hL)
theorem E_icmp_gt (O : Ok K own cc nL R) {x y : Int32} {off : Int} (tgt : Nat) {ρ : Type} {A B : Option ρ} {out : ρ} (d : decode cc pc = .ok (.if_icmp .gt off, 3)) (ht : (pc : Int) + off = (tgt : Int)) (hf : (if y < x then A else B) = some out) (kt : A = some out → EE K a tgt L S h) (kf : B = some out → EE K a (pc + 3) L S h) : EE K a pc L (.int y :: .int x :: S) h := fun H ls locs hR hS hL => lv_icmp_gt O.x O.b d ht (fun c => kt (by rw [if_pos c] at hf; exact hf) H ls locs hR hS hL) (fun c => kf (by rw [if_neg c] at hf; exact hf) H ls locs hR hS hL)
theorem E_icmp_le (O : Ok K own cc nL R) {x y : Int32} {off : Int} (tgt : Nat) {ρ : Type} {A B : Option ρ} {out : ρ} (d : decode cc pc = .ok (.if_icmp .le off, 3)) (ht : (pc : Int) + off = (tgt : Int)) (hf : (if x ≤ y then A else B) = some out) (kt : A = some out → EE K a tgt L S h) (kf : B = some out → EE K a (pc + 3) L S h) : EE K a pc L (.int y :: .int x :: S) h := fun H ls locs hR hS hL => lv_icmp_le O.x O.b d ht (fun c => kt (by rw [if_pos c] at hf; exact hf) H ls locs hR hS hL) (fun c => kf (by rw [if_neg c] at hf; exact hf) H ls locs hR hS hL)
theorem E_if_eq (O : Ok K own cc nL R) {x : Int32} {off : Int} (tgt : Nat) {ρ : Type} {A B : Option ρ} {out : ρ} (d : decode cc pc = .ok (.ifCond .eq off, 3)) (ht : (pc : Int) + off = (tgt : Int)) (hf : (if x = 0 then A else B) = some out) (kt : A = some out → EE K a tgt L S h) (kf : B = some out → EE K a (pc + 3) L S h) : EE K a pc L (.int x :: S) h := fun H ls locs hR hS hL => lv_if_eq O.x O.b d ht (fun c => kt (by rw [if_pos c] at hf; exact hf) H ls locs hR hS hL) (fun c => kf (by rw [if_neg c] at hf; exact hf) H ls locs hR hS hL)
theorem E_if_ne (O : Ok K own cc nL R) {x : Int32} {off : Int} (tgt : Nat) {ρ : Type} {A B : Option ρ} {out : ρ} (d : decode cc pc = .ok (.ifCond .ne off, 3)) (ht : (pc : Int) + off = (tgt : Int)) (hf : (if x = 0 then B else A) = some out) (kt : A = some out → EE K a tgt L S h) (kf : B = some out → EE K a (pc + 3) L S h) : EE K a pc L (.int x :: S) h := fun H ls locs hR hS hL => lv_if_ne O.x O.b d ht (fun c => kt (by rw [if_neg c] at hf; exact hf) H ls locs hR hS hL) (fun c => kf (by rw [if_pos c] at hf; exact hf) H ls locs hR hS hL)
theorem E_if_lt (O : Ok K own cc nL R) {x : Int32} {off : Int} (tgt : Nat) {ρ : Type} {A B : Option ρ} {out : ρ} (d : decode cc pc = .ok (.ifCond .lt off, 3)) (ht : (pc : Int) + off = (tgt : Int)) (hf : (if x < 0 then A else B) = some out) (kt : A = some out → EE K a tgt L S h) (kf : B = some out → EE K a (pc + 3) L S h) : EE K a pc L (.int x :: S) h := fun H ls locs hR hS hL => lv_if_lt O.x O.b d ht (fun c => kt (by rw [if_pos c] at hf; exact hf) H ls locs hR hS hL) (fun c => kf (by rw [if_neg c] at hf; exact hf) H ls locs hR hS hL)
theorem E_if_ge (O : Ok K own cc nL R) {x : Int32} {off : Int} (tgt : Nat) {ρ : Type} {A B : Option ρ} {out : ρ} (d : decode cc pc = .ok (.ifCond .ge off, 3)) (ht : (pc : Int) + off = (tgt : Int)) (hf : (if 0 ≤ x then A else B) = some out) (kt : A = some out → EE K a tgt L S h) (kf : B = some out → EE K a (pc + 3) L S h) : EE K a pc L (.int x :: S) h := fun H ls locs hR hS hL => lv_if_ge O.x O.b d ht (fun c => kt (by rw [if_pos c] at hf; exact hf) H ls locs hR hS hL) (fun c => kf (by rw [if_neg c] at hf; exact hf) H ls locs hR hS hL)
theorem E_if_gt (O : Ok K own cc nL R) {x : Int32} {off : Int} (tgt : Nat) {ρ : Type} {A B : Option ρ} {out : ρ} (d : decode cc pc = .ok (.ifCond .gt off, 3)) (ht : (pc : Int) + off = (tgt : Int)) (hf : (if 0 < x then A else B) = some out) (kt : A = some out → EE K a tgt L S h) (kf : B = some out → EE K a (pc + 3) L S h) : EE K a pc L (.int x :: S) h := fun H ls locs hR hS hL => lv_if_gt O.x O.b d ht (fun c => kt (by rw [if_pos c] at hf; exact hf) H ls locs hR hS hL) (fun c => kf (by rw [if_neg c] at hf; exact hf) H ls locs hR hS hL)
theorem E_if_le (O : Ok K own cc nL R) {x : Int32} {off : Int} (tgt : Nat) {ρ : Type} {A B : Option ρ} {out : ρ} (d : decode cc pc = .ok (.ifCond .le off, 3)) (ht : (pc : Int) + off = (tgt : Int)) (hf : (if x ≤ 0 then A else B) = some out) (kt : A = some out → EE K a tgt L S h) (kf : B = some out → EE K a (pc + 3) L S h) : EE K a pc L (.int x :: S) h := fun H ls locs hR hS hL => lv_if_le O.x O.b d ht (fun c => kt (by rw [if_pos c] at hf; exact hf) H ls locs hR hS hL) (fun c => kf (by rw [if_neg c] at hf; exact hf) H ls locs hR hS hL)
theorem E_ite {c : Prop} [Decidable c] {ρ : Type} {A B : Option ρ} {out : ρ} {G : Prop} (hf : (if c then A else B) = some out) (kt : c → A = some out → G) (kf : ¬ c → B = some out → G) : G := by
  by_cases h : c
  · rw [if_pos h] at hf; exact kt h hf
  · rw [if_neg h] at hf; exact kf h hf
theorem E_tswIn (O : Ok K own cc nL R) {x : Int32} {dflt lo hi : Int} {offs : Array Int} {len : Nat} {off : Int} (k : Int32) (tgt : Nat) (hx : x = k) (d : decode cc pc = .ok (.tableswitch dflt lo hi offs, len)) (h1 : ¬ k.toInt < lo) (h2 : ¬ hi < k.toInt) (ho : offs[(k.toInt - lo).toNat]? = some off) (ht : (pc : Int) + off = (tgt : Int)) (kk : EE K a tgt L S h) : EE K a pc L (.int x :: S) h := by
  intro H ls locs hR hS hL
  subst hx
  exact lv_tableIn O.x O.b d h1 h2 ho ht (kk H ls locs hR hS hL)
theorem E_tswOut (O : Ok K own cc nL R) {x : Int32} {dflt lo hi : Int} {offs : Array Int} {len : Nat} (tgt : Nat) (d : decode cc pc = .ok (.tableswitch dflt lo hi offs, len)) (hx : x.toInt < lo ∨ hi < x.toInt) (ht : (pc : Int) + dflt = (tgt : Int)) (kk : EE K a tgt L S h) : EE K a pc L (.int x :: S) h := fun H ls locs hR hS hL => lv_tableOut O.x O.b d hx ht (kk H ls locs hR hS hL)
theorem tsw_out {x : Int32} (lo n : Nat) (hb : lo + n < 1000) (hx : ∀ k, k < n → x ≠ nI (lo + k)) : x.toInt < (lo : Int) ∨ ((lo + n : Nat) : Int) - 1 < x.toInt := by
  rcases Int.lt_or_le x.toInt (lo : Int) with h1 | h1
  · exact Or.inl h1
  rcases Int.lt_or_le (((lo + n : Nat) : Int) - 1) x.toInt with h2 | h2
  · exact Or.inr h2
  exfalso
  refine hx (x.toInt.toNat - lo) (by omega) ?_
  rw [← Int32.toInt_inj, nI_toInt (by omega)]
  omega
end
section
/-! fields and arrays of the small heap -/
def hF (h : MH) (ci b k : Nat) : Option Value := match h[b]? with
  | some (.inr o) => if o.1 = ci then o.2[k]? else none
  | _ => none
def hI (h : MH) (ci b k : Nat) : Option Int32 := match hF h ci b k with
  | some (.int x) => some x
  | _ => none
def hR (h : MH) (ci b k : Nat) : Option Nat := match hF h ci b k with
  | some (.ref x) => some x
  | _ => none
def hL (h : MH) (ci b k : Nat) : Option Int64 := match hF h ci b k with
  | some (.long x) => some x
  | _ => none
def hP (h : MH) (ci b k : Nat) (v : Value) : Option MH := match h[b]? with
  | some (.inr o) => if o.1 = ci ∧ k < o.2.length then some (h.set b (.inr (ci, o.2.set k v))) else none
  | _ => none
def aC (h : MH) (t b : Nat) : Option vp_A := match h[b]? with
  | some (.inl p) => if p.1 = t then some p.2 else none
  | _ => none
def rA (n : Nat) (f : Nat → Int32) (j : Int32) : Option Int32 := if j < 0 ∨ n ≤ j.toNatClampNeg then none else some (f j.toNatClampNeg)
def aI (h : MH) (b : Nat) (j : Int32) : Option Int32 := match aC h 0 b with
  | some (n, .inl f) => rA n f j
  | _ => none
def sI (h : MH) (b : Nat) (j x : Int32) : Option MH := match aC h 0 b with
  | some (n, .inl f) => if j < 0 ∨ n ≤ j.toNatClampNeg then none else some (h.set b (.inl (0, n, .inl (upd f j.toNatClampNeg x))))
  | _ => none
def aL (h : MH) (b : Nat) (j : Int32) : Option Int64 := match aC h 1 b with
  | some (n, .inr (.inl f)) => if j < 0 ∨ n ≤ j.toNatClampNeg then none else some (f j.toNatClampNeg)
  | _ => none
def sL (h : MH) (b : Nat) (j : Int32) (x : Int64) : Option MH := match aC h 1 b with
  | some (n, .inr (.inl f)) => if j < 0 ∨ n ≤ j.toNatClampNeg then none else some (h.set b (.inl (1, n, .inr (.inl (vp_updL f j.toNatClampNeg x)))))
  | _ => none
def aR (h : MH) (b : Nat) (j : Int32) : Option Nat := match aC h 2 b with
  | some (n, .inr (.inr (.inr (.inr f)))) => if j < 0 ∨ n ≤ j.toNatClampNeg then none else f j.toNatClampNeg
  | _ => none
def isO (h : MH) (ci b : Nat) : Bool := match h[b]? with
  | some (.inr o) => o.1 == ci
  | _ => false
def sR (h : MH) (b : Nat) (j : Int32) (x : Nat) : Option MH := match aC h 2 b with
  | some (n, .inr (.inr (.inr (.inr f)))) => if j < 0 ∨ n ≤ j.toNatClampNeg ∨ isO h 1 x = false then none else some (h.set b (.inl (2, n, .inr (.inr (.inr (.inr (va_up f j.toNatClampNeg (some x))))))))
  | _ => none
def cpA (h : MH) (b : Nat) (sp : Int32) (b1 : Nat) (dp n : Int32) : Option MH := match aC h 0 b, aC h 0 b1 with
  | some (n0, .inl f), some (n1, .inl g) => if sp < 0 ∨ dp < 0 ∨ n < 0 ∨ n0 < sp.toNatClampNeg + n.toNatClampNeg ∨ n1 < dp.toNatClampNeg + n.toNatClampNeg then none else some (h.set b1 (.inl (0, n1, .inl (va_cpy f g sp.toNatClampNeg dp.toNatClampNeg n.toNatClampNeg))))
  | _, _ => none
theorem hF_of {h : MH} {ci b k : Nat} {v : Value} (e : hF h ci b k = some v) : ∃ fs, h[b]? = some (.inr (ci, fs)) ∧ fs[k]? = some v := by
  unfold hF at e
  split at e
  · next o ho =>
    split at e
    · next hc =>
      obtain ⟨c, fs⟩ := o
      dsimp only at hc
      subst hc
      exact ⟨fs, ho, e⟩
    · cases e
  · cases e
theorem hI_of {h : MH} {ci b k : Nat} {v : Int32} (e : hI h ci b k = some v) : hF h ci b k = some (.int v) := by
  unfold hI at e
  split at e
  · next x hx => cases e; exact hx
  · cases e
theorem hR_of {h : MH} {ci b k : Nat} {v : Nat} (e : hR h ci b k = some v) : hF h ci b k = some (.ref v) := by
  unfold hR at e
  split at e
  · next x hx => cases e; exact hx
  · cases e
theorem hL_of {h : MH} {ci b k : Nat} {v : Int64} (e : hL h ci b k = some v) : hF h ci b k = some (.long v) := by
  unfold hL at e
  split at e
  · next x hx => cases e; exact hx
  · cases e
theorem hP_of {h h' : MH} {ci b k : Nat} {v : Value} (e : hP h ci b k v = some h') : ∃ fs, h[b]? = some (.inr (ci, fs)) ∧ k < fs.length ∧ h' = h.set b (.inr (ci, fs.set k v)) := by
  unfold hP at e
  split at e
  · next o ho =>
    split at e
    · next hc =>
      obtain ⟨c, fs⟩ := o
      dsimp only at hc
      obtain ⟨rfl, hk⟩ := hc
      cases e
      exact ⟨fs, ho, hk, rfl⟩
    · cases e
  · cases e
theorem aC_of {h : MH} {t b : Nat} {x : vp_A} (e : aC h t b = some x) : h[b]? = some (.inl (t, x)) := by
  unfold aC at e
  split at e
  · next p hp =>
    split at e
    · next ht =>
      obtain ⟨t', x'⟩ := p
      dsimp only at ht
      subst ht
      cases e
      exact hp
    · cases e
  · cases e
theorem rA_of {n : Nat} {f : Nat → Int32} {j v : Int32} (e : rA n f j = some v) : vp_in j n ∧ v = f j.toNatClampNeg := by
  unfold rA at e
  split at e
  · cases e
  · next hn => cases e; exact ⟨hn, rfl⟩
theorem aI_of {h : MH} {b : Nat} {j v : Int32} (e : aI h b j = some v) : ∃ n f, h[b]? = some (.inl (0, n, .inl f)) ∧ vp_in j n ∧ v = f j.toNatClampNeg := by
  unfold aI at e
  split at e
  · next n f hx =>
    obtain ⟨h1, h2⟩ := rA_of e
    exact ⟨n, f, aC_of hx, h1, h2⟩
  · cases e
theorem sI_of {h h' : MH} {b : Nat} {j x : Int32} (e : sI h b j x = some h') : ∃ n f, h[b]? = some (.inl (0, n, .inl f)) ∧ vp_in j n ∧ h' = h.set b (.inl (0, n, .inl (upd f j.toNatClampNeg x))) := by
  unfold sI at e
  split at e
  · next n f hx =>
    split at e
    · cases e
    · next hn => cases e; exact ⟨n, f, aC_of hx, hn, rfl⟩
  · cases e
theorem aL_of {h : MH} {b : Nat} {j : Int32} {v : Int64} (e : aL h b j = some v) : ∃ n f, h[b]? = some (.inl (1, n, .inr (.inl f))) ∧ vp_in j n ∧ v = f j.toNatClampNeg := by
  unfold aL at e
  split at e
  · next n f hx =>
    split at e
    · cases e
    · next hn => cases e; exact ⟨n, f, aC_of hx, hn, rfl⟩
  · cases e
theorem sL_of {h h' : MH} {b : Nat} {j : Int32} {x : Int64} (e : sL h b j x = some h') : ∃ n f, h[b]? = some (.inl (1, n, .inr (.inl f))) ∧ vp_in j n ∧ h' = h.set b (.inl (1, n, .inr (.inl (vp_updL f j.toNatClampNeg x)))) := by
  unfold sL at e
  split at e
  · next n f hx =>
    split at e
    · cases e
    · next hn => cases e; exact ⟨n, f, aC_of hx, hn, rfl⟩
  · cases e
theorem aR_of {h : MH} {b : Nat} {j : Int32} {v : Nat} (e : aR h b j = some v) : ∃ n f, h[b]? = some (.inl (2, n, .inr (.inr (.inr (.inr f))))) ∧ vp_in j n ∧ f j.toNatClampNeg = some v := by
  unfold aR at e
  split at e
  · next n f hx =>
    split at e
    · cases e
    · next hn => exact ⟨n, f, aC_of hx, hn, e⟩
  · cases e
theorem isO_of {h : MH} {ci b : Nat} (e : isO h ci b = true) : ∃ fs, h[b]? = some (.inr (ci, fs)) := by
  unfold isO at e
  split at e
  · next o ho =>
    obtain ⟨c, fs⟩ := o
    have e : c = ci := by simpa using e
    subst e
    exact ⟨fs, ho⟩
  · cases e
theorem sR_of {h h' : MH} {b x : Nat} {j : Int32} (e : sR h b j x = some h') : ∃ n f fs, h[b]? = some (.inl (2, n, .inr (.inr (.inr (.inr f))))) ∧ vp_in j n ∧ h[x]? = some (.inr (1, fs)) ∧ h' = h.set b (.inl (2, n, .inr (.inr (.inr (.inr (va_up f j.toNatClampNeg (some x))))))) := by
  unfold sR at e
  split at e
  · next n f hx =>
    split at e
    · cases e
    · next hn =>
      have hn2 : vp_in j n := fun z => hn (z.elim Or.inl (fun z => Or.inr (Or.inl z)))
      have hi : isO h 1 x = true := by
        cases hb : isO h 1 x with
        | true => rfl
        | false => exact absurd (Or.inr (Or.inr hb)) hn
      obtain ⟨fs, hfs⟩ := isO_of hi
      cases e
      exact ⟨n, f, fs, aC_of hx, hn2, hfs, rfl⟩
  · cases e
theorem cpA_of {h h' : MH} {b b1 : Nat} {sp dp n : Int32} (e : cpA h b sp b1 dp n = some h') : ∃ n0 f n1 g, h[b]? = some (.inl (0, n0, .inl f)) ∧ h[b1]? = some (.inl (0, n1, .inl g)) ∧ ¬ sp < 0 ∧ ¬ dp < 0 ∧ ¬ n < 0 ∧ sp.toNatClampNeg + n.toNatClampNeg ≤ n0 ∧ dp.toNatClampNeg + n.toNatClampNeg ≤ n1 ∧ h' = h.set b1 (.inl (0, n1, .inl (va_cpy f g sp.toNatClampNeg dp.toNatClampNeg n.toNatClampNeg))) := by
  unfold cpA at e
  split at e
  · next n0 f n1 g h1 h2 =>
    split at e
    · cases e
    · next hn =>
      simp only [not_or, Nat.not_lt] at hn
      cases e
      exact ⟨n0, f, n1, g, aC_of h1, aC_of h2, hn.1, hn.2.1, hn.2.2.1, hn.2.2.2.1, hn.2.2.2.2, rfl⟩
  · cases e
variable {K : Cx} {own : String} {cc : ByteArray} {nL : Nat} {R : Room} {a : Bool × Nat × Nat} {pc : Nat} {L : List (Option Value)} {S : List Value} {h : MH}
theorem Rel.get {g : Gx} {fr : Bool} {h : MH} {H : Heap} (hR : Rel g fr h H) {b : Nat} {c : MC} (e : h[b]? = some c) : va_at (gD g) vwCl (gad g b, mcl (gad g) (gcA g) c) H := hR.1 b _ (mw_get e)
theorem Rel.set {g : Gx} {fr : Bool} {h : MH} {H H1 : Heap} (h8 : ∀ i, i < 1000 → gad g i = gb g + i) (hR : Rel g fr h H) {b : Nat} {c c' : MC} (e : h[b]? = some c) (he : va_at (gD g) vwCl (gad g b, mcl (gad g) (gcA g) c') H1) (z : H1.size = H.size) (oq : ∀ q : Nat, q ≠ gad g b → H1[q]? = H[q]?) : Rel g fr (h.set b c') H1 := by
  refine ⟨?_, by rw [List.length_set, z]; exact hR.2.1, fun q => by rw [List.length_set, z]; exact hR.2.2.1 q, by rw [List.length_set]; exact hR.2.2.2⟩
  have := hR.1.set (mw_D h8 hR.2.2.2) (mw_get e) he oq
  rwa [mw_set] at this
/-- what the tables say of a field that is read, written, written in a constructor -/
def FL (own : String) (index ci k : Nat) : Prop := ∃ r : vw_C, vwCl[ci]? = some r ∧ (∀ w ∈ u_ws r.1 r.2.1 r.2.2, w ∈ AW) ∧ k < r.2.2 ∧ Cond.fieldLink own index (r.2.1 k).1 (r.2.1 k).2.1 (r.2.1 k).2.2.1 ∈ AW
def FW (own : String) (index ci k : Nat) (ty : FieldType) : Prop := ∃ (r : vw_C) (ty0 : Nat → FieldType), vwCl[ci]? = some r ∧ (∀ w ∈ u_ws r.1 r.2.1 r.2.2, w ∈ AW) ∧ k < r.2.2 ∧ Cond.fieldLink own index (r.2.1 k).1 (r.2.1 k).2.1 (r.2.1 k).2.2.1 ∈ AW ∧
  (∀ k, k < r.2.2 → parseFieldDescriptor (r.2.1 k).2.2.1 = some (ty0 k)) ∧ (∀ a, a < r.2.2 → ∀ b, b < r.2.2 → a ≠ b → (r.2.1 a).2.1 ≠ (r.2.1 b).2.1) ∧ ty0 k = ty
def FN (own : String) (index ci k : Nat) (ty : FieldType) : Prop := FW own index ci k ty ∧ ∀ r : vw_C, vwCl[ci]? = some r → (r.2.1 k).2.2.2 = false
def FF (own : String) (index ci k : Nat) (ty : FieldType) : Prop := FW own index ci k ty ∧ ∀ r : vw_C, vwCl[ci]? = some r → (r.2.1 k).2.2.2 = true ∧ (r.2.1 k).1 = own
theorem E_getF (O : Ok K own cc nL R) {index ci b k : Nat} {v : Value} (F : FL own index ci k) (d : decode cc pc = .ok (.getfield index, 3)) (e : hF h ci b k = some v) (kk : EE K a (pc + 3) L (v :: S) h) : EE K a pc L (.ref b :: S) h := by
  intro H ls locs hR hS hL
  obtain ⟨fs, e1, e2⟩ := hF_of e
  obtain ⟨r, f1, f2, f3, f4⟩ := F
  exact va_get O.x O.b O.ws f2 O.ow O.k hR.1 b (mw_get e1) f1 k f3 (O.ws _ f4) (fun _ z => z) (v := mv (gad K.1) v) (by rw [List.getElem?_map, e2]; rfl) d (kk H ls locs hR hS hL)
theorem E_getI (O : Ok K own cc nL R) {index ci b k : Nat} {ρ : Type} {f : Int32 → Option ρ} {out : ρ} (F : FL own index ci k) (d : decode cc pc = .ok (.getfield index, 3)) (hf : (hI h ci b k).bind f = some out) (kk : ∀ x, f x = some out → EE K a (pc + 3) L (.int x :: S) h) : EE K a pc L (.ref b :: S) h := by
  obtain ⟨x, e1, e2⟩ := ob hf
  exact E_getF O F d (hI_of e1) (kk x e2)
theorem E_getR (O : Ok K own cc nL R) {index ci b k : Nat} {ρ : Type} {f : Nat → Option ρ} {out : ρ} (F : FL own index ci k) (d : decode cc pc = .ok (.getfield index, 3)) (hf : (hR h ci b k).bind f = some out) (kk : ∀ x, f x = some out → EE K a (pc + 3) L (.ref x :: S) h) : EE K a pc L (.ref b :: S) h := by
  obtain ⟨x, e1, e2⟩ := ob hf
  exact E_getF O F d (hR_of e1) (kk x e2)
theorem E_getL (O : Ok K own cc nL R) {index ci b k : Nat} {ρ : Type} {f : Int64 → Option ρ} {out : ρ} (F : FL own index ci k) (d : decode cc pc = .ok (.getfield index, 3)) (hf : (hL h ci b k).bind f = some out) (kk : ∀ x, f x = some out → EE K a (pc + 3) L (.long x :: S) h) : EE K a pc L (.ref b :: S) h := by
  obtain ⟨x, e1, e2⟩ := ob hf
  exact E_getF O F d (hL_of e1) (kk x e2)
theorem mv_nar {ad : Nat → Nat} {ty : FieldType} {v : Value} (hn : narrow ty v = v) (hf : fits ty v = true) : narrow ty (mv ad v) = mv ad v ∧ fits ty (mv ad v) = true := by
  cases v <;> first | exact ⟨hn, hf⟩ | (cases ty <;> first | exact ⟨rfl, rfl⟩ | cases hf)
theorem E_put (O : Ok K own cc nL R) {index ci b k : Nat} {ty : FieldType} {v : Value} {ρ : Type} {f : MH → Option ρ} {out : ρ} (F : FN own index ci k ty) (hn : narrow ty v = v) (hfit : fits ty v = true) (d : decode cc pc = .ok (.putfield index, 3)) (hf : (hP h ci b k v).bind f = some out) (kk : ∀ h', f h' = some out → EE K a (pc + 3) L S h') : EE K a pc L (v :: .ref b :: S) h := by
  intro H ls locs hR hS hL
  obtain ⟨h', e1, e2⟩ := ob hf
  obtain ⟨fs, g1, g2, rfl⟩ := hP_of e1
  obtain ⟨⟨⟨C, T, N⟩, ty0, f1, f2, f3, f4, f5, f6, f7⟩, f8⟩ := F
  have hfin := f8 _ f1
  dsimp only at f2 f3 f4 f5 f6 hfin
  have hap := va_apart (own := own) O.ws f2 ty0 f5 f6 O.k f1
  obtain ⟨r, h1, cell, q1, q2, q3, q4⟩ := hR.get g1
  have hr : r = (C, T, N) := Option.some.inj (h1.symm.trans f1)
  subst hr
  obtain ⟨hSl, hfc, kC, hkC, hkind⟩ := O.k.1 ci _ f1
  obtain ⟨cf, kf, fi, fd, hi, hsl⟩ := hSl k f3
  have hlay := O.ws _ (f2 _ (u_in_lay f3))
  unfold u_lay at hlay
  rw [if_neg (by rw [hfin]; decide)] at hlay
  have hst := (u_facts hfc hkC (u_lays O.ws f2 f3) hi).1
  obtain ⟨hn', hfit'⟩ := mv_nar (ad := gad K.1) hn hfit
  have h6 := u_store hfc hkC hkind hlay hi (f5 k f3) (by rw [f7]; exact hn') (by rw [f7]; exact hfit')
  refine W.putK O.x O.b (f := fd) ⟨O.ow, O.ws _ f4, ⟨_, _, _, hi⟩, hst⟩ (by rw [q2]; exact h6) q1 q3 (by rw [hsl]; exact k2_hasslot (q4 k f3)) rfl rfl d fun H' e1 e2' e3 => ?_
  rw [hsl] at e1 ⊢
  refine kk _ e2 H' ls _ (hR.set O.bg.2.2.2.2.2.2.2.1 g1 ⟨_, f1, ?_⟩ e2' e3) (hS.put e2' e3 ((O.D hR.2.2.2).2 b _ (mw_get g1))) hL
  show t_OB _ _ _ _ _ (vp_V ((fs.set k v).map (mv (gad K.1))))
  rw [List.map_set]
  exact t_OB.to (V := updV (vp_V (fs.map (mv (gad K.1)))) k (mv (gad K.1) v)) ⟨_, e1, q2, q3, t_set q4 hap f3 _⟩ (fun j _ => vp_updV_set (by simpa using g2) _ j)
theorem E_putF (O : Ok K own cc nL R) {index ci b k : Nat} {ty : FieldType} {v : Value} {ρ : Type} {f : MH → Option ρ} {out : ρ} (F : FF own index ci k ty) (hini : (kmeth K).name = "<init>") (hn : narrow ty v = v) (hfit : fits ty v = true) (d : decode cc pc = .ok (.putfield index, 3)) (hf : (hP h ci b k v).bind f = some out) (kk : ∀ h', f h' = some out → EE K a (pc + 3) L S h') : EE K a pc L (v :: .ref b :: S) h := by
  intro H ls locs hR hS hL
  obtain ⟨h', e1, e2⟩ := ob hf
  obtain ⟨fs, g1, g2, rfl⟩ := hP_of e1
  obtain ⟨⟨⟨C, T, N⟩, ty0, f1, f2, f3, f4, f5, f6, f7⟩, f8⟩ := F
  obtain ⟨hfin, hdecl⟩ := f8 _ f1
  dsimp only at f2 f3 f4 f5 f6 hfin hdecl
  have hap := va_apart (own := own) O.ws f2 ty0 f5 f6 O.k f1
  obtain ⟨r, h1, cell, q1, q2, q3, q4⟩ := hR.get g1
  have hr : r = (C, T, N) := Option.some.inj (h1.symm.trans f1)
  subst hr
  obtain ⟨hSl, hfc, kC, hkC, hkind⟩ := O.k.1 ci _ f1
  obtain ⟨cf, kf, fi, fd, hi, hsl⟩ := hSl k f3
  have hlay := O.ws _ (f2 _ (u_in_lay f3))
  unfold u_lay at hlay
  rw [if_pos hfin] at hlay
  have hst := (u_facts hfc hkC (u_lays O.ws f2 f3) hi).1
  have hcf : (km K).cls = cf := by
    obtain ⟨_, _, c', _, _, _, -, -, hf', -, -, -, hown2, -⟩ := Cond.laysFinal_spec hlay
    have e1 : c' = cf := by have := hi.symm.trans hf'; simp at this; exact this.1.symm
    rw [hdecl] at hown2
    rw [← e1]; exact Option.some.inj (O.ow.symm.trans hown2)
  obtain ⟨hn', hfit'⟩ := mv_nar (ad := gad K.1) hn hfit
  have h6 := u_fits hfc hkC hkind (Or.inr hlay) hi (f5 k f3) (by rw [f7]; exact hn') (by rw [f7]; exact hfit')
  refine W.putFinK O.x O.b O.ow (O.ws _ f4) hi hst hcf hini (by rw [q2]; exact h6) q1 q3 (by rw [hsl]; exact k2_hasslot (q4 k f3)) rfl rfl d fun H' e1 e2' e3 => ?_
  rw [hsl] at e1 ⊢
  refine kk _ e2 H' ls _ (hR.set O.bg.2.2.2.2.2.2.2.1 g1 ⟨_, f1, ?_⟩ e2' e3) (hS.put e2' e3 ((O.D hR.2.2.2).2 b _ (mw_get g1))) hL
  show t_OB _ _ _ _ _ (vp_V ((fs.set k v).map (mv (gad K.1))))
  rw [List.map_set]
  exact t_OB.to (V := updV (vp_V (fs.map (mv (gad K.1)))) k (mv (gad K.1) v)) ⟨_, e1, q2, q3, t_set q4 hap f3 _⟩ (fun j _ => vp_updV_set (by simpa using g2) _ j)
theorem E_iaload (O : Ok K own cc nL R) {b : Nat} {j : Int32} {ρ : Type} {f : Int32 → Option ρ} {out : ρ} (d : decode cc pc = .ok (.iaload, 1)) (hf : (aI h b j).bind f = some out) (kk : ∀ x, f x = some out → EE K a (pc + 1) L (.int x :: S) h) : EE K a pc L (.int j :: .ref b :: S) h := by
  intro H ls locs hR hS hL
  obtain ⟨x, e1, e2⟩ := ob hf
  obtain ⟨n, fn, g1, g2, rfl⟩ := aI_of e1
  exact va_iald O.x O.b O.k hR.1 b 0 (mw_get g1) rfl g2 d (kk _ e2 H ls locs hR hS hL)
theorem E_ialoadRO (O : Ok K own cc nL R) {i n : Nat} {xs : Nat → Int32} {j : Int32} {ρ : Type} {f : Int32 → Option ρ} {out : ρ} (hi : i < 3) (hx : gro K.1 i = (n, xs)) (d : decode cc pc = .ok (.iaload, 1)) (hf : (rA n xs j).bind f = some out) (kk : ∀ x, f x = some out → EE K a (pc + 1) L (.int x :: S) h) : EE K a pc L (.int j :: .ref (RO + i) :: S) h := by
  intro H ls locs hR hS hL
  obtain ⟨x, e1, e2⟩ := ob hf
  obtain ⟨g2, rfl⟩ := rA_of e1
  obtain ⟨b1, b2⟩ := O.bg.2.1 i hi
  rw [hx] at b1
  obtain ⟨scr, s1, s2, s3, s4, s5, s6⟩ := b1
  have hlt : j.toNatClampNeg < n := Nat.not_le.mp fun q => g2 (Or.inr q)
  exact W.iald (v := .int (xs j.toNatClampNeg)) O.x O.b (by rw [hS.2.1 _ (Nat.lt_of_lt_of_le b2 O.bg.2.2.1) (fun z => absurd z (Nat.not_le.mpr b2))]; exact s1) s2 s3 (fun z => z.elim (fun z => g2 (Or.inl z)) (fun z => absurd (Nat.lt_of_lt_of_le hlt s4) (Nat.not_lt.mpr z))) (s6 _ hlt) rfl rfl d (kk _ e2 H ls locs hR hS hL)
theorem E_alenRO (O : Ok K own cc nL R) {i n : Nat} {xs : Nat → Int32} (hi : i < 3) (hx : gro K.1 i = (n, xs)) (d : decode cc pc = .ok (.arraylength, 1)) (kk : EE K a (pc + 1) L (.int (Int32.ofNat n) :: S) h) : EE K a pc L (.ref (RO + i) :: S) h := by
  intro H ls locs hR hS hL
  obtain ⟨b1, b2⟩ := O.bg.2.1 i hi
  rw [hx] at b1
  obtain ⟨scr, s1, s2, s3, s4, s5, s6⟩ := b1
  exact W.alen (n := Int32.ofNat n) O.x O.b (by rw [hS.2.1 _ (Nat.lt_of_lt_of_le b2 O.bg.2.2.1) (fun z => absurd z (Nat.not_le.mpr b2))]; exact s1) s2 s5 rfl rfl d (kk H ls locs hR hS hL)
theorem E_laload (O : Ok K own cc nL R) {b : Nat} {j : Int32} {ρ : Type} {f : Int64 → Option ρ} {out : ρ} (d : decode cc pc = .ok (.laload, 1)) (hf : (aL h b j).bind f = some out) (kk : ∀ x, f x = some out → EE K a (pc + 1) L (.long x :: S) h) : EE K a pc L (.int j :: .ref b :: S) h := by
  intro H ls locs hR hS hL
  obtain ⟨x, e1, e2⟩ := ob hf
  obtain ⟨n, fn, g1, g2, rfl⟩ := aL_of e1
  exact va_lald O.x O.b O.k hR.1 b 1 (mw_get g1) rfl g2 d (kk _ e2 H ls locs hR hS hL)
theorem E_aaload (O : Ok K own cc nL R) {b : Nat} {j : Int32} {ρ : Type} {f : Nat → Option ρ} {out : ρ} (d : decode cc pc = .ok (.aaload, 1)) (hf : (aR h b j).bind f = some out) (kk : ∀ x, f x = some out → EE K a (pc + 1) L (.ref x :: S) h) : EE K a pc L (.int j :: .ref b :: S) h := by
  intro H ls locs hR hS hL
  obtain ⟨x, e1, e2⟩ := ob hf
  obtain ⟨n, fn, g1, g2, g3⟩ := aR_of e1
  refine va_aldq O.x O.b O.k hR.1 b 2 (mw_get g1) rfl g2 d ?_
  rw [g3]
  exact kk _ e2 H ls locs hR hS hL
theorem E_iastore (O : Ok K own cc nL R) {b : Nat} {j x : Int32} {ρ : Type} {f : MH → Option ρ} {out : ρ} (d : decode cc pc = .ok (.iastore, 1)) (hf : (sI h b j x).bind f = some out) (kk : ∀ h', f h' = some out → EE K a (pc + 1) L S h') : EE K a pc L (.int x :: .int j :: .ref b :: S) h := by
  intro H ls locs hR hS hL
  obtain ⟨h', e1, e2⟩ := ob hf
  obtain ⟨n, fn, g1, g2, rfl⟩ := sI_of e1
  refine W.iast O.x O.b (hR.get g1) ((O.k.2 0 _ rfl).1 n (fun j => .int (fn j))) (fun q => by cases q) (by show ¬ (j < 0 ∨ (arrV _ _ _).slots.size ≤ _); rw [arrV_size]; exact g2) rfl rfl d fun H1 e z oq => ?_
  refine kk _ e2 H1 ls _ (hR.set O.bg.2.2.2.2.2.2.2.1 g1 ?_ z oq) (hS.put z oq ((O.D hR.2.2.2).2 b _ (mw_get g1))) hL
  show H1[gad K.1 b]? = some (vp_cell _ _)
  rw [e]
  show some (Cell.setSlot (arrV _ n (fun j => .int (fn j))) _ _) = some (arrV _ n (fun q => .int (upd fn j.toNatClampNeg x q)))
  rw [arrV_store]
  congr 2
  funext q
  by_cases hq : q = j.toNatClampNeg
  · subst hq
    simp [updV, upd]
  · simp [updV, upd, hq]
theorem E_lastore (O : Ok K own cc nL R) {b : Nat} {j : Int32} {x : Int64} {ρ : Type} {f : MH → Option ρ} {out : ρ} (d : decode cc pc = .ok (.lastore, 1)) (hf : (sL h b j x).bind f = some out) (kk : ∀ h', f h' = some out → EE K a (pc + 1) L S h') : EE K a pc L (.long x :: .int j :: .ref b :: S) h := by
  intro H ls locs hR hS hL
  obtain ⟨h', e1, e2⟩ := ob hf
  obtain ⟨n, fn, g1, g2, rfl⟩ := sL_of e1
  refine W.last O.x O.b (hR.get g1) ((O.k.2 1 _ rfl).1 n (fun j => .long (fn j))) (fun q => by cases q) (by show ¬ (j < 0 ∨ (arrV _ _ _).slots.size ≤ _); rw [arrV_size]; exact g2) rfl rfl d fun H1 e z oq => ?_
  refine kk _ e2 H1 ls _ (hR.set O.bg.2.2.2.2.2.2.2.1 g1 ?_ z oq) (hS.put z oq ((O.D hR.2.2.2).2 b _ (mw_get g1))) hL
  show H1[gad K.1 b]? = some (vp_cell _ _)
  rw [e]
  show some (Cell.setSlot (arrV _ n (fun j => .long (fn j))) _ _) = some (arrV _ n (fun q => .long (vp_updL fn j.toNatClampNeg x q)))
  rw [arrV_store]
  congr 2
  funext q
  by_cases hq : q = j.toNatClampNeg
  · subst hq
    simp [updV, vp_updL]
  · simp [updV, vp_updL, hq]
theorem E_aastore (O : Ok K own cc nL R) {b : Nat} {j : Int32} {x : Nat} {ρ : Type} {f : MH → Option ρ} {out : ρ} (d : decode cc pc = .ok (.aastore, 1)) (hf : (sR h b j x).bind f = some out) (kk : ∀ h', f h' = some out → EE K a (pc + 1) L S h') : EE K a pc L (.ref x :: .int j :: .ref b :: S) h := by
  intro H ls locs hR hS hL
  obtain ⟨h', e1, e2⟩ := ob hf
  obtain ⟨n, fn, fs, g1, g2, g3, rfl⟩ := sR_of e1
  have hlt : j.toNatClampNeg < n := Nat.not_le.mp fun q => g2 (Or.inr q)
  have h0 : ¬ j < 0 := fun q => g2 (Or.inl q)
  obtain ⟨r', hr', cellV, q1, q2, q3, -⟩ := hR.get g3
  have hc : vwCl[1]? = some (RX1, TX1, 18) := rfl
  have hcls := (O.k.1 1 _ hc).2
  obtain ⟨kA, comp, k1, k2, k3, -⟩ := (O.k.2 2 _ rfl).2
  have hcomp : comp = (gD K.1).1 1 := Option.some.inj (k3.symm.trans hcls.1)
  subst hcomp
  obtain ⟨kC, hkC, -⟩ := hcls.2
  refine W.aast O.x O.b (hR.get g1) (fun q h => by cases h) (fun h => by cases h) k1 k2 rfl hkC ⟨h0, by show _ < (arrV _ _ _).slots.size; rw [arrV_size]; exact hlt⟩ q1 (fun q h => by rw [q3] at h; cases h) (by rw [q2]; exact hkC) (by rw [q2]; exact va_assign hcls) rfl rfl d fun H1 e z oq => ?_
  refine kk _ e2 H1 ls _ (hR.set O.bg.2.2.2.2.2.2.2.1 g1 ?_ z oq) (hS.put z oq ((O.D hR.2.2.2).2 b _ (mw_get g1))) hL
  show H1[gad K.1 b]? = some (vp_cell _ _)
  rw [e]
  show some (Cell.setSlot (arrV _ n (fun j => va_rf ((fn j).map (gad K.1)))) _ _) = some (arrV _ n (fun q => va_rf ((va_up fn j.toNatClampNeg (some x) q).map (gad K.1))))
  rw [arrV_store]
  congr 2
  funext q
  by_cases hq : q = j.toNatClampNeg
  · subst hq
    simp [updV, va_up, va_rf]
  · simp [updV, va_up, hq]
theorem E_acopy (O : Ok K own cc nL R) {index b b1 : Nat} {sp dp n : Int32} {ρ : Type} {f : MH → Option ρ} {out : ρ} (hlink : Cond.methodLink own index arraycopyName ∈ AW) (hnat : Cond.native arraycopyName ∈ AW) (hstat : Cond.static arraycopyName ∈ AW) (hini : Cond.initialized "java/lang/System" ∈ AW) (hfr : 1 ≤ R.frames) (hlo : (S.map fun v => v.category).sum + (nativeFrameWords "java/lang/System" "arraycopy" 5 + 11) ≤ R.locals) (d : decode cc pc = .ok (.invokestatic index, 3))
    (hf : (cpA h b sp b1 dp n).bind f = some out) (kk : ∀ h', f h' = some out → EE K a (pc + 3) L S h') : EE K a pc L (.int n :: .int dp :: .ref b1 :: .int sp :: .ref b :: S) h := by
  intro H ls locs hR hS hL T hT X
  obtain ⟨h', e1, e2⟩ := ob hf
  obtain ⟨n0, fn, n1, gn, g1, g2, h1, h2, h3, h4, h5, rfl⟩ := cpA_of e1
  have hRR : kR K = R := O.2.2.2.2.2.2.1
  have hfr' : 1 ≤ (kR K).frames := by rw [hRR]; exact hfr
  rw [← hRR] at hlo
  have nn : ∀ z : Int32, ¬ z < 0 → z.toInt = (z.toNatClampNeg : Int) := fun z hz => by
    have hz0 : (0 : Int) ≤ z.toInt := by simpa using Int32.le_iff_toInt_le.mp (Int32.not_lt.mp hz)
    show z.toInt = ((z.toInt.toNat : Nat) : Int)
    omega
  have hc0 : H[gad K.1 b]? = some (vp_cell (gcA K.1 0) (n0, .inl fn)) := hR.get g1
  have hc1 : H[gad K.1 b1]? = some (vp_cell (gcA K.1 0) (n1, .inl gn)) := hR.get g2
  obtain ⟨-, k0, hk0, cm0, hkk0⟩ := (O.k.2 0 _ rfl).1 n0 (fun j => .int (fn j))
  have hcat : ((S.map (mv (gad K.1))).map fun v => v.category).sum = (S.map fun v => v.category).sum := by
    rw [List.map_map]
    congr 1
    exact List.map_congr_left (fun v _ => mv_cat v)
  obtain ⟨vm', X', step⟩ := X.arraycopy O.x O.ow (O.ws _ hlink) (O.ws _ hnat) (O.ws _ hstat) (O.ws _ hini) (src := gad K.1 b) (dst := gad K.1 b1) (cs := vp_cell (gcA K.1 0) (n0, .inl fn)) (cd := vp_cell (gcA K.1 0) (n1, .inl gn)) (srcPos := sp) (destPos := dp) (n := n) (by rw [hT]; exact hc0) (by rw [hT]; exact hc1)
    (fun _ h => by cases h) (fun _ h => by cases h) (fun h => by cases h) (fun h => by cases h) hk0 hk0 hkk0 hkk0 (by simp [refKind]) h1 h2 h3
    (by rw [nn sp h1, nn n h3]; show ¬ _ > ((arrV (gcA K.1 0) n0 (fun j => .int (fn j))).slots.size : Int); rw [arrV_size]; omega)
    (by rw [nn dp h2, nn n h3]; show ¬ _ > ((arrV (gcA K.1 0) n1 (fun j => .int (gn j))).slots.size : Int); rw [arrV_size]; omega)
    (fun vm₁ _ i hi => by
      have e : (vp_cell (gcA K.1 0) (n0, .inl fn)).slots.getD (sp.toNatClampNeg + i) .null = .int (fn (sp.toNatClampNeg + i)) := by
        show (arrV (gcA K.1 0) n0 (fun j => .int (fn j))).slots.getD _ _ = _
        rw [Array.getD_eq_getD_getElem?, arrV_read _ _ (by omega)]
        rfl
      rw [e]
      exact ⟨rfl, trivial⟩)
    (g := F0 (km K) pc ls ((.int n :: .int dp :: .ref b1 :: .int sp :: .ref b :: S).map (mv (gad K.1)))) rfl (by show ls.size = _; rw [hL.1]) (rest := S.map (mv (gad K.1))) rfl (by rw [O.b]; exact d) hfr' (by show 2 * 0 + _ + _ ≤ (kR K).locals; rw [hcat]; omega)
  have e3 : copied (vp_cell (gcA K.1 0) (n0, .inl fn)) (vp_cell (gcA K.1 0) (n1, .inl gn)) sp dp n = vp_cell (gcA K.1 0) (n1, .inl (va_cpy fn gn sp.toNatClampNeg dp.toNatClampNeg n.toNatClampNeg)) := va_copied (fun z => .int z) (gcA K.1 0) (gcA K.1 0) fn gn h4
  rw [e3] at X' step
  have hl : gad K.1 b1 < H.size := (Array.getElem?_eq_some_iff.mp hc1).1
  have hAb := (O.D hR.2.2.2).2 b1 _ (mw_get g2)
  have oq : ∀ (cl : Cell) (q : Nat), q ≠ gad K.1 b1 → (H.setIfInBounds (gad K.1 b1) cl)[q]? = H[q]? := fun cl q hq => by simp [Array.getElem?_setIfInBounds, Ne.symm hq]
  have hheap : ∀ cl : Cell, ((T.setVm vm').setCell (gad K.1 b1) cl).heap = H.setIfInBounds (gad K.1 b1) cl := fun cl => by rw [← hT]; rfl
  have hS' : ∀ (cl : Cell) (locs1 : List Loc), (∀ q ∈ locs1, gA K.1 q.base) → va_S (gA K.1) (ks K).heap (H.setIfInBounds (gad K.1 b1) cl) (locs ++ locs1) := fun cl locs1 hq => ⟨by simp; exact hS.1, fun q g1 g2 => by
      rw [oq cl q (fun e => g2 (by rw [e]; exact hAb))]
      exact hS.2.1 q g1 g2, fun q hq' => (List.mem_append.mp hq').elim (fun z => hS.2.2 q z) (fun z => hq q z)⟩
  obtain ⟨t, a1, b1'⟩ := kk _ e2 _ ls _ (hR.set O.bg.2.2.2.2.2.2.2.1 g2 (c' := .inl (0, n1, .inl (va_cpy fn gn sp.toNatClampNeg dp.toNatClampNeg n.toNatClampNeg))) (by show (H.setIfInBounds _ _)[gad K.1 b1]? = some (vp_cell _ _); simp [Array.getElem?_setIfInBounds, hl]; rfl) (by simp) (oq _)) (hS' _ _ (fun q hq => by
        obtain ⟨z, -, hz⟩ := List.mem_map.mp hq
        rw [← hz]
        exact hAb)) hL _ (hheap _) X'
  exact ⟨t, step t a1, b1'⟩
end
section
/-! contracts of methods over the small heap, and their calls -/
def Pm (g : Gx) (fr : Bool) (h : MH) (U : State) : Prop := Rel g fr h U.heap ∧ Bg g U
def Qm (g : Gx) (fr : Bool) (v : Option Value) (h : MH) : Array Value → State → Outcome → State → Prop := fun _ st oc t => oc = .returned (v.map (mv (gad g))) ∧ Rel g fr h t.heap ∧ va_F (gA g) st t
def rmm (f lo mc ms : Nat) : Room := { frames := f, cells := mc, slots := ms, locals := lo }
def MM (g : Gx) (y : MethodName) (cc : ByteArray) (maxL : Nat) (ret : Option FieldType) (rf rl mc ms : Nat) (fr fr' : Bool) (args : List Value) (h : MH) (v : Option Value) (h' : MH) : Prop :=
  Met (gl g) y (Cond.code y cc maxL ret :: AW) (rmm rf rl mc ms) (va_Pc (args.map (mv (gad g))) (Pm g fr h)) (Qm g fr' v h') mc ms (gA g)
theorem Pm_blind {g : Gx} {fr : Bool} {h : MH} {vs : List Value} : FrameBlind (va_Pc vs (Pm g fr h)) := by
  intro a U f mk q
  obtain ⟨q1, q2, q3⟩ := q
  refine ⟨q1, q2, Bg.to (s := U) q3 ?_ (Nat.le_refl _) (fun _ _ _ => rfl)⟩
  exact State.WarmedH.refl U
/-- the locals at a method's entry -/
def entL : List Value → Nat → List (Option Value)
  | [], n => List.replicate n none
  | v :: vs, n => match v.category with
    | 2 => some v :: none :: entL vs (n - 2)
    | _ => some v :: entL vs (n - 1)
theorem entL_in {ad : Nat → Nat} : ∀ (vs : List Value) (n o i : Nat) (v : Value), (entL vs n)[i]? = some (some v) → (i + o, mv ad v) ∈ lv_args o (vs.map (mv ad)) := by
  intro vs
  induction vs with
  | nil =>
    intro n o i v h
    simp only [entL, List.getElem?_replicate] at h
    split at h <;> cases h
  | cons w vs ih =>
    intro n o i v h
    have hcat := mv_cat (ad := ad) w
    rcases lv_cat w with hc | hc
    · simp only [entL, hc] at h
      simp only [List.map_cons, lv_args, hcat, hc]
      cases i with
      | zero =>
        simp only [List.getElem?_cons_zero, Option.some.injEq] at h
        subst h
        simp
      | succ i =>
        have h2 := ih _ (o + 1) i v (by simpa using h)
        refine List.mem_cons_of_mem _ ?_
        rw [show i + 1 + o = i + (o + 1) by omega]
        simpa using h2
    · simp only [entL, hc] at h
      simp only [List.map_cons, lv_args, hcat, hc]
      cases i with
      | zero =>
        simp only [List.getElem?_cons_zero, Option.some.injEq] at h
        subst h
        simp
      | succ i =>
        cases i with
        | zero => simp at h
        | succ i =>
          have h2 := ih _ (o + 2) i v (by simpa using h)
          refine List.mem_cons_of_mem _ ?_
          rw [show i + 1 + 1 + o = i + (o + 2) by omega]
          simpa using h2
theorem lg_sl_len {ad : Nat → Nat} (vs : List Value) : (lg_sl (vs.map (mv ad))).length = (lg_sl vs).length := by
  induction vs with
  | nil => rfl
  | cons v vs ih =>
    simp only [lg_sl, List.map_cons, List.flatMap_cons, List.length_append, mv_cat] at ih ⊢
    rw [ih]
    split <;> rfl
theorem entL_len : ∀ (vs : List Value) (n : Nat), (lg_sl vs).length ≤ n → (entL vs n).length = n := by
  intro vs
  induction vs with
  | nil => intro n _; simp [entL]
  | cons v vs ih =>
    intro n h
    simp only [lg_sl, List.flatMap_cons, List.length_append] at h ih
    rcases lv_cat v with hc | hc
    · rw [if_neg (by omega)] at h
      simp only [List.length_cons, List.length_nil] at h
      simp only [entL, hc, List.length_cons]
      rw [ih (n - 1) (by omega)]
      omega
    · rw [if_pos hc] at h
      simp only [List.length_cons, List.length_nil] at h
      simp only [entL, hc, List.length_cons]
      rw [ih (n - 2) (by omega)]
      omega
/-- what the end must meet: an answer, a small heap -/
def Out (K : Cx) (ret : Option FieldType) (fr : Bool) (v : Option Value) (h : MH) : Prop :=
  K.2.2.2 = MQ K.2.2.1.2.2.1 (Qm K.1 fr v h) (kargs K) (ks K) (kR K).cells (kR K).slots (gA K.1) ∧ (kmeth K).sig.returnType = ret
theorem MM_of {g : Gx} {y : MethodName} {cc : ByteArray} {maxL : Nat} {ret : Option FieldType} {rf rl mc ms : Nat} {fr fr' : Bool} {args : List Value} {h : MH} {v : Option Value} {h' : MH} {L : List (Option Value)} (hy : plainName y.cls = true) (hlen : (lg_sl args).length ≤ maxL) (hL : entL args maxL = L)
    (body : ∀ K : Cx, K.1 = g → Ok K y.cls cc maxL (rmm rf rl mc ms) → Out K ret fr' v h' → (kmeth K).name = y.name → EE K (fr, 0, 0) 0 L [] h) : MM g y cc maxL ret rf rl mc ms fr fr' args h v h' := by
  refine Met.ofW (cc := cc) (maxL := maxL) (ret := ret) hy rfl ?_
  intro p e s m argv below meth c s₁ B hml hv
  obtain ⟨rfl, hRel, hBg⟩ := hv
  have hts := atoms_spec (ws := Cond.code y cc maxL ret :: AW) B.pre
  have hl := lv_entry (args.map (mv (gad g))) (n := maxL) (by rw [lg_sl_len]; exact hlen)
  rw [lg_entry_eq]
  subst hL
  refine body (g, (p, e, _, s), (m, _, below, meth, c), MQ below (Qm g fr' v h') _ s mc ms (gA g)) rfl ⟨B.exec, B.bytes, hml, findClass_of_methodNamed B.named, fun w hw => hts w (List.mem_cons_of_mem _ hw), hBg, rfl, B.notSynchronized⟩ ⟨rfl, B.returns⟩ (name_of_methodNamed B.named B.method).1 s.heap _ [] hRel va_S.rf ⟨?_, ?_, hl.2.1, fun i w hw => ?_⟩
  · rw [hml]; exact hl.1
  · rw [hml]; exact entL_len _ _ hlen
  · exact hl.2.2 _ (entL_in args maxL 0 i w hw)
variable {K : Cx} {own : String} {cc : ByteArray} {nL : Nat} {R : Room} {a : Bool × Nat × Nat} {pc : Nat} {L : List (Option Value)} {S : List Value} {h : MH}
theorem Rel.fr {g : Gx} {fr fr' : Bool} {h : MH} {H : Heap} (hfr : fr' = true → fr = true) (hR : Rel g fr h H) : Rel g fr' h H := ⟨hR.1, hR.2.1, fun q => hR.2.2.1 (hfr q), hR.2.2.2⟩
theorem E_iret0 (O : Ok K own cc nL R) {x : Int32} {v : Option Value} {h' : MH} (Z : Out K (some .int) a.1 v h') (hv : v = some (.int x)) (hh : h = h') (hc : a.2.1 ≤ R.cells ∧ a.2.2 ≤ R.slots) (d : decode cc pc = .ok (.ireturn, 1)) : EE K a pc L [.int x] h := by
  intro H ls locs hR hS hL
  subst hh; subst hv
  have hc : a.2.1 ≤ (kR K).cells ∧ a.2.2 ≤ (kR K).slots := by rw [O.2.2.2.2.2.2.1]; exact hc
  unfold WW
  rw [Z.1]
  refine W.widen hc.1 hc.2 ?_
  exact W.iret O.x O.b Z.2 (fun t ht hW => ⟨rfl, by rw [ht]; exact hR, hS.F ht⟩) hS.2.2 d O.2.2.2.2.2.2.2
theorem E_lret0 (O : Ok K own cc nL R) {x : Int64} {v : Option Value} {h' : MH} (Z : Out K (some .long) a.1 v h') (hv : v = some (.long x)) (hh : h = h') (hc : a.2.1 ≤ R.cells ∧ a.2.2 ≤ R.slots) (d : decode cc pc = .ok (.lreturn, 1)) : EE K a pc L [.long x] h := by
  intro H ls locs hR hS hL
  subst hh; subst hv
  have hc : a.2.1 ≤ (kR K).cells ∧ a.2.2 ≤ (kR K).slots := by rw [O.2.2.2.2.2.2.1]; exact hc
  unfold WW
  rw [Z.1]
  refine W.widen hc.1 hc.2 ?_
  exact W.lret O.x O.b Z.2 (fun t ht hW => ⟨rfl, by rw [ht]; exact hR, hS.F ht⟩) hS.2.2 d O.2.2.2.2.2.2.2
theorem E_dret0 (O : Ok K own cc nL R) {x : UInt64} {v : Option Value} {h' : MH} (Z : Out K (some .double) a.1 v h') (hv : v = some (.double x)) (hh : h = h') (hc : a.2.1 ≤ R.cells ∧ a.2.2 ≤ R.slots) (d : decode cc pc = .ok (.dreturn, 1)) : EE K a pc L [.double x] h := by
  intro H ls locs hR hS hL
  subst hh; subst hv
  have hc : a.2.1 ≤ (kR K).cells ∧ a.2.2 ≤ (kR K).slots := by rw [O.2.2.2.2.2.2.1]; exact hc
  unfold WW
  rw [Z.1]
  refine W.widen hc.1 hc.2 ?_
  exact W.dret O.x O.b Z.2 (fun t ht hW => ⟨rfl, by rw [ht]; exact hR, hS.F ht⟩) hS.2.2 d O.2.2.2.2.2.2.2
/-- a boolean's return keeps the lowest bit -/
theorem W_zret1 {p : Program} {l : Launch} {e : Env} {R : Room} {s : State} {m : MethodId} {args : Array Value} {below : List Frame} {meth : Method} {c : Code} {H : Heap} {locs : List Loc} {cells slots : Nat} {cc : ByteArray} {Qc : Array Value → State → Outcome → State → Prop} {free : Addr → Prop} {v : Int32} (hexec : p.tables.exec = Jvm.exec) (hb : c.code = cc) (hr : meth.sig.returnType = some .boolean)
    (hq : ∀ t : State, t.heap = H → s.WarmedH t.vm → Qc args s (.returned (some (.int (v &&& 1)))) t) (hf : ∀ q ∈ locs, free q.base)
    {pc : Nat} {ls : Array Slot} (hdg : decode cc pc = .ok (.ireturn, 1)) (hlocks : meth.locks = false) : W p l e R s m args below meth c H locs cells slots (MQ below Qc args s cells slots free) (F0 m pc ls [.int v]) := by
  intro T hT X
  obtain ⟨fs, hret, hrun, hended, hW, hframe⟩ := X.leave (v := some (.int (v &&& 1))) (fun h => by rw [hr] at h; cases h)
  have hmeth' : T.vm.method? m = some meth := X.method'
  refine ⟨T.setFrames fs, ?_, .returned (some (.int (v &&& 1))), hrun, hended, hq _ hT hW, locs, ⟨⟨_, rfl⟩, hW, hframe⟩, hf⟩
  jvm_step X.here [X.here.top, hexec, hb, hdg, hmeth', hr, narrow]
  (try refine ⟨rfl, ?_⟩); (try refine ⟨rfl, ?_⟩)
  first | (intro acts; rw [hret _ acts rfl rfl rfl]) | rw [hret _ _ rfl rfl rfl]
  exact Steps.refl _
theorem E_zret0 (O : Ok K own cc nL R) {x : Int32} {v : Option Value} {h' : MH} (Z : Out K (some .boolean) a.1 v h') (hv : v = some (.int (x &&& 1))) (hh : h = h') (hc : a.2.1 ≤ R.cells ∧ a.2.2 ≤ R.slots) (d : decode cc pc = .ok (.ireturn, 1)) : EE K a pc L [.int x] h := by
  intro H ls locs hR hS hL
  subst hh; subst hv
  have hc : a.2.1 ≤ (kR K).cells ∧ a.2.2 ≤ (kR K).slots := by rw [O.2.2.2.2.2.2.1]; exact hc
  unfold WW
  rw [Z.1]
  refine W.widen hc.1 hc.2 ?_
  exact W_zret1 O.x O.b Z.2 (fun t ht hW => ⟨rfl, by rw [ht]; exact hR, hS.F ht⟩) hS.2.2 d O.2.2.2.2.2.2.2
theorem E_vret0 (O : Ok K own cc nL R) {v : Option Value} {h' : MH} (Z : Out K none a.1 v h') (hv : v = none) (hh : h = h') (hc : a.2.1 ≤ R.cells ∧ a.2.2 ≤ R.slots) (d : decode cc pc = .ok (.return_, 1)) : EE K a pc L [] h := by
  intro H ls locs hR hS hL
  subst hh; subst hv
  have hc : a.2.1 ≤ (kR K).cells ∧ a.2.2 ≤ (kR K).slots := by rw [O.2.2.2.2.2.2.1]; exact hc
  unfold WW
  rw [Z.1]
  refine W.widen hc.1 hc.2 ?_
  exact W.vret O.x O.b Z.2 (fun t ht hW => ⟨rfl, by rw [ht]; exact hR, hS.F ht⟩) hS.2.2 d O.2.2.2.2.2.2.2
theorem E_iret (O : Ok K own cc nL R) {x : Int32} {out : Int32 × MH} (Z : Out K (some .int) a.1 (some (.int out.1)) out.2) (hf : some (x, h) = some out) (hc : a.2.1 ≤ R.cells ∧ a.2.2 ≤ R.slots) (d : decode cc pc = .ok (.ireturn, 1)) : EE K a pc L [.int x] h := by
  cases hf
  exact E_iret0 O Z rfl rfl hc d
theorem E_iretP (O : Ok K own cc nL R) {x : Int32} {out : Int32} (Z : Out K (some .int) a.1 (some (.int out)) h) (hf : some x = some out) (hc : a.2.1 ≤ R.cells ∧ a.2.2 ≤ R.slots) (d : decode cc pc = .ok (.ireturn, 1)) : EE K a pc L [.int x] h := by
  cases hf
  exact E_iret0 O Z rfl rfl hc d
theorem E_zret (O : Ok K own cc nL R) {x : Int32} {out : Int32 × MH} (Z : Out K (some .boolean) a.1 (some (.int out.1)) out.2) (hf : some ((x &&& 1), h) = some out) (hc : a.2.1 ≤ R.cells ∧ a.2.2 ≤ R.slots) (d : decode cc pc = .ok (.ireturn, 1)) : EE K a pc L [.int x] h := by
  cases hf
  exact E_zret0 O Z rfl rfl hc d
theorem E_zretP (O : Ok K own cc nL R) {x : Int32} {out : Int32} (Z : Out K (some .boolean) a.1 (some (.int out)) h) (hf : some (x &&& 1) = some out) (hc : a.2.1 ≤ R.cells ∧ a.2.2 ≤ R.slots) (d : decode cc pc = .ok (.ireturn, 1)) : EE K a pc L [.int x] h := by
  cases hf
  exact E_zret0 O Z rfl rfl hc d
theorem E_lret (O : Ok K own cc nL R) {x : Int64} {out : Int64 × MH} (Z : Out K (some .long) a.1 (some (.long out.1)) out.2) (hf : some (x, h) = some out) (hc : a.2.1 ≤ R.cells ∧ a.2.2 ≤ R.slots) (d : decode cc pc = .ok (.lreturn, 1)) : EE K a pc L [.long x] h := by
  cases hf
  exact E_lret0 O Z rfl rfl hc d
theorem E_lretP (O : Ok K own cc nL R) {x : Int64} {out : Int64} (Z : Out K (some .long) a.1 (some (.long out)) h) (hf : some x = some out) (hc : a.2.1 ≤ R.cells ∧ a.2.2 ≤ R.slots) (d : decode cc pc = .ok (.lreturn, 1)) : EE K a pc L [.long x] h := by
  cases hf
  exact E_lret0 O Z rfl rfl hc d
theorem E_dret (O : Ok K own cc nL R) {x : UInt64} {out : UInt64 × MH} (Z : Out K (some .double) a.1 (some (.double out.1)) out.2) (hf : some (x, h) = some out) (hc : a.2.1 ≤ R.cells ∧ a.2.2 ≤ R.slots) (d : decode cc pc = .ok (.dreturn, 1)) : EE K a pc L [.double x] h := by
  cases hf
  exact E_dret0 O Z rfl rfl hc d
theorem E_dretP (O : Ok K own cc nL R) {x : UInt64} {out : UInt64} (Z : Out K (some .double) a.1 (some (.double out)) h) (hf : some x = some out) (hc : a.2.1 ≤ R.cells ∧ a.2.2 ≤ R.slots) (d : decode cc pc = .ok (.dreturn, 1)) : EE K a pc L [.double x] h := by
  cases hf
  exact E_dret0 O Z rfl rfl hc d
theorem E_vret (O : Ok K own cc nL R) {out : MH} (Z : Out K none a.1 none out) (hf : some h = some out) (hc : a.2.1 ≤ R.cells ∧ a.2.2 ≤ R.slots) (d : decode cc pc = .ok (.return_, 1)) : EE K a pc L [] h := by
  cases hf
  exact E_vret0 O Z rfl rfl hc d
/-- a call's words -/
def CB (own : String) (index : Nat) (y : MethodName) (bytes : ByteArray) (maxL : Nat) (ret : Option FieldType) (n : Nat) : Prop :=
  Cond.methodLink own index y ∈ AW ∧ Cond.code y bytes maxL ret ∈ AW ∧ Cond.initialized y.cls ∈ AW ∧ (y.cls ≠ "java/lang/invoke/MethodHandle" ∧ y.cls ≠ "java/lang/invoke/VarHandle" ∧ (parseMethodDescriptor y.desc).map (fun d => d.parameters.length) = some n)
def CV (own : String) (index : Nat) (y : MethodName) (bytes : ByteArray) (maxL : Nat) (ret : Option FieldType) (n : Nat) : Prop := CB own index y bytes maxL ret n ∧ Cond.instanceMethod y ∈ AW ∧ Cond.selects y.cls y y ∈ AW
def CS (own : String) (index : Nat) (y : MethodName) (bytes : ByteArray) (maxL : Nat) (ret : Option FieldType) (n : Nat) : Prop := CB own index y bytes maxL ret n ∧ Cond.static y ∈ AW
theorem AW_self {y : MethodName} {bytes : ByteArray} {maxL : Nat} {ret : Option FieldType} (h : Cond.code y bytes maxL ret ∈ AW) : GoodIn AW (Cond.code y bytes maxL ret :: AW) := by
  intro w hw
  rcases List.mem_cons.mp hw with rfl | hw
  · exact ⟨h, good_of_word (List.mem_filter.mp h).2⟩
  · exact ⟨hw, good_of_word (List.mem_filter.mp hw).2⟩
theorem CB.use (O : Ok K own cc nL R) {index : Nat} {y : MethodName} {bytes : ByteArray} {maxL : Nat} {ret : Option FieldType} {n rf rl mc ms : Nat} (w : CB own index y bytes maxL ret n) (hr : rf + 1 ≤ R.frames ∧ 8 + (maxL + 11) + rl ≤ R.locals) :
    CallB (kR K) (ks K) (kargs K) own index y bytes maxL ret (Cond.code y bytes maxL ret :: AW) (rmm rf rl mc ms) mc ms n := by
  rw [show kR K = R from O.2.2.2.2.2.2.1]
  exact callB_of n O.ws (AW_self w.2.1) rfl rfl rfl (O.ws _ w.2.2.1) (O.ws _ w.1) w.2.2.2 hr
theorem Pm_at (O : Ok K own cc nL R) {H : Heap} {locs : List Loc} (hR : Rel K.1 a.1 h H) (hS : va_S (gA K.1) (ks K).heap H locs) {vs : List Value} : ∀ U : State, U.heap = H → (ks K).WarmedH U.vm → va_Pc vs (Pm K.1 a.1 h) vs.toArray U := by
  intro U hU hW
  refine ⟨rfl, by rw [hU]; exact hR, Bg.to O.bg hW (by rw [hU]; exact hS.1) (fun q h1 h2 => by rw [hU]; exact hS.2.1 q h1 h2)⟩
/-- behind a call -/
theorem E_back {H : Heap} {ls : Array Slot} {locs : List Loc} {mc ms : Nat} {fr' : Bool} {v : Option Value} {h' : MH} {av : Array Value} {st0 : List Value} (hS : va_S (gA K.1) (ks K).heap H locs) (hL : LR (gad K.1) (kc K).maxLocals L ls)
    (hrun : va_Run K.2.1.1 (gl K.1) K.2.1.2.1 (kR K) (ks K) (km K) (kargs K) K.2.2.1.2.2.1 (kmeth K) (kc K) H locs a.2.1 a.2.2 mc ms (F0 (km K) pc ls st0) (S.map (mv (gad K.1))) (Qm K.1 fr' v h' av) (gA K.1))
    (kk : EE K (fr', a.2.1 + mc, a.2.2 + ms) (pc + 3) L (v.toList ++ S) h') : WW K H locs a.2.1 a.2.2 (F0 (km K) pc ls st0) := by
  intro T hT X
  obtain ⟨v', st₀, t, T', L', h0, X', hL', e1, e2, ⟨hv, hRel, hF⟩, st⟩ := hrun T hT X
  cases hv
  obtain ⟨hz, hk⟩ := hF
  rw [h0] at hz hk
  have hS' : va_S (gA K.1) (ks K).heap T'.heap (locs ++ L') := ⟨Nat.le_trans hS.1 (by rw [e1]; exact hz), fun q h1 h2 => by rw [e1, hk q (Nat.lt_of_lt_of_le h1 hS.1) h2]; exact hS.2.1 q h1 h2, fun q hq => by
    rcases List.mem_append.mp hq with h | h
    · exact hS.2.2 q h
    · exact hL' q h⟩
  obtain ⟨t2, a1, b1⟩ := kk T'.heap ls _ (by rw [e1]; exact hRel) hS' hL T' rfl X'
  refine ⟨t2, st t2 ?_, b1⟩
  have e : (v.toList ++ S).map (mv (gad K.1)) = (v.map (mv (gad K.1))).toList ++ S.map (mv (gad K.1)) := by cases v <;> rfl
  rw [e] at a1
  exact a1
theorem S_room {S : List Value} {ls : Array Slot} {m : MethodId} {st : List Value} {ad : Nat → Nat} (h : (S.map fun v => v.category).sum ≤ 8) : 2 * (F0 m pc ls st).monitorRoom + ((S.map (mv ad)).map fun v => v.category).sum ≤ 8 := by
  have hcat : ((S.map (mv ad)).map fun v => v.category).sum = (S.map fun v => v.category).sum := by
    rw [List.map_map]
    congr 1
    exact List.map_congr_left (fun v _ => mv_cat v)
  exact lv_room (m := m) (pc := pc) (ls := ls) (rest := st) (by rw [hcat]; exact h)
def vcall {α : Type} (h : MH) (ci b : Nat) (o : Option α) : Option α := if isO h ci b = true then o else none
theorem vcall_of {α : Type} {h : MH} {ci b : Nat} {o : Option α} {r : α} (e : vcall h ci b o = some r) : isO h ci b = true ∧ o = some r := by
  unfold vcall at e
  split at e
  · next hi => exact ⟨hi, e⟩
  · cases e
theorem E_callV {α ρ : Type} (O : Ok K own cc nL R) {index ci b : Nat} {y : MethodName} {bytes : ByteArray} {maxL : Nat} {ret : Option FieldType} {rf rl mc ms : Nat} {fr' : Bool} (As : List Value) {S0 : List Value} {o : Option α} {f : α → Option ρ} {out : ρ} (mk : α → Option Value × MH) (w : CV own index y bytes maxL ret As.length) (hci : (vwCl[ci]?).map (fun r => r.1) = some y.cls)
    (hM : ∀ r, o = some r → MM K.1 y bytes maxL ret rf rl mc ms a.1 fr' (.ref b :: As) h (mk r).1 (mk r).2) (d : decode cc pc = .ok (.invokevirtual index, 3)) (hf : (vcall h ci b o).bind f = some out) (hst : S0 = As.reverse ++ .ref b :: S)
    (hr : rf + 1 ≤ R.frames ∧ 8 + (maxL + 11) + rl ≤ R.locals) (hc : a.2.1 + mc ≤ R.cells ∧ a.2.2 + ms ≤ R.slots) (hsum : (S.map fun v => v.category).sum ≤ 8) (kk : ∀ r, f r = some out → EE K (fr', a.2.1 + mc, a.2.2 + ms) (pc + 3) L ((mk r).1.toList ++ S) (mk r).2) : EE K a pc L S0 h := by
  intro H ls locs hR hS hL
  subst hst
  obtain ⟨r, e1, e2⟩ := ob hf
  obtain ⟨e1, e3⟩ := vcall_of e1
  obtain ⟨fs, g1⟩ := isO_of e1
  obtain ⟨q, hq1, hq2⟩ := Option.map_eq_some_iff.mp hci
  have hc : a.2.1 + mc ≤ (kR K).cells ∧ a.2.2 + ms ≤ (kR K).slots := by rw [O.2.2.2.2.2.2.1]; exact hc
  have hrecv := va_recv O.k hR.1 hq1 (mw_get g1)
  rw [hq2] at hrecv
  have hrun := va_runV (e := K.2.1.2.1) (below := K.2.2.1.2.2.1) (meth := kmeth K) (As := As.map (mv (gad K.1))) (rest := S.map (mv (gad K.1))) (locs := locs) (cells := a.2.1) (slots := a.2.2) ⟨O.x, O.b, O.2.2.1, O.ow, O.ws⟩ (hM r e3) ⟨CB.use O w.1 hr, O.ws _ w.2.1, O.ws _ w.2.2⟩ ⟨Pm_blind, hrecv, Pm_at O hR hS⟩ (g := F0 (km K) pc ls ((As.reverse ++ .ref b :: S).map (mv (gad K.1)))) rfl (by simp) (by show ls.size = _; rw [hL.1, O.2.2.1]) (by show List.map _ _ = _; simp [mv]) (S_room hsum) d hc
  exact E_back hS hL hrun (kk r e2)
theorem E_callS {α ρ : Type} (O : Ok K own cc nL R) {index : Nat} {y : MethodName} {bytes : ByteArray} {maxL : Nat} {ret : Option FieldType} {rf rl mc ms : Nat} {fr' : Bool} (As : List Value) {S0 : List Value} {o : Option α} {f : α → Option ρ} {out : ρ} (mk : α → Option Value × MH) (w : CS own index y bytes maxL ret As.length)
    (hM : ∀ r, o = some r → MM K.1 y bytes maxL ret rf rl mc ms a.1 fr' As h (mk r).1 (mk r).2) (d : decode cc pc = .ok (.invokestatic index, 3)) (hf : o.bind f = some out) (hst : S0 = As.reverse ++ S)
    (hr : rf + 1 ≤ R.frames ∧ 8 + (maxL + 11) + rl ≤ R.locals) (hc : a.2.1 + mc ≤ R.cells ∧ a.2.2 + ms ≤ R.slots) (hsum : (S.map fun v => v.category).sum ≤ 8) (kk : ∀ r, f r = some out → EE K (fr', a.2.1 + mc, a.2.2 + ms) (pc + 3) L ((mk r).1.toList ++ S) (mk r).2) : EE K a pc L S0 h := by
  intro H ls locs hR hS hL
  subst hst
  obtain ⟨r, e3, e2⟩ := ob hf
  have hc : a.2.1 + mc ≤ (kR K).cells ∧ a.2.2 + ms ≤ (kR K).slots := by rw [O.2.2.2.2.2.2.1]; exact hc
  have hrun := va_runS (e := K.2.1.2.1) (below := K.2.2.1.2.2.1) (meth := kmeth K) (As := As.map (mv (gad K.1))) (rest := S.map (mv (gad K.1))) (locs := locs) (cells := a.2.1) (slots := a.2.2) ⟨O.x, O.b, O.2.2.1, O.ow, O.ws⟩ (hM r e3) ⟨CB.use O w.1 hr, O.ws _ w.2⟩ ⟨Pm_blind, Pm_at O hR hS⟩ (g := F0 (km K) pc ls ((As.reverse ++ S).map (mv (gad K.1)))) rfl (by simp) (by show ls.size = _; rw [hL.1, O.2.2.1]) (by show List.map _ _ = _; simp) (S_room hsum) d hc
  exact E_back hS hL hrun (kk r e2)
theorem E_callV_i {ρ : Type} (O : Ok K own cc nL R) {index ci b : Nat} {y : MethodName} {bytes : ByteArray} {maxL : Nat} {ret : Option FieldType} {rf rl : Nat} (As : List Value) {S0 : List Value} {o : Option (Int32 × MH)} {f : Int32 × MH → Option ρ} {out : ρ} (w : CV own index y bytes maxL ret As.length) (hci : (vwCl[ci]?).map (fun r => r.1) = some y.cls)
    (hM : ∀ r, o = some r → MM K.1 y bytes maxL ret rf rl 0 0 a.1 a.1 (.ref b :: As) h (some (.int r.1)) r.2) (d : decode cc pc = .ok (.invokevirtual index, 3)) (hf : (vcall h ci b o).bind f = some out) (hst : S0 = As.reverse ++ .ref b :: S)
    (hr : rf + 1 ≤ R.frames ∧ 8 + (maxL + 11) + rl ≤ R.locals) (hc : a.2.1 ≤ R.cells ∧ a.2.2 ≤ R.slots) (hsum : (S.map fun v => v.category).sum ≤ 8) (kk : ∀ r, f r = some out → EE K a (pc + 3) L (.int r.1 :: S) r.2) : EE K a pc L S0 h := E_callV O As (fun r => (some (.int r.1), r.2)) w hci hM d hf hst hr hc hsum kk
theorem E_callS_i {ρ : Type} (O : Ok K own cc nL R) {index : Nat} {y : MethodName} {bytes : ByteArray} {maxL : Nat} {ret : Option FieldType} {rf rl : Nat} (As : List Value) {S0 : List Value} {o : Option (Int32 × MH)} {f : Int32 × MH → Option ρ} {out : ρ} (w : CS own index y bytes maxL ret As.length)
    (hM : ∀ r, o = some r → MM K.1 y bytes maxL ret rf rl 0 0 a.1 a.1 As h (some (.int r.1)) r.2) (d : decode cc pc = .ok (.invokestatic index, 3)) (hf : o.bind f = some out) (hst : S0 = As.reverse ++ S)
    (hr : rf + 1 ≤ R.frames ∧ 8 + (maxL + 11) + rl ≤ R.locals) (hc : a.2.1 ≤ R.cells ∧ a.2.2 ≤ R.slots) (hsum : (S.map fun v => v.category).sum ≤ 8) (kk : ∀ r, f r = some out → EE K a (pc + 3) L (.int r.1 :: S) r.2) : EE K a pc L S0 h := E_callS O As (fun r => (some (.int r.1), r.2)) w hM d hf hst hr hc hsum kk
theorem E_callV_iP {ρ : Type} (O : Ok K own cc nL R) {index ci b : Nat} {y : MethodName} {bytes : ByteArray} {maxL : Nat} {ret : Option FieldType} {rf rl : Nat} (As : List Value) {S0 : List Value} {o : Option (Int32)} {f : Int32 → Option ρ} {out : ρ} (w : CV own index y bytes maxL ret As.length) (hci : (vwCl[ci]?).map (fun r => r.1) = some y.cls)
    (hM : ∀ r, o = some r → MM K.1 y bytes maxL ret rf rl 0 0 a.1 a.1 (.ref b :: As) h (some (.int r)) h) (d : decode cc pc = .ok (.invokevirtual index, 3)) (hf : (vcall h ci b o).bind f = some out) (hst : S0 = As.reverse ++ .ref b :: S)
    (hr : rf + 1 ≤ R.frames ∧ 8 + (maxL + 11) + rl ≤ R.locals) (hc : a.2.1 ≤ R.cells ∧ a.2.2 ≤ R.slots) (hsum : (S.map fun v => v.category).sum ≤ 8) (kk : ∀ r, f r = some out → EE K a (pc + 3) L (.int r :: S) h) : EE K a pc L S0 h := E_callV O As (fun r => (some (.int r), h)) w hci hM d hf hst hr hc hsum kk
theorem E_callS_iP {ρ : Type} (O : Ok K own cc nL R) {index : Nat} {y : MethodName} {bytes : ByteArray} {maxL : Nat} {ret : Option FieldType} {rf rl : Nat} (As : List Value) {S0 : List Value} {o : Option (Int32)} {f : Int32 → Option ρ} {out : ρ} (w : CS own index y bytes maxL ret As.length)
    (hM : ∀ r, o = some r → MM K.1 y bytes maxL ret rf rl 0 0 a.1 a.1 As h (some (.int r)) h) (d : decode cc pc = .ok (.invokestatic index, 3)) (hf : o.bind f = some out) (hst : S0 = As.reverse ++ S)
    (hr : rf + 1 ≤ R.frames ∧ 8 + (maxL + 11) + rl ≤ R.locals) (hc : a.2.1 ≤ R.cells ∧ a.2.2 ≤ R.slots) (hsum : (S.map fun v => v.category).sum ≤ 8) (kk : ∀ r, f r = some out → EE K a (pc + 3) L (.int r :: S) h) : EE K a pc L S0 h := E_callS O As (fun r => (some (.int r), h)) w hM d hf hst hr hc hsum kk
theorem E_callV_l {ρ : Type} (O : Ok K own cc nL R) {index ci b : Nat} {y : MethodName} {bytes : ByteArray} {maxL : Nat} {ret : Option FieldType} {rf rl : Nat} (As : List Value) {S0 : List Value} {o : Option (Int64 × MH)} {f : Int64 × MH → Option ρ} {out : ρ} (w : CV own index y bytes maxL ret As.length) (hci : (vwCl[ci]?).map (fun r => r.1) = some y.cls)
    (hM : ∀ r, o = some r → MM K.1 y bytes maxL ret rf rl 0 0 a.1 a.1 (.ref b :: As) h (some (.long r.1)) r.2) (d : decode cc pc = .ok (.invokevirtual index, 3)) (hf : (vcall h ci b o).bind f = some out) (hst : S0 = As.reverse ++ .ref b :: S)
    (hr : rf + 1 ≤ R.frames ∧ 8 + (maxL + 11) + rl ≤ R.locals) (hc : a.2.1 ≤ R.cells ∧ a.2.2 ≤ R.slots) (hsum : (S.map fun v => v.category).sum ≤ 8) (kk : ∀ r, f r = some out → EE K a (pc + 3) L (.long r.1 :: S) r.2) : EE K a pc L S0 h := E_callV O As (fun r => (some (.long r.1), r.2)) w hci hM d hf hst hr hc hsum kk
theorem E_callS_l {ρ : Type} (O : Ok K own cc nL R) {index : Nat} {y : MethodName} {bytes : ByteArray} {maxL : Nat} {ret : Option FieldType} {rf rl : Nat} (As : List Value) {S0 : List Value} {o : Option (Int64 × MH)} {f : Int64 × MH → Option ρ} {out : ρ} (w : CS own index y bytes maxL ret As.length)
    (hM : ∀ r, o = some r → MM K.1 y bytes maxL ret rf rl 0 0 a.1 a.1 As h (some (.long r.1)) r.2) (d : decode cc pc = .ok (.invokestatic index, 3)) (hf : o.bind f = some out) (hst : S0 = As.reverse ++ S)
    (hr : rf + 1 ≤ R.frames ∧ 8 + (maxL + 11) + rl ≤ R.locals) (hc : a.2.1 ≤ R.cells ∧ a.2.2 ≤ R.slots) (hsum : (S.map fun v => v.category).sum ≤ 8) (kk : ∀ r, f r = some out → EE K a (pc + 3) L (.long r.1 :: S) r.2) : EE K a pc L S0 h := E_callS O As (fun r => (some (.long r.1), r.2)) w hM d hf hst hr hc hsum kk
theorem E_callV_lP {ρ : Type} (O : Ok K own cc nL R) {index ci b : Nat} {y : MethodName} {bytes : ByteArray} {maxL : Nat} {ret : Option FieldType} {rf rl : Nat} (As : List Value) {S0 : List Value} {o : Option (Int64)} {f : Int64 → Option ρ} {out : ρ} (w : CV own index y bytes maxL ret As.length) (hci : (vwCl[ci]?).map (fun r => r.1) = some y.cls)
    (hM : ∀ r, o = some r → MM K.1 y bytes maxL ret rf rl 0 0 a.1 a.1 (.ref b :: As) h (some (.long r)) h) (d : decode cc pc = .ok (.invokevirtual index, 3)) (hf : (vcall h ci b o).bind f = some out) (hst : S0 = As.reverse ++ .ref b :: S)
    (hr : rf + 1 ≤ R.frames ∧ 8 + (maxL + 11) + rl ≤ R.locals) (hc : a.2.1 ≤ R.cells ∧ a.2.2 ≤ R.slots) (hsum : (S.map fun v => v.category).sum ≤ 8) (kk : ∀ r, f r = some out → EE K a (pc + 3) L (.long r :: S) h) : EE K a pc L S0 h := E_callV O As (fun r => (some (.long r), h)) w hci hM d hf hst hr hc hsum kk
theorem E_callS_lP {ρ : Type} (O : Ok K own cc nL R) {index : Nat} {y : MethodName} {bytes : ByteArray} {maxL : Nat} {ret : Option FieldType} {rf rl : Nat} (As : List Value) {S0 : List Value} {o : Option (Int64)} {f : Int64 → Option ρ} {out : ρ} (w : CS own index y bytes maxL ret As.length)
    (hM : ∀ r, o = some r → MM K.1 y bytes maxL ret rf rl 0 0 a.1 a.1 As h (some (.long r)) h) (d : decode cc pc = .ok (.invokestatic index, 3)) (hf : o.bind f = some out) (hst : S0 = As.reverse ++ S)
    (hr : rf + 1 ≤ R.frames ∧ 8 + (maxL + 11) + rl ≤ R.locals) (hc : a.2.1 ≤ R.cells ∧ a.2.2 ≤ R.slots) (hsum : (S.map fun v => v.category).sum ≤ 8) (kk : ∀ r, f r = some out → EE K a (pc + 3) L (.long r :: S) h) : EE K a pc L S0 h := E_callS O As (fun r => (some (.long r), h)) w hM d hf hst hr hc hsum kk
theorem E_callV_d {ρ : Type} (O : Ok K own cc nL R) {index ci b : Nat} {y : MethodName} {bytes : ByteArray} {maxL : Nat} {ret : Option FieldType} {rf rl : Nat} (As : List Value) {S0 : List Value} {o : Option (UInt64 × MH)} {f : UInt64 × MH → Option ρ} {out : ρ} (w : CV own index y bytes maxL ret As.length) (hci : (vwCl[ci]?).map (fun r => r.1) = some y.cls)
    (hM : ∀ r, o = some r → MM K.1 y bytes maxL ret rf rl 0 0 a.1 a.1 (.ref b :: As) h (some (.double r.1)) r.2) (d : decode cc pc = .ok (.invokevirtual index, 3)) (hf : (vcall h ci b o).bind f = some out) (hst : S0 = As.reverse ++ .ref b :: S)
    (hr : rf + 1 ≤ R.frames ∧ 8 + (maxL + 11) + rl ≤ R.locals) (hc : a.2.1 ≤ R.cells ∧ a.2.2 ≤ R.slots) (hsum : (S.map fun v => v.category).sum ≤ 8) (kk : ∀ r, f r = some out → EE K a (pc + 3) L (.double r.1 :: S) r.2) : EE K a pc L S0 h := E_callV O As (fun r => (some (.double r.1), r.2)) w hci hM d hf hst hr hc hsum kk
theorem E_callS_d {ρ : Type} (O : Ok K own cc nL R) {index : Nat} {y : MethodName} {bytes : ByteArray} {maxL : Nat} {ret : Option FieldType} {rf rl : Nat} (As : List Value) {S0 : List Value} {o : Option (UInt64 × MH)} {f : UInt64 × MH → Option ρ} {out : ρ} (w : CS own index y bytes maxL ret As.length)
    (hM : ∀ r, o = some r → MM K.1 y bytes maxL ret rf rl 0 0 a.1 a.1 As h (some (.double r.1)) r.2) (d : decode cc pc = .ok (.invokestatic index, 3)) (hf : o.bind f = some out) (hst : S0 = As.reverse ++ S)
    (hr : rf + 1 ≤ R.frames ∧ 8 + (maxL + 11) + rl ≤ R.locals) (hc : a.2.1 ≤ R.cells ∧ a.2.2 ≤ R.slots) (hsum : (S.map fun v => v.category).sum ≤ 8) (kk : ∀ r, f r = some out → EE K a (pc + 3) L (.double r.1 :: S) r.2) : EE K a pc L S0 h := E_callS O As (fun r => (some (.double r.1), r.2)) w hM d hf hst hr hc hsum kk
theorem E_callV_dP {ρ : Type} (O : Ok K own cc nL R) {index ci b : Nat} {y : MethodName} {bytes : ByteArray} {maxL : Nat} {ret : Option FieldType} {rf rl : Nat} (As : List Value) {S0 : List Value} {o : Option (UInt64)} {f : UInt64 → Option ρ} {out : ρ} (w : CV own index y bytes maxL ret As.length) (hci : (vwCl[ci]?).map (fun r => r.1) = some y.cls)
    (hM : ∀ r, o = some r → MM K.1 y bytes maxL ret rf rl 0 0 a.1 a.1 (.ref b :: As) h (some (.double r)) h) (d : decode cc pc = .ok (.invokevirtual index, 3)) (hf : (vcall h ci b o).bind f = some out) (hst : S0 = As.reverse ++ .ref b :: S)
    (hr : rf + 1 ≤ R.frames ∧ 8 + (maxL + 11) + rl ≤ R.locals) (hc : a.2.1 ≤ R.cells ∧ a.2.2 ≤ R.slots) (hsum : (S.map fun v => v.category).sum ≤ 8) (kk : ∀ r, f r = some out → EE K a (pc + 3) L (.double r :: S) h) : EE K a pc L S0 h := E_callV O As (fun r => (some (.double r), h)) w hci hM d hf hst hr hc hsum kk
theorem E_callS_dP {ρ : Type} (O : Ok K own cc nL R) {index : Nat} {y : MethodName} {bytes : ByteArray} {maxL : Nat} {ret : Option FieldType} {rf rl : Nat} (As : List Value) {S0 : List Value} {o : Option (UInt64)} {f : UInt64 → Option ρ} {out : ρ} (w : CS own index y bytes maxL ret As.length)
    (hM : ∀ r, o = some r → MM K.1 y bytes maxL ret rf rl 0 0 a.1 a.1 As h (some (.double r)) h) (d : decode cc pc = .ok (.invokestatic index, 3)) (hf : o.bind f = some out) (hst : S0 = As.reverse ++ S)
    (hr : rf + 1 ≤ R.frames ∧ 8 + (maxL + 11) + rl ≤ R.locals) (hc : a.2.1 ≤ R.cells ∧ a.2.2 ≤ R.slots) (hsum : (S.map fun v => v.category).sum ≤ 8) (kk : ∀ r, f r = some out → EE K a (pc + 3) L (.double r :: S) h) : EE K a pc L S0 h := E_callS O As (fun r => (some (.double r), h)) w hM d hf hst hr hc hsum kk
theorem E_callV_v {ρ : Type} (O : Ok K own cc nL R) {index ci b : Nat} {y : MethodName} {bytes : ByteArray} {maxL : Nat} {ret : Option FieldType} {rf rl : Nat} (As : List Value) {S0 : List Value} {o : Option MH} {f : MH → Option ρ} {out : ρ} (w : CV own index y bytes maxL ret As.length) (hci : (vwCl[ci]?).map (fun r => r.1) = some y.cls)
    (hM : ∀ r, o = some r → MM K.1 y bytes maxL ret rf rl 0 0 a.1 a.1 (.ref b :: As) h none r) (d : decode cc pc = .ok (.invokevirtual index, 3)) (hf : (vcall h ci b o).bind f = some out) (hst : S0 = As.reverse ++ .ref b :: S)
    (hr : rf + 1 ≤ R.frames ∧ 8 + (maxL + 11) + rl ≤ R.locals) (hc : a.2.1 ≤ R.cells ∧ a.2.2 ≤ R.slots) (hsum : (S.map fun v => v.category).sum ≤ 8) (kk : ∀ r, f r = some out → EE K a (pc + 3) L S r) : EE K a pc L S0 h := E_callV O As (fun r => (none, r)) w hci hM d hf hst hr hc hsum kk
end
section
/-! what is made; static fields; the library's own -/
variable {K : Cx} {own : String} {cc : ByteArray} {nL : Nat} {R : Room} {a : Bool × Nat × Nat} {pc : Nat} {L : List (Option Value)} {S : List Value} {h : MH}
def nO (h : MH) (ci : Nat) (fs : List Value) : Option MH := if h.length < 1000 then some (h ++ [.inr (ci, fs)]) else none
def nA (h : MH) (t : Nat) (x : vp_A) : Option MH := if h.length < 1000 then some (h ++ [.inl (t, x)]) else none
theorem Rel.push {g : Gx} (h8 : ∀ i, i < 1000 → gad g i = gb g + i) {h : MH} {H H1 : Heap} {c : MC} (hR : Rel g true h H) (hl : h.length < 1000) (hc : va_at (gD g) vwCl (gad g h.length, mcl (gad g) (gcA g) c) H1) (z : H1.size = H.size + 1) (oq : ∀ q : Nat, q < H.size → H1[q]? = H[q]?) : Rel g true (h ++ [c]) H1 := by
  have hz := hR.2.2.1 rfl
  refine ⟨?_, by rw [z, hz, List.length_append]; simp; omega, fun _ => by rw [z, hz, List.length_append]; simp; omega, by rw [List.length_append]; simp; omega⟩
  rw [← mw_push]
  refine (hR.1.kept (fun k q hq => oq _ (hR.1 k q hq).lt)).app (fun k q hq => ?_)
  cases k with
  | zero =>
    simp only [List.getElem?_cons_zero, Option.some.injEq] at hq
    subst hq
    exact hc
  | succ k => simp at hq
theorem va_S.push {A : Nat → Prop} {H0 H H1 : Heap} {locs : List Loc} (hS : va_S A H0 H locs) (z : H1.size = H.size + 1) (oq : ∀ q : Nat, q < H.size → H1[q]? = H[q]?) : va_S A H0 H1 locs := ⟨Nat.le_trans hS.1 (by omega), fun x h1 h2 => (oq x (Nat.lt_of_lt_of_le h1 hS.1)).trans (hS.2.1 x h1 h2), hS.2.2⟩
def NW (own : String) (index ci : Nat) (fs : List Value) : Prop := ∃ (r : vw_C) (ty : Nat → FieldType), vwCl[ci]? = some r ∧ (∀ w ∈ u_ws r.1 r.2.1 r.2.2, w ∈ AW) ∧ (∀ k, k < r.2.2 → parseFieldDescriptor (r.2.1 k).2.2.1 = some (ty k)) ∧ Cond.classLink own index r.1 ∈ AW ∧ Cond.instantiable r.1 r.2.2 ∈ AW ∧ Cond.initialized r.1 ∈ AW ∧ (∀ j, j < r.2.2 → defaultValue (ty j) = vp_V fs j) ∧ (∀ ad : Nat → Nat, fs.map (mv ad) = fs) ∧ r.2.2 = fs.length
theorem E_new (O : Ok K own cc nL R) {index ci : Nat} {fs : List Value} {cs ss : Nat} {ρ : Type} {f : MH → Option ρ} {out : ρ} (F : NW own index ci fs) (d : decode cc pc = .ok (.new index, 3)) (hf : (nO h ci fs).bind f = some out) (hc : cs + 1 ≤ R.cells ∧ ss + fs.length ≤ R.slots) (kk : ∀ h', f h' = some out → EE K (true, cs + 1, ss + fs.length) (pc + 3) L (.ref h.length :: S) h') : EE K (true, cs, ss) pc L S h := by
  intro H ls locs hR hS hL
  obtain ⟨h', e1, e2⟩ := ob hf
  unfold nO at e1
  split at e1
  case isFalse => cases e1
  rename_i hl
  cases e1
  obtain ⟨⟨C, T, N⟩, ty, f1, f2, f3, f4, f5, f6, f7, f8, f9⟩ := F
  dsimp only at f2 f3 f4 f5 f6 f7 f9
  have hc : cs + 1 ≤ (kR K).cells ∧ ss + fs.length ≤ (kR K).slots := by rw [O.2.2.2.2.2.2.1]; exact hc
  have hKn := O.k.1 ci _ f1
  subst f9
  refine W.newcK O.x O.b O.ow (O.ws _ f4) (O.ws _ f5) (O.ws _ f6) rfl d hc.1 hc.2 hKn.2.1 rfl fun H1 kC hkC e1 z1 o1 => ?_
  have h8 := O.bg.2.2.2.2.2.2.2.1
  have hz := hR.2.2.1 rfl
  have hsz : H.size = gad K.1 h.length := by rw [hz, h8 _ hl]
  have hat : va_at (gD K.1) vwCl (gad K.1 h.length, mcl (gad K.1) (gcA K.1) (.inr (ci, fs))) H1 := by
    rw [hsz] at e1
    refine ⟨_, f1, ?_⟩
    show t_OB _ _ _ _ _ (vp_V (fs.map (mv (gad K.1))))
    rw [f8]
    exact (u_born ty O.ws f2 hKn hkC e1 f3).to f7
  have hg := kk _ e2 H1 ls locs (hR.push h8 hl hat z1 o1) (va_S.push hS z1 o1) hL
  rw [show (F0 (km K) pc ls (S.map (mv (gad K.1)))).stack = S.map (mv (gad K.1)) from rfl, hsz]
  exact hg
theorem gcA_int (O : Ok K own cc nL R) {i : Nat} {cA : ClassId} {ty : FieldType} (hi : (gtys (gcA K.1))[i]? = some (gcA K.1 i, ty)) (hn : (ks K).vm.findClass ("[" ++ ty.toString) = some cA) : cA = gcA K.1 i := by
  have h2 := (O.k.2 i _ hi).2
  cases ty with
  | object C =>
    obtain ⟨kA, comp, h1, h2, h3, h4⟩ := h2
    exact Option.some.inj (hn.symm.trans h4)
  | _ => exact Option.some.inj (hn.symm.trans h2)
theorem E_newaI (O : Ok K own cc nL R) {n : Int32} {N cs ss : Nat} {ρ : Type} {f : MH → Option ρ} {out : ρ} (harr : Cond.arrayClass .int ∈ AW) (d : decode cc pc = .ok (.newarray .int, 2)) (hn : ¬ n < 0) (hN : n.toNatClampNeg = N) (hb : N ≤ 60000) (hf : (nA h 0 (N, .inl (fun _ => 0))).bind f = some out) (hc : cs + 1 ≤ R.cells ∧ ss + N ≤ R.slots) (kk : ∀ h', f h' = some out → EE K (true, cs + 1, ss + N) (pc + 2) L (.ref h.length :: S) h') : EE K (true, cs, ss) pc L (.int n :: S) h := by
  intro H ls locs hR hS hL
  obtain ⟨h', e1, e2⟩ := ob hf
  unfold nA at e1
  split at e1
  case isFalse => cases e1
  rename_i hl
  cases e1
  have hc : cs + 1 ≤ (kR K).cells ∧ ss + N ≤ (kR K).slots := by rw [O.2.2.2.2.2.2.1]; exact hc
  have h8 := O.bg.2.2.2.2.2.2.2.1
  have hz := hR.2.2.1 rfl
  have hsz : H.size = gad K.1 h.length := by rw [hz, h8 _ hl]
  refine va_newaK (atype := .int) O.x O.b (O.ws _ harr) rfl d rfl hn hN (by show N * _ ≤ _; simp only [newarray.typeOf, componentBytes]; omega) hc.1 hc.2 rfl fun H1 cA e1 z1 o1 hAr hNm => ?_
  have hcA : cA = gcA K.1 0 := gcA_int (ty := .int) O rfl hNm
  subst hcA
  have hat : va_at (gD K.1) vwCl (gad K.1 h.length, mcl (gad K.1) (gcA K.1) (.inl (0, (N, .inl (fun _ => 0))))) H1 := by
    rw [hsz] at e1
    exact e1
  have hg := kk _ e2 H1 ls locs (hR.push h8 hl hat z1 o1) (va_S.push hS z1 o1) hL
  rw [hsz]
  exact hg
theorem E_newaL (O : Ok K own cc nL R) {n : Int32} {N cs ss : Nat} {ρ : Type} {f : MH → Option ρ} {out : ρ} (harr : Cond.arrayClass .long ∈ AW) (d : decode cc pc = .ok (.newarray .long, 2)) (hn : ¬ n < 0) (hN : n.toNatClampNeg = N) (hb : N ≤ 60000) (hf : (nA h 1 (N, .inr (.inl (fun _ => 0)))).bind f = some out) (hc : cs + 1 ≤ R.cells ∧ ss + N ≤ R.slots) (kk : ∀ h', f h' = some out → EE K (true, cs + 1, ss + N) (pc + 2) L (.ref h.length :: S) h') : EE K (true, cs, ss) pc L (.int n :: S) h := by
  intro H ls locs hR hS hL
  obtain ⟨h', e1, e2⟩ := ob hf
  unfold nA at e1
  split at e1
  case isFalse => cases e1
  rename_i hl
  cases e1
  have hc : cs + 1 ≤ (kR K).cells ∧ ss + N ≤ (kR K).slots := by rw [O.2.2.2.2.2.2.1]; exact hc
  have h8 := O.bg.2.2.2.2.2.2.2.1
  have hz := hR.2.2.1 rfl
  have hsz : H.size = gad K.1 h.length := by rw [hz, h8 _ hl]
  refine va_newaK (atype := .long) O.x O.b (O.ws _ harr) rfl d rfl hn hN (by show N * _ ≤ _; simp only [newarray.typeOf, componentBytes]; omega) hc.1 hc.2 rfl fun H1 cA e1 z1 o1 hAr hNm => ?_
  have hcA : cA = gcA K.1 1 := gcA_int (ty := .long) O rfl hNm
  subst hcA
  have hat : va_at (gD K.1) vwCl (gad K.1 h.length, mcl (gad K.1) (gcA K.1) (.inl (1, (N, .inr (.inl (fun _ => 0)))))) H1 := by
    rw [hsz] at e1
    exact e1
  have hg := kk _ e2 H1 ls locs (hR.push h8 hl hat z1 o1) (va_S.push hS z1 o1) hL
  rw [hsz]
  exact hg
theorem E_newaR (O : Ok K own cc nL R) {index : Nat} {n : Int32} {N cs ss : Nat} {ρ : Type} {f : MH → Option ρ} {out : ρ} (hcl : Cond.classLink own index "RailSequence$Plant" ∈ AW) (d : decode cc pc = .ok (.anewarray index, 3)) (hn : ¬ n < 0) (hN : n.toNatClampNeg = N) (hb : N ≤ 60000) (hf : (nA h 2 (N, .inr (.inr (.inr (.inr (fun _ => none)))))).bind f = some out) (hc : cs + 1 ≤ R.cells ∧ ss + N ≤ R.slots) (kk : ∀ h', f h' = some out → EE K (true, cs + 1, ss + N) (pc + 3) L (.ref h.length :: S) h') : EE K (true, cs, ss) pc L (.int n :: S) h := by
  intro H ls locs hR hS hL
  obtain ⟨h', e1, e2⟩ := ob hf
  unfold nA at e1
  split at e1
  case isFalse => cases e1
  rename_i hl
  cases e1
  have hc : cs + 1 ≤ (kR K).cells ∧ ss + N ≤ (kR K).slots := by rw [O.2.2.2.2.2.2.1]; exact hc
  have h8 := O.bg.2.2.2.2.2.2.2.1
  have hz := hR.2.2.1 rfl
  have hsz : H.size = gad K.1 h.length := by rw [hz, h8 _ hl]
  subst hN
  refine W.anew O.x O.b O.ow (O.ws _ hcl) (va_AO.use O.bg.2.2.2.2.2.2.2.2.2.2.2.2) rfl d rfl hn (by omega) hc.1 hc.2 fun cA kA comp f1 f2 f3 f4 => ?_
  have hcA : cA = gcA K.1 2 := gcA_int (ty := .object "RailSequence$Plant") O rfl f1
  subst hcA
  generalize hH1 : H.push ({ cls := gcA K.1 2, slots := Array.replicate n.toNatClampNeg .null, vm := .none } : Cell) = H1
  have z1 : H1.size = H.size + 1 := by rw [← hH1, Array.size_push]
  have e1 : H1[H.size]? = some (arrV (gcA K.1 2) n.toNatClampNeg (fun _ => .null)) := by rw [← hH1, Array.getElem?_push_size, ← arrV_new]
  have o1 : ∀ q : Nat, q < H.size → H1[q]? = H[q]? := fun q hq => by rw [← hH1, Array.getElem?_push, if_neg (Nat.ne_of_lt hq)]
  have hat : va_at (gD K.1) vwCl (gad K.1 h.length, mcl (gad K.1) (gcA K.1) (.inl (2, (n.toNatClampNeg, .inr (.inr (.inr (.inr (fun _ => none)))))))) H1 := by
    rw [hsz] at e1
    exact e1
  have hg := kk _ e2 H1 ls locs (hR.push h8 hl hat z1 o1) (va_S.push hS z1 o1) hL
  rw [hsz]
  exact hg
theorem E_objInit (O : Ok K own cc nL R) {idx b : Nat} (hlink : Cond.methodLink own idx Lib.objectInit ∈ AW) (hinst : Cond.instanceMethod Lib.objectInit ∈ AW) (hcode : Cond.code Lib.objectInit ⟨#[0xb1]⟩ 1 none ∈ AW) (hfr : 1 ≤ R.frames) (hlo : (S.map fun v => v.category).sum + 12 ≤ R.locals) (d : decode cc pc = .ok (.invokespecial idx, 3)) (kk : EE K a (pc + 3) L S h) : EE K a pc L (.ref b :: S) h := by
  intro H ls locs hR hS hL
  have hRR : kR K = R := O.2.2.2.2.2.2.1
  have hcat : ((S.map (mv (gad K.1))).map fun v => v.category).sum = (S.map fun v => v.category).sum := by
    rw [List.map_map]
    congr 1
    exact List.map_congr_left (fun v _ => mv_cat v)
  rw [← hRR] at hfr hlo
  exact W.objInit O.x O.b O.ow (O.ws _ hlink) (O.ws _ hinst) (O.ws _ hcode) rfl (hL.1) rfl d hfr (by show 2 * 0 + _ + 12 ≤ (kR K).locals; rw [hcat]; omega) (kk H ls locs hR hS hL)
/-- a constructor's call -/
theorem E_callI {ρ : Type} (O : Ok K own cc nL R) {index b : Nat} {y : MethodName} {bytes : ByteArray} {maxL : Nat} {rf rl mc ms : Nat} {fr' : Bool} {o : Option MH} {f : MH → Option ρ} {out : ρ} (w : CB own index y bytes maxL none 0) (hy1 : y.name = "<init>") (hin : Cond.instanceMethod y ∈ AW)
    (hM : ∀ r, o = some r → MM K.1 y bytes maxL none rf rl mc ms a.1 fr' [.ref b] h none r) (d : decode cc pc = .ok (.invokespecial index, 3)) (hf : o.bind f = some out)
    (hr : rf + 1 ≤ R.frames ∧ 8 + (maxL + 11) + rl ≤ R.locals) (hc : a.2.1 + mc ≤ R.cells ∧ a.2.2 + ms ≤ R.slots) (hsum : (S.map fun v => v.category).sum ≤ 8) (kk : ∀ r, f r = some out → EE K (fr', a.2.1 + mc, a.2.2 + ms) (pc + 3) L S r) : EE K a pc L (.ref b :: S) h := by
  intro H ls locs hR hS hL
  obtain ⟨r, e3, e2⟩ := ob hf
  have hc : a.2.1 + mc ≤ (kR K).cells ∧ a.2.2 + ms ≤ (kR K).slots := by rw [O.2.2.2.2.2.2.1]; exact hc
  have hrun := va_runI (e := K.2.1.2.1) (below := K.2.2.1.2.2.1) (meth := kmeth K) (As := []) (rest := S.map (mv (gad K.1))) (locs := locs) (cells := a.2.1) (slots := a.2.2) ⟨O.x, O.b, O.2.2.1, O.ow, O.ws⟩ (hM r e3) ⟨CB.use O w hr, hy1, O.ws _ hin⟩ ⟨Pm_blind, Pm_at O hR hS⟩ (g := F0 (km K) pc ls ((.ref b :: S).map (mv (gad K.1)))) rfl rfl (by show ls.size = _; rw [hL.1, O.2.2.1]) rfl (S_room hsum) d hc
  exact E_back hS hL hrun (kk r e2)
/-- a nest mate's constructor -/
def CN (own : String) (index : Nat) (y : MethodName) (host : String) (bytes : ByteArray) (maxL : Nat) : Prop :=
  Cond.methodLinkNest own index y host ∈ XW ∧ Cond.code y bytes maxL none ∈ AW ∧ Cond.initialized y.cls ∈ AW ∧ Cond.instanceMethod y ∈ AW ∧ y.name = "<init>" ∧ (y.cls ≠ "java/lang/invoke/MethodHandle" ∧ y.cls ≠ "java/lang/invoke/VarHandle" ∧ (parseMethodDescriptor y.desc).map (fun d => d.parameters.length) = some 0)
theorem E_callIN {ρ : Type} (O : Ok K own cc nL R) {index b : Nat} {y : MethodName} {host : String} {bytes : ByteArray} {maxL : Nat} {rf rl mc ms : Nat} {fr' : Bool} {o : Option MH} {f : MH → Option ρ} {out : ρ} (w : CN own index y host bytes maxL)
    (hM : ∀ r, o = some r → MM K.1 y bytes maxL none rf rl mc ms a.1 fr' [.ref b] h none r) (d : decode cc pc = .ok (.invokespecial index, 3)) (hf : o.bind f = some out)
    (hr : rf + 1 ≤ R.frames ∧ 8 + (maxL + 11) + rl ≤ R.locals) (hc : a.2.1 + mc ≤ R.cells ∧ a.2.2 + ms ≤ R.slots) (hsum : (S.map fun v => v.category).sum ≤ 8) (kk : ∀ r, f r = some out → EE K (fr', a.2.1 + mc, a.2.2 + ms) (pc + 3) L S r) : EE K a pc L (.ref b :: S) h := by
  intro H ls locs hR hS hL
  obtain ⟨r, e3, e2⟩ := ob hf
  have hc : a.2.1 + mc ≤ (kR K).cells ∧ a.2.2 + ms ≤ (kR K).slots := by rw [O.2.2.2.2.2.2.1]; exact hc
  have hnest := O.bg.2.2.2.2.2.2.2.2.2.2.1 _ w.1
  have hr' : (rmm rf rl mc ms).frames + 1 ≤ (kR K).frames ∧ 8 + (maxL + 11) + (rmm rf rl mc ms).locals ≤ (kR K).locals := by rw [O.2.2.2.2.2.2.1]; exact hr
  have hrun := va_runIN (e := K.2.1.2.1) (below := K.2.2.1.2.2.1) (meth := kmeth K) (As := []) (rest := S.map (mv (gad K.1))) (locs := locs) (cells := a.2.1) (slots := a.2.2) ⟨O.x, O.b, O.2.2.1, O.ow, O.ws⟩ (hM r e3) ⟨va_cnB 0 O.ws (AW_self w.2.1) rfl rfl rfl hnest (O.ws _ w.2.2.1) w.2.2.2.2.2 hr', w.2.2.2.2.1, O.ws _ w.2.2.2.1⟩ ⟨Pm_blind, Pm_at O hR hS⟩ (g := F0 (km K) pc ls ((.ref b :: S).map (mv (gad K.1)))) rfl rfl (by show ls.size = _; rw [hL.1, O.2.2.1]) rfl (S_room hsum) d hc
  exact E_back hS hL hrun (kk r e2)
theorem E_getsLEAST (O : Ok K own cc nL R) {index : Nat} (hw : Cond.fieldLink own index "RailSequence" "LEAST" "[I" ∈ AW) (d : decode cc pc = .ok (.getstatic index, 3)) (kk : EE K a (pc + 3) L (.ref (RO + 1) :: S) h) : EE K a pc L S h := by
  intro H ls locs hR hS hL
  exact va_gets O.x O.b O.bg.2.2.2.1 hS O.ow (O.ws _ hw) (fun _ z => z) d (kk H ls locs hR hS hL)
theorem E_getsLEASTN (O : Ok K own cc nL R) {index : Nat} (hw : Cond.fieldLinkNest own index "RailSequence" "LEAST" "[I" "RailSequence" ∈ XW) (d : decode cc pc = .ok (.getstatic index, 3)) (kk : EE K a (pc + 3) L (.ref (RO + 1) :: S) h) : EE K a pc L S h := by
  intro H ls locs hR hS hL
  have hn := va_Nw.use (A := kargs K) rfl (O.bg.2.2.2.2.2.2.2.2.2.2.1 _ hw)
  exact va_getsN O.x O.b O.bg.2.2.2.1 hS O.ow hn (fun _ z => z) d (kk H ls locs hR hS hL)
theorem E_getsMOST (O : Ok K own cc nL R) {index : Nat} (hw : Cond.fieldLink own index "RailSequence" "MOST" "[I" ∈ AW) (d : decode cc pc = .ok (.getstatic index, 3)) (kk : EE K a (pc + 3) L (.ref (RO + 2) :: S) h) : EE K a pc L S h := by
  intro H ls locs hR hS hL
  exact va_gets O.x O.b O.bg.2.2.2.2.1 hS O.ow (O.ws _ hw) (fun _ z => z) d (kk H ls locs hR hS hL)
theorem E_getsMOSTN (O : Ok K own cc nL R) {index : Nat} (hw : Cond.fieldLinkNest own index "RailSequence" "MOST" "[I" "RailSequence" ∈ XW) (d : decode cc pc = .ok (.getstatic index, 3)) (kk : EE K a (pc + 3) L (.ref (RO + 2) :: S) h) : EE K a pc L S h := by
  intro H ls locs hR hS hL
  have hn := va_Nw.use (A := kargs K) rfl (O.bg.2.2.2.2.2.2.2.2.2.2.1 _ hw)
  exact va_getsN O.x O.b O.bg.2.2.2.2.1 hS O.ow hn (fun _ z => z) d (kk H ls locs hR hS hL)
def mmax (x y : Int32) : Int32 := if x < y then y else x
theorem E_max (O : Ok K own cc nL R) {index : Nat} {x y : Int32} (hlink : Cond.methodLink own index Lib.Math.max.name ∈ AW) (hstat : Cond.static Lib.Math.max.name ∈ AW) (hini : Cond.initialized "java/lang/Math" ∈ AW) (hcode : Cond.code Lib.Math.max.name Lib.Math.max.code 2 (some .int) ∈ AW) (hfr : 1 ≤ R.frames) (hlo : (S.map fun v => v.category).sum + 13 ≤ R.locals) (hc : a.2.1 ≤ R.cells ∧ a.2.2 ≤ R.slots) (d : decode cc pc = .ok (.invokestatic index, 3)) (kk : EE K a (pc + 3) L (.int (mmax x y) :: S) h) : EE K a pc L (.int y :: .int x :: S) h := by
  intro H ls locs hR hS hL
  have hRR : kR K = R := O.2.2.2.2.2.2.1
  have hcat : ((S.map (mv (gad K.1))).map fun v => v.category).sum = (S.map fun v => v.category).sum := by
    rw [List.map_map]
    congr 1
    exact List.map_congr_left (fun v _ => mv_cat v)
  rw [← hRR] at hfr hlo hc
  exact va_mmax O.x O.b hL.1.symm O.ow (O.ws _ hlink) (O.ws _ hstat) (O.ws _ hini) (O.ws _ hcode) hfr (by rw [hcat]; exact hlo) hc.1 hc.2 d (kk H ls locs hR hS hL)
def mmin (x y : Int32) : Int32 := if y < x then y else x
theorem E_min (O : Ok K own cc nL R) {index : Nat} {x y : Int32} (hlink : Cond.methodLink own index Lib.Math.min.name ∈ AW) (hstat : Cond.static Lib.Math.min.name ∈ AW) (hini : Cond.initialized "java/lang/Math" ∈ AW) (hcode : Cond.code Lib.Math.min.name Lib.Math.min.code 2 (some .int) ∈ AW) (hfr : 1 ≤ R.frames) (hlo : (S.map fun v => v.category).sum + 13 ≤ R.locals) (hc : a.2.1 ≤ R.cells ∧ a.2.2 ≤ R.slots) (d : decode cc pc = .ok (.invokestatic index, 3)) (kk : EE K a (pc + 3) L (.int (mmin x y) :: S) h) : EE K a pc L (.int y :: .int x :: S) h := by
  intro H ls locs hR hS hL
  have hRR : kR K = R := O.2.2.2.2.2.2.1
  have hcat : ((S.map (mv (gad K.1))).map fun v => v.category).sum = (S.map fun v => v.category).sum := by
    rw [List.map_map]
    congr 1
    exact List.map_congr_left (fun v _ => mv_cat v)
  rw [← hRR] at hfr hlo hc
  exact va_mmin O.x O.b hL.1.symm O.ow (O.ws _ hlink) (O.ws _ hstat) (O.ws _ hini) (O.ws _ hcode) hfr (by rw [hcat]; exact hlo) hc.1 hc.2 d (kk H ls locs hR hS hL)
theorem E_d2rl (O : Ok K own cc nL R) {index : Nat} {x : UInt64} (hlink : Cond.methodLink own index ⟨"java/lang/Double", "doubleToRawLongBits", "(D)J"⟩ ∈ AW) (hnat : Cond.native ⟨"java/lang/Double", "doubleToRawLongBits", "(D)J"⟩ ∈ AW) (hstat : Cond.static ⟨"java/lang/Double", "doubleToRawLongBits", "(D)J"⟩ ∈ AW) (hini : Cond.initialized "java/lang/Double" ∈ AW) (hfr : 1 ≤ R.frames) (hlo : (S.map fun v => v.category).sum + 15 ≤ R.locals) (d : decode cc pc = .ok (.invokestatic index, 3)) (kk : EE K a (pc + 3) L (.long x.toInt64 :: S) h) : EE K a pc L (.double x :: S) h := by
  intro H ls locs hR hS hL
  have hRR : kR K = R := O.2.2.2.2.2.2.1
  have hcat : ((S.map (mv (gad K.1))).map fun v => v.category).sum = (S.map fun v => v.category).sum := by
    rw [List.map_map]
    congr 1
    exact List.map_congr_left (fun v _ => mv_cat v)
  rw [← hRR] at hfr hlo
  exact vn_d2l O.x O.b hL.1.symm O.ow (O.ws _ hlink) (O.ws _ hnat) (O.ws _ hstat) (O.ws _ hini) hfr (by rw [hcat]; exact hlo) d (kk H ls locs hR hS hL)
end
