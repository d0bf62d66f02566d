/-! class tables and method names: cut out of the printed names (claim/NAMES.whole.lean.txt) by wip/p43/gennames.py -/
abbrev RX0 : String := "PlumbOpinions$1"
def TX0 : u_T := fun k => match k with
  | _ => ("", "", "", false)
def tyX0 : Nat → FieldType := fun k => match k with
  | _ => .int
theorem nmX0 : ∀ a, a < 0 → ∀ b, b < 0 → a ≠ b → (TX0 a).2.1 ≠ (TX0 b).2.1 := by decide +kernel
theorem tyX0_ok : ∀ k, k < 0 → parseFieldDescriptor (TX0 k).2.2.1 = some (tyX0 k) := by decide +kernel
abbrev RX1 : String := "PlumbOpinions$Beams"
def TX1 : u_T := fun k => match k with
  | 0 => ("PlumbOpinions$Beams", "lows", "[I", true)
  | 1 => ("PlumbOpinions$Beams", "highs", "[I", true)
  | 2 => ("PlumbOpinions$Beams", "limits", "[I", true)
  | 3 => ("PlumbOpinions$Beams", "creaks", "[I", true)
  | _ => ("PlumbOpinions$Beams", "count", "I", false)
def tyX1 : Nat → FieldType := fun k => match k with
  | 0 => .array .int
  | 1 => .array .int
  | 2 => .array .int
  | 3 => .array .int
  | _ => .int
theorem nmX1 : ∀ a, a < 5 → ∀ b, b < 5 → a ≠ b → (TX1 a).2.1 ≠ (TX1 b).2.1 := by decide +kernel
theorem tyX1_ok : ∀ k, k < 5 → parseFieldDescriptor (TX1 k).2.2.1 = some (tyX1 k) := by decide +kernel
abbrev cX1_init : ByteArray := prog_3_method_1_code
abbrev yX1_init : MethodName := ⟨RX1, "<init>", "()V"⟩
abbrev cX1_isLimit : ByteArray := prog_3_method_2_code
abbrev yX1_isLimit : MethodName := ⟨RX1, "isLimit", "(I)Z"⟩
abbrev cX1_copyFrom : ByteArray := prog_3_method_3_code
abbrev yX1_copyFrom : MethodName := ⟨RX1, "copyFrom", "(LPlumbOpinions$Beams;)V"⟩
abbrev cX1_holds : ByteArray := prog_3_method_4_code
abbrev yX1_holds : MethodName := ⟨RX1, "holds", "(I)Z"⟩
abbrev cX1_isFull : ByteArray := prog_3_method_5_code
abbrev yX1_isFull : MethodName := ⟨RX1, "isFull", "()Z"⟩
abbrev cX1_between : ByteArray := prog_3_method_6_code
abbrev yX1_between : MethodName := ⟨RX1, "between", "(II)I"⟩
abbrev cX1_put : ByteArray := prog_3_method_7_code
abbrev yX1_put : MethodName := ⟨RX1, "put", "(III)I"⟩
abbrev cX1_takeAway : ByteArray := prog_3_method_8_code
abbrev yX1_takeAway : MethodName := ⟨RX1, "takeAway", "(I)V"⟩
abbrev cX1_differenceAt : ByteArray := prog_3_method_9_code
abbrev yX1_differenceAt : MethodName := ⟨RX1, "differenceAt", "(ILPlumbOpinions$People;)I"⟩
abbrev cX1_isOverstrained : ByteArray := prog_3_method_10_code
abbrev yX1_isOverstrained : MethodName := ⟨RX1, "isOverstrained", "(ILPlumbOpinions$People;)Z"⟩
abbrev cX1_creakAll : ByteArray := prog_3_method_11_code
abbrev yX1_creakAll : MethodName := ⟨RX1, "creakAll", "(LPlumbOpinions$People;)I"⟩
abbrev cX1_breakAll : ByteArray := prog_3_method_12_code
abbrev yX1_breakAll : MethodName := ⟨RX1, "breakAll", "()I"⟩
abbrev cX1_atPlace : ByteArray := prog_3_method_13_code
abbrev yX1_atPlace : MethodName := ⟨RX1, "atPlace", "(ILPlumbOpinions$People;)I"⟩
abbrev cX1_isWeaker : ByteArray := prog_3_method_14_code
abbrev yX1_isWeaker : MethodName := ⟨RX1, "isWeaker", "(IILPlumbOpinions$People;)Z"⟩
abbrev RX2 : String := "PlumbOpinions$Camps"
def TX2 : u_T := fun k => match k with
  | _ => ("PlumbOpinions$Camps", "signs", "[I", true)
def tyX2 : Nat → FieldType := fun k => match k with
  | _ => .array .int
theorem nmX2 : ∀ a, a < 1 → ∀ b, b < 1 → a ≠ b → (TX2 a).2.1 ≠ (TX2 b).2.1 := by decide +kernel
theorem tyX2_ok : ∀ k, k < 1 → parseFieldDescriptor (TX2 k).2.2.1 = some (tyX2 k) := by decide +kernel
abbrev cX2_init : ByteArray := prog_4_method_1_code
abbrev yX2_init : MethodName := ⟨RX2, "<init>", "()V"⟩
abbrev cX2_areAllied : ByteArray := prog_4_method_2_code
abbrev yX2_areAllied : MethodName := ⟨RX2, "areAllied", "(IILPlumbOpinions$People;)Z"⟩
abbrev cX2_campOf : ByteArray := prog_4_method_3_code
abbrev yX2_campOf : MethodName := ⟨RX2, "campOf", "(ILPlumbOpinions$People;)I"⟩
abbrev cX2_alliesOf : ByteArray := prog_4_method_4_code
abbrev yX2_alliesOf : MethodName := ⟨RX2, "alliesOf", "(ILPlumbOpinions$People;)I"⟩
abbrev cX2_countByLowest : ByteArray := prog_4_method_5_code
abbrev yX2_countByLowest : MethodName := ⟨RX2, "countByLowest", "(LPlumbOpinions$People;)I"⟩
abbrev RX3 : String := "PlumbOpinions$Change"
def TX3 : u_T := fun k => match k with
  | 0 => ("PlumbOpinions$Change", "kind", "LPlumbOpinions$Kind;", false)
  | 1 => ("PlumbOpinions$Change", "first", "I", false)
  | 2 => ("PlumbOpinions$Change", "second", "I", false)
  | 3 => ("PlumbOpinions$Change", "third", "I", false)
  | 4 => ("PlumbOpinions$Change", "answer", "I", false)
  | 5 => ("PlumbOpinions$Change", "reason", "I", false)
  | _ => ("PlumbOpinions$Change", "detail", "I", false)
def tyX3 : Nat → FieldType := fun k => match k with
  | 0 => .object "PlumbOpinions$Kind"
  | 1 => .int
  | 2 => .int
  | 3 => .int
  | 4 => .int
  | 5 => .int
  | _ => .int
theorem nmX3 : ∀ a, a < 7 → ∀ b, b < 7 → a ≠ b → (TX3 a).2.1 ≠ (TX3 b).2.1 := by decide +kernel
theorem tyX3_ok : ∀ k, k < 7 → parseFieldDescriptor (TX3 k).2.2.1 = some (tyX3 k) := by decide +kernel
abbrev cX3_init : ByteArray := prog_5_method_1_code
abbrev yX3_init : MethodName := ⟨RX3, "<init>", "()V"⟩
abbrev cX3_ask : ByteArray := prog_5_method_2_code
abbrev yX3_ask : MethodName := ⟨RX3, "ask", "(LPlumbOpinions$Kind;III)V"⟩
abbrev cX3_refuse : ByteArray := prog_5_method_3_code
abbrev yX3_refuse : MethodName := ⟨RX3, "refuse", "(II)V"⟩
abbrev cX3_isRefused : ByteArray := prog_5_method_4_code
abbrev yX3_isRefused : MethodName := ⟨RX3, "isRefused", "()Z"⟩
abbrev RX4 : String := "PlumbOpinions$History"
def TX4 : u_T := fun k => match k with
  | 0 => ("PlumbOpinions$History", "houses", "[LPlumbOpinions$House;", true)
  | 1 => ("PlumbOpinions$History", "next", "I", false)
  | _ => ("PlumbOpinions$History", "count", "I", false)
def tyX4 : Nat → FieldType := fun k => match k with
  | 0 => .array (.object "PlumbOpinions$House")
  | 1 => .int
  | _ => .int
theorem nmX4 : ∀ a, a < 3 → ∀ b, b < 3 → a ≠ b → (TX4 a).2.1 ≠ (TX4 b).2.1 := by decide +kernel
theorem tyX4_ok : ∀ k, k < 3 → parseFieldDescriptor (TX4 k).2.2.1 = some (tyX4 k) := by decide +kernel
abbrev cX4_init : ByteArray := prog_6_method_1_code
abbrev yX4_init : MethodName := ⟨RX4, "<init>", "()V"⟩
abbrev cX4_keep : ByteArray := prog_6_method_2_code
abbrev yX4_keep : MethodName := ⟨RX4, "keep", "(LPlumbOpinions$House;)V"⟩
abbrev cX4_giveBack : ByteArray := prog_6_method_3_code
abbrev yX4_giveBack : MethodName := ⟨RX4, "giveBack", "(LPlumbOpinions$House;)V"⟩
abbrev cX4_forget : ByteArray := prog_6_method_4_code
abbrev yX4_forget : MethodName := ⟨RX4, "forget", "()V"⟩
abbrev RX5 : String := "PlumbOpinions$House"
def TX5 : u_T := fun k => match k with
  | 0 => ("PlumbOpinions$House", "people", "LPlumbOpinions$People;", true)
  | 1 => ("PlumbOpinions$House", "beams", "LPlumbOpinions$Beams;", true)
  | 2 => ("PlumbOpinions$House", "rounds", "I", false)
  | 3 => ("PlumbOpinions$House", "creaked", "I", false)
  | _ => ("PlumbOpinions$House", "broken", "I", false)
def tyX5 : Nat → FieldType := fun k => match k with
  | 0 => .object "PlumbOpinions$People"
  | 1 => .object "PlumbOpinions$Beams"
  | 2 => .int
  | 3 => .int
  | _ => .int
theorem nmX5 : ∀ a, a < 5 → ∀ b, b < 5 → a ≠ b → (TX5 a).2.1 ≠ (TX5 b).2.1 := by decide +kernel
theorem tyX5_ok : ∀ k, k < 5 → parseFieldDescriptor (TX5 k).2.2.1 = some (tyX5 k) := by decide +kernel
abbrev cX5_init : ByteArray := prog_7_method_1_code
abbrev yX5_init : MethodName := ⟨RX5, "<init>", "()V"⟩
abbrev cX5_copyFrom : ByteArray := prog_7_method_2_code
abbrev yX5_copyFrom : MethodName := ⟨RX5, "copyFrom", "(LPlumbOpinions$House;)V"⟩
abbrev cX5_carryOut : ByteArray := prog_7_method_3_code
abbrev yX5_carryOut : MethodName := ⟨RX5, "carryOut", "(LPlumbOpinions$Change;)V"⟩
abbrev cX5_admit : ByteArray := prog_7_method_4_code
abbrev yX5_admit : MethodName := ⟨RX5, lw_nmA, "(LPlumbOpinions$Change;Z)V"⟩
abbrev cX5_befriend : ByteArray := prog_7_method_5_code
abbrev yX5_befriend : MethodName := ⟨RX5, "befriend", "(LPlumbOpinions$Change;)V"⟩
abbrev cX5_passRound : ByteArray := prog_7_method_6_code
abbrev yX5_passRound : MethodName := ⟨RX5, "passRound", "(LPlumbOpinions$Change;)V"⟩
abbrev cX5_tell : ByteArray := prog_7_method_7_code
abbrev yX5_tell : MethodName := ⟨RX5, "tell", "(LPlumbOpinions$Change;)V"⟩
abbrev cX5_putBeam : ByteArray := prog_7_method_8_code
abbrev yX5_putBeam : MethodName := ⟨RX5, "putBeam", "(LPlumbOpinions$Change;)V"⟩
abbrev cX5_takeBeam : ByteArray := prog_7_method_9_code
abbrev yX5_takeBeam : MethodName := ⟨RX5, "takeBeam", "(LPlumbOpinions$Change;)V"⟩
abbrev cX5_setHabit : ByteArray := prog_7_method_10_code
abbrev yX5_setHabit : MethodName := ⟨RX5, "setHabit", "(LPlumbOpinions$Change;)V"⟩
abbrev RX6 : String := "PlumbOpinions$Kind"
def TX6 : u_T := fun k => match k with
  | _ => ("", "", "", false)
def tyX6 : Nat → FieldType := fun k => match k with
  | _ => .int
theorem nmX6 : ∀ a, a < 0 → ∀ b, b < 0 → a ≠ b → (TX6 a).2.1 ≠ (TX6 b).2.1 := by decide +kernel
theorem tyX6_ok : ∀ k, k < 0 → parseFieldDescriptor (TX6 k).2.2.1 = some (tyX6 k) := by decide +kernel
abbrev RX7 : String := "PlumbOpinions$Line"
def TX7 : u_T := fun k => match k with
  | 0 => ("PlumbOpinions$Line", "signs", "[C", true)
  | _ => ("PlumbOpinions$Line", "length", "I", false)
def tyX7 : Nat → FieldType := fun k => match k with
  | 0 => .array .char
  | _ => .int
theorem nmX7 : ∀ a, a < 2 → ∀ b, b < 2 → a ≠ b → (TX7 a).2.1 ≠ (TX7 b).2.1 := by decide +kernel
theorem tyX7_ok : ∀ k, k < 2 → parseFieldDescriptor (TX7 k).2.2.1 = some (tyX7 k) := by decide +kernel
abbrev cX7_init : ByteArray := prog_9_method_1_code
abbrev yX7_init : MethodName := ⟨RX7, "<init>", "()V"⟩
abbrev cX7_writePerson : ByteArray := prog_9_method_2_code
abbrev yX7_writePerson : MethodName := ⟨RX7, "writePerson", "(ILPlumbOpinions$People;)I"⟩
abbrev cX7_writeBeams : ByteArray := prog_9_method_3_code
abbrev yX7_writeBeams : MethodName := ⟨RX7, "writeBeams", "(LPlumbOpinions$Beams;)I"⟩
abbrev cX7_put : ByteArray := prog_9_method_4_code
abbrev yX7_put : MethodName := ⟨RX7, "put", "(C)V"⟩
abbrev cX7_putNumber : ByteArray := prog_9_method_5_code
abbrev yX7_putNumber : MethodName := ⟨RX7, "putNumber", "(I)V"⟩
abbrev RX8 : String := "PlumbOpinions$People"
def TX8 : u_T := fun k => match k with
  | 0 => ("PlumbOpinions$People", "tilts", "[I", true)
  | 1 => ("PlumbOpinions$People", "habits", "[I", true)
  | 2 => ("PlumbOpinions$People", "stubborn", "[Z", true)
  | 3 => ("PlumbOpinions$People", "facts", "[I", true)
  | 4 => ("PlumbOpinions$People", "went", "[I", true)
  | 5 => ("PlumbOpinions$People", "weights", "[[I", true)
  | 6 => ("PlumbOpinions$People", "moves", "[I", true)
  | _ => ("PlumbOpinions$People", "count", "I", false)
def tyX8 : Nat → FieldType := fun k => match k with
  | 0 => .array .int
  | 1 => .array .int
  | 2 => .array .boolean
  | 3 => .array .int
  | 4 => .array .int
  | 5 => .array (.array .int)
  | 6 => .array .int
  | _ => .int
theorem nmX8 : ∀ a, a < 8 → ∀ b, b < 8 → a ≠ b → (TX8 a).2.1 ≠ (TX8 b).2.1 := by decide +kernel
theorem tyX8_ok : ∀ k, k < 8 → parseFieldDescriptor (TX8 k).2.2.1 = some (tyX8 k) := by decide +kernel
abbrev cX8_init : ByteArray := prog_10_method_1_code
abbrev yX8_init : MethodName := ⟨RX8, "<init>", "()V"⟩
abbrev cX8_isTilt : ByteArray := prog_10_method_2_code
abbrev yX8_isTilt : MethodName := ⟨RX8, "isTilt", "(I)Z"⟩
abbrev cX8_isHabit : ByteArray := prog_10_method_3_code
abbrev yX8_isHabit : MethodName := ⟨RX8, "isHabit", "(I)Z"⟩
abbrev cX8_isWeight : ByteArray := prog_10_method_4_code
abbrev yX8_isWeight : MethodName := ⟨RX8, "isWeight", "(I)Z"⟩
abbrev cX8_isStrength : ByteArray := prog_10_method_5_code
abbrev yX8_isStrength : MethodName := ⟨RX8, "isStrength", "(I)Z"⟩
abbrev cX8_copyFrom : ByteArray := prog_10_method_6_code
abbrev yX8_copyFrom : MethodName := ⟨RX8, "copyFrom", "(LPlumbOpinions$People;)V"⟩
abbrev cX8_holds : ByteArray := prog_10_method_7_code
abbrev yX8_holds : MethodName := ⟨RX8, "holds", "(I)Z"⟩
abbrev cX8_isFull : ByteArray := prog_10_method_8_code
abbrev yX8_isFull : MethodName := ⟨RX8, "isFull", "()Z"⟩
abbrev cX8_admit : ByteArray := prog_10_method_9_code
abbrev yX8_admit : MethodName := ⟨RX8, lw_nmA, "(IZ)I"⟩
abbrev cX8_setWeight : ByteArray := prog_10_method_10_code
abbrev yX8_setWeight : MethodName := ⟨RX8, "setWeight", "(III)I"⟩
abbrev cX8_setHabit : ByteArray := prog_10_method_11_code
abbrev yX8_setHabit : MethodName := ⟨RX8, "setHabit", "(II)I"⟩
abbrev cX8_sideOf : ByteArray := prog_10_method_12_code
abbrev yX8_sideOf : MethodName := ⟨RX8, "sideOf", "(I)I"⟩
abbrev cX8_stepOf : ByteArray := prog_10_method_13_code
abbrev yX8_stepOf : MethodName := ⟨RX8, "stepOf", "(I)I"⟩
abbrev cX8_friendCount : ByteArray := prog_10_method_14_code
abbrev yX8_friendCount : MethodName := ⟨RX8, "friendCount", "(I)I"⟩
abbrev cX8_weightsTogether : ByteArray := prog_10_method_15_code
abbrev yX8_weightsTogether : MethodName := ⟨RX8, "weightsTogether", "(I)I"⟩
abbrev cX8_difference : ByteArray := prog_10_method_16_code
abbrev yX8_difference : MethodName := ⟨RX8, "difference", "(II)I"⟩
abbrev cX8_meanByFriends : ByteArray := prog_10_method_17_code
abbrev yX8_meanByFriends : MethodName := ⟨RX8, "meanByFriends", "(I)I"⟩
abbrev cX8_meanByAdding : ByteArray := prog_10_method_18_code
abbrev yX8_meanByAdding : MethodName := ⟨RX8, "meanByAdding", "(I)I"⟩
abbrev cX8_moveOf : ByteArray := prog_10_method_19_code
abbrev yX8_moveOf : MethodName := ⟨RX8, "moveOf", "(I)I"⟩
abbrev cX8_passRound : ByteArray := prog_10_method_20_code
abbrev yX8_passRound : MethodName := ⟨RX8, "passRound", "()I"⟩
abbrev cX8_habitBehind : ByteArray := prog_10_method_21_code
abbrev yX8_habitBehind : MethodName := ⟨RX8, "habitBehind", "(II)I"⟩
abbrev cX8_forceOn : ByteArray := prog_10_method_22_code
abbrev yX8_forceOn : MethodName := ⟨RX8, "forceOn", "(II)I"⟩
abbrev cX8_tell : ByteArray := prog_10_method_23_code
abbrev yX8_tell : MethodName := ⟨RX8, "tell", "(II)I"⟩
abbrev cX8_strongestPuller : ByteArray := prog_10_method_24_code
abbrev yX8_strongestPuller : MethodName := ⟨RX8, "strongestPuller", "(I)I"⟩
abbrev cX8_farthestTo : ByteArray := prog_10_method_25_code
abbrev yX8_farthestTo : MethodName := ⟨RX8, "farthestTo", "(I)I"⟩
abbrev cX8_atPlace : ByteArray := prog_10_method_26_code
abbrev yX8_atPlace : MethodName := ⟨RX8, "atPlace", "(II)I"⟩
abbrev cX8_isAhead : ByteArray := prog_10_method_27_code
abbrev yX8_isAhead : MethodName := ⟨RX8, "isAhead", "(III)Z"⟩
abbrev cX8_measured : ByteArray := prog_10_method_28_code
abbrev yX8_measured : MethodName := ⟨RX8, "measured", "(II)I"⟩
abbrev cX8_pairCount : ByteArray := prog_10_method_31_code
abbrev yX8_pairCount : MethodName := ⟨RX8, "pairCount", "()I"⟩
abbrev cX8_plumbCount : ByteArray := prog_10_method_32_code
abbrev yX8_plumbCount : MethodName := ⟨RX8, "plumbCount", "()I"⟩
abbrev cX8_tiltSum : ByteArray := prog_10_method_33_code
abbrev yX8_tiltSum : MethodName := ⟨RX8, "tiltSum", "()I"⟩
abbrev cX8_factSum : ByteArray := prog_10_method_34_code
abbrev yX8_factSum : MethodName := ⟨RX8, "factSum", "()I"⟩
abbrev RX9 : String := "PlumbOpinions$Text"
def TX9 : u_T := fun k => match k with
  | 0 => ("PlumbOpinions$Text", "characters", "[C", true)
  | 1 => ("PlumbOpinions$Text", "changes", "[LPlumbOpinions$Change;", true)
  | 2 => ("PlumbOpinions$Text", "numbers", "[I", true)
  | 3 => ("PlumbOpinions$Text", "length", "I", false)
  | 4 => ("PlumbOpinions$Text", "changeCount", "I", false)
  | 5 => ("PlumbOpinions$Text", "numberCount", "I", false)
  | 6 => ("PlumbOpinions$Text", "position", "I", false)
  | _ => ("PlumbOpinions$Text", "isNegative", "Z", false)
def tyX9 : Nat → FieldType := fun k => match k with
  | 0 => .array .char
  | 1 => .array (.object "PlumbOpinions$Change")
  | 2 => .array .int
  | 3 => .int
  | 4 => .int
  | 5 => .int
  | 6 => .int
  | _ => .boolean
theorem nmX9 : ∀ a, a < 8 → ∀ b, b < 8 → a ≠ b → (TX9 a).2.1 ≠ (TX9 b).2.1 := by decide +kernel
theorem tyX9_ok : ∀ k, k < 8 → parseFieldDescriptor (TX9 k).2.2.1 = some (tyX9 k) := by decide +kernel
abbrev cX9_init : ByteArray := prog_11_method_1_code
abbrev yX9_init : MethodName := ⟨RX9, "<init>", "()V"⟩
abbrev cX9_isFull : ByteArray := prog_11_method_2_code
abbrev yX9_isFull : MethodName := ⟨RX9, "isFull", "()Z"⟩
abbrev cX9_add : ByteArray := prog_11_method_3_code
abbrev yX9_add : MethodName := ⟨RX9, "add", "(C)I"⟩
abbrev cX9_clear : ByteArray := prog_11_method_4_code
abbrev yX9_clear : MethodName := ⟨RX9, "clear", "()V"⟩
abbrev cX9_readAll : ByteArray := prog_11_method_5_code
abbrev yX9_readAll : MethodName := ⟨RX9, "readAll", "()I"⟩
abbrev cX9_readCommand : ByteArray := prog_11_method_6_code
abbrev yX9_readCommand : MethodName := ⟨RX9, "readCommand", "()Z"⟩
abbrev cX9_readAs : ByteArray := prog_11_method_7_code
abbrev yX9_readAs : MethodName := ⟨RX9, "readAs", "(LPlumbOpinions$Kind;)Z"⟩
abbrev cX9_readPart : ByteArray := prog_11_method_8_code
abbrev yX9_readPart : MethodName := ⟨RX9, "readPart", "(C)Z"⟩
abbrev cX9_readNumber : ByteArray := prog_11_method_9_code
abbrev yX9_readNumber : MethodName := ⟨RX9, "readNumber", "(I)Z"⟩
abbrev cX9_readExactly : ByteArray := prog_11_method_10_code
abbrev yX9_readExactly : MethodName := ⟨RX9, "readExactly", "(C)Z"⟩
abbrev cX9_isNext : ByteArray := prog_11_method_11_code
abbrev yX9_isNext : MethodName := ⟨RX9, "isNext", "(C)Z"⟩
abbrev cX9_isDigitNext : ByteArray := prog_11_method_12_code
abbrev yX9_isDigitNext : MethodName := ⟨RX9, "isDigitNext", "()Z"⟩
abbrev RX10 : String := "PlumbOpinions"
def TX10 : u_T := fun k => match k with
  | 0 => ("PlumbOpinions", "house", "LPlumbOpinions$House;", true)
  | 1 => ("PlumbOpinions", "draft", "LPlumbOpinions$House;", true)
  | 2 => ("PlumbOpinions", "saved", "LPlumbOpinions$House;", true)
  | 3 => ("PlumbOpinions", "forecast", "LPlumbOpinions$People;", true)
  | 4 => ("PlumbOpinions", "camps", "LPlumbOpinions$Camps;", true)
  | 5 => ("PlumbOpinions", "history", "LPlumbOpinions$History;", true)
  | 6 => ("PlumbOpinions", "text", "LPlumbOpinions$Text;", true)
  | 7 => ("PlumbOpinions", "change", "LPlumbOpinions$Change;", true)
  | 8 => ("PlumbOpinions", "line", "LPlumbOpinions$Line;", true)
  | 9 => ("PlumbOpinions", "isSaved", "Z", false)
  | 10 => ("PlumbOpinions", "faultPosition", "I", false)
  | 11 => ("PlumbOpinions", "keptReason", "I", false)
  | 12 => ("PlumbOpinions", "keptDetail", "I", false)
  | _ => ("PlumbOpinions", "keptCommand", "I", false)
def tyX10 : Nat → FieldType := fun k => match k with
  | 0 => .object "PlumbOpinions$House"
  | 1 => .object "PlumbOpinions$House"
  | 2 => .object "PlumbOpinions$House"
  | 3 => .object "PlumbOpinions$People"
  | 4 => .object "PlumbOpinions$Camps"
  | 5 => .object "PlumbOpinions$History"
  | 6 => .object "PlumbOpinions$Text"
  | 7 => .object "PlumbOpinions$Change"
  | 8 => .object "PlumbOpinions$Line"
  | 9 => .boolean
  | 10 => .int
  | 11 => .int
  | 12 => .int
  | _ => .int
theorem nmX10 : ∀ a, a < 14 → ∀ b, b < 14 → a ≠ b → (TX10 a).2.1 ≠ (TX10 b).2.1 := by decide +kernel
theorem tyX10_ok : ∀ k, k < 14 → parseFieldDescriptor (TX10 k).2.2.1 = some (tyX10 k) := by decide +kernel
abbrev cX10_init : ByteArray := prog_1_method_1_code
abbrev yX10_init : MethodName := ⟨RX10, "<init>", "()V"⟩
abbrev cX10_person : ByteArray := prog_1_method_2_code
abbrev yX10_person : MethodName := ⟨RX10, "person", "(IZ)I"⟩
abbrev cX10_friends : ByteArray := prog_1_method_3_code
abbrev yX10_friends : MethodName := ⟨RX10, "friends", "(III)I"⟩
abbrev cX10_round : ByteArray := prog_1_method_4_code
abbrev yX10_round : MethodName := ⟨RX10, "round", "()I"⟩
abbrev cX10_fact : ByteArray := prog_1_method_5_code
abbrev yX10_fact : MethodName := ⟨RX10, "fact", "(II)I"⟩
abbrev cX10_beam : ByteArray := prog_1_method_6_code
abbrev yX10_beam : MethodName := ⟨RX10, "beam", "(III)I"⟩
abbrev cX10_remove : ByteArray := prog_1_method_7_code
abbrev yX10_remove : MethodName := ⟨RX10, "remove", "(I)I"⟩
abbrev cX10_habit : ByteArray := prog_1_method_8_code
abbrev yX10_habit : MethodName := ⟨RX10, "habit", "(II)I"⟩
abbrev cX10_personOf : ByteArray := prog_1_method_9_code
abbrev yX10_personOf : MethodName := ⟨RX10, "personOf", "(II)I"⟩
abbrev cX10_weight : ByteArray := prog_1_method_10_code
abbrev yX10_weight : MethodName := ⟨RX10, "weight", "(II)I"⟩
abbrev cX10_beamOf : ByteArray := prog_1_method_11_code
abbrev yX10_beamOf : MethodName := ⟨RX10, "beamOf", "(II)I"⟩
abbrev cX10_lean : ByteArray := prog_1_method_12_code
abbrev yX10_lean : MethodName := ⟨RX10, "lean", "(I)I"⟩
abbrev cX10_mean : ByteArray := prog_1_method_13_code
abbrev yX10_mean : MethodName := ⟨RX10, "mean", "(I)I"⟩
abbrev cX10_meanAgain : ByteArray := prog_1_method_14_code
abbrev yX10_meanAgain : MethodName := ⟨RX10, "meanAgain", "(I)I"⟩
abbrev cX10_wouldMove : ByteArray := prog_1_method_15_code
abbrev yX10_wouldMove : MethodName := ⟨RX10, "wouldMove", "(I)I"⟩
abbrev cX10_puller : ByteArray := prog_1_method_16_code
abbrev yX10_puller : MethodName := ⟨RX10, "puller", "(I)I"⟩
abbrev cX10_force : ByteArray := prog_1_method_17_code
abbrev yX10_force : MethodName := ⟨RX10, "force", "(II)I"⟩
abbrev cX10_factsFor : ByteArray := prog_1_method_18_code
abbrev yX10_factsFor : MethodName := ⟨RX10, "factsFor", "(II)I"⟩
abbrev cX10_tiltIn : ByteArray := prog_1_method_19_code
abbrev yX10_tiltIn : MethodName := ⟨RX10, "tiltIn", "(II)I"⟩
abbrev cX10_restsIn : ByteArray := prog_1_method_20_code
abbrev yX10_restsIn : MethodName := ⟨RX10, "restsIn", "()I"⟩
abbrev cX10_breaksIn : ByteArray := prog_1_method_21_code
abbrev yX10_breaksIn : MethodName := ⟨RX10, "breaksIn", "(I)I"⟩
abbrev cX10_camp : ByteArray := prog_1_method_22_code
abbrev yX10_camp : MethodName := ⟨RX10, "camp", "(I)I"⟩
abbrev cX10_camps : ByteArray := prog_1_method_23_code
abbrev yX10_camps : MethodName := ⟨RX10, "camps", "()I"⟩
abbrev cX10_greatest : ByteArray := prog_1_method_25_code
abbrev yX10_greatest : MethodName := ⟨RX10, "greatest", "(Z)I"⟩
abbrev cX10_ranked : ByteArray := prog_1_method_26_code
abbrev yX10_ranked : MethodName := ⟨RX10, "ranked", "(II)I"⟩
abbrev cX10_weakest : ByteArray := prog_1_method_27_code
abbrev yX10_weakest : MethodName := ⟨RX10, "weakest", "(I)I"⟩
abbrev cX10_append : ByteArray := prog_1_method_29_code
abbrev yX10_append : MethodName := ⟨RX10, "append", "(C)I"⟩
abbrev cX10_commands : ByteArray := prog_1_method_30_code
abbrev yX10_commands : MethodName := ⟨RX10, "commands", "()I"⟩
abbrev cX10_faultPosition : ByteArray := prog_1_method_31_code
abbrev yX10_faultPosition : MethodName := ⟨RX10, "faultPosition", "()I"⟩
abbrev cX10_reason : ByteArray := prog_1_method_32_code
abbrev yX10_reason : MethodName := ⟨RX10, "reason", "(I)I"⟩
abbrev cX10_line : ByteArray := prog_1_method_33_code
abbrev yX10_line : MethodName := ⟨RX10, "line", "(I)I"⟩
abbrev cX10_beams : ByteArray := prog_1_method_34_code
abbrev yX10_beams : MethodName := ⟨RX10, "beams", "()I"⟩
abbrev cX10_character : ByteArray := prog_1_method_35_code
abbrev yX10_character : MethodName := ⟨RX10, "character", "(I)C"⟩
abbrev cX10_meanTilt : ByteArray := prog_1_method_36_code
abbrev yX10_meanTilt : MethodName := ⟨RX10, "meanTilt", "()D"⟩
abbrev cX10_plumbShare : ByteArray := prog_1_method_37_code
abbrev yX10_plumbShare : MethodName := ⟨RX10, "plumbShare", "()F"⟩
abbrev cX10_account : ByteArray := prog_1_method_38_code
abbrev yX10_account : MethodName := ⟨RX10, "account", "(I)I"⟩
abbrev cX10_undo : ByteArray := prog_1_method_39_code
abbrev yX10_undo : MethodName := ⟨RX10, "undo", "()I"⟩
abbrev cX10_save : ByteArray := prog_1_method_40_code
abbrev yX10_save : MethodName := ⟨RX10, "save", "()I"⟩
abbrev cX10_restore : ByteArray := prog_1_method_41_code
abbrev yX10_restore : MethodName := ⟨RX10, "restore", "()I"⟩
abbrev cX10_needPerson : ByteArray := prog_1_method_42_code
abbrev yX10_needPerson : MethodName := ⟨RX10, "needPerson", "(I)V"⟩
abbrev cX10_needBeam : ByteArray := prog_1_method_43_code
abbrev yX10_needBeam : MethodName := ⟨RX10, "needBeam", "(I)V"⟩
abbrev cX10_needStrength : ByteArray := prog_1_method_44_code
abbrev yX10_needStrength : MethodName := ⟨RX10, "needStrength", "(I)V"⟩
abbrev cX10_carryOutChange : ByteArray := prog_1_method_45_code
abbrev yX10_carryOutChange : MethodName := ⟨RX10, "carryOutChange", "()I"⟩
abbrev cX10_acceptDraft : ByteArray := prog_1_method_46_code
abbrev yX10_acceptDraft : MethodName := ⟨RX10, "acceptDraft", "()V"⟩
abbrev cX10_keepReason : ByteArray := prog_1_method_47_code
abbrev yX10_keepReason : MethodName := ⟨RX10, "keepReason", "(LPlumbOpinions$Change;I)V"⟩
abbrev RX11 : String := "PlumbOpinionsModel"
def TX11 : u_T := fun k => match k with
  | _ => ("", "", "", false)
def tyX11 : Nat → FieldType := fun k => match k with
  | _ => .int
theorem nmX11 : ∀ a, a < 0 → ∀ b, b < 0 → a ≠ b → (TX11 a).2.1 ≠ (TX11 b).2.1 := by decide +kernel
theorem tyX11_ok : ∀ k, k < 0 → parseFieldDescriptor (TX11 k).2.2.1 = some (tyX11 k) := by decide +kernel
abbrev RJx145de : String := "java/io/Serializable"
def TJx145de : u_T := fun k => match k with
  | _ => ("", "", "", false)
def tyJx145de : Nat → FieldType := fun k => match k with
  | _ => .int
theorem nmJx145de : ∀ a, a < 0 → ∀ b, b < 0 → a ≠ b → (TJx145de a).2.1 ≠ (TJx145de b).2.1 := by decide +kernel
theorem tyJx145de_ok : ∀ k, k < 0 → parseFieldDescriptor (TJx145de k).2.2.1 = some (tyJx145de k) := by decide +kernel
abbrev RJ5 : String := "java/lang/AbstractStringBuilder"
def TJ5 : u_T := fun k => match k with
  | _ => ("", "", "", false)
def tyJ5 : Nat → FieldType := fun k => match k with
  | _ => .int
theorem nmJ5 : ∀ a, a < 0 → ∀ b, b < 0 → a ≠ b → (TJ5 a).2.1 ≠ (TJ5 b).2.1 := by decide +kernel
theorem tyJ5_ok : ∀ k, k < 0 → parseFieldDescriptor (TJ5 k).2.2.1 = some (tyJ5 k) := by decide +kernel
abbrev cJ5_init_d00df : ByteArray := prog_15_method_2_code
abbrev yJ5_init_d00df : MethodName := ⟨RJ5, "<init>", "(I)V"⟩
abbrev cJ5_length_8abf5 : ByteArray := prog_15_method_6_code
abbrev yJ5_length_8abf5 : MethodName := ⟨RJ5, "length", "()I"⟩
abbrev cJ5_ensureCapacityInternal_d00df : ByteArray := prog_15_method_9_code
abbrev yJ5_ensureCapacityInternal_d00df : MethodName := ⟨RJ5, "ensureCapacityInternal", "(I)V"⟩
abbrev cJ5_newCapacity_0f7a4 : ByteArray := prog_15_method_10_code
abbrev yJ5_newCapacity_0f7a4 : MethodName := ⟨RJ5, "newCapacity", "(I)I"⟩
abbrev cJ5_inflate_da8c8 : ByteArray := prog_15_method_11_code
abbrev yJ5_inflate_da8c8 : MethodName := ⟨RJ5, "inflate", "()V"⟩
abbrev cJ5_append_cf1ce : ByteArray := prog_15_method_22_code
abbrev yJ5_append_cf1ce : MethodName := ⟨RJ5, "append", "(Ljava/lang/String;)Ljava/lang/AbstractStringBuilder;"⟩
abbrev cJ5_appendNull_278bc : ByteArray := prog_15_method_26_code
abbrev yJ5_appendNull_278bc : MethodName := ⟨RJ5, "appendNull", "()Ljava/lang/AbstractStringBuilder;"⟩
abbrev cJ5_append_c97b9 : ByteArray := prog_15_method_32_code
abbrev yJ5_append_c97b9 : MethodName := ⟨RJ5, "append", "(I)Ljava/lang/AbstractStringBuilder;"⟩
abbrev cJ5_getValue_6d5f1 : ByteArray := prog_15_method_64_code
abbrev yJ5_getValue_6d5f1 : MethodName := ⟨RJ5, "getValue", "()[B"⟩
abbrev cJ5_isLatin1_aae02 : ByteArray := prog_15_method_68_code
abbrev yJ5_isLatin1_aae02 : MethodName := ⟨RJ5, "isLatin1", "()Z"⟩
abbrev cJ5_inflateIfNeededFor_a7421 : ByteArray := prog_15_method_71_code
abbrev yJ5_inflateIfNeededFor_a7421 : MethodName := ⟨RJ5, "inflateIfNeededFor", "(Ljava/lang/String;)V"⟩
abbrev cJ5_putStringAt_47b60 : ByteArray := prog_15_method_73_code
abbrev yJ5_putStringAt_47b60 : MethodName := ⟨RJ5, "putStringAt", "(ILjava/lang/String;)V"⟩
abbrev RJx2cfe8 : String := "java/lang/Appendable"
def TJx2cfe8 : u_T := fun k => match k with
  | _ => ("", "", "", false)
def tyJx2cfe8 : Nat → FieldType := fun k => match k with
  | _ => .int
theorem nmJx2cfe8 : ∀ a, a < 0 → ∀ b, b < 0 → a ≠ b → (TJx2cfe8 a).2.1 ≠ (TJx2cfe8 b).2.1 := by decide +kernel
theorem tyJx2cfe8_ok : ∀ k, k < 0 → parseFieldDescriptor (TJx2cfe8 k).2.2.1 = some (tyJx2cfe8 k) := by decide +kernel
abbrev RJx00060 : String := "java/lang/ArrayIndexOutOfBoundsException"
def TJx00060 : u_T := fun k => match k with
  | 0 => ("java/lang/Throwable", "backtrace", "Ljava/lang/Object;", false)
  | 1 => ("java/lang/Throwable", "detailMessage", "Ljava/lang/String;", false)
  | 2 => ("java/lang/Throwable", "cause", "Ljava/lang/Throwable;", false)
  | 3 => ("java/lang/Throwable", "stackTrace", "[Ljava/lang/StackTraceElement;", false)
  | 4 => ("java/lang/Throwable", "depth", "I", false)
  | _ => ("java/lang/Throwable", "suppressedExceptions", "Ljava/util/List;", false)
def tyJx00060 : Nat → FieldType := fun k => match k with
  | 0 => .object "java/lang/Object"
  | 1 => .object "java/lang/String"
  | 2 => .object "java/lang/Throwable"
  | 3 => .array (.object "java/lang/StackTraceElement")
  | 4 => .int
  | _ => .object "java/util/List"
theorem nmJx00060 : ∀ a, a < 6 → ∀ b, b < 6 → a ≠ b → (TJx00060 a).2.1 ≠ (TJx00060 b).2.1 := by decide +kernel
theorem tyJx00060_ok : ∀ k, k < 6 → parseFieldDescriptor (TJx00060 k).2.2.1 = some (tyJx00060 k) := by decide +kernel
abbrev cJx00060_init_a7421 : ByteArray := prog_18_method_2_code
abbrev yJx00060_init_a7421 : MethodName := ⟨RJx00060, "<init>", "(Ljava/lang/String;)V"⟩
abbrev RJx9f9b0 : String := "java/lang/CharSequence"
def TJx9f9b0 : u_T := fun k => match k with
  | _ => ("", "", "", false)
def tyJx9f9b0 : Nat → FieldType := fun k => match k with
  | _ => .int
theorem nmJx9f9b0 : ∀ a, a < 0 → ∀ b, b < 0 → a ≠ b → (TJx9f9b0 a).2.1 ≠ (TJx9f9b0 b).2.1 := by decide +kernel
theorem tyJx9f9b0_ok : ∀ k, k < 0 → parseFieldDescriptor (TJx9f9b0 k).2.2.1 = some (tyJx9f9b0 k) := by decide +kernel
abbrev RJx8e188 : String := "java/lang/Cloneable"
def TJx8e188 : u_T := fun k => match k with
  | _ => ("", "", "", false)
def tyJx8e188 : Nat → FieldType := fun k => match k with
  | _ => .int
theorem nmJx8e188 : ∀ a, a < 0 → ∀ b, b < 0 → a ≠ b → (TJx8e188 a).2.1 ≠ (TJx8e188 b).2.1 := by decide +kernel
theorem tyJx8e188_ok : ∀ k, k < 0 → parseFieldDescriptor (TJx8e188 k).2.2.1 = some (tyJx8e188 k) := by decide +kernel
abbrev RJxb160c : String := "java/lang/Comparable"
def TJxb160c : u_T := fun k => match k with
  | _ => ("", "", "", false)
def tyJxb160c : Nat → FieldType := fun k => match k with
  | _ => .int
theorem nmJxb160c : ∀ a, a < 0 → ∀ b, b < 0 → a ≠ b → (TJxb160c a).2.1 ≠ (TJxb160c b).2.1 := by decide +kernel
theorem tyJxb160c_ok : ∀ k, k < 0 → parseFieldDescriptor (TJxb160c k).2.2.1 = some (tyJxb160c k) := by decide +kernel
abbrev RJxe99ae : String := "java/lang/Double"
def TJxe99ae : u_T := fun k => match k with
  | _ => ("", "", "", false)
def tyJxe99ae : Nat → FieldType := fun k => match k with
  | _ => .int
theorem nmJxe99ae : ∀ a, a < 0 → ∀ b, b < 0 → a ≠ b → (TJxe99ae a).2.1 ≠ (TJxe99ae b).2.1 := by decide +kernel
theorem tyJxe99ae_ok : ∀ k, k < 0 → parseFieldDescriptor (TJxe99ae k).2.2.1 = some (tyJxe99ae k) := by decide +kernel
abbrev cJxe99ae_isNaN_b9ae7 : ByteArray := prog_22_method_6_code
abbrev yJxe99ae_isNaN_b9ae7 : MethodName := ⟨RJxe99ae, "isNaN", "(D)Z"⟩
abbrev cJxe99ae_doubleToLongBits_ccdee : ByteArray := prog_22_method_23_code
abbrev yJxe99ae_doubleToLongBits_ccdee : MethodName := ⟨RJxe99ae, "doubleToLongBits", "(D)J"⟩
abbrev RJx29ce0 : String := "java/lang/Enum"
def TJx29ce0 : u_T := fun k => match k with
  | _ => ("", "", "", false)
def tyJx29ce0 : Nat → FieldType := fun k => match k with
  | _ => .int
theorem nmJx29ce0 : ∀ a, a < 0 → ∀ b, b < 0 → a ≠ b → (TJx29ce0 a).2.1 ≠ (TJx29ce0 b).2.1 := by decide +kernel
theorem tyJx29ce0_ok : ∀ k, k < 0 → parseFieldDescriptor (TJx29ce0 k).2.2.1 = some (tyJx29ce0 k) := by decide +kernel
abbrev cJx29ce0_ordinal_8abf5 : ByteArray := prog_23_method_2_code
abbrev yJx29ce0_ordinal_8abf5 : MethodName := ⟨RJx29ce0, "ordinal", "()I"⟩
abbrev RJxf58ca : String := "java/lang/Float"
def TJxf58ca : u_T := fun k => match k with
  | _ => ("", "", "", false)
def tyJxf58ca : Nat → FieldType := fun k => match k with
  | _ => .int
theorem nmJxf58ca : ∀ a, a < 0 → ∀ b, b < 0 → a ≠ b → (TJxf58ca a).2.1 ≠ (TJxf58ca b).2.1 := by decide +kernel
theorem tyJxf58ca_ok : ∀ k, k < 0 → parseFieldDescriptor (TJxf58ca k).2.2.1 = some (tyJxf58ca k) := by decide +kernel
abbrev cJxf58ca_isNaN_12338 : ByteArray := prog_25_method_6_code
abbrev yJxf58ca_isNaN_12338 : MethodName := ⟨RJxf58ca, "isNaN", "(F)Z"⟩
abbrev cJxf58ca_floatToIntBits_5c35a : ByteArray := prog_25_method_24_code
abbrev yJxf58ca_floatToIntBits_5c35a : MethodName := ⟨RJxf58ca, "floatToIntBits", "(F)I"⟩
abbrev RJ6 : String := "java/lang/Integer"
def TJ6 : u_T := fun k => match k with
  | _ => ("", "", "", false)
def tyJ6 : Nat → FieldType := fun k => match k with
  | _ => .int
theorem nmJ6 : ∀ a, a < 0 → ∀ b, b < 0 → a ≠ b → (TJ6 a).2.1 ≠ (TJ6 b).2.1 := by decide +kernel
theorem tyJ6_ok : ∀ k, k < 0 → parseFieldDescriptor (TJ6 k).2.2.1 = some (tyJ6 k) := by decide +kernel
abbrev cJ6_getChars_ba4f3 : ByteArray := prog_29_method_12_code
abbrev yJ6_getChars_ba4f3 : MethodName := ⟨RJ6, "getChars", "(II[B)I"⟩
abbrev cJ6_stringSize_0f7a4 : ByteArray := prog_29_method_13_code
abbrev yJ6_stringSize_0f7a4 : MethodName := ⟨RJ6, "stringSize", "(I)I"⟩
abbrev cJ6_compare_7cf53 : ByteArray := prog_29_method_40_code
abbrev yJ6_compare_7cf53 : MethodName := ⟨RJ6, "compare", "(II)I"⟩
abbrev RJ9 : String := "java/lang/Math"
def TJ9 : u_T := fun k => match k with
  | _ => ("", "", "", false)
def tyJ9 : Nat → FieldType := fun k => match k with
  | _ => .int
theorem nmJ9 : ∀ a, a < 0 → ∀ b, b < 0 → a ≠ b → (TJ9 a).2.1 ≠ (TJ9 b).2.1 := by decide +kernel
theorem tyJ9_ok : ∀ k, k < 0 → parseFieldDescriptor (TJ9 k).2.2.1 = some (tyJ9 k) := by decide +kernel
abbrev cJ9_abs_0f7a4 : ByteArray := prog_30_method_59_code
abbrev yJ9_abs_0f7a4 : MethodName := ⟨RJ9, "abs", "(I)I"⟩
abbrev cJ9_max_7cf53 : ByteArray := prog_30_method_65_code
abbrev yJ9_max_7cf53 : MethodName := ⟨RJ9, "max", "(II)I"⟩
abbrev cJ9_min_7cf53 : ByteArray := prog_30_method_69_code
abbrev yJ9_min_7cf53 : MethodName := ⟨RJ9, "min", "(II)I"⟩
abbrev RJxd2413 : String := "java/lang/Number"
def TJxd2413 : u_T := fun k => match k with
  | _ => ("", "", "", false)
def tyJxd2413 : Nat → FieldType := fun k => match k with
  | _ => .int
theorem nmJxd2413 : ∀ a, a < 0 → ∀ b, b < 0 → a ≠ b → (TJxd2413 a).2.1 ≠ (TJxd2413 b).2.1 := by decide +kernel
theorem tyJxd2413_ok : ∀ k, k < 0 → parseFieldDescriptor (TJxd2413 k).2.2.1 = some (tyJxd2413 k) := by decide +kernel
abbrev RJ0 : String := "java/lang/String"
def TJ0 : u_T := fun k => match k with
  | 0 => ("java/lang/String", "value", "[B", true)
  | 1 => ("java/lang/String", "coder", "B", true)
  | 2 => ("java/lang/String", "hash", "I", false)
  | _ => ("java/lang/String", "hashIsZero", "Z", false)
def tyJ0 : Nat → FieldType := fun k => match k with
  | 0 => .array .byte
  | 1 => .byte
  | 2 => .int
  | _ => .boolean
theorem nmJ0 : ∀ a, a < 4 → ∀ b, b < 4 → a ≠ b → (TJ0 a).2.1 ≠ (TJ0 b).2.1 := by decide +kernel
theorem tyJ0_ok : ∀ k, k < 4 → parseFieldDescriptor (TJ0 k).2.2.1 = some (tyJ0 k) := by decide +kernel
abbrev cJ0_init_81219 : ByteArray := prog_33_method_53_code
abbrev yJ0_init_81219 : MethodName := ⟨RJ0, "<init>", "(Ljava/lang/StringBuilder;)V"⟩
abbrev cJ0_length_8abf5 : ByteArray := prog_33_method_54_code
abbrev yJ0_length_8abf5 : MethodName := ⟨RJ0, "length", "()I"⟩
abbrev cJ0_charAt_5068e : ByteArray := prog_33_method_56_code
abbrev yJ0_charAt_5068e : MethodName := ⟨RJ0, "charAt", "(I)C"⟩
abbrev cJ0_getBytes_840e7 : ByteArray := prog_33_method_147_code
abbrev yJ0_getBytes_840e7 : MethodName := ⟨RJ0, "getBytes", "([BIB)V"⟩
abbrev cJ0_init_db425 : ByteArray := prog_33_method_150_code
abbrev yJ0_init_db425 : MethodName := ⟨RJ0, "<init>", "(Ljava/lang/AbstractStringBuilder;Ljava/lang/Void;)V"⟩
abbrev cJ0_coder_7d493 : ByteArray := prog_33_method_152_code
abbrev yJ0_coder_7d493 : MethodName := ⟨RJ0, "coder", "()B"⟩
abbrev cJ0_isLatin1_aae02 : ByteArray := prog_33_method_154_code
abbrev yJ0_isLatin1_aae02 : MethodName := ⟨RJ0, "isLatin1", "()Z"⟩
abbrev cJ0_checkIndex_df160 : ByteArray := prog_33_method_155_code
abbrev yJ0_checkIndex_df160 : MethodName := ⟨RJ0, "checkIndex", "(II)V"⟩
abbrev cJ0_checkBoundsOffCount_cabcc : ByteArray := prog_33_method_157_code
abbrev yJ0_checkBoundsOffCount_cabcc : MethodName := ⟨RJ0, "checkBoundsOffCount", "(III)I"⟩
abbrev cJ0_checkBoundsBeginEnd_23922 : ByteArray := prog_33_method_158_code
abbrev yJ0_checkBoundsBeginEnd_23922 : MethodName := ⟨RJ0, "checkBoundsBeginEnd", "(III)V"⟩
abbrev RJ4 : String := "java/lang/StringBuilder"
def TJ4 : u_T := fun k => match k with
  | 0 => ("java/lang/AbstractStringBuilder", "value", "[B", false)
  | 1 => ("java/lang/AbstractStringBuilder", "coder", "B", false)
  | 2 => ("java/lang/AbstractStringBuilder", "maybeLatin1", "Z", false)
  | _ => ("java/lang/AbstractStringBuilder", "count", "I", false)
def tyJ4 : Nat → FieldType := fun k => match k with
  | 0 => .array .byte
  | 1 => .byte
  | 2 => .boolean
  | _ => .int
theorem nmJ4 : ∀ a, a < 4 → ∀ b, b < 4 → a ≠ b → (TJ4 a).2.1 ≠ (TJ4 b).2.1 := by decide +kernel
theorem tyJ4_ok : ∀ k, k < 4 → parseFieldDescriptor (TJ4 k).2.2.1 = some (tyJ4 k) := by decide +kernel
abbrev cJ4_init_da8c8 : ByteArray := prog_34_method_1_code
abbrev yJ4_init_da8c8 : MethodName := ⟨RJ4, "<init>", "()V"⟩
abbrev cJ4_append_15ec4 : ByteArray := prog_34_method_7_code
abbrev yJ4_append_15ec4 : MethodName := ⟨RJ4, "append", "(Ljava/lang/String;)Ljava/lang/StringBuilder;"⟩
abbrev cJ4_append_bf812 : ByteArray := prog_34_method_15_code
abbrev yJ4_append_bf812 : MethodName := ⟨RJ4, "append", "(I)Ljava/lang/StringBuilder;"⟩
abbrev cJ4_toString_0e30d : ByteArray := prog_34_method_42_code
abbrev yJ4_toString_0e30d : MethodName := ⟨RJ4, "toString", "()Ljava/lang/String;"⟩
abbrev cJ4_length_8abf5 : ByteArray := prog_34_method_93_code
abbrev yJ4_length_8abf5 : MethodName := ⟨RJ4, "length", "()I"⟩
abbrev RJ1 : String := "java/lang/StringLatin1"
def TJ1 : u_T := fun k => match k with
  | _ => ("", "", "", false)
def tyJ1 : Nat → FieldType := fun k => match k with
  | _ => .int
theorem nmJ1 : ∀ a, a < 0 → ∀ b, b < 0 → a ≠ b → (TJ1 a).2.1 ≠ (TJ1 b).2.1 := by decide +kernel
theorem tyJ1_ok : ∀ k, k < 0 → parseFieldDescriptor (TJ1 k).2.2.1 = some (tyJ1 k) := by decide +kernel
abbrev cJ1_charAt_3b067 : ByteArray := prog_35_method_2_code
abbrev yJ1_charAt_3b067 : MethodName := ⟨RJ1, "charAt", "([BI)C"⟩
abbrev cJ1_inflate_0e8fd : ByteArray := prog_35_method_50_code
abbrev yJ1_inflate_0e8fd : MethodName := ⟨RJ1, "inflate", "([BI[BII)V"⟩
abbrev RJ2 : String := "java/lang/StringUTF16"
def TJ2 : u_T := fun k => match k with
  | _ => ("", "", "", false)
def tyJ2 : Nat → FieldType := fun k => match k with
  | _ => .int
theorem nmJ2 : ∀ a, a < 0 → ∀ b, b < 0 → a ≠ b → (TJ2 a).2.1 ≠ (TJ2 b).2.1 := by decide +kernel
theorem tyJ2_ok : ∀ k, k < 0 → parseFieldDescriptor (TJ2 k).2.2.1 = some (tyJ2 k) := by decide +kernel
abbrev cJ2_newBytesFor_77867 : ByteArray := prog_36_method_2_code
abbrev yJ2_newBytesFor_77867 : MethodName := ⟨RJ2, "newBytesFor", "(I)[B"⟩
abbrev cJ2_newBytesLength_0f7a4 : ByteArray := prog_36_method_3_code
abbrev yJ2_newBytesLength_0f7a4 : MethodName := ⟨RJ2, "newBytesLength", "(I)I"⟩
abbrev cJ2_putChar_b72d1 : ByteArray := prog_36_method_4_code
abbrev yJ2_putChar_b72d1 : MethodName := ⟨RJ2, "putChar", "([BII)V"⟩
abbrev cJ2_getChar_3b067 : ByteArray := prog_36_method_5_code
abbrev yJ2_getChar_3b067 : MethodName := ⟨RJ2, "getChar", "([BI)C"⟩
abbrev cJ2_length_9d52b : ByteArray := prog_36_method_6_code
abbrev yJ2_length_9d52b : MethodName := ⟨RJ2, "length", "([B)I"⟩
abbrev cJ2_coderFromArrayLen_85cad : ByteArray := prog_36_method_15_code
abbrev yJ2_coderFromArrayLen_85cad : MethodName := ⟨RJ2, "coderFromArrayLen", "([BI)B"⟩
abbrev cJ2_compress_39247 : ByteArray := prog_36_method_17_code
abbrev yJ2_compress_39247 : MethodName := ⟨RJ2, "compress", "([BII)[B"⟩
abbrev cJ2_compress_5af95 : ByteArray := prog_36_method_22_code
abbrev yJ2_compress_5af95 : MethodName := ⟨RJ2, "compress", "([BI[BII)I"⟩
abbrev cJ2_getChars_46870 : ByteArray := prog_36_method_77_code
abbrev yJ2_getChars_46870 : MethodName := ⟨RJ2, "getChars", "(III[B)I"⟩
abbrev cJ2_putCharsAt_cd4e5 : ByteArray := prog_36_method_81_code
abbrev yJ2_putCharsAt_cd4e5 : MethodName := ⟨RJ2, "putCharsAt", "([BICCCC)I"⟩
abbrev cJ2_charAt_3b067 : ByteArray := prog_36_method_83_code
abbrev yJ2_charAt_3b067 : MethodName := ⟨RJ2, "charAt", "([BI)C"⟩
abbrev cJ2_inflate_0e8fd : ByteArray := prog_36_method_86_code
abbrev yJ2_inflate_0e8fd : MethodName := ⟨RJ2, "inflate", "([BI[BII)V"⟩
abbrev cJ2_getChars_ba4f3 : ByteArray := prog_36_method_89_code
abbrev yJ2_getChars_ba4f3 : MethodName := ⟨RJ2, "getChars", "(II[B)I"⟩
abbrev cJ2_checkIndex_2214a : ByteArray := prog_36_method_91_code
abbrev yJ2_checkIndex_2214a : MethodName := ⟨RJ2, "checkIndex", "(I[B)V"⟩
abbrev cJ2_checkBoundsBeginEnd_d044e : ByteArray := prog_36_method_93_code
abbrev yJ2_checkBoundsBeginEnd_d044e : MethodName := ⟨RJ2, "checkBoundsBeginEnd", "(II[B)V"⟩
abbrev cJ2_checkBoundsOffCount_d044e : ByteArray := prog_36_method_94_code
abbrev yJ2_checkBoundsOffCount_d044e : MethodName := ⟨RJ2, "checkBoundsOffCount", "(II[B)V"⟩
abbrev RJ10 : String := "java/lang/System"
def TJ10 : u_T := fun k => match k with
  | _ => ("", "", "", false)
def tyJ10 : Nat → FieldType := fun k => match k with
  | _ => .int
theorem nmJ10 : ∀ a, a < 0 → ∀ b, b < 0 → a ≠ b → (TJ10 a).2.1 ≠ (TJ10 b).2.1 := by decide +kernel
theorem tyJ10_ok : ∀ k, k < 0 → parseFieldDescriptor (TJ10 k).2.2.1 = some (tyJ10 k) := by decide +kernel
abbrev RJxfd54e : String := "java/lang/constant/Constable"
def TJxfd54e : u_T := fun k => match k with
  | _ => ("", "", "", false)
def tyJxfd54e : Nat → FieldType := fun k => match k with
  | _ => .int
theorem nmJxfd54e : ∀ a, a < 0 → ∀ b, b < 0 → a ≠ b → (TJxfd54e a).2.1 ≠ (TJxfd54e b).2.1 := by decide +kernel
theorem tyJxfd54e_ok : ∀ k, k < 0 → parseFieldDescriptor (TJxfd54e k).2.2.1 = some (tyJxfd54e k) := by decide +kernel
abbrev RJx3cf43 : String := "java/lang/constant/ConstantDesc"
def TJx3cf43 : u_T := fun k => match k with
  | _ => ("", "", "", false)
def tyJx3cf43 : Nat → FieldType := fun k => match k with
  | _ => .int
theorem nmJx3cf43 : ∀ a, a < 0 → ∀ b, b < 0 → a ≠ b → (TJx3cf43 a).2.1 ≠ (TJx3cf43 b).2.1 := by decide +kernel
theorem tyJx3cf43_ok : ∀ k, k < 0 → parseFieldDescriptor (TJx3cf43 k).2.2.1 = some (tyJx3cf43 k) := by decide +kernel
abbrev RJ7 : String := "java/util/Arrays"
def TJ7 : u_T := fun k => match k with
  | _ => ("", "", "", false)
def tyJ7 : Nat → FieldType := fun k => match k with
  | _ => .int
theorem nmJ7 : ∀ a, a < 0 → ∀ b, b < 0 → a ≠ b → (TJ7 a).2.1 ≠ (TJ7 b).2.1 := by decide +kernel
theorem tyJ7_ok : ∀ k, k < 0 → parseFieldDescriptor (TJ7 k).2.2.1 = some (tyJ7 k) := by decide +kernel
abbrev cJ7_copyOf_9075b : ByteArray := prog_42_method_121_code
abbrev yJ7_copyOf_9075b : MethodName := ⟨RJ7, "copyOf", "([BI)[B"⟩
abbrev cJ7_checkLength_df160 : ByteArray := prog_42_method_131_code
abbrev yJ7_checkLength_df160 : MethodName := ⟨RJ7, "checkLength", "(II)V"⟩
abbrev cJ7_copyOfRange_39247 : ByteArray := prog_42_method_132_code
abbrev yJ7_copyOfRange_39247 : MethodName := ⟨RJ7, "copyOfRange", "([BII)[B"⟩
abbrev cJ7_copyOfRangeByte_39247 : ByteArray := prog_42_method_133_code
abbrev yJ7_copyOfRangeByte_39247 : MethodName := ⟨RJ7, "copyOfRangeByte", "([BII)[B"⟩
abbrev RJ8 : String := "jdk/internal/util/ArraysSupport"
def TJ8 : u_T := fun k => match k with
  | _ => ("", "", "", false)
def tyJ8 : Nat → FieldType := fun k => match k with
  | _ => .int
theorem nmJ8 : ∀ a, a < 0 → ∀ b, b < 0 → a ≠ b → (TJ8 a).2.1 ≠ (TJ8 b).2.1 := by decide +kernel
theorem tyJ8_ok : ∀ k, k < 0 → parseFieldDescriptor (TJ8 k).2.2.1 = some (tyJ8 k) := by decide +kernel
abbrev cJ8_newLength_cabcc : ByteArray := prog_44_method_27_code
abbrev yJ8_newLength_cabcc : MethodName := ⟨RJ8, "newLength", "(III)I"⟩
abbrev cJ8_hugeLength_7cf53 : ByteArray := prog_44_method_28_code
abbrev yJ8_hugeLength_7cf53 : MethodName := ⟨RJ8, "hugeLength", "(II)I"⟩
abbrev RJ3 : String := "jdk/internal/util/Preconditions"
def TJ3 : u_T := fun k => match k with
  | _ => ("", "", "", false)
def tyJ3 : Nat → FieldType := fun k => match k with
  | _ => .int
theorem nmJ3 : ∀ a, a < 0 → ∀ b, b < 0 → a ≠ b → (TJ3 a).2.1 ≠ (TJ3 b).2.1 := by decide +kernel
theorem tyJ3_ok : ∀ k, k < 0 → parseFieldDescriptor (TJ3 k).2.2.1 = some (tyJ3 k) := by decide +kernel
abbrev cJ3_checkIndex_8e157 : ByteArray := prog_45_method_11_code
abbrev yJ3_checkIndex_8e157 : MethodName := ⟨RJ3, "checkIndex", "(IILjava/util/function/BiFunction;)I"⟩
abbrev cJ3_checkFromToIndex_8c36e : ByteArray := prog_45_method_12_code
abbrev yJ3_checkFromToIndex_8c36e : MethodName := ⟨RJ3, "checkFromToIndex", "(IIILjava/util/function/BiFunction;)I"⟩
abbrev cJ3_checkFromIndexSize_8c36e : ByteArray := prog_45_method_13_code
abbrev yJ3_checkFromIndexSize_8c36e : MethodName := ⟨RJ3, "checkFromIndexSize", "(IIILjava/util/function/BiFunction;)I"⟩
abbrev RL : String := "PlumbOpinionsLaw"
abbrev cL_at : ByteArray := method_2_code
abbrev yL_at : MethodName := ⟨RL, "at", "([II)I"⟩
abbrev cL_some : ByteArray := method_3_code
abbrev yL_some : MethodName := ⟨RL, "some", "(II)I"⟩
abbrev cL_person : ByteArray := method_4_code
abbrev yL_person : MethodName := ⟨RL, "person", "(LPlumbOpinions;IZ)I"⟩
abbrev cL_friends : ByteArray := method_5_code
abbrev yL_friends : MethodName := ⟨RL, "friends", "(LPlumbOpinions;III)I"⟩
abbrev cL_round : ByteArray := method_6_code
abbrev yL_round : MethodName := ⟨RL, "round", "(LPlumbOpinions;)I"⟩
abbrev cL_fact : ByteArray := method_7_code
abbrev yL_fact : MethodName := ⟨RL, "fact", "(LPlumbOpinions;II)I"⟩
abbrev cL_beam : ByteArray := method_8_code
abbrev yL_beam : MethodName := ⟨RL, "beam", "(LPlumbOpinions;III)I"⟩
abbrev cL_remove : ByteArray := method_9_code
abbrev yL_remove : MethodName := ⟨RL, "remove", "(LPlumbOpinions;I)I"⟩
abbrev cL_habit : ByteArray := method_10_code
abbrev yL_habit : MethodName := ⟨RL, "habit", "(LPlumbOpinions;II)I"⟩
abbrev cL_of : ByteArray := method_11_code
abbrev yL_of : MethodName := ⟨RL, "of", "(LPlumbOpinions;II)I"⟩
abbrev cL_weight : ByteArray := method_12_code
abbrev yL_weight : MethodName := ⟨RL, "weight", "(LPlumbOpinions;II)I"⟩
abbrev cL_beamOf : ByteArray := method_13_code
abbrev yL_beamOf : MethodName := ⟨RL, "beamOf", "(LPlumbOpinions;II)I"⟩
abbrev cL_lean : ByteArray := method_14_code
abbrev yL_lean : MethodName := ⟨RL, "lean", "(LPlumbOpinions;I)I"⟩
abbrev cL_mean : ByteArray := method_15_code
abbrev yL_mean : MethodName := ⟨RL, "mean", "(LPlumbOpinions;I)I"⟩
abbrev cL_meanAgain : ByteArray := method_16_code
abbrev yL_meanAgain : MethodName := ⟨RL, "meanAgain", "(LPlumbOpinions;I)I"⟩
abbrev cL_wouldMove : ByteArray := method_17_code
abbrev yL_wouldMove : MethodName := ⟨RL, "wouldMove", "(LPlumbOpinions;I)I"⟩
abbrev cL_puller : ByteArray := method_18_code
abbrev yL_puller : MethodName := ⟨RL, "puller", "(LPlumbOpinions;I)I"⟩
abbrev cL_force : ByteArray := method_19_code
abbrev yL_force : MethodName := ⟨RL, "force", "(LPlumbOpinions;II)I"⟩
abbrev cL_factsFor : ByteArray := method_20_code
abbrev yL_factsFor : MethodName := ⟨RL, "factsFor", "(LPlumbOpinions;II)I"⟩
abbrev cL_tiltIn : ByteArray := method_21_code
abbrev yL_tiltIn : MethodName := ⟨RL, "tiltIn", "(LPlumbOpinions;II)I"⟩
abbrev cL_restsIn : ByteArray := method_22_code
abbrev yL_restsIn : MethodName := ⟨RL, "restsIn", "(LPlumbOpinions;)I"⟩
abbrev cL_breaksIn : ByteArray := method_23_code
abbrev yL_breaksIn : MethodName := ⟨RL, "breaksIn", "(LPlumbOpinions;I)I"⟩
abbrev cL_camp : ByteArray := method_24_code
abbrev yL_camp : MethodName := ⟨RL, "camp", "(LPlumbOpinions;I)I"⟩
abbrev cL_greatest : ByteArray := method_25_code
abbrev yL_greatest : MethodName := ⟨RL, "greatest", "(LPlumbOpinions;Z)I"⟩
abbrev cL_ranked : ByteArray := method_26_code
abbrev yL_ranked : MethodName := ⟨RL, "ranked", "(LPlumbOpinions;II)I"⟩
abbrev cL_weakest : ByteArray := method_27_code
abbrev yL_weakest : MethodName := ⟨RL, "weakest", "(LPlumbOpinions;I)I"⟩
abbrev cL_append : ByteArray := method_28_code
abbrev yL_append : MethodName := ⟨RL, "append", "(LPlumbOpinions;C)I"⟩
abbrev cL_commands : ByteArray := method_29_code
abbrev yL_commands : MethodName := ⟨RL, "commands", "(LPlumbOpinions;)I"⟩
abbrev cL_reason : ByteArray := method_30_code
abbrev yL_reason : MethodName := ⟨RL, "reason", "(LPlumbOpinions;I)I"⟩
abbrev cL_line : ByteArray := method_31_code
abbrev yL_line : MethodName := ⟨RL, "line", "(LPlumbOpinions;I)I"⟩
abbrev cL_character : ByteArray := method_32_code
abbrev yL_character : MethodName := ⟨RL, "character", "(LPlumbOpinions;I)I"⟩
abbrev cL_meanTilt : ByteArray := method_33_code
abbrev yL_meanTilt : MethodName := ⟨RL, "meanTilt", "(LPlumbOpinions;)D"⟩
abbrev cL_plumbShare : ByteArray := method_34_code
abbrev yL_plumbShare : MethodName := ⟨RL, "plumbShare", "(LPlumbOpinions;)F"⟩
abbrev cL_account : ByteArray := method_35_code
abbrev yL_account : MethodName := ⟨RL, "account", "(LPlumbOpinions;I)I"⟩
abbrev cL_undo : ByteArray := method_36_code
abbrev yL_undo : MethodName := ⟨RL, "undo", "(LPlumbOpinions;)I"⟩
abbrev cL_restore : ByteArray := method_37_code
abbrev yL_restore : MethodName := ⟨RL, "restore", "(LPlumbOpinions;)I"⟩
abbrev cL_runs : ByteArray := method_38_code
abbrev yL_runs : MethodName := ⟨RL, "runs", "(LPlumbOpinions;Ljava/lang/String;)I"⟩
abbrev cL_is : ByteArray := method_39_code
abbrev yL_is : MethodName := ⟨RL, "is", "(LPlumbOpinions;II)Z"⟩
abbrev cL_isAt : ByteArray := method_40_code
abbrev yL_isAt : MethodName := ⟨RL, "isAt", "(LPlumbOpinions;III)Z"⟩
abbrev cL_makes : ByteArray := method_42_code
abbrev yL_makes : MethodName := ⟨RL, "makes", "(LPlumbOpinions;[I)Z"⟩
abbrev cL_asks : ByteArray := method_43_code
abbrev yL_asks : MethodName := ⟨RL, "asks", "(LPlumbOpinions;)J"⟩
abbrev cL_changes : ByteArray := method_44_code
abbrev yL_changes : MethodName := ⟨RL, "changes", "(LPlumbOpinions;I)Z"⟩
abbrev cL_refused : ByteArray := method_45_code
abbrev yL_refused : MethodName := ⟨RL, "refused", "(LPlumbOpinions;)Z"⟩
abbrev cL_law : ByteArray := code
abbrev yL_law : MethodName := ⟨RL, "law", "([I)Z"⟩
