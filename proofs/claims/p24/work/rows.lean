section
-- ===== PART A: goes FIRST, ahead of the names: the tables' words, and 'selects' of the private methods out of them =====
/-- a private method of a class that the tables say can be made, by its rows of tables_1 -/
def lw_okq (q : MethodName × Nat) : Prop := (q.1.cls ≠ "java/lang/invoke/MethodHandle" ∧ q.1.cls ≠ "java/lang/invoke/VarHandle") ∧ Cond.instantiable q.1.cls q.2 ∈ tables_1 ∧ Cond.privateMethod q.1 ∈ tables_1 ∧ Cond.instanceMethod q.1 ∈ tables_1
theorem lw_p0 : lw_okq (⟨"HexBilliards$History", "dropOldest", "()V"⟩, 2) := ⟨⟨by decide +kernel, by decide +kernel⟩, List.mem_of_getElem? (i := 92) (by decide +kernel), List.mem_of_getElem? (i := 274) (by decide +kernel), List.mem_of_getElem? (i := 275) (by decide +kernel)⟩
theorem lw_p1 : lw_okq (⟨"HexBilliards$BallText", "takes", "(C)Z"⟩, 7) := ⟨⟨by decide +kernel, by decide +kernel⟩, List.mem_of_getElem? (i := 109) (by decide +kernel), List.mem_of_getElem? (i := 356) (by decide +kernel), List.mem_of_getElem? (i := 357) (by decide +kernel)⟩
theorem lw_p2 : lw_okq (⟨"HexBilliards$BallText", "beginsNumber", "(CCI)Z"⟩, 7) := ⟨⟨by decide +kernel, by decide +kernel⟩, List.mem_of_getElem? (i := 109) (by decide +kernel), List.mem_of_getElem? (i := 360) (by decide +kernel), List.mem_of_getElem? (i := 361) (by decide +kernel)⟩
theorem lw_p3 : lw_okq (⟨"HexBilliards$BallText", "endsCell", "()Z"⟩, 7) := ⟨⟨by decide +kernel, by decide +kernel⟩, List.mem_of_getElem? (i := 109) (by decide +kernel), List.mem_of_getElem? (i := 364) (by decide +kernel), List.mem_of_getElem? (i := 365) (by decide +kernel)⟩
theorem lw_p4 : lw_okq (⟨"HexBilliards$BallText", "growsNumber", "(CI)Z"⟩, 7) := ⟨⟨by decide +kernel, by decide +kernel⟩, List.mem_of_getElem? (i := 109) (by decide +kernel), List.mem_of_getElem? (i := 368) (by decide +kernel), List.mem_of_getElem? (i := 369) (by decide +kernel)⟩
theorem lw_p5 : lw_okq (⟨"HexBilliards$BallText", "endBall", "()Z"⟩, 7) := ⟨⟨by decide +kernel, by decide +kernel⟩, List.mem_of_getElem? (i := 109) (by decide +kernel), List.mem_of_getElem? (i := 372) (by decide +kernel), List.mem_of_getElem? (i := 373) (by decide +kernel)⟩
theorem lw_p6 : lw_okq (⟨"HexBilliards", "tryShot", "(IIII)V"⟩, 7) := ⟨⟨by decide +kernel, by decide +kernel⟩, List.mem_of_getElem? (i := 12) (by decide +kernel), List.mem_of_getElem? (i := 441) (by decide +kernel), List.mem_of_getElem? (i := 442) (by decide +kernel)⟩
theorem lw_p7 : lw_okq (⟨"HexBilliards$Shot", "bank", "(LHexBilliards$State;)V"⟩, 9) := ⟨⟨by decide +kernel, by decide +kernel⟩, List.mem_of_getElem? (i := 140) (by decide +kernel), List.mem_of_getElem? (i := 471) (by decide +kernel), List.mem_of_getElem? (i := 472) (by decide +kernel)⟩
theorem lw_p8 : lw_okq (⟨"HexBilliards$Shot", "slow", "(I)V"⟩, 9) := ⟨⟨by decide +kernel, by decide +kernel⟩, List.mem_of_getElem? (i := 140) (by decide +kernel), List.mem_of_getElem? (i := 475) (by decide +kernel), List.mem_of_getElem? (i := 476) (by decide +kernel)⟩
theorem lw_p9 : lw_okq (⟨"HexBilliards$Shot", "step", "(LHexBilliards$State;I)V"⟩, 9) := ⟨⟨by decide +kernel, by decide +kernel⟩, List.mem_of_getElem? (i := 140) (by decide +kernel), List.mem_of_getElem? (i := 499) (by decide +kernel), List.mem_of_getElem? (i := 500) (by decide +kernel)⟩
theorem lw_p10 : lw_okq (⟨"HexBilliards$Shot", "hit", "(LHexBilliards$State;I)V"⟩, 9) := ⟨⟨by decide +kernel, by decide +kernel⟩, List.mem_of_getElem? (i := 140) (by decide +kernel), List.mem_of_getElem? (i := 518) (by decide +kernel), List.mem_of_getElem? (i := 519) (by decide +kernel)⟩
def lw_privs_1 : List (MethodName × Nat) := [(⟨"HexBilliards$History", "dropOldest", "()V"⟩, 2), (⟨"HexBilliards$BallText", "takes", "(C)Z"⟩, 7), (⟨"HexBilliards$BallText", "beginsNumber", "(CCI)Z"⟩, 7), (⟨"HexBilliards$BallText", "endsCell", "()Z"⟩, 7), (⟨"HexBilliards$BallText", "growsNumber", "(CI)Z"⟩, 7), (⟨"HexBilliards$BallText", "endBall", "()Z"⟩, 7), (⟨"HexBilliards", "tryShot", "(IIII)V"⟩, 7), (⟨"HexBilliards$Shot", "bank", "(LHexBilliards$State;)V"⟩, 9), (⟨"HexBilliards$Shot", "slow", "(I)V"⟩, 9), (⟨"HexBilliards$Shot", "step", "(LHexBilliards$State;I)V"⟩, 9), (⟨"HexBilliards$Shot", "hit", "(LHexBilliards$State;I)V"⟩, 9)]
theorem lw_r1 : ∀ q ∈ lw_privs_1, lw_okq q := List.forall_mem_cons.mpr ⟨lw_p0, List.forall_mem_cons.mpr ⟨lw_p1, List.forall_mem_cons.mpr ⟨lw_p2, List.forall_mem_cons.mpr ⟨lw_p3, List.forall_mem_cons.mpr ⟨lw_p4, List.forall_mem_cons.mpr ⟨lw_p5, List.forall_mem_cons.mpr ⟨lw_p6, List.forall_mem_cons.mpr ⟨lw_p7, List.forall_mem_cons.mpr ⟨lw_p8, List.forall_mem_cons.mpr ⟨lw_p9, List.forall_mem_cons.mpr ⟨lw_p10, fun _ h => absurd h List.not_mem_nil⟩⟩⟩⟩⟩⟩⟩⟩⟩⟩⟩
def lw_privs : List (MethodName × Nat) := lw_privs_1
def lw_tbl : List Cond := k2_sels lw_privs ++ tables_1
theorem lw_privs_ok : ∀ q ∈ lw_privs, lw_okq q := lw_r1
/-- the streams that the claim lets the run draw from -/
abbrev lw_cs : List Choice := [Jvm.Choice.named "NaN.bits"]
theorem lw_bits : nanBits ∈ lw_cs := by first | decide | exact List.mem_cons_self | simp [lw_cs, nanBits]
-- ===== end of PART A; then your names; then what follows =====
/-! ===== BEGIN printed: names, fields, word lists, decode rows ===== -/
def RX0 : String := "HexBilliards$BallText"
def TX0 : u_T := fun k => match k with
  | 0 => ("HexBilliards$BallText", "characters", "[C", true)
  | 1 => ("HexBilliards$BallText", "length", "I", false)
  | 2 => ("HexBilliards$BallText", "cells", "[I", true)
  | 3 => ("HexBilliards$BallText", "values", "[I", true)
  | 4 => ("HexBilliards$BallText", "balls", "I", false)
  | 5 => ("HexBilliards$BallText", "place", "I", false)
  | _ => ("HexBilliards$BallText", "number", "I", false)
def tyX0 : Nat → FieldType := fun k => match k with
  | 0 => .array .char
  | 1 => .int
  | 2 => .array .int
  | 3 => .array .int
  | 4 => .int
  | 5 => .int
  | _ => .int
abbrev wsX00 : List Cond := u_ws RX0 TX0 7
theorem nmX0 : ∀ a, a < 7 → ∀ b, b < 7 → a ≠ b → (TX0 a).2.1 ≠ (TX0 b).2.1 := by decide +kernel
theorem tyX0_ok : ∀ k, k < 7 → parseFieldDescriptor (TX0 k).2.2.1 = some (tyX0 k) := by decide +kernel
abbrev cX0_init : ByteArray := prog_2_method_1_code
def yX0_init : MethodName := ⟨RX0, "<init>", "()V"⟩
abbrev cX0_append : ByteArray := prog_2_method_2_code
def yX0_append : MethodName := ⟨RX0, "append", "(C)Z"⟩
abbrev cX0_cellOfBall : ByteArray := prog_2_method_3_code
def yX0_cellOfBall : MethodName := ⟨RX0, "cellOfBall", "(I)I"⟩
abbrev cX0_valueOfBall : ByteArray := prog_2_method_4_code
def yX0_valueOfBall : MethodName := ⟨RX0, "valueOfBall", "(I)I"⟩
abbrev cX0_read : ByteArray := prog_2_method_5_code
def yX0_read : MethodName := ⟨RX0, "read", "()I"⟩
abbrev cX0_takes : ByteArray := prog_2_method_6_code
def yX0_takes : MethodName := ⟨RX0, "takes", "(C)Z"⟩
abbrev cX0_beginsNumber : ByteArray := prog_2_method_7_code
def yX0_beginsNumber : MethodName := ⟨RX0, "beginsNumber", "(CCI)Z"⟩
abbrev cX0_growsNumber : ByteArray := prog_2_method_8_code
def yX0_growsNumber : MethodName := ⟨RX0, "growsNumber", "(CI)Z"⟩
abbrev cX0_endsCell : ByteArray := prog_2_method_9_code
def yX0_endsCell : MethodName := ⟨RX0, "endsCell", "()Z"⟩
abbrev cX0_endBall : ByteArray := prog_2_method_10_code
def yX0_endBall : MethodName := ⟨RX0, "endBall", "()Z"⟩
def RX1 : String := "HexBilliards$Felt"
def TX1 : u_T := fun k => match k with
  | _ => ("", "", "", false)
def tyX1 : Nat → FieldType := fun k => match k with
  | _ => .int
abbrev wsX10 : List Cond := u_ws RX1 TX1 0
theorem nmX1 : ∀ a, a < 0 → ∀ b, b < 0 → a ≠ b → (TX1 a).2.1 ≠ (TX1 b).2.1 := by decide +kernel
theorem tyX1_ok : ∀ k, k < 0 → parseFieldDescriptor (TX1 k).2.2.1 = some (tyX1 k) := by decide +kernel
abbrev cX1_isCell : ByteArray := prog_3_method_2_code
def yX1_isCell : MethodName := ⟨RX1, "isCell", "(I)Z"⟩
abbrev cX1_isDirection : ByteArray := prog_3_method_3_code
def yX1_isDirection : MethodName := ⟨RX1, "isDirection", "(I)Z"⟩
abbrev cX1_isOut : ByteArray := prog_3_method_4_code
def yX1_isOut : MethodName := ⟨RX1, "isOut", "(I)Z"⟩
abbrev cX1_cellAt : ByteArray := prog_3_method_5_code
def yX1_cellAt : MethodName := ⟨RX1, "cellAt", "(II)I"⟩
abbrev cX1_firstColumn : ByteArray := prog_3_method_6_code
def yX1_firstColumn : MethodName := ⟨RX1, "firstColumn", "(I)I"⟩
abbrev cX1_rowOf : ByteArray := prog_3_method_7_code
def yX1_rowOf : MethodName := ⟨RX1, "rowOf", "(I)I"⟩
abbrev cX1_columnOf : ByteArray := prog_3_method_8_code
def yX1_columnOf : MethodName := ⟨RX1, "columnOf", "(I)I"⟩
abbrev cX1_stepQ : ByteArray := prog_3_method_9_code
def yX1_stepQ : MethodName := ⟨RX1, "stepQ", "(I)I"⟩
abbrev cX1_stepR : ByteArray := prog_3_method_10_code
def yX1_stepR : MethodName := ⟨RX1, "stepR", "(I)I"⟩
abbrev cX1_turned : ByteArray := prog_3_method_11_code
def yX1_turned : MethodName := ⟨RX1, "turned", "(II)I"⟩
abbrev cX1_cornerOf : ByteArray := prog_3_method_12_code
def yX1_cornerOf : MethodName := ⟨RX1, "cornerOf", "(I)I"⟩
abbrev cX1_cellsBeside : ByteArray := prog_3_method_13_code
def yX1_cellsBeside : MethodName := ⟨RX1, "cellsBeside", "(I)I"⟩
def RX2 : String := "HexBilliards$History"
def TX2 : u_T := fun k => match k with
  | 0 => ("HexBilliards$History", "states", "[LHexBilliards$State;", true)
  | _ => ("HexBilliards$History", "size", "I", false)
def tyX2 : Nat → FieldType := fun k => match k with
  | 0 => .array (.object "HexBilliards$State")
  | _ => .int
abbrev wsX20 : List Cond := u_ws RX2 TX2 2
theorem nmX2 : ∀ a, a < 2 → ∀ b, b < 2 → a ≠ b → (TX2 a).2.1 ≠ (TX2 b).2.1 := by decide +kernel
theorem tyX2_ok : ∀ k, k < 2 → parseFieldDescriptor (TX2 k).2.2.1 = some (tyX2 k) := by decide +kernel
abbrev cX2_init : ByteArray := prog_4_method_1_code
def yX2_init : MethodName := ⟨RX2, "<init>", "()V"⟩
abbrev cX2_record : ByteArray := prog_4_method_2_code
def yX2_record : MethodName := ⟨RX2, "record", "(LHexBilliards$State;)V"⟩
abbrev cX2_dropOldest : ByteArray := prog_4_method_4_code
def yX2_dropOldest : MethodName := ⟨RX2, "dropOldest", "()V"⟩
def RX3 : String := "HexBilliards$Shot"
def TX3 : u_T := fun k => match k with
  | 0 => ("HexBilliards$Shot", "walker", "LHexBilliards$Walker;", true)
  | 1 => ("HexBilliards$Shot", "mover", "I", false)
  | 2 => ("HexBilliards$Shot", "speed", "F", false)
  | 3 => ("HexBilliards$Shot", "spin", "I", false)
  | 4 => ("HexBilliards$Shot", "thirds", "I", false)
  | 5 => ("HexBilliards$Shot", "steps", "I", false)
  | 6 => ("HexBilliards$Shot", "banks", "I", false)
  | 7 => ("HexBilliards$Shot", "hits", "I", false)
  | _ => ("HexBilliards$Shot", "gone", "I", false)
def tyX3 : Nat → FieldType := fun k => match k with
  | 0 => .object "HexBilliards$Walker"
  | 1 => .int
  | 2 => .float
  | 3 => .int
  | 4 => .int
  | 5 => .int
  | 6 => .int
  | 7 => .int
  | _ => .int
abbrev wsX30 : List Cond := u_ws RX3 TX3 9
theorem nmX3 : ∀ a, a < 9 → ∀ b, b < 9 → a ≠ b → (TX3 a).2.1 ≠ (TX3 b).2.1 := by decide +kernel
theorem tyX3_ok : ∀ k, k < 9 → parseFieldDescriptor (TX3 k).2.2.1 = some (tyX3 k) := by decide +kernel
abbrev cX3_init : ByteArray := prog_5_method_1_code
def yX3_init : MethodName := ⟨RX3, "<init>", "()V"⟩
abbrev cX3_play : ByteArray := prog_5_method_2_code
def yX3_play : MethodName := ⟨RX3, "play", "(LHexBilliards$State;IIII)V"⟩
abbrev cX3_bank : ByteArray := prog_5_method_3_code
def yX3_bank : MethodName := ⟨RX3, "bank", "(LHexBilliards$State;)V"⟩
abbrev cX3_hit : ByteArray := prog_5_method_4_code
def yX3_hit : MethodName := ⟨RX3, "hit", "(LHexBilliards$State;I)V"⟩
abbrev cX3_step : ByteArray := prog_5_method_5_code
def yX3_step : MethodName := ⟨RX3, "step", "(LHexBilliards$State;I)V"⟩
abbrev cX3_slow : ByteArray := prog_5_method_6_code
def yX3_slow : MethodName := ⟨RX3, "slow", "(I)V"⟩
def RX4 : String := "HexBilliards$State"
def TX4 : u_T := fun k => match k with
  | 0 => ("HexBilliards$State", "cellOf", "[I", true)
  | 1 => ("HexBilliards$State", "valueOf", "[I", true)
  | 2 => ("HexBilliards$State", "stepsOf", "[I", true)
  | 3 => ("HexBilliards$State", "banksOf", "[I", true)
  | 4 => ("HexBilliards$State", "hitsOf", "[I", true)
  | 5 => ("HexBilliards$State", "ballOn", "[I", true)
  | 6 => ("HexBilliards$State", "settings", "[I", true)
  | 7 => ("HexBilliards$State", "scores", "[I", true)
  | 8 => ("HexBilliards$State", "ballsSoFar", "I", false)
  | 9 => ("HexBilliards$State", "openPots", "I", false)
  | 10 => ("HexBilliards$State", "turn", "I", false)
  | 11 => ("HexBilliards$State", "run", "I", false)
  | 12 => ("HexBilliards$State", "shots", "I", false)
  | _ => ("HexBilliards$State", "goneByShots", "I", false)
def tyX4 : Nat → FieldType := fun k => match k with
  | 0 => .array .int
  | 1 => .array .int
  | 2 => .array .int
  | 3 => .array .int
  | 4 => .array .int
  | 5 => .array .int
  | 6 => .array .int
  | 7 => .array .int
  | 8 => .int
  | 9 => .int
  | 10 => .int
  | 11 => .int
  | 12 => .int
  | _ => .int
abbrev wsX40 : List Cond := u_ws RX4 TX4 14
theorem nmX4 : ∀ a, a < 14 → ∀ b, b < 14 → a ≠ b → (TX4 a).2.1 ≠ (TX4 b).2.1 := by decide +kernel
theorem tyX4_ok : ∀ k, k < 14 → parseFieldDescriptor (TX4 k).2.2.1 = some (tyX4 k) := by decide +kernel
abbrev cX4_init : ByteArray := prog_6_method_1_code
def yX4_init : MethodName := ⟨RX4, "<init>", "()V"⟩
abbrev cX4_copyFrom : ByteArray := prog_6_method_2_code
def yX4_copyFrom : MethodName := ⟨RX4, "copyFrom", "(LHexBilliards$State;)V"⟩
abbrev cX4_isBallNumber : ByteArray := prog_6_method_3_code
def yX4_isBallNumber : MethodName := ⟨RX4, "isBallNumber", "(I)Z"⟩
abbrev cX4_total : ByteArray := prog_6_method_4_code
def yX4_total : MethodName := ⟨RX4, "total", "([I)I"⟩
abbrev cX4_hasBall : ByteArray := prog_6_method_5_code
def yX4_hasBall : MethodName := ⟨RX4, "hasBall", "(I)Z"⟩
abbrev cX4_cellOfBall : ByteArray := prog_6_method_6_code
def yX4_cellOfBall : MethodName := ⟨RX4, "cellOfBall", "(I)I"⟩
abbrev cX4_valueOfBall : ByteArray := prog_6_method_7_code
def yX4_valueOfBall : MethodName := ⟨RX4, "valueOfBall", "(I)I"⟩
abbrev cX4_ballOnCell : ByteArray := prog_6_method_8_code
def yX4_ballOnCell : MethodName := ⟨RX4, "ballOnCell", "(I)I"⟩
abbrev cX4_ballsOnFelt : ByteArray := prog_6_method_9_code
def yX4_ballsOnFelt : MethodName := ⟨RX4, "ballsOnFelt", "()I"⟩
abbrev cX4_isOpenPot : ByteArray := prog_6_method_10_code
def yX4_isOpenPot : MethodName := ⟨RX4, "isOpenPot", "(I)Z"⟩
abbrev cX4_refusalToAdd : ByteArray := prog_6_method_11_code
def yX4_refusalToAdd : MethodName := ⟨RX4, "refusalToAdd", "(I)I"⟩
abbrev cX4_addBall : ByteArray := prog_6_method_12_code
def yX4_addBall : MethodName := ⟨RX4, "addBall", "(II)I"⟩
abbrev cX4_place : ByteArray := prog_6_method_13_code
def yX4_place : MethodName := ⟨RX4, "place", "(II)V"⟩
abbrev cX4_lift : ByteArray := prog_6_method_14_code
def yX4_lift : MethodName := ⟨RX4, "lift", "(I)V"⟩
abbrev cX4_addStep : ByteArray := prog_6_method_15_code
def yX4_addStep : MethodName := ⟨RX4, "addStep", "(I)V"⟩
abbrev cX4_addBank : ByteArray := prog_6_method_16_code
def yX4_addBank : MethodName := ⟨RX4, "addBank", "(I)V"⟩
abbrev cX4_addHit : ByteArray := prog_6_method_17_code
def yX4_addHit : MethodName := ⟨RX4, "addHit", "(I)V"⟩
abbrev cX4_scoreShot : ByteArray := prog_6_method_18_code
def yX4_scoreShot : MethodName := ⟨RX4, "scoreShot", "(I)V"⟩
abbrev cX4_changeTurn : ByteArray := prog_6_method_19_code
def yX4_changeTurn : MethodName := ⟨RX4, "changeTurn", "()V"⟩
def RX5 : String := "HexBilliards$Walker"
def TX5 : u_T := fun k => match k with
  | 0 => ("HexBilliards$Walker", "q", "I", false)
  | 1 => ("HexBilliards$Walker", "r", "I", false)
  | _ => ("HexBilliards$Walker", "direction", "I", false)
def tyX5 : Nat → FieldType := fun k => match k with
  | 0 => .int
  | 1 => .int
  | _ => .int
abbrev wsX50 : List Cond := u_ws RX5 TX5 3
theorem nmX5 : ∀ a, a < 3 → ∀ b, b < 3 → a ≠ b → (TX5 a).2.1 ≠ (TX5 b).2.1 := by decide +kernel
theorem tyX5_ok : ∀ k, k < 3 → parseFieldDescriptor (TX5 k).2.2.1 = some (tyX5 k) := by decide +kernel
abbrev cX5_init : ByteArray := prog_7_method_1_code
def yX5_init : MethodName := ⟨RX5, "<init>", "()V"⟩
abbrev cX5_startAt : ByteArray := prog_7_method_2_code
def yX5_startAt : MethodName := ⟨RX5, "startAt", "(II)V"⟩
abbrev cX5_cellAhead : ByteArray := prog_7_method_3_code
def yX5_cellAhead : MethodName := ⟨RX5, "cellAhead", "()I"⟩
abbrev cX5_stepAhead : ByteArray := prog_7_method_4_code
def yX5_stepAhead : MethodName := ⟨RX5, "stepAhead", "()V"⟩
abbrev cX5_turnAtBank : ByteArray := prog_7_method_5_code
def yX5_turnAtBank : MethodName := ⟨RX5, "turnAtBank", "()V"⟩
abbrev cX5_turnOnIfOpen : ByteArray := prog_7_method_6_code
def yX5_turnOnIfOpen : MethodName := ⟨RX5, "turnOnIfOpen", "()V"⟩
abbrev cX5_walk : ByteArray := prog_7_method_7_code
def yX5_walk : MethodName := ⟨RX5, "walk", "(I)V"⟩
def RX6 : String := "HexBilliards"
def TX6 : u_T := fun k => match k with
  | 0 => ("HexBilliards", "state", "LHexBilliards$State;", true)
  | 1 => ("HexBilliards", "snapshot", "LHexBilliards$State;", true)
  | 2 => ("HexBilliards", "trial", "LHexBilliards$State;", true)
  | 3 => ("HexBilliards", "history", "LHexBilliards$History;", true)
  | 4 => ("HexBilliards", "text", "LHexBilliards$BallText;", true)
  | 5 => ("HexBilliards", "shot", "LHexBilliards$Shot;", true)
  | _ => ("HexBilliards", "hasSnapshot", "Z", false)
def tyX6 : Nat → FieldType := fun k => match k with
  | 0 => .object "HexBilliards$State"
  | 1 => .object "HexBilliards$State"
  | 2 => .object "HexBilliards$State"
  | 3 => .object "HexBilliards$History"
  | 4 => .object "HexBilliards$BallText"
  | 5 => .object "HexBilliards$Shot"
  | _ => .boolean
abbrev wsX60 : List Cond := u_ws RX6 TX6 7
theorem nmX6 : ∀ a, a < 7 → ∀ b, b < 7 → a ≠ b → (TX6 a).2.1 ≠ (TX6 b).2.1 := by decide +kernel
theorem tyX6_ok : ∀ k, k < 7 → parseFieldDescriptor (TX6 k).2.2.1 = some (tyX6 k) := by decide +kernel
abbrev cX6_init : ByteArray := prog_1_method_1_code
def yX6_init : MethodName := ⟨RX6, "<init>", "()V"⟩
abbrev cX6_put : ByteArray := prog_1_method_2_code
def yX6_put : MethodName := ⟨RX6, "put", "(II)I"⟩
abbrev cX6_putAll : ByteArray := prog_1_method_3_code
def yX6_putAll : MethodName := ⟨RX6, "putAll", "()I"⟩
abbrev cX6_move : ByteArray := prog_1_method_4_code
def yX6_move : MethodName := ⟨RX6, "move", "(II)I"⟩
abbrev cX6_takeOff : ByteArray := prog_1_method_5_code
def yX6_takeOff : MethodName := ⟨RX6, "takeOff", "(I)I"⟩
abbrev cX6_setPots : ByteArray := prog_1_method_6_code
def yX6_setPots : MethodName := ⟨RX6, "setPots", "(I)I"⟩
abbrev cX6_set : ByteArray := prog_1_method_7_code
def yX6_set : MethodName := ⟨RX6, "set", "(II)I"⟩
abbrev cX6_shoot : ByteArray := prog_1_method_8_code
def yX6_shoot : MethodName := ⟨RX6, "shoot", "(IIIII)I"⟩
abbrev cX6_pass : ByteArray := prog_1_method_9_code
def yX6_pass : MethodName := ⟨RX6, "pass", "(I)I"⟩
abbrev cX6_type : ByteArray := prog_1_method_10_code
def yX6_type : MethodName := ⟨RX6, "type", "(C)I"⟩
abbrev cX6_clearText : ByteArray := prog_1_method_11_code
def yX6_clearText : MethodName := ⟨RX6, "clearText", "()I"⟩
abbrev cX6_cell : ByteArray := prog_1_method_15_code
def yX6_cell : MethodName := ⟨RX6, "cell", "(II)I"⟩
abbrev cX6_ofCell : ByteArray := prog_1_method_16_code
def yX6_ofCell : MethodName := ⟨RX6, "ofCell", "(II)I"⟩
abbrev cX6_ball : ByteArray := prog_1_method_17_code
def yX6_ball : MethodName := ⟨RX6, "ball", "(II)I"⟩
abbrev cX6_would : ByteArray := prog_1_method_18_code
def yX6_would : MethodName := ⟨RX6, "would", "(IIIII)I"⟩
abbrev cX6_speedLeft : ByteArray := prog_1_method_19_code
def yX6_speedLeft : MethodName := ⟨RX6, "speedLeft", "(IIII)F"⟩
abbrev cX6_along : ByteArray := prog_1_method_20_code
def yX6_along : MethodName := ⟨RX6, "along", "(IIIZ)I"⟩
abbrev cX6_best : ByteArray := prog_1_method_21_code
def yX6_best : MethodName := ⟨RX6, "best", "(III)I"⟩
abbrev cX6_count : ByteArray := prog_1_method_22_code
def yX6_count : MethodName := ⟨RX6, "count", "(I)I"⟩
abbrev cX6_isPlayer : ByteArray := prog_1_method_23_code
def yX6_isPlayer : MethodName := ⟨RX6, "isPlayer", "(I)Z"⟩
abbrev cX6_isShot : ByteArray := prog_1_method_24_code
def yX6_isShot : MethodName := ⟨RX6, "isShot", "(III)Z"⟩
abbrev cX6_isForce : ByteArray := prog_1_method_25_code
def yX6_isForce : MethodName := ⟨RX6, "isForce", "(II)Z"⟩
abbrev cX6_tryShot : ByteArray := prog_1_method_26_code
def yX6_tryShot : MethodName := ⟨RX6, "tryShot", "(IIII)V"⟩
def RX7 : String := "HexBilliardsModel"
def TX7 : u_T := fun k => match k with
  | _ => ("", "", "", false)
def tyX7 : Nat → FieldType := fun k => match k with
  | _ => .int
abbrev wsX70 : List Cond := u_ws RX7 TX7 0
theorem nmX7 : ∀ a, a < 0 → ∀ b, b < 0 → a ≠ b → (TX7 a).2.1 ≠ (TX7 b).2.1 := by decide +kernel
theorem tyX7_ok : ∀ k, k < 0 → parseFieldDescriptor (TX7 k).2.2.1 = some (tyX7 k) := by decide +kernel
def RJ9 : String := "java/lang/Math"
def TJ9 : u_T := fun k => match k with
  | _ => ("", "", "", false)
def tyJ9 : Nat → FieldType := fun k => match k with
  | _ => .int
abbrev wsJ90 : List Cond := u_ws RJ9 TJ9 0
theorem nmJ9 : ∀ a, a < 0 → ∀ b, b < 0 → a ≠ b → (TJ9 a).2.1 ≠ (TJ9 b).2.1 := by decide +kernel
theorem tyJ9_ok : ∀ k, k < 0 → parseFieldDescriptor (TJ9 k).2.2.1 = some (tyJ9 k) := by decide +kernel
abbrev cJ9_floorMod_7cf53 : ByteArray := prog_10_method_50_code
def yJ9_floorMod_7cf53 : MethodName := ⟨RJ9, "floorMod", "(II)I"⟩
def RJ10 : String := "java/lang/System"
def TJ10 : u_T := fun k => match k with
  | _ => ("", "", "", false)
def tyJ10 : Nat → FieldType := fun k => match k with
  | _ => .int
abbrev wsJ100 : List Cond := u_ws RJ10 TJ10 0
theorem nmJ10 : ∀ a, a < 0 → ∀ b, b < 0 → a ≠ b → (TJ10 a).2.1 ≠ (TJ10 b).2.1 := by decide +kernel
theorem tyJ10_ok : ∀ k, k < 0 → parseFieldDescriptor (TJ10 k).2.2.1 = some (tyJ10 k) := by decide +kernel
def RJ7 : String := "java/util/Arrays"
def TJ7 : u_T := fun k => match k with
  | _ => ("", "", "", false)
def tyJ7 : Nat → FieldType := fun k => match k with
  | _ => .int
abbrev wsJ70 : List Cond := u_ws RJ7 TJ7 0
theorem nmJ7 : ∀ a, a < 0 → ∀ b, b < 0 → a ≠ b → (TJ7 a).2.1 ≠ (TJ7 b).2.1 := by decide +kernel
theorem tyJ7_ok : ∀ k, k < 0 → parseFieldDescriptor (TJ7 k).2.2.1 = some (tyJ7 k) := by decide +kernel
abbrev cJ7_fill_53178 : ByteArray := prog_12_method_103_code
def yJ7_fill_53178 : MethodName := ⟨RJ7, "fill", "([II)V"⟩
def RL : String := "HexBilliardsLaw"
abbrev cL_cell : ByteArray := method_2_code
def yL_cell : MethodName := ⟨RL, "cell", "([II)I"⟩
abbrev cL_up : ByteArray := method_3_code
def yL_up : MethodName := ⟨RL, "up", "(II)I"⟩
abbrev cL_there : ByteArray := method_4_code
def yL_there : MethodName := ⟨RL, "there", "(I)I"⟩
abbrev cL_way : ByteArray := method_5_code
def yL_way : MethodName := ⟨RL, "way", "(I)I"⟩
abbrev cL_pots : ByteArray := method_6_code
def yL_pots : MethodName := ⟨RL, "pots", "(I)I"⟩
abbrev cL_number : ByteArray := method_7_code
def yL_number : MethodName := ⟨RL, "number", "(LHexBilliards;I)Z"⟩
abbrev cL_isStep : ByteArray := method_8_code
def yL_isStep : MethodName := ⟨RL, "isStep", "(LHexBilliards;LHexBilliards;II)Z"⟩
abbrev cL_isShot : ByteArray := method_9_code
def yL_isShot : MethodName := ⟨RL, "isShot", "(LHexBilliards;LHexBilliards;III)Z"⟩
abbrev cL_areAlike : ByteArray := method_10_code
def yL_areAlike : MethodName := ⟨RL, "areAlike", "(LHexBilliards;LHexBilliards;I)Z"⟩
abbrev cL_isWell : ByteArray := method_11_code
def yL_isWell : MethodName := ⟨RL, "isWell", "(LHexBilliards;I)Z"⟩
abbrev cL_law : ByteArray := code
def yL_law : MethodName := ⟨RL, "law", "([I)Z"⟩
abbrev vwCl : List vw_C := [(RX0, TX0, 7), (RX2, TX2, 2), (RX3, TX3, 9), (RX4, TX4, 14), (RX5, TX5, 3), (RX6, TX6, 7)]
/-- the words that every method of ours may ask for: all good words of the tables -/
def T0 : List Cond := lw_tbl.filter goodWord
theorem T0_tbl : ∀ w ∈ T0, w ∈ lw_tbl := fun _ h => (List.mem_filter.mp h).1
theorem T0_good : ∀ w ∈ T0, goodWord w = true := fun _ h => (List.mem_filter.mp h).2
theorem T0_in (c : Cond) : ∀ {ws : List Cond}, (∀ w ∈ ws, w ∈ T0) → GoodIn (c :: T0) ws := fun h w hw => ⟨List.mem_cons_of_mem _ (h w hw), good_of_word (T0_good w (h w hw))⟩
theorem T0_k1 : ∀ {w : Cond}, w ∈ tables_1_1 → goodWord w = true → w ∈ T0 := fun h g => List.mem_filter.mpr ⟨List.mem_append_right _ (List.mem_append_left _ h), g⟩
theorem T0_k2 : ∀ {w : Cond}, w ∈ tables_1_2 → goodWord w = true → w ∈ T0 := fun h g => List.mem_filter.mpr ⟨List.mem_append_right _ (List.mem_append_right _ (List.mem_append_left _ h)), g⟩
theorem T0_k3 : ∀ {w : Cond}, w ∈ tables_1_3 → goodWord w = true → w ∈ T0 := fun h g => List.mem_filter.mpr ⟨List.mem_append_right _ (List.mem_append_right _ (List.mem_append_right _ h)), g⟩
theorem lt_k1 : ∀ {w : Cond}, w ∈ tables_1_1 → w ∈ lw_tbl := fun h => List.mem_append_right _ (List.mem_append_left _ h)
theorem lt_k2 : ∀ {w : Cond}, w ∈ tables_1_2 → w ∈ lw_tbl := fun h => List.mem_append_right _ (List.mem_append_right _ (List.mem_append_left _ h))
theorem lt_k3 : ∀ {w : Cond}, w ∈ tables_1_3 → w ∈ lw_tbl := fun h => List.mem_append_right _ (List.mem_append_right _ (List.mem_append_right _ h))
theorem T0_p : ∀ {q : MethodName × Nat}, q ∈ lw_privs → goodWord (Cond.selects q.1.cls q.1 q.1) = true → Cond.selects q.1.cls q.1 q.1 ∈ T0 := fun h g => List.mem_filter.mpr ⟨List.mem_append_left _ (List.mem_map.mpr ⟨_, h, rfl⟩), g⟩
theorem wcl_L_10 : Cond.classLink RL 10 RX6 ∈ T0 := T0_k1 (List.mem_of_getElem? (i := 11) rfl) rfl
theorem wn_X6 : Cond.instantiable RX6 7 ∈ T0 := T0_k1 (List.mem_of_getElem? (i := 12) rfl) rfl
theorem wi_X6 : Cond.initialized RX6 ∈ T0 := T0_k1 (List.mem_of_getElem? (i := 1) rfl) rfl
theorem wm_L_95 : Cond.methodLink RL 95 yX6_init ∈ T0 := T0_k1 (List.mem_of_getElem? (i := 13) rfl) rfl
theorem wim_yX6_init : Cond.instanceMethod yX6_init ∈ T0 := T0_k1 (List.mem_of_getElem? (i := 14) rfl) rfl
theorem wc_yX6_init : Cond.code yX6_init cX6_init 1 none ∈ T0 := T0_k1 (List.mem_of_getElem? (i := 15) rfl) rfl
theorem wm_X6_1 : Cond.methodLink RX6 1 objectInit ∈ T0 := T0_k1 (List.mem_of_getElem? (i := 16) rfl) rfl
theorem wim_objectInit : Cond.instanceMethod objectInit ∈ T0 := T0_k1 (List.mem_of_getElem? (i := 17) rfl) rfl
theorem wc_objectInit : Cond.code objectInit ⟨#[0xb1]⟩ 1 none ∈ T0 := T0_k1 (List.mem_of_getElem? (i := 18) rfl) rfl
theorem wcl_X6_7 : Cond.classLink RX6 7 RX4 ∈ T0 := T0_k1 (List.mem_of_getElem? (i := 19) rfl) rfl
theorem wn_X4 : Cond.instantiable RX4 14 ∈ T0 := T0_k1 (List.mem_of_getElem? (i := 20) rfl) rfl
theorem wi_X4 : Cond.initialized RX4 ∈ T0 := T0_k1 (List.mem_of_getElem? (i := 2) rfl) rfl
theorem wf_X6_10 : Cond.fieldLink RX6 10 "HexBilliards" "state" "LHexBilliards$State;" ∈ T0 := T0_k1 (List.mem_of_getElem? (i := 199) rfl) rfl
theorem wf_X6_16 : Cond.fieldLink RX6 16 "HexBilliards" "snapshot" "LHexBilliards$State;" ∈ T0 := T0_k1 (List.mem_of_getElem? (i := 200) rfl) rfl
theorem wf_X6_19 : Cond.fieldLink RX6 19 "HexBilliards" "trial" "LHexBilliards$State;" ∈ T0 := T0_k1 (List.mem_of_getElem? (i := 201) rfl) rfl
theorem wcl_X6_22 : Cond.classLink RX6 22 RX2 ∈ T0 := T0_k1 (List.mem_of_getElem? (i := 91) rfl) rfl
theorem wn_X2 : Cond.instantiable RX2 2 ∈ T0 := T0_k1 (List.mem_of_getElem? (i := 92) rfl) rfl
theorem wi_X2 : Cond.initialized RX2 ∈ T0 := T0_k1 (List.mem_of_getElem? (i := 5) rfl) rfl
theorem wf_X6_25 : Cond.fieldLink RX6 25 "HexBilliards" "history" "LHexBilliards$History;" ∈ T0 := T0_k1 (List.mem_of_getElem? (i := 202) rfl) rfl
theorem wcl_X6_29 : Cond.classLink RX6 29 RX0 ∈ T0 := T0_k1 (List.mem_of_getElem? (i := 108) rfl) rfl
theorem wn_X0 : Cond.instantiable RX0 7 ∈ T0 := T0_k1 (List.mem_of_getElem? (i := 109) rfl) rfl
theorem wi_X0 : Cond.initialized RX0 ∈ T0 := T0_k1 (List.mem_of_getElem? (i := 6) rfl) rfl
theorem wf_X6_32 : Cond.fieldLink RX6 32 "HexBilliards" "text" "LHexBilliards$BallText;" ∈ T0 := T0_k1 (List.mem_of_getElem? (i := 203) rfl) rfl
theorem wcl_X6_36 : Cond.classLink RX6 36 RX3 ∈ T0 := T0_k1 (List.mem_of_getElem? (i := 139) rfl) rfl
theorem wn_X3 : Cond.instantiable RX3 9 ∈ T0 := T0_k1 (List.mem_of_getElem? (i := 140) rfl) rfl
theorem wi_X3 : Cond.initialized RX3 ∈ T0 := T0_k1 (List.mem_of_getElem? (i := 7) rfl) rfl
theorem wf_X6_39 : Cond.fieldLink RX6 39 "HexBilliards" "shot" "LHexBilliards$Shot;" ∈ T0 := T0_k1 (List.mem_of_getElem? (i := 204) rfl) rfl
theorem wm_X6_9 : Cond.methodLink RX6 9 yX4_init ∈ T0 := T0_k1 (List.mem_of_getElem? (i := 21) rfl) rfl
theorem wim_yX4_init : Cond.instanceMethod yX4_init ∈ T0 := T0_k1 (List.mem_of_getElem? (i := 22) rfl) rfl
theorem wc_yX4_init : Cond.code yX4_init cX4_init 1 none ∈ T0 := T0_k1 (List.mem_of_getElem? (i := 23) rfl) rfl
theorem wm_X4_3 : Cond.methodLink RX4 3 objectInit ∈ T0 := T0_k1 (List.mem_of_getElem? (i := 24) rfl) rfl
theorem wac_int : Cond.arrayClass .int ∈ T0 := T0_k1 (List.mem_of_getElem? (i := 90) rfl) rfl
theorem wf_X4_9 : Cond.fieldLink RX4 9 "HexBilliards$State" "cellOf" "[I" ∈ T0 := T0_k1 (List.mem_of_getElem? (i := 33) rfl) rfl
theorem wf_X4_15 : Cond.fieldLink RX4 15 "HexBilliards$State" "valueOf" "[I" ∈ T0 := T0_k1 (List.mem_of_getElem? (i := 35) rfl) rfl
theorem wf_X4_18 : Cond.fieldLink RX4 18 "HexBilliards$State" "stepsOf" "[I" ∈ T0 := T0_k1 (List.mem_of_getElem? (i := 37) rfl) rfl
theorem wf_X4_21 : Cond.fieldLink RX4 21 "HexBilliards$State" "banksOf" "[I" ∈ T0 := T0_k1 (List.mem_of_getElem? (i := 39) rfl) rfl
theorem wf_X4_24 : Cond.fieldLink RX4 24 "HexBilliards$State" "hitsOf" "[I" ∈ T0 := T0_k1 (List.mem_of_getElem? (i := 41) rfl) rfl
theorem wf_X4_27 : Cond.fieldLink RX4 27 "HexBilliards$State" "ballOn" "[I" ∈ T0 := T0_k1 (List.mem_of_getElem? (i := 43) rfl) rfl
theorem wf_X4_30 : Cond.fieldLink RX4 30 "HexBilliards$State" "settings" "[I" ∈ T0 := T0_k1 (List.mem_of_getElem? (i := 44) rfl) rfl
theorem wf_X4_33 : Cond.fieldLink RX4 33 "HexBilliards$State" "scores" "[I" ∈ T0 := T0_k1 (List.mem_of_getElem? (i := 47) rfl) rfl
theorem wm_X4_45 : Cond.methodLink RX4 45 arraycopyName ∈ T0 := T0_k1 (List.mem_of_getElem? (i := 30) rfl) rfl
theorem wnat_arraycopyName : Cond.native arraycopyName ∈ T0 := T0_k1 (List.mem_of_getElem? (i := 32) rfl) rfl
theorem wst_arraycopyName : Cond.static arraycopyName ∈ T0 := T0_k1 (List.mem_of_getElem? (i := 31) rfl) rfl
theorem wi_java_lang_System : Cond.initialized "java/lang/System" ∈ T0 := T0_k1 (List.mem_of_getElem? (i := 4) rfl) rfl
theorem wf_X4_51 : Cond.fieldLink RX4 51 "HexBilliards$State" "openPots" "I" ∈ T0 := T0_k1 (List.mem_of_getElem? (i := 51) rfl) rfl
theorem wm_X4_36 : Cond.methodLink RX4 36 yJ7_fill_53178 ∈ T0 := T0_k1 (List.mem_of_getElem? (i := 25) rfl) rfl
theorem wst_yJ7_fill_53178 : Cond.static yJ7_fill_53178 ∈ T0 := T0_k1 (List.mem_of_getElem? (i := 26) rfl) rfl
theorem wi_J7 : Cond.initialized RJ7 ∈ T0 := T0_k1 (List.mem_of_getElem? (i := 3) rfl) rfl
theorem wc_yJ7_fill_53178 : Cond.code yJ7_fill_53178 cJ7_fill_53178 4 none ∈ T0 := T0_k1 (List.mem_of_getElem? (i := 27) rfl) rfl
theorem wm_X6_24 : Cond.methodLink RX6 24 yX2_init ∈ T0 := T0_k1 (List.mem_of_getElem? (i := 93) rfl) rfl
theorem wim_yX2_init : Cond.instanceMethod yX2_init ∈ T0 := T0_k1 (List.mem_of_getElem? (i := 94) rfl) rfl
theorem wc_yX2_init : Cond.code yX2_init cX2_init 2 none ∈ T0 := T0_k1 (List.mem_of_getElem? (i := 95) rfl) rfl
theorem wm_X2_1 : Cond.methodLink RX2 1 objectInit ∈ T0 := T0_k1 (List.mem_of_getElem? (i := 96) rfl) rfl
theorem wcl_X2_9 : Cond.classLink RX2 9 RX4 ∈ T0 := T0_k1 (List.mem_of_getElem? (i := 97) rfl) rfl
theorem wf_X2_11 : Cond.fieldLink RX2 11 "HexBilliards$History" "states" "[LHexBilliards$State;" ∈ T0 := T0_k1 (List.mem_of_getElem? (i := 100) rfl) rfl
theorem wm_X2_15 : Cond.methodLink RX2 15 yX4_init ∈ T0 := T0_k1 (List.mem_of_getElem? (i := 99) rfl) rfl
theorem wim_yX0_init : Cond.instanceMethod yX0_init ∈ T0 := T0_k1 (List.mem_of_getElem? (i := 111) rfl) rfl
theorem wc_yX0_init : Cond.code yX0_init cX0_init 1 none ∈ T0 := T0_k1 (List.mem_of_getElem? (i := 112) rfl) rfl
theorem wm_X0_3 : Cond.methodLink RX0 3 objectInit ∈ T0 := T0_k1 (List.mem_of_getElem? (i := 113) rfl) rfl
theorem wac_char : Cond.arrayClass .char ∈ T0 := T0_k1 (List.mem_of_getElem? (i := 138) rfl) rfl
theorem wf_X0_11 : Cond.fieldLink RX0 11 "HexBilliards$BallText" "characters" "[C" ∈ T0 := T0_k1 (List.mem_of_getElem? (i := 114) rfl) rfl
theorem wf_X0_15 : Cond.fieldLink RX0 15 "HexBilliards$BallText" "cells" "[I" ∈ T0 := T0_k1 (List.mem_of_getElem? (i := 117) rfl) rfl
theorem wf_X0_19 : Cond.fieldLink RX0 19 "HexBilliards$BallText" "values" "[I" ∈ T0 := T0_k1 (List.mem_of_getElem? (i := 118) rfl) rfl
theorem wim_yX3_init : Cond.instanceMethod yX3_init ∈ T0 := T0_k1 (List.mem_of_getElem? (i := 142) rfl) rfl
theorem wc_yX3_init : Cond.code yX3_init cX3_init 1 none ∈ T0 := T0_k1 (List.mem_of_getElem? (i := 143) rfl) rfl
theorem wm_X3_3 : Cond.methodLink RX3 3 objectInit ∈ T0 := T0_k1 (List.mem_of_getElem? (i := 144) rfl) rfl
theorem wcl_X3_9 : Cond.classLink RX3 9 RX5 ∈ T0 := T0_k1 (List.mem_of_getElem? (i := 145) rfl) rfl
theorem wn_X5 : Cond.instantiable RX5 3 ∈ T0 := T0_k1 (List.mem_of_getElem? (i := 146) rfl) rfl
theorem wi_X5 : Cond.initialized RX5 ∈ T0 := T0_k1 (List.mem_of_getElem? (i := 8) rfl) rfl
theorem wf_X3_12 : Cond.fieldLink RX3 12 "HexBilliards$Shot" "walker" "LHexBilliards$Walker;" ∈ T0 := T0_k1 (List.mem_of_getElem? (i := 164) rfl) rfl
theorem wim_yX5_init : Cond.instanceMethod yX5_init ∈ T0 := T0_k1 (List.mem_of_getElem? (i := 148) rfl) rfl
theorem wc_yX5_init : Cond.code yX5_init cX5_init 1 none ∈ T0 := T0_k1 (List.mem_of_getElem? (i := 149) rfl) rfl
theorem wm_X5_3 : Cond.methodLink RX5 3 objectInit ∈ T0 := T0_k1 (List.mem_of_getElem? (i := 150) rfl) rfl
theorem wm_L_96 : Cond.methodLink RL 96 yL_cell ∈ T0 := T0_k1 (List.mem_of_getElem? (i := 220) rfl) rfl
theorem wst_yL_cell : Cond.static yL_cell ∈ T0 := T0_k1 (List.mem_of_getElem? (i := 221) rfl) rfl
theorem wi_L : Cond.initialized RL ∈ T0 := T0_k1 (List.mem_of_getElem? (i := 0) rfl) rfl
theorem wc_yL_cell : Cond.code yL_cell cL_cell 2 (some .int) ∈ T0 := T0_k1 (List.mem_of_getElem? (i := 222) rfl) rfl
theorem wk_L_7 : Cond.constant RL 7 (2127807911) ∈ T0 := T0_k1 (List.mem_of_getElem? (i := 223) rfl) rfl
theorem wm_L_99 : Cond.methodLink RL 99 yL_isStep ∈ T0 := T0_k1 (List.mem_of_getElem? (i := 224) rfl) rfl
theorem wst_yL_isStep : Cond.static yL_isStep ∈ T0 := T0_k1 (List.mem_of_getElem? (i := 225) rfl) rfl
theorem wc_yL_isStep : Cond.code yL_isStep cL_isStep 12 (some .boolean) ∈ T0 := T0_k1 (List.mem_of_getElem? (i := 226) rfl) rfl
theorem wm_L_15 : Cond.methodLink RL 15 yX6_count ∈ T0 := T0_k1 (List.mem_of_getElem? (i := 227) rfl) rfl
theorem wim_yX6_count : Cond.instanceMethod yX6_count ∈ T0 := T0_k1 (List.mem_of_getElem? (i := 228) rfl) rfl
theorem wse_yX6_count : Cond.selects RX6 yX6_count yX6_count ∈ T0 := T0_k1 (List.mem_of_getElem? (i := 229) rfl) rfl
theorem wc_yX6_count : Cond.code yX6_count cX6_count 2 (some .int) ∈ T0 := T0_k1 (List.mem_of_getElem? (i := 230) rfl) rfl
theorem wm_X6_151 : Cond.methodLink RX6 151 yX4_ballsOnFelt ∈ T0 := T0_k1 (List.mem_of_getElem? (i := 231) rfl) rfl
theorem wim_yX4_ballsOnFelt : Cond.instanceMethod yX4_ballsOnFelt ∈ T0 := T0_k1 (List.mem_of_getElem? (i := 232) rfl) rfl
theorem wse_yX4_ballsOnFelt : Cond.selects RX4 yX4_ballsOnFelt yX4_ballsOnFelt ∈ T0 := T0_k1 (List.mem_of_getElem? (i := 233) rfl) rfl
theorem wc_yX4_ballsOnFelt : Cond.code yX4_ballsOnFelt cX4_ballsOnFelt 3 (some .int) ∈ T0 := T0_k1 (List.mem_of_getElem? (i := 234) rfl) rfl
theorem wm_X6_248 : Cond.methodLink RX6 248 yX4_total ∈ T0 := T0_k1 (List.mem_of_getElem? (i := 235) rfl) rfl
theorem wst_yX4_total : Cond.static yX4_total ∈ T0 := T0_k1 (List.mem_of_getElem? (i := 236) rfl) rfl
theorem wc_yX4_total : Cond.code yX4_total cX4_total 3 (some .int) ∈ T0 := T0_k1 (List.mem_of_getElem? (i := 237) rfl) rfl
theorem wm_L_19 : Cond.methodLink RL 19 yL_up ∈ T0 := T0_k1 (List.mem_of_getElem? (i := 238) rfl) rfl
theorem wst_yL_up : Cond.static yL_up ∈ T0 := T0_k1 (List.mem_of_getElem? (i := 239) rfl) rfl
theorem wc_yL_up : Cond.code yL_up cL_up 2 (some .int) ∈ T0 := T0_k2 (List.mem_of_getElem? (i := 0) rfl) rfl
theorem wk_L_8 : Cond.constant RL 8 (2147483647) ∈ T0 := T0_k2 (List.mem_of_getElem? (i := 1) rfl) rfl
theorem wm_L_25 : Cond.methodLink RL 25 yX6_ball ∈ T0 := T0_k2 (List.mem_of_getElem? (i := 2) rfl) rfl
theorem wim_yX6_ball : Cond.instanceMethod yX6_ball ∈ T0 := T0_k2 (List.mem_of_getElem? (i := 3) rfl) rfl
theorem wse_yX6_ball : Cond.selects RX6 yX6_ball yX6_ball ∈ T0 := T0_k2 (List.mem_of_getElem? (i := 4) rfl) rfl
theorem wc_yX6_ball : Cond.code yX6_ball cX6_ball 3 (some .int) ∈ T0 := T0_k2 (List.mem_of_getElem? (i := 5) rfl) rfl
theorem wm_X6_78 : Cond.methodLink RX6 78 yX4_hasBall ∈ T0 := T0_k2 (List.mem_of_getElem? (i := 6) rfl) rfl
theorem wim_yX4_hasBall : Cond.instanceMethod yX4_hasBall ∈ T0 := T0_k2 (List.mem_of_getElem? (i := 7) rfl) rfl
theorem wse_yX4_hasBall : Cond.selects RX4 yX4_hasBall yX4_hasBall ∈ T0 := T0_k2 (List.mem_of_getElem? (i := 8) rfl) rfl
theorem wc_yX4_hasBall : Cond.code yX4_hasBall cX4_hasBall 2 (some .boolean) ∈ T0 := T0_k2 (List.mem_of_getElem? (i := 9) rfl) rfl
theorem wm_X4_70 : Cond.methodLink RX4 70 yX4_isBallNumber ∈ T0 := T0_k2 (List.mem_of_getElem? (i := 10) rfl) rfl
theorem wst_yX4_isBallNumber : Cond.static yX4_isBallNumber ∈ T0 := T0_k2 (List.mem_of_getElem? (i := 11) rfl) rfl
theorem wc_yX4_isBallNumber : Cond.code yX4_isBallNumber cX4_isBallNumber 1 (some .boolean) ∈ T0 := T0_k2 (List.mem_of_getElem? (i := 12) rfl) rfl
theorem wm_L_28 : Cond.methodLink RL 28 yX6_put ∈ T0 := T0_k2 (List.mem_of_getElem? (i := 13) rfl) rfl
theorem wim_yX6_put : Cond.instanceMethod yX6_put ∈ T0 := T0_k2 (List.mem_of_getElem? (i := 14) rfl) rfl
theorem wse_yX6_put : Cond.selects RX6 yX6_put yX6_put ∈ T0 := T0_k2 (List.mem_of_getElem? (i := 15) rfl) rfl
theorem wc_yX6_put : Cond.code yX6_put cX6_put 4 (some .int) ∈ T0 := T0_k2 (List.mem_of_getElem? (i := 16) rfl) rfl
theorem wm_X6_43 : Cond.methodLink RX6 43 yX1_isCell ∈ T0 := T0_k2 (List.mem_of_getElem? (i := 17) rfl) rfl
theorem wst_yX1_isCell : Cond.static yX1_isCell ∈ T0 := T0_k2 (List.mem_of_getElem? (i := 18) rfl) rfl
theorem wi_X1 : Cond.initialized RX1 ∈ T0 := T0_k1 (List.mem_of_getElem? (i := 9) rfl) rfl
theorem wc_yX1_isCell : Cond.code yX1_isCell cX1_isCell 1 (some .boolean) ∈ T0 := T0_k2 (List.mem_of_getElem? (i := 19) rfl) rfl
theorem wm_X6_49 : Cond.methodLink RX6 49 yX4_refusalToAdd ∈ T0 := T0_k2 (List.mem_of_getElem? (i := 20) rfl) rfl
theorem wim_yX4_refusalToAdd : Cond.instanceMethod yX4_refusalToAdd ∈ T0 := T0_k2 (List.mem_of_getElem? (i := 21) rfl) rfl
theorem wse_yX4_refusalToAdd : Cond.selects RX4 yX4_refusalToAdd yX4_refusalToAdd ∈ T0 := T0_k2 (List.mem_of_getElem? (i := 22) rfl) rfl
theorem wc_yX4_refusalToAdd : Cond.code yX4_refusalToAdd cX4_refusalToAdd 2 (some .int) ∈ T0 := T0_k2 (List.mem_of_getElem? (i := 23) rfl) rfl
theorem wf_X4_55 : Cond.fieldLink RX4 55 "HexBilliards$State" "ballsSoFar" "I" ∈ T0 := T0_k1 (List.mem_of_getElem? (i := 49) rfl) rfl
theorem wm_X4_83 : Cond.methodLink RX4 83 yX4_ballOnCell ∈ T0 := T0_k2 (List.mem_of_getElem? (i := 24) rfl) rfl
theorem wim_yX4_ballOnCell : Cond.instanceMethod yX4_ballOnCell ∈ T0 := T0_k2 (List.mem_of_getElem? (i := 25) rfl) rfl
theorem wse_yX4_ballOnCell : Cond.selects RX4 yX4_ballOnCell yX4_ballOnCell ∈ T0 := T0_k2 (List.mem_of_getElem? (i := 26) rfl) rfl
theorem wc_yX4_ballOnCell : Cond.code yX4_ballOnCell cX4_ballOnCell 2 (some .int) ∈ T0 := T0_k2 (List.mem_of_getElem? (i := 27) rfl) rfl
theorem wm_X4_74 : Cond.methodLink RX4 74 yX1_isCell ∈ T0 := T0_k2 (List.mem_of_getElem? (i := 28) rfl) rfl
theorem wm_X6_53 : Cond.methodLink RX6 53 yX2_record ∈ T0 := T0_k2 (List.mem_of_getElem? (i := 29) rfl) rfl
theorem wim_yX2_record : Cond.instanceMethod yX2_record ∈ T0 := T0_k2 (List.mem_of_getElem? (i := 30) rfl) rfl
theorem wse_yX2_record : Cond.selects RX2 yX2_record yX2_record ∈ T0 := T0_k2 (List.mem_of_getElem? (i := 31) rfl) rfl
theorem wc_yX2_record : Cond.code yX2_record cX2_record 2 none ∈ T0 := T0_k2 (List.mem_of_getElem? (i := 32) rfl) rfl
theorem wf_X2_16 : Cond.fieldLink RX2 16 "HexBilliards$History" "size" "I" ∈ T0 := T0_k1 (List.mem_of_getElem? (i := 101) rfl) rfl
theorem wm_X2_20 : Cond.methodLink RX2 20 yX2_dropOldest ∈ T0 := T0_k2 (List.mem_of_getElem? (i := 33) rfl) rfl
theorem wim_yX2_dropOldest : Cond.instanceMethod yX2_dropOldest ∈ T0 := T0_k2 (List.mem_of_getElem? (i := 35) rfl) rfl
theorem wse_yX2_dropOldest : Cond.selects RX2 yX2_dropOldest yX2_dropOldest ∈ T0 := T0_p (List.mem_of_getElem? (i := 0) rfl) rfl
theorem wc_yX2_dropOldest : Cond.code yX2_dropOldest cX2_dropOldest 3 none ∈ T0 := T0_k2 (List.mem_of_getElem? (i := 36) rfl) rfl
theorem wm_X2_23 : Cond.methodLink RX2 23 yX4_copyFrom ∈ T0 := T0_k2 (List.mem_of_getElem? (i := 37) rfl) rfl
theorem wim_yX4_copyFrom : Cond.instanceMethod yX4_copyFrom ∈ T0 := T0_k2 (List.mem_of_getElem? (i := 38) rfl) rfl
theorem wse_yX4_copyFrom : Cond.selects RX4 yX4_copyFrom yX4_copyFrom ∈ T0 := T0_k2 (List.mem_of_getElem? (i := 39) rfl) rfl
theorem wc_yX4_copyFrom : Cond.code yX4_copyFrom cX4_copyFrom 2 none ∈ T0 := T0_k2 (List.mem_of_getElem? (i := 40) rfl) rfl
theorem wf_X4_58 : Cond.fieldLink RX4 58 "HexBilliards$State" "turn" "I" ∈ T0 := T0_k1 (List.mem_of_getElem? (i := 53) rfl) rfl
theorem wf_X4_61 : Cond.fieldLink RX4 61 "HexBilliards$State" "run" "I" ∈ T0 := T0_k1 (List.mem_of_getElem? (i := 55) rfl) rfl
theorem wf_X4_64 : Cond.fieldLink RX4 64 "HexBilliards$State" "shots" "I" ∈ T0 := T0_k1 (List.mem_of_getElem? (i := 57) rfl) rfl
theorem wf_X4_67 : Cond.fieldLink RX4 67 "HexBilliards$State" "goneByShots" "I" ∈ T0 := T0_k1 (List.mem_of_getElem? (i := 59) rfl) rfl
theorem wm_X6_57 : Cond.methodLink RX6 57 yX4_addBall ∈ T0 := T0_k2 (List.mem_of_getElem? (i := 41) rfl) rfl
theorem wim_yX4_addBall : Cond.instanceMethod yX4_addBall ∈ T0 := T0_k2 (List.mem_of_getElem? (i := 42) rfl) rfl
theorem wse_yX4_addBall : Cond.selects RX4 yX4_addBall yX4_addBall ∈ T0 := T0_k2 (List.mem_of_getElem? (i := 43) rfl) rfl
theorem wc_yX4_addBall : Cond.code yX4_addBall cX4_addBall 4 (some .int) ∈ T0 := T0_k2 (List.mem_of_getElem? (i := 44) rfl) rfl
theorem wm_X4_86 : Cond.methodLink RX4 86 yX4_place ∈ T0 := T0_k2 (List.mem_of_getElem? (i := 45) rfl) rfl
theorem wim_yX4_place : Cond.instanceMethod yX4_place ∈ T0 := T0_k2 (List.mem_of_getElem? (i := 46) rfl) rfl
theorem wse_yX4_place : Cond.selects RX4 yX4_place yX4_place ∈ T0 := T0_k2 (List.mem_of_getElem? (i := 47) rfl) rfl
theorem wc_yX4_place : Cond.code yX4_place cX4_place 3 none ∈ T0 := T0_k2 (List.mem_of_getElem? (i := 48) rfl) rfl
theorem wm_X4_90 : Cond.methodLink RX4 90 yX4_lift ∈ T0 := T0_k2 (List.mem_of_getElem? (i := 49) rfl) rfl
theorem wim_yX4_lift : Cond.instanceMethod yX4_lift ∈ T0 := T0_k2 (List.mem_of_getElem? (i := 50) rfl) rfl
theorem wse_yX4_lift : Cond.selects RX4 yX4_lift yX4_lift ∈ T0 := T0_k2 (List.mem_of_getElem? (i := 51) rfl) rfl
theorem wc_yX4_lift : Cond.code yX4_lift cX4_lift 2 none ∈ T0 := T0_k2 (List.mem_of_getElem? (i := 52) rfl) rfl
theorem wm_L_31 : Cond.methodLink RL 31 yL_there ∈ T0 := T0_k2 (List.mem_of_getElem? (i := 53) rfl) rfl
theorem wst_yL_there : Cond.static yL_there ∈ T0 := T0_k2 (List.mem_of_getElem? (i := 54) rfl) rfl
theorem wc_yL_there : Cond.code yL_there cL_there 1 (some .int) ∈ T0 := T0_k2 (List.mem_of_getElem? (i := 55) rfl) rfl
theorem wm_L_34 : Cond.methodLink RL 34 yX6_ofCell ∈ T0 := T0_k2 (List.mem_of_getElem? (i := 56) rfl) rfl
theorem wim_yX6_ofCell : Cond.instanceMethod yX6_ofCell ∈ T0 := T0_k2 (List.mem_of_getElem? (i := 57) rfl) rfl
theorem wse_yX6_ofCell : Cond.selects RX6 yX6_ofCell yX6_ofCell ∈ T0 := T0_k2 (List.mem_of_getElem? (i := 58) rfl) rfl
theorem wc_yX6_ofCell : Cond.code yX6_ofCell cX6_ofCell 3 (some .int) ∈ T0 := T0_k2 (List.mem_of_getElem? (i := 59) rfl) rfl
theorem wm_X6_157 : Cond.methodLink RX6 157 yX1_columnOf ∈ T0 := T0_k2 (List.mem_of_getElem? (i := 60) rfl) rfl
theorem wst_yX1_columnOf : Cond.static yX1_columnOf ∈ T0 := T0_k2 (List.mem_of_getElem? (i := 61) rfl) rfl
theorem wc_yX1_columnOf : Cond.code yX1_columnOf cX1_columnOf 2 (some .int) ∈ T0 := T0_k2 (List.mem_of_getElem? (i := 62) rfl) rfl
theorem wf_X1_15 : Cond.fieldLink RX1 15 "HexBilliards$Felt" "FIRST_OF_ROW" "[I" ∈ T0 := T0_k2 (List.mem_of_getElem? (i := 66) rfl) rfl
theorem wm_X1_23 : Cond.methodLink RX1 23 yX1_rowOf ∈ T0 := T0_k2 (List.mem_of_getElem? (i := 63) rfl) rfl
theorem wst_yX1_rowOf : Cond.static yX1_rowOf ∈ T0 := T0_k2 (List.mem_of_getElem? (i := 64) rfl) rfl
theorem wc_yX1_rowOf : Cond.code yX1_rowOf cX1_rowOf 2 (some .int) ∈ T0 := T0_k2 (List.mem_of_getElem? (i := 65) rfl) rfl
theorem wm_X1_19 : Cond.methodLink RX1 19 yX1_firstColumn ∈ T0 := T0_k2 (List.mem_of_getElem? (i := 68) rfl) rfl
theorem wst_yX1_firstColumn : Cond.static yX1_firstColumn ∈ T0 := T0_k2 (List.mem_of_getElem? (i := 69) rfl) rfl
theorem wc_yX1_firstColumn : Cond.code yX1_firstColumn cX1_firstColumn 1 (some .int) ∈ T0 := T0_k2 (List.mem_of_getElem? (i := 70) rfl) rfl
theorem wm_X6_160 : Cond.methodLink RX6 160 yX1_rowOf ∈ T0 := T0_k2 (List.mem_of_getElem? (i := 71) rfl) rfl
theorem wm_X6_82 : Cond.methodLink RX6 82 yX4_ballOnCell ∈ T0 := T0_k2 (List.mem_of_getElem? (i := 72) rfl) rfl
theorem wm_X6_163 : Cond.methodLink RX6 163 yX1_cornerOf ∈ T0 := T0_k2 (List.mem_of_getElem? (i := 73) rfl) rfl
theorem wst_yX1_cornerOf : Cond.static yX1_cornerOf ∈ T0 := T0_k2 (List.mem_of_getElem? (i := 74) rfl) rfl
theorem wc_yX1_cornerOf : Cond.code yX1_cornerOf cX1_cornerOf 2 (some .int) ∈ T0 := T0_k2 (List.mem_of_getElem? (i := 75) rfl) rfl
theorem wf_X1_41 : Cond.fieldLink RX1 41 "HexBilliards$Felt" "CORNER_CELLS" "[I" ∈ T0 := T0_k2 (List.mem_of_getElem? (i := 76) rfl) rfl
theorem wm_X6_166 : Cond.methodLink RX6 166 yX1_cellsBeside ∈ T0 := T0_k2 (List.mem_of_getElem? (i := 78) rfl) rfl
theorem wst_yX1_cellsBeside : Cond.static yX1_cellsBeside ∈ T0 := T0_k2 (List.mem_of_getElem? (i := 79) rfl) rfl
theorem wc_yX1_cellsBeside : Cond.code yX1_cellsBeside cX1_cellsBeside 5 (some .int) ∈ T0 := T0_k2 (List.mem_of_getElem? (i := 80) rfl) rfl
theorem wf_X1_29 : Cond.fieldLink RX1 29 "HexBilliards$Felt" "STEP_Q" "[I" ∈ T0 := T0_k2 (List.mem_of_getElem? (i := 82) rfl) rfl
theorem wf_X1_32 : Cond.fieldLink RX1 32 "HexBilliards$Felt" "STEP_R" "[I" ∈ T0 := T0_k2 (List.mem_of_getElem? (i := 84) rfl) rfl
theorem wm_X1_44 : Cond.methodLink RX1 44 yX1_columnOf ∈ T0 := T0_k2 (List.mem_of_getElem? (i := 81) rfl) rfl
theorem wm_X1_47 : Cond.methodLink RX1 47 yX1_cellAt ∈ T0 := T0_k2 (List.mem_of_getElem? (i := 86) rfl) rfl
theorem wst_yX1_cellAt : Cond.static yX1_cellAt ∈ T0 := T0_k2 (List.mem_of_getElem? (i := 87) rfl) rfl
theorem wc_yX1_cellAt : Cond.code yX1_cellAt cX1_cellAt 2 (some .int) ∈ T0 := T0_k2 (List.mem_of_getElem? (i := 88) rfl) rfl
theorem wm_X1_11 : Cond.methodLink RX1 11 yX1_isOut ∈ T0 := T0_k2 (List.mem_of_getElem? (i := 89) rfl) rfl
theorem wst_yX1_isOut : Cond.static yX1_isOut ∈ T0 := T0_k2 (List.mem_of_getElem? (i := 90) rfl) rfl
theorem wc_yX1_isOut : Cond.code yX1_isOut cX1_isOut 1 (some .boolean) ∈ T0 := T0_k2 (List.mem_of_getElem? (i := 91) rfl) rfl
theorem wm_L_37 : Cond.methodLink RL 37 yX6_clearText ∈ T0 := T0_k2 (List.mem_of_getElem? (i := 92) rfl) rfl
theorem wim_yX6_clearText : Cond.instanceMethod yX6_clearText ∈ T0 := T0_k2 (List.mem_of_getElem? (i := 93) rfl) rfl
theorem wse_yX6_clearText : Cond.selects RX6 yX6_clearText yX6_clearText ∈ T0 := T0_k2 (List.mem_of_getElem? (i := 94) rfl) rfl
theorem wc_yX6_clearText : Cond.code yX6_clearText cX6_clearText 2 (some .int) ∈ T0 := T0_k2 (List.mem_of_getElem? (i := 95) rfl) rfl
theorem wm_L_9 : Cond.methodLink RL 9 yX6_type ∈ T0 := T0_k2 (List.mem_of_getElem? (i := 96) rfl) rfl
theorem wim_yX6_type : Cond.instanceMethod yX6_type ∈ T0 := T0_k2 (List.mem_of_getElem? (i := 97) rfl) rfl
theorem wse_yX6_type : Cond.selects RX6 yX6_type yX6_type ∈ T0 := T0_k2 (List.mem_of_getElem? (i := 98) rfl) rfl
theorem wc_yX6_type : Cond.code yX6_type cX6_type 2 (some .int) ∈ T0 := T0_k2 (List.mem_of_getElem? (i := 99) rfl) rfl
theorem wm_X6_133 : Cond.methodLink RX6 133 yX0_append ∈ T0 := T0_k2 (List.mem_of_getElem? (i := 100) rfl) rfl
theorem wim_yX0_append : Cond.instanceMethod yX0_append ∈ T0 := T0_k2 (List.mem_of_getElem? (i := 101) rfl) rfl
theorem wse_yX0_append : Cond.selects RX0 yX0_append yX0_append ∈ T0 := T0_k2 (List.mem_of_getElem? (i := 102) rfl) rfl
theorem wc_yX0_append : Cond.code yX0_append cX0_append 2 (some .boolean) ∈ T0 := T0_k2 (List.mem_of_getElem? (i := 103) rfl) rfl
theorem wf_X0_22 : Cond.fieldLink RX0 22 "HexBilliards$BallText" "length" "I" ∈ T0 := T0_k1 (List.mem_of_getElem? (i := 115) rfl) rfl
theorem wm_L_41 : Cond.methodLink RL 41 yL_number ∈ T0 := T0_k2 (List.mem_of_getElem? (i := 104) rfl) rfl
theorem wst_yL_number : Cond.static yL_number ∈ T0 := T0_k2 (List.mem_of_getElem? (i := 105) rfl) rfl
theorem wc_yL_number : Cond.code yL_number cL_number 2 (some .boolean) ∈ T0 := T0_k2 (List.mem_of_getElem? (i := 106) rfl) rfl
theorem wm_L_45 : Cond.methodLink RL 45 yX6_putAll ∈ T0 := T0_k2 (List.mem_of_getElem? (i := 107) rfl) rfl
theorem wim_yX6_putAll : Cond.instanceMethod yX6_putAll ∈ T0 := T0_k2 (List.mem_of_getElem? (i := 108) rfl) rfl
theorem wse_yX6_putAll : Cond.selects RX6 yX6_putAll yX6_putAll ∈ T0 := T0_k2 (List.mem_of_getElem? (i := 109) rfl) rfl
theorem wc_yX6_putAll : Cond.code yX6_putAll cX6_putAll 5 (some .int) ∈ T0 := T0_k2 (List.mem_of_getElem? (i := 110) rfl) rfl
theorem wm_X6_61 : Cond.methodLink RX6 61 yX0_read ∈ T0 := T0_k2 (List.mem_of_getElem? (i := 111) rfl) rfl
theorem wim_yX0_read : Cond.instanceMethod yX0_read ∈ T0 := T0_k2 (List.mem_of_getElem? (i := 112) rfl) rfl
theorem wse_yX0_read : Cond.selects RX0 yX0_read yX0_read ∈ T0 := T0_k2 (List.mem_of_getElem? (i := 113) rfl) rfl
theorem wc_yX0_read : Cond.code yX0_read cX0_read 2 (some .int) ∈ T0 := T0_k2 (List.mem_of_getElem? (i := 114) rfl) rfl
theorem wf_X0_26 : Cond.fieldLink RX0 26 "HexBilliards$BallText" "balls" "I" ∈ T0 := T0_k1 (List.mem_of_getElem? (i := 120) rfl) rfl
theorem wf_X0_29 : Cond.fieldLink RX0 29 "HexBilliards$BallText" "place" "I" ∈ T0 := T0_k1 (List.mem_of_getElem? (i := 121) rfl) rfl
theorem wm_X0_32 : Cond.methodLink RX0 32 yX0_takes ∈ T0 := T0_k2 (List.mem_of_getElem? (i := 115) rfl) rfl
theorem wim_yX0_takes : Cond.instanceMethod yX0_takes ∈ T0 := T0_k2 (List.mem_of_getElem? (i := 117) rfl) rfl
theorem wse_yX0_takes : Cond.selects RX0 yX0_takes yX0_takes ∈ T0 := T0_p (List.mem_of_getElem? (i := 1) rfl) rfl
theorem wc_yX0_takes : Cond.code yX0_takes cX0_takes 2 (some .boolean) ∈ T0 := T0_k2 (List.mem_of_getElem? (i := 118) rfl) rfl
theorem wm_X0_40 : Cond.methodLink RX0 40 yX0_beginsNumber ∈ T0 := T0_k2 (List.mem_of_getElem? (i := 119) rfl) rfl
theorem wim_yX0_beginsNumber : Cond.instanceMethod yX0_beginsNumber ∈ T0 := T0_k2 (List.mem_of_getElem? (i := 121) rfl) rfl
theorem wse_yX0_beginsNumber : Cond.selects RX0 yX0_beginsNumber yX0_beginsNumber ∈ T0 := T0_p (List.mem_of_getElem? (i := 2) rfl) rfl
theorem wc_yX0_beginsNumber : Cond.code yX0_beginsNumber cX0_beginsNumber 4 (some .boolean) ∈ T0 := T0_k2 (List.mem_of_getElem? (i := 122) rfl) rfl
theorem wf_X0_51 : Cond.fieldLink RX0 51 "HexBilliards$BallText" "number" "I" ∈ T0 := T0_k1 (List.mem_of_getElem? (i := 122) rfl) rfl
theorem wm_X0_44 : Cond.methodLink RX0 44 yX0_endsCell ∈ T0 := T0_k2 (List.mem_of_getElem? (i := 123) rfl) rfl
theorem wim_yX0_endsCell : Cond.instanceMethod yX0_endsCell ∈ T0 := T0_k2 (List.mem_of_getElem? (i := 125) rfl) rfl
theorem wse_yX0_endsCell : Cond.selects RX0 yX0_endsCell yX0_endsCell ∈ T0 := T0_p (List.mem_of_getElem? (i := 3) rfl) rfl
theorem wc_yX0_endsCell : Cond.code yX0_endsCell cX0_endsCell 1 (some .boolean) ∈ T0 := T0_k2 (List.mem_of_getElem? (i := 126) rfl) rfl
theorem wm_X0_47 : Cond.methodLink RX0 47 yX0_growsNumber ∈ T0 := T0_k2 (List.mem_of_getElem? (i := 127) rfl) rfl
theorem wim_yX0_growsNumber : Cond.instanceMethod yX0_growsNumber ∈ T0 := T0_k2 (List.mem_of_getElem? (i := 129) rfl) rfl
theorem wse_yX0_growsNumber : Cond.selects RX0 yX0_growsNumber yX0_growsNumber ∈ T0 := T0_p (List.mem_of_getElem? (i := 4) rfl) rfl
theorem wc_yX0_growsNumber : Cond.code yX0_growsNumber cX0_growsNumber 4 (some .boolean) ∈ T0 := T0_k2 (List.mem_of_getElem? (i := 130) rfl) rfl
theorem wm_X0_36 : Cond.methodLink RX0 36 yX0_endBall ∈ T0 := T0_k2 (List.mem_of_getElem? (i := 131) rfl) rfl
theorem wim_yX0_endBall : Cond.instanceMethod yX0_endBall ∈ T0 := T0_k2 (List.mem_of_getElem? (i := 133) rfl) rfl
theorem wse_yX0_endBall : Cond.selects RX0 yX0_endBall yX0_endBall ∈ T0 := T0_p (List.mem_of_getElem? (i := 5) rfl) rfl
theorem wc_yX0_endBall : Cond.code yX0_endBall cX0_endBall 1 (some .boolean) ∈ T0 := T0_k2 (List.mem_of_getElem? (i := 134) rfl) rfl
theorem wm_X6_65 : Cond.methodLink RX6 65 yX4_copyFrom ∈ T0 := T0_k2 (List.mem_of_getElem? (i := 135) rfl) rfl
theorem wm_X6_72 : Cond.methodLink RX6 72 yX0_cellOfBall ∈ T0 := T0_k2 (List.mem_of_getElem? (i := 136) rfl) rfl
theorem wim_yX0_cellOfBall : Cond.instanceMethod yX0_cellOfBall ∈ T0 := T0_k2 (List.mem_of_getElem? (i := 137) rfl) rfl
theorem wse_yX0_cellOfBall : Cond.selects RX0 yX0_cellOfBall yX0_cellOfBall ∈ T0 := T0_k2 (List.mem_of_getElem? (i := 138) rfl) rfl
theorem wc_yX0_cellOfBall : Cond.code yX0_cellOfBall cX0_cellOfBall 2 (some .int) ∈ T0 := T0_k2 (List.mem_of_getElem? (i := 139) rfl) rfl
theorem wm_X6_75 : Cond.methodLink RX6 75 yX0_valueOfBall ∈ T0 := T0_k2 (List.mem_of_getElem? (i := 140) rfl) rfl
theorem wim_yX0_valueOfBall : Cond.instanceMethod yX0_valueOfBall ∈ T0 := T0_k2 (List.mem_of_getElem? (i := 141) rfl) rfl
theorem wse_yX0_valueOfBall : Cond.selects RX0 yX0_valueOfBall yX0_valueOfBall ∈ T0 := T0_k2 (List.mem_of_getElem? (i := 142) rfl) rfl
theorem wc_yX0_valueOfBall : Cond.code yX0_valueOfBall cX0_valueOfBall 2 (some .int) ∈ T0 := T0_k2 (List.mem_of_getElem? (i := 143) rfl) rfl
theorem wm_L_48 : Cond.methodLink RL 48 yX6_move ∈ T0 := T0_k2 (List.mem_of_getElem? (i := 144) rfl) rfl
theorem wim_yX6_move : Cond.instanceMethod yX6_move ∈ T0 := T0_k2 (List.mem_of_getElem? (i := 145) rfl) rfl
theorem wse_yX6_move : Cond.selects RX6 yX6_move yX6_move ∈ T0 := T0_k2 (List.mem_of_getElem? (i := 146) rfl) rfl
theorem wc_yX6_move : Cond.code yX6_move cX6_move 4 (some .int) ∈ T0 := T0_k2 (List.mem_of_getElem? (i := 147) rfl) rfl
theorem wm_X6_81 : Cond.methodLink RX6 81 yX4_cellOfBall ∈ T0 := T0_k2 (List.mem_of_getElem? (i := 148) rfl) rfl
theorem wim_yX4_cellOfBall : Cond.instanceMethod yX4_cellOfBall ∈ T0 := T0_k2 (List.mem_of_getElem? (i := 149) rfl) rfl
theorem wse_yX4_cellOfBall : Cond.selects RX4 yX4_cellOfBall yX4_cellOfBall ∈ T0 := T0_k2 (List.mem_of_getElem? (i := 150) rfl) rfl
theorem wc_yX4_cellOfBall : Cond.code yX4_cellOfBall cX4_cellOfBall 2 (some .int) ∈ T0 := T0_k2 (List.mem_of_getElem? (i := 151) rfl) rfl
theorem wm_X6_85 : Cond.methodLink RX6 85 yX4_place ∈ T0 := T0_k2 (List.mem_of_getElem? (i := 152) rfl) rfl
theorem wm_L_51 : Cond.methodLink RL 51 yX6_takeOff ∈ T0 := T0_k2 (List.mem_of_getElem? (i := 153) rfl) rfl
theorem wim_yX6_takeOff : Cond.instanceMethod yX6_takeOff ∈ T0 := T0_k2 (List.mem_of_getElem? (i := 154) rfl) rfl
theorem wse_yX6_takeOff : Cond.selects RX6 yX6_takeOff yX6_takeOff ∈ T0 := T0_k2 (List.mem_of_getElem? (i := 155) rfl) rfl
theorem wc_yX6_takeOff : Cond.code yX6_takeOff cX6_takeOff 3 (some .int) ∈ T0 := T0_k2 (List.mem_of_getElem? (i := 156) rfl) rfl
theorem wm_X6_89 : Cond.methodLink RX6 89 yX4_lift ∈ T0 := T0_k2 (List.mem_of_getElem? (i := 157) rfl) rfl
theorem wm_L_54 : Cond.methodLink RL 54 yX6_setPots ∈ T0 := T0_k2 (List.mem_of_getElem? (i := 158) rfl) rfl
theorem wim_yX6_setPots : Cond.instanceMethod yX6_setPots ∈ T0 := T0_k2 (List.mem_of_getElem? (i := 159) rfl) rfl
theorem wse_yX6_setPots : Cond.selects RX6 yX6_setPots yX6_setPots ∈ T0 := T0_k2 (List.mem_of_getElem? (i := 160) rfl) rfl
theorem wc_yX6_setPots : Cond.code yX6_setPots cX6_setPots 3 (some .int) ∈ T0 := T0_k2 (List.mem_of_getElem? (i := 161) rfl) rfl
theorem wm_L_57 : Cond.methodLink RL 57 yL_pots ∈ T0 := T0_k2 (List.mem_of_getElem? (i := 162) rfl) rfl
theorem wst_yL_pots : Cond.static yL_pots ∈ T0 := T0_k2 (List.mem_of_getElem? (i := 163) rfl) rfl
theorem wc_yL_pots : Cond.code yL_pots cL_pots 1 (some .int) ∈ T0 := T0_k2 (List.mem_of_getElem? (i := 164) rfl) rfl
theorem wm_L_60 : Cond.methodLink RL 60 yX6_set ∈ T0 := T0_k2 (List.mem_of_getElem? (i := 165) rfl) rfl
theorem wim_yX6_set : Cond.instanceMethod yX6_set ∈ T0 := T0_k2 (List.mem_of_getElem? (i := 166) rfl) rfl
theorem wse_yX6_set : Cond.selects RX6 yX6_set yX6_set ∈ T0 := T0_k2 (List.mem_of_getElem? (i := 167) rfl) rfl
theorem wc_yX6_set : Cond.code yX6_set cX6_set 4 (some .int) ∈ T0 := T0_k2 (List.mem_of_getElem? (i := 168) rfl) rfl
theorem wf_X6_96 : Cond.fieldLink RX6 96 "HexBilliards" "LOWEST_SETTING" "[I" ∈ T0 := T0_k2 (List.mem_of_getElem? (i := 169) rfl) rfl
theorem wf_X6_100 : Cond.fieldLink RX6 100 "HexBilliards" "HIGHEST_SETTING" "[I" ∈ T0 := T0_k2 (List.mem_of_getElem? (i := 171) rfl) rfl
theorem wm_L_63 : Cond.methodLink RL 63 yX6_pass ∈ T0 := T0_k2 (List.mem_of_getElem? (i := 173) rfl) rfl
theorem wim_yX6_pass : Cond.instanceMethod yX6_pass ∈ T0 := T0_k2 (List.mem_of_getElem? (i := 174) rfl) rfl
theorem wse_yX6_pass : Cond.selects RX6 yX6_pass yX6_pass ∈ T0 := T0_k2 (List.mem_of_getElem? (i := 175) rfl) rfl
theorem wc_yX6_pass : Cond.code yX6_pass cX6_pass 3 (some .int) ∈ T0 := T0_k2 (List.mem_of_getElem? (i := 176) rfl) rfl
theorem wm_X6_106 : Cond.methodLink RX6 106 yX6_isPlayer ∈ T0 := T0_k2 (List.mem_of_getElem? (i := 177) rfl) rfl
theorem wst_yX6_isPlayer : Cond.static yX6_isPlayer ∈ T0 := T0_k2 (List.mem_of_getElem? (i := 178) rfl) rfl
theorem wc_yX6_isPlayer : Cond.code yX6_isPlayer cX6_isPlayer 1 (some .boolean) ∈ T0 := T0_k2 (List.mem_of_getElem? (i := 179) rfl) rfl
theorem wm_X6_130 : Cond.methodLink RX6 130 yX4_changeTurn ∈ T0 := T0_k2 (List.mem_of_getElem? (i := 180) rfl) rfl
theorem wim_yX4_changeTurn : Cond.instanceMethod yX4_changeTurn ∈ T0 := T0_k2 (List.mem_of_getElem? (i := 181) rfl) rfl
theorem wse_yX4_changeTurn : Cond.selects RX4 yX4_changeTurn yX4_changeTurn ∈ T0 := T0_k2 (List.mem_of_getElem? (i := 182) rfl) rfl
theorem wc_yX4_changeTurn : Cond.code yX4_changeTurn cX4_changeTurn 1 none ∈ T0 := T0_k2 (List.mem_of_getElem? (i := 183) rfl) rfl
theorem wm_L_66 : Cond.methodLink RL 66 yL_isShot ∈ T0 := T0_k2 (List.mem_of_getElem? (i := 184) rfl) rfl
theorem wst_yL_isShot : Cond.static yL_isShot ∈ T0 := T0_k2 (List.mem_of_getElem? (i := 185) rfl) rfl
theorem wc_yL_isShot : Cond.code yL_isShot cL_isShot 17 (some .boolean) ∈ T0 := T0_k2 (List.mem_of_getElem? (i := 186) rfl) rfl
theorem wm_L_70 : Cond.methodLink RL 70 yX6_would ∈ T0 := T0_k2 (List.mem_of_getElem? (i := 187) rfl) rfl
theorem wim_yX6_would : Cond.instanceMethod yX6_would ∈ T0 := T0_k2 (List.mem_of_getElem? (i := 188) rfl) rfl
theorem wse_yX6_would : Cond.selects RX6 yX6_would yX6_would ∈ T0 := T0_k2 (List.mem_of_getElem? (i := 189) rfl) rfl
theorem wc_yX6_would : Cond.code yX6_would cX6_would 6 (some .int) ∈ T0 := T0_k2 (List.mem_of_getElem? (i := 190) rfl) rfl
theorem wm_X6_109 : Cond.methodLink RX6 109 yX6_isShot ∈ T0 := T0_k2 (List.mem_of_getElem? (i := 191) rfl) rfl
theorem wst_yX6_isShot : Cond.static yX6_isShot ∈ T0 := T0_k2 (List.mem_of_getElem? (i := 192) rfl) rfl
theorem wc_yX6_isShot : Cond.code yX6_isShot cX6_isShot 3 (some .boolean) ∈ T0 := T0_k2 (List.mem_of_getElem? (i := 193) rfl) rfl
theorem wm_X6_205 : Cond.methodLink RX6 205 yX1_isDirection ∈ T0 := T0_k2 (List.mem_of_getElem? (i := 194) rfl) rfl
theorem wst_yX1_isDirection : Cond.static yX1_isDirection ∈ T0 := T0_k2 (List.mem_of_getElem? (i := 195) rfl) rfl
theorem wc_yX1_isDirection : Cond.code yX1_isDirection cX1_isDirection 1 (some .boolean) ∈ T0 := T0_k2 (List.mem_of_getElem? (i := 196) rfl) rfl
theorem wm_X6_232 : Cond.methodLink RX6 232 yX6_isForce ∈ T0 := T0_k2 (List.mem_of_getElem? (i := 197) rfl) rfl
theorem wst_yX6_isForce : Cond.static yX6_isForce ∈ T0 := T0_k2 (List.mem_of_getElem? (i := 198) rfl) rfl
theorem wc_yX6_isForce : Cond.code yX6_isForce cX6_isForce 2 (some .boolean) ∈ T0 := T0_k2 (List.mem_of_getElem? (i := 199) rfl) rfl
theorem wm_X6_184 : Cond.methodLink RX6 184 yX6_tryShot ∈ T0 := T0_k2 (List.mem_of_getElem? (i := 200) rfl) rfl
theorem wim_yX6_tryShot : Cond.instanceMethod yX6_tryShot ∈ T0 := T0_k2 (List.mem_of_getElem? (i := 202) rfl) rfl
theorem wse_yX6_tryShot : Cond.selects RX6 yX6_tryShot yX6_tryShot ∈ T0 := T0_p (List.mem_of_getElem? (i := 6) rfl) rfl
theorem wc_yX6_tryShot : Cond.code yX6_tryShot cX6_tryShot 5 none ∈ T0 := T0_k2 (List.mem_of_getElem? (i := 203) rfl) rfl
theorem wm_X6_116 : Cond.methodLink RX6 116 yX3_play ∈ T0 := T0_k2 (List.mem_of_getElem? (i := 204) rfl) rfl
theorem wim_yX3_play : Cond.instanceMethod yX3_play ∈ T0 := T0_k2 (List.mem_of_getElem? (i := 205) rfl) rfl
theorem wse_yX3_play : Cond.selects RX3 yX3_play yX3_play ∈ T0 := T0_k2 (List.mem_of_getElem? (i := 206) rfl) rfl
theorem wc_yX3_play : Cond.code yX3_play cX3_play 9 none ∈ T0 := T0_k2 (List.mem_of_getElem? (i := 207) rfl) rfl
theorem wf_X3_28 : Cond.fieldLink RX3 28 "HexBilliards$Shot" "mover" "I" ∈ T0 := T0_k1 (List.mem_of_getElem? (i := 166) rfl) rfl
theorem wk_X3_32 : Cond.constantFloat RX3 32 (1092616192) ∈ T0 := T0_k2 (List.mem_of_getElem? (i := 215) rfl) rfl
theorem wf_X3_33 : Cond.fieldLink RX3 33 "HexBilliards$Shot" "speed" "F" ∈ T0 := T0_k1 (List.mem_of_getElem? (i := 168) rfl) rfl
theorem wf_X3_37 : Cond.fieldLink RX3 37 "HexBilliards$Shot" "spin" "I" ∈ T0 := T0_k1 (List.mem_of_getElem? (i := 170) rfl) rfl
theorem wf_X3_40 : Cond.fieldLink RX3 40 "HexBilliards$Shot" "thirds" "I" ∈ T0 := T0_k1 (List.mem_of_getElem? (i := 171) rfl) rfl
theorem wf_X3_43 : Cond.fieldLink RX3 43 "HexBilliards$Shot" "steps" "I" ∈ T0 := T0_k1 (List.mem_of_getElem? (i := 172) rfl) rfl
theorem wf_X3_46 : Cond.fieldLink RX3 46 "HexBilliards$Shot" "banks" "I" ∈ T0 := T0_k1 (List.mem_of_getElem? (i := 174) rfl) rfl
theorem wf_X3_49 : Cond.fieldLink RX3 49 "HexBilliards$Shot" "hits" "I" ∈ T0 := T0_k1 (List.mem_of_getElem? (i := 176) rfl) rfl
theorem wf_X3_52 : Cond.fieldLink RX3 52 "HexBilliards$Shot" "gone" "I" ∈ T0 := T0_k1 (List.mem_of_getElem? (i := 178) rfl) rfl
theorem wk_X3_55 : Cond.constant RX3 55 (1000000) ∈ T0 := T0_k2 (List.mem_of_getElem? (i := 216) rfl) rfl
theorem wm_X3_18 : Cond.methodLink RX3 18 yX4_cellOfBall ∈ T0 := T0_k2 (List.mem_of_getElem? (i := 208) rfl) rfl
theorem wm_X3_24 : Cond.methodLink RX3 24 yX5_startAt ∈ T0 := T0_k2 (List.mem_of_getElem? (i := 209) rfl) rfl
theorem wim_yX5_startAt : Cond.instanceMethod yX5_startAt ∈ T0 := T0_k2 (List.mem_of_getElem? (i := 210) rfl) rfl
theorem wse_yX5_startAt : Cond.selects RX5 yX5_startAt yX5_startAt ∈ T0 := T0_k2 (List.mem_of_getElem? (i := 211) rfl) rfl
theorem wc_yX5_startAt : Cond.code yX5_startAt cX5_startAt 3 none ∈ T0 := T0_k2 (List.mem_of_getElem? (i := 212) rfl) rfl
theorem wf_X5_15 : Cond.fieldLink RX5 15 "HexBilliards$Walker" "q" "I" ∈ T0 := T0_k1 (List.mem_of_getElem? (i := 151) rfl) rfl
theorem wf_X5_24 : Cond.fieldLink RX5 24 "HexBilliards$Walker" "r" "I" ∈ T0 := T0_k1 (List.mem_of_getElem? (i := 153) rfl) rfl
theorem wf_X5_27 : Cond.fieldLink RX5 27 "HexBilliards$Walker" "direction" "I" ∈ T0 := T0_k1 (List.mem_of_getElem? (i := 155) rfl) rfl
theorem wm_X5_9 : Cond.methodLink RX5 9 yX1_columnOf ∈ T0 := T0_k2 (List.mem_of_getElem? (i := 213) rfl) rfl
theorem wm_X5_21 : Cond.methodLink RX5 21 yX1_rowOf ∈ T0 := T0_k2 (List.mem_of_getElem? (i := 214) rfl) rfl
theorem wm_X3_56 : Cond.methodLink RX3 56 yX5_cellAhead ∈ T0 := T0_k2 (List.mem_of_getElem? (i := 217) rfl) rfl
theorem wim_yX5_cellAhead : Cond.instanceMethod yX5_cellAhead ∈ T0 := T0_k2 (List.mem_of_getElem? (i := 218) rfl) rfl
theorem wse_yX5_cellAhead : Cond.selects RX5 yX5_cellAhead yX5_cellAhead ∈ T0 := T0_k2 (List.mem_of_getElem? (i := 219) rfl) rfl
theorem wc_yX5_cellAhead : Cond.code yX5_cellAhead cX5_cellAhead 1 (some .int) ∈ T0 := T0_k2 (List.mem_of_getElem? (i := 220) rfl) rfl
theorem wm_X5_30 : Cond.methodLink RX5 30 yX1_stepQ ∈ T0 := T0_k2 (List.mem_of_getElem? (i := 221) rfl) rfl
theorem wst_yX1_stepQ : Cond.static yX1_stepQ ∈ T0 := T0_k2 (List.mem_of_getElem? (i := 222) rfl) rfl
theorem wc_yX1_stepQ : Cond.code yX1_stepQ cX1_stepQ 1 (some .int) ∈ T0 := T0_k2 (List.mem_of_getElem? (i := 223) rfl) rfl
theorem wm_X1_26 : Cond.methodLink RX1 26 yX1_isDirection ∈ T0 := T0_k2 (List.mem_of_getElem? (i := 224) rfl) rfl
theorem wm_X5_33 : Cond.methodLink RX5 33 yX1_stepR ∈ T0 := T0_k2 (List.mem_of_getElem? (i := 225) rfl) rfl
theorem wst_yX1_stepR : Cond.static yX1_stepR ∈ T0 := T0_k2 (List.mem_of_getElem? (i := 226) rfl) rfl
theorem wc_yX1_stepR : Cond.code yX1_stepR cX1_stepR 1 (some .int) ∈ T0 := T0_k2 (List.mem_of_getElem? (i := 227) rfl) rfl
theorem wm_X5_36 : Cond.methodLink RX5 36 yX1_cellAt ∈ T0 := T0_k2 (List.mem_of_getElem? (i := 228) rfl) rfl
theorem wm_X3_60 : Cond.methodLink RX3 60 yX4_ballOnCell ∈ T0 := T0_k2 (List.mem_of_getElem? (i := 229) rfl) rfl
theorem wm_X3_63 : Cond.methodLink RX3 63 yX3_bank ∈ T0 := T0_k2 (List.mem_of_getElem? (i := 230) rfl) rfl
theorem wim_yX3_bank : Cond.instanceMethod yX3_bank ∈ T0 := T0_k2 (List.mem_of_getElem? (i := 232) rfl) rfl
theorem wse_yX3_bank : Cond.selects RX3 yX3_bank yX3_bank ∈ T0 := T0_p (List.mem_of_getElem? (i := 7) rfl) rfl
theorem wc_yX3_bank : Cond.code yX3_bank cX3_bank 2 none ∈ T0 := T0_k2 (List.mem_of_getElem? (i := 233) rfl) rfl
theorem wm_X3_78 : Cond.methodLink RX3 78 yX3_slow ∈ T0 := T0_k2 (List.mem_of_getElem? (i := 234) rfl) rfl
theorem wim_yX3_slow : Cond.instanceMethod yX3_slow ∈ T0 := T0_k2 (List.mem_of_getElem? (i := 236) rfl) rfl
theorem wse_yX3_slow : Cond.selects RX3 yX3_slow yX3_slow ∈ T0 := T0_p (List.mem_of_getElem? (i := 8) rfl) rfl
theorem wc_yX3_slow : Cond.code yX3_slow cX3_slow 2 none ∈ T0 := T0_k2 (List.mem_of_getElem? (i := 237) rfl) rfl
theorem wk_X3_110 : Cond.constantFloat RX3 110 (1120403456) ∈ T0 := T0_k2 (List.mem_of_getElem? (i := 238) rfl) rfl
theorem wm_X3_82 : Cond.methodLink RX3 82 yX4_addBank ∈ T0 := T0_k2 (List.mem_of_getElem? (i := 239) rfl) rfl
theorem wim_yX4_addBank : Cond.instanceMethod yX4_addBank ∈ T0 := T0_k3 (List.mem_of_getElem? (i := 0) rfl) rfl
theorem wse_yX4_addBank : Cond.selects RX4 yX4_addBank yX4_addBank ∈ T0 := T0_k3 (List.mem_of_getElem? (i := 1) rfl) rfl
theorem wc_yX4_addBank : Cond.code yX4_addBank cX4_addBank 2 none ∈ T0 := T0_k3 (List.mem_of_getElem? (i := 2) rfl) rfl
theorem wm_X3_85 : Cond.methodLink RX3 85 yX5_turnAtBank ∈ T0 := T0_k3 (List.mem_of_getElem? (i := 3) rfl) rfl
theorem wim_yX5_turnAtBank : Cond.instanceMethod yX5_turnAtBank ∈ T0 := T0_k3 (List.mem_of_getElem? (i := 4) rfl) rfl
theorem wse_yX5_turnAtBank : Cond.selects RX5 yX5_turnAtBank yX5_turnAtBank ∈ T0 := T0_k3 (List.mem_of_getElem? (i := 5) rfl) rfl
theorem wc_yX5_turnAtBank : Cond.code yX5_turnAtBank cX5_turnAtBank 8 none ∈ T0 := T0_k3 (List.mem_of_getElem? (i := 6) rfl) rfl
theorem wm_X5_40 : Cond.methodLink RX5 40 yX1_isOut ∈ T0 := T0_k3 (List.mem_of_getElem? (i := 7) rfl) rfl
theorem wm_X5_44 : Cond.methodLink RX5 44 yX1_turned ∈ T0 := T0_k3 (List.mem_of_getElem? (i := 8) rfl) rfl
theorem wst_yX1_turned : Cond.static yX1_turned ∈ T0 := T0_k3 (List.mem_of_getElem? (i := 9) rfl) rfl
theorem wc_yX1_turned : Cond.code yX1_turned cX1_turned 2 (some .int) ∈ T0 := T0_k3 (List.mem_of_getElem? (i := 10) rfl) rfl
theorem wm_X1_35 : Cond.methodLink RX1 35 yJ9_floorMod_7cf53 ∈ T0 := T0_k3 (List.mem_of_getElem? (i := 11) rfl) rfl
theorem wst_yJ9_floorMod_7cf53 : Cond.static yJ9_floorMod_7cf53 ∈ T0 := T0_k3 (List.mem_of_getElem? (i := 12) rfl) rfl
theorem wi_J9 : Cond.initialized RJ9 ∈ T0 := T0_k1 (List.mem_of_getElem? (i := 10) rfl) rfl
theorem wc_yJ9_floorMod_7cf53 : Cond.code yJ9_floorMod_7cf53 cJ9_floorMod_7cf53 3 (some .int) ∈ T0 := T0_k3 (List.mem_of_getElem? (i := 13) rfl) rfl
theorem wm_X3_88 : Cond.methodLink RX3 88 yX5_turnOnIfOpen ∈ T0 := T0_k3 (List.mem_of_getElem? (i := 14) rfl) rfl
theorem wim_yX5_turnOnIfOpen : Cond.instanceMethod yX5_turnOnIfOpen ∈ T0 := T0_k3 (List.mem_of_getElem? (i := 15) rfl) rfl
theorem wse_yX5_turnOnIfOpen : Cond.selects RX5 yX5_turnOnIfOpen yX5_turnOnIfOpen ∈ T0 := T0_k3 (List.mem_of_getElem? (i := 16) rfl) rfl
theorem wc_yX5_turnOnIfOpen : Cond.code yX5_turnOnIfOpen cX5_turnOnIfOpen 2 none ∈ T0 := T0_k3 (List.mem_of_getElem? (i := 17) rfl) rfl
theorem wm_X3_67 : Cond.methodLink RX3 67 yX3_step ∈ T0 := T0_k3 (List.mem_of_getElem? (i := 18) rfl) rfl
theorem wim_yX3_step : Cond.instanceMethod yX3_step ∈ T0 := T0_k3 (List.mem_of_getElem? (i := 20) rfl) rfl
theorem wse_yX3_step : Cond.selects RX3 yX3_step yX3_step ∈ T0 := T0_p (List.mem_of_getElem? (i := 9) rfl) rfl
theorem wc_yX3_step : Cond.code yX3_step cX3_step 3 none ∈ T0 := T0_k3 (List.mem_of_getElem? (i := 21) rfl) rfl
theorem wm_X3_97 : Cond.methodLink RX3 97 yX4_addStep ∈ T0 := T0_k3 (List.mem_of_getElem? (i := 22) rfl) rfl
theorem wim_yX4_addStep : Cond.instanceMethod yX4_addStep ∈ T0 := T0_k3 (List.mem_of_getElem? (i := 23) rfl) rfl
theorem wse_yX4_addStep : Cond.selects RX4 yX4_addStep yX4_addStep ∈ T0 := T0_k3 (List.mem_of_getElem? (i := 24) rfl) rfl
theorem wc_yX4_addStep : Cond.code yX4_addStep cX4_addStep 2 none ∈ T0 := T0_k3 (List.mem_of_getElem? (i := 25) rfl) rfl
theorem wm_X3_100 : Cond.methodLink RX3 100 yX4_place ∈ T0 := T0_k3 (List.mem_of_getElem? (i := 26) rfl) rfl
theorem wm_X3_94 : Cond.methodLink RX3 94 yX5_stepAhead ∈ T0 := T0_k3 (List.mem_of_getElem? (i := 27) rfl) rfl
theorem wim_yX5_stepAhead : Cond.instanceMethod yX5_stepAhead ∈ T0 := T0_k3 (List.mem_of_getElem? (i := 28) rfl) rfl
theorem wse_yX5_stepAhead : Cond.selects RX5 yX5_stepAhead yX5_stepAhead ∈ T0 := T0_k3 (List.mem_of_getElem? (i := 29) rfl) rfl
theorem wc_yX5_stepAhead : Cond.code yX5_stepAhead cX5_stepAhead 1 none ∈ T0 := T0_k3 (List.mem_of_getElem? (i := 30) rfl) rfl
theorem wm_X3_103 : Cond.methodLink RX3 103 yX4_isOpenPot ∈ T0 := T0_k3 (List.mem_of_getElem? (i := 31) rfl) rfl
theorem wim_yX4_isOpenPot : Cond.instanceMethod yX4_isOpenPot ∈ T0 := T0_k3 (List.mem_of_getElem? (i := 32) rfl) rfl
theorem wse_yX4_isOpenPot : Cond.selects RX4 yX4_isOpenPot yX4_isOpenPot ∈ T0 := T0_k3 (List.mem_of_getElem? (i := 33) rfl) rfl
theorem wc_yX4_isOpenPot : Cond.code yX4_isOpenPot cX4_isOpenPot 3 (some .boolean) ∈ T0 := T0_k3 (List.mem_of_getElem? (i := 34) rfl) rfl
theorem wm_X4_79 : Cond.methodLink RX4 79 yX1_cornerOf ∈ T0 := T0_k3 (List.mem_of_getElem? (i := 35) rfl) rfl
theorem wm_X3_107 : Cond.methodLink RX3 107 yX4_lift ∈ T0 := T0_k3 (List.mem_of_getElem? (i := 36) rfl) rfl
theorem wm_X3_71 : Cond.methodLink RX3 71 yX3_hit ∈ T0 := T0_k3 (List.mem_of_getElem? (i := 37) rfl) rfl
theorem wim_yX3_hit : Cond.instanceMethod yX3_hit ∈ T0 := T0_k3 (List.mem_of_getElem? (i := 39) rfl) rfl
theorem wse_yX3_hit : Cond.selects RX3 yX3_hit yX3_hit ∈ T0 := T0_p (List.mem_of_getElem? (i := 10) rfl) rfl
theorem wc_yX3_hit : Cond.code yX3_hit cX3_hit 3 none ∈ T0 := T0_k3 (List.mem_of_getElem? (i := 40) rfl) rfl
theorem wm_X3_91 : Cond.methodLink RX3 91 yX4_addHit ∈ T0 := T0_k3 (List.mem_of_getElem? (i := 41) rfl) rfl
theorem wim_yX4_addHit : Cond.instanceMethod yX4_addHit ∈ T0 := T0_k3 (List.mem_of_getElem? (i := 42) rfl) rfl
theorem wse_yX4_addHit : Cond.selects RX4 yX4_addHit yX4_addHit ∈ T0 := T0_k3 (List.mem_of_getElem? (i := 43) rfl) rfl
theorem wc_yX4_addHit : Cond.code yX4_addHit cX4_addHit 2 none ∈ T0 := T0_k3 (List.mem_of_getElem? (i := 44) rfl) rfl
theorem wm_L_74 : Cond.methodLink RL 74 yX6_speedLeft ∈ T0 := T0_k3 (List.mem_of_getElem? (i := 45) rfl) rfl
theorem wim_yX6_speedLeft : Cond.instanceMethod yX6_speedLeft ∈ T0 := T0_k3 (List.mem_of_getElem? (i := 46) rfl) rfl
theorem wse_yX6_speedLeft : Cond.selects RX6 yX6_speedLeft yX6_speedLeft ∈ T0 := T0_k3 (List.mem_of_getElem? (i := 47) rfl) rfl
theorem wc_yX6_speedLeft : Cond.code yX6_speedLeft cX6_speedLeft 5 (some .float) ∈ T0 := T0_k3 (List.mem_of_getElem? (i := 48) rfl) rfl
theorem wk_X6_200 : Cond.constantFloat RX6 200 (3212836864) ∈ T0 := T0_k3 (List.mem_of_getElem? (i := 49) rfl) rfl
theorem wm_L_78 : Cond.methodLink RL 78 yL_way ∈ T0 := T0_k3 (List.mem_of_getElem? (i := 50) rfl) rfl
theorem wst_yL_way : Cond.static yL_way ∈ T0 := T0_k3 (List.mem_of_getElem? (i := 51) rfl) rfl
theorem wc_yL_way : Cond.code yL_way cL_way 1 (some .int) ∈ T0 := T0_k3 (List.mem_of_getElem? (i := 52) rfl) rfl
theorem wm_L_81 : Cond.methodLink RL 81 yX6_shoot ∈ T0 := T0_k3 (List.mem_of_getElem? (i := 53) rfl) rfl
theorem wim_yX6_shoot : Cond.instanceMethod yX6_shoot ∈ T0 := T0_k3 (List.mem_of_getElem? (i := 54) rfl) rfl
theorem wse_yX6_shoot : Cond.selects RX6 yX6_shoot yX6_shoot ∈ T0 := T0_k3 (List.mem_of_getElem? (i := 55) rfl) rfl
theorem wc_yX6_shoot : Cond.code yX6_shoot cX6_shoot 7 (some .int) ∈ T0 := T0_k3 (List.mem_of_getElem? (i := 56) rfl) rfl
theorem wm_X6_123 : Cond.methodLink RX6 123 yX4_valueOfBall ∈ T0 := T0_k3 (List.mem_of_getElem? (i := 57) rfl) rfl
theorem wim_yX4_valueOfBall : Cond.instanceMethod yX4_valueOfBall ∈ T0 := T0_k3 (List.mem_of_getElem? (i := 58) rfl) rfl
theorem wse_yX4_valueOfBall : Cond.selects RX4 yX4_valueOfBall yX4_valueOfBall ∈ T0 := T0_k3 (List.mem_of_getElem? (i := 59) rfl) rfl
theorem wc_yX4_valueOfBall : Cond.code yX4_valueOfBall cX4_valueOfBall 2 (some .int) ∈ T0 := T0_k3 (List.mem_of_getElem? (i := 60) rfl) rfl
theorem wm_X6_124 : Cond.methodLink RX6 124 yX4_scoreShot ∈ T0 := T0_k3 (List.mem_of_getElem? (i := 61) rfl) rfl
theorem wim_yX4_scoreShot : Cond.instanceMethod yX4_scoreShot ∈ T0 := T0_k3 (List.mem_of_getElem? (i := 62) rfl) rfl
theorem wse_yX4_scoreShot : Cond.selects RX4 yX4_scoreShot yX4_scoreShot ∈ T0 := T0_k3 (List.mem_of_getElem? (i := 63) rfl) rfl
theorem wc_yX4_scoreShot : Cond.code yX4_scoreShot cX4_scoreShot 2 none ∈ T0 := T0_k3 (List.mem_of_getElem? (i := 64) rfl) rfl
theorem wm_X4_94 : Cond.methodLink RX4 94 yX4_changeTurn ∈ T0 := T0_k3 (List.mem_of_getElem? (i := 65) rfl) rfl
theorem wm_L_103 : Cond.methodLink RL 103 yL_isWell ∈ T0 := T0_k3 (List.mem_of_getElem? (i := 84) rfl) rfl
theorem wst_yL_isWell : Cond.static yL_isWell ∈ T0 := T0_k3 (List.mem_of_getElem? (i := 85) rfl) rfl
theorem wc_yL_isWell : Cond.code yL_isWell cL_isWell 11 (some .boolean) ∈ T0 := T0_k3 (List.mem_of_getElem? (i := 86) rfl) rfl
theorem wm_L_88 : Cond.methodLink RL 88 yX6_cell ∈ T0 := T0_k3 (List.mem_of_getElem? (i := 87) rfl) rfl
theorem wim_yX6_cell : Cond.instanceMethod yX6_cell ∈ T0 := T0_k3 (List.mem_of_getElem? (i := 88) rfl) rfl
theorem wse_yX6_cell : Cond.selects RX6 yX6_cell yX6_cell ∈ T0 := T0_k3 (List.mem_of_getElem? (i := 89) rfl) rfl
theorem wc_yX6_cell : Cond.code yX6_cell cX6_cell 3 (some .int) ∈ T0 := T0_k3 (List.mem_of_getElem? (i := 90) rfl) rfl
theorem wm_X6_154 : Cond.methodLink RX6 154 yX1_cellAt ∈ T0 := T0_k3 (List.mem_of_getElem? (i := 83) rfl) rfl
theorem wm_L_91 : Cond.methodLink RL 91 yX6_best ∈ T0 := T0_k3 (List.mem_of_getElem? (i := 91) rfl) rfl
theorem wim_yX6_best : Cond.instanceMethod yX6_best ∈ T0 := T0_k3 (List.mem_of_getElem? (i := 92) rfl) rfl
theorem wse_yX6_best : Cond.selects RX6 yX6_best yX6_best ∈ T0 := T0_k3 (List.mem_of_getElem? (i := 93) rfl) rfl
theorem wc_yX6_best : Cond.code yX6_best cX6_best 10 (some .int) ∈ T0 := T0_k3 (List.mem_of_getElem? (i := 94) rfl) rfl
theorem wm_L_106 : Cond.methodLink RL 106 yL_areAlike ∈ T0 := T0_k3 (List.mem_of_getElem? (i := 67) rfl) rfl
theorem wst_yL_areAlike : Cond.static yL_areAlike ∈ T0 := T0_k3 (List.mem_of_getElem? (i := 68) rfl) rfl
theorem wc_yL_areAlike : Cond.code yL_areAlike cL_areAlike 8 (some .boolean) ∈ T0 := T0_k3 (List.mem_of_getElem? (i := 69) rfl) rfl
theorem wm_L_84 : Cond.methodLink RL 84 yX6_along ∈ T0 := T0_k3 (List.mem_of_getElem? (i := 70) rfl) rfl
theorem wim_yX6_along : Cond.instanceMethod yX6_along ∈ T0 := T0_k3 (List.mem_of_getElem? (i := 71) rfl) rfl
theorem wse_yX6_along : Cond.selects RX6 yX6_along yX6_along ∈ T0 := T0_k3 (List.mem_of_getElem? (i := 72) rfl) rfl
theorem wc_yX6_along : Cond.code yX6_along cX6_along 6 (some .int) ∈ T0 := T0_k3 (List.mem_of_getElem? (i := 73) rfl) rfl
theorem wm_X6_212 : Cond.methodLink RX6 212 yX5_startAt ∈ T0 := T0_k3 (List.mem_of_getElem? (i := 74) rfl) rfl
theorem wm_X6_217 : Cond.methodLink RX6 217 yX5_walk ∈ T0 := T0_k3 (List.mem_of_getElem? (i := 75) rfl) rfl
theorem wim_yX5_walk : Cond.instanceMethod yX5_walk ∈ T0 := T0_k3 (List.mem_of_getElem? (i := 76) rfl) rfl
theorem wse_yX5_walk : Cond.selects RX5 yX5_walk yX5_walk ∈ T0 := T0_k3 (List.mem_of_getElem? (i := 77) rfl) rfl
theorem wc_yX5_walk : Cond.code yX5_walk cX5_walk 3 none ∈ T0 := T0_k3 (List.mem_of_getElem? (i := 78) rfl) rfl
theorem wm_X5_47 : Cond.methodLink RX5 47 yX5_cellAhead ∈ T0 := T0_k3 (List.mem_of_getElem? (i := 79) rfl) rfl
theorem wm_X5_51 : Cond.methodLink RX5 51 yX5_turnAtBank ∈ T0 := T0_k3 (List.mem_of_getElem? (i := 80) rfl) rfl
theorem wm_X5_54 : Cond.methodLink RX5 54 yX5_stepAhead ∈ T0 := T0_k3 (List.mem_of_getElem? (i := 81) rfl) rfl
theorem wm_X6_223 : Cond.methodLink RX6 223 yX1_turned ∈ T0 := T0_k3 (List.mem_of_getElem? (i := 82) rfl) rfl
theorem T0X0 : ∀ w ∈ wsX00, w ∈ T0 := by
  intro w hw
  obtain ⟨k, hk, rfl⟩ := List.mem_map.mp hw
  have hk := List.mem_range.mp hk
  match k, hk with
  | 0, _ => exact T0_k1 (List.mem_of_getElem? (i := 123) rfl) rfl
  | 1, _ => exact T0_k1 (List.mem_of_getElem? (i := 125) rfl) rfl
  | 2, _ => exact T0_k1 (List.mem_of_getElem? (i := 127) rfl) rfl
  | 3, _ => exact T0_k1 (List.mem_of_getElem? (i := 129) rfl) rfl
  | 4, _ => exact T0_k1 (List.mem_of_getElem? (i := 131) rfl) rfl
  | 5, _ => exact T0_k1 (List.mem_of_getElem? (i := 133) rfl) rfl
  | 6, _ => exact T0_k1 (List.mem_of_getElem? (i := 135) rfl) rfl
  | k + 7, h => exact absurd h (by omega)
theorem T0X2 : ∀ w ∈ wsX20, w ∈ T0 := by
  intro w hw
  obtain ⟨k, hk, rfl⟩ := List.mem_map.mp hw
  have hk := List.mem_range.mp hk
  match k, hk with
  | 0, _ => exact T0_k1 (List.mem_of_getElem? (i := 103) rfl) rfl
  | 1, _ => exact T0_k1 (List.mem_of_getElem? (i := 105) rfl) rfl
  | k + 2, h => exact absurd h (by omega)
theorem T0X3 : ∀ w ∈ wsX30, w ∈ T0 := by
  intro w hw
  obtain ⟨k, hk, rfl⟩ := List.mem_map.mp hw
  have hk := List.mem_range.mp hk
  match k, hk with
  | 0, _ => exact T0_k1 (List.mem_of_getElem? (i := 180) rfl) rfl
  | 1, _ => exact T0_k1 (List.mem_of_getElem? (i := 182) rfl) rfl
  | 2, _ => exact T0_k1 (List.mem_of_getElem? (i := 184) rfl) rfl
  | 3, _ => exact T0_k1 (List.mem_of_getElem? (i := 186) rfl) rfl
  | 4, _ => exact T0_k1 (List.mem_of_getElem? (i := 188) rfl) rfl
  | 5, _ => exact T0_k1 (List.mem_of_getElem? (i := 190) rfl) rfl
  | 6, _ => exact T0_k1 (List.mem_of_getElem? (i := 192) rfl) rfl
  | 7, _ => exact T0_k1 (List.mem_of_getElem? (i := 194) rfl) rfl
  | 8, _ => exact T0_k1 (List.mem_of_getElem? (i := 196) rfl) rfl
  | k + 9, h => exact absurd h (by omega)
theorem T0X4 : ∀ w ∈ wsX40, w ∈ T0 := by
  intro w hw
  obtain ⟨k, hk, rfl⟩ := List.mem_map.mp hw
  have hk := List.mem_range.mp hk
  match k, hk with
  | 0, _ => exact T0_k1 (List.mem_of_getElem? (i := 61) rfl) rfl
  | 1, _ => exact T0_k1 (List.mem_of_getElem? (i := 63) rfl) rfl
  | 2, _ => exact T0_k1 (List.mem_of_getElem? (i := 65) rfl) rfl
  | 3, _ => exact T0_k1 (List.mem_of_getElem? (i := 67) rfl) rfl
  | 4, _ => exact T0_k1 (List.mem_of_getElem? (i := 69) rfl) rfl
  | 5, _ => exact T0_k1 (List.mem_of_getElem? (i := 71) rfl) rfl
  | 6, _ => exact T0_k1 (List.mem_of_getElem? (i := 73) rfl) rfl
  | 7, _ => exact T0_k1 (List.mem_of_getElem? (i := 75) rfl) rfl
  | 8, _ => exact T0_k1 (List.mem_of_getElem? (i := 77) rfl) rfl
  | 9, _ => exact T0_k1 (List.mem_of_getElem? (i := 79) rfl) rfl
  | 10, _ => exact T0_k1 (List.mem_of_getElem? (i := 81) rfl) rfl
  | 11, _ => exact T0_k1 (List.mem_of_getElem? (i := 83) rfl) rfl
  | 12, _ => exact T0_k1 (List.mem_of_getElem? (i := 85) rfl) rfl
  | 13, _ => exact T0_k1 (List.mem_of_getElem? (i := 87) rfl) rfl
  | k + 14, h => exact absurd h (by omega)
theorem T0X5 : ∀ w ∈ wsX50, w ∈ T0 := by
  intro w hw
  obtain ⟨k, hk, rfl⟩ := List.mem_map.mp hw
  have hk := List.mem_range.mp hk
  match k, hk with
  | 0, _ => exact T0_k1 (List.mem_of_getElem? (i := 157) rfl) rfl
  | 1, _ => exact T0_k1 (List.mem_of_getElem? (i := 159) rfl) rfl
  | 2, _ => exact T0_k1 (List.mem_of_getElem? (i := 161) rfl) rfl
  | k + 3, h => exact absurd h (by omega)
theorem T0X6 : ∀ w ∈ wsX60, w ∈ T0 := by
  intro w hw
  obtain ⟨k, hk, rfl⟩ := List.mem_map.mp hw
  have hk := List.mem_range.mp hk
  match k, hk with
  | 0, _ => exact T0_k1 (List.mem_of_getElem? (i := 205) rfl) rfl
  | 1, _ => exact T0_k1 (List.mem_of_getElem? (i := 207) rfl) rfl
  | 2, _ => exact T0_k1 (List.mem_of_getElem? (i := 209) rfl) rfl
  | 3, _ => exact T0_k1 (List.mem_of_getElem? (i := 211) rfl) rfl
  | 4, _ => exact T0_k1 (List.mem_of_getElem? (i := 213) rfl) rfl
  | 5, _ => exact T0_k1 (List.mem_of_getElem? (i := 215) rfl) rfl
  | 6, _ => exact T0_k1 (List.mem_of_getElem? (i := 217) rfl) rfl
  | k + 7, h => exact absurd h (by omega)
end
section
/-! THE BASE: one environment for all methods, a walk's standing facts in two words (Cx, Wd), contracts that are functions (KI, KV, KF), rows over them -/
/-- classes' places, the array classes (int, char, State), the addresses of the static arrays -/
abbrev Ev : Type := va_G × (ClassId × ClassId × ClassId) × (Nat → Nat)
def tyL (E : Ev) : List (ClassId × FieldType) := [(E.2.1.1, .int), (E.2.1.2.1, .char), (E.2.1.2.2, .object RX4)]
/-- the cells of a world -/
def hB (ws : va_W) : Nat → Prop := fun q => ∃ (k : Nat) (e : va_E), ws[k]? = some (q, e)
/-- the static arrays -/
def sL : List (String × String × List Int32) := [("HexBilliards", "LOWEST_SETTING", [50, 50, 50]), ("HexBilliards", "HIGHEST_SETTING", [99, 100, 99]), ("HexBilliards", "FIRST_SETTING", [90, 80, 70]), ("HexBilliards$Felt", "STEP_Q", [1, 1, 0, -1, -1, 0]), ("HexBilliards$Felt", "STEP_R", [0, -1, -1, 0, 1, 1]), ("HexBilliards$Felt", "CORNER_CELLS", [34, 4, 0, 26, 56, 60]), ("HexBilliards$Felt", "FIRST_OF_ROW", [0, 5, 11, 18, 26, 35, 43, 50, 56])]
def sT (i : Nat) (j : Nat) : Int32 := ((sL.getD i ("", "", [])).2.2).getD j 0
def Stt (E : Ev) (A : Nat → Prop) (U : State) (H : Heap) : Prop := ∀ (i : Nat) (q : String × String × List Int32), sL[i]? = some q → va_Z q.1 q.2.1 "[I" (.ref (E.2.2 i)) A U H ∧ va_T .int (E.2.2 i) q.2.2.length (fun j => .int (sT i j)) A U H
theorem Stt.moved {E : Ev} {A : Nat → Prop} {u U : State} {H : Heap} (hv : u.vm.Alike U.vm) (h : Stt E A u H) : Stt E A U H := fun i q hq => ⟨va_Z.moved hv (h i q hq).1, va_T.moved hv (h i q hq).2⟩
theorem Stt.pass {E : Ev} {A B : Nat → Prop} {s U : State} {H : Heap} {locs : List Loc} (h : Stt E A s s.heap) (hS : va_S A s.heap H locs) (hAB : ∀ q, B q → A q) (hU : U.heap = H) (hv : s.vm.Alike U.vm) : Stt E B U U.heap := by
  intro i q hq
  obtain ⟨h1, h2⟩ := h i q hq
  rw [hU]
  exact ⟨va_Z.moved hv ((h1.kept hS.2.1).narrow hAB), va_T.moved hv ((h2.kept hS.2.1).narrow hAB)⟩
/-- the links to nest mates' private members -/
def NL : List Cond := [.fieldLinkNest RX6 113 RX4 "turn" "I" RX6, .fieldLinkNest RX6 120 RX3 "gone" "I" RX6, .fieldLinkNest RX6 127 RX4 "run" "I" RX6, .fieldLinkNest RX6 137 RX0 "length" "I" RX6, .fieldLinkNest RX6 144 RX2 "size" "I" RX6, .fieldLinkNest RX6 169 RX4 "cellOf" "[I" RX6, .fieldLinkNest RX6 172 RX4 "valueOf" "[I" RX6, .fieldLinkNest RX6 175 RX4 "stepsOf" "[I" RX6, .fieldLinkNest RX6 178 RX4 "banksOf" "[I" RX6, .fieldLinkNest RX6 181 RX4 "hitsOf" "[I" RX6, .fieldLinkNest RX6 188 RX3 "steps" "I" RX6, .fieldLinkNest RX6 191 RX3 "banks" "I" RX6, .fieldLinkNest RX6 194 RX3 "hits" "I" RX6, .fieldLinkNest RX6 197 RX3 "mover" "I" RX6, .fieldLinkNest RX6 201 RX3 "speed" "F" RX6, .fieldLinkNest RX6 208 RX3 "walker" "LHexBilliards$Walker;" RX6, .fieldLinkNest RX6 220 RX5 "direction" "I" RX6, .fieldLinkNest RX6 226 RX5 "q" "I" RX6, .fieldLinkNest RX6 229 RX5 "r" "I" RX6, .fieldLinkNest RX6 236 RX4 "ballsSoFar" "I" RX6, .fieldLinkNest RX6 239 RX4 "scores" "[I" RX6, .fieldLinkNest RX6 242 RX4 "shots" "I" RX6, .fieldLinkNest RX6 245 RX4 "goneByShots" "I" RX6, .fieldLinkNest RX6 68 RX0 "balls" "I" RX6, .fieldLinkNest RX6 93 RX4 "openPots" "I" RX6, .fieldLinkNest RX3 74 RX4 "settings" "[I" RX6, .fieldLinkNest RX6 103 RX4 "settings" "[I" RX6, .fieldLinkNest RX4 42 RX6 "FIRST_SETTING" "[I" RX6, .methodLinkNest RX6 31 yX0_init RX6, .methodLinkNest RX6 38 yX3_init RX6, .methodLinkNest RX3 11 yX5_init RX6, .methodLinkNest RX4 97 yX6_isPlayer RX6]
def isNest : Cond → Bool
  | .fieldLinkNest .. => true
  | .methodLinkNest .. => true
  | _ => false
theorem NL_nest : NL.all isNest = true := rfl
theorem nest_warm {w : Cond} (h : isNest w = true) {s U : State} (hW : s.WarmedH U.vm) (hZ : va_Nw w s) : va_Nw w U := by
  cases w <;> first | (simp [isNest] at h; done) | exact va_Nw.warmF hW hZ | exact va_Nw.warmM hW hZ
theorem nest_tabs {w : Cond} (h : isNest w = true) : w.onTables = true := by
  cases w <;> first | (simp [isNest] at h; done) | rfl
def Nst (U : State) : Prop := ∀ w ∈ NL, va_Nw w U
theorem Nst.warm {s U : State} (hW : s.WarmedH U.vm) (h : Nst s) : Nst U := fun w hw => nest_warm (List.all_eq_true.mp NL_nest w hw) hW (h w hw)
theorem Nst.same {u U : State} (e : u.vm = U.vm) (h : Nst u) : Nst U := fun w hw => va_Nw.same (nest_tabs (List.all_eq_true.mp NL_nest w hw)) e (h w hw)
/-- a contract's start -/
def Pre (E : Ev) (wc : va_W) (U : State) : Prop := va_P E.1 vwCl wc U.heap ∧ va_K E.1 vwCl (tyL E) U ∧ va_D (fun _ => True) wc ∧ Stt E (hB wc) U U.heap ∧ Nst U
theorem Pre.blind (av : List Value) (E : Ev) (wc : va_W) : FrameBlind (va_Pc av (Pre E wc)) := fun a U g mk h => ⟨h.1, h.2.1, va_K.moved (u := U) (U := U.calling g mk a) (Vm.Alike.refl U.vm) h.2.2.1, h.2.2.2.1, Stt.moved (u := U) (U := U.calling g mk a) (Vm.Alike.refl U.vm) h.2.2.2.2.1, Nst.same (u := U) (U := U.calling g mk a) rfl h.2.2.2.2.2⟩
/-- a walk's standing facts -/
def Cx (p : Program) (m : MethodId) (meth : Method) (c : Code) (cc : ByteArray) (nL : Nat) (s : State) (args : Array Value) (own : String) (E : Ev) (A : Nat → Prop) : Prop :=
  p.tables.exec = Jvm.exec ∧ c.code = cc ∧ c.maxLocals = nL ∧ s.vm.findClass own = some m.cls ∧ (∀ w ∈ T0, w.before args s = true) ∧ va_K E.1 vwCl (tyL E) s ∧ Stt E A s s.heap ∧ Nst s ∧ meth.locks = false
/-- the heap now: the world's cells, apart; nothing else has changed since the start -/
def Wd (E : Ev) (A : Nat → Prop) (s : State) (ws : va_W) (H : Heap) (locs : List Loc) : Prop := va_P E.1 vwCl ws H ∧ va_D A ws ∧ va_S A s.heap H locs
/-- contracts: the answer and the world behind are functions -/
def QI (E : Ev) (wc : va_W) (r : Int32) (wc' : va_W) : Array Value → State → Outcome → State → Prop := va_Qi (fun (x : Int32) (_ : Unit) => x = r) (fun _ t => va_P E.1 vwCl wc' t.heap) (hB wc)
def QV (E : Ev) (wc : va_W) (wc' : va_W) : Array Value → State → Outcome → State → Prop := va_Qv (fun (_ : Unit) => True) (fun _ t => va_P E.1 vwCl wc' t.heap) (hB wc)
def QF (E : Ev) (wc : va_W) (r : UInt32) (wc' : va_W) : Array Value → State → Outcome → State → Prop := va_Qf (fun (x : UInt32) (_ : Unit) => x = r) (fun _ t => va_P E.1 vwCl wc' t.heap) (hB wc)
def KQ (l : Launch) (y : MethodName) (bytes : ByteArray) (maxL : Nat) (ret : Option FieldType) (fr lo : Nat) (E : Ev) (av : List Value) (wc : va_W) (Qc : Array Value → State → Outcome → State → Prop) : Prop :=
  Met l y (.code y bytes maxL ret :: T0) { frames := fr, cells := 0, slots := 0, locals := lo } (va_Pc av (Pre E wc)) Qc 0 0 (hB wc)
theorem metW {l : Launch} {y : MethodName} {ws ws' : List Cond} {rm : Room} {Pc : Array Value → State → Prop} {Qc : Array Value → State → Outcome → State → Prop} {mc ms : Nat} {free : Addr → Prop} {cc : ByteArray} {maxL : Nat} {ret : Option FieldType}
    (hy : plainFor y = true) (hw : ws = Cond.code y cc maxL ret :: ws')
    (body : ∀ p e s m args below meth c s₁, BodyLoose p l y (headSpec ws rm) cc maxL ret e s m args below meth c s₁ → c.maxLocals = maxL → Pc args s →
      W p l e (headSpec ws rm).room s m args below meth c s.heap [] 0 0 (MQ below Qc args s mc ms free) (entryFrame m args maxL)) : Met l y ws rm Pc Qc mc ms free := by
  refine MetFree.of_bodySF (code := cc) (maxLocals := maxL) (ret := ret) hy ?_ ?_
  · intro args s m h hn
    obtain ⟨meth, c, h1, h2, h3, h4, h5, h6, -, -⟩ := Cond.code_spec hn (atoms_spec (ws := ws) h _ (by rw [hw]; exact List.mem_cons_self))
    exact ⟨meth, c, h1, h2, h3, h4, h5, h6⟩
  · intro p e s m args below meth c s₁ B hml hP _
    have hh0 : s₁.heap = s.heap := by rw [B.state]; rfl
    obtain ⟨t, a1, o, b1, b2, b3⟩ := body p e s m args below meth c s₁ B hml hP s₁ hh0 (Stand.of_body B)
    exact ⟨t, o, a1, b1, b2, ⟨b3.1, b3.2⟩⟩
theorem KQ.mk {l : Launch} {y : MethodName} {bytes : ByteArray} {maxL : Nat} {ret : Option FieldType} {fr lo : Nat} {E : Ev} {av : List Value} {wc : va_W} {Qc : Array Value → State → Outcome → State → Prop} (own : String) (hown : y.cls = own) (hy : plainFor y = true) (hlen : (lg_sl av).length ≤ maxL)
    (body : ∀ (p : Program) (e : Env) (s : State) (m : MethodId) (below : List Frame) (meth : Method) (c : Code) (ls : Array Slot), Cx p m meth c bytes maxL s av.toArray own E (hB wc) → meth.sig.returnType = ret → Wd E (hB wc) s wc s.heap [] → lv_has ls maxL (lv_args 0 av) →
      W p l e { frames := fr, cells := 0, slots := 0, locals := lo } s m av.toArray below meth c s.heap [] 0 0 (MQ below Qc av.toArray s 0 0 (hB wc)) (F0 m 0 ls [])) : KQ l y bytes maxL ret fr lo E av wc Qc := by
  refine metW (cc := bytes) (maxL := maxL) (ret := ret) hy rfl ?_
  intro p e s m args below meth c s₁ B hml hv
  obtain ⟨rfl, hP, hK, hD0, hT, hN⟩ := hv
  have hts := atoms_spec (ws := .code y bytes maxL ret :: T0) B.pre
  have hf := findClass_of_methodNamed B.named
  rw [hown] at hf
  rw [lg_entry_eq]
  exact body p e s m below meth c _ ⟨B.exec, B.bytes, hml, hf, fun w hw => hts w (List.mem_cons_of_mem _ hw), hK, hT, hN, B.notSynchronized⟩ B.returns ⟨hP, ⟨hD0.1, fun k q hk => ⟨k, q.2, hk⟩⟩, va_S.rf⟩ (lv_entry av hlen)
/-- worlds: cells put at places -/
def wput (ws : va_W) : List Nat → va_W → va_W
  | i :: is, q :: qs => wput (ws.set i q) is qs
  | _, _ => ws
theorem wput_get : ∀ (is : List Nat) (qs ws : va_W) (k : Nat) (q : Nat × va_E), (wput ws is qs)[k]? = some q → (∃ j : Nat, qs[j]? = some q ∧ is[j]? = some k) ∨ (ws[k]? = some q ∧ ∀ j : Nat, is[j]? = some k → qs.length ≤ j)
  | [], qs, ws, k, q, h => Or.inr ⟨by simpa [wput] using h, fun j hj => by simp at hj⟩
  | i :: is, [], ws, k, q, h => Or.inr ⟨by simpa [wput] using h, fun j _ => Nat.zero_le j⟩
  | i :: is, a :: qs, ws, k, q, h => by
    rcases wput_get is qs (ws.set i a) k q h with ⟨j, h1, h2⟩ | ⟨h1, h2⟩
    · exact Or.inl ⟨j + 1, by simpa using h1, by simpa using h2⟩
    · by_cases hk : i = k
      · subst hk
        have hlt : i < (ws.set i a).length := (List.getElem?_eq_some_iff.mp h1).1
        rw [List.getElem?_set_self (by simpa using hlt)] at h1
        exact Or.inl ⟨0, by simpa using h1, by simp⟩
      · rw [List.getElem?_set_ne hk] at h1
        refine Or.inr ⟨h1, fun j hj => ?_⟩
        cases j with
        | zero => exact absurd (by simpa using hj) hk
        | succ j => simpa using Nat.succ_le_succ (h2 j (by simpa using hj))
theorem pick_at {is : List Nat} {ws w : va_W} (hs : is.map (fun i => ws[i]?) = w.map some) (k : Nat) (q : Nat × va_E) (hq : w[k]? = some q) : ∃ i, is[k]? = some i ∧ ws[i]? = some q := by
  have h1 : (is.map (fun i => ws[i]?))[k]? = some (some q) := by rw [hs, List.getElem?_map, hq]; rfl
  rw [List.getElem?_map] at h1
  cases hi : is[k]? with
  | none => rw [hi] at h1; cases h1
  | some i => rw [hi] at h1; exact ⟨i, rfl, Option.some.inj h1⟩
theorem fst_at {wc wc' : va_W} (ha : wc'.map Prod.fst = wc.map Prod.fst) (k : Nat) (q : Nat × va_E) (hq : wc'[k]? = some q) : ∃ q0, wc[k]? = some q0 ∧ q0.1 = q.1 := by
  have h1 : (wc'.map Prod.fst)[k]? = some q.1 := by rw [List.getElem?_map, hq]; rfl
  rw [ha, List.getElem?_map] at h1
  cases hi : wc[k]? with
  | none => rw [hi] at h1; cases h1
  | some q0 => rw [hi] at h1; exact ⟨q0, rfl, Option.some.inj h1⟩
theorem len_at {is : List Nat} {ws w : va_W} (hs : is.map (fun i => ws[i]?) = w.map some) : is.length = w.length := by
  have := congrArg List.length hs
  simpa using this
theorem Wd.call {E : Ev} {A : Nat → Prop} {s : State} {ws wc wc' : va_W} {H H1 : Heap} {locs locs1 : List Loc} (w : Wd E A s ws H locs) (is : List Nat) (hC : is.map (fun i => ws[i]?) = wc.map some) (ha : wc'.map Prod.fst = wc.map Prod.fst) (hk : ∀ q : Nat, q < H.size → ¬ hB wc q → H1[q]? = H[q]?) (hP1 : va_P E.1 vwCl wc' H1) (hS1 : va_S A s.heap H1 locs1) : Wd E A s (wput ws is wc') H1 locs1 := by
  obtain ⟨hP, hD, hS⟩ := w
  have hl : wc'.length = is.length := by rw [len_at hC, ← List.length_map (f := Prod.fst) (as := wc), ← ha, List.length_map]
  have key : ∀ (k : Nat) (q : Nat × va_E), (wput ws is wc')[k]? = some q → ∃ q0, ws[k]? = some q0 ∧ q0.1 = q.1 := by
    intro k q hq
    rcases wput_get is wc' ws k q hq with ⟨j, h1, h2⟩ | ⟨h1, -⟩
    · obtain ⟨q0, h3, h4⟩ := fst_at ha j q h1
      obtain ⟨i, h5, h6⟩ := pick_at hC j q0 h3
      rw [h2] at h5
      cases h5
      exact ⟨q0, h6, h4⟩
    · exact ⟨q, h1, rfl⟩
  refine ⟨fun k q hq => ?_, ⟨fun i j x y hi hj hxy => ?_, fun k q hq => ?_⟩, hS1⟩
  · rcases wput_get is wc' ws k q hq with ⟨j, h1, -⟩ | ⟨h1, h2⟩
    · exact hP1 j q h1
    · have hlt := (hP k q h1).lt
      refine (hP k q h1).kept (hk q.1 hlt ?_)
      rintro ⟨j, e, h3⟩
      obtain ⟨i, h5, h6⟩ := pick_at hC j _ h3
      have hik := hD.1 k i q _ h1 h6 rfl
      subst hik
      have h7 := h2 j h5
      have h8 := (List.getElem?_eq_some_iff.mp h5).1
      omega
  · obtain ⟨x0, h1, h2⟩ := key i x hi
    obtain ⟨y0, h3, h4⟩ := key j y hj
    exact hD.1 i j x0 y0 h1 h3 (h2.trans (hxy.trans h4.symm))
  · obtain ⟨q0, h1, h2⟩ := key k q hq
    rw [← h2]
    exact hD.2 k q0 h1
theorem Wd.sub {E : Ev} {A : Nat → Prop} {s : State} {ws wc : va_W} {H : Heap} {locs : List Loc} (w : Wd E A s ws H locs) (is : List Nat) (hC : is.map (fun i => ws[i]?) = wc.map some) (hn : va_nd is = true) : va_P E.1 vwCl wc H ∧ va_D A wc ∧ (∀ q, hB wc q → A q) := by
  refine ⟨fun k q hq => ?_, w.2.1.sub is hn hC, ?_⟩
  · obtain ⟨i, -, h2⟩ := pick_at hC k q hq
    exact w.1 i q h2
  · rintro q ⟨k, e, hq⟩
    obtain ⟨i, -, h2⟩ := pick_at hC k _ hq
    exact w.2.1.2 i _ h2
end
section
/-! ROWS over Cx and Wd -/
section RW
variable {p : Program} {l : Launch} {e : Env} {R : Room} {s : State} {m : MethodId} {args : Array Value} {below : List Frame} {meth : Method} {c : Code} {H : Heap} {locs : List Loc} {cells slots : Nat} {Q : State → Prop}
variable {cc : ByteArray} {nL : Nat} {own : String} {E : Ev} {A : Nat → Prop} {ws : va_W} {pc : Nat} {ls : Array Slot} {rest : List Value} {a : Nat}
/-- a class of ours: its place, its fields' words, types and names -/
def CL (ci : Nat) (C : String) (T : u_T) (N : Nat) (ty : Nat → FieldType) : Prop := (∀ w ∈ u_ws C T N, w ∈ T0) ∧ vwCl[ci]? = some (C, T, N) ∧ (∀ k, k < N → parseFieldDescriptor (T k).2.2.1 = some (ty k)) ∧ (∀ a, a < N → ∀ b, b < N → a ≠ b → (T a).2.1 ≠ (T b).2.1) ∧ (∀ k, k < N → (T k).1 = C)
theorem CL0 : CL 0 RX0 TX0 7 tyX0 := ⟨T0X0, rfl, tyX0_ok, nmX0, by decide +kernel⟩
theorem CL2 : CL 1 RX2 TX2 2 tyX2 := ⟨T0X2, rfl, tyX2_ok, nmX2, by decide +kernel⟩
theorem CL3 : CL 2 RX3 TX3 9 tyX3 := ⟨T0X3, rfl, tyX3_ok, nmX3, by decide +kernel⟩
theorem CL4 : CL 3 RX4 TX4 14 tyX4 := ⟨T0X4, rfl, tyX4_ok, nmX4, by decide +kernel⟩
theorem CL5 : CL 4 RX5 TX5 3 tyX5 := ⟨T0X5, rfl, tyX5_ok, nmX5, by decide +kernel⟩
theorem CL6 : CL 5 RX6 TX6 7 tyX6 := ⟨T0X6, rfl, tyX6_ok, nmX6, by decide +kernel⟩
theorem r_get (X : Cx p m meth c cc nL s args own E A) (w : Wd E A s ws H locs) {index ci N : Nat} {C : String} {T : u_T} {ty : Nat → FieldType} (f : CL ci C T N ty) (k : Nat) (hk : k < N) (hlink : Cond.fieldLink own index C (T k).2.1 (T k).2.2.1 ∈ T0) (q0 : Nat) {fs : List Value} (he : ws[q0]? = some (a, .inr (ci, fs))) {v : Value} (hv : fs[k]? = some v) (hdg : decode cc pc = .ok (.getfield index, 3))
    (kk : W p l e R s m args below meth c H locs cells slots Q (F0 m (pc + 3) ls (v :: rest))) : W p l e R s m args below meth c H locs cells slots Q (F0 m pc ls (.ref a :: rest)) := by
  obtain ⟨hx, hb, hml, hown, hts, hK, hT, hN, hlk⟩ := X
  exact va_get hx hb hts f.1 hown hK w.1 q0 he f.2.1 k hk (hts _ hlink) (by rw [f.2.2.2.2 k hk]; exact fun _ h => h) hv hdg kk
theorem r_getN (X : Cx p m meth c cc nL s args own E A) (w : Wd E A s ws H locs) {index ci N : Nat} {C : String} {T : u_T} {ty : Nat → FieldType} (f : CL ci C T N ty) (k : Nat) (hk : k < N) {host : String} (hlink : Cond.fieldLinkNest own index C (T k).2.1 (T k).2.2.1 host ∈ NL) (q0 : Nat) {fs : List Value} (he : ws[q0]? = some (a, .inr (ci, fs))) {v : Value} (hv : fs[k]? = some v) (hdg : decode cc pc = .ok (.getfield index, 3))
    (kk : W p l e R s m args below meth c H locs cells slots Q (F0 m (pc + 3) ls (v :: rest))) : W p l e R s m args below meth c H locs cells slots Q (F0 m pc ls (.ref a :: rest)) := by
  obtain ⟨hx, hb, hml, hown, hts, hK, hT, hN, hlk⟩ := X
  exact va_getN hx hb hts f.1 hown hK w.1 q0 he f.2.1 k hk (va_Nw.use rfl (hN _ hlink)) (by rw [f.2.2.2.2 k hk]; exact fun _ h => h) hv hdg kk
theorem r_put (X : Cx p m meth c cc nL s args own E A) (w : Wd E A s ws H locs) (ws' : va_W) {index ci N : Nat} {C : String} {T : u_T} {ty : Nat → FieldType} (f : CL ci C T N ty) (k : Nat) (hk : k < N) (hlink : Cond.fieldLink own index C (T k).2.1 (T k).2.2.1 ∈ T0) (q0 : Nat) {fs : List Value} (he : ws[q0]? = some (a, .inr (ci, fs))) {v : Value} (hfin : (T k).2.2.2 = false) (hn : narrow (ty k) v = v) (hfit : fits (ty k) v = true) (hl : k < fs.length) (hw : ws.set q0 (a, .inr (ci, fs.set k v)) = ws') (hdg : decode cc pc = .ok (.putfield index, 3))
    (kk : ∀ (H1 : Heap) (locs1 : List Loc), Wd E A s ws' H1 locs1 → W p l e R s m args below meth c H1 locs1 cells slots Q (F0 m (pc + 3) ls rest)) : W p l e R s m args below meth c H locs cells slots Q (F0 m pc ls (v :: .ref a :: rest)) := by
  obtain ⟨hx, hb, hml, hown, hts, hK, hT, hN, hlk⟩ := X
  subst hw
  exact va_put hx hb hts f.1 ty f.2.2.1 f.2.2.2.1 hown hK w.1 w.2.1 w.2.2 q0 he f.2.1 k hk (hts _ hlink) (by rw [f.2.2.2.2 k hk]; exact fun _ h => h) hfin (f.2.2.1 k hk) hn hfit hl hdg (fun H1 locs1 h1 h2 h3 => kk H1 locs1 ⟨h1, h2, h3⟩)
theorem r_putN (X : Cx p m meth c cc nL s args own E A) (w : Wd E A s ws H locs) (ws' : va_W) {index ci N : Nat} {C : String} {T : u_T} {ty : Nat → FieldType} (f : CL ci C T N ty) (k : Nat) (hk : k < N) {host : String} (hlink : Cond.fieldLinkNest own index C (T k).2.1 (T k).2.2.1 host ∈ NL) (q0 : Nat) {fs : List Value} (he : ws[q0]? = some (a, .inr (ci, fs))) {v : Value} (hfin : (T k).2.2.2 = false) (hn : narrow (ty k) v = v) (hfit : fits (ty k) v = true) (hl : k < fs.length) (hw : ws.set q0 (a, .inr (ci, fs.set k v)) = ws') (hdg : decode cc pc = .ok (.putfield index, 3))
    (kk : ∀ (H1 : Heap) (locs1 : List Loc), Wd E A s ws' H1 locs1 → W p l e R s m args below meth c H1 locs1 cells slots Q (F0 m (pc + 3) ls rest)) : W p l e R s m args below meth c H locs cells slots Q (F0 m pc ls (v :: .ref a :: rest)) := by
  obtain ⟨hx, hb, hml, hown, hts, hK, hT, hN, hlk⟩ := X
  subst hw
  exact va_putN hx hb hts f.1 ty f.2.2.1 f.2.2.2.1 hown hK w.1 w.2.1 w.2.2 q0 he f.2.1 k hk (va_Nw.use rfl (hN _ hlink)) (by rw [f.2.2.2.2 k hk]; exact fun _ h => h) hfin (f.2.2.1 k hk) hn hfit hl hdg (fun H1 locs1 h1 h2 h3 => kk H1 locs1 ⟨h1, h2, h3⟩)
theorem r_iald (X : Cx p m meth c cc nL s args own E A) (w : Wd E A s ws H locs) (q0 : Nat) {n : Nat} {f : Nat → Int32} (ha : ws[q0]? = some (a, .inl (E.2.1.1, n, .inl f))) {i : Int32} (hin : vp_in i n) (hdg : decode cc pc = .ok (.iaload, 1))
    (kk : W p l e R s m args below meth c H locs cells slots Q (F0 m (pc + 1) ls (.int (f i.toNatClampNeg) :: rest))) : W p l e R s m args below meth c H locs cells slots Q (F0 m pc ls (.int i :: .ref a :: rest)) := by
  obtain ⟨hx, hb, hml, hown, hts, hK, hT, hN, hlk⟩ := X
  exact va_iald hx hb hK w.1 q0 0 ha rfl hin hdg kk
theorem r_cald (X : Cx p m meth c cc nL s args own E A) (w : Wd E A s ws H locs) (q0 : Nat) {n : Nat} {f : Nat → Int32} (ha : ws[q0]? = some (a, .inl (E.2.1.2.1, n, .inl f))) {i : Int32} (hin : vp_in i n) (hdg : decode cc pc = .ok (.caload, 1))
    (kk : W p l e R s m args below meth c H locs cells slots Q (F0 m (pc + 1) ls (.int (f i.toNatClampNeg) :: rest))) : W p l e R s m args below meth c H locs cells slots Q (F0 m pc ls (.int i :: .ref a :: rest)) := by
  obtain ⟨hx, hb, hml, hown, hts, hK, hT, hN, hlk⟩ := X
  exact va_cald hx hb hK w.1 q0 1 ha rfl hin hdg kk
theorem r_iast (X : Cx p m meth c cc nL s args own E A) (w : Wd E A s ws H locs) (ws' : va_W) (q0 : Nat) {n : Nat} {f : Nat → Int32} (ha : ws[q0]? = some (a, .inl (E.2.1.1, n, .inl f))) {i x : Int32} (hin : vp_in i n) (hw : ws.set q0 (a, .inl (E.2.1.1, n, .inl (upd f i.toNatClampNeg x))) = ws') (hdg : decode cc pc = .ok (.iastore, 1))
    (kk : ∀ (H1 : Heap) (locs1 : List Loc), Wd E A s ws' H1 locs1 → W p l e R s m args below meth c H1 locs1 cells slots Q (F0 m (pc + 1) ls rest)) : W p l e R s m args below meth c H locs cells slots Q (F0 m pc ls (.int x :: .int i :: .ref a :: rest)) := by
  obtain ⟨hx, hb, hml, hown, hts, hK, hT, hN, hlk⟩ := X
  subst hw
  exact va_iast hx hb hK w.1 w.2.1 w.2.2 q0 0 ha rfl hin hdg (fun H1 locs1 h1 h2 h3 => kk H1 locs1 ⟨h1, h2, h3⟩)
theorem r_alen (X : Cx p m meth c cc nL s args own E A) (w : Wd E A s ws H locs) (q0 : Nat) {n : Nat} {f : Nat → Int32} (ha : ws[q0]? = some (a, .inl (E.2.1.1, n, .inl f))) (hdg : decode cc pc = .ok (.arraylength, 1))
    (kk : W p l e R s m args below meth c H locs cells slots Q (F0 m (pc + 1) ls (.int (Int32.ofNat n) :: rest))) : W p l e R s m args below meth c H locs cells slots Q (F0 m pc ls (.ref a :: rest)) := by
  obtain ⟨hx, hb, hml, hown, hts, hK, hT, hN, hlk⟩ := X
  exact va_alen hx hb hK w.1 q0 0 ha rfl rfl hdg kk
theorem r_aldq (X : Cx p m meth c cc nL s args own E A) (w : Wd E A s ws H locs) (q0 : Nat) {n : Nat} {f : Nat → Option Nat} (ha : ws[q0]? = some (a, .inl (E.2.1.2.2, n, .inr (.inr (.inr (.inr f)))))) {i : Int32} (hin : vp_in i n) {v : Nat} (hv : f i.toNatClampNeg = some v) (hdg : decode cc pc = .ok (.aaload, 1))
    (kk : W p l e R s m args below meth c H locs cells slots Q (F0 m (pc + 1) ls (.ref v :: rest))) : W p l e R s m args below meth c H locs cells slots Q (F0 m pc ls (.int i :: .ref a :: rest)) := by
  obtain ⟨hx, hb, hml, hown, hts, hK, hT, hN, hlk⟩ := X
  exact va_aldq hx hb hK w.1 q0 2 ha rfl hin hdg (by rw [hv]; exact kk)
theorem r_gets (X : Cx p m meth c cc nL s args own E A) (w : Wd E A s ws H locs) (i : Nat) {index : Nat} {ref n : String} {L : List Int32} (hi : sL[i]? = some (ref, n, L)) (hlink : Cond.fieldLink own index ref n "[I" ∈ T0) (hdg : decode cc pc = .ok (.getstatic index, 3))
    (kk : W p l e R s m args below meth c H locs cells slots Q (F0 m (pc + 3) ls (.ref (E.2.2 i) :: rest))) : W p l e R s m args below meth c H locs cells slots Q (F0 m pc ls rest) := by
  obtain ⟨hx, hb, hml, hown, hts, hK, hT, hN, hlk⟩ := X
  exact va_gets hx hb (hT i _ hi).1 w.2.2 hown (hts _ hlink) (fun _ h => h) hdg kk
theorem r_getsN (X : Cx p m meth c cc nL s args own E A) (w : Wd E A s ws H locs) (i : Nat) {index : Nat} {ref n host : String} {L : List Int32} (hi : sL[i]? = some (ref, n, L)) (hlink : Cond.fieldLinkNest own index ref n "[I" host ∈ NL) (hdg : decode cc pc = .ok (.getstatic index, 3))
    (kk : W p l e R s m args below meth c H locs cells slots Q (F0 m (pc + 3) ls (.ref (E.2.2 i) :: rest))) : W p l e R s m args below meth c H locs cells slots Q (F0 m pc ls rest) := by
  obtain ⟨hx, hb, hml, hown, hts, hK, hT, hN, hlk⟩ := X
  exact va_getsN hx hb (hT i _ hi).1 w.2.2 hown (va_Nw.use rfl (hN _ hlink)) (fun _ h => h) hdg kk
theorem r_tald (X : Cx p m meth c cc nL s args own E A) (w : Wd E A s ws H locs) (i : Nat) {N : Nat} {ref n : String} {L : List Int32} (hi : sL[i]? = some (ref, n, L)) (hN0 : L.length = N) {j : Int32} (hin : vp_in j N) (hdg : decode cc pc = .ok (.iaload, 1))
    (kk : W p l e R s m args below meth c H locs cells slots Q (F0 m (pc + 1) ls (.int (sT i j.toNatClampNeg) :: rest))) : W p l e R s m args below meth c H locs cells slots Q (F0 m pc ls (.int j :: .ref (E.2.2 i) :: rest)) := by
  obtain ⟨hx, hb, hml, hown, hts, hK, hT, hN, hlk⟩ := X
  subst hN0
  exact va_ti hx hb (hT i _ hi).2 w.2.2 hin rfl hdg kk
theorem r_tlen (X : Cx p m meth c cc nL s args own E A) (w : Wd E A s ws H locs) (i : Nat) {ref n : String} {L : List Int32} (hi : sL[i]? = some (ref, n, L)) {v : Int32} (hv : Int32.ofNat L.length = v) (hdg : decode cc pc = .ok (.arraylength, 1))
    (kk : W p l e R s m args below meth c H locs cells slots Q (F0 m (pc + 1) ls (.int v :: rest))) : W p l e R s m args below meth c H locs cells slots Q (F0 m pc ls (.ref (E.2.2 i) :: rest)) := by
  obtain ⟨hx, hb, hml, hown, hts, hK, hT, hN, hlk⟩ := X
  exact va_tlen hx hb (hT i _ hi).2 w.2.2 hv hdg kk
/-- constants of the pool -/
theorem r_ldci (X : Cx p m meth c cc nL s args own E A) {index : Nat} {v : Int32} (h : Cond.constant own index v ∈ T0) (hdg : decode cc pc = .ok (.ldc index, 2)) (k : W p l e R s m args below meth c H locs cells slots Q (F0 m (pc + 2) ls (.int v :: rest))) : W p l e R s m args below meth c H locs cells slots Q (F0 m pc ls rest) := by
  obtain ⟨hx, hb, hml, hown, hts, hK, hT, hN, hlk⟩ := X
  exact lv_ldc hx hb hown (hts _ h) hdg k
theorem r_ldcf (X : Cx p m meth c cc nL s args own E A) {index : Nat} {v : UInt32} (h : Cond.constantFloat own index v ∈ T0) (hdg : decode cc pc = .ok (.ldc index, 2)) (k : W p l e R s m args below meth c H locs cells slots Q (F0 m (pc + 2) ls (.float v :: rest))) : W p l e R s m args below meth c H locs cells slots Q (F0 m pc ls rest) := by
  obtain ⟨hx, hb, hml, hown, hts, hK, hT, hN, hlk⟩ := X
  exact lv_ldcf hx hb hown (hts _ h) hdg k
theorem r_ldcl (X : Cx p m meth c cc nL s args own E A) {index : Nat} {v : Int64} (h : Cond.constantLong own index v ∈ T0) (hdg : decode cc pc = .ok (.ldc2_w index, 3)) (k : W p l e R s m args below meth c H locs cells slots Q (F0 m (pc + 3) ls (.long v :: rest))) : W p l e R s m args below meth c H locs cells slots Q (F0 m pc ls rest) := by
  obtain ⟨hx, hb, hml, hown, hts, hK, hT, hN, hlk⟩ := X
  exact lv_ldc2 hx hb hown (hts _ h) hdg k
end RW
/-! ends -/
section RE
variable {p : Program} {l : Launch} {e : Env} {R : Room} {s : State} {m : MethodId} {args : Array Value} {below : List Frame} {meth : Method} {c : Code} {H : Heap} {locs : List Loc}
variable {cc : ByteArray} {nL : Nat} {own : String} {E : Ev} {wc wc' : va_W} {pc : Nat} {ls : Array Slot}
theorem Wd.fr {A : Nat → Prop} {s : State} {ws : va_W} (w : Wd E A s ws H locs) : ∀ q ∈ locs, A q.base := w.2.2.2.2
theorem r_iret (X : Cx p m meth c cc nL s args own E (hB wc)) (w : Wd E (hB wc) s wc' H locs) (hr : meth.sig.returnType = some .int) {v r : Int32} (hv : v = r) (hdg : decode cc pc = .ok (.ireturn, 1)) : W p l e R s m args below meth c H locs 0 0 (MQ below (QI E wc r wc') args s 0 0 (hB wc)) (F0 m pc ls [.int v]) :=
  W.iret X.1 X.2.1 hr (fun t ht hW => ⟨⟨v, (), rfl, hv, by show va_P E.1 vwCl wc' t.heap; rw [ht]; exact w.1⟩, w.2.2.F ht⟩) w.fr hdg X.2.2.2.2.2.2.2.2
theorem r_zret (X : Cx p m meth c cc nL s args own E (hB wc)) (w : Wd E (hB wc) s wc' H locs) (hr : meth.sig.returnType = some .boolean) {v r : Int32} (hz : v = 0 ∨ v = 1) (hv : v = r) (hdg : decode cc pc = .ok (.ireturn, 1)) : W p l e R s m args below meth c H locs 0 0 (MQ below (QI E wc r wc') args s 0 0 (hB wc)) (F0 m pc ls [.int v]) :=
  W.zret X.1 X.2.1 hr (by rcases hz with rfl | rfl <;> rfl) (fun t ht hW => ⟨⟨v, (), rfl, hv, by show va_P E.1 vwCl wc' t.heap; rw [ht]; exact w.1⟩, w.2.2.F ht⟩) w.fr hdg X.2.2.2.2.2.2.2.2
theorem r_vret (X : Cx p m meth c cc nL s args own E (hB wc)) (w : Wd E (hB wc) s wc' H locs) (hr : meth.sig.returnType = none) (hdg : decode cc pc = .ok (.return_, 1)) : W p l e R s m args below meth c H locs 0 0 (MQ below (QV E wc wc') args s 0 0 (hB wc)) (F0 m pc ls []) :=
  W.vret X.1 X.2.1 hr (fun t ht hW => ⟨⟨(), rfl, trivial, by show va_P E.1 vwCl wc' t.heap; rw [ht]; exact w.1⟩, w.2.2.F ht⟩) w.fr hdg X.2.2.2.2.2.2.2.2
theorem r_fret (X : Cx p m meth c cc nL s args own E (hB wc)) (w : Wd E (hB wc) s wc' H locs) (hr : meth.sig.returnType = some .float) {v r : UInt32} (hv : v = r) (hdg : decode cc pc = .ok (.freturn, 1)) : W p l e R s m args below meth c H locs 0 0 (MQ below (QF E wc r wc') args s 0 0 (hB wc)) (F0 m pc ls [.float v]) :=
  W.fret X.1 X.2.1 hr (fun t ht hW => ⟨⟨v, (), rfl, hv, by show va_P E.1 vwCl wc' t.heap; rw [ht]; exact w.1⟩, w.2.2.F ht⟩) w.fr hdg X.2.2.2.2.2.2.2.2
end RE
/-! calls -/
section RC
variable {p : Program} {l : Launch} {e : Env} {R : Room} {s : State} {m : MethodId} {args : Array Value} {below : List Frame} {meth : Method} {c : Code} {H : Heap} {locs : List Loc} {cells slots : Nat} {Q : State → Prop}
variable {cc : ByteArray} {nL : Nat} {own : String} {E : Ev} {A : Nat → Prop} {ws : va_W} {pc : Nat} {ls : Array Slot} {rest st0 : List Value} {a : Nat}
variable {y : MethodName} {bytes : ByteArray} {maxL : Nat} {ret : Option FieldType} {fr lo : Nat} {wc wc' : va_W} {As : List Value} {index n : Nat} {C : String}
/-- a callee, as a caller names it: virtual, static -/
def CkV (own : String) (index : Nat) (C : String) (y : MethodName) (bytes : ByteArray) (maxL : Nat) (ret : Option FieldType) (n : Nat) : Prop := Cond.methodLink own index y ∈ T0 ∧ Cond.instanceMethod y ∈ T0 ∧ Cond.selects C y y ∈ T0 ∧ Cond.initialized C ∈ T0 ∧ Cond.code y bytes maxL ret ∈ T0 ∧ (y.cls = C ∧ y.cls ≠ "java/lang/invoke/MethodHandle" ∧ y.cls ≠ "java/lang/invoke/VarHandle" ∧ (parseMethodDescriptor y.desc).map (fun d => d.parameters.length) = some n)
def CkS (own : String) (index : Nat) (y : MethodName) (bytes : ByteArray) (maxL : Nat) (ret : Option FieldType) (n : Nat) : Prop := Cond.methodLink own index y ∈ T0 ∧ Cond.static y ∈ T0 ∧ Cond.initialized y.cls ∈ T0 ∧ Cond.code y bytes maxL ret ∈ T0 ∧ (y.cls ≠ "java/lang/invoke/MethodHandle" ∧ y.cls ≠ "java/lang/invoke/VarHandle" ∧ (parseMethodDescriptor y.desc).map (fun d => d.parameters.length) = some n)
theorem CkV.good (h : CkV own index C y bytes maxL ret n) : GoodIn T0 (wsV own index C y (.code y bytes maxL ret :: T0)) := by
  obtain ⟨h1, h2, h3, h4, h5, -⟩ := h
  intro w hw
  have hm : w ∈ T0 := by
    unfold wsV at hw
    rcases List.mem_append.mp hw with hw | hw
    · simp only [List.mem_cons, List.not_mem_nil, or_false] at hw
      rcases hw with rfl | rfl | rfl | rfl <;> assumption
    · rcases List.mem_cons.mp hw with rfl | hw
      · exact h5
      · exact hw
  exact ⟨hm, good_of_word (T0_good w hm)⟩
theorem CkS.good (h : CkS own index y bytes maxL ret n) : GoodIn T0 (va_wsS own index y (.code y bytes maxL ret :: T0)) := by
  obtain ⟨h1, h2, h3, h5, -⟩ := h
  intro w hw
  have hm : w ∈ T0 := by
    unfold va_wsS at hw
    rcases List.mem_append.mp hw with hw | hw
    · simp only [List.mem_cons, List.not_mem_nil, or_false] at hw
      rcases hw with rfl | rfl | rfl <;> assumption
    · rcases List.mem_cons.mp hw with rfl | hw
      · exact h5
      · exact hw
  exact ⟨hm, good_of_word (T0_good w hm)⟩
theorem Wd.pre (X : Cx p m meth c cc nL s args own E A) (w : Wd E A s ws H locs) (is : List Nat) (hC : is.map (fun i => ws[i]?) = wc.map some) (hn : va_nd is = true) (U : State) (hU : U.heap = H) (hW : s.WarmedH U.vm) : Pre E wc U := by
  obtain ⟨h1, h2, h3⟩ := w.sub is hC hn
  obtain ⟨hx, hb, hml, hown, hts, hK, hT, hN, hlk⟩ := X
  exact ⟨by rw [hU]; exact h1, va_K.moved hW.alike hK, h2.weaken (fun _ _ _ _ => trivial), Stt.pass hT w.2.2 h3 hU hW.alike, hN.warm hW⟩
theorem r_runV {Qc : Array Value → State → Outcome → State → Prop} (X : Cx p m meth c cc nL s args own E A) (w : Wd E A s ws H locs) {b : Nat} (hM : KQ l y bytes maxL ret fr lo E (.ref b :: As) wc Qc) (ck : CkV own index C y bytes maxL ret As.length) (hR : fr + 1 ≤ R.frames ∧ 8 + (maxL + 11) + lo ≤ R.locals) (is : List Nat) (hC : is.map (fun i => ws[i]?) = wc.map some) (hn : va_nd is = true) {k0 ci N : Nat} {T : u_T} {ty : Nat → FieldType} {fs : List Value} (f : CL ci C T N ty) (hrec : wc[k0]? = some (b, .inr (ci, fs))) (hsz : ls.size = nL) (hst : (rest.map fun v => v.category).sum ≤ 8) (hstack : st0 = As.reverse ++ .ref b :: rest) (hdg : decode cc pc = .ok (.invokevirtual index, 3)) (hcs : cells ≤ R.cells ∧ slots ≤ R.slots) :
    va_Run p l e R s m args below meth c H locs cells slots 0 0 (F0 m pc ls st0) rest (Qc (Value.ref b :: As).toArray) (hB wc) := by
  obtain ⟨h1, h2, h3⟩ := w.sub is hC hn
  exact va_runV ⟨X.1, X.2.1, X.2.2.1, X.2.2.2.1, X.2.2.2.2.1⟩ hM (cwV As.length X.2.2.2.2.1 ck.good rfl rfl rfl ck.2.2.2.2.2 hR) ⟨Pre.blind _ _ _, va_recv X.2.2.2.2.2.1 h1 f.2.1 hrec, fun U hU hW => ⟨rfl, w.pre X is hC hn U hU hW⟩⟩ rfl rfl hsz hstack (lv_room hst) hdg hcs
theorem r_runS {Qc : Array Value → State → Outcome → State → Prop} (X : Cx p m meth c cc nL s args own E A) (w : Wd E A s ws H locs) (hM : KQ l y bytes maxL ret fr lo E As wc Qc) (ck : CkS own index y bytes maxL ret As.length) (hR : fr + 1 ≤ R.frames ∧ 8 + (maxL + 11) + lo ≤ R.locals) (is : List Nat) (hC : is.map (fun i => ws[i]?) = wc.map some) (hn : va_nd is = true) (hsz : ls.size = nL) (hst : (rest.map fun v => v.category).sum ≤ 8) (hstack : st0 = As.reverse ++ rest) (hdg : decode cc pc = .ok (.invokestatic index, 3)) (hcs : cells ≤ R.cells ∧ slots ≤ R.slots) :
    va_Run p l e R s m args below meth c H locs cells slots 0 0 (F0 m pc ls st0) rest (Qc As.toArray) (hB wc) :=
  va_runS ⟨X.1, X.2.1, X.2.2.1, X.2.2.2.1, X.2.2.2.2.1⟩ hM (va_cwS As.length X.2.2.2.2.1 ck.good rfl rfl rfl ck.2.2.2.2 hR) ⟨Pre.blind _ _ _, fun U hU hW => ⟨rfl, w.pre X is hC hn U hU hW⟩⟩ rfl rfl hsz hstack (lv_room hst) hdg hcs
theorem r_ci {r : Int32} {av : Array Value} (w : Wd E A s ws H locs) (hr : va_Run p l e R s m args below meth c H locs cells slots 0 0 (F0 m pc ls st0) rest (QI E wc r wc' av) (hB wc)) (ws' : va_W) (is : List Nat) (hC : is.map (fun i => ws[i]?) = wc.map some) (hn : va_nd is = true) (ha : wc'.map Prod.fst = wc.map Prod.fst) (hw : wput ws is wc' = ws')
    (kk : ∀ (H1 : Heap) (locs1 : List Loc), Wd E A s ws' H1 locs1 → W p l e R s m args below meth c H1 locs1 cells slots Q (F0 m (pc + 3) ls (.int r :: rest))) : W p l e R s m args below meth c H locs cells slots Q (F0 m pc ls st0) := by
  subst hw
  have hf := (w.sub is hC hn).2.2
  exact va_calli hr w.2.2 (fun q _ h => hf q h) hf (fun x u t H1 locs1 ht hvm hx hB hz hk hS => by
    subst hx
    exact kk H1 locs1 (w.call is hC ha hk (by rw [← ht]; exact hB) hS))
theorem r_cv {av : Array Value} (w : Wd E A s ws H locs) (hr : va_Run p l e R s m args below meth c H locs cells slots 0 0 (F0 m pc ls st0) rest (QV E wc wc' av) (hB wc)) (ws' : va_W) (is : List Nat) (hC : is.map (fun i => ws[i]?) = wc.map some) (hn : va_nd is = true) (ha : wc'.map Prod.fst = wc.map Prod.fst) (hw : wput ws is wc' = ws')
    (kk : ∀ (H1 : Heap) (locs1 : List Loc), Wd E A s ws' H1 locs1 → W p l e R s m args below meth c H1 locs1 cells slots Q (F0 m (pc + 3) ls rest)) : W p l e R s m args below meth c H locs cells slots Q (F0 m pc ls st0) := by
  subst hw
  have hf := (w.sub is hC hn).2.2
  exact va_callv hr w.2.2 (fun q _ h => hf q h) hf (fun u t H1 locs1 ht hvm hx hB hz hk hS => kk H1 locs1 (w.call is hC ha hk (by rw [← ht]; exact hB) hS))
theorem r_cf {r : UInt32} {av : Array Value} (w : Wd E A s ws H locs) (hr : va_Run p l e R s m args below meth c H locs cells slots 0 0 (F0 m pc ls st0) rest (QF E wc r wc' av) (hB wc)) (ws' : va_W) (is : List Nat) (hC : is.map (fun i => ws[i]?) = wc.map some) (hn : va_nd is = true) (ha : wc'.map Prod.fst = wc.map Prod.fst) (hw : wput ws is wc' = ws')
    (kk : ∀ (H1 : Heap) (locs1 : List Loc), Wd E A s ws' H1 locs1 → W p l e R s m args below meth c H1 locs1 cells slots Q (F0 m (pc + 3) ls (.float r :: rest))) : W p l e R s m args below meth c H locs cells slots Q (F0 m pc ls st0) := by
  subst hw
  have hf := (w.sub is hC hn).2.2
  exact va_callf hr w.2.2 (fun q _ h => hf q h) hf (fun x u t H1 locs1 ht hvm hx hB hz hk hS => by
    subst hx
    exact kk H1 locs1 (w.call is hC ha hk (by rw [← ht]; exact hB) hS))
end RC
end
section
/-! what the state IS: rows of numbers behind each object of the class and of the reference -/
abbrev N1 : Type := Nat → Int32
abbrev N2 : Type := Nat → Nat → Int32
def u2 (σ : N2) (i j : Nat) (x : Int32) : N2 := va_up σ i (upd (σ i) j x)
/-- State: rows 0 cellOf, 1 valueOf, 2 stepsOf, 3 banksOf, 4 hitsOf, 5 ballOn, 6 settings, 7 scores; 8: ballsSoFar, openPots, turn, run, shots, goneByShots -/
def wSt (E : Ev) (a : Nat → Nat) (σ : N2) : va_W := [(a 0, .inr (3, [.ref (a 1), .ref (a 2), .ref (a 3), .ref (a 4), .ref (a 5), .ref (a 6), .ref (a 7), .ref (a 8), .int (σ 8 0), .int (σ 8 1), .int (σ 8 2), .int (σ 8 3), .int (σ 8 4), .int (σ 8 5)])), (a 1, .inl (E.2.1.1, 12, .inl (σ 0))), (a 2, .inl (E.2.1.1, 12, .inl (σ 1))), (a 3, .inl (E.2.1.1, 12, .inl (σ 2))), (a 4, .inl (E.2.1.1, 12, .inl (σ 3))), (a 5, .inl (E.2.1.1, 12, .inl (σ 4))), (a 6, .inl (E.2.1.1, 61, .inl (σ 5))), (a 7, .inl (E.2.1.1, 3, .inl (σ 6))), (a 8, .inl (E.2.1.1, 2, .inl (σ 7)))]
/-- Walker: q, r, direction -/
def wWk (j : Nat) (d : N1) : va_W := [(j, .inr (4, [.int (d 0), .int (d 1), .int (d 2)]))]
/-- Shot: 0 mover, 1 spin, 2 thirds, 3 steps, 4 banks, 5 hits, 6 gone; its speed; its walker's address -/
def wSh (k j : Nat) (z : N1) (v : UInt32) : va_W := [(k, .inr (2, [.ref j, .int (z 0), .float v, .int (z 1), .int (z 2), .int (z 3), .int (z 4), .int (z 5), .int (z 6)]))]
/-- History: its size, its states' addresses -/
def wHy (E : Ev) (a : Nat → Nat) (n : Int32) (b : Nat → Nat) : va_W := [(a 0, .inr (1, [.ref (a 1), .int n])), (a 1, .inl (E.2.1.2.2, 4, .inr (.inr (.inr (.inr (fun i => some (b i)))))))]
/-- BallText: rows 0 characters, 1 cells, 2 values; 3: length, balls, place, number -/
def wTx (E : Ev) (a : Nat → Nat) (t : N2) : va_W := [(a 0, .inr (0, [.ref (a 1), .int (t 3 0), .ref (a 2), .ref (a 3), .int (t 3 1), .int (t 3 2), .int (t 3 3)])), (a 1, .inl (E.2.1.2.1, 60, .inl (t 0))), (a 2, .inl (E.2.1.1, 16, .inl (t 1))), (a 3, .inl (E.2.1.1, 16, .inl (t 2)))]
/-- the class's own object: addresses of state, snapshot, trial, history, text, shot; hasSnapshot -/
def wHb (h p0 p1 p2 p3 p4 p5 : Nat) (hs : Int32) : va_W := [(h, .inr (5, [.ref p0, .ref p1, .ref p2, .ref p3, .ref p4, .ref p5, .int hs]))]
/-- the reference: rows 0 all, 1 kept, 2 tried, 3 history, 4 snapshot, 5 qOf, 6 rOf, 7 at, 8 text; 9: historyLong, isTaken, moving, way, thirds, spinning, goneBall, steps, banks, hits, textLong, spot, number, cellRead, valueRead; its speed -/
def wMd (E : Ev) (a : Nat → Nat) (μ : N2) (v : UInt32) : va_W := [(a 0, .inr (6, [.ref (a 1), .ref (a 2), .ref (a 3), .ref (a 4), .int (μ 9 0), .ref (a 5), .int (μ 9 1), .ref (a 6), .ref (a 7), .ref (a 8), .int (μ 9 2), .int (μ 9 3), .int (μ 9 4), .int (μ 9 5), .float v, .int (μ 9 6), .int (μ 9 7), .int (μ 9 8), .int (μ 9 9), .ref (a 9), .int (μ 9 10), .int (μ 9 11), .int (μ 9 12), .int (μ 9 13), .int (μ 9 14)])), (a 1, .inl (E.2.1.1, 73, .inl (μ 0))), (a 2, .inl (E.2.1.1, 73, .inl (μ 1))), (a 3, .inl (E.2.1.1, 73, .inl (μ 2))), (a 4, .inl (E.2.1.1, 292, .inl (μ 3))), (a 5, .inl (E.2.1.1, 73, .inl (μ 4))), (a 6, .inl (E.2.1.1, 61, .inl (μ 5))), (a 7, .inl (E.2.1.1, 61, .inl (μ 6))), (a 8, .inl (E.2.1.1, 81, .inl (μ 7))), (a 9, .inl (E.2.1.1, 60, .inl (μ 8)))]
/-! small numbers: an index that was looked at -/
theorem vin_ge {x : Int32} {n : Nat} (N : Int32) (hN : N.toInt = n) (h0 : ¬ x < 0) (h1 : ¬ N ≤ x) : vp_in x n := by
  rw [vp_in_iff]
  rw [Int32.lt_iff_toInt_lt] at h0
  rw [Int32.le_iff_toInt_le] at h1
  rw [Int32.toInt_zero] at h0
  omega
theorem vin_lt {x : Int32} {n : Nat} (N : Int32) (hN : N.toInt = n) (h0 : ¬ x < 0) (h1 : x < N) : vp_in x n := by
  rw [vp_in_iff]
  rw [Int32.lt_iff_toInt_lt] at h0 h1
  rw [Int32.toInt_zero] at h0
  omega
theorem ne_i {x k : Int32} (h : ¬ x = k) : ¬ x.toInt = k.toInt := fun e => h (Int32.toInt_inj.mp e)
theorem vin_c {x : Int32} {n : Nat} (h : decide (¬ (x < 0 ∨ n ≤ x.toNatClampNeg)) = true) : vp_in x n := by
  have h2 : ¬ (x < 0 ∨ n ≤ x.toNatClampNeg) := of_decide_eq_true h
  exact h2
/-- a row of numbers alone -/
def wAr (E : Ev) (a : Nat) (n : Nat) (f : N1) : va_W := [(a, .inl (E.2.1.1, n, .inl f))]
theorem tab_out_2 {x : Int32} (h0 : ¬ x = 0) (h1 : ¬ x = 1) (h2 : ¬ x = 2) : x.toInt < 0 ∨ 2 < x.toInt := by
  have e0 : ¬ x.toInt = 0 := ne_i h0
  have e1 : ¬ x.toInt = 1 := ne_i h1
  have e2 : ¬ x.toInt = 2 := ne_i h2
  omega
theorem tab_out_3 {x : Int32} (h0 : ¬ x = 0) (h1 : ¬ x = 1) (h2 : ¬ x = 2) (h3 : ¬ x = 3) : x.toInt < 0 ∨ 3 < x.toInt := by
  have e0 : ¬ x.toInt = 0 := ne_i h0
  have e1 : ¬ x.toInt = 1 := ne_i h1
  have e2 : ¬ x.toInt = 2 := ne_i h2
  have e3 : ¬ x.toInt = 3 := ne_i h3
  omega
theorem tab_out_4 {x : Int32} (h0 : ¬ x = 0) (h1 : ¬ x = 1) (h2 : ¬ x = 2) (h3 : ¬ x = 3) (h4 : ¬ x = 4) : x.toInt < 0 ∨ 4 < x.toInt := by
  have e0 : ¬ x.toInt = 0 := ne_i h0
  have e1 : ¬ x.toInt = 1 := ne_i h1
  have e2 : ¬ x.toInt = 2 := ne_i h2
  have e3 : ¬ x.toInt = 3 := ne_i h3
  have e4 : ¬ x.toInt = 4 := ne_i h4
  omega
theorem tab_out_5 {x : Int32} (h0 : ¬ x = 0) (h1 : ¬ x = 1) (h2 : ¬ x = 2) (h3 : ¬ x = 3) (h4 : ¬ x = 4) (h5 : ¬ x = 5) : x.toInt < 0 ∨ 5 < x.toInt := by
  have e0 : ¬ x.toInt = 0 := ne_i h0
  have e1 : ¬ x.toInt = 1 := ne_i h1
  have e2 : ¬ x.toInt = 2 := ne_i h2
  have e3 : ¬ x.toInt = 3 := ne_i h3
  have e4 : ¬ x.toInt = 4 := ne_i h4
  have e5 : ¬ x.toInt = 5 := ne_i h5
  omega
theorem tab_out_12 {x : Int32} (h0 : ¬ x = 0) (h1 : ¬ x = 1) (h2 : ¬ x = 2) (h3 : ¬ x = 3) (h4 : ¬ x = 4) (h5 : ¬ x = 5) (h6 : ¬ x = 6) (h7 : ¬ x = 7) (h8 : ¬ x = 8) (h9 : ¬ x = 9) (h10 : ¬ x = 10) (h11 : ¬ x = 11) (h12 : ¬ x = 12) : x.toInt < 0 ∨ 12 < x.toInt := by
  have e0 : ¬ x.toInt = 0 := ne_i h0
  have e1 : ¬ x.toInt = 1 := ne_i h1
  have e2 : ¬ x.toInt = 2 := ne_i h2
  have e3 : ¬ x.toInt = 3 := ne_i h3
  have e4 : ¬ x.toInt = 4 := ne_i h4
  have e5 : ¬ x.toInt = 5 := ne_i h5
  have e6 : ¬ x.toInt = 6 := ne_i h6
  have e7 : ¬ x.toInt = 7 := ne_i h7
  have e8 : ¬ x.toInt = 8 := ne_i h8
  have e9 : ¬ x.toInt = 9 := ne_i h9
  have e10 : ¬ x.toInt = 10 := ne_i h10
  have e11 : ¬ x.toInt = 11 := ne_i h11
  have e12 : ¬ x.toInt = 12 := ne_i h12
  omega
theorem tab_out_15 {x : Int32} (h0 : ¬ x = 0) (h1 : ¬ x = 1) (h2 : ¬ x = 2) (h3 : ¬ x = 3) (h4 : ¬ x = 4) (h5 : ¬ x = 5) (h6 : ¬ x = 6) (h7 : ¬ x = 7) (h8 : ¬ x = 8) (h9 : ¬ x = 9) (h10 : ¬ x = 10) (h11 : ¬ x = 11) (h12 : ¬ x = 12) (h13 : ¬ x = 13) (h14 : ¬ x = 14) (h15 : ¬ x = 15) : x.toInt < 0 ∨ 15 < x.toInt := by
  have e0 : ¬ x.toInt = 0 := ne_i h0
  have e1 : ¬ x.toInt = 1 := ne_i h1
  have e2 : ¬ x.toInt = 2 := ne_i h2
  have e3 : ¬ x.toInt = 3 := ne_i h3
  have e4 : ¬ x.toInt = 4 := ne_i h4
  have e5 : ¬ x.toInt = 5 := ne_i h5
  have e6 : ¬ x.toInt = 6 := ne_i h6
  have e7 : ¬ x.toInt = 7 := ne_i h7
  have e8 : ¬ x.toInt = 8 := ne_i h8
  have e9 : ¬ x.toInt = 9 := ne_i h9
  have e10 : ¬ x.toInt = 10 := ne_i h10
  have e11 : ¬ x.toInt = 11 := ne_i h11
  have e12 : ¬ x.toInt = 12 := ne_i h12
  have e13 : ¬ x.toInt = 13 := ne_i h13
  have e14 : ¬ x.toInt = 14 := ne_i h14
  have e15 : ¬ x.toInt = 15 := ne_i h15
  omega
theorem tab_out_20 {x : Int32} (h0 : ¬ x = 0) (h1 : ¬ x = 1) (h2 : ¬ x = 2) (h3 : ¬ x = 3) (h4 : ¬ x = 4) (h5 : ¬ x = 5) (h6 : ¬ x = 6) (h7 : ¬ x = 7) (h8 : ¬ x = 8) (h9 : ¬ x = 9) (h10 : ¬ x = 10) (h11 : ¬ x = 11) (h12 : ¬ x = 12) (h13 : ¬ x = 13) (h14 : ¬ x = 14) (h15 : ¬ x = 15) (h16 : ¬ x = 16) (h17 : ¬ x = 17) (h18 : ¬ x = 18) (h19 : ¬ x = 19) (h20 : ¬ x = 20) : x.toInt < 0 ∨ 20 < x.toInt := by
  have e0 : ¬ x.toInt = 0 := ne_i h0
  have e1 : ¬ x.toInt = 1 := ne_i h1
  have e2 : ¬ x.toInt = 2 := ne_i h2
  have e3 : ¬ x.toInt = 3 := ne_i h3
  have e4 : ¬ x.toInt = 4 := ne_i h4
  have e5 : ¬ x.toInt = 5 := ne_i h5
  have e6 : ¬ x.toInt = 6 := ne_i h6
  have e7 : ¬ x.toInt = 7 := ne_i h7
  have e8 : ¬ x.toInt = 8 := ne_i h8
  have e9 : ¬ x.toInt = 9 := ne_i h9
  have e10 : ¬ x.toInt = 10 := ne_i h10
  have e11 : ¬ x.toInt = 11 := ne_i h11
  have e12 : ¬ x.toInt = 12 := ne_i h12
  have e13 : ¬ x.toInt = 13 := ne_i h13
  have e14 : ¬ x.toInt = 14 := ne_i h14
  have e15 : ¬ x.toInt = 15 := ne_i h15
  have e16 : ¬ x.toInt = 16 := ne_i h16
  have e17 : ¬ x.toInt = 17 := ne_i h17
  have e18 : ¬ x.toInt = 18 := ne_i h18
  have e19 : ¬ x.toInt = 19 := ne_i h19
  have e20 : ¬ x.toInt = 20 := ne_i h20
  omega
end
section
/-! Felt: the cells and how they lie (printed by wip/whole/gen/p05.py) -/
def fX1_isCell (ce : Int32) : Int32 := if ce < 0 then ((0)) else (if 61 ≤ ce then ((0)) else ((1)))
theorem dX1_isCell_0 : decode cX1_isCell 0 = .ok (.iload_n 0, 1) := by decide +kernel
theorem dX1_isCell_1 : decode cX1_isCell 1 = .ok (.ifCond .lt 13, 3) := by decide +kernel
theorem dX1_isCell_4 : decode cX1_isCell 4 = .ok (.iload_n 0, 1) := by decide +kernel
theorem dX1_isCell_5 : decode cX1_isCell 5 = .ok (.bipush 61, 2) := by decide +kernel
theorem dX1_isCell_7 : decode cX1_isCell 7 = .ok (.if_icmp .ge 7, 3) := by decide +kernel
theorem dX1_isCell_10 : decode cX1_isCell 10 = .ok (.iconst 1, 1) := by decide +kernel
theorem dX1_isCell_11 : decode cX1_isCell 11 = .ok (.goto 4, 3) := by decide +kernel
theorem dX1_isCell_14 : decode cX1_isCell 14 = .ok (.iconst 0, 1) := by decide +kernel
theorem dX1_isCell_15 : decode cX1_isCell 15 = .ok (.ireturn, 1) := by decide +kernel
set_option maxHeartbeats 4000000 in
set_option maxRecDepth 100000 in
theorem kX1_isCell (l : Launch) (E : Ev) (ce : Int32) : KQ l yX1_isCell cX1_isCell 1 (some .boolean) 0 0 E [.int ce] [] (QI E [] (fX1_isCell ce) []) := by
  refine KQ.mk RX1 rfl (by decide +kernel) (Nat.le_of_ble_eq_true rfl) ?_
  intro p e s m below meth c ls X hr w hl
  have hx := X.1
  have hb := X.2.1
  have hl : lv_has ls 1 [(0, .int ce)] := hl
  refine lv_iload_n hx hb dX1_isCell_0 rfl (lv_at hl 0 rfl) ?_
  refine lv_if_lt (tgt := 14) hx hb dX1_isCell_1 (by decide) (fun c1_1 => ?_) (fun c1_1 => ?_)
  · refine lv_iconst (v := 0) hx hb dX1_isCell_14 (by decide) ?_
    have hq : fX1_isCell ce = (0) := by simp only [fX1_isCell, if_pos c1_1]
    rw [hq]
    exact r_zret X w hr (Or.inl rfl) rfl dX1_isCell_15
  · refine lv_iload_n hx hb dX1_isCell_4 rfl (lv_at hl 0 rfl) ?_
    refine lv_bipush (v := 61) hx hb dX1_isCell_5 (by decide) ?_
    refine lv_icmp_ge (tgt := 14) hx hb dX1_isCell_7 (by decide) (fun c7_2 => ?_) (fun c7_2 => ?_)
    · refine lv_iconst (v := 0) hx hb dX1_isCell_14 (by decide) ?_
      have hq : fX1_isCell ce = (0) := by simp only [fX1_isCell, if_neg c1_1, if_pos c7_2]
      rw [hq]
      exact r_zret X w hr (Or.inl rfl) rfl dX1_isCell_15
    · refine lv_iconst (v := 1) hx hb dX1_isCell_10 (by decide) ?_
      refine lv_goto (tgt := 15) hx hb dX1_isCell_11 (by decide) ?_
      have hq : fX1_isCell ce = (1) := by simp only [fX1_isCell, if_neg c1_1, if_neg c7_2]
      rw [hq]
      exact r_zret X w hr (Or.inr rfl) rfl dX1_isCell_15
theorem zX1_isCell (ce : Int32) : fX1_isCell ce = 0 ∨ fX1_isCell ce = 1 := by
  unfold fX1_isCell
  repeat' split
  all_goals first | exact Or.inl rfl | exact Or.inr rfl | (simp; done) | exact Or.inl rfl
def fX1_isDirection (di : Int32) : Int32 := if di < 0 then ((0)) else (if 6 ≤ di then ((0)) else ((1)))
theorem dX1_isDirection_0 : decode cX1_isDirection 0 = .ok (.iload_n 0, 1) := by decide +kernel
theorem dX1_isDirection_1 : decode cX1_isDirection 1 = .ok (.ifCond .lt 13, 3) := by decide +kernel
theorem dX1_isDirection_4 : decode cX1_isDirection 4 = .ok (.iload_n 0, 1) := by decide +kernel
theorem dX1_isDirection_5 : decode cX1_isDirection 5 = .ok (.bipush 6, 2) := by decide +kernel
theorem dX1_isDirection_7 : decode cX1_isDirection 7 = .ok (.if_icmp .ge 7, 3) := by decide +kernel
theorem dX1_isDirection_10 : decode cX1_isDirection 10 = .ok (.iconst 1, 1) := by decide +kernel
theorem dX1_isDirection_11 : decode cX1_isDirection 11 = .ok (.goto 4, 3) := by decide +kernel
theorem dX1_isDirection_14 : decode cX1_isDirection 14 = .ok (.iconst 0, 1) := by decide +kernel
theorem dX1_isDirection_15 : decode cX1_isDirection 15 = .ok (.ireturn, 1) := by decide +kernel
set_option maxHeartbeats 4000000 in
set_option maxRecDepth 100000 in
theorem kX1_isDirection (l : Launch) (E : Ev) (di : Int32) : KQ l yX1_isDirection cX1_isDirection 1 (some .boolean) 0 0 E [.int di] [] (QI E [] (fX1_isDirection di) []) := by
  refine KQ.mk RX1 rfl (by decide +kernel) (Nat.le_of_ble_eq_true rfl) ?_
  intro p e s m below meth c ls X hr w hl
  have hx := X.1
  have hb := X.2.1
  have hl : lv_has ls 1 [(0, .int di)] := hl
  refine lv_iload_n hx hb dX1_isDirection_0 rfl (lv_at hl 0 rfl) ?_
  refine lv_if_lt (tgt := 14) hx hb dX1_isDirection_1 (by decide) (fun c1_1 => ?_) (fun c1_1 => ?_)
  · refine lv_iconst (v := 0) hx hb dX1_isDirection_14 (by decide) ?_
    have hq : fX1_isDirection di = (0) := by simp only [fX1_isDirection, if_pos c1_1]
    rw [hq]
    exact r_zret X w hr (Or.inl rfl) rfl dX1_isDirection_15
  · refine lv_iload_n hx hb dX1_isDirection_4 rfl (lv_at hl 0 rfl) ?_
    refine lv_bipush (v := 6) hx hb dX1_isDirection_5 (by decide) ?_
    refine lv_icmp_ge (tgt := 14) hx hb dX1_isDirection_7 (by decide) (fun c7_2 => ?_) (fun c7_2 => ?_)
    · refine lv_iconst (v := 0) hx hb dX1_isDirection_14 (by decide) ?_
      have hq : fX1_isDirection di = (0) := by simp only [fX1_isDirection, if_neg c1_1, if_pos c7_2]
      rw [hq]
      exact r_zret X w hr (Or.inl rfl) rfl dX1_isDirection_15
    · refine lv_iconst (v := 1) hx hb dX1_isDirection_10 (by decide) ?_
      refine lv_goto (tgt := 15) hx hb dX1_isDirection_11 (by decide) ?_
      have hq : fX1_isDirection di = (1) := by simp only [fX1_isDirection, if_neg c1_1, if_neg c7_2]
      rw [hq]
      exact r_zret X w hr (Or.inr rfl) rfl dX1_isDirection_15
theorem zX1_isDirection (di : Int32) : fX1_isDirection di = 0 ∨ fX1_isDirection di = 1 := by
  unfold fX1_isDirection
  repeat' split
  all_goals first | exact Or.inl rfl | exact Or.inr rfl | (simp; done) | exact Or.inl rfl
def fX1_isOut (co : Int32) : Int32 := if co < (-4) then ((1)) else (if co ≤ 4 then ((0)) else ((1)))
theorem dX1_isOut_0 : decode cX1_isOut 0 = .ok (.iload_n 0, 1) := by decide +kernel
theorem dX1_isOut_1 : decode cX1_isOut 1 = .ok (.bipush (-4), 2) := by decide +kernel
theorem dX1_isOut_3 : decode cX1_isOut 3 = .ok (.if_icmp .lt 8, 3) := by decide +kernel
theorem dX1_isOut_6 : decode cX1_isOut 6 = .ok (.iload_n 0, 1) := by decide +kernel
theorem dX1_isOut_7 : decode cX1_isOut 7 = .ok (.iconst 4, 1) := by decide +kernel
theorem dX1_isOut_8 : decode cX1_isOut 8 = .ok (.if_icmp .le 7, 3) := by decide +kernel
theorem dX1_isOut_11 : decode cX1_isOut 11 = .ok (.iconst 1, 1) := by decide +kernel
theorem dX1_isOut_12 : decode cX1_isOut 12 = .ok (.goto 4, 3) := by decide +kernel
theorem dX1_isOut_15 : decode cX1_isOut 15 = .ok (.iconst 0, 1) := by decide +kernel
theorem dX1_isOut_16 : decode cX1_isOut 16 = .ok (.ireturn, 1) := by decide +kernel
set_option maxHeartbeats 4000000 in
set_option maxRecDepth 100000 in
theorem kX1_isOut (l : Launch) (E : Ev) (co : Int32) : KQ l yX1_isOut cX1_isOut 1 (some .boolean) 0 0 E [.int co] [] (QI E [] (fX1_isOut co) []) := by
  refine KQ.mk RX1 rfl (by decide +kernel) (Nat.le_of_ble_eq_true rfl) ?_
  intro p e s m below meth c ls X hr w hl
  have hx := X.1
  have hb := X.2.1
  have hl : lv_has ls 1 [(0, .int co)] := hl
  refine lv_iload_n hx hb dX1_isOut_0 rfl (lv_at hl 0 rfl) ?_
  refine lv_bipush (v := (-4)) hx hb dX1_isOut_1 (by decide) ?_
  refine lv_icmp_lt (tgt := 11) hx hb dX1_isOut_3 (by decide) (fun c3_1 => ?_) (fun c3_1 => ?_)
  · refine lv_iconst (v := 1) hx hb dX1_isOut_11 (by decide) ?_
    refine lv_goto (tgt := 16) hx hb dX1_isOut_12 (by decide) ?_
    have hq : fX1_isOut co = (1) := by simp only [fX1_isOut, if_pos c3_1]
    rw [hq]
    exact r_zret X w hr (Or.inr rfl) rfl dX1_isOut_16
  · refine lv_iload_n hx hb dX1_isOut_6 rfl (lv_at hl 0 rfl) ?_
    refine lv_iconst (v := 4) hx hb dX1_isOut_7 (by decide) ?_
    refine lv_icmp_le (tgt := 15) hx hb dX1_isOut_8 (by decide) (fun c8_2 => ?_) (fun c8_2 => ?_)
    · refine lv_iconst (v := 0) hx hb dX1_isOut_15 (by decide) ?_
      have hq : fX1_isOut co = (0) := by simp only [fX1_isOut, if_neg c3_1, if_pos c8_2]
      rw [hq]
      exact r_zret X w hr (Or.inl rfl) rfl dX1_isOut_16
    · refine lv_iconst (v := 1) hx hb dX1_isOut_11 (by decide) ?_
      refine lv_goto (tgt := 16) hx hb dX1_isOut_12 (by decide) ?_
      have hq : fX1_isOut co = (1) := by simp only [fX1_isOut, if_neg c3_1, if_neg c8_2]
      rw [hq]
      exact r_zret X w hr (Or.inr rfl) rfl dX1_isOut_16
theorem zX1_isOut (co : Int32) : fX1_isOut co = 0 ∨ fX1_isOut co = 1 := by
  unfold fX1_isOut
  repeat' split
  all_goals first | exact Or.inl rfl | exact Or.inr rfl | (simp; done) | exact Or.inl rfl
def fX1_firstColumn (r : Int32) : Int32 := if 0 ≤ r then (((-4))) else (((-4) - r))
theorem dX1_firstColumn_0 : decode cX1_firstColumn 0 = .ok (.iload_n 0, 1) := by decide +kernel
theorem dX1_firstColumn_1 : decode cX1_firstColumn 1 = .ok (.ifCond .ge 10, 3) := by decide +kernel
theorem dX1_firstColumn_4 : decode cX1_firstColumn 4 = .ok (.bipush (-4), 2) := by decide +kernel
theorem dX1_firstColumn_6 : decode cX1_firstColumn 6 = .ok (.iload_n 0, 1) := by decide +kernel
theorem dX1_firstColumn_7 : decode cX1_firstColumn 7 = .ok (.isub, 1) := by decide +kernel
theorem dX1_firstColumn_8 : decode cX1_firstColumn 8 = .ok (.goto 5, 3) := by decide +kernel
theorem dX1_firstColumn_11 : decode cX1_firstColumn 11 = .ok (.bipush (-4), 2) := by decide +kernel
theorem dX1_firstColumn_13 : decode cX1_firstColumn 13 = .ok (.ireturn, 1) := by decide +kernel
set_option maxHeartbeats 4000000 in
set_option maxRecDepth 100000 in
theorem kX1_firstColumn (l : Launch) (E : Ev) (r : Int32) : KQ l yX1_firstColumn cX1_firstColumn 1 (some .int) 0 0 E [.int r] [] (QI E [] (fX1_firstColumn r) []) := by
  refine KQ.mk RX1 rfl (by decide +kernel) (Nat.le_of_ble_eq_true rfl) ?_
  intro p e s m below meth c ls X hr w hl
  have hx := X.1
  have hb := X.2.1
  have hl : lv_has ls 1 [(0, .int r)] := hl
  refine lv_iload_n hx hb dX1_firstColumn_0 rfl (lv_at hl 0 rfl) ?_
  refine lv_if_ge (tgt := 11) hx hb dX1_firstColumn_1 (by decide) (fun c1_1 => ?_) (fun c1_1 => ?_)
  · refine lv_bipush (v := (-4)) hx hb dX1_firstColumn_11 (by decide) ?_
    have hq : fX1_firstColumn r = ((-4)) := by simp only [fX1_firstColumn, if_pos c1_1]
    rw [hq]
    exact r_iret X w hr rfl dX1_firstColumn_13
  · refine lv_bipush (v := (-4)) hx hb dX1_firstColumn_4 (by decide) ?_
    refine lv_iload_n hx hb dX1_firstColumn_6 rfl (lv_at hl 0 rfl) ?_
    refine lv_isub hx hb dX1_firstColumn_7 ?_
    refine lv_goto (tgt := 13) hx hb dX1_firstColumn_8 (by decide) ?_
    have hq : fX1_firstColumn r = ((-4) - r) := by simp only [fX1_firstColumn, if_neg c1_1]
    rw [hq]
    exact r_iret X w hr rfl dX1_firstColumn_13
theorem ti_add {a b : Int32} (h1 : -2147483648 ≤ a.toInt + b.toInt) (h2 : a.toInt + b.toInt < 2147483648) : (a + b).toInt = a.toInt + b.toInt := by
  rw [Int32.toInt_add]
  exact Int.bmod_eq_of_le (by omega) (by omega)
theorem ti_sub {a b : Int32} (h1 : -2147483648 ≤ a.toInt - b.toInt) (h2 : a.toInt - b.toInt < 2147483648) : (a - b).toInt = a.toInt - b.toInt := by
  rw [Int32.toInt_sub]
  exact Int.bmod_eq_of_le (by omega) (by omega)
theorem isOut_iff (co : Int32) : fX1_isOut co = 0 ↔ (-4 ≤ co.toInt ∧ co.toInt ≤ 4) := by
  unfold fX1_isOut
  have e1 : co < (-4) ↔ co.toInt < -4 := by rw [Int32.lt_iff_toInt_lt]; exact Iff.rfl
  have e2 : co ≤ 4 ↔ co.toInt ≤ 4 := by rw [Int32.le_iff_toInt_le]; exact Iff.rfl
  split
  · rename_i h
    exact ⟨fun e => absurd e (by decide), fun e => absurd (e1.mp h) (by omega)⟩
  · rename_i h
    split
    · rename_i h2
      exact ⟨fun _ => ⟨by rw [e1] at h; omega, e2.mp h2⟩, fun _ => rfl⟩
    · rename_i h2
      exact ⟨fun e => absurd e (by decide), fun e => absurd (e2.mpr e.2) h2⟩
theorem in_row {r : Int32} (h : fX1_isOut r = 0) : vp_in (r + 4) 9 := by
  have h := (isOut_iff r).mp h
  have e4 : (4 : Int32).toInt = 4 := rfl
  rw [vp_in_iff, ti_add (by omega) (by omega)]
  omega
theorem in_dir {di : Int32} (h : ¬ fX1_isDirection di = 0) : vp_in di 6 := by
  unfold fX1_isDirection at h
  split at h
  · exact absurd rfl h
  · split at h
    · exact absurd rfl h
    · exact vin_ge 6 rfl ‹_› ‹_›
def fX1_cellAt (q : Int32) (r : Int32) : Int32 := if (fX1_isOut q) = 0 then (if (fX1_isOut r) = 0 then (if (fX1_isOut (q + r)) = 0 then ((((sT 6 (r + 4).toNatClampNeg) + q) - (fX1_firstColumn r))) else (((-5)))) else (((-5)))) else (((-5)))
theorem dX1_cellAt_0 : decode cX1_cellAt 0 = .ok (.iload_n 0, 1) := by decide +kernel
theorem dX1_cellAt_1 : decode cX1_cellAt 1 = .ok (.invokestatic 11, 3) := by decide +kernel
theorem dX1_cellAt_4 : decode cX1_cellAt 4 = .ok (.ifCond .ne 19, 3) := by decide +kernel
theorem dX1_cellAt_7 : decode cX1_cellAt 7 = .ok (.iload_n 1, 1) := by decide +kernel
theorem dX1_cellAt_8 : decode cX1_cellAt 8 = .ok (.invokestatic 11, 3) := by decide +kernel
theorem dX1_cellAt_11 : decode cX1_cellAt 11 = .ok (.ifCond .ne 12, 3) := by decide +kernel
theorem dX1_cellAt_14 : decode cX1_cellAt 14 = .ok (.iload_n 0, 1) := by decide +kernel
theorem dX1_cellAt_15 : decode cX1_cellAt 15 = .ok (.iload_n 1, 1) := by decide +kernel
theorem dX1_cellAt_16 : decode cX1_cellAt 16 = .ok (.iadd, 1) := by decide +kernel
theorem dX1_cellAt_17 : decode cX1_cellAt 17 = .ok (.invokestatic 11, 3) := by decide +kernel
theorem dX1_cellAt_20 : decode cX1_cellAt 20 = .ok (.ifCond .eq 6, 3) := by decide +kernel
theorem dX1_cellAt_23 : decode cX1_cellAt 23 = .ok (.bipush (-5), 2) := by decide +kernel
theorem dX1_cellAt_25 : decode cX1_cellAt 25 = .ok (.ireturn, 1) := by decide +kernel
theorem dX1_cellAt_26 : decode cX1_cellAt 26 = .ok (.getstatic 15, 3) := by decide +kernel
theorem dX1_cellAt_29 : decode cX1_cellAt 29 = .ok (.iload_n 1, 1) := by decide +kernel
theorem dX1_cellAt_30 : decode cX1_cellAt 30 = .ok (.iconst 4, 1) := by decide +kernel
theorem dX1_cellAt_31 : decode cX1_cellAt 31 = .ok (.iadd, 1) := by decide +kernel
theorem dX1_cellAt_32 : decode cX1_cellAt 32 = .ok (.iaload, 1) := by decide +kernel
theorem dX1_cellAt_33 : decode cX1_cellAt 33 = .ok (.iload_n 0, 1) := by decide +kernel
theorem dX1_cellAt_34 : decode cX1_cellAt 34 = .ok (.iadd, 1) := by decide +kernel
theorem dX1_cellAt_35 : decode cX1_cellAt 35 = .ok (.iload_n 1, 1) := by decide +kernel
theorem dX1_cellAt_36 : decode cX1_cellAt 36 = .ok (.invokestatic 19, 3) := by decide +kernel
theorem dX1_cellAt_39 : decode cX1_cellAt 39 = .ok (.isub, 1) := by decide +kernel
theorem dX1_cellAt_40 : decode cX1_cellAt 40 = .ok (.ireturn, 1) := by decide +kernel
theorem ck_X1_11 : CkS RX1 11 yX1_isOut cX1_isOut 1 (some .boolean) 1 := ⟨wm_X1_11, wst_yX1_isOut, wi_X1, wc_yX1_isOut, by decide +kernel⟩
theorem ck_X1_19 : CkS RX1 19 yX1_firstColumn cX1_firstColumn 1 (some .int) 1 := ⟨wm_X1_19, wst_yX1_firstColumn, wi_X1, wc_yX1_firstColumn, by decide +kernel⟩
set_option maxHeartbeats 4000000 in
set_option maxRecDepth 100000 in
theorem kX1_cellAt (l : Launch) (E : Ev) (q : Int32) (r : Int32) : KQ l yX1_cellAt cX1_cellAt 2 (some .int) 1 20 E [.int q, .int r] [] (QI E [] (fX1_cellAt q r) []) := by
  refine KQ.mk RX1 rfl (by decide +kernel) (Nat.le_of_ble_eq_true rfl) ?_
  intro p e s m below meth c ls X hr w hl
  have hx := X.1
  have hb := X.2.1
  have hl : lv_has ls 2 [(0, .int q), (1, .int r)] := hl
  refine lv_iload_n hx hb dX1_cellAt_0 rfl (lv_at hl 0 rfl) ?_
  refine r_ci w (r_runS (As := [.int q]) (rest := []) X w (kX1_isOut l E q ) ck_X1_11 ⟨Nat.le_of_ble_eq_true rfl, Nat.le_of_ble_eq_true rfl⟩ [] rfl (by decide +kernel) hl.1 (Nat.le_of_ble_eq_true rfl) rfl dX1_cellAt_1 ⟨Nat.le_of_ble_eq_true rfl, Nat.le_of_ble_eq_true rfl⟩) ([]) [] rfl (by decide +kernel) rfl rfl (fun H locs w => ?_)
  refine lv_if_ne (tgt := 23) hx hb dX1_cellAt_4 (by decide) (fun c4_1 => ?_) (fun c4_1 => ?_)
  · refine lv_bipush (v := (-5)) hx hb dX1_cellAt_23 (by decide) ?_
    have hq : fX1_cellAt q r = ((-5)) := by simp only [fX1_cellAt, if_neg c4_1]
    rw [hq]
    exact r_iret X w hr rfl dX1_cellAt_25
  · refine lv_iload_n hx hb dX1_cellAt_7 rfl (lv_at hl 1 rfl) ?_
    refine r_ci w (r_runS (As := [.int r]) (rest := []) X w (kX1_isOut l E r ) ck_X1_11 ⟨Nat.le_of_ble_eq_true rfl, Nat.le_of_ble_eq_true rfl⟩ [] rfl (by decide +kernel) hl.1 (Nat.le_of_ble_eq_true rfl) rfl dX1_cellAt_8 ⟨Nat.le_of_ble_eq_true rfl, Nat.le_of_ble_eq_true rfl⟩) ([]) [] rfl (by decide +kernel) rfl rfl (fun H locs w => ?_)
    refine lv_if_ne (tgt := 23) hx hb dX1_cellAt_11 (by decide) (fun c11_2 => ?_) (fun c11_2 => ?_)
    · refine lv_bipush (v := (-5)) hx hb dX1_cellAt_23 (by decide) ?_
      have hq : fX1_cellAt q r = ((-5)) := by simp only [fX1_cellAt, if_pos c4_1, if_neg c11_2]
      rw [hq]
      exact r_iret X w hr rfl dX1_cellAt_25
    · refine lv_iload_n hx hb dX1_cellAt_14 rfl (lv_at hl 0 rfl) ?_
      refine lv_iload_n hx hb dX1_cellAt_15 rfl (lv_at hl 1 rfl) ?_
      refine lv_iadd hx hb dX1_cellAt_16 ?_
      refine r_ci w (r_runS (As := [.int (q + r)]) (rest := []) X w (kX1_isOut l E (q + r) ) ck_X1_11 ⟨Nat.le_of_ble_eq_true rfl, Nat.le_of_ble_eq_true rfl⟩ [] rfl (by decide +kernel) hl.1 (Nat.le_of_ble_eq_true rfl) rfl dX1_cellAt_17 ⟨Nat.le_of_ble_eq_true rfl, Nat.le_of_ble_eq_true rfl⟩) ([]) [] rfl (by decide +kernel) rfl rfl (fun H locs w => ?_)
      refine lv_if_eq (tgt := 26) hx hb dX1_cellAt_20 (by decide) (fun c20_3 => ?_) (fun c20_3 => ?_)
      · refine r_gets X w 6 rfl wf_X1_15 dX1_cellAt_26 ?_
        refine lv_iload_n hx hb dX1_cellAt_29 rfl (lv_at hl 1 rfl) ?_
        refine lv_iconst (v := 4) hx hb dX1_cellAt_30 (by decide) ?_
        refine lv_iadd hx hb dX1_cellAt_31 ?_
        refine r_tald X w 6 rfl rfl (N := 9) (in_row c11_2) dX1_cellAt_32 ?_
        refine lv_iload_n hx hb dX1_cellAt_33 rfl (lv_at hl 0 rfl) ?_
        refine lv_iadd hx hb dX1_cellAt_34 ?_
        refine lv_iload_n hx hb dX1_cellAt_35 rfl (lv_at hl 1 rfl) ?_
        refine r_ci w (r_runS (As := [.int r]) (rest := [.int ((sT 6 (r + 4).toNatClampNeg) + q)]) X w (kX1_firstColumn l E r ) ck_X1_19 ⟨Nat.le_of_ble_eq_true rfl, Nat.le_of_ble_eq_true rfl⟩ [] rfl (by decide +kernel) hl.1 (Nat.le_of_ble_eq_true rfl) rfl dX1_cellAt_36 ⟨Nat.le_of_ble_eq_true rfl, Nat.le_of_ble_eq_true rfl⟩) ([]) [] rfl (by decide +kernel) rfl rfl (fun H locs w => ?_)
        refine lv_isub hx hb dX1_cellAt_39 ?_
        have hq : fX1_cellAt q r = (((sT 6 (r + 4).toNatClampNeg) + q) - (fX1_firstColumn r)) := by simp only [fX1_cellAt, if_pos c4_1, if_pos c11_2, if_pos c20_3]
        rw [hq]
        exact r_iret X w hr rfl dX1_cellAt_40
      · refine lv_bipush (v := (-5)) hx hb dX1_cellAt_23 (by decide) ?_
        have hq : fX1_cellAt q r = ((-5)) := by simp only [fX1_cellAt, if_pos c4_1, if_pos c11_2, if_neg c20_3]
        rw [hq]
        exact r_iret X w hr rfl dX1_cellAt_25
def fX1_rowOf (ce : Int32) : Int32 := if ce < (sT 6 (1 : Int32).toNatClampNeg) then (((-4))) else (if ce < (sT 6 (2 : Int32).toNatClampNeg) then (((-3))) else (if ce < (sT 6 (3 : Int32).toNatClampNeg) then (((-2))) else (if ce < (sT 6 (4 : Int32).toNatClampNeg) then (((-1))) else (if ce < (sT 6 (5 : Int32).toNatClampNeg) then ((0)) else (if ce < (sT 6 (6 : Int32).toNatClampNeg) then ((1)) else (if ce < (sT 6 (7 : Int32).toNatClampNeg) then ((2)) else (if ce < (sT 6 (8 : Int32).toNatClampNeg) then ((3)) else ((4)))))))))
theorem dX1_rowOf_0 : decode cX1_rowOf 0 = .ok (.iconst 0, 1) := by decide +kernel
theorem dX1_rowOf_1 : decode cX1_rowOf 1 = .ok (.istore_n 1, 1) := by decide +kernel
theorem dX1_rowOf_2 : decode cX1_rowOf 2 = .ok (.iload_n 1, 1) := by decide +kernel
theorem dX1_rowOf_3 : decode cX1_rowOf 3 = .ok (.iconst 1, 1) := by decide +kernel
theorem dX1_rowOf_4 : decode cX1_rowOf 4 = .ok (.iadd, 1) := by decide +kernel
theorem dX1_rowOf_5 : decode cX1_rowOf 5 = .ok (.bipush 9, 2) := by decide +kernel
theorem dX1_rowOf_7 : decode cX1_rowOf 7 = .ok (.if_icmp .ge 20, 3) := by decide +kernel
theorem dX1_rowOf_10 : decode cX1_rowOf 10 = .ok (.getstatic 15, 3) := by decide +kernel
theorem dX1_rowOf_13 : decode cX1_rowOf 13 = .ok (.iload_n 1, 1) := by decide +kernel
theorem dX1_rowOf_14 : decode cX1_rowOf 14 = .ok (.iconst 1, 1) := by decide +kernel
theorem dX1_rowOf_15 : decode cX1_rowOf 15 = .ok (.iadd, 1) := by decide +kernel
theorem dX1_rowOf_16 : decode cX1_rowOf 16 = .ok (.iaload, 1) := by decide +kernel
theorem dX1_rowOf_17 : decode cX1_rowOf 17 = .ok (.iload_n 0, 1) := by decide +kernel
theorem dX1_rowOf_18 : decode cX1_rowOf 18 = .ok (.if_icmp .gt 9, 3) := by decide +kernel
theorem dX1_rowOf_21 : decode cX1_rowOf 21 = .ok (.iinc 1 1, 3) := by decide +kernel
theorem dX1_rowOf_24 : decode cX1_rowOf 24 = .ok (.goto (-22), 3) := by decide +kernel
theorem dX1_rowOf_27 : decode cX1_rowOf 27 = .ok (.iload_n 1, 1) := by decide +kernel
theorem dX1_rowOf_28 : decode cX1_rowOf 28 = .ok (.iconst 4, 1) := by decide +kernel
theorem dX1_rowOf_29 : decode cX1_rowOf 29 = .ok (.isub, 1) := by decide +kernel
theorem dX1_rowOf_30 : decode cX1_rowOf 30 = .ok (.ireturn, 1) := by decide +kernel
set_option maxHeartbeats 4000000 in
set_option maxRecDepth 100000 in
theorem kX1_rowOf (l : Launch) (E : Ev) (ce : Int32) : KQ l yX1_rowOf cX1_rowOf 2 (some .int) 0 0 E [.int ce] [] (QI E [] (fX1_rowOf ce) []) := by
  refine KQ.mk RX1 rfl (by decide +kernel) (Nat.le_of_ble_eq_true rfl) ?_
  intro p e s m below meth c ls X hr w hl
  have hx := X.1
  have hb := X.2.1
  have hl : lv_has ls 2 [(0, .int ce)] := hl
  refine lv_iconst (v := 0) hx hb dX1_rowOf_0 (by decide) ?_
  refine lv_istore_n (lv' := [(1, .int 0), (0, .int ce)]) hx hb dX1_rowOf_1 rfl hl (by decide) rfl (fun ls hl => ?_)
  refine lv_iload_n hx hb dX1_rowOf_2 rfl (lv_at hl 0 rfl) ?_
  refine lv_iconst (v := 1) hx hb dX1_rowOf_3 (by decide) ?_
  refine lv_iadd hx hb dX1_rowOf_4 ?_
  rw [show ((0 : Int32) + 1) = 1 from by decide]
  refine lv_bipush (v := 9) hx hb dX1_rowOf_5 (by decide) ?_
  refine lv_icmp_ge (tgt := 27) hx hb dX1_rowOf_7 (by decide) (fun h => absurd h (by decide)) (fun _ => ?_)
  refine r_gets X w 6 rfl wf_X1_15 dX1_rowOf_10 ?_
  refine lv_iload_n hx hb dX1_rowOf_13 rfl (lv_at hl 0 rfl) ?_
  refine lv_iconst (v := 1) hx hb dX1_rowOf_14 (by decide) ?_
  refine lv_iadd hx hb dX1_rowOf_15 ?_
  rw [show ((0 : Int32) + 1) = 1 from by decide]
  refine r_tald X w 6 rfl rfl (N := 9) (vin_c rfl) dX1_rowOf_16 ?_
  refine lv_iload_n hx hb dX1_rowOf_17 rfl (lv_at hl 1 rfl) ?_
  refine lv_icmp_gt (tgt := 27) hx hb dX1_rowOf_18 (by decide) (fun c18_1 => ?_) (fun c18_1 => ?_)
  · refine lv_iload_n hx hb dX1_rowOf_27 rfl (lv_at hl 0 rfl) ?_
    refine lv_iconst (v := 4) hx hb dX1_rowOf_28 (by decide) ?_
    refine lv_isub hx hb dX1_rowOf_29 ?_
    rw [show ((0 : Int32) - 4) = (-4) from by decide]
    have hq : fX1_rowOf ce = ((-4)) := by simp only [fX1_rowOf, if_pos c18_1]
    rw [hq]
    exact r_iret X w hr rfl dX1_rowOf_30
  · refine lv_iinc (v := 1) (lv' := [(1, .int 1), (0, .int ce)]) hx hb dX1_rowOf_21 hl (k := 0) rfl (by first | rfl | decide) (by decide) rfl (fun ls hl => ?_)
    refine lv_goto (tgt := 2) hx hb dX1_rowOf_24 (by decide) ?_
    refine lv_iload_n hx hb dX1_rowOf_2 rfl (lv_at hl 0 rfl) ?_
    refine lv_iconst (v := 1) hx hb dX1_rowOf_3 (by decide) ?_
    refine lv_iadd hx hb dX1_rowOf_4 ?_
    rw [show ((1 : Int32) + 1) = 2 from by decide]
    refine lv_bipush (v := 9) hx hb dX1_rowOf_5 (by decide) ?_
    refine lv_icmp_ge (tgt := 27) hx hb dX1_rowOf_7 (by decide) (fun h => absurd h (by decide)) (fun _ => ?_)
    refine r_gets X w 6 rfl wf_X1_15 dX1_rowOf_10 ?_
    refine lv_iload_n hx hb dX1_rowOf_13 rfl (lv_at hl 0 rfl) ?_
    refine lv_iconst (v := 1) hx hb dX1_rowOf_14 (by decide) ?_
    refine lv_iadd hx hb dX1_rowOf_15 ?_
    rw [show ((1 : Int32) + 1) = 2 from by decide]
    refine r_tald X w 6 rfl rfl (N := 9) (vin_c rfl) dX1_rowOf_16 ?_
    refine lv_iload_n hx hb dX1_rowOf_17 rfl (lv_at hl 1 rfl) ?_
    refine lv_icmp_gt (tgt := 27) hx hb dX1_rowOf_18 (by decide) (fun c18_2 => ?_) (fun c18_2 => ?_)
    · refine lv_iload_n hx hb dX1_rowOf_27 rfl (lv_at hl 0 rfl) ?_
      refine lv_iconst (v := 4) hx hb dX1_rowOf_28 (by decide) ?_
      refine lv_isub hx hb dX1_rowOf_29 ?_
      rw [show ((1 : Int32) - 4) = (-3) from by decide]
      have hq : fX1_rowOf ce = ((-3)) := by simp only [fX1_rowOf, if_neg c18_1, if_pos c18_2]
      rw [hq]
      exact r_iret X w hr rfl dX1_rowOf_30
    · refine lv_iinc (v := 2) (lv' := [(1, .int 2), (0, .int ce)]) hx hb dX1_rowOf_21 hl (k := 0) rfl (by first | rfl | decide) (by decide) rfl (fun ls hl => ?_)
      refine lv_goto (tgt := 2) hx hb dX1_rowOf_24 (by decide) ?_
      refine lv_iload_n hx hb dX1_rowOf_2 rfl (lv_at hl 0 rfl) ?_
      refine lv_iconst (v := 1) hx hb dX1_rowOf_3 (by decide) ?_
      refine lv_iadd hx hb dX1_rowOf_4 ?_
      rw [show ((2 : Int32) + 1) = 3 from by decide]
      refine lv_bipush (v := 9) hx hb dX1_rowOf_5 (by decide) ?_
      refine lv_icmp_ge (tgt := 27) hx hb dX1_rowOf_7 (by decide) (fun h => absurd h (by decide)) (fun _ => ?_)
      refine r_gets X w 6 rfl wf_X1_15 dX1_rowOf_10 ?_
      refine lv_iload_n hx hb dX1_rowOf_13 rfl (lv_at hl 0 rfl) ?_
      refine lv_iconst (v := 1) hx hb dX1_rowOf_14 (by decide) ?_
      refine lv_iadd hx hb dX1_rowOf_15 ?_
      rw [show ((2 : Int32) + 1) = 3 from by decide]
      refine r_tald X w 6 rfl rfl (N := 9) (vin_c rfl) dX1_rowOf_16 ?_
      refine lv_iload_n hx hb dX1_rowOf_17 rfl (lv_at hl 1 rfl) ?_
      refine lv_icmp_gt (tgt := 27) hx hb dX1_rowOf_18 (by decide) (fun c18_3 => ?_) (fun c18_3 => ?_)
      · refine lv_iload_n hx hb dX1_rowOf_27 rfl (lv_at hl 0 rfl) ?_
        refine lv_iconst (v := 4) hx hb dX1_rowOf_28 (by decide) ?_
        refine lv_isub hx hb dX1_rowOf_29 ?_
        rw [show ((2 : Int32) - 4) = (-2) from by decide]
        have hq : fX1_rowOf ce = ((-2)) := by simp only [fX1_rowOf, if_neg c18_1, if_neg c18_2, if_pos c18_3]
        rw [hq]
        exact r_iret X w hr rfl dX1_rowOf_30
      · refine lv_iinc (v := 3) (lv' := [(1, .int 3), (0, .int ce)]) hx hb dX1_rowOf_21 hl (k := 0) rfl (by first | rfl | decide) (by decide) rfl (fun ls hl => ?_)
        refine lv_goto (tgt := 2) hx hb dX1_rowOf_24 (by decide) ?_
        refine lv_iload_n hx hb dX1_rowOf_2 rfl (lv_at hl 0 rfl) ?_
        refine lv_iconst (v := 1) hx hb dX1_rowOf_3 (by decide) ?_
        refine lv_iadd hx hb dX1_rowOf_4 ?_
        rw [show ((3 : Int32) + 1) = 4 from by decide]
        refine lv_bipush (v := 9) hx hb dX1_rowOf_5 (by decide) ?_
        refine lv_icmp_ge (tgt := 27) hx hb dX1_rowOf_7 (by decide) (fun h => absurd h (by decide)) (fun _ => ?_)
        refine r_gets X w 6 rfl wf_X1_15 dX1_rowOf_10 ?_
        refine lv_iload_n hx hb dX1_rowOf_13 rfl (lv_at hl 0 rfl) ?_
        refine lv_iconst (v := 1) hx hb dX1_rowOf_14 (by decide) ?_
        refine lv_iadd hx hb dX1_rowOf_15 ?_
        rw [show ((3 : Int32) + 1) = 4 from by decide]
        refine r_tald X w 6 rfl rfl (N := 9) (vin_c rfl) dX1_rowOf_16 ?_
        refine lv_iload_n hx hb dX1_rowOf_17 rfl (lv_at hl 1 rfl) ?_
        refine lv_icmp_gt (tgt := 27) hx hb dX1_rowOf_18 (by decide) (fun c18_4 => ?_) (fun c18_4 => ?_)
        · refine lv_iload_n hx hb dX1_rowOf_27 rfl (lv_at hl 0 rfl) ?_
          refine lv_iconst (v := 4) hx hb dX1_rowOf_28 (by decide) ?_
          refine lv_isub hx hb dX1_rowOf_29 ?_
          rw [show ((3 : Int32) - 4) = (-1) from by decide]
          have hq : fX1_rowOf ce = ((-1)) := by simp only [fX1_rowOf, if_neg c18_1, if_neg c18_2, if_neg c18_3, if_pos c18_4]
          rw [hq]
          exact r_iret X w hr rfl dX1_rowOf_30
        · refine lv_iinc (v := 4) (lv' := [(1, .int 4), (0, .int ce)]) hx hb dX1_rowOf_21 hl (k := 0) rfl (by first | rfl | decide) (by decide) rfl (fun ls hl => ?_)
          refine lv_goto (tgt := 2) hx hb dX1_rowOf_24 (by decide) ?_
          refine lv_iload_n hx hb dX1_rowOf_2 rfl (lv_at hl 0 rfl) ?_
          refine lv_iconst (v := 1) hx hb dX1_rowOf_3 (by decide) ?_
          refine lv_iadd hx hb dX1_rowOf_4 ?_
          rw [show ((4 : Int32) + 1) = 5 from by decide]
          refine lv_bipush (v := 9) hx hb dX1_rowOf_5 (by decide) ?_
          refine lv_icmp_ge (tgt := 27) hx hb dX1_rowOf_7 (by decide) (fun h => absurd h (by decide)) (fun _ => ?_)
          refine r_gets X w 6 rfl wf_X1_15 dX1_rowOf_10 ?_
          refine lv_iload_n hx hb dX1_rowOf_13 rfl (lv_at hl 0 rfl) ?_
          refine lv_iconst (v := 1) hx hb dX1_rowOf_14 (by decide) ?_
          refine lv_iadd hx hb dX1_rowOf_15 ?_
          rw [show ((4 : Int32) + 1) = 5 from by decide]
          refine r_tald X w 6 rfl rfl (N := 9) (vin_c rfl) dX1_rowOf_16 ?_
          refine lv_iload_n hx hb dX1_rowOf_17 rfl (lv_at hl 1 rfl) ?_
          refine lv_icmp_gt (tgt := 27) hx hb dX1_rowOf_18 (by decide) (fun c18_5 => ?_) (fun c18_5 => ?_)
          · refine lv_iload_n hx hb dX1_rowOf_27 rfl (lv_at hl 0 rfl) ?_
            refine lv_iconst (v := 4) hx hb dX1_rowOf_28 (by decide) ?_
            refine lv_isub hx hb dX1_rowOf_29 ?_
            rw [show ((4 : Int32) - 4) = 0 from by decide]
            have hq : fX1_rowOf ce = (0) := by simp only [fX1_rowOf, if_neg c18_1, if_neg c18_2, if_neg c18_3, if_neg c18_4, if_pos c18_5]
            rw [hq]
            exact r_iret X w hr rfl dX1_rowOf_30
          · refine lv_iinc (v := 5) (lv' := [(1, .int 5), (0, .int ce)]) hx hb dX1_rowOf_21 hl (k := 0) rfl (by first | rfl | decide) (by decide) rfl (fun ls hl => ?_)
            refine lv_goto (tgt := 2) hx hb dX1_rowOf_24 (by decide) ?_
            refine lv_iload_n hx hb dX1_rowOf_2 rfl (lv_at hl 0 rfl) ?_
            refine lv_iconst (v := 1) hx hb dX1_rowOf_3 (by decide) ?_
            refine lv_iadd hx hb dX1_rowOf_4 ?_
            rw [show ((5 : Int32) + 1) = 6 from by decide]
            refine lv_bipush (v := 9) hx hb dX1_rowOf_5 (by decide) ?_
            refine lv_icmp_ge (tgt := 27) hx hb dX1_rowOf_7 (by decide) (fun h => absurd h (by decide)) (fun _ => ?_)
            refine r_gets X w 6 rfl wf_X1_15 dX1_rowOf_10 ?_
            refine lv_iload_n hx hb dX1_rowOf_13 rfl (lv_at hl 0 rfl) ?_
            refine lv_iconst (v := 1) hx hb dX1_rowOf_14 (by decide) ?_
            refine lv_iadd hx hb dX1_rowOf_15 ?_
            rw [show ((5 : Int32) + 1) = 6 from by decide]
            refine r_tald X w 6 rfl rfl (N := 9) (vin_c rfl) dX1_rowOf_16 ?_
            refine lv_iload_n hx hb dX1_rowOf_17 rfl (lv_at hl 1 rfl) ?_
            refine lv_icmp_gt (tgt := 27) hx hb dX1_rowOf_18 (by decide) (fun c18_6 => ?_) (fun c18_6 => ?_)
            · refine lv_iload_n hx hb dX1_rowOf_27 rfl (lv_at hl 0 rfl) ?_
              refine lv_iconst (v := 4) hx hb dX1_rowOf_28 (by decide) ?_
              refine lv_isub hx hb dX1_rowOf_29 ?_
              rw [show ((5 : Int32) - 4) = 1 from by decide]
              have hq : fX1_rowOf ce = (1) := by simp only [fX1_rowOf, if_neg c18_1, if_neg c18_2, if_neg c18_3, if_neg c18_4, if_neg c18_5, if_pos c18_6]
              rw [hq]
              exact r_iret X w hr rfl dX1_rowOf_30
            · refine lv_iinc (v := 6) (lv' := [(1, .int 6), (0, .int ce)]) hx hb dX1_rowOf_21 hl (k := 0) rfl (by first | rfl | decide) (by decide) rfl (fun ls hl => ?_)
              refine lv_goto (tgt := 2) hx hb dX1_rowOf_24 (by decide) ?_
              refine lv_iload_n hx hb dX1_rowOf_2 rfl (lv_at hl 0 rfl) ?_
              refine lv_iconst (v := 1) hx hb dX1_rowOf_3 (by decide) ?_
              refine lv_iadd hx hb dX1_rowOf_4 ?_
              rw [show ((6 : Int32) + 1) = 7 from by decide]
              refine lv_bipush (v := 9) hx hb dX1_rowOf_5 (by decide) ?_
              refine lv_icmp_ge (tgt := 27) hx hb dX1_rowOf_7 (by decide) (fun h => absurd h (by decide)) (fun _ => ?_)
              refine r_gets X w 6 rfl wf_X1_15 dX1_rowOf_10 ?_
              refine lv_iload_n hx hb dX1_rowOf_13 rfl (lv_at hl 0 rfl) ?_
              refine lv_iconst (v := 1) hx hb dX1_rowOf_14 (by decide) ?_
              refine lv_iadd hx hb dX1_rowOf_15 ?_
              rw [show ((6 : Int32) + 1) = 7 from by decide]
              refine r_tald X w 6 rfl rfl (N := 9) (vin_c rfl) dX1_rowOf_16 ?_
              refine lv_iload_n hx hb dX1_rowOf_17 rfl (lv_at hl 1 rfl) ?_
              refine lv_icmp_gt (tgt := 27) hx hb dX1_rowOf_18 (by decide) (fun c18_7 => ?_) (fun c18_7 => ?_)
              · refine lv_iload_n hx hb dX1_rowOf_27 rfl (lv_at hl 0 rfl) ?_
                refine lv_iconst (v := 4) hx hb dX1_rowOf_28 (by decide) ?_
                refine lv_isub hx hb dX1_rowOf_29 ?_
                rw [show ((6 : Int32) - 4) = 2 from by decide]
                have hq : fX1_rowOf ce = (2) := by simp only [fX1_rowOf, if_neg c18_1, if_neg c18_2, if_neg c18_3, if_neg c18_4, if_neg c18_5, if_neg c18_6, if_pos c18_7]
                rw [hq]
                exact r_iret X w hr rfl dX1_rowOf_30
              · refine lv_iinc (v := 7) (lv' := [(1, .int 7), (0, .int ce)]) hx hb dX1_rowOf_21 hl (k := 0) rfl (by first | rfl | decide) (by decide) rfl (fun ls hl => ?_)
                refine lv_goto (tgt := 2) hx hb dX1_rowOf_24 (by decide) ?_
                refine lv_iload_n hx hb dX1_rowOf_2 rfl (lv_at hl 0 rfl) ?_
                refine lv_iconst (v := 1) hx hb dX1_rowOf_3 (by decide) ?_
                refine lv_iadd hx hb dX1_rowOf_4 ?_
                rw [show ((7 : Int32) + 1) = 8 from by decide]
                refine lv_bipush (v := 9) hx hb dX1_rowOf_5 (by decide) ?_
                refine lv_icmp_ge (tgt := 27) hx hb dX1_rowOf_7 (by decide) (fun h => absurd h (by decide)) (fun _ => ?_)
                refine r_gets X w 6 rfl wf_X1_15 dX1_rowOf_10 ?_
                refine lv_iload_n hx hb dX1_rowOf_13 rfl (lv_at hl 0 rfl) ?_
                refine lv_iconst (v := 1) hx hb dX1_rowOf_14 (by decide) ?_
                refine lv_iadd hx hb dX1_rowOf_15 ?_
                rw [show ((7 : Int32) + 1) = 8 from by decide]
                refine r_tald X w 6 rfl rfl (N := 9) (vin_c rfl) dX1_rowOf_16 ?_
                refine lv_iload_n hx hb dX1_rowOf_17 rfl (lv_at hl 1 rfl) ?_
                refine lv_icmp_gt (tgt := 27) hx hb dX1_rowOf_18 (by decide) (fun c18_8 => ?_) (fun c18_8 => ?_)
                · refine lv_iload_n hx hb dX1_rowOf_27 rfl (lv_at hl 0 rfl) ?_
                  refine lv_iconst (v := 4) hx hb dX1_rowOf_28 (by decide) ?_
                  refine lv_isub hx hb dX1_rowOf_29 ?_
                  rw [show ((7 : Int32) - 4) = 3 from by decide]
                  have hq : fX1_rowOf ce = (3) := by simp only [fX1_rowOf, if_neg c18_1, if_neg c18_2, if_neg c18_3, if_neg c18_4, if_neg c18_5, if_neg c18_6, if_neg c18_7, if_pos c18_8]
                  rw [hq]
                  exact r_iret X w hr rfl dX1_rowOf_30
                · refine lv_iinc (v := 8) (lv' := [(1, .int 8), (0, .int ce)]) hx hb dX1_rowOf_21 hl (k := 0) rfl (by first | rfl | decide) (by decide) rfl (fun ls hl => ?_)
                  refine lv_goto (tgt := 2) hx hb dX1_rowOf_24 (by decide) ?_
                  refine lv_iload_n hx hb dX1_rowOf_2 rfl (lv_at hl 0 rfl) ?_
                  refine lv_iconst (v := 1) hx hb dX1_rowOf_3 (by decide) ?_
                  refine lv_iadd hx hb dX1_rowOf_4 ?_
                  rw [show ((8 : Int32) + 1) = 9 from by decide]
                  refine lv_bipush (v := 9) hx hb dX1_rowOf_5 (by decide) ?_
                  refine lv_icmp_ge (tgt := 27) hx hb dX1_rowOf_7 (by decide) (fun _ => ?_) (fun h => absurd h (by decide))
                  refine lv_iload_n hx hb dX1_rowOf_27 rfl (lv_at hl 0 rfl) ?_
                  refine lv_iconst (v := 4) hx hb dX1_rowOf_28 (by decide) ?_
                  refine lv_isub hx hb dX1_rowOf_29 ?_
                  rw [show ((8 : Int32) - 4) = 4 from by decide]
                  have hq : fX1_rowOf ce = (4) := by simp only [fX1_rowOf, if_neg c18_1, if_neg c18_2, if_neg c18_3, if_neg c18_4, if_neg c18_5, if_neg c18_6, if_neg c18_7, if_neg c18_8]
                  rw [hq]
                  exact r_iret X w hr rfl dX1_rowOf_30
theorem in_rowOf (ce : Int32) : vp_in (fX1_rowOf ce + 4) 9 := by
  unfold fX1_rowOf
  repeat' split
  all_goals exact vin_c rfl
def fX1_columnOf (ce : Int32) : Int32 := ((ce - (sT 6 ((fX1_rowOf ce) + 4).toNatClampNeg)) + (fX1_firstColumn (fX1_rowOf ce)))
theorem dX1_columnOf_0 : decode cX1_columnOf 0 = .ok (.iload_n 0, 1) := by decide +kernel
theorem dX1_columnOf_1 : decode cX1_columnOf 1 = .ok (.invokestatic 23, 3) := by decide +kernel
theorem dX1_columnOf_4 : decode cX1_columnOf 4 = .ok (.istore_n 1, 1) := by decide +kernel
theorem dX1_columnOf_5 : decode cX1_columnOf 5 = .ok (.iload_n 0, 1) := by decide +kernel
theorem dX1_columnOf_6 : decode cX1_columnOf 6 = .ok (.getstatic 15, 3) := by decide +kernel
theorem dX1_columnOf_9 : decode cX1_columnOf 9 = .ok (.iload_n 1, 1) := by decide +kernel
theorem dX1_columnOf_10 : decode cX1_columnOf 10 = .ok (.iconst 4, 1) := by decide +kernel
theorem dX1_columnOf_11 : decode cX1_columnOf 11 = .ok (.iadd, 1) := by decide +kernel
theorem dX1_columnOf_12 : decode cX1_columnOf 12 = .ok (.iaload, 1) := by decide +kernel
theorem dX1_columnOf_13 : decode cX1_columnOf 13 = .ok (.isub, 1) := by decide +kernel
theorem dX1_columnOf_14 : decode cX1_columnOf 14 = .ok (.iload_n 1, 1) := by decide +kernel
theorem dX1_columnOf_15 : decode cX1_columnOf 15 = .ok (.invokestatic 19, 3) := by decide +kernel
theorem dX1_columnOf_18 : decode cX1_columnOf 18 = .ok (.iadd, 1) := by decide +kernel
theorem dX1_columnOf_19 : decode cX1_columnOf 19 = .ok (.ireturn, 1) := by decide +kernel
theorem ck_X1_23 : CkS RX1 23 yX1_rowOf cX1_rowOf 2 (some .int) 1 := ⟨wm_X1_23, wst_yX1_rowOf, wi_X1, wc_yX1_rowOf, by decide +kernel⟩
set_option maxHeartbeats 4000000 in
set_option maxRecDepth 100000 in
theorem kX1_columnOf (l : Launch) (E : Ev) (ce : Int32) : KQ l yX1_columnOf cX1_columnOf 2 (some .int) 1 21 E [.int ce] [] (QI E [] (fX1_columnOf ce) []) := by
  refine KQ.mk RX1 rfl (by decide +kernel) (Nat.le_of_ble_eq_true rfl) ?_
  intro p e s m below meth c ls X hr w hl
  have hx := X.1
  have hb := X.2.1
  have hl : lv_has ls 2 [(0, .int ce)] := hl
  refine lv_iload_n hx hb dX1_columnOf_0 rfl (lv_at hl 0 rfl) ?_
  refine r_ci w (r_runS (As := [.int ce]) (rest := []) X w (kX1_rowOf l E ce ) ck_X1_23 ⟨Nat.le_of_ble_eq_true rfl, Nat.le_of_ble_eq_true rfl⟩ [] rfl (by decide +kernel) hl.1 (Nat.le_of_ble_eq_true rfl) rfl dX1_columnOf_1 ⟨Nat.le_of_ble_eq_true rfl, Nat.le_of_ble_eq_true rfl⟩) ([]) [] rfl (by decide +kernel) rfl rfl (fun H locs w => ?_)
  refine lv_istore_n (lv' := [(1, .int (fX1_rowOf ce)), (0, .int ce)]) hx hb dX1_columnOf_4 rfl hl (by decide) rfl (fun ls hl => ?_)
  refine lv_iload_n hx hb dX1_columnOf_5 rfl (lv_at hl 1 rfl) ?_
  refine r_gets X w 6 rfl wf_X1_15 dX1_columnOf_6 ?_
  refine lv_iload_n hx hb dX1_columnOf_9 rfl (lv_at hl 0 rfl) ?_
  refine lv_iconst (v := 4) hx hb dX1_columnOf_10 (by decide) ?_
  refine lv_iadd hx hb dX1_columnOf_11 ?_
  refine r_tald X w 6 rfl rfl (N := 9) (in_rowOf ce) dX1_columnOf_12 ?_
  refine lv_isub hx hb dX1_columnOf_13 ?_
  refine lv_iload_n hx hb dX1_columnOf_14 rfl (lv_at hl 0 rfl) ?_
  refine r_ci w (r_runS (As := [.int (fX1_rowOf ce)]) (rest := [.int (ce - (sT 6 ((fX1_rowOf ce) + 4).toNatClampNeg))]) X w (kX1_firstColumn l E (fX1_rowOf ce) ) ck_X1_19 ⟨Nat.le_of_ble_eq_true rfl, Nat.le_of_ble_eq_true rfl⟩ [] rfl (by decide +kernel) hl.1 (Nat.le_of_ble_eq_true rfl) rfl dX1_columnOf_15 ⟨Nat.le_of_ble_eq_true rfl, Nat.le_of_ble_eq_true rfl⟩) ([]) [] rfl (by decide +kernel) rfl rfl (fun H locs w => ?_)
  refine lv_iadd hx hb dX1_columnOf_18 ?_
  have hq : fX1_columnOf ce = ((ce - (sT 6 ((fX1_rowOf ce) + 4).toNatClampNeg)) + (fX1_firstColumn (fX1_rowOf ce))) := rfl
  rw [hq]
  exact r_iret X w hr rfl dX1_columnOf_19
def fX1_stepQ (di : Int32) : Int32 := if (fX1_isDirection di) = 0 then ((0)) else ((sT 3 di.toNatClampNeg))
theorem dX1_stepQ_0 : decode cX1_stepQ 0 = .ok (.iload_n 0, 1) := by decide +kernel
theorem dX1_stepQ_1 : decode cX1_stepQ 1 = .ok (.invokestatic 26, 3) := by decide +kernel
theorem dX1_stepQ_4 : decode cX1_stepQ 4 = .ok (.ifCond .eq 11, 3) := by decide +kernel
theorem dX1_stepQ_7 : decode cX1_stepQ 7 = .ok (.getstatic 29, 3) := by decide +kernel
theorem dX1_stepQ_10 : decode cX1_stepQ 10 = .ok (.iload_n 0, 1) := by decide +kernel
theorem dX1_stepQ_11 : decode cX1_stepQ 11 = .ok (.iaload, 1) := by decide +kernel
theorem dX1_stepQ_12 : decode cX1_stepQ 12 = .ok (.goto 4, 3) := by decide +kernel
theorem dX1_stepQ_15 : decode cX1_stepQ 15 = .ok (.iconst 0, 1) := by decide +kernel
theorem dX1_stepQ_16 : decode cX1_stepQ 16 = .ok (.ireturn, 1) := by decide +kernel
theorem ck_X1_26 : CkS RX1 26 yX1_isDirection cX1_isDirection 1 (some .boolean) 1 := ⟨wm_X1_26, wst_yX1_isDirection, wi_X1, wc_yX1_isDirection, by decide +kernel⟩
set_option maxHeartbeats 4000000 in
set_option maxRecDepth 100000 in
theorem kX1_stepQ (l : Launch) (E : Ev) (di : Int32) : KQ l yX1_stepQ cX1_stepQ 1 (some .int) 1 20 E [.int di] [] (QI E [] (fX1_stepQ di) []) := by
  refine KQ.mk RX1 rfl (by decide +kernel) (Nat.le_of_ble_eq_true rfl) ?_
  intro p e s m below meth c ls X hr w hl
  have hx := X.1
  have hb := X.2.1
  have hl : lv_has ls 1 [(0, .int di)] := hl
  refine lv_iload_n hx hb dX1_stepQ_0 rfl (lv_at hl 0 rfl) ?_
  refine r_ci w (r_runS (As := [.int di]) (rest := []) X w (kX1_isDirection l E di ) ck_X1_26 ⟨Nat.le_of_ble_eq_true rfl, Nat.le_of_ble_eq_true rfl⟩ [] rfl (by decide +kernel) hl.1 (Nat.le_of_ble_eq_true rfl) rfl dX1_stepQ_1 ⟨Nat.le_of_ble_eq_true rfl, Nat.le_of_ble_eq_true rfl⟩) ([]) [] rfl (by decide +kernel) rfl rfl (fun H locs w => ?_)
  refine lv_if_eq (tgt := 15) hx hb dX1_stepQ_4 (by decide) (fun c4_1 => ?_) (fun c4_1 => ?_)
  · refine lv_iconst (v := 0) hx hb dX1_stepQ_15 (by decide) ?_
    have hq : fX1_stepQ di = (0) := by simp only [fX1_stepQ, if_pos c4_1]
    rw [hq]
    exact r_iret X w hr rfl dX1_stepQ_16
  · refine r_gets X w 3 rfl wf_X1_29 dX1_stepQ_7 ?_
    refine lv_iload_n hx hb dX1_stepQ_10 rfl (lv_at hl 0 rfl) ?_
    refine r_tald X w 3 rfl rfl (N := 6) (in_dir c4_1) dX1_stepQ_11 ?_
    refine lv_goto (tgt := 16) hx hb dX1_stepQ_12 (by decide) ?_
    have hq : fX1_stepQ di = (sT 3 di.toNatClampNeg) := by simp only [fX1_stepQ, if_neg c4_1]
    rw [hq]
    exact r_iret X w hr rfl dX1_stepQ_16
def fX1_stepR (di : Int32) : Int32 := if (fX1_isDirection di) = 0 then ((0)) else ((sT 4 di.toNatClampNeg))
theorem dX1_stepR_0 : decode cX1_stepR 0 = .ok (.iload_n 0, 1) := by decide +kernel
theorem dX1_stepR_1 : decode cX1_stepR 1 = .ok (.invokestatic 26, 3) := by decide +kernel
theorem dX1_stepR_4 : decode cX1_stepR 4 = .ok (.ifCond .eq 11, 3) := by decide +kernel
theorem dX1_stepR_7 : decode cX1_stepR 7 = .ok (.getstatic 32, 3) := by decide +kernel
theorem dX1_stepR_10 : decode cX1_stepR 10 = .ok (.iload_n 0, 1) := by decide +kernel
theorem dX1_stepR_11 : decode cX1_stepR 11 = .ok (.iaload, 1) := by decide +kernel
theorem dX1_stepR_12 : decode cX1_stepR 12 = .ok (.goto 4, 3) := by decide +kernel
theorem dX1_stepR_15 : decode cX1_stepR 15 = .ok (.iconst 0, 1) := by decide +kernel
theorem dX1_stepR_16 : decode cX1_stepR 16 = .ok (.ireturn, 1) := by decide +kernel
set_option maxHeartbeats 4000000 in
set_option maxRecDepth 100000 in
theorem kX1_stepR (l : Launch) (E : Ev) (di : Int32) : KQ l yX1_stepR cX1_stepR 1 (some .int) 1 20 E [.int di] [] (QI E [] (fX1_stepR di) []) := by
  refine KQ.mk RX1 rfl (by decide +kernel) (Nat.le_of_ble_eq_true rfl) ?_
  intro p e s m below meth c ls X hr w hl
  have hx := X.1
  have hb := X.2.1
  have hl : lv_has ls 1 [(0, .int di)] := hl
  refine lv_iload_n hx hb dX1_stepR_0 rfl (lv_at hl 0 rfl) ?_
  refine r_ci w (r_runS (As := [.int di]) (rest := []) X w (kX1_isDirection l E di ) ck_X1_26 ⟨Nat.le_of_ble_eq_true rfl, Nat.le_of_ble_eq_true rfl⟩ [] rfl (by decide +kernel) hl.1 (Nat.le_of_ble_eq_true rfl) rfl dX1_stepR_1 ⟨Nat.le_of_ble_eq_true rfl, Nat.le_of_ble_eq_true rfl⟩) ([]) [] rfl (by decide +kernel) rfl rfl (fun H locs w => ?_)
  refine lv_if_eq (tgt := 15) hx hb dX1_stepR_4 (by decide) (fun c4_1 => ?_) (fun c4_1 => ?_)
  · refine lv_iconst (v := 0) hx hb dX1_stepR_15 (by decide) ?_
    have hq : fX1_stepR di = (0) := by simp only [fX1_stepR, if_pos c4_1]
    rw [hq]
    exact r_iret X w hr rfl dX1_stepR_16
  · refine r_gets X w 4 rfl wf_X1_32 dX1_stepR_7 ?_
    refine lv_iload_n hx hb dX1_stepR_10 rfl (lv_at hl 0 rfl) ?_
    refine r_tald X w 4 rfl rfl (N := 6) (in_dir c4_1) dX1_stepR_11 ?_
    refine lv_goto (tgt := 16) hx hb dX1_stepR_12 (by decide) ?_
    have hq : fX1_stepR di = (sT 4 di.toNatClampNeg) := by simp only [fX1_stepR, if_neg c4_1]
    rw [hq]
    exact r_iret X w hr rfl dX1_stepR_16
def fJ9_floorMod_7cf53 (x1 : Int32) (y1 : Int32) : Int32 := if 0 ≤ (x1 ^^^ y1) then ((x1 - x1 / y1 * y1)) else (if (x1 - x1 / y1 * y1) = 0 then ((x1 - x1 / y1 * y1)) else (((x1 - x1 / y1 * y1) + y1)))
theorem dJ9_floorMod_7cf53_0 : decode cJ9_floorMod_7cf53 0 = .ok (.iload_n 0, 1) := by decide +kernel
theorem dJ9_floorMod_7cf53_1 : decode cJ9_floorMod_7cf53 1 = .ok (.iload_n 1, 1) := by decide +kernel
theorem dJ9_floorMod_7cf53_2 : decode cJ9_floorMod_7cf53 2 = .ok (.irem, 1) := by decide +kernel
theorem dJ9_floorMod_7cf53_3 : decode cJ9_floorMod_7cf53 3 = .ok (.istore_n 2, 1) := by decide +kernel
theorem dJ9_floorMod_7cf53_4 : decode cJ9_floorMod_7cf53 4 = .ok (.iload_n 0, 1) := by decide +kernel
theorem dJ9_floorMod_7cf53_5 : decode cJ9_floorMod_7cf53 5 = .ok (.iload_n 1, 1) := by decide +kernel
theorem dJ9_floorMod_7cf53_6 : decode cJ9_floorMod_7cf53 6 = .ok (.ixor, 1) := by decide +kernel
theorem dJ9_floorMod_7cf53_7 : decode cJ9_floorMod_7cf53 7 = .ok (.ifCond .ge 11, 3) := by decide +kernel
theorem dJ9_floorMod_7cf53_10 : decode cJ9_floorMod_7cf53 10 = .ok (.iload_n 2, 1) := by decide +kernel
theorem dJ9_floorMod_7cf53_11 : decode cJ9_floorMod_7cf53 11 = .ok (.ifCond .eq 7, 3) := by decide +kernel
theorem dJ9_floorMod_7cf53_14 : decode cJ9_floorMod_7cf53 14 = .ok (.iload_n 2, 1) := by decide +kernel
theorem dJ9_floorMod_7cf53_15 : decode cJ9_floorMod_7cf53 15 = .ok (.iload_n 1, 1) := by decide +kernel
theorem dJ9_floorMod_7cf53_16 : decode cJ9_floorMod_7cf53 16 = .ok (.iadd, 1) := by decide +kernel
theorem dJ9_floorMod_7cf53_17 : decode cJ9_floorMod_7cf53 17 = .ok (.ireturn, 1) := by decide +kernel
theorem dJ9_floorMod_7cf53_18 : decode cJ9_floorMod_7cf53 18 = .ok (.iload_n 2, 1) := by decide +kernel
theorem dJ9_floorMod_7cf53_19 : decode cJ9_floorMod_7cf53 19 = .ok (.ireturn, 1) := by decide +kernel
set_option maxHeartbeats 4000000 in
set_option maxRecDepth 100000 in
theorem kJ9_floorMod_7cf53 (l : Launch) (E : Ev) (x1 : Int32) (y1 : Int32) (h0 : ¬ y1 = 0) : KQ l yJ9_floorMod_7cf53 cJ9_floorMod_7cf53 3 (some .int) 0 0 E [.int x1, .int y1] [] (QI E [] (fJ9_floorMod_7cf53 x1 y1) []) := by
  refine KQ.mk RJ9 rfl (by decide +kernel) (Nat.le_of_ble_eq_true rfl) ?_
  intro p e s m below meth c ls X hr w hl
  have hx := X.1
  have hb := X.2.1
  have hl : lv_has ls 3 [(0, .int x1), (1, .int y1)] := hl
  refine lv_iload_n hx hb dJ9_floorMod_7cf53_0 rfl (lv_at hl 0 rfl) ?_
  refine lv_iload_n hx hb dJ9_floorMod_7cf53_1 rfl (lv_at hl 1 rfl) ?_
  refine lv_irem hx hb dJ9_floorMod_7cf53_2 h0 ?_
  refine lv_istore_n (lv' := [(2, .int (x1 - x1 / y1 * y1)), (0, .int x1), (1, .int y1)]) hx hb dJ9_floorMod_7cf53_3 rfl hl (by decide) rfl (fun ls hl => ?_)
  refine lv_iload_n hx hb dJ9_floorMod_7cf53_4 rfl (lv_at hl 1 rfl) ?_
  refine lv_iload_n hx hb dJ9_floorMod_7cf53_5 rfl (lv_at hl 2 rfl) ?_
  refine lv_ixor hx hb dJ9_floorMod_7cf53_6 ?_
  refine lv_if_ge (tgt := 18) hx hb dJ9_floorMod_7cf53_7 (by decide) (fun c7_1 => ?_) (fun c7_1 => ?_)
  · refine lv_iload_n hx hb dJ9_floorMod_7cf53_18 rfl (lv_at hl 0 rfl) ?_
    have hq : fJ9_floorMod_7cf53 x1 y1 = (x1 - x1 / y1 * y1) := by simp only [fJ9_floorMod_7cf53, if_pos c7_1]
    rw [hq]
    exact r_iret X w hr rfl dJ9_floorMod_7cf53_19
  · refine lv_iload_n hx hb dJ9_floorMod_7cf53_10 rfl (lv_at hl 0 rfl) ?_
    refine lv_if_eq (tgt := 18) hx hb dJ9_floorMod_7cf53_11 (by decide) (fun c11_2 => ?_) (fun c11_2 => ?_)
    · refine lv_iload_n hx hb dJ9_floorMod_7cf53_18 rfl (lv_at hl 0 rfl) ?_
      have hq : fJ9_floorMod_7cf53 x1 y1 = (x1 - x1 / y1 * y1) := by simp only [fJ9_floorMod_7cf53, if_neg c7_1, if_pos c11_2]
      rw [hq]
      exact r_iret X w hr rfl dJ9_floorMod_7cf53_19
    · refine lv_iload_n hx hb dJ9_floorMod_7cf53_14 rfl (lv_at hl 0 rfl) ?_
      refine lv_iload_n hx hb dJ9_floorMod_7cf53_15 rfl (lv_at hl 2 rfl) ?_
      refine lv_iadd hx hb dJ9_floorMod_7cf53_16 ?_
      have hq : fJ9_floorMod_7cf53 x1 y1 = ((x1 - x1 / y1 * y1) + y1) := by simp only [fJ9_floorMod_7cf53, if_neg c7_1, if_neg c11_2]
      rw [hq]
      exact r_iret X w hr rfl dJ9_floorMod_7cf53_17
def fX1_turned (di : Int32) (si : Int32) : Int32 := ((fJ9_floorMod_7cf53 (di + si) 6))
theorem dX1_turned_0 : decode cX1_turned 0 = .ok (.iload_n 0, 1) := by decide +kernel
theorem dX1_turned_1 : decode cX1_turned 1 = .ok (.iload_n 1, 1) := by decide +kernel
theorem dX1_turned_2 : decode cX1_turned 2 = .ok (.iadd, 1) := by decide +kernel
theorem dX1_turned_3 : decode cX1_turned 3 = .ok (.bipush 6, 2) := by decide +kernel
theorem dX1_turned_5 : decode cX1_turned 5 = .ok (.invokestatic 35, 3) := by decide +kernel
theorem dX1_turned_8 : decode cX1_turned 8 = .ok (.ireturn, 1) := by decide +kernel
theorem ck_X1_35 : CkS RX1 35 yJ9_floorMod_7cf53 cJ9_floorMod_7cf53 3 (some .int) 2 := ⟨wm_X1_35, wst_yJ9_floorMod_7cf53, wi_J9, wc_yJ9_floorMod_7cf53, by decide +kernel⟩
set_option maxHeartbeats 4000000 in
set_option maxRecDepth 100000 in
theorem kX1_turned (l : Launch) (E : Ev) (di : Int32) (si : Int32) : KQ l yX1_turned cX1_turned 2 (some .int) 1 22 E [.int di, .int si] [] (QI E [] (fX1_turned di si) []) := by
  refine KQ.mk RX1 rfl (by decide +kernel) (Nat.le_of_ble_eq_true rfl) ?_
  intro p e s m below meth c ls X hr w hl
  have hx := X.1
  have hb := X.2.1
  have hl : lv_has ls 2 [(0, .int di), (1, .int si)] := hl
  refine lv_iload_n hx hb dX1_turned_0 rfl (lv_at hl 0 rfl) ?_
  refine lv_iload_n hx hb dX1_turned_1 rfl (lv_at hl 1 rfl) ?_
  refine lv_iadd hx hb dX1_turned_2 ?_
  refine lv_bipush (v := 6) hx hb dX1_turned_3 (by decide) ?_
  refine r_ci w (r_runS (As := [.int (di + si), .int 6]) (rest := []) X w (kJ9_floorMod_7cf53 l E (di + si) 6 (by decide)) ck_X1_35 ⟨Nat.le_of_ble_eq_true rfl, Nat.le_of_ble_eq_true rfl⟩ [] rfl (by decide +kernel) hl.1 (Nat.le_of_ble_eq_true rfl) rfl dX1_turned_5 ⟨Nat.le_of_ble_eq_true rfl, Nat.le_of_ble_eq_true rfl⟩) ([]) [] rfl (by decide +kernel) rfl rfl (fun H locs w => ?_)
  have hq : fX1_turned di si = ((fJ9_floorMod_7cf53 (di + si) 6)) := rfl
  rw [hq]
  exact r_iret X w hr rfl dX1_turned_8
def fX1_cornerOf (ce : Int32) : Int32 := if (sT 5 (0 : Int32).toNatClampNeg) = ce then ((0)) else (if (sT 5 (1 : Int32).toNatClampNeg) = ce then ((1)) else (if (sT 5 (2 : Int32).toNatClampNeg) = ce then ((2)) else (if (sT 5 (3 : Int32).toNatClampNeg) = ce then ((3)) else (if (sT 5 (4 : Int32).toNatClampNeg) = ce then ((4)) else (if (sT 5 (5 : Int32).toNatClampNeg) = ce then ((5)) else (((-5))))))))
theorem dX1_cornerOf_0 : decode cX1_cornerOf 0 = .ok (.iconst 0, 1) := by decide +kernel
theorem dX1_cornerOf_1 : decode cX1_cornerOf 1 = .ok (.istore_n 1, 1) := by decide +kernel
theorem dX1_cornerOf_2 : decode cX1_cornerOf 2 = .ok (.iload_n 1, 1) := by decide +kernel
theorem dX1_cornerOf_3 : decode cX1_cornerOf 3 = .ok (.getstatic 41, 3) := by decide +kernel
theorem dX1_cornerOf_6 : decode cX1_cornerOf 6 = .ok (.arraylength, 1) := by decide +kernel
theorem dX1_cornerOf_7 : decode cX1_cornerOf 7 = .ok (.if_icmp .ge 20, 3) := by decide +kernel
theorem dX1_cornerOf_10 : decode cX1_cornerOf 10 = .ok (.getstatic 41, 3) := by decide +kernel
theorem dX1_cornerOf_13 : decode cX1_cornerOf 13 = .ok (.iload_n 1, 1) := by decide +kernel
theorem dX1_cornerOf_14 : decode cX1_cornerOf 14 = .ok (.iaload, 1) := by decide +kernel
theorem dX1_cornerOf_15 : decode cX1_cornerOf 15 = .ok (.iload_n 0, 1) := by decide +kernel
theorem dX1_cornerOf_16 : decode cX1_cornerOf 16 = .ok (.if_icmp .ne 5, 3) := by decide +kernel
theorem dX1_cornerOf_19 : decode cX1_cornerOf 19 = .ok (.iload_n 1, 1) := by decide +kernel
theorem dX1_cornerOf_20 : decode cX1_cornerOf 20 = .ok (.ireturn, 1) := by decide +kernel
theorem dX1_cornerOf_21 : decode cX1_cornerOf 21 = .ok (.iinc 1 1, 3) := by decide +kernel
theorem dX1_cornerOf_24 : decode cX1_cornerOf 24 = .ok (.goto (-22), 3) := by decide +kernel
theorem dX1_cornerOf_27 : decode cX1_cornerOf 27 = .ok (.bipush (-5), 2) := by decide +kernel
theorem dX1_cornerOf_29 : decode cX1_cornerOf 29 = .ok (.ireturn, 1) := by decide +kernel
set_option maxHeartbeats 4000000 in
set_option maxRecDepth 100000 in
theorem kX1_cornerOf (l : Launch) (E : Ev) (ce : Int32) : KQ l yX1_cornerOf cX1_cornerOf 2 (some .int) 0 0 E [.int ce] [] (QI E [] (fX1_cornerOf ce) []) := by
  refine KQ.mk RX1 rfl (by decide +kernel) (Nat.le_of_ble_eq_true rfl) ?_
  intro p e s m below meth c ls X hr w hl
  have hx := X.1
  have hb := X.2.1
  have hl : lv_has ls 2 [(0, .int ce)] := hl
  refine lv_iconst (v := 0) hx hb dX1_cornerOf_0 (by decide) ?_
  refine lv_istore_n (lv' := [(1, .int 0), (0, .int ce)]) hx hb dX1_cornerOf_1 rfl hl (by decide) rfl (fun ls hl => ?_)
  refine lv_iload_n hx hb dX1_cornerOf_2 rfl (lv_at hl 0 rfl) ?_
  refine r_gets X w 5 rfl wf_X1_41 dX1_cornerOf_3 ?_
  refine r_tlen X w 5 rfl (v := 6) rfl dX1_cornerOf_6 ?_
  refine lv_icmp_ge (tgt := 27) hx hb dX1_cornerOf_7 (by decide) (fun h => absurd h (by decide)) (fun _ => ?_)
  refine r_gets X w 5 rfl wf_X1_41 dX1_cornerOf_10 ?_
  refine lv_iload_n hx hb dX1_cornerOf_13 rfl (lv_at hl 0 rfl) ?_
  refine r_tald X w 5 rfl rfl (N := 6) (vin_c rfl) dX1_cornerOf_14 ?_
  refine lv_iload_n hx hb dX1_cornerOf_15 rfl (lv_at hl 1 rfl) ?_
  refine lv_icmp_ne (tgt := 21) hx hb dX1_cornerOf_16 (by decide) (fun c16_1 => ?_) (fun c16_1 => ?_)
  · refine lv_iinc (v := 1) (lv' := [(1, .int 1), (0, .int ce)]) hx hb dX1_cornerOf_21 hl (k := 0) rfl (by first | rfl | decide) (by decide) rfl (fun ls hl => ?_)
    refine lv_goto (tgt := 2) hx hb dX1_cornerOf_24 (by decide) ?_
    refine lv_iload_n hx hb dX1_cornerOf_2 rfl (lv_at hl 0 rfl) ?_
    refine r_gets X w 5 rfl wf_X1_41 dX1_cornerOf_3 ?_
    refine r_tlen X w 5 rfl (v := 6) rfl dX1_cornerOf_6 ?_
    refine lv_icmp_ge (tgt := 27) hx hb dX1_cornerOf_7 (by decide) (fun h => absurd h (by decide)) (fun _ => ?_)
    refine r_gets X w 5 rfl wf_X1_41 dX1_cornerOf_10 ?_
    refine lv_iload_n hx hb dX1_cornerOf_13 rfl (lv_at hl 0 rfl) ?_
    refine r_tald X w 5 rfl rfl (N := 6) (vin_c rfl) dX1_cornerOf_14 ?_
    refine lv_iload_n hx hb dX1_cornerOf_15 rfl (lv_at hl 1 rfl) ?_
    refine lv_icmp_ne (tgt := 21) hx hb dX1_cornerOf_16 (by decide) (fun c16_2 => ?_) (fun c16_2 => ?_)
    · refine lv_iinc (v := 2) (lv' := [(1, .int 2), (0, .int ce)]) hx hb dX1_cornerOf_21 hl (k := 0) rfl (by first | rfl | decide) (by decide) rfl (fun ls hl => ?_)
      refine lv_goto (tgt := 2) hx hb dX1_cornerOf_24 (by decide) ?_
      refine lv_iload_n hx hb dX1_cornerOf_2 rfl (lv_at hl 0 rfl) ?_
      refine r_gets X w 5 rfl wf_X1_41 dX1_cornerOf_3 ?_
      refine r_tlen X w 5 rfl (v := 6) rfl dX1_cornerOf_6 ?_
      refine lv_icmp_ge (tgt := 27) hx hb dX1_cornerOf_7 (by decide) (fun h => absurd h (by decide)) (fun _ => ?_)
      refine r_gets X w 5 rfl wf_X1_41 dX1_cornerOf_10 ?_
      refine lv_iload_n hx hb dX1_cornerOf_13 rfl (lv_at hl 0 rfl) ?_
      refine r_tald X w 5 rfl rfl (N := 6) (vin_c rfl) dX1_cornerOf_14 ?_
      refine lv_iload_n hx hb dX1_cornerOf_15 rfl (lv_at hl 1 rfl) ?_
      refine lv_icmp_ne (tgt := 21) hx hb dX1_cornerOf_16 (by decide) (fun c16_3 => ?_) (fun c16_3 => ?_)
      · refine lv_iinc (v := 3) (lv' := [(1, .int 3), (0, .int ce)]) hx hb dX1_cornerOf_21 hl (k := 0) rfl (by first | rfl | decide) (by decide) rfl (fun ls hl => ?_)
        refine lv_goto (tgt := 2) hx hb dX1_cornerOf_24 (by decide) ?_
        refine lv_iload_n hx hb dX1_cornerOf_2 rfl (lv_at hl 0 rfl) ?_
        refine r_gets X w 5 rfl wf_X1_41 dX1_cornerOf_3 ?_
        refine r_tlen X w 5 rfl (v := 6) rfl dX1_cornerOf_6 ?_
        refine lv_icmp_ge (tgt := 27) hx hb dX1_cornerOf_7 (by decide) (fun h => absurd h (by decide)) (fun _ => ?_)
        refine r_gets X w 5 rfl wf_X1_41 dX1_cornerOf_10 ?_
        refine lv_iload_n hx hb dX1_cornerOf_13 rfl (lv_at hl 0 rfl) ?_
        refine r_tald X w 5 rfl rfl (N := 6) (vin_c rfl) dX1_cornerOf_14 ?_
        refine lv_iload_n hx hb dX1_cornerOf_15 rfl (lv_at hl 1 rfl) ?_
        refine lv_icmp_ne (tgt := 21) hx hb dX1_cornerOf_16 (by decide) (fun c16_4 => ?_) (fun c16_4 => ?_)
        · refine lv_iinc (v := 4) (lv' := [(1, .int 4), (0, .int ce)]) hx hb dX1_cornerOf_21 hl (k := 0) rfl (by first | rfl | decide) (by decide) rfl (fun ls hl => ?_)
          refine lv_goto (tgt := 2) hx hb dX1_cornerOf_24 (by decide) ?_
          refine lv_iload_n hx hb dX1_cornerOf_2 rfl (lv_at hl 0 rfl) ?_
          refine r_gets X w 5 rfl wf_X1_41 dX1_cornerOf_3 ?_
          refine r_tlen X w 5 rfl (v := 6) rfl dX1_cornerOf_6 ?_
          refine lv_icmp_ge (tgt := 27) hx hb dX1_cornerOf_7 (by decide) (fun h => absurd h (by decide)) (fun _ => ?_)
          refine r_gets X w 5 rfl wf_X1_41 dX1_cornerOf_10 ?_
          refine lv_iload_n hx hb dX1_cornerOf_13 rfl (lv_at hl 0 rfl) ?_
          refine r_tald X w 5 rfl rfl (N := 6) (vin_c rfl) dX1_cornerOf_14 ?_
          refine lv_iload_n hx hb dX1_cornerOf_15 rfl (lv_at hl 1 rfl) ?_
          refine lv_icmp_ne (tgt := 21) hx hb dX1_cornerOf_16 (by decide) (fun c16_5 => ?_) (fun c16_5 => ?_)
          · refine lv_iinc (v := 5) (lv' := [(1, .int 5), (0, .int ce)]) hx hb dX1_cornerOf_21 hl (k := 0) rfl (by first | rfl | decide) (by decide) rfl (fun ls hl => ?_)
            refine lv_goto (tgt := 2) hx hb dX1_cornerOf_24 (by decide) ?_
            refine lv_iload_n hx hb dX1_cornerOf_2 rfl (lv_at hl 0 rfl) ?_
            refine r_gets X w 5 rfl wf_X1_41 dX1_cornerOf_3 ?_
            refine r_tlen X w 5 rfl (v := 6) rfl dX1_cornerOf_6 ?_
            refine lv_icmp_ge (tgt := 27) hx hb dX1_cornerOf_7 (by decide) (fun h => absurd h (by decide)) (fun _ => ?_)
            refine r_gets X w 5 rfl wf_X1_41 dX1_cornerOf_10 ?_
            refine lv_iload_n hx hb dX1_cornerOf_13 rfl (lv_at hl 0 rfl) ?_
            refine r_tald X w 5 rfl rfl (N := 6) (vin_c rfl) dX1_cornerOf_14 ?_
            refine lv_iload_n hx hb dX1_cornerOf_15 rfl (lv_at hl 1 rfl) ?_
            refine lv_icmp_ne (tgt := 21) hx hb dX1_cornerOf_16 (by decide) (fun c16_6 => ?_) (fun c16_6 => ?_)
            · refine lv_iinc (v := 6) (lv' := [(1, .int 6), (0, .int ce)]) hx hb dX1_cornerOf_21 hl (k := 0) rfl (by first | rfl | decide) (by decide) rfl (fun ls hl => ?_)
              refine lv_goto (tgt := 2) hx hb dX1_cornerOf_24 (by decide) ?_
              refine lv_iload_n hx hb dX1_cornerOf_2 rfl (lv_at hl 0 rfl) ?_
              refine r_gets X w 5 rfl wf_X1_41 dX1_cornerOf_3 ?_
              refine r_tlen X w 5 rfl (v := 6) rfl dX1_cornerOf_6 ?_
              refine lv_icmp_ge (tgt := 27) hx hb dX1_cornerOf_7 (by decide) (fun _ => ?_) (fun h => absurd h (by decide))
              refine lv_bipush (v := (-5)) hx hb dX1_cornerOf_27 (by decide) ?_
              have hq : fX1_cornerOf ce = ((-5)) := by simp only [fX1_cornerOf, if_neg c16_1, if_neg c16_2, if_neg c16_3, if_neg c16_4, if_neg c16_5, if_neg c16_6]
              rw [hq]
              exact r_iret X w hr rfl dX1_cornerOf_29
            · refine lv_iload_n hx hb dX1_cornerOf_19 rfl (lv_at hl 0 rfl) ?_
              have hq : fX1_cornerOf ce = (5) := by simp only [fX1_cornerOf, if_neg c16_1, if_neg c16_2, if_neg c16_3, if_neg c16_4, if_neg c16_5, if_pos c16_6]
              rw [hq]
              exact r_iret X w hr rfl dX1_cornerOf_20
          · refine lv_iload_n hx hb dX1_cornerOf_19 rfl (lv_at hl 0 rfl) ?_
            have hq : fX1_cornerOf ce = (4) := by simp only [fX1_cornerOf, if_neg c16_1, if_neg c16_2, if_neg c16_3, if_neg c16_4, if_pos c16_5]
            rw [hq]
            exact r_iret X w hr rfl dX1_cornerOf_20
        · refine lv_iload_n hx hb dX1_cornerOf_19 rfl (lv_at hl 0 rfl) ?_
          have hq : fX1_cornerOf ce = (3) := by simp only [fX1_cornerOf, if_neg c16_1, if_neg c16_2, if_neg c16_3, if_pos c16_4]
          rw [hq]
          exact r_iret X w hr rfl dX1_cornerOf_20
      · refine lv_iload_n hx hb dX1_cornerOf_19 rfl (lv_at hl 0 rfl) ?_
        have hq : fX1_cornerOf ce = (2) := by simp only [fX1_cornerOf, if_neg c16_1, if_neg c16_2, if_pos c16_3]
        rw [hq]
        exact r_iret X w hr rfl dX1_cornerOf_20
    · refine lv_iload_n hx hb dX1_cornerOf_19 rfl (lv_at hl 0 rfl) ?_
      have hq : fX1_cornerOf ce = (1) := by simp only [fX1_cornerOf, if_neg c16_1, if_pos c16_2]
      rw [hq]
      exact r_iret X w hr rfl dX1_cornerOf_20
  · refine lv_iload_n hx hb dX1_cornerOf_19 rfl (lv_at hl 0 rfl) ?_
    have hq : fX1_cornerOf ce = (0) := by simp only [fX1_cornerOf, if_pos c16_1]
    rw [hq]
    exact r_iret X w hr rfl dX1_cornerOf_20
def fX1_besideN (q r : Int32) : Nat → Int32
  | 0 => 0
  | k + 1 => if fX1_cellAt (q + sT 3 (nI k).toNatClampNeg) (r + sT 4 (nI k).toNatClampNeg) = (-5) then fX1_besideN q r k else fX1_besideN q r k + 1
def fX1_cellsBeside (ce : Int32) : Int32 := fX1_besideN (fX1_columnOf ce) (fX1_rowOf ce) 6
theorem dX1_cellsBeside_0 : decode cX1_cellsBeside 0 = .ok (.iload_n 0, 1) := by decide +kernel
theorem dX1_cellsBeside_1 : decode cX1_cellsBeside 1 = .ok (.invokestatic 44, 3) := by decide +kernel
theorem dX1_cellsBeside_4 : decode cX1_cellsBeside 4 = .ok (.istore_n 1, 1) := by decide +kernel
theorem dX1_cellsBeside_5 : decode cX1_cellsBeside 5 = .ok (.iload_n 0, 1) := by decide +kernel
theorem dX1_cellsBeside_6 : decode cX1_cellsBeside 6 = .ok (.invokestatic 23, 3) := by decide +kernel
theorem dX1_cellsBeside_9 : decode cX1_cellsBeside 9 = .ok (.istore_n 2, 1) := by decide +kernel
theorem dX1_cellsBeside_10 : decode cX1_cellsBeside 10 = .ok (.iconst 0, 1) := by decide +kernel
theorem dX1_cellsBeside_11 : decode cX1_cellsBeside 11 = .ok (.istore_n 3, 1) := by decide +kernel
theorem dX1_cellsBeside_12 : decode cX1_cellsBeside 12 = .ok (.iconst 0, 1) := by decide +kernel
theorem dX1_cellsBeside_13 : decode cX1_cellsBeside 13 = .ok (.istore 4, 2) := by decide +kernel
theorem dX1_cellsBeside_15 : decode cX1_cellsBeside 15 = .ok (.iload 4, 2) := by decide +kernel
theorem dX1_cellsBeside_17 : decode cX1_cellsBeside 17 = .ok (.bipush 6, 2) := by decide +kernel
theorem dX1_cellsBeside_19 : decode cX1_cellsBeside 19 = .ok (.if_icmp .ge 36, 3) := by decide +kernel
theorem dX1_cellsBeside_22 : decode cX1_cellsBeside 22 = .ok (.iload_n 1, 1) := by decide +kernel
theorem dX1_cellsBeside_23 : decode cX1_cellsBeside 23 = .ok (.getstatic 29, 3) := by decide +kernel
theorem dX1_cellsBeside_26 : decode cX1_cellsBeside 26 = .ok (.iload 4, 2) := by decide +kernel
theorem dX1_cellsBeside_28 : decode cX1_cellsBeside 28 = .ok (.iaload, 1) := by decide +kernel
theorem dX1_cellsBeside_29 : decode cX1_cellsBeside 29 = .ok (.iadd, 1) := by decide +kernel
theorem dX1_cellsBeside_30 : decode cX1_cellsBeside 30 = .ok (.iload_n 2, 1) := by decide +kernel
theorem dX1_cellsBeside_31 : decode cX1_cellsBeside 31 = .ok (.getstatic 32, 3) := by decide +kernel
theorem dX1_cellsBeside_34 : decode cX1_cellsBeside 34 = .ok (.iload 4, 2) := by decide +kernel
theorem dX1_cellsBeside_36 : decode cX1_cellsBeside 36 = .ok (.iaload, 1) := by decide +kernel
theorem dX1_cellsBeside_37 : decode cX1_cellsBeside 37 = .ok (.iadd, 1) := by decide +kernel
theorem dX1_cellsBeside_38 : decode cX1_cellsBeside 38 = .ok (.invokestatic 47, 3) := by decide +kernel
theorem dX1_cellsBeside_41 : decode cX1_cellsBeside 41 = .ok (.bipush (-5), 2) := by decide +kernel
theorem dX1_cellsBeside_43 : decode cX1_cellsBeside 43 = .ok (.if_icmp .eq 6, 3) := by decide +kernel
theorem dX1_cellsBeside_46 : decode cX1_cellsBeside 46 = .ok (.iinc 3 1, 3) := by decide +kernel
theorem dX1_cellsBeside_49 : decode cX1_cellsBeside 49 = .ok (.iinc 4 1, 3) := by decide +kernel
theorem dX1_cellsBeside_52 : decode cX1_cellsBeside 52 = .ok (.goto (-37), 3) := by decide +kernel
theorem dX1_cellsBeside_55 : decode cX1_cellsBeside 55 = .ok (.iload_n 3, 1) := by decide +kernel
theorem dX1_cellsBeside_56 : decode cX1_cellsBeside 56 = .ok (.ireturn, 1) := by decide +kernel
theorem ck_X1_44 : CkS RX1 44 yX1_columnOf cX1_columnOf 2 (some .int) 1 := ⟨wm_X1_44, wst_yX1_columnOf, wi_X1, wc_yX1_columnOf, by decide +kernel⟩
theorem ck_X1_47 : CkS RX1 47 yX1_cellAt cX1_cellAt 2 (some .int) 2 := ⟨wm_X1_47, wst_yX1_cellAt, wi_X1, wc_yX1_cellAt, by decide +kernel⟩
set_option maxHeartbeats 4000000 in
set_option maxRecDepth 100000 in
theorem kX1_cellsBeside (l : Launch) (E : Ev) (ce : Int32) : KQ l yX1_cellsBeside cX1_cellsBeside 5 (some .int) 2 42 E [.int ce] [] (QI E [] (fX1_cellsBeside ce) []) := by
  refine KQ.mk RX1 rfl (by decide +kernel) (Nat.le_of_ble_eq_true rfl) ?_
  intro p e s m below meth c ls X hr w hl
  have hx := X.1
  have hb := X.2.1
  have hl : lv_has ls 5 [(0, .int ce)] := hl
  refine lv_iload_n hx hb dX1_cellsBeside_0 rfl (lv_at hl 0 rfl) ?_
  refine r_ci w (r_runS (As := [.int ce]) (rest := []) X w (kX1_columnOf l E ce ) ck_X1_44 ⟨Nat.le_of_ble_eq_true rfl, Nat.le_of_ble_eq_true rfl⟩ [] rfl (by decide +kernel) hl.1 (Nat.le_of_ble_eq_true rfl) rfl dX1_cellsBeside_1 ⟨Nat.le_of_ble_eq_true rfl, Nat.le_of_ble_eq_true rfl⟩) ([]) [] rfl (by decide +kernel) rfl rfl (fun H locs w => ?_)
  refine lv_istore_n (lv' := [(1, .int (fX1_columnOf ce)), (0, .int ce)]) hx hb dX1_cellsBeside_4 rfl hl (by decide) rfl (fun ls hl => ?_)
  refine lv_iload_n hx hb dX1_cellsBeside_5 rfl (lv_at hl 1 rfl) ?_
  refine r_ci w (r_runS (As := [.int ce]) (rest := []) X w (kX1_rowOf l E ce ) ck_X1_23 ⟨Nat.le_of_ble_eq_true rfl, Nat.le_of_ble_eq_true rfl⟩ [] rfl (by decide +kernel) hl.1 (Nat.le_of_ble_eq_true rfl) rfl dX1_cellsBeside_6 ⟨Nat.le_of_ble_eq_true rfl, Nat.le_of_ble_eq_true rfl⟩) ([]) [] rfl (by decide +kernel) rfl rfl (fun H locs w => ?_)
  refine lv_istore_n (lv' := [(2, .int (fX1_rowOf ce)), (1, .int (fX1_columnOf ce)), (0, .int ce)]) hx hb dX1_cellsBeside_9 rfl hl (by decide) rfl (fun ls hl => ?_)
  refine lv_iconst (v := 0) hx hb dX1_cellsBeside_10 (by decide) ?_
  refine lv_istore_n (lv' := [(3, .int 0), (2, .int (fX1_rowOf ce)), (1, .int (fX1_columnOf ce)), (0, .int ce)]) hx hb dX1_cellsBeside_11 rfl hl (by decide) rfl (fun ls hl => ?_)
  refine lv_iconst (v := 0) hx hb dX1_cellsBeside_12 (by decide) ?_
  refine lv_istore (lv' := [(4, .int 0), (3, .int 0), (2, .int (fX1_rowOf ce)), (1, .int (fX1_columnOf ce)), (0, .int ce)]) hx hb dX1_cellsBeside_13 hl (by decide) rfl (fun ls hl => ?_)
  have loop : ∀ (n k : Nat), k + n = 6 → ∀ (H : Heap) (locs : List Loc), Wd E (hB []) s ([]) H locs → ∀ (ls : Array Slot), lv_has ls 5 [(4, .int (nI k)), (3, .int (fX1_besideN (fX1_columnOf ce) (fX1_rowOf ce) k)), (2, .int (fX1_rowOf ce)), (1, .int (fX1_columnOf ce)), (0, .int ce)] → W p l e { frames := 2, cells := 0, slots := 0, locals := 42 } s m (([.int ce] : List Value)).toArray below meth c H locs 0 0 (MQ below (QI E [] (fX1_cellsBeside ce) []) (([.int ce] : List Value)).toArray s 0 0 (hB [])) (F0 m 15 ls []) := by
    intro n
    induction n with
    | zero =>
      intro k hk_k H locs w ls hl
      obtain rfl : k = 6 := by omega
      refine lv_iload hx hb dX1_cellsBeside_15 (lv_at hl 0 rfl) ?_
      refine lv_bipush (v := 6) hx hb dX1_cellsBeside_17 (by decide) ?_
      refine lv_icmp_ge (tgt := 55) hx hb dX1_cellsBeside_19 (by decide) (fun _ => ?_) (fun h => absurd (by decide : (6 : Int32) ≤ nI 6) h)
      refine lv_iload_n hx hb dX1_cellsBeside_55 rfl (lv_at hl 1 rfl) ?_
      have hq : fX1_cellsBeside ce = (fX1_besideN (fX1_columnOf ce) (fX1_rowOf ce) 6) := rfl
      rw [hq]
      exact r_iret X w hr rfl dX1_cellsBeside_56
    | succ n ih =>
      intro k hk_k H locs w ls hl
      have hkN : k < 6 := by omega
      refine lv_iload hx hb dX1_cellsBeside_15 (lv_at hl 0 rfl) ?_
      refine lv_bipush (v := 6) hx hb dX1_cellsBeside_17 (by decide) ?_
      refine lv_icmp_ge (tgt := 55) hx hb dX1_cellsBeside_19 (by decide) (fun h => absurd h (nI_ge (b := 6) hkN (by decide))) (fun _ => ?_)
      refine lv_iload_n hx hb dX1_cellsBeside_22 rfl (lv_at hl 3 rfl) ?_
      refine r_gets X w 3 rfl wf_X1_29 dX1_cellsBeside_23 ?_
      refine lv_iload hx hb dX1_cellsBeside_26 (lv_at hl 0 rfl) ?_
      refine r_tald X w 3 rfl rfl (N := 6) (vp_in_nI hkN (by decide)) dX1_cellsBeside_28 ?_
      refine lv_iadd hx hb dX1_cellsBeside_29 ?_
      refine lv_iload_n hx hb dX1_cellsBeside_30 rfl (lv_at hl 2 rfl) ?_
      refine r_gets X w 4 rfl wf_X1_32 dX1_cellsBeside_31 ?_
      refine lv_iload hx hb dX1_cellsBeside_34 (lv_at hl 0 rfl) ?_
      refine r_tald X w 4 rfl rfl (N := 6) (vp_in_nI hkN (by decide)) dX1_cellsBeside_36 ?_
      refine lv_iadd hx hb dX1_cellsBeside_37 ?_
      refine r_ci w (r_runS (As := [.int ((fX1_columnOf ce) + (sT 3 (nI k).toNatClampNeg)), .int ((fX1_rowOf ce) + (sT 4 (nI k).toNatClampNeg))]) (rest := []) X w (kX1_cellAt l E ((fX1_columnOf ce) + (sT 3 (nI k).toNatClampNeg)) ((fX1_rowOf ce) + (sT 4 (nI k).toNatClampNeg)) ) ck_X1_47 ⟨Nat.le_of_ble_eq_true rfl, Nat.le_of_ble_eq_true rfl⟩ [] rfl (by decide +kernel) hl.1 (Nat.le_of_ble_eq_true rfl) rfl dX1_cellsBeside_38 ⟨Nat.le_of_ble_eq_true rfl, Nat.le_of_ble_eq_true rfl⟩) ([]) [] rfl (by decide +kernel) rfl rfl (fun H locs w => ?_)
      refine lv_bipush (v := (-5)) hx hb dX1_cellsBeside_41 (by decide) ?_
      refine lv_icmp_eq (tgt := 49) hx hb dX1_cellsBeside_43 (by decide) (fun c43_3 => ?_) (fun c43_3 => ?_)
      · refine lv_iinc (v := (nI k) + 1) (lv' := [(4, .int ((nI k) + 1)), (3, .int (fX1_besideN (fX1_columnOf ce) (fX1_rowOf ce) k)), (2, .int (fX1_rowOf ce)), (1, .int (fX1_columnOf ce)), (0, .int ce)]) hx hb dX1_cellsBeside_49 hl (k := 0) rfl (by first | rfl | decide) (by decide) rfl (fun ls hl => ?_)
        refine lv_goto (tgt := 15) hx hb dX1_cellsBeside_52 (by decide) ?_
        have e0 : nI k + 1 = nI (k + 1) := nI_1 k
        rw [e0] at hl
        have e1 : fX1_besideN (fX1_columnOf ce) (fX1_rowOf ce) k = fX1_besideN (fX1_columnOf ce) (fX1_rowOf ce) (k + 1) := by rw [fX1_besideN, if_pos c43_3]
        rw [e1] at hl
        exact ih (k + 1) (by omega) _ _ w ls (lv_sub hl [0, 1, 2, 3, 4] rfl)
      · refine lv_iinc (v := (fX1_besideN (fX1_columnOf ce) (fX1_rowOf ce) k) + 1) (lv' := [(3, .int ((fX1_besideN (fX1_columnOf ce) (fX1_rowOf ce) k) + 1)), (4, .int (nI k)), (2, .int (fX1_rowOf ce)), (1, .int (fX1_columnOf ce)), (0, .int ce)]) hx hb dX1_cellsBeside_46 hl (k := 1) rfl (by first | rfl | decide) (by decide) rfl (fun ls hl => ?_)
        refine lv_iinc (v := (nI k) + 1) (lv' := [(4, .int ((nI k) + 1)), (3, .int ((fX1_besideN (fX1_columnOf ce) (fX1_rowOf ce) k) + 1)), (2, .int (fX1_rowOf ce)), (1, .int (fX1_columnOf ce)), (0, .int ce)]) hx hb dX1_cellsBeside_49 hl (k := 1) rfl (by first | rfl | decide) (by decide) rfl (fun ls hl => ?_)
        refine lv_goto (tgt := 15) hx hb dX1_cellsBeside_52 (by decide) ?_
        have e0 : nI k + 1 = nI (k + 1) := nI_1 k
        rw [e0] at hl
        have e1 : (fX1_besideN (fX1_columnOf ce) (fX1_rowOf ce) k) + 1 = fX1_besideN (fX1_columnOf ce) (fX1_rowOf ce) (k + 1) := by rw [fX1_besideN, if_neg c43_3]
        rw [e1] at hl
        exact ih (k + 1) (by omega) _ _ w ls (lv_sub hl [0, 1, 2, 3, 4] rfl)
  exact loop 6 0 (by omega) _ _ w ls (lv_sub hl [0, 1, 2, 3, 4] rfl)
end
section
/-! more rows: a static private method of a nest mate; a whole array copied; a character stored -/
theorem arr_ext {cA : ClassId} {n : Nat} {f g : Nat → Int32} (h : ∀ j : Nat, j < n → f j = g j) : vp_cell cA (n, .inl f) = vp_cell cA (n, .inl g) := by
  rw [vp_cell_i, vp_cell_i]
  unfold arrV
  congr 1
  apply Array.ext
  · simp
  · intro j h1 h2
    simp at h1 ⊢
    exact h j (by simpa using h1)
theorem Wd.arr {E : Ev} {A : Nat → Prop} {s : State} {ws : va_W} {H : Heap} {locs : List Loc} (w : Wd E A s ws H locs) (q0 : Nat) {a : Nat} {cA : ClassId} {n : Nat} {f : Nat → Int32} (g : Nat → Int32) (ha : ws[q0]? = some (a, .inl (cA, n, .inl f))) (h : ∀ j : Nat, j < n → f j = g j) : Wd E A s (ws.set q0 (a, .inl (cA, n, .inl g))) H locs := by
  obtain ⟨hP, hD, hS⟩ := w
  refine ⟨hP.set hD ha ?_ (fun _ _ => rfl), hD.set ha, hS⟩
  have h0 := hP q0 _ ha
  show H[a]? = some (vp_cell cA (n, .inl g))
  rw [← arr_ext h]
  exact h0
section RD
variable {p : Program} {l : Launch} {e : Env} {R : Room} {s : State} {m : MethodId} {args : Array Value} {below : List Frame} {meth : Method} {c : Code} {H : Heap} {locs : List Loc} {cells slots : Nat} {Q : State → Prop}
variable {cc : ByteArray} {nL : Nat} {own : String} {E : Ev} {A : Nat → Prop} {ws : va_W} {pc : Nat} {ls : Array Slot} {rest st0 : List Value} {a : Nat}
variable {y : MethodName} {bytes : ByteArray} {maxL : Nat} {ret : Option FieldType} {fr lo : Nat} {wc wc' : va_W} {As : List Value} {index n : Nat} {C host : String}
def CkN (own : String) (index : Nat) (y : MethodName) (bytes : ByteArray) (maxL : Nat) (ret : Option FieldType) (n : Nat) : Prop := Cond.methodLinkNest own index y RX6 ∈ NL ∧ Cond.static y ∈ T0 ∧ Cond.initialized y.cls ∈ T0 ∧ Cond.code y bytes maxL ret ∈ T0 ∧ (y.cls ≠ "java/lang/invoke/MethodHandle" ∧ y.cls ≠ "java/lang/invoke/VarHandle" ∧ (parseMethodDescriptor y.desc).map (fun d => d.parameters.length) = some n)
theorem code_good (h5 : Cond.code y bytes maxL ret ∈ T0) : GoodIn T0 (.code y bytes maxL ret :: T0) := by
  intro w hw
  have hm : w ∈ T0 := by
    rcases List.mem_cons.mp hw with rfl | hw
    · exact h5
    · exact hw
  exact ⟨hm, good_of_word (T0_good w hm)⟩
theorem r_runSN {Qc : Array Value → State → Outcome → State → Prop} (X : Cx p m meth c cc nL s args own E A) (w : Wd E A s ws H locs) (hM : KQ l y bytes maxL ret fr lo E As wc Qc) (ck : CkN own index y bytes maxL ret As.length) (hR : fr + 1 ≤ R.frames ∧ 8 + (maxL + 11) + lo ≤ R.locals) (is : List Nat) (hC : is.map (fun i => ws[i]?) = wc.map some) (hn : va_nd is = true) (hsz : ls.size = nL) (hst : (rest.map fun v => v.category).sum ≤ 8) (hstack : st0 = As.reverse ++ rest) (hdg : decode cc pc = .ok (.invokestatic index, 3)) (hcs : cells ≤ R.cells ∧ slots ≤ R.slots) :
    va_Run p l e R s m args below meth c H locs cells slots 0 0 (F0 m pc ls st0) rest (Qc As.toArray) (hB wc) := by
  have hts := X.2.2.2.2.1
  have hN := X.2.2.2.2.2.2.2.1
  exact va_runSN ⟨X.1, X.2.1, X.2.2.1, X.2.2.2.1, hts⟩ hM ⟨va_cnB As.length hts (code_good ck.2.2.2.1) rfl rfl rfl (hN _ ck.1) (hts _ ck.2.2.1) ck.2.2.2.2 hR, hts _ ck.2.1, trivial⟩ ⟨Pre.blind _ _ _, fun U hU hW => ⟨rfl, w.pre X is hC hn U hU hW⟩⟩ rfl rfl hsz hstack (lv_room hst) hdg hcs
theorem r_copy (X : Cx p m meth c cc nL s args own E A) (w : Wd E A s ws H locs) (ws' : va_W) (hlink : Cond.methodLink own index arraycopyName ∈ T0) (q0 q1 : Nat) {a0 n : Nat} {f g : Nat → Int32} (ha0 : ws[q0]? = some (a0, .inl (E.2.1.1, n, .inl f))) (ha1 : ws[q1]? = some (a, .inl (E.2.1.1, n, .inl g))) {k : Int32} (hk : ¬ k < 0) (hkn : k.toNatClampNeg = n) (hw : ws.set q1 (a, .inl (E.2.1.1, n, .inl f)) = ws') (hsz : ls.size = nL) (hframes : 1 ≤ R.frames) (hlocals : (rest.map fun v => v.category).sum + (nativeFrameWords "java/lang/System" "arraycopy" 5 + 11) ≤ R.locals) (hdg : decode cc pc = .ok (.invokestatic index, 3))
    (kk : ∀ (H1 : Heap) (locs1 : List Loc), Wd E A s ws' H1 locs1 → W p l e R s m args below meth c H1 locs1 cells slots Q (F0 m (pc + 3) ls rest)) : W p l e R s m args below meth c H locs cells slots Q (F0 m pc ls (.int k :: .int 0 :: .ref a :: .int 0 :: .ref a0 :: rest)) := by
  subst hw
  have hts := X.2.2.2.2.1
  refine va_copyi X.1 X.2.1 (X.2.2.1.trans hsz.symm) X.2.2.2.1 (hts _ hlink) (hts _ wnat_arraycopyName) (hts _ wst_arraycopyName) (hts _ wi_java_lang_System) X.2.2.2.2.2.1 w.1 w.2.1 w.2.2 q0 q1 0 0 ha0 ha1 rfl rfl rfl (by decide) (by decide) hk (by rw [hkn]; show 0 + n ≤ n; omega) (by rw [hkn]; show 0 + n ≤ n; omega) (fun _ _ => rfl) hframes hlocals hdg (fun H1 locs1 h1 h2 h3 => ?_)
  refine kk H1 locs1 ?_
  have w1 : Wd E A s (ws.set q1 (a, .inl (E.2.1.1, n, .inl (va_cpy f g (0 : Int32).toNatClampNeg (0 : Int32).toNatClampNeg k.toNatClampNeg)))) H1 locs1 := ⟨h1, h2, h3⟩
  have hlt : q1 < ws.length := (List.getElem?_eq_some_iff.mp ha1).1
  have w2 := w1.arr q1 f (List.getElem?_set_self hlt) (fun j hj => by
    show va_cpy f g 0 0 k.toNatClampNeg j = f j
    rw [pk_cpy_in (Nat.zero_le j) (by rw [hkn]; show j < 0 + n; omega)]
    show f (0 + (j - 0)) = f j
    rw [Nat.zero_add, Nat.sub_zero])
  rw [List.set_set] at w2
  exact w2
theorem r_cast (X : Cx p m meth c cc nL s args own E A) (w : Wd E A s ws H locs) (ws' : va_W) (q0 : Nat) {n : Nat} {f : Nat → Int32} (ha : ws[q0]? = some (a, .inl (E.2.1.2.1, n, .inl f))) {i x : Int32} (hin : vp_in i n) (hx : vp_nar .char x = x) (hw : ws.set q0 (a, .inl (E.2.1.2.1, n, .inl (upd f i.toNatClampNeg x))) = ws') (hdg : decode cc pc = .ok (.castore, 1))
    (kk : ∀ (H1 : Heap) (locs1 : List Loc), Wd E A s ws' H1 locs1 → W p l e R s m args below meth c H1 locs1 cells slots Q (F0 m (pc + 1) ls rest)) : W p l e R s m args below meth c H locs cells slots Q (F0 m pc ls (.int x :: .int i :: .ref a :: rest)) := by
  subst hw
  exact va_cast X.1 X.2.1 X.2.2.2.2.2.1 w.1 w.2.1 w.2.2 q0 1 ha rfl hin hdg (fun H1 locs1 h1 h2 h3 => kk H1 locs1 (by rw [hx] at h1 h2; exact ⟨h1, h2, h3⟩))
end RD
theorem nl_0 : Cond.fieldLinkNest RX6 113 RX4 "turn" "I" RX6 ∈ NL := List.mem_of_getElem? (i := 0) rfl
theorem nl_1 : Cond.fieldLinkNest RX6 120 RX3 "gone" "I" RX6 ∈ NL := List.mem_of_getElem? (i := 1) rfl
theorem nl_2 : Cond.fieldLinkNest RX6 127 RX4 "run" "I" RX6 ∈ NL := List.mem_of_getElem? (i := 2) rfl
theorem nl_3 : Cond.fieldLinkNest RX6 137 RX0 "length" "I" RX6 ∈ NL := List.mem_of_getElem? (i := 3) rfl
theorem nl_4 : Cond.fieldLinkNest RX6 144 RX2 "size" "I" RX6 ∈ NL := List.mem_of_getElem? (i := 4) rfl
theorem nl_5 : Cond.fieldLinkNest RX6 169 RX4 "cellOf" "[I" RX6 ∈ NL := List.mem_of_getElem? (i := 5) rfl
theorem nl_6 : Cond.fieldLinkNest RX6 172 RX4 "valueOf" "[I" RX6 ∈ NL := List.mem_of_getElem? (i := 6) rfl
theorem nl_7 : Cond.fieldLinkNest RX6 175 RX4 "stepsOf" "[I" RX6 ∈ NL := List.mem_of_getElem? (i := 7) rfl
theorem nl_8 : Cond.fieldLinkNest RX6 178 RX4 "banksOf" "[I" RX6 ∈ NL := List.mem_of_getElem? (i := 8) rfl
theorem nl_9 : Cond.fieldLinkNest RX6 181 RX4 "hitsOf" "[I" RX6 ∈ NL := List.mem_of_getElem? (i := 9) rfl
theorem nl_10 : Cond.fieldLinkNest RX6 188 RX3 "steps" "I" RX6 ∈ NL := List.mem_of_getElem? (i := 10) rfl
theorem nl_11 : Cond.fieldLinkNest RX6 191 RX3 "banks" "I" RX6 ∈ NL := List.mem_of_getElem? (i := 11) rfl
theorem nl_12 : Cond.fieldLinkNest RX6 194 RX3 "hits" "I" RX6 ∈ NL := List.mem_of_getElem? (i := 12) rfl
theorem nl_13 : Cond.fieldLinkNest RX6 197 RX3 "mover" "I" RX6 ∈ NL := List.mem_of_getElem? (i := 13) rfl
theorem nl_14 : Cond.fieldLinkNest RX6 201 RX3 "speed" "F" RX6 ∈ NL := List.mem_of_getElem? (i := 14) rfl
theorem nl_15 : Cond.fieldLinkNest RX6 208 RX3 "walker" "LHexBilliards$Walker;" RX6 ∈ NL := List.mem_of_getElem? (i := 15) rfl
theorem nl_16 : Cond.fieldLinkNest RX6 220 RX5 "direction" "I" RX6 ∈ NL := List.mem_of_getElem? (i := 16) rfl
theorem nl_17 : Cond.fieldLinkNest RX6 226 RX5 "q" "I" RX6 ∈ NL := List.mem_of_getElem? (i := 17) rfl
theorem nl_18 : Cond.fieldLinkNest RX6 229 RX5 "r" "I" RX6 ∈ NL := List.mem_of_getElem? (i := 18) rfl
theorem nl_19 : Cond.fieldLinkNest RX6 236 RX4 "ballsSoFar" "I" RX6 ∈ NL := List.mem_of_getElem? (i := 19) rfl
theorem nl_20 : Cond.fieldLinkNest RX6 239 RX4 "scores" "[I" RX6 ∈ NL := List.mem_of_getElem? (i := 20) rfl
theorem nl_21 : Cond.fieldLinkNest RX6 242 RX4 "shots" "I" RX6 ∈ NL := List.mem_of_getElem? (i := 21) rfl
theorem nl_22 : Cond.fieldLinkNest RX6 245 RX4 "goneByShots" "I" RX6 ∈ NL := List.mem_of_getElem? (i := 22) rfl
theorem nl_23 : Cond.fieldLinkNest RX6 68 RX0 "balls" "I" RX6 ∈ NL := List.mem_of_getElem? (i := 23) rfl
theorem nl_24 : Cond.fieldLinkNest RX6 93 RX4 "openPots" "I" RX6 ∈ NL := List.mem_of_getElem? (i := 24) rfl
theorem nl_25 : Cond.fieldLinkNest RX3 74 RX4 "settings" "[I" RX6 ∈ NL := List.mem_of_getElem? (i := 25) rfl
theorem nl_26 : Cond.fieldLinkNest RX6 103 RX4 "settings" "[I" RX6 ∈ NL := List.mem_of_getElem? (i := 26) rfl
theorem nl_27 : Cond.fieldLinkNest RX4 42 RX6 "FIRST_SETTING" "[I" RX6 ∈ NL := List.mem_of_getElem? (i := 27) rfl
theorem nl_28 : Cond.methodLinkNest RX6 31 yX0_init RX6 ∈ NL := List.mem_of_getElem? (i := 28) rfl
theorem nl_29 : Cond.methodLinkNest RX6 38 yX3_init RX6 ∈ NL := List.mem_of_getElem? (i := 29) rfl
theorem nl_30 : Cond.methodLinkNest RX3 11 yX5_init RX6 ∈ NL := List.mem_of_getElem? (i := 30) rfl
theorem nl_31 : Cond.methodLinkNest RX4 97 yX6_isPlayer RX6 ∈ NL := List.mem_of_getElem? (i := 31) rfl
/-! blocks of a world: read and put whole -/
def rg (s : Nat) : Nat → List Nat
  | 0 => []
  | n + 1 => s :: rg (s + 1) n
theorem wput_app : ∀ {is1 is2 : List Nat} {q1 q2 ws : va_W}, is1.length = q1.length → wput ws (is1 ++ is2) (q1 ++ q2) = wput (wput ws is1 q1) is2 q2
  | [], is2, [], q2, ws, _ => rfl
  | [], is2, a :: q1, q2, ws, h => by simp at h
  | i :: is1, is2, [], q2, ws, h => by simp at h
  | i :: is1, is2, a :: q1, q2, ws, h => by
    show wput (ws.set i a) (is1 ++ is2) (q1 ++ q2) = wput (wput (ws.set i a) is1 q1) is2 q2
    exact wput_app (by simpa using h)
theorem set_mid (A C : va_W) (b b' : Nat × va_E) : (A ++ (b :: C)).set A.length b' = A ++ (b' :: C) := by
  rw [List.set_append_right _ _ (Nat.le_refl _), Nat.sub_self]
  rfl
theorem put0 : ∀ (B B' A C : va_W), B.length = B'.length → wput (A ++ (B ++ C)) (rg A.length B'.length) B' = A ++ (B' ++ C)
  | [], [], A, C, _ => rfl
  | [], a :: B', A, C, h => by simp at h
  | b :: B, [], A, C, h => by simp at h
  | b :: B, b' :: B', A, C, h => by
    show wput ((A ++ (b :: (B ++ C))).set A.length b') (rg (A.length + 1) B'.length) B' = A ++ (b' :: (B' ++ C))
    rw [set_mid]
    have h2 := put0 B B' (A ++ [b']) C (by simpa using h)
    rw [List.append_assoc, List.append_assoc, List.length_append] at h2
    exact h2
theorem get0 : ∀ (B A C : va_W), (rg A.length B.length).map (fun i => (A ++ (B ++ C))[i]?) = B.map some
  | [], A, C => rfl
  | b :: B, A, C => by
    have h2 := get0 B (A ++ [b]) C
    rw [List.append_assoc, List.length_append] at h2
    show (A ++ (b :: (B ++ C)))[A.length]? :: (rg (A.length + 1) B.length).map (fun i => (A ++ (b :: (B ++ C)))[i]?) = some b :: B.map some
    rw [show (A ++ (b :: (B ++ C)))[A.length]? = some b by simp]
    exact congrArg (some b :: ·) h2
theorem put1 {A B C B' : va_W} {s n : Nat} (hs : A.length = s) (hn : B.length = n) (hn' : B'.length = n) : wput (A ++ (B ++ C)) (rg s n) B' = A ++ (B' ++ C) := by
  subst hs
  subst hn'
  exact put0 B B' A C hn
theorem get1 {A B C : va_W} {s n : Nat} (hs : A.length = s) (hn : B.length = n) : (rg s n).map (fun i => (A ++ (B ++ C))[i]?) = B.map some := by
  subst hs
  subst hn
  exact get0 B A C
theorem fst_app {A B A' B' : va_W} (h1 : A'.map Prod.fst = A.map Prod.fst) (h2 : B'.map Prod.fst = B.map Prod.fst) : (A' ++ B').map Prod.fst = (A ++ B).map Prod.fst := by
  rw [List.map_append, List.map_append, h1, h2]
theorem get_app {ws B1 B2 : va_W} {is1 is2 : List Nat} (h1 : is1.map (fun i => ws[i]?) = B1.map some) (h2 : is2.map (fun i => ws[i]?) = B2.map some) : (is1 ++ is2).map (fun i => ws[i]?) = (B1 ++ B2).map some := by
  rw [List.map_append, List.map_append, h1, h2]
theorem r_ialdL {p : Program} {l : Launch} {e : Env} {R : Room} {s : State} {m : MethodId} {args : Array Value} {below : List Frame} {meth : Method} {c : Code} {H : Heap} {locs : List Loc} {cells slots : Nat} {Q : State → Prop} {cc : ByteArray} {nL : Nat} {own : String} {E : Ev} {A : Nat → Prop} {ws : va_W} {pc : Nat} {ls : Array Slot} {rest : List Value} {a : Nat} (X : Cx p m meth c cc nL s args own E A) (w : Wd E A s ws H locs) (q0 : Nat) {n : Nat} {f : Nat → Int32} (ha : ws[q0]? = some (a, .inl (E.2.1.1, n, .inl f))) {i : Int32} {j : Nat} (hj : i.toNatClampNeg = j) (hin : vp_in i n) (hdg : decode cc pc = .ok (.iaload, 1))
    (kk : W p l e R s m args below meth c H locs cells slots Q (F0 m (pc + 1) ls (.int (f j) :: rest))) : W p l e R s m args below meth c H locs cells slots Q (F0 m pc ls (.int i :: .ref a :: rest)) := by
  subst hj
  exact r_iald X w q0 ha hin hdg kk
/-! a tuple's parts -/
theorem tup2 {α β : Type} {f : α × β} {A : α} {B : β} (h : f = (A, B)) : f.1 = A ∧ f.2 = B := by subst h; exact ⟨rfl, rfl⟩
theorem tup3 {α β γ : Type} {f : α × β × γ} {A : α} {B : β} {C : γ} (h : f = (A, B, C)) : f.1 = A ∧ f.2.1 = B ∧ f.2.2 = C := by subst h; exact ⟨rfl, rfl, rfl⟩
theorem tup4 {α β γ δ : Type} {f : α × β × γ × δ} {A : α} {B : β} {C : γ} {D : δ} (h : f = (A, B, C, D)) : f.1 = A ∧ f.2.1 = B ∧ f.2.2.1 = C ∧ f.2.2.2 = D := by subst h; exact ⟨rfl, rfl, rfl, rfl⟩
theorem tup5 {α β γ δ ε : Type} {f : α × β × γ × δ × ε} {A : α} {B : β} {C : γ} {D : δ} {F : ε} (h : f = (A, B, C, D, F)) : f.1 = A ∧ f.2.1 = B ∧ f.2.2.1 = C ∧ f.2.2.2.1 = D ∧ f.2.2.2.2 = F := by subst h; exact ⟨rfl, rfl, rfl, rfl, rfl⟩
theorem tup6 {α β γ δ ε ζ : Type} {f : α × β × γ × δ × ε × ζ} {A : α} {B : β} {C : γ} {D : δ} {F : ε} {G : ζ} (h : f = (A, B, C, D, F, G)) : f.1 = A ∧ f.2.1 = B ∧ f.2.2.1 = C ∧ f.2.2.2.1 = D ∧ f.2.2.2.2.1 = F ∧ f.2.2.2.2.2 = G := by subst h; exact ⟨rfl, rfl, rfl, rfl, rfl, rfl⟩
theorem tup7 {α β γ δ ε ζ η : Type} {f : α × β × γ × δ × ε × ζ × η} {A : α} {B : β} {C : γ} {D : δ} {F : ε} {G : ζ} {I : η} (h : f = (A, B, C, D, F, G, I)) : f.1 = A ∧ f.2.1 = B ∧ f.2.2.1 = C ∧ f.2.2.2.1 = D ∧ f.2.2.2.2.1 = F ∧ f.2.2.2.2.2.1 = G ∧ f.2.2.2.2.2.2 = I := by subst h; exact ⟨rfl, rfl, rfl, rfl, rfl, rfl, rfl⟩
theorem tup8 {α β γ δ ε ζ η θ : Type} {f : α × β × γ × δ × ε × ζ × η × θ} {A : α} {B : β} {C : γ} {D : δ} {F : ε} {G : ζ} {I : η} {J : θ} (h : f = (A, B, C, D, F, G, I, J)) : f.1 = A ∧ f.2.1 = B ∧ f.2.2.1 = C ∧ f.2.2.2.1 = D ∧ f.2.2.2.2.1 = F ∧ f.2.2.2.2.2.1 = G ∧ f.2.2.2.2.2.2.1 = I ∧ f.2.2.2.2.2.2.2 = J := by subst h; exact ⟨rfl, rfl, rfl, rfl, rfl, rfl, rfl, rfl⟩
theorem tup9 {α β γ δ ε ζ η θ ι : Type} {f : α × β × γ × δ × ε × ζ × η × θ × ι} {A : α} {B : β} {C : γ} {D : δ} {F : ε} {G : ζ} {I : η} {J : θ} {K : ι} (h : f = (A, B, C, D, F, G, I, J, K)) : f.1 = A ∧ f.2.1 = B ∧ f.2.2.1 = C ∧ f.2.2.2.1 = D ∧ f.2.2.2.2.1 = F ∧ f.2.2.2.2.2.1 = G ∧ f.2.2.2.2.2.2.1 = I ∧ f.2.2.2.2.2.2.2.1 = J ∧ f.2.2.2.2.2.2.2.2 = K := by subst h; exact ⟨rfl, rfl, rfl, rfl, rfl, rfl, rfl, rfl, rfl⟩
theorem tup10 {α β γ δ ε ζ η θ ι κ : Type} {f : α × β × γ × δ × ε × ζ × η × θ × ι × κ} {A : α} {B : β} {C : γ} {D : δ} {F : ε} {G : ζ} {I : η} {J : θ} {K : ι} {L : κ} (h : f = (A, B, C, D, F, G, I, J, K, L)) : f.1 = A ∧ f.2.1 = B ∧ f.2.2.1 = C ∧ f.2.2.2.1 = D ∧ f.2.2.2.2.1 = F ∧ f.2.2.2.2.2.1 = G ∧ f.2.2.2.2.2.2.1 = I ∧ f.2.2.2.2.2.2.2.1 = J ∧ f.2.2.2.2.2.2.2.2.1 = K ∧ f.2.2.2.2.2.2.2.2.2 = L := by subst h; exact ⟨rfl, rfl, rfl, rfl, rfl, rfl, rfl, rfl, rfl, rfl⟩
end
section
/-! State: its methods (printed by wip/whole/gen/p06.py) -/
def fX4_isBallNumber (bl : Int32) : Int32 := if bl < 0 then ((0)) else (if 12 ≤ bl then ((0)) else ((1)))
theorem dX4_isBallNumber_0 : decode cX4_isBallNumber 0 = .ok (.iload_n 0, 1) := by decide +kernel
theorem dX4_isBallNumber_1 : decode cX4_isBallNumber 1 = .ok (.ifCond .lt 13, 3) := by decide +kernel
theorem dX4_isBallNumber_4 : decode cX4_isBallNumber 4 = .ok (.iload_n 0, 1) := by decide +kernel
theorem dX4_isBallNumber_5 : decode cX4_isBallNumber 5 = .ok (.bipush 12, 2) := by decide +kernel
theorem dX4_isBallNumber_7 : decode cX4_isBallNumber 7 = .ok (.if_icmp .ge 7, 3) := by decide +kernel
theorem dX4_isBallNumber_10 : decode cX4_isBallNumber 10 = .ok (.iconst 1, 1) := by decide +kernel
theorem dX4_isBallNumber_11 : decode cX4_isBallNumber 11 = .ok (.goto 4, 3) := by decide +kernel
theorem dX4_isBallNumber_14 : decode cX4_isBallNumber 14 = .ok (.iconst 0, 1) := by decide +kernel
theorem dX4_isBallNumber_15 : decode cX4_isBallNumber 15 = .ok (.ireturn, 1) := by decide +kernel
set_option maxHeartbeats 4000000 in
set_option maxRecDepth 100000 in
theorem kX4_isBallNumber (l : Launch) (E : Ev) (bl : Int32) : KQ l yX4_isBallNumber cX4_isBallNumber 1 (some .boolean) 0 0 E [.int bl] [] (QI E [] (fX4_isBallNumber bl) []) := by
  refine KQ.mk RX4 rfl (by decide +kernel) (Nat.le_of_ble_eq_true rfl) ?_
  intro p e s m below meth c ls X hr w hl
  have hx := X.1
  have hb := X.2.1
  have hl : lv_has ls 1 [(0, .int bl)] := hl
  refine lv_iload_n hx hb dX4_isBallNumber_0 rfl (lv_at hl 0 rfl) ?_
  refine lv_if_lt (tgt := 14) hx hb dX4_isBallNumber_1 (by decide) (fun c1_1 => ?_) (fun c1_1 => ?_)
  · refine lv_iconst (v := 0) hx hb dX4_isBallNumber_14 (by decide) ?_
    have hq : fX4_isBallNumber bl = (0) := by simp only [fX4_isBallNumber, if_pos c1_1]
    rw [hq]
    exact r_zret X w hr (Or.inl rfl) rfl dX4_isBallNumber_15
  · refine lv_iload_n hx hb dX4_isBallNumber_4 rfl (lv_at hl 0 rfl) ?_
    refine lv_bipush (v := 12) hx hb dX4_isBallNumber_5 (by decide) ?_
    refine lv_icmp_ge (tgt := 14) hx hb dX4_isBallNumber_7 (by decide) (fun c7_2 => ?_) (fun c7_2 => ?_)
    · refine lv_iconst (v := 0) hx hb dX4_isBallNumber_14 (by decide) ?_
      have hq : fX4_isBallNumber bl = (0) := by simp only [fX4_isBallNumber, if_neg c1_1, if_pos c7_2]
      rw [hq]
      exact r_zret X w hr (Or.inl rfl) rfl dX4_isBallNumber_15
    · refine lv_iconst (v := 1) hx hb dX4_isBallNumber_10 (by decide) ?_
      refine lv_goto (tgt := 15) hx hb dX4_isBallNumber_11 (by decide) ?_
      have hq : fX4_isBallNumber bl = (1) := by simp only [fX4_isBallNumber, if_neg c1_1, if_neg c7_2]
      rw [hq]
      exact r_zret X w hr (Or.inr rfl) rfl dX4_isBallNumber_15
theorem zX4_isBallNumber (bl : Int32) : fX4_isBallNumber bl = 0 ∨ fX4_isBallNumber bl = 1 := by
  unfold fX4_isBallNumber
  repeat' split
  all_goals first | exact Or.inl rfl | exact Or.inr rfl | (simp; done) | exact Or.inl rfl
def fX4_totalN (f : N1) : Nat → Int32
  | 0 => 0
  | k + 1 => fX4_totalN f k + f (nI k).toNatClampNeg
theorem in_bn {bl : Int32} (h : ¬ fX4_isBallNumber bl = 0) : vp_in bl 12 := by
  unfold fX4_isBallNumber at h
  split at h
  · exact absurd rfl h
  · split at h
    · exact absurd rfl h
    · exact vin_ge 12 rfl ‹_› ‹_›
theorem in_cell {ce : Int32} (h : ¬ fX1_isCell ce = 0) : vp_in ce 61 := by
  unfold fX1_isCell at h
  split at h
  · exact absurd rfl h
  · split at h
    · exact absurd rfl h
    · exact vin_ge 61 rfl ‹_› ‹_›
def fX4_total (f : N1) : Int32 := fX4_totalN f 12
theorem dX4_total_0 : decode cX4_total 0 = .ok (.iconst 0, 1) := by decide +kernel
theorem dX4_total_1 : decode cX4_total 1 = .ok (.istore_n 1, 1) := by decide +kernel
theorem dX4_total_2 : decode cX4_total 2 = .ok (.iconst 0, 1) := by decide +kernel
theorem dX4_total_3 : decode cX4_total 3 = .ok (.istore_n 2, 1) := by decide +kernel
theorem dX4_total_4 : decode cX4_total 4 = .ok (.iload_n 2, 1) := by decide +kernel
theorem dX4_total_5 : decode cX4_total 5 = .ok (.aload_n 0, 1) := by decide +kernel
theorem dX4_total_6 : decode cX4_total 6 = .ok (.arraylength, 1) := by decide +kernel
theorem dX4_total_7 : decode cX4_total 7 = .ok (.if_icmp .ge 15, 3) := by decide +kernel
theorem dX4_total_10 : decode cX4_total 10 = .ok (.iload_n 1, 1) := by decide +kernel
theorem dX4_total_11 : decode cX4_total 11 = .ok (.aload_n 0, 1) := by decide +kernel
theorem dX4_total_12 : decode cX4_total 12 = .ok (.iload_n 2, 1) := by decide +kernel
theorem dX4_total_13 : decode cX4_total 13 = .ok (.iaload, 1) := by decide +kernel
theorem dX4_total_14 : decode cX4_total 14 = .ok (.iadd, 1) := by decide +kernel
theorem dX4_total_15 : decode cX4_total 15 = .ok (.istore_n 1, 1) := by decide +kernel
theorem dX4_total_16 : decode cX4_total 16 = .ok (.iinc 2 1, 3) := by decide +kernel
theorem dX4_total_19 : decode cX4_total 19 = .ok (.goto (-15), 3) := by decide +kernel
theorem dX4_total_22 : decode cX4_total 22 = .ok (.iload_n 1, 1) := by decide +kernel
theorem dX4_total_23 : decode cX4_total 23 = .ok (.ireturn, 1) := by decide +kernel
set_option maxHeartbeats 4000000 in
set_option maxRecDepth 100000 in
theorem kX4_total (l : Launch) (E : Ev) (a : Nat) (f : N1) : KQ l yX4_total cX4_total 3 (some .int) 0 0 E [.ref a] (wAr E a 12 f) (QI E (wAr E a 12 f) (fX4_total f) (wAr E a 12 f)) := by
  refine KQ.mk RX4 rfl (by decide +kernel) (Nat.le_of_ble_eq_true rfl) ?_
  intro p e s m below meth c ls X hr w hl
  have hx := X.1
  have hb := X.2.1
  have hl : lv_has ls 3 [(0, .ref a)] := hl
  refine lv_iconst (v := 0) hx hb dX4_total_0 (by decide) ?_
  refine lv_istore_n (lv' := [(1, .int 0), (0, .ref a)]) hx hb dX4_total_1 rfl hl (by decide) rfl (fun ls hl => ?_)
  refine lv_iconst (v := 0) hx hb dX4_total_2 (by decide) ?_
  refine lv_istore_n (lv' := [(2, .int 0), (1, .int 0), (0, .ref a)]) hx hb dX4_total_3 rfl hl (by decide) rfl (fun ls hl => ?_)
  have loop : ∀ (n k : Nat), k + n = 12 → ∀ (H : Heap) (locs : List Loc), Wd E (hB (wAr E a 12 f)) s (wAr E a 12 f) H locs → ∀ (ls : Array Slot), lv_has ls 3 [(2, .int (nI k)), (1, .int (fX4_totalN f k)), (0, .ref a)] → W p l e { frames := 0, cells := 0, slots := 0, locals := 0 } s m (([.ref a] : List Value)).toArray below meth c H locs 0 0 (MQ below (QI E (wAr E a 12 f) (fX4_total f) (wAr E a 12 f)) (([.ref a] : List Value)).toArray s 0 0 (hB (wAr E a 12 f))) (F0 m 4 ls []) := by
    intro n
    induction n with
    | zero =>
      intro k hk_k H locs w ls hl
      obtain rfl : k = 12 := by omega
      refine lv_iload_n hx hb dX4_total_4 rfl (lv_at hl 0 rfl) ?_
      refine lv_aload_n hx hb dX4_total_5 rfl (lv_at hl 2 rfl) ?_
      refine r_alen X w 0 rfl dX4_total_6 ?_
      refine lv_icmp_ge (tgt := 22) hx hb dX4_total_7 (by decide) (fun _ => ?_) (fun h => absurd (by decide : Int32.ofNat 12 ≤ nI 12) h)
      refine lv_iload_n hx hb dX4_total_22 rfl (lv_at hl 1 rfl) ?_
      have hq : fX4_total f = (fX4_totalN f 12) := rfl
      rw [hq]
      exact r_iret X w hr rfl dX4_total_23
    | succ n ih =>
      intro k hk_k H locs w ls hl
      have hkN : k < 12 := by omega
      refine lv_iload_n hx hb dX4_total_4 rfl (lv_at hl 0 rfl) ?_
      refine lv_aload_n hx hb dX4_total_5 rfl (lv_at hl 2 rfl) ?_
      refine r_alen X w 0 rfl dX4_total_6 ?_
      refine lv_icmp_ge (tgt := 22) hx hb dX4_total_7 (by decide) (fun h => absurd h (nI_ge (b := 12) hkN (by decide))) (fun _ => ?_)
      refine lv_iload_n hx hb dX4_total_10 rfl (lv_at hl 1 rfl) ?_
      refine lv_aload_n hx hb dX4_total_11 rfl (lv_at hl 2 rfl) ?_
      refine lv_iload_n hx hb dX4_total_12 rfl (lv_at hl 0 rfl) ?_
      refine r_iald X w 0 rfl (vp_in_nI hkN (by decide)) dX4_total_13 ?_
      refine lv_iadd hx hb dX4_total_14 ?_
      refine lv_istore_n (lv' := [(1, .int ((fX4_totalN f k) + (f (nI k).toNatClampNeg))), (2, .int (nI k)), (0, .ref a)]) hx hb dX4_total_15 rfl hl (by decide) rfl (fun ls hl => ?_)
      refine lv_iinc (v := (nI k) + 1) (lv' := [(2, .int ((nI k) + 1)), (1, .int ((fX4_totalN f k) + (f (nI k).toNatClampNeg))), (0, .ref a)]) hx hb dX4_total_16 hl (k := 1) rfl (by first | rfl | decide) (by decide) rfl (fun ls hl => ?_)
      refine lv_goto (tgt := 4) hx hb dX4_total_19 (by decide) ?_
      have e0 : nI k + 1 = nI (k + 1) := nI_1 k
      rw [e0] at hl
      have e1 : fX4_totalN f k + f (nI k).toNatClampNeg = fX4_totalN f (k + 1) := rfl
      rw [e1] at hl
      exact ih (k + 1) (by omega) _ _ w ls (lv_sub hl [0, 1, 2] rfl)
  exact loop 12 0 (by omega) _ _ w ls (lv_sub hl [0, 1, 2] rfl)
def fX4_hasBall (σ : N2) (bl : Int32) : Int32 := if (fX4_isBallNumber bl) = 0 then ((0)) else (if (σ 0 bl.toNatClampNeg) = (-5) then ((0)) else ((1)))
theorem dX4_hasBall_0 : decode cX4_hasBall 0 = .ok (.iload_n 1, 1) := by decide +kernel
theorem dX4_hasBall_1 : decode cX4_hasBall 1 = .ok (.invokestatic 70, 3) := by decide +kernel
theorem dX4_hasBall_4 : decode cX4_hasBall 4 = .ok (.ifCond .eq 18, 3) := by decide +kernel
theorem dX4_hasBall_7 : decode cX4_hasBall 7 = .ok (.aload_n 0, 1) := by decide +kernel
theorem dX4_hasBall_8 : decode cX4_hasBall 8 = .ok (.getfield 9, 3) := by decide +kernel
theorem dX4_hasBall_11 : decode cX4_hasBall 11 = .ok (.iload_n 1, 1) := by decide +kernel
theorem dX4_hasBall_12 : decode cX4_hasBall 12 = .ok (.iaload, 1) := by decide +kernel
theorem dX4_hasBall_13 : decode cX4_hasBall 13 = .ok (.bipush (-5), 2) := by decide +kernel
theorem dX4_hasBall_15 : decode cX4_hasBall 15 = .ok (.if_icmp .eq 7, 3) := by decide +kernel
theorem dX4_hasBall_18 : decode cX4_hasBall 18 = .ok (.iconst 1, 1) := by decide +kernel
theorem dX4_hasBall_19 : decode cX4_hasBall 19 = .ok (.goto 4, 3) := by decide +kernel
theorem dX4_hasBall_22 : decode cX4_hasBall 22 = .ok (.iconst 0, 1) := by decide +kernel
theorem dX4_hasBall_23 : decode cX4_hasBall 23 = .ok (.ireturn, 1) := by decide +kernel
theorem ck_X4_70 : CkS RX4 70 yX4_isBallNumber cX4_isBallNumber 1 (some .boolean) 1 := ⟨wm_X4_70, wst_yX4_isBallNumber, wi_X4, wc_yX4_isBallNumber, by decide +kernel⟩
set_option maxHeartbeats 4000000 in
set_option maxRecDepth 100000 in
theorem kX4_hasBall (l : Launch) (E : Ev) (a : Nat → Nat) (σ : N2) (bl : Int32) : KQ l yX4_hasBall cX4_hasBall 2 (some .boolean) 1 20 E [.ref (a 0), .int bl] (wSt E a σ) (QI E (wSt E a σ) (fX4_hasBall σ bl) (wSt E a σ)) := by
  refine KQ.mk RX4 rfl (by decide +kernel) (Nat.le_of_ble_eq_true rfl) ?_
  intro p e s m below meth c ls X hr w hl
  have hx := X.1
  have hb := X.2.1
  have hl : lv_has ls 2 [(0, .ref (a 0)), (1, .int bl)] := hl
  refine lv_iload_n hx hb dX4_hasBall_0 rfl (lv_at hl 1 rfl) ?_
  refine r_ci w (r_runS (As := [.int bl]) (rest := []) X w (kX4_isBallNumber l E bl ) ck_X4_70 ⟨Nat.le_of_ble_eq_true rfl, Nat.le_of_ble_eq_true rfl⟩ [] rfl (by decide +kernel) hl.1 (Nat.le_of_ble_eq_true rfl) rfl dX4_hasBall_1 ⟨Nat.le_of_ble_eq_true rfl, Nat.le_of_ble_eq_true rfl⟩) (wSt E a σ) [] rfl (by decide +kernel) rfl rfl (fun H locs w => ?_)
  refine lv_if_eq (tgt := 22) hx hb dX4_hasBall_4 (by decide) (fun c4_1 => ?_) (fun c4_1 => ?_)
  · refine lv_iconst (v := 0) hx hb dX4_hasBall_22 (by decide) ?_
    have hq : fX4_hasBall σ bl = (0) := by simp only [fX4_hasBall, if_pos c4_1]
    rw [hq]
    exact r_zret X w hr (Or.inl rfl) rfl dX4_hasBall_23
  · refine lv_aload_n hx hb dX4_hasBall_7 rfl (lv_at hl 0 rfl) ?_
    refine r_get X w CL4 0 (by decide) wf_X4_9 0 rfl rfl dX4_hasBall_8 ?_
    refine lv_iload_n hx hb dX4_hasBall_11 rfl (lv_at hl 1 rfl) ?_
    refine r_iald X w 1 rfl (in_bn c4_1) dX4_hasBall_12 ?_
    refine lv_bipush (v := (-5)) hx hb dX4_hasBall_13 (by decide) ?_
    refine lv_icmp_eq (tgt := 22) hx hb dX4_hasBall_15 (by decide) (fun c15_2 => ?_) (fun c15_2 => ?_)
    · refine lv_iconst (v := 0) hx hb dX4_hasBall_22 (by decide) ?_
      have hq : fX4_hasBall σ bl = (0) := by simp only [fX4_hasBall, if_neg c4_1, if_pos c15_2]
      rw [hq]
      exact r_zret X w hr (Or.inl rfl) rfl dX4_hasBall_23
    · refine lv_iconst (v := 1) hx hb dX4_hasBall_18 (by decide) ?_
      refine lv_goto (tgt := 23) hx hb dX4_hasBall_19 (by decide) ?_
      have hq : fX4_hasBall σ bl = (1) := by simp only [fX4_hasBall, if_neg c4_1, if_neg c15_2]
      rw [hq]
      exact r_zret X w hr (Or.inr rfl) rfl dX4_hasBall_23
theorem zX4_hasBall (σ : N2) (bl : Int32) : fX4_hasBall σ bl = 0 ∨ fX4_hasBall σ bl = 1 := by
  unfold fX4_hasBall
  repeat' split
  all_goals first | exact Or.inl rfl | exact Or.inr rfl | (simp; done) | exact zX4_isBallNumber _
def fX4_cellOfBall (σ : N2) (bl : Int32) : Int32 := if (fX4_isBallNumber bl) = 0 then (((-5))) else ((σ 0 bl.toNatClampNeg))
theorem dX4_cellOfBall_0 : decode cX4_cellOfBall 0 = .ok (.iload_n 1, 1) := by decide +kernel
theorem dX4_cellOfBall_1 : decode cX4_cellOfBall 1 = .ok (.invokestatic 70, 3) := by decide +kernel
theorem dX4_cellOfBall_4 : decode cX4_cellOfBall 4 = .ok (.ifCond .eq 12, 3) := by decide +kernel
theorem dX4_cellOfBall_7 : decode cX4_cellOfBall 7 = .ok (.aload_n 0, 1) := by decide +kernel
theorem dX4_cellOfBall_8 : decode cX4_cellOfBall 8 = .ok (.getfield 9, 3) := by decide +kernel
theorem dX4_cellOfBall_11 : decode cX4_cellOfBall 11 = .ok (.iload_n 1, 1) := by decide +kernel
theorem dX4_cellOfBall_12 : decode cX4_cellOfBall 12 = .ok (.iaload, 1) := by decide +kernel
theorem dX4_cellOfBall_13 : decode cX4_cellOfBall 13 = .ok (.goto 5, 3) := by decide +kernel
theorem dX4_cellOfBall_16 : decode cX4_cellOfBall 16 = .ok (.bipush (-5), 2) := by decide +kernel
theorem dX4_cellOfBall_18 : decode cX4_cellOfBall 18 = .ok (.ireturn, 1) := by decide +kernel
set_option maxHeartbeats 4000000 in
set_option maxRecDepth 100000 in
theorem kX4_cellOfBall (l : Launch) (E : Ev) (a : Nat → Nat) (σ : N2) (bl : Int32) : KQ l yX4_cellOfBall cX4_cellOfBall 2 (some .int) 1 20 E [.ref (a 0), .int bl] (wSt E a σ) (QI E (wSt E a σ) (fX4_cellOfBall σ bl) (wSt E a σ)) := by
  refine KQ.mk RX4 rfl (by decide +kernel) (Nat.le_of_ble_eq_true rfl) ?_
  intro p e s m below meth c ls X hr w hl
  have hx := X.1
  have hb := X.2.1
  have hl : lv_has ls 2 [(0, .ref (a 0)), (1, .int bl)] := hl
  refine lv_iload_n hx hb dX4_cellOfBall_0 rfl (lv_at hl 1 rfl) ?_
  refine r_ci w (r_runS (As := [.int bl]) (rest := []) X w (kX4_isBallNumber l E bl ) ck_X4_70 ⟨Nat.le_of_ble_eq_true rfl, Nat.le_of_ble_eq_true rfl⟩ [] rfl (by decide +kernel) hl.1 (Nat.le_of_ble_eq_true rfl) rfl dX4_cellOfBall_1 ⟨Nat.le_of_ble_eq_true rfl, Nat.le_of_ble_eq_true rfl⟩) (wSt E a σ) [] rfl (by decide +kernel) rfl rfl (fun H locs w => ?_)
  refine lv_if_eq (tgt := 16) hx hb dX4_cellOfBall_4 (by decide) (fun c4_1 => ?_) (fun c4_1 => ?_)
  · refine lv_bipush (v := (-5)) hx hb dX4_cellOfBall_16 (by decide) ?_
    have hq : fX4_cellOfBall σ bl = ((-5)) := by simp only [fX4_cellOfBall, if_pos c4_1]
    rw [hq]
    exact r_iret X w hr rfl dX4_cellOfBall_18
  · refine lv_aload_n hx hb dX4_cellOfBall_7 rfl (lv_at hl 0 rfl) ?_
    refine r_get X w CL4 0 (by decide) wf_X4_9 0 rfl rfl dX4_cellOfBall_8 ?_
    refine lv_iload_n hx hb dX4_cellOfBall_11 rfl (lv_at hl 1 rfl) ?_
    refine r_iald X w 1 rfl (in_bn c4_1) dX4_cellOfBall_12 ?_
    refine lv_goto (tgt := 18) hx hb dX4_cellOfBall_13 (by decide) ?_
    have hq : fX4_cellOfBall σ bl = (σ 0 bl.toNatClampNeg) := by simp only [fX4_cellOfBall, if_neg c4_1]
    rw [hq]
    exact r_iret X w hr rfl dX4_cellOfBall_18
def fX4_valueOfBall (σ : N2) (bl : Int32) : Int32 := if (fX4_isBallNumber bl) = 0 then ((0)) else ((σ 1 bl.toNatClampNeg))
theorem dX4_valueOfBall_0 : decode cX4_valueOfBall 0 = .ok (.iload_n 1, 1) := by decide +kernel
theorem dX4_valueOfBall_1 : decode cX4_valueOfBall 1 = .ok (.invokestatic 70, 3) := by decide +kernel
theorem dX4_valueOfBall_4 : decode cX4_valueOfBall 4 = .ok (.ifCond .eq 12, 3) := by decide +kernel
theorem dX4_valueOfBall_7 : decode cX4_valueOfBall 7 = .ok (.aload_n 0, 1) := by decide +kernel
theorem dX4_valueOfBall_8 : decode cX4_valueOfBall 8 = .ok (.getfield 15, 3) := by decide +kernel
theorem dX4_valueOfBall_11 : decode cX4_valueOfBall 11 = .ok (.iload_n 1, 1) := by decide +kernel
theorem dX4_valueOfBall_12 : decode cX4_valueOfBall 12 = .ok (.iaload, 1) := by decide +kernel
theorem dX4_valueOfBall_13 : decode cX4_valueOfBall 13 = .ok (.goto 4, 3) := by decide +kernel
theorem dX4_valueOfBall_16 : decode cX4_valueOfBall 16 = .ok (.iconst 0, 1) := by decide +kernel
theorem dX4_valueOfBall_17 : decode cX4_valueOfBall 17 = .ok (.ireturn, 1) := by decide +kernel
set_option maxHeartbeats 4000000 in
set_option maxRecDepth 100000 in
theorem kX4_valueOfBall (l : Launch) (E : Ev) (a : Nat → Nat) (σ : N2) (bl : Int32) : KQ l yX4_valueOfBall cX4_valueOfBall 2 (some .int) 1 20 E [.ref (a 0), .int bl] (wSt E a σ) (QI E (wSt E a σ) (fX4_valueOfBall σ bl) (wSt E a σ)) := by
  refine KQ.mk RX4 rfl (by decide +kernel) (Nat.le_of_ble_eq_true rfl) ?_
  intro p e s m below meth c ls X hr w hl
  have hx := X.1
  have hb := X.2.1
  have hl : lv_has ls 2 [(0, .ref (a 0)), (1, .int bl)] := hl
  refine lv_iload_n hx hb dX4_valueOfBall_0 rfl (lv_at hl 1 rfl) ?_
  refine r_ci w (r_runS (As := [.int bl]) (rest := []) X w (kX4_isBallNumber l E bl ) ck_X4_70 ⟨Nat.le_of_ble_eq_true rfl, Nat.le_of_ble_eq_true rfl⟩ [] rfl (by decide +kernel) hl.1 (Nat.le_of_ble_eq_true rfl) rfl dX4_valueOfBall_1 ⟨Nat.le_of_ble_eq_true rfl, Nat.le_of_ble_eq_true rfl⟩) (wSt E a σ) [] rfl (by decide +kernel) rfl rfl (fun H locs w => ?_)
  refine lv_if_eq (tgt := 16) hx hb dX4_valueOfBall_4 (by decide) (fun c4_1 => ?_) (fun c4_1 => ?_)
  · refine lv_iconst (v := 0) hx hb dX4_valueOfBall_16 (by decide) ?_
    have hq : fX4_valueOfBall σ bl = (0) := by simp only [fX4_valueOfBall, if_pos c4_1]
    rw [hq]
    exact r_iret X w hr rfl dX4_valueOfBall_17
  · refine lv_aload_n hx hb dX4_valueOfBall_7 rfl (lv_at hl 0 rfl) ?_
    refine r_get X w CL4 1 (by decide) wf_X4_15 0 rfl rfl dX4_valueOfBall_8 ?_
    refine lv_iload_n hx hb dX4_valueOfBall_11 rfl (lv_at hl 1 rfl) ?_
    refine r_iald X w 2 rfl (in_bn c4_1) dX4_valueOfBall_12 ?_
    refine lv_goto (tgt := 17) hx hb dX4_valueOfBall_13 (by decide) ?_
    have hq : fX4_valueOfBall σ bl = (σ 1 bl.toNatClampNeg) := by simp only [fX4_valueOfBall, if_neg c4_1]
    rw [hq]
    exact r_iret X w hr rfl dX4_valueOfBall_17
def fX4_ballOnCell (σ : N2) (ce : Int32) : Int32 := if (fX1_isCell ce) = 0 then (((-5))) else ((σ 5 ce.toNatClampNeg))
theorem dX4_ballOnCell_0 : decode cX4_ballOnCell 0 = .ok (.iload_n 1, 1) := by decide +kernel
theorem dX4_ballOnCell_1 : decode cX4_ballOnCell 1 = .ok (.invokestatic 74, 3) := by decide +kernel
theorem dX4_ballOnCell_4 : decode cX4_ballOnCell 4 = .ok (.ifCond .eq 12, 3) := by decide +kernel
theorem dX4_ballOnCell_7 : decode cX4_ballOnCell 7 = .ok (.aload_n 0, 1) := by decide +kernel
theorem dX4_ballOnCell_8 : decode cX4_ballOnCell 8 = .ok (.getfield 27, 3) := by decide +kernel
theorem dX4_ballOnCell_11 : decode cX4_ballOnCell 11 = .ok (.iload_n 1, 1) := by decide +kernel
theorem dX4_ballOnCell_12 : decode cX4_ballOnCell 12 = .ok (.iaload, 1) := by decide +kernel
theorem dX4_ballOnCell_13 : decode cX4_ballOnCell 13 = .ok (.goto 5, 3) := by decide +kernel
theorem dX4_ballOnCell_16 : decode cX4_ballOnCell 16 = .ok (.bipush (-5), 2) := by decide +kernel
theorem dX4_ballOnCell_18 : decode cX4_ballOnCell 18 = .ok (.ireturn, 1) := by decide +kernel
theorem ck_X4_74 : CkS RX4 74 yX1_isCell cX1_isCell 1 (some .boolean) 1 := ⟨wm_X4_74, wst_yX1_isCell, wi_X1, wc_yX1_isCell, by decide +kernel⟩
set_option maxHeartbeats 4000000 in
set_option maxRecDepth 100000 in
theorem kX4_ballOnCell (l : Launch) (E : Ev) (a : Nat → Nat) (σ : N2) (ce : Int32) : KQ l yX4_ballOnCell cX4_ballOnCell 2 (some .int) 1 20 E [.ref (a 0), .int ce] (wSt E a σ) (QI E (wSt E a σ) (fX4_ballOnCell σ ce) (wSt E a σ)) := by
  refine KQ.mk RX4 rfl (by decide +kernel) (Nat.le_of_ble_eq_true rfl) ?_
  intro p e s m below meth c ls X hr w hl
  have hx := X.1
  have hb := X.2.1
  have hl : lv_has ls 2 [(0, .ref (a 0)), (1, .int ce)] := hl
  refine lv_iload_n hx hb dX4_ballOnCell_0 rfl (lv_at hl 1 rfl) ?_
  refine r_ci w (r_runS (As := [.int ce]) (rest := []) X w (kX1_isCell l E ce ) ck_X4_74 ⟨Nat.le_of_ble_eq_true rfl, Nat.le_of_ble_eq_true rfl⟩ [] rfl (by decide +kernel) hl.1 (Nat.le_of_ble_eq_true rfl) rfl dX4_ballOnCell_1 ⟨Nat.le_of_ble_eq_true rfl, Nat.le_of_ble_eq_true rfl⟩) (wSt E a σ) [] rfl (by decide +kernel) rfl rfl (fun H locs w => ?_)
  refine lv_if_eq (tgt := 16) hx hb dX4_ballOnCell_4 (by decide) (fun c4_1 => ?_) (fun c4_1 => ?_)
  · refine lv_bipush (v := (-5)) hx hb dX4_ballOnCell_16 (by decide) ?_
    have hq : fX4_ballOnCell σ ce = ((-5)) := by simp only [fX4_ballOnCell, if_pos c4_1]
    rw [hq]
    exact r_iret X w hr rfl dX4_ballOnCell_18
  · refine lv_aload_n hx hb dX4_ballOnCell_7 rfl (lv_at hl 0 rfl) ?_
    refine r_get X w CL4 5 (by decide) wf_X4_27 0 rfl rfl dX4_ballOnCell_8 ?_
    refine lv_iload_n hx hb dX4_ballOnCell_11 rfl (lv_at hl 1 rfl) ?_
    refine r_iald X w 6 rfl (in_cell c4_1) dX4_ballOnCell_12 ?_
    refine lv_goto (tgt := 18) hx hb dX4_ballOnCell_13 (by decide) ?_
    have hq : fX4_ballOnCell σ ce = (σ 5 ce.toNatClampNeg) := by simp only [fX4_ballOnCell, if_neg c4_1]
    rw [hq]
    exact r_iret X w hr rfl dX4_ballOnCell_18
def fX4_feltN (σ : N2) : Nat → Int32
  | 0 => 0
  | k + 1 => if σ 0 (nI k).toNatClampNeg = (-5) then fX4_feltN σ k else fX4_feltN σ k + 1
def fX4_ballsOnFelt (σ : N2) : Int32 := fX4_feltN σ 12
theorem dX4_ballsOnFelt_0 : decode cX4_ballsOnFelt 0 = .ok (.iconst 0, 1) := by decide +kernel
theorem dX4_ballsOnFelt_1 : decode cX4_ballsOnFelt 1 = .ok (.istore_n 1, 1) := by decide +kernel
theorem dX4_ballsOnFelt_2 : decode cX4_ballsOnFelt 2 = .ok (.iconst 0, 1) := by decide +kernel
theorem dX4_ballsOnFelt_3 : decode cX4_ballsOnFelt 3 = .ok (.istore_n 2, 1) := by decide +kernel
theorem dX4_ballsOnFelt_4 : decode cX4_ballsOnFelt 4 = .ok (.iload_n 2, 1) := by decide +kernel
theorem dX4_ballsOnFelt_5 : decode cX4_ballsOnFelt 5 = .ok (.bipush 12, 2) := by decide +kernel
theorem dX4_ballsOnFelt_7 : decode cX4_ballsOnFelt 7 = .ok (.if_icmp .ge 23, 3) := by decide +kernel
theorem dX4_ballsOnFelt_10 : decode cX4_ballsOnFelt 10 = .ok (.aload_n 0, 1) := by decide +kernel
theorem dX4_ballsOnFelt_11 : decode cX4_ballsOnFelt 11 = .ok (.getfield 9, 3) := by decide +kernel
theorem dX4_ballsOnFelt_14 : decode cX4_ballsOnFelt 14 = .ok (.iload_n 2, 1) := by decide +kernel
theorem dX4_ballsOnFelt_15 : decode cX4_ballsOnFelt 15 = .ok (.iaload, 1) := by decide +kernel
theorem dX4_ballsOnFelt_16 : decode cX4_ballsOnFelt 16 = .ok (.bipush (-5), 2) := by decide +kernel
theorem dX4_ballsOnFelt_18 : decode cX4_ballsOnFelt 18 = .ok (.if_icmp .eq 6, 3) := by decide +kernel
theorem dX4_ballsOnFelt_21 : decode cX4_ballsOnFelt 21 = .ok (.iinc 1 1, 3) := by decide +kernel
theorem dX4_ballsOnFelt_24 : decode cX4_ballsOnFelt 24 = .ok (.iinc 2 1, 3) := by decide +kernel
theorem dX4_ballsOnFelt_27 : decode cX4_ballsOnFelt 27 = .ok (.goto (-23), 3) := by decide +kernel
theorem dX4_ballsOnFelt_30 : decode cX4_ballsOnFelt 30 = .ok (.iload_n 1, 1) := by decide +kernel
theorem dX4_ballsOnFelt_31 : decode cX4_ballsOnFelt 31 = .ok (.ireturn, 1) := by decide +kernel
set_option maxHeartbeats 4000000 in
set_option maxRecDepth 100000 in
theorem kX4_ballsOnFelt (l : Launch) (E : Ev) (a : Nat → Nat) (σ : N2) : KQ l yX4_ballsOnFelt cX4_ballsOnFelt 3 (some .int) 0 0 E [.ref (a 0)] (wSt E a σ) (QI E (wSt E a σ) (fX4_ballsOnFelt σ) (wSt E a σ)) := by
  refine KQ.mk RX4 rfl (by decide +kernel) (Nat.le_of_ble_eq_true rfl) ?_
  intro p e s m below meth c ls X hr w hl
  have hx := X.1
  have hb := X.2.1
  have hl : lv_has ls 3 [(0, .ref (a 0))] := hl
  refine lv_iconst (v := 0) hx hb dX4_ballsOnFelt_0 (by decide) ?_
  refine lv_istore_n (lv' := [(1, .int 0), (0, .ref (a 0))]) hx hb dX4_ballsOnFelt_1 rfl hl (by decide) rfl (fun ls hl => ?_)
  refine lv_iconst (v := 0) hx hb dX4_ballsOnFelt_2 (by decide) ?_
  refine lv_istore_n (lv' := [(2, .int 0), (1, .int 0), (0, .ref (a 0))]) hx hb dX4_ballsOnFelt_3 rfl hl (by decide) rfl (fun ls hl => ?_)
  have loop : ∀ (n k : Nat), k + n = 12 → ∀ (H : Heap) (locs : List Loc), Wd E (hB (wSt E a σ)) s (wSt E a σ) H locs → ∀ (ls : Array Slot), lv_has ls 3 [(2, .int (nI k)), (1, .int (fX4_feltN σ k)), (0, .ref (a 0))] → W p l e { frames := 0, cells := 0, slots := 0, locals := 0 } s m (([.ref (a 0)] : List Value)).toArray below meth c H locs 0 0 (MQ below (QI E (wSt E a σ) (fX4_ballsOnFelt σ) (wSt E a σ)) (([.ref (a 0)] : List Value)).toArray s 0 0 (hB (wSt E a σ))) (F0 m 4 ls []) := by
    intro n
    induction n with
    | zero =>
      intro k hk_k H locs w ls hl
      obtain rfl : k = 12 := by omega
      refine lv_iload_n hx hb dX4_ballsOnFelt_4 rfl (lv_at hl 0 rfl) ?_
      refine lv_bipush (v := 12) hx hb dX4_ballsOnFelt_5 (by decide) ?_
      refine lv_icmp_ge (tgt := 30) hx hb dX4_ballsOnFelt_7 (by decide) (fun _ => ?_) (fun h => absurd (by decide : (12 : Int32) ≤ nI 12) h)
      refine lv_iload_n hx hb dX4_ballsOnFelt_30 rfl (lv_at hl 1 rfl) ?_
      have hq : fX4_ballsOnFelt σ = (fX4_feltN σ 12) := rfl
      rw [hq]
      exact r_iret X w hr rfl dX4_ballsOnFelt_31
    | succ n ih =>
      intro k hk_k H locs w ls hl
      have hkN : k < 12 := by omega
      refine lv_iload_n hx hb dX4_ballsOnFelt_4 rfl (lv_at hl 0 rfl) ?_
      refine lv_bipush (v := 12) hx hb dX4_ballsOnFelt_5 (by decide) ?_
      refine lv_icmp_ge (tgt := 30) hx hb dX4_ballsOnFelt_7 (by decide) (fun h => absurd h (nI_ge (b := 12) hkN (by decide))) (fun _ => ?_)
      refine lv_aload_n hx hb dX4_ballsOnFelt_10 rfl (lv_at hl 2 rfl) ?_
      refine r_get X w CL4 0 (by decide) wf_X4_9 0 rfl rfl dX4_ballsOnFelt_11 ?_
      refine lv_iload_n hx hb dX4_ballsOnFelt_14 rfl (lv_at hl 0 rfl) ?_
      refine r_iald X w 1 rfl (vp_in_nI hkN (by decide)) dX4_ballsOnFelt_15 ?_
      refine lv_bipush (v := (-5)) hx hb dX4_ballsOnFelt_16 (by decide) ?_
      refine lv_icmp_eq (tgt := 24) hx hb dX4_ballsOnFelt_18 (by decide) (fun c18_3 => ?_) (fun c18_3 => ?_)
      · refine lv_iinc (v := (nI k) + 1) (lv' := [(2, .int ((nI k) + 1)), (1, .int (fX4_feltN σ k)), (0, .ref (a 0))]) hx hb dX4_ballsOnFelt_24 hl (k := 0) rfl (by first | rfl | decide) (by decide) rfl (fun ls hl => ?_)
        refine lv_goto (tgt := 4) hx hb dX4_ballsOnFelt_27 (by decide) ?_
        have e0 : nI k + 1 = nI (k + 1) := nI_1 k
        rw [e0] at hl
        have e1 : fX4_feltN σ k = fX4_feltN σ (k + 1) := by rw [fX4_feltN, if_pos c18_3]
        rw [e1] at hl
        exact ih (k + 1) (by omega) _ _ w ls (lv_sub hl [0, 1, 2] rfl)
      · refine lv_iinc (v := (fX4_feltN σ k) + 1) (lv' := [(1, .int ((fX4_feltN σ k) + 1)), (2, .int (nI k)), (0, .ref (a 0))]) hx hb dX4_ballsOnFelt_21 hl (k := 1) rfl (by first | rfl | decide) (by decide) rfl (fun ls hl => ?_)
        refine lv_iinc (v := (nI k) + 1) (lv' := [(2, .int ((nI k) + 1)), (1, .int ((fX4_feltN σ k) + 1)), (0, .ref (a 0))]) hx hb dX4_ballsOnFelt_24 hl (k := 1) rfl (by first | rfl | decide) (by decide) rfl (fun ls hl => ?_)
        refine lv_goto (tgt := 4) hx hb dX4_ballsOnFelt_27 (by decide) ?_
        have e0 : nI k + 1 = nI (k + 1) := nI_1 k
        rw [e0] at hl
        have e1 : (fX4_feltN σ k) + 1 = fX4_feltN σ (k + 1) := by rw [fX4_feltN, if_neg c18_3]
        rw [e1] at hl
        exact ih (k + 1) (by omega) _ _ w ls (lv_sub hl [0, 1, 2] rfl)
  exact loop 12 0 (by omega) _ _ w ls (lv_sub hl [0, 1, 2] rfl)
def fX4_isOpenPot (σ : N2) (ce : Int32) : Int32 := if (fX1_cornerOf ce) = (-5) then ((0)) else (if (((σ 8 1) >>> ((fX1_cornerOf ce) &&& 31)) &&& 1) = 1 then ((1)) else ((0)))
theorem dX4_isOpenPot_0 : decode cX4_isOpenPot 0 = .ok (.iload_n 1, 1) := by decide +kernel
theorem dX4_isOpenPot_1 : decode cX4_isOpenPot 1 = .ok (.invokestatic 79, 3) := by decide +kernel
theorem dX4_isOpenPot_4 : decode cX4_isOpenPot 4 = .ok (.istore_n 2, 1) := by decide +kernel
theorem dX4_isOpenPot_5 : decode cX4_isOpenPot 5 = .ok (.iload_n 2, 1) := by decide +kernel
theorem dX4_isOpenPot_6 : decode cX4_isOpenPot 6 = .ok (.bipush (-5), 2) := by decide +kernel
theorem dX4_isOpenPot_8 : decode cX4_isOpenPot 8 = .ok (.if_icmp .eq 19, 3) := by decide +kernel
theorem dX4_isOpenPot_11 : decode cX4_isOpenPot 11 = .ok (.aload_n 0, 1) := by decide +kernel
theorem dX4_isOpenPot_12 : decode cX4_isOpenPot 12 = .ok (.getfield 51, 3) := by decide +kernel
theorem dX4_isOpenPot_15 : decode cX4_isOpenPot 15 = .ok (.iload_n 2, 1) := by decide +kernel
theorem dX4_isOpenPot_16 : decode cX4_isOpenPot 16 = .ok (.ishr, 1) := by decide +kernel
theorem dX4_isOpenPot_17 : decode cX4_isOpenPot 17 = .ok (.iconst 1, 1) := by decide +kernel
theorem dX4_isOpenPot_18 : decode cX4_isOpenPot 18 = .ok (.iand, 1) := by decide +kernel
theorem dX4_isOpenPot_19 : decode cX4_isOpenPot 19 = .ok (.iconst 1, 1) := by decide +kernel
theorem dX4_isOpenPot_20 : decode cX4_isOpenPot 20 = .ok (.if_icmp .ne 7, 3) := by decide +kernel
theorem dX4_isOpenPot_23 : decode cX4_isOpenPot 23 = .ok (.iconst 1, 1) := by decide +kernel
theorem dX4_isOpenPot_24 : decode cX4_isOpenPot 24 = .ok (.goto 4, 3) := by decide +kernel
theorem dX4_isOpenPot_27 : decode cX4_isOpenPot 27 = .ok (.iconst 0, 1) := by decide +kernel
theorem dX4_isOpenPot_28 : decode cX4_isOpenPot 28 = .ok (.ireturn, 1) := by decide +kernel
theorem ck_X4_79 : CkS RX4 79 yX1_cornerOf cX1_cornerOf 2 (some .int) 1 := ⟨wm_X4_79, wst_yX1_cornerOf, wi_X1, wc_yX1_cornerOf, by decide +kernel⟩
set_option maxHeartbeats 4000000 in
set_option maxRecDepth 100000 in
theorem kX4_isOpenPot (l : Launch) (E : Ev) (a : Nat → Nat) (σ : N2) (ce : Int32) : KQ l yX4_isOpenPot cX4_isOpenPot 3 (some .boolean) 1 21 E [.ref (a 0), .int ce] (wSt E a σ) (QI E (wSt E a σ) (fX4_isOpenPot σ ce) (wSt E a σ)) := by
  refine KQ.mk RX4 rfl (by decide +kernel) (Nat.le_of_ble_eq_true rfl) ?_
  intro p e s m below meth c ls X hr w hl
  have hx := X.1
  have hb := X.2.1
  have hl : lv_has ls 3 [(0, .ref (a 0)), (1, .int ce)] := hl
  refine lv_iload_n hx hb dX4_isOpenPot_0 rfl (lv_at hl 1 rfl) ?_
  refine r_ci w (r_runS (As := [.int ce]) (rest := []) X w (kX1_cornerOf l E ce ) ck_X4_79 ⟨Nat.le_of_ble_eq_true rfl, Nat.le_of_ble_eq_true rfl⟩ [] rfl (by decide +kernel) hl.1 (Nat.le_of_ble_eq_true rfl) rfl dX4_isOpenPot_1 ⟨Nat.le_of_ble_eq_true rfl, Nat.le_of_ble_eq_true rfl⟩) (wSt E a σ) [] rfl (by decide +kernel) rfl rfl (fun H locs w => ?_)
  refine lv_istore_n (lv' := [(2, .int (fX1_cornerOf ce)), (0, .ref (a 0)), (1, .int ce)]) hx hb dX4_isOpenPot_4 rfl hl (by decide) rfl (fun ls hl => ?_)
  refine lv_iload_n hx hb dX4_isOpenPot_5 rfl (lv_at hl 0 rfl) ?_
  refine lv_bipush (v := (-5)) hx hb dX4_isOpenPot_6 (by decide) ?_
  refine lv_icmp_eq (tgt := 27) hx hb dX4_isOpenPot_8 (by decide) (fun c8_1 => ?_) (fun c8_1 => ?_)
  · refine lv_iconst (v := 0) hx hb dX4_isOpenPot_27 (by decide) ?_
    have hq : fX4_isOpenPot σ ce = (0) := by simp only [fX4_isOpenPot, if_pos c8_1]
    rw [hq]
    exact r_zret X w hr (Or.inl rfl) rfl dX4_isOpenPot_28
  · refine lv_aload_n hx hb dX4_isOpenPot_11 rfl (lv_at hl 1 rfl) ?_
    refine r_get X w CL4 9 (by decide) wf_X4_51 0 rfl rfl dX4_isOpenPot_12 ?_
    refine lv_iload_n hx hb dX4_isOpenPot_15 rfl (lv_at hl 0 rfl) ?_
    refine lv_ishr hx hb dX4_isOpenPot_16 ?_
    refine lv_iconst (v := 1) hx hb dX4_isOpenPot_17 (by decide) ?_
    refine lv_iand hx hb dX4_isOpenPot_18 ?_
    refine lv_iconst (v := 1) hx hb dX4_isOpenPot_19 (by decide) ?_
    refine lv_icmp_ne (tgt := 27) hx hb dX4_isOpenPot_20 (by decide) (fun c20_2 => ?_) (fun c20_2 => ?_)
    · refine lv_iconst (v := 0) hx hb dX4_isOpenPot_27 (by decide) ?_
      have hq : fX4_isOpenPot σ ce = (0) := by simp only [fX4_isOpenPot, if_neg c8_1, if_neg c20_2]
      rw [hq]
      exact r_zret X w hr (Or.inl rfl) rfl dX4_isOpenPot_28
    · refine lv_iconst (v := 1) hx hb dX4_isOpenPot_23 (by decide) ?_
      refine lv_goto (tgt := 28) hx hb dX4_isOpenPot_24 (by decide) ?_
      have hq : fX4_isOpenPot σ ce = (1) := by simp only [fX4_isOpenPot, if_neg c8_1, if_pos c20_2]
      rw [hq]
      exact r_zret X w hr (Or.inr rfl) rfl dX4_isOpenPot_28
theorem zX4_isOpenPot (σ : N2) (ce : Int32) : fX4_isOpenPot σ ce = 0 ∨ fX4_isOpenPot σ ce = 1 := by
  unfold fX4_isOpenPot
  repeat' split
  all_goals first | exact Or.inl rfl | exact Or.inr rfl | (simp; done) | exact Or.inl rfl
def fX4_refusalToAdd (σ : N2) (ce : Int32) : Int32 := if (fX4_ballOnCell σ ce) = (-5) then (if 12 ≤ (σ 8 0) then (((-3))) else (((-5)))) else (((-4)))
theorem dX4_refusalToAdd_0 : decode cX4_refusalToAdd 0 = .ok (.aload_n 0, 1) := by decide +kernel
theorem dX4_refusalToAdd_1 : decode cX4_refusalToAdd 1 = .ok (.iload_n 1, 1) := by decide +kernel
theorem dX4_refusalToAdd_2 : decode cX4_refusalToAdd 2 = .ok (.invokevirtual 83, 3) := by decide +kernel
theorem dX4_refusalToAdd_5 : decode cX4_refusalToAdd 5 = .ok (.bipush (-5), 2) := by decide +kernel
theorem dX4_refusalToAdd_7 : decode cX4_refusalToAdd 7 = .ok (.if_icmp .eq 6, 3) := by decide +kernel
theorem dX4_refusalToAdd_10 : decode cX4_refusalToAdd 10 = .ok (.bipush (-4), 2) := by decide +kernel
theorem dX4_refusalToAdd_12 : decode cX4_refusalToAdd 12 = .ok (.ireturn, 1) := by decide +kernel
theorem dX4_refusalToAdd_13 : decode cX4_refusalToAdd 13 = .ok (.aload_n 0, 1) := by decide +kernel
theorem dX4_refusalToAdd_14 : decode cX4_refusalToAdd 14 = .ok (.getfield 55, 3) := by decide +kernel
theorem dX4_refusalToAdd_17 : decode cX4_refusalToAdd 17 = .ok (.bipush 12, 2) := by decide +kernel
theorem dX4_refusalToAdd_19 : decode cX4_refusalToAdd 19 = .ok (.if_icmp .ge 8, 3) := by decide +kernel
theorem dX4_refusalToAdd_22 : decode cX4_refusalToAdd 22 = .ok (.bipush (-5), 2) := by decide +kernel
theorem dX4_refusalToAdd_24 : decode cX4_refusalToAdd 24 = .ok (.goto 5, 3) := by decide +kernel
theorem dX4_refusalToAdd_27 : decode cX4_refusalToAdd 27 = .ok (.bipush (-3), 2) := by decide +kernel
theorem dX4_refusalToAdd_29 : decode cX4_refusalToAdd 29 = .ok (.ireturn, 1) := by decide +kernel
theorem ck_X4_83 : CkV RX4 83 RX4 yX4_ballOnCell cX4_ballOnCell 2 (some .int) 1 := ⟨wm_X4_83, wim_yX4_ballOnCell, wse_yX4_ballOnCell, wi_X4, wc_yX4_ballOnCell, by decide +kernel⟩
theorem hc_1 {E : Ev} {a0 : Nat → Nat} {σ0 : N2} : ([0, 1, 2, 3, 4, 5, 6, 7, 8] : List Nat).map (fun i => (wSt E a0 σ0)[i]?) = (wSt E a0 σ0).map some := rfl
theorem ha_1 {E : Ev} {a0 : Nat → Nat} {σ0 : N2} {τ0_0 : N2} : (wSt E a0 τ0_0).map Prod.fst = (wSt E a0 σ0).map Prod.fst := rfl
theorem hw_1 {E : Ev} {a0 : Nat → Nat} {σ0 : N2} {τ0_0 : N2} : wput (wSt E a0 σ0) [0, 1, 2, 3, 4, 5, 6, 7, 8] (wSt E a0 τ0_0) = wSt E a0 τ0_0 := rfl
set_option maxHeartbeats 4000000 in
set_option maxRecDepth 100000 in
theorem kX4_refusalToAdd (l : Launch) (E : Ev) (a : Nat → Nat) (σ : N2) (ce : Int32) : KQ l yX4_refusalToAdd cX4_refusalToAdd 2 (some .int) 2 41 E [.ref (a 0), .int ce] (wSt E a σ) (QI E (wSt E a σ) (fX4_refusalToAdd σ ce) (wSt E a σ)) := by
  refine KQ.mk RX4 rfl (by decide +kernel) (Nat.le_of_ble_eq_true rfl) ?_
  intro p e s m below meth c ls X hr w hl
  have hx := X.1
  have hb := X.2.1
  have hl : lv_has ls 2 [(0, .ref (a 0)), (1, .int ce)] := hl
  refine lv_aload_n hx hb dX4_refusalToAdd_0 rfl (lv_at hl 0 rfl) ?_
  refine lv_iload_n hx hb dX4_refusalToAdd_1 rfl (lv_at hl 1 rfl) ?_
  refine r_ci w (r_runV (As := [.int ce]) (rest := []) X w (kX4_ballOnCell l E a σ ce ) ck_X4_83 ⟨Nat.le_of_ble_eq_true rfl, Nat.le_of_ble_eq_true rfl⟩ [0, 1, 2, 3, 4, 5, 6, 7, 8] (hc_1 (E := E)) (by decide +kernel) (k0 := 0) CL4 rfl hl.1 (Nat.le_of_ble_eq_true rfl) rfl dX4_refusalToAdd_2 ⟨Nat.le_of_ble_eq_true rfl, Nat.le_of_ble_eq_true rfl⟩) (wSt E a σ) [0, 1, 2, 3, 4, 5, 6, 7, 8] (hc_1 (E := E)) (by decide +kernel) (ha_1 (E := E)) (hw_1 (E := E)) (fun H locs w => ?_)
  refine lv_bipush (v := (-5)) hx hb dX4_refusalToAdd_5 (by decide) ?_
  refine lv_icmp_eq (tgt := 13) hx hb dX4_refusalToAdd_7 (by decide) (fun c7_1 => ?_) (fun c7_1 => ?_)
  · refine lv_aload_n hx hb dX4_refusalToAdd_13 rfl (lv_at hl 0 rfl) ?_
    refine r_get X w CL4 8 (by decide) wf_X4_55 0 rfl rfl dX4_refusalToAdd_14 ?_
    refine lv_bipush (v := 12) hx hb dX4_refusalToAdd_17 (by decide) ?_
    refine lv_icmp_ge (tgt := 27) hx hb dX4_refusalToAdd_19 (by decide) (fun c19_2 => ?_) (fun c19_2 => ?_)
    · refine lv_bipush (v := (-3)) hx hb dX4_refusalToAdd_27 (by decide) ?_
      have hq : fX4_refusalToAdd σ ce = ((-3)) := by simp only [fX4_refusalToAdd, if_pos c7_1, if_pos c19_2]
      rw [hq]
      exact r_iret X w hr rfl dX4_refusalToAdd_29
    · refine lv_bipush (v := (-5)) hx hb dX4_refusalToAdd_22 (by decide) ?_
      refine lv_goto (tgt := 29) hx hb dX4_refusalToAdd_24 (by decide) ?_
      have hq : fX4_refusalToAdd σ ce = ((-5)) := by simp only [fX4_refusalToAdd, if_pos c7_1, if_neg c19_2]
      rw [hq]
      exact r_iret X w hr rfl dX4_refusalToAdd_29
  · refine lv_bipush (v := (-4)) hx hb dX4_refusalToAdd_10 (by decide) ?_
    have hq : fX4_refusalToAdd σ ce = ((-4)) := by simp only [fX4_refusalToAdd, if_neg c7_1]
    rw [hq]
    exact r_iret X w hr rfl dX4_refusalToAdd_12
def fX4_lift (σ : N2) (bl : Int32) : N2 := if (fX4_isBallNumber bl) = 0 then ((σ)) else (if (fX1_isCell (σ 0 bl.toNatClampNeg)) = 0 then ((σ)) else ((u2 (u2 σ 5 (σ 0 bl.toNatClampNeg).toNatClampNeg (-5)) 0 bl.toNatClampNeg (-5))))
theorem dX4_lift_0 : decode cX4_lift 0 = .ok (.iload_n 1, 1) := by decide +kernel
theorem dX4_lift_1 : decode cX4_lift 1 = .ok (.invokestatic 70, 3) := by decide +kernel
theorem dX4_lift_4 : decode cX4_lift 4 = .ok (.ifCond .eq 36, 3) := by decide +kernel
theorem dX4_lift_7 : decode cX4_lift 7 = .ok (.aload_n 0, 1) := by decide +kernel
theorem dX4_lift_8 : decode cX4_lift 8 = .ok (.getfield 9, 3) := by decide +kernel
theorem dX4_lift_11 : decode cX4_lift 11 = .ok (.iload_n 1, 1) := by decide +kernel
theorem dX4_lift_12 : decode cX4_lift 12 = .ok (.iaload, 1) := by decide +kernel
theorem dX4_lift_13 : decode cX4_lift 13 = .ok (.invokestatic 74, 3) := by decide +kernel
theorem dX4_lift_16 : decode cX4_lift 16 = .ok (.ifCond .eq 24, 3) := by decide +kernel
theorem dX4_lift_19 : decode cX4_lift 19 = .ok (.aload_n 0, 1) := by decide +kernel
theorem dX4_lift_20 : decode cX4_lift 20 = .ok (.getfield 27, 3) := by decide +kernel
theorem dX4_lift_23 : decode cX4_lift 23 = .ok (.aload_n 0, 1) := by decide +kernel
theorem dX4_lift_24 : decode cX4_lift 24 = .ok (.getfield 9, 3) := by decide +kernel
theorem dX4_lift_27 : decode cX4_lift 27 = .ok (.iload_n 1, 1) := by decide +kernel
theorem dX4_lift_28 : decode cX4_lift 28 = .ok (.iaload, 1) := by decide +kernel
theorem dX4_lift_29 : decode cX4_lift 29 = .ok (.bipush (-5), 2) := by decide +kernel
theorem dX4_lift_31 : decode cX4_lift 31 = .ok (.iastore, 1) := by decide +kernel
theorem dX4_lift_32 : decode cX4_lift 32 = .ok (.aload_n 0, 1) := by decide +kernel
theorem dX4_lift_33 : decode cX4_lift 33 = .ok (.getfield 9, 3) := by decide +kernel
theorem dX4_lift_36 : decode cX4_lift 36 = .ok (.iload_n 1, 1) := by decide +kernel
theorem dX4_lift_37 : decode cX4_lift 37 = .ok (.bipush (-5), 2) := by decide +kernel
theorem dX4_lift_39 : decode cX4_lift 39 = .ok (.iastore, 1) := by decide +kernel
theorem dX4_lift_40 : decode cX4_lift 40 = .ok (.return_, 1) := by decide +kernel
theorem ax_2 {E : Ev} {a0 : Nat → Nat} {σ0 : N2} {i x : Int32} : (wSt E a0 σ0).set 6 (a0 6, .inl (E.2.1.1, 61, .inl (upd (σ0 5) i.toNatClampNeg x))) = wSt E a0 (u2 σ0 5 i.toNatClampNeg x) := rfl
theorem ax_3 {E : Ev} {a0 : Nat → Nat} {σ0 : N2} {i x : Int32} : (wSt E a0 σ0).set 1 (a0 1, .inl (E.2.1.1, 12, .inl (upd (σ0 0) i.toNatClampNeg x))) = wSt E a0 (u2 σ0 0 i.toNatClampNeg x) := rfl
set_option maxHeartbeats 4000000 in
set_option maxRecDepth 100000 in
theorem kX4_lift (l : Launch) (E : Ev) (a : Nat → Nat) (σ : N2) (bl : Int32) : KQ l yX4_lift cX4_lift 2 none 1 20 E [.ref (a 0), .int bl] (wSt E a σ) (QV E (wSt E a σ) (wSt E a (fX4_lift σ bl))) := by
  refine KQ.mk RX4 rfl (by decide +kernel) (Nat.le_of_ble_eq_true rfl) ?_
  intro p e s m below meth c ls X hr w hl
  have hx := X.1
  have hb := X.2.1
  have hl : lv_has ls 2 [(0, .ref (a 0)), (1, .int bl)] := hl
  refine lv_iload_n hx hb dX4_lift_0 rfl (lv_at hl 1 rfl) ?_
  refine r_ci w (r_runS (As := [.int bl]) (rest := []) X w (kX4_isBallNumber l E bl ) ck_X4_70 ⟨Nat.le_of_ble_eq_true rfl, Nat.le_of_ble_eq_true rfl⟩ [] rfl (by decide +kernel) hl.1 (Nat.le_of_ble_eq_true rfl) rfl dX4_lift_1 ⟨Nat.le_of_ble_eq_true rfl, Nat.le_of_ble_eq_true rfl⟩) (wSt E a σ) [] rfl (by decide +kernel) rfl rfl (fun H locs w => ?_)
  refine lv_if_eq (tgt := 40) hx hb dX4_lift_4 (by decide) (fun c4_1 => ?_) (fun c4_1 => ?_)
  · have hq : fX4_lift σ bl = (σ) := by simp only [fX4_lift, if_pos c4_1]
    rw [hq]
    exact r_vret X w hr dX4_lift_40
  · refine lv_aload_n hx hb dX4_lift_7 rfl (lv_at hl 0 rfl) ?_
    refine r_get X w CL4 0 (by decide) wf_X4_9 0 rfl rfl dX4_lift_8 ?_
    refine lv_iload_n hx hb dX4_lift_11 rfl (lv_at hl 1 rfl) ?_
    refine r_iald X w 1 rfl (in_bn c4_1) dX4_lift_12 ?_
    refine r_ci w (r_runS (As := [.int (σ 0 bl.toNatClampNeg)]) (rest := []) X w (kX1_isCell l E (σ 0 bl.toNatClampNeg) ) ck_X4_74 ⟨Nat.le_of_ble_eq_true rfl, Nat.le_of_ble_eq_true rfl⟩ [] rfl (by decide +kernel) hl.1 (Nat.le_of_ble_eq_true rfl) rfl dX4_lift_13 ⟨Nat.le_of_ble_eq_true rfl, Nat.le_of_ble_eq_true rfl⟩) (wSt E a σ) [] rfl (by decide +kernel) rfl rfl (fun H locs w => ?_)
    refine lv_if_eq (tgt := 40) hx hb dX4_lift_16 (by decide) (fun c16_2 => ?_) (fun c16_2 => ?_)
    · have hq : fX4_lift σ bl = (σ) := by simp only [fX4_lift, if_neg c4_1, if_pos c16_2]
      rw [hq]
      exact r_vret X w hr dX4_lift_40
    · refine lv_aload_n hx hb dX4_lift_19 rfl (lv_at hl 0 rfl) ?_
      refine r_get X w CL4 5 (by decide) wf_X4_27 0 rfl rfl dX4_lift_20 ?_
      refine lv_aload_n hx hb dX4_lift_23 rfl (lv_at hl 0 rfl) ?_
      refine r_get X w CL4 0 (by decide) wf_X4_9 0 rfl rfl dX4_lift_24 ?_
      refine lv_iload_n hx hb dX4_lift_27 rfl (lv_at hl 1 rfl) ?_
      refine r_iald X w 1 rfl (in_bn c4_1) dX4_lift_28 ?_
      refine lv_bipush (v := (-5)) hx hb dX4_lift_29 (by decide) ?_
      refine r_iast X w (wSt E a (u2 σ 5 (σ 0 bl.toNatClampNeg).toNatClampNeg (-5))) 6 rfl (in_cell c16_2) (ax_2 (E := E)) dX4_lift_31 (fun H locs w => ?_)
      refine lv_aload_n hx hb dX4_lift_32 rfl (lv_at hl 0 rfl) ?_
      refine r_get X w CL4 0 (by decide) wf_X4_9 0 rfl rfl dX4_lift_33 ?_
      refine lv_iload_n hx hb dX4_lift_36 rfl (lv_at hl 1 rfl) ?_
      refine lv_bipush (v := (-5)) hx hb dX4_lift_37 (by decide) ?_
      refine r_iast X w (wSt E a (u2 (u2 σ 5 (σ 0 bl.toNatClampNeg).toNatClampNeg (-5)) 0 bl.toNatClampNeg (-5))) 1 rfl (in_bn c4_1) (ax_3 (E := E)) dX4_lift_39 (fun H locs w => ?_)
      have hq : fX4_lift σ bl = (u2 (u2 σ 5 (σ 0 bl.toNatClampNeg).toNatClampNeg (-5)) 0 bl.toNatClampNeg (-5)) := by simp only [fX4_lift, if_neg c4_1, if_neg c16_2]
      rw [hq]
      exact r_vret X w hr dX4_lift_40
def fX4_place (σ : N2) (bl : Int32) (ce : Int32) : N2 := if (fX4_isBallNumber bl) = 0 then ((σ)) else (if (fX1_isCell ce) = 0 then ((σ)) else ((u2 (u2 (fX4_lift σ bl) 0 bl.toNatClampNeg ce) 5 ce.toNatClampNeg bl)))
theorem dX4_place_0 : decode cX4_place 0 = .ok (.iload_n 1, 1) := by decide +kernel
theorem dX4_place_1 : decode cX4_place 1 = .ok (.invokestatic 70, 3) := by decide +kernel
theorem dX4_place_4 : decode cX4_place 4 = .ok (.ifCond .eq 29, 3) := by decide +kernel
theorem dX4_place_7 : decode cX4_place 7 = .ok (.iload_n 2, 1) := by decide +kernel
theorem dX4_place_8 : decode cX4_place 8 = .ok (.invokestatic 74, 3) := by decide +kernel
theorem dX4_place_11 : decode cX4_place 11 = .ok (.ifCond .eq 22, 3) := by decide +kernel
theorem dX4_place_14 : decode cX4_place 14 = .ok (.aload_n 0, 1) := by decide +kernel
theorem dX4_place_15 : decode cX4_place 15 = .ok (.iload_n 1, 1) := by decide +kernel
theorem dX4_place_16 : decode cX4_place 16 = .ok (.invokevirtual 90, 3) := by decide +kernel
theorem dX4_place_19 : decode cX4_place 19 = .ok (.aload_n 0, 1) := by decide +kernel
theorem dX4_place_20 : decode cX4_place 20 = .ok (.getfield 9, 3) := by decide +kernel
theorem dX4_place_23 : decode cX4_place 23 = .ok (.iload_n 1, 1) := by decide +kernel
theorem dX4_place_24 : decode cX4_place 24 = .ok (.iload_n 2, 1) := by decide +kernel
theorem dX4_place_25 : decode cX4_place 25 = .ok (.iastore, 1) := by decide +kernel
theorem dX4_place_26 : decode cX4_place 26 = .ok (.aload_n 0, 1) := by decide +kernel
theorem dX4_place_27 : decode cX4_place 27 = .ok (.getfield 27, 3) := by decide +kernel
theorem dX4_place_30 : decode cX4_place 30 = .ok (.iload_n 2, 1) := by decide +kernel
theorem dX4_place_31 : decode cX4_place 31 = .ok (.iload_n 1, 1) := by decide +kernel
theorem dX4_place_32 : decode cX4_place 32 = .ok (.iastore, 1) := by decide +kernel
theorem dX4_place_33 : decode cX4_place 33 = .ok (.return_, 1) := by decide +kernel
theorem ck_X4_90 : CkV RX4 90 RX4 yX4_lift cX4_lift 2 none 1 := ⟨wm_X4_90, wim_yX4_lift, wse_yX4_lift, wi_X4, wc_yX4_lift, by decide +kernel⟩
set_option maxHeartbeats 4000000 in
set_option maxRecDepth 100000 in
theorem kX4_place (l : Launch) (E : Ev) (a : Nat → Nat) (σ : N2) (bl : Int32) (ce : Int32) : KQ l yX4_place cX4_place 3 none 2 41 E [.ref (a 0), .int bl, .int ce] (wSt E a σ) (QV E (wSt E a σ) (wSt E a (fX4_place σ bl ce))) := by
  refine KQ.mk RX4 rfl (by decide +kernel) (Nat.le_of_ble_eq_true rfl) ?_
  intro p e s m below meth c ls X hr w hl
  have hx := X.1
  have hb := X.2.1
  have hl : lv_has ls 3 [(0, .ref (a 0)), (1, .int bl), (2, .int ce)] := hl
  refine lv_iload_n hx hb dX4_place_0 rfl (lv_at hl 1 rfl) ?_
  refine r_ci w (r_runS (As := [.int bl]) (rest := []) X w (kX4_isBallNumber l E bl ) ck_X4_70 ⟨Nat.le_of_ble_eq_true rfl, Nat.le_of_ble_eq_true rfl⟩ [] rfl (by decide +kernel) hl.1 (Nat.le_of_ble_eq_true rfl) rfl dX4_place_1 ⟨Nat.le_of_ble_eq_true rfl, Nat.le_of_ble_eq_true rfl⟩) (wSt E a σ) [] rfl (by decide +kernel) rfl rfl (fun H locs w => ?_)
  refine lv_if_eq (tgt := 33) hx hb dX4_place_4 (by decide) (fun c4_1 => ?_) (fun c4_1 => ?_)
  · have hq : fX4_place σ bl ce = (σ) := by simp only [fX4_place, if_pos c4_1]
    rw [hq]
    exact r_vret X w hr dX4_place_33
  · refine lv_iload_n hx hb dX4_place_7 rfl (lv_at hl 2 rfl) ?_
    refine r_ci w (r_runS (As := [.int ce]) (rest := []) X w (kX1_isCell l E ce ) ck_X4_74 ⟨Nat.le_of_ble_eq_true rfl, Nat.le_of_ble_eq_true rfl⟩ [] rfl (by decide +kernel) hl.1 (Nat.le_of_ble_eq_true rfl) rfl dX4_place_8 ⟨Nat.le_of_ble_eq_true rfl, Nat.le_of_ble_eq_true rfl⟩) (wSt E a σ) [] rfl (by decide +kernel) rfl rfl (fun H locs w => ?_)
    refine lv_if_eq (tgt := 33) hx hb dX4_place_11 (by decide) (fun c11_2 => ?_) (fun c11_2 => ?_)
    · have hq : fX4_place σ bl ce = (σ) := by simp only [fX4_place, if_neg c4_1, if_pos c11_2]
      rw [hq]
      exact r_vret X w hr dX4_place_33
    · refine lv_aload_n hx hb dX4_place_14 rfl (lv_at hl 0 rfl) ?_
      refine lv_iload_n hx hb dX4_place_15 rfl (lv_at hl 1 rfl) ?_
      refine r_cv w (r_runV (As := [.int bl]) (rest := []) X w (kX4_lift l E a σ bl ) ck_X4_90 ⟨Nat.le_of_ble_eq_true rfl, Nat.le_of_ble_eq_true rfl⟩ [0, 1, 2, 3, 4, 5, 6, 7, 8] (hc_1 (E := E)) (by decide +kernel) (k0 := 0) CL4 rfl hl.1 (Nat.le_of_ble_eq_true rfl) rfl dX4_place_16 ⟨Nat.le_of_ble_eq_true rfl, Nat.le_of_ble_eq_true rfl⟩) (wSt E a (fX4_lift σ bl)) [0, 1, 2, 3, 4, 5, 6, 7, 8] (hc_1 (E := E)) (by decide +kernel) (ha_1 (E := E)) (hw_1 (E := E)) (fun H locs w => ?_)
      refine lv_aload_n hx hb dX4_place_19 rfl (lv_at hl 0 rfl) ?_
      refine r_get X w CL4 0 (by decide) wf_X4_9 0 rfl rfl dX4_place_20 ?_
      refine lv_iload_n hx hb dX4_place_23 rfl (lv_at hl 1 rfl) ?_
      refine lv_iload_n hx hb dX4_place_24 rfl (lv_at hl 2 rfl) ?_
      refine r_iast X w (wSt E a (u2 (fX4_lift σ bl) 0 bl.toNatClampNeg ce)) 1 rfl (in_bn c4_1) (ax_3 (E := E)) dX4_place_25 (fun H locs w => ?_)
      refine lv_aload_n hx hb dX4_place_26 rfl (lv_at hl 0 rfl) ?_
      refine r_get X w CL4 5 (by decide) wf_X4_27 0 rfl rfl dX4_place_27 ?_
      refine lv_iload_n hx hb dX4_place_30 rfl (lv_at hl 2 rfl) ?_
      refine lv_iload_n hx hb dX4_place_31 rfl (lv_at hl 1 rfl) ?_
      refine r_iast X w (wSt E a (u2 (u2 (fX4_lift σ bl) 0 bl.toNatClampNeg ce) 5 ce.toNatClampNeg bl)) 6 rfl (in_cell c11_2) (ax_2 (E := E)) dX4_place_32 (fun H locs w => ?_)
      have hq : fX4_place σ bl ce = (u2 (u2 (fX4_lift σ bl) 0 bl.toNatClampNeg ce) 5 ce.toNatClampNeg bl) := by simp only [fX4_place, if_neg c4_1, if_neg c11_2]
      rw [hq]
      exact r_vret X w hr dX4_place_33
def fX4_addBall (σ : N2) (ce : Int32) (vl : Int32) : Int32 × N2 := if (fX4_isBallNumber (σ 8 0)) = 0 then (((-3), σ)) else ((σ 8 0, (fX4_place (u2 (u2 σ 8 0 ((σ 8 0) + 1)) 1 (σ 8 0).toNatClampNeg vl) (σ 8 0) ce)))
theorem dX4_addBall_0 : decode cX4_addBall 0 = .ok (.aload_n 0, 1) := by decide +kernel
theorem dX4_addBall_1 : decode cX4_addBall 1 = .ok (.getfield 55, 3) := by decide +kernel
theorem dX4_addBall_4 : decode cX4_addBall 4 = .ok (.istore_n 3, 1) := by decide +kernel
theorem dX4_addBall_5 : decode cX4_addBall 5 = .ok (.iload_n 3, 1) := by decide +kernel
theorem dX4_addBall_6 : decode cX4_addBall 6 = .ok (.invokestatic 70, 3) := by decide +kernel
theorem dX4_addBall_9 : decode cX4_addBall 9 = .ok (.ifCond .ne 6, 3) := by decide +kernel
theorem dX4_addBall_12 : decode cX4_addBall 12 = .ok (.bipush (-3), 2) := by decide +kernel
theorem dX4_addBall_14 : decode cX4_addBall 14 = .ok (.ireturn, 1) := by decide +kernel
theorem dX4_addBall_15 : decode cX4_addBall 15 = .ok (.aload_n 0, 1) := by decide +kernel
theorem dX4_addBall_16 : decode cX4_addBall 16 = .ok (.dup, 1) := by decide +kernel
theorem dX4_addBall_17 : decode cX4_addBall 17 = .ok (.getfield 55, 3) := by decide +kernel
theorem dX4_addBall_20 : decode cX4_addBall 20 = .ok (.iconst 1, 1) := by decide +kernel
theorem dX4_addBall_21 : decode cX4_addBall 21 = .ok (.iadd, 1) := by decide +kernel
theorem dX4_addBall_22 : decode cX4_addBall 22 = .ok (.putfield 55, 3) := by decide +kernel
theorem dX4_addBall_25 : decode cX4_addBall 25 = .ok (.aload_n 0, 1) := by decide +kernel
theorem dX4_addBall_26 : decode cX4_addBall 26 = .ok (.getfield 15, 3) := by decide +kernel
theorem dX4_addBall_29 : decode cX4_addBall 29 = .ok (.iload_n 3, 1) := by decide +kernel
theorem dX4_addBall_30 : decode cX4_addBall 30 = .ok (.iload_n 2, 1) := by decide +kernel
theorem dX4_addBall_31 : decode cX4_addBall 31 = .ok (.iastore, 1) := by decide +kernel
theorem dX4_addBall_32 : decode cX4_addBall 32 = .ok (.aload_n 0, 1) := by decide +kernel
theorem dX4_addBall_33 : decode cX4_addBall 33 = .ok (.iload_n 3, 1) := by decide +kernel
theorem dX4_addBall_34 : decode cX4_addBall 34 = .ok (.iload_n 1, 1) := by decide +kernel
theorem dX4_addBall_35 : decode cX4_addBall 35 = .ok (.invokevirtual 86, 3) := by decide +kernel
theorem dX4_addBall_38 : decode cX4_addBall 38 = .ok (.iload_n 3, 1) := by decide +kernel
theorem dX4_addBall_39 : decode cX4_addBall 39 = .ok (.ireturn, 1) := by decide +kernel
theorem ck_X4_86 : CkV RX4 86 RX4 yX4_place cX4_place 3 none 2 := ⟨wm_X4_86, wim_yX4_place, wse_yX4_place, wi_X4, wc_yX4_place, by decide +kernel⟩
theorem ax_4 {E : Ev} {a0 : Nat → Nat} {σ0 : N2} {x : Int32} : (wSt E a0 σ0).set 0 (a0 0, .inr (3, ([.ref (a0 1), .ref (a0 2), .ref (a0 3), .ref (a0 4), .ref (a0 5), .ref (a0 6), .ref (a0 7), .ref (a0 8), .int (σ0 8 0), .int (σ0 8 1), .int (σ0 8 2), .int (σ0 8 3), .int (σ0 8 4), .int (σ0 8 5)] : List Value).set 8 (.int x))) = wSt E a0 (u2 σ0 8 0 x) := rfl
theorem ax_5 {E : Ev} {a0 : Nat → Nat} {σ0 : N2} {i x : Int32} : (wSt E a0 σ0).set 2 (a0 2, .inl (E.2.1.1, 12, .inl (upd (σ0 1) i.toNatClampNeg x))) = wSt E a0 (u2 σ0 1 i.toNatClampNeg x) := rfl
set_option maxHeartbeats 4000000 in
set_option maxRecDepth 100000 in
theorem kX4_addBall (l : Launch) (E : Ev) (a : Nat → Nat) (σ : N2) (ce : Int32) (vl : Int32) : KQ l yX4_addBall cX4_addBall 4 (some .int) 3 63 E [.ref (a 0), .int ce, .int vl] (wSt E a σ) (QI E (wSt E a σ) (fX4_addBall σ ce vl).1 (wSt E a ((fX4_addBall σ ce vl).2))) := by
  refine KQ.mk RX4 rfl (by decide +kernel) (Nat.le_of_ble_eq_true rfl) ?_
  intro p e s m below meth c ls X hr w hl
  have hx := X.1
  have hb := X.2.1
  have hl : lv_has ls 4 [(0, .ref (a 0)), (1, .int ce), (2, .int vl)] := hl
  refine lv_aload_n hx hb dX4_addBall_0 rfl (lv_at hl 0 rfl) ?_
  refine r_get X w CL4 8 (by decide) wf_X4_55 0 rfl rfl dX4_addBall_1 ?_
  refine lv_istore_n (lv' := [(3, .int (σ 8 0)), (0, .ref (a 0)), (1, .int ce), (2, .int vl)]) hx hb dX4_addBall_4 rfl hl (by decide) rfl (fun ls hl => ?_)
  refine lv_iload_n hx hb dX4_addBall_5 rfl (lv_at hl 0 rfl) ?_
  refine r_ci w (r_runS (As := [.int (σ 8 0)]) (rest := []) X w (kX4_isBallNumber l E (σ 8 0) ) ck_X4_70 ⟨Nat.le_of_ble_eq_true rfl, Nat.le_of_ble_eq_true rfl⟩ [] rfl (by decide +kernel) hl.1 (Nat.le_of_ble_eq_true rfl) rfl dX4_addBall_6 ⟨Nat.le_of_ble_eq_true rfl, Nat.le_of_ble_eq_true rfl⟩) (wSt E a σ) [] rfl (by decide +kernel) rfl rfl (fun H locs w => ?_)
  refine lv_if_ne (tgt := 15) hx hb dX4_addBall_9 (by decide) (fun c9_1 => ?_) (fun c9_1 => ?_)
  · refine lv_aload_n hx hb dX4_addBall_15 rfl (lv_at hl 1 rfl) ?_
    refine lv_dup hx hb dX4_addBall_16 rfl ?_
    refine r_get X w CL4 8 (by decide) wf_X4_55 0 rfl rfl dX4_addBall_17 ?_
    refine lv_iconst (v := 1) hx hb dX4_addBall_20 (by decide) ?_
    refine lv_iadd hx hb dX4_addBall_21 ?_
    refine r_put X w (wSt E a (u2 σ 8 0 ((σ 8 0) + 1))) CL4 8 (by decide) wf_X4_55 0 rfl rfl rfl rfl (Nat.le_of_ble_eq_true rfl) (ax_4 (E := E)) dX4_addBall_22 (fun H locs w => ?_)
    refine lv_aload_n hx hb dX4_addBall_25 rfl (lv_at hl 1 rfl) ?_
    refine r_get X w CL4 1 (by decide) wf_X4_15 0 rfl rfl dX4_addBall_26 ?_
    refine lv_iload_n hx hb dX4_addBall_29 rfl (lv_at hl 0 rfl) ?_
    refine lv_iload_n hx hb dX4_addBall_30 rfl (lv_at hl 3 rfl) ?_
    refine r_iast X w (wSt E a (u2 (u2 σ 8 0 ((σ 8 0) + 1)) 1 (σ 8 0).toNatClampNeg vl)) 2 rfl (in_bn c9_1) (ax_5 (E := E)) dX4_addBall_31 (fun H locs w => ?_)
    refine lv_aload_n hx hb dX4_addBall_32 rfl (lv_at hl 1 rfl) ?_
    refine lv_iload_n hx hb dX4_addBall_33 rfl (lv_at hl 0 rfl) ?_
    refine lv_iload_n hx hb dX4_addBall_34 rfl (lv_at hl 2 rfl) ?_
    refine r_cv w (r_runV (As := [.int (σ 8 0), .int ce]) (rest := []) X w (kX4_place l E a (u2 (u2 σ 8 0 ((σ 8 0) + 1)) 1 (σ 8 0).toNatClampNeg vl) (σ 8 0) ce ) ck_X4_86 ⟨Nat.le_of_ble_eq_true rfl, Nat.le_of_ble_eq_true rfl⟩ [0, 1, 2, 3, 4, 5, 6, 7, 8] (hc_1 (E := E)) (by decide +kernel) (k0 := 0) CL4 rfl hl.1 (Nat.le_of_ble_eq_true rfl) rfl dX4_addBall_35 ⟨Nat.le_of_ble_eq_true rfl, Nat.le_of_ble_eq_true rfl⟩) (wSt E a (fX4_place (u2 (u2 σ 8 0 ((σ 8 0) + 1)) 1 (σ 8 0).toNatClampNeg vl) (σ 8 0) ce)) [0, 1, 2, 3, 4, 5, 6, 7, 8] (hc_1 (E := E)) (by decide +kernel) (ha_1 (E := E)) (hw_1 (E := E)) (fun H locs w => ?_)
    refine lv_iload_n hx hb dX4_addBall_38 rfl (lv_at hl 0 rfl) ?_
    have hq : fX4_addBall σ ce vl = (σ 8 0, (fX4_place (u2 (u2 σ 8 0 ((σ 8 0) + 1)) 1 (σ 8 0).toNatClampNeg vl) (σ 8 0) ce)) := by simp only [fX4_addBall, if_neg c9_1]
    obtain ⟨h0_, h1_⟩ := tup2 hq
    rw [h0_, h1_]
    exact r_iret X w hr rfl dX4_addBall_39
  · refine lv_bipush (v := (-3)) hx hb dX4_addBall_12 (by decide) ?_
    have hq : fX4_addBall σ ce vl = ((-3), σ) := by simp only [fX4_addBall, if_pos c9_1]
    obtain ⟨h0_, h1_⟩ := tup2 hq
    rw [h0_, h1_]
    exact r_iret X w hr rfl dX4_addBall_14
def fX4_addStep (σ : N2) (bl : Int32) : N2 := if (fX4_isBallNumber bl) = 0 then ((σ)) else ((u2 σ 2 bl.toNatClampNeg ((σ 2 bl.toNatClampNeg) + 1)))
theorem dX4_addStep_0 : decode cX4_addStep 0 = .ok (.iload_n 1, 1) := by decide +kernel
theorem dX4_addStep_1 : decode cX4_addStep 1 = .ok (.invokestatic 70, 3) := by decide +kernel
theorem dX4_addStep_4 : decode cX4_addStep 4 = .ok (.ifCond .eq 13, 3) := by decide +kernel
theorem dX4_addStep_7 : decode cX4_addStep 7 = .ok (.aload_n 0, 1) := by decide +kernel
theorem dX4_addStep_8 : decode cX4_addStep 8 = .ok (.getfield 18, 3) := by decide +kernel
theorem dX4_addStep_11 : decode cX4_addStep 11 = .ok (.iload_n 1, 1) := by decide +kernel
theorem dX4_addStep_12 : decode cX4_addStep 12 = .ok (.dup2, 1) := by decide +kernel
theorem dX4_addStep_13 : decode cX4_addStep 13 = .ok (.iaload, 1) := by decide +kernel
theorem dX4_addStep_14 : decode cX4_addStep 14 = .ok (.iconst 1, 1) := by decide +kernel
theorem dX4_addStep_15 : decode cX4_addStep 15 = .ok (.iadd, 1) := by decide +kernel
theorem dX4_addStep_16 : decode cX4_addStep 16 = .ok (.iastore, 1) := by decide +kernel
theorem dX4_addStep_17 : decode cX4_addStep 17 = .ok (.return_, 1) := by decide +kernel
theorem ax_6 {E : Ev} {a0 : Nat → Nat} {σ0 : N2} {i x : Int32} : (wSt E a0 σ0).set 3 (a0 3, .inl (E.2.1.1, 12, .inl (upd (σ0 2) i.toNatClampNeg x))) = wSt E a0 (u2 σ0 2 i.toNatClampNeg x) := rfl
set_option maxHeartbeats 4000000 in
set_option maxRecDepth 100000 in
theorem kX4_addStep (l : Launch) (E : Ev) (a : Nat → Nat) (σ : N2) (bl : Int32) : KQ l yX4_addStep cX4_addStep 2 none 1 20 E [.ref (a 0), .int bl] (wSt E a σ) (QV E (wSt E a σ) (wSt E a (fX4_addStep σ bl))) := by
  refine KQ.mk RX4 rfl (by decide +kernel) (Nat.le_of_ble_eq_true rfl) ?_
  intro p e s m below meth c ls X hr w hl
  have hx := X.1
  have hb := X.2.1
  have hl : lv_has ls 2 [(0, .ref (a 0)), (1, .int bl)] := hl
  refine lv_iload_n hx hb dX4_addStep_0 rfl (lv_at hl 1 rfl) ?_
  refine r_ci w (r_runS (As := [.int bl]) (rest := []) X w (kX4_isBallNumber l E bl ) ck_X4_70 ⟨Nat.le_of_ble_eq_true rfl, Nat.le_of_ble_eq_true rfl⟩ [] rfl (by decide +kernel) hl.1 (Nat.le_of_ble_eq_true rfl) rfl dX4_addStep_1 ⟨Nat.le_of_ble_eq_true rfl, Nat.le_of_ble_eq_true rfl⟩) (wSt E a σ) [] rfl (by decide +kernel) rfl rfl (fun H locs w => ?_)
  refine lv_if_eq (tgt := 17) hx hb dX4_addStep_4 (by decide) (fun c4_1 => ?_) (fun c4_1 => ?_)
  · have hq : fX4_addStep σ bl = (σ) := by simp only [fX4_addStep, if_pos c4_1]
    rw [hq]
    exact r_vret X w hr dX4_addStep_17
  · refine lv_aload_n hx hb dX4_addStep_7 rfl (lv_at hl 0 rfl) ?_
    refine r_get X w CL4 2 (by decide) wf_X4_18 0 rfl rfl dX4_addStep_8 ?_
    refine lv_iload_n hx hb dX4_addStep_11 rfl (lv_at hl 1 rfl) ?_
    refine lv_dup2_11 hx hb dX4_addStep_12 rfl rfl ?_
    refine r_iald X w 3 rfl (in_bn c4_1) dX4_addStep_13 ?_
    refine lv_iconst (v := 1) hx hb dX4_addStep_14 (by decide) ?_
    refine lv_iadd hx hb dX4_addStep_15 ?_
    refine r_iast X w (wSt E a (u2 σ 2 bl.toNatClampNeg ((σ 2 bl.toNatClampNeg) + 1))) 3 rfl (in_bn c4_1) (ax_6 (E := E)) dX4_addStep_16 (fun H locs w => ?_)
    have hq : fX4_addStep σ bl = (u2 σ 2 bl.toNatClampNeg ((σ 2 bl.toNatClampNeg) + 1)) := by simp only [fX4_addStep, if_neg c4_1]
    rw [hq]
    exact r_vret X w hr dX4_addStep_17
def fX4_addBank (σ : N2) (bl : Int32) : N2 := if (fX4_isBallNumber bl) = 0 then ((σ)) else ((u2 σ 3 bl.toNatClampNeg ((σ 3 bl.toNatClampNeg) + 1)))
theorem dX4_addBank_0 : decode cX4_addBank 0 = .ok (.iload_n 1, 1) := by decide +kernel
theorem dX4_addBank_1 : decode cX4_addBank 1 = .ok (.invokestatic 70, 3) := by decide +kernel
theorem dX4_addBank_4 : decode cX4_addBank 4 = .ok (.ifCond .eq 13, 3) := by decide +kernel
theorem dX4_addBank_7 : decode cX4_addBank 7 = .ok (.aload_n 0, 1) := by decide +kernel
theorem dX4_addBank_8 : decode cX4_addBank 8 = .ok (.getfield 21, 3) := by decide +kernel
theorem dX4_addBank_11 : decode cX4_addBank 11 = .ok (.iload_n 1, 1) := by decide +kernel
theorem dX4_addBank_12 : decode cX4_addBank 12 = .ok (.dup2, 1) := by decide +kernel
theorem dX4_addBank_13 : decode cX4_addBank 13 = .ok (.iaload, 1) := by decide +kernel
theorem dX4_addBank_14 : decode cX4_addBank 14 = .ok (.iconst 1, 1) := by decide +kernel
theorem dX4_addBank_15 : decode cX4_addBank 15 = .ok (.iadd, 1) := by decide +kernel
theorem dX4_addBank_16 : decode cX4_addBank 16 = .ok (.iastore, 1) := by decide +kernel
theorem dX4_addBank_17 : decode cX4_addBank 17 = .ok (.return_, 1) := by decide +kernel
theorem ax_7 {E : Ev} {a0 : Nat → Nat} {σ0 : N2} {i x : Int32} : (wSt E a0 σ0).set 4 (a0 4, .inl (E.2.1.1, 12, .inl (upd (σ0 3) i.toNatClampNeg x))) = wSt E a0 (u2 σ0 3 i.toNatClampNeg x) := rfl
set_option maxHeartbeats 4000000 in
set_option maxRecDepth 100000 in
theorem kX4_addBank (l : Launch) (E : Ev) (a : Nat → Nat) (σ : N2) (bl : Int32) : KQ l yX4_addBank cX4_addBank 2 none 1 20 E [.ref (a 0), .int bl] (wSt E a σ) (QV E (wSt E a σ) (wSt E a (fX4_addBank σ bl))) := by
  refine KQ.mk RX4 rfl (by decide +kernel) (Nat.le_of_ble_eq_true rfl) ?_
  intro p e s m below meth c ls X hr w hl
  have hx := X.1
  have hb := X.2.1
  have hl : lv_has ls 2 [(0, .ref (a 0)), (1, .int bl)] := hl
  refine lv_iload_n hx hb dX4_addBank_0 rfl (lv_at hl 1 rfl) ?_
  refine r_ci w (r_runS (As := [.int bl]) (rest := []) X w (kX4_isBallNumber l E bl ) ck_X4_70 ⟨Nat.le_of_ble_eq_true rfl, Nat.le_of_ble_eq_true rfl⟩ [] rfl (by decide +kernel) hl.1 (Nat.le_of_ble_eq_true rfl) rfl dX4_addBank_1 ⟨Nat.le_of_ble_eq_true rfl, Nat.le_of_ble_eq_true rfl⟩) (wSt E a σ) [] rfl (by decide +kernel) rfl rfl (fun H locs w => ?_)
  refine lv_if_eq (tgt := 17) hx hb dX4_addBank_4 (by decide) (fun c4_1 => ?_) (fun c4_1 => ?_)
  · have hq : fX4_addBank σ bl = (σ) := by simp only [fX4_addBank, if_pos c4_1]
    rw [hq]
    exact r_vret X w hr dX4_addBank_17
  · refine lv_aload_n hx hb dX4_addBank_7 rfl (lv_at hl 0 rfl) ?_
    refine r_get X w CL4 3 (by decide) wf_X4_21 0 rfl rfl dX4_addBank_8 ?_
    refine lv_iload_n hx hb dX4_addBank_11 rfl (lv_at hl 1 rfl) ?_
    refine lv_dup2_11 hx hb dX4_addBank_12 rfl rfl ?_
    refine r_iald X w 4 rfl (in_bn c4_1) dX4_addBank_13 ?_
    refine lv_iconst (v := 1) hx hb dX4_addBank_14 (by decide) ?_
    refine lv_iadd hx hb dX4_addBank_15 ?_
    refine r_iast X w (wSt E a (u2 σ 3 bl.toNatClampNeg ((σ 3 bl.toNatClampNeg) + 1))) 4 rfl (in_bn c4_1) (ax_7 (E := E)) dX4_addBank_16 (fun H locs w => ?_)
    have hq : fX4_addBank σ bl = (u2 σ 3 bl.toNatClampNeg ((σ 3 bl.toNatClampNeg) + 1)) := by simp only [fX4_addBank, if_neg c4_1]
    rw [hq]
    exact r_vret X w hr dX4_addBank_17
def fX4_addHit (σ : N2) (bl : Int32) : N2 := if (fX4_isBallNumber bl) = 0 then ((σ)) else ((u2 σ 4 bl.toNatClampNeg ((σ 4 bl.toNatClampNeg) + 1)))
theorem dX4_addHit_0 : decode cX4_addHit 0 = .ok (.iload_n 1, 1) := by decide +kernel
theorem dX4_addHit_1 : decode cX4_addHit 1 = .ok (.invokestatic 70, 3) := by decide +kernel
theorem dX4_addHit_4 : decode cX4_addHit 4 = .ok (.ifCond .eq 13, 3) := by decide +kernel
theorem dX4_addHit_7 : decode cX4_addHit 7 = .ok (.aload_n 0, 1) := by decide +kernel
theorem dX4_addHit_8 : decode cX4_addHit 8 = .ok (.getfield 24, 3) := by decide +kernel
theorem dX4_addHit_11 : decode cX4_addHit 11 = .ok (.iload_n 1, 1) := by decide +kernel
theorem dX4_addHit_12 : decode cX4_addHit 12 = .ok (.dup2, 1) := by decide +kernel
theorem dX4_addHit_13 : decode cX4_addHit 13 = .ok (.iaload, 1) := by decide +kernel
theorem dX4_addHit_14 : decode cX4_addHit 14 = .ok (.iconst 1, 1) := by decide +kernel
theorem dX4_addHit_15 : decode cX4_addHit 15 = .ok (.iadd, 1) := by decide +kernel
theorem dX4_addHit_16 : decode cX4_addHit 16 = .ok (.iastore, 1) := by decide +kernel
theorem dX4_addHit_17 : decode cX4_addHit 17 = .ok (.return_, 1) := by decide +kernel
theorem ax_8 {E : Ev} {a0 : Nat → Nat} {σ0 : N2} {i x : Int32} : (wSt E a0 σ0).set 5 (a0 5, .inl (E.2.1.1, 12, .inl (upd (σ0 4) i.toNatClampNeg x))) = wSt E a0 (u2 σ0 4 i.toNatClampNeg x) := rfl
set_option maxHeartbeats 4000000 in
set_option maxRecDepth 100000 in
theorem kX4_addHit (l : Launch) (E : Ev) (a : Nat → Nat) (σ : N2) (bl : Int32) : KQ l yX4_addHit cX4_addHit 2 none 1 20 E [.ref (a 0), .int bl] (wSt E a σ) (QV E (wSt E a σ) (wSt E a (fX4_addHit σ bl))) := by
  refine KQ.mk RX4 rfl (by decide +kernel) (Nat.le_of_ble_eq_true rfl) ?_
  intro p e s m below meth c ls X hr w hl
  have hx := X.1
  have hb := X.2.1
  have hl : lv_has ls 2 [(0, .ref (a 0)), (1, .int bl)] := hl
  refine lv_iload_n hx hb dX4_addHit_0 rfl (lv_at hl 1 rfl) ?_
  refine r_ci w (r_runS (As := [.int bl]) (rest := []) X w (kX4_isBallNumber l E bl ) ck_X4_70 ⟨Nat.le_of_ble_eq_true rfl, Nat.le_of_ble_eq_true rfl⟩ [] rfl (by decide +kernel) hl.1 (Nat.le_of_ble_eq_true rfl) rfl dX4_addHit_1 ⟨Nat.le_of_ble_eq_true rfl, Nat.le_of_ble_eq_true rfl⟩) (wSt E a σ) [] rfl (by decide +kernel) rfl rfl (fun H locs w => ?_)
  refine lv_if_eq (tgt := 17) hx hb dX4_addHit_4 (by decide) (fun c4_1 => ?_) (fun c4_1 => ?_)
  · have hq : fX4_addHit σ bl = (σ) := by simp only [fX4_addHit, if_pos c4_1]
    rw [hq]
    exact r_vret X w hr dX4_addHit_17
  · refine lv_aload_n hx hb dX4_addHit_7 rfl (lv_at hl 0 rfl) ?_
    refine r_get X w CL4 4 (by decide) wf_X4_24 0 rfl rfl dX4_addHit_8 ?_
    refine lv_iload_n hx hb dX4_addHit_11 rfl (lv_at hl 1 rfl) ?_
    refine lv_dup2_11 hx hb dX4_addHit_12 rfl rfl ?_
    refine r_iald X w 5 rfl (in_bn c4_1) dX4_addHit_13 ?_
    refine lv_iconst (v := 1) hx hb dX4_addHit_14 (by decide) ?_
    refine lv_iadd hx hb dX4_addHit_15 ?_
    refine r_iast X w (wSt E a (u2 σ 4 bl.toNatClampNeg ((σ 4 bl.toNatClampNeg) + 1))) 5 rfl (in_bn c4_1) (ax_8 (E := E)) dX4_addHit_16 (fun H locs w => ?_)
    have hq : fX4_addHit σ bl = (u2 σ 4 bl.toNatClampNeg ((σ 4 bl.toNatClampNeg) + 1)) := by simp only [fX4_addHit, if_neg c4_1]
    rw [hq]
    exact r_vret X w hr dX4_addHit_17
def fX4_changeTurn (σ : N2) : N2 := (u2 (u2 σ 8 2 (1 - (σ 8 2))) 8 3 0)
theorem dX4_changeTurn_0 : decode cX4_changeTurn 0 = .ok (.aload_n 0, 1) := by decide +kernel
theorem dX4_changeTurn_1 : decode cX4_changeTurn 1 = .ok (.iconst 1, 1) := by decide +kernel
theorem dX4_changeTurn_2 : decode cX4_changeTurn 2 = .ok (.aload_n 0, 1) := by decide +kernel
theorem dX4_changeTurn_3 : decode cX4_changeTurn 3 = .ok (.getfield 58, 3) := by decide +kernel
theorem dX4_changeTurn_6 : decode cX4_changeTurn 6 = .ok (.isub, 1) := by decide +kernel
theorem dX4_changeTurn_7 : decode cX4_changeTurn 7 = .ok (.putfield 58, 3) := by decide +kernel
theorem dX4_changeTurn_10 : decode cX4_changeTurn 10 = .ok (.aload_n 0, 1) := by decide +kernel
theorem dX4_changeTurn_11 : decode cX4_changeTurn 11 = .ok (.iconst 0, 1) := by decide +kernel
theorem dX4_changeTurn_12 : decode cX4_changeTurn 12 = .ok (.putfield 61, 3) := by decide +kernel
theorem dX4_changeTurn_15 : decode cX4_changeTurn 15 = .ok (.return_, 1) := by decide +kernel
theorem ax_9 {E : Ev} {a0 : Nat → Nat} {σ0 : N2} {x : Int32} : (wSt E a0 σ0).set 0 (a0 0, .inr (3, ([.ref (a0 1), .ref (a0 2), .ref (a0 3), .ref (a0 4), .ref (a0 5), .ref (a0 6), .ref (a0 7), .ref (a0 8), .int (σ0 8 0), .int (σ0 8 1), .int (σ0 8 2), .int (σ0 8 3), .int (σ0 8 4), .int (σ0 8 5)] : List Value).set 10 (.int x))) = wSt E a0 (u2 σ0 8 2 x) := rfl
theorem ax_10 {E : Ev} {a0 : Nat → Nat} {σ0 : N2} {x : Int32} : (wSt E a0 σ0).set 0 (a0 0, .inr (3, ([.ref (a0 1), .ref (a0 2), .ref (a0 3), .ref (a0 4), .ref (a0 5), .ref (a0 6), .ref (a0 7), .ref (a0 8), .int (σ0 8 0), .int (σ0 8 1), .int (σ0 8 2), .int (σ0 8 3), .int (σ0 8 4), .int (σ0 8 5)] : List Value).set 11 (.int x))) = wSt E a0 (u2 σ0 8 3 x) := rfl
set_option maxHeartbeats 4000000 in
set_option maxRecDepth 100000 in
theorem kX4_changeTurn (l : Launch) (E : Ev) (a : Nat → Nat) (σ : N2) : KQ l yX4_changeTurn cX4_changeTurn 1 none 0 0 E [.ref (a 0)] (wSt E a σ) (QV E (wSt E a σ) (wSt E a (fX4_changeTurn σ))) := by
  refine KQ.mk RX4 rfl (by decide +kernel) (Nat.le_of_ble_eq_true rfl) ?_
  intro p e s m below meth c ls X hr w hl
  have hx := X.1
  have hb := X.2.1
  have hl : lv_has ls 1 [(0, .ref (a 0))] := hl
  refine lv_aload_n hx hb dX4_changeTurn_0 rfl (lv_at hl 0 rfl) ?_
  refine lv_iconst (v := 1) hx hb dX4_changeTurn_1 (by decide) ?_
  refine lv_aload_n hx hb dX4_changeTurn_2 rfl (lv_at hl 0 rfl) ?_
  refine r_get X w CL4 10 (by decide) wf_X4_58 0 rfl rfl dX4_changeTurn_3 ?_
  refine lv_isub hx hb dX4_changeTurn_6 ?_
  refine r_put X w (wSt E a (u2 σ 8 2 (1 - (σ 8 2)))) CL4 10 (by decide) wf_X4_58 0 rfl rfl rfl rfl (Nat.le_of_ble_eq_true rfl) (ax_9 (E := E)) dX4_changeTurn_7 (fun H locs w => ?_)
  refine lv_aload_n hx hb dX4_changeTurn_10 rfl (lv_at hl 0 rfl) ?_
  refine lv_iconst (v := 0) hx hb dX4_changeTurn_11 (by decide) ?_
  refine r_put X w (wSt E a (u2 (u2 σ 8 2 (1 - (σ 8 2))) 8 3 0)) CL4 11 (by decide) wf_X4_61 0 rfl rfl rfl rfl (Nat.le_of_ble_eq_true rfl) (ax_10 (E := E)) dX4_changeTurn_12 (fun H locs w => ?_)
  have hq : fX4_changeTurn σ = (u2 (u2 σ 8 2 (1 - (σ 8 2))) 8 3 0) := rfl
  rw [hq]
  exact r_vret X w hr dX4_changeTurn_15
def fX6_isPlayer (pl : Int32) : Int32 := if pl < 0 then ((0)) else (if 2 ≤ pl then ((0)) else ((1)))
theorem dX6_isPlayer_0 : decode cX6_isPlayer 0 = .ok (.iload_n 0, 1) := by decide +kernel
theorem dX6_isPlayer_1 : decode cX6_isPlayer 1 = .ok (.ifCond .lt 12, 3) := by decide +kernel
theorem dX6_isPlayer_4 : decode cX6_isPlayer 4 = .ok (.iload_n 0, 1) := by decide +kernel
theorem dX6_isPlayer_5 : decode cX6_isPlayer 5 = .ok (.iconst 2, 1) := by decide +kernel
theorem dX6_isPlayer_6 : decode cX6_isPlayer 6 = .ok (.if_icmp .ge 7, 3) := by decide +kernel
theorem dX6_isPlayer_9 : decode cX6_isPlayer 9 = .ok (.iconst 1, 1) := by decide +kernel
theorem dX6_isPlayer_10 : decode cX6_isPlayer 10 = .ok (.goto 4, 3) := by decide +kernel
theorem dX6_isPlayer_13 : decode cX6_isPlayer 13 = .ok (.iconst 0, 1) := by decide +kernel
theorem dX6_isPlayer_14 : decode cX6_isPlayer 14 = .ok (.ireturn, 1) := by decide +kernel
set_option maxHeartbeats 4000000 in
set_option maxRecDepth 100000 in
theorem kX6_isPlayer (l : Launch) (E : Ev) (pl : Int32) : KQ l yX6_isPlayer cX6_isPlayer 1 (some .boolean) 0 0 E [.int pl] [] (QI E [] (fX6_isPlayer pl) []) := by
  refine KQ.mk RX6 rfl (by decide +kernel) (Nat.le_of_ble_eq_true rfl) ?_
  intro p e s m below meth c ls X hr w hl
  have hx := X.1
  have hb := X.2.1
  have hl : lv_has ls 1 [(0, .int pl)] := hl
  refine lv_iload_n hx hb dX6_isPlayer_0 rfl (lv_at hl 0 rfl) ?_
  refine lv_if_lt (tgt := 13) hx hb dX6_isPlayer_1 (by decide) (fun c1_1 => ?_) (fun c1_1 => ?_)
  · refine lv_iconst (v := 0) hx hb dX6_isPlayer_13 (by decide) ?_
    have hq : fX6_isPlayer pl = (0) := by simp only [fX6_isPlayer, if_pos c1_1]
    rw [hq]
    exact r_zret X w hr (Or.inl rfl) rfl dX6_isPlayer_14
  · refine lv_iload_n hx hb dX6_isPlayer_4 rfl (lv_at hl 0 rfl) ?_
    refine lv_iconst (v := 2) hx hb dX6_isPlayer_5 (by decide) ?_
    refine lv_icmp_ge (tgt := 13) hx hb dX6_isPlayer_6 (by decide) (fun c6_2 => ?_) (fun c6_2 => ?_)
    · refine lv_iconst (v := 0) hx hb dX6_isPlayer_13 (by decide) ?_
      have hq : fX6_isPlayer pl = (0) := by simp only [fX6_isPlayer, if_neg c1_1, if_pos c6_2]
      rw [hq]
      exact r_zret X w hr (Or.inl rfl) rfl dX6_isPlayer_14
    · refine lv_iconst (v := 1) hx hb dX6_isPlayer_9 (by decide) ?_
      refine lv_goto (tgt := 14) hx hb dX6_isPlayer_10 (by decide) ?_
      have hq : fX6_isPlayer pl = (1) := by simp only [fX6_isPlayer, if_neg c1_1, if_neg c6_2]
      rw [hq]
      exact r_zret X w hr (Or.inr rfl) rfl dX6_isPlayer_14
theorem zX6_isPlayer (pl : Int32) : fX6_isPlayer pl = 0 ∨ fX6_isPlayer pl = 1 := by
  unfold fX6_isPlayer
  repeat' split
  all_goals first | exact Or.inl rfl | exact Or.inr rfl | (simp; done) | exact Or.inl rfl
theorem in_pl {pl : Int32} (h : ¬ fX6_isPlayer pl = 0) : vp_in pl 2 := by
  unfold fX6_isPlayer at h
  split at h
  · exact absurd rfl h
  · split at h
    · exact absurd rfl h
    · exact vin_ge 2 rfl ‹_› ‹_›
def fX4_scoreShot (σ : N2) (wo : Int32) : N2 := if wo = 0 then (((fX4_changeTurn (u2 σ 8 4 ((σ 8 4) + 1))))) else (if (fX6_isPlayer ((u2 (u2 (u2 σ 8 4 ((σ 8 4) + 1)) 8 5 (((u2 σ 8 4 ((σ 8 4) + 1)) 8 5) + 1)) 8 3 (((u2 (u2 σ 8 4 ((σ 8 4) + 1)) 8 5 (((u2 σ 8 4 ((σ 8 4) + 1)) 8 5) + 1)) 8 3) + 1)) 8 2)) = 0 then ((u2 (u2 (u2 σ 8 4 ((σ 8 4) + 1)) 8 5 (((u2 σ 8 4 ((σ 8 4) + 1)) 8 5) + 1)) 8 3 (((u2 (u2 σ 8 4 ((σ 8 4) + 1)) 8 5 (((u2 σ 8 4 ((σ 8 4) + 1)) 8 5) + 1)) 8 3) + 1))) else ((u2 (u2 (u2 (u2 σ 8 4 ((σ 8 4) + 1)) 8 5 (((u2 σ 8 4 ((σ 8 4) + 1)) 8 5) + 1)) 8 3 (((u2 (u2 σ 8 4 ((σ 8 4) + 1)) 8 5 (((u2 σ 8 4 ((σ 8 4) + 1)) 8 5) + 1)) 8 3) + 1)) 7 ((u2 (u2 (u2 σ 8 4 ((σ 8 4) + 1)) 8 5 (((u2 σ 8 4 ((σ 8 4) + 1)) 8 5) + 1)) 8 3 (((u2 (u2 σ 8 4 ((σ 8 4) + 1)) 8 5 (((u2 σ 8 4 ((σ 8 4) + 1)) 8 5) + 1)) 8 3) + 1)) 8 2).toNatClampNeg (((u2 (u2 (u2 σ 8 4 ((σ 8 4) + 1)) 8 5 (((u2 σ 8 4 ((σ 8 4) + 1)) 8 5) + 1)) 8 3 (((u2 (u2 σ 8 4 ((σ 8 4) + 1)) 8 5 (((u2 σ 8 4 ((σ 8 4) + 1)) 8 5) + 1)) 8 3) + 1)) 7 ((u2 (u2 (u2 σ 8 4 ((σ 8 4) + 1)) 8 5 (((u2 σ 8 4 ((σ 8 4) + 1)) 8 5) + 1)) 8 3 (((u2 (u2 σ 8 4 ((σ 8 4) + 1)) 8 5 (((u2 σ 8 4 ((σ 8 4) + 1)) 8 5) + 1)) 8 3) + 1)) 8 2).toNatClampNeg) + wo))))
theorem dX4_scoreShot_0 : decode cX4_scoreShot 0 = .ok (.aload_n 0, 1) := by decide +kernel
theorem dX4_scoreShot_1 : decode cX4_scoreShot 1 = .ok (.dup, 1) := by decide +kernel
theorem dX4_scoreShot_2 : decode cX4_scoreShot 2 = .ok (.getfield 64, 3) := by decide +kernel
theorem dX4_scoreShot_5 : decode cX4_scoreShot 5 = .ok (.iconst 1, 1) := by decide +kernel
theorem dX4_scoreShot_6 : decode cX4_scoreShot 6 = .ok (.iadd, 1) := by decide +kernel
theorem dX4_scoreShot_7 : decode cX4_scoreShot 7 = .ok (.putfield 64, 3) := by decide +kernel
theorem dX4_scoreShot_10 : decode cX4_scoreShot 10 = .ok (.iload_n 1, 1) := by decide +kernel
theorem dX4_scoreShot_11 : decode cX4_scoreShot 11 = .ok (.ifCond .ne 8, 3) := by decide +kernel
theorem dX4_scoreShot_14 : decode cX4_scoreShot 14 = .ok (.aload_n 0, 1) := by decide +kernel
theorem dX4_scoreShot_15 : decode cX4_scoreShot 15 = .ok (.invokevirtual 94, 3) := by decide +kernel
theorem dX4_scoreShot_18 : decode cX4_scoreShot 18 = .ok (.return_, 1) := by decide +kernel
theorem dX4_scoreShot_19 : decode cX4_scoreShot 19 = .ok (.aload_n 0, 1) := by decide +kernel
theorem dX4_scoreShot_20 : decode cX4_scoreShot 20 = .ok (.dup, 1) := by decide +kernel
theorem dX4_scoreShot_21 : decode cX4_scoreShot 21 = .ok (.getfield 67, 3) := by decide +kernel
theorem dX4_scoreShot_24 : decode cX4_scoreShot 24 = .ok (.iconst 1, 1) := by decide +kernel
theorem dX4_scoreShot_25 : decode cX4_scoreShot 25 = .ok (.iadd, 1) := by decide +kernel
theorem dX4_scoreShot_26 : decode cX4_scoreShot 26 = .ok (.putfield 67, 3) := by decide +kernel
theorem dX4_scoreShot_29 : decode cX4_scoreShot 29 = .ok (.aload_n 0, 1) := by decide +kernel
theorem dX4_scoreShot_30 : decode cX4_scoreShot 30 = .ok (.dup, 1) := by decide +kernel
theorem dX4_scoreShot_31 : decode cX4_scoreShot 31 = .ok (.getfield 61, 3) := by decide +kernel
theorem dX4_scoreShot_34 : decode cX4_scoreShot 34 = .ok (.iconst 1, 1) := by decide +kernel
theorem dX4_scoreShot_35 : decode cX4_scoreShot 35 = .ok (.iadd, 1) := by decide +kernel
theorem dX4_scoreShot_36 : decode cX4_scoreShot 36 = .ok (.putfield 61, 3) := by decide +kernel
theorem dX4_scoreShot_39 : decode cX4_scoreShot 39 = .ok (.aload_n 0, 1) := by decide +kernel
theorem dX4_scoreShot_40 : decode cX4_scoreShot 40 = .ok (.getfield 58, 3) := by decide +kernel
theorem dX4_scoreShot_43 : decode cX4_scoreShot 43 = .ok (.invokestatic 97, 3) := by decide +kernel
theorem dX4_scoreShot_46 : decode cX4_scoreShot 46 = .ok (.ifCond .eq 16, 3) := by decide +kernel
theorem dX4_scoreShot_49 : decode cX4_scoreShot 49 = .ok (.aload_n 0, 1) := by decide +kernel
theorem dX4_scoreShot_50 : decode cX4_scoreShot 50 = .ok (.getfield 33, 3) := by decide +kernel
theorem dX4_scoreShot_53 : decode cX4_scoreShot 53 = .ok (.aload_n 0, 1) := by decide +kernel
theorem dX4_scoreShot_54 : decode cX4_scoreShot 54 = .ok (.getfield 58, 3) := by decide +kernel
theorem dX4_scoreShot_57 : decode cX4_scoreShot 57 = .ok (.dup2, 1) := by decide +kernel
theorem dX4_scoreShot_58 : decode cX4_scoreShot 58 = .ok (.iaload, 1) := by decide +kernel
theorem dX4_scoreShot_59 : decode cX4_scoreShot 59 = .ok (.iload_n 1, 1) := by decide +kernel
theorem dX4_scoreShot_60 : decode cX4_scoreShot 60 = .ok (.iadd, 1) := by decide +kernel
theorem dX4_scoreShot_61 : decode cX4_scoreShot 61 = .ok (.iastore, 1) := by decide +kernel
theorem dX4_scoreShot_62 : decode cX4_scoreShot 62 = .ok (.return_, 1) := by decide +kernel
theorem ck_X4_94 : CkV RX4 94 RX4 yX4_changeTurn cX4_changeTurn 1 none 0 := ⟨wm_X4_94, wim_yX4_changeTurn, wse_yX4_changeTurn, wi_X4, wc_yX4_changeTurn, by decide +kernel⟩
theorem ck_X4_97 : CkN RX4 97 yX6_isPlayer cX6_isPlayer 1 (some .boolean) 1 := ⟨nl_31, wst_yX6_isPlayer, wi_X6, wc_yX6_isPlayer, by decide +kernel⟩
theorem ax_11 {E : Ev} {a0 : Nat → Nat} {σ0 : N2} {x : Int32} : (wSt E a0 σ0).set 0 (a0 0, .inr (3, ([.ref (a0 1), .ref (a0 2), .ref (a0 3), .ref (a0 4), .ref (a0 5), .ref (a0 6), .ref (a0 7), .ref (a0 8), .int (σ0 8 0), .int (σ0 8 1), .int (σ0 8 2), .int (σ0 8 3), .int (σ0 8 4), .int (σ0 8 5)] : List Value).set 12 (.int x))) = wSt E a0 (u2 σ0 8 4 x) := rfl
theorem ax_12 {E : Ev} {a0 : Nat → Nat} {σ0 : N2} {x : Int32} : (wSt E a0 σ0).set 0 (a0 0, .inr (3, ([.ref (a0 1), .ref (a0 2), .ref (a0 3), .ref (a0 4), .ref (a0 5), .ref (a0 6), .ref (a0 7), .ref (a0 8), .int (σ0 8 0), .int (σ0 8 1), .int (σ0 8 2), .int (σ0 8 3), .int (σ0 8 4), .int (σ0 8 5)] : List Value).set 13 (.int x))) = wSt E a0 (u2 σ0 8 5 x) := rfl
theorem ax_13 {E : Ev} {a0 : Nat → Nat} {σ0 : N2} {i x : Int32} : (wSt E a0 σ0).set 8 (a0 8, .inl (E.2.1.1, 2, .inl (upd (σ0 7) i.toNatClampNeg x))) = wSt E a0 (u2 σ0 7 i.toNatClampNeg x) := rfl
set_option maxHeartbeats 4000000 in
set_option maxRecDepth 100000 in
theorem kX4_scoreShot (l : Launch) (E : Ev) (a : Nat → Nat) (σ : N2) (wo : Int32) : KQ l yX4_scoreShot cX4_scoreShot 2 none 1 20 E [.ref (a 0), .int wo] (wSt E a σ) (QV E (wSt E a σ) (wSt E a (fX4_scoreShot σ wo))) := by
  refine KQ.mk RX4 rfl (by decide +kernel) (Nat.le_of_ble_eq_true rfl) ?_
  intro p e s m below meth c ls X hr w hl
  have hx := X.1
  have hb := X.2.1
  have hl : lv_has ls 2 [(0, .ref (a 0)), (1, .int wo)] := hl
  refine lv_aload_n hx hb dX4_scoreShot_0 rfl (lv_at hl 0 rfl) ?_
  refine lv_dup hx hb dX4_scoreShot_1 rfl ?_
  refine r_get X w CL4 12 (by decide) wf_X4_64 0 rfl rfl dX4_scoreShot_2 ?_
  refine lv_iconst (v := 1) hx hb dX4_scoreShot_5 (by decide) ?_
  refine lv_iadd hx hb dX4_scoreShot_6 ?_
  refine r_put X w (wSt E a (u2 σ 8 4 ((σ 8 4) + 1))) CL4 12 (by decide) wf_X4_64 0 rfl rfl rfl rfl (Nat.le_of_ble_eq_true rfl) (ax_11 (E := E)) dX4_scoreShot_7 (fun H locs w => ?_)
  refine lv_iload_n hx hb dX4_scoreShot_10 rfl (lv_at hl 1 rfl) ?_
  refine lv_if_ne (tgt := 19) hx hb dX4_scoreShot_11 (by decide) (fun c11_1 => ?_) (fun c11_1 => ?_)
  · refine lv_aload_n hx hb dX4_scoreShot_19 rfl (lv_at hl 0 rfl) ?_
    refine lv_dup hx hb dX4_scoreShot_20 rfl ?_
    refine r_get X w CL4 13 (by decide) wf_X4_67 0 rfl rfl dX4_scoreShot_21 ?_
    refine lv_iconst (v := 1) hx hb dX4_scoreShot_24 (by decide) ?_
    refine lv_iadd hx hb dX4_scoreShot_25 ?_
    refine r_put X w (wSt E a (u2 (u2 σ 8 4 ((σ 8 4) + 1)) 8 5 (((u2 σ 8 4 ((σ 8 4) + 1)) 8 5) + 1))) CL4 13 (by decide) wf_X4_67 0 rfl rfl rfl rfl (Nat.le_of_ble_eq_true rfl) (ax_12 (E := E)) dX4_scoreShot_26 (fun H locs w => ?_)
    refine lv_aload_n hx hb dX4_scoreShot_29 rfl (lv_at hl 0 rfl) ?_
    refine lv_dup hx hb dX4_scoreShot_30 rfl ?_
    refine r_get X w CL4 11 (by decide) wf_X4_61 0 rfl rfl dX4_scoreShot_31 ?_
    refine lv_iconst (v := 1) hx hb dX4_scoreShot_34 (by decide) ?_
    refine lv_iadd hx hb dX4_scoreShot_35 ?_
    refine r_put X w (wSt E a (u2 (u2 (u2 σ 8 4 ((σ 8 4) + 1)) 8 5 (((u2 σ 8 4 ((σ 8 4) + 1)) 8 5) + 1)) 8 3 (((u2 (u2 σ 8 4 ((σ 8 4) + 1)) 8 5 (((u2 σ 8 4 ((σ 8 4) + 1)) 8 5) + 1)) 8 3) + 1))) CL4 11 (by decide) wf_X4_61 0 rfl rfl rfl rfl (Nat.le_of_ble_eq_true rfl) (ax_10 (E := E)) dX4_scoreShot_36 (fun H locs w => ?_)
    refine lv_aload_n hx hb dX4_scoreShot_39 rfl (lv_at hl 0 rfl) ?_
    refine r_get X w CL4 10 (by decide) wf_X4_58 0 rfl rfl dX4_scoreShot_40 ?_
    refine r_ci w (r_runSN (As := [.int ((u2 (u2 (u2 σ 8 4 ((σ 8 4) + 1)) 8 5 (((u2 σ 8 4 ((σ 8 4) + 1)) 8 5) + 1)) 8 3 (((u2 (u2 σ 8 4 ((σ 8 4) + 1)) 8 5 (((u2 σ 8 4 ((σ 8 4) + 1)) 8 5) + 1)) 8 3) + 1)) 8 2)]) (rest := []) X w (kX6_isPlayer l E ((u2 (u2 (u2 σ 8 4 ((σ 8 4) + 1)) 8 5 (((u2 σ 8 4 ((σ 8 4) + 1)) 8 5) + 1)) 8 3 (((u2 (u2 σ 8 4 ((σ 8 4) + 1)) 8 5 (((u2 σ 8 4 ((σ 8 4) + 1)) 8 5) + 1)) 8 3) + 1)) 8 2) ) ck_X4_97 ⟨Nat.le_of_ble_eq_true rfl, Nat.le_of_ble_eq_true rfl⟩ [] rfl (by decide +kernel) hl.1 (Nat.le_of_ble_eq_true rfl) rfl dX4_scoreShot_43 ⟨Nat.le_of_ble_eq_true rfl, Nat.le_of_ble_eq_true rfl⟩) (wSt E a (u2 (u2 (u2 σ 8 4 ((σ 8 4) + 1)) 8 5 (((u2 σ 8 4 ((σ 8 4) + 1)) 8 5) + 1)) 8 3 (((u2 (u2 σ 8 4 ((σ 8 4) + 1)) 8 5 (((u2 σ 8 4 ((σ 8 4) + 1)) 8 5) + 1)) 8 3) + 1))) [] rfl (by decide +kernel) rfl rfl (fun H locs w => ?_)
    refine lv_if_eq (tgt := 62) hx hb dX4_scoreShot_46 (by decide) (fun c46_2 => ?_) (fun c46_2 => ?_)
    · have hq : fX4_scoreShot σ wo = (u2 (u2 (u2 σ 8 4 ((σ 8 4) + 1)) 8 5 (((u2 σ 8 4 ((σ 8 4) + 1)) 8 5) + 1)) 8 3 (((u2 (u2 σ 8 4 ((σ 8 4) + 1)) 8 5 (((u2 σ 8 4 ((σ 8 4) + 1)) 8 5) + 1)) 8 3) + 1)) := by simp only [fX4_scoreShot, if_neg c11_1, if_pos c46_2]
      rw [hq]
      exact r_vret X w hr dX4_scoreShot_62
    · refine lv_aload_n hx hb dX4_scoreShot_49 rfl (lv_at hl 0 rfl) ?_
      refine r_get X w CL4 7 (by decide) wf_X4_33 0 rfl rfl dX4_scoreShot_50 ?_
      refine lv_aload_n hx hb dX4_scoreShot_53 rfl (lv_at hl 0 rfl) ?_
      refine r_get X w CL4 10 (by decide) wf_X4_58 0 rfl rfl dX4_scoreShot_54 ?_
      refine lv_dup2_11 hx hb dX4_scoreShot_57 rfl rfl ?_
      refine r_iald X w 8 rfl (in_pl c46_2) dX4_scoreShot_58 ?_
      refine lv_iload_n hx hb dX4_scoreShot_59 rfl (lv_at hl 1 rfl) ?_
      refine lv_iadd hx hb dX4_scoreShot_60 ?_
      refine r_iast X w (wSt E a (u2 (u2 (u2 (u2 σ 8 4 ((σ 8 4) + 1)) 8 5 (((u2 σ 8 4 ((σ 8 4) + 1)) 8 5) + 1)) 8 3 (((u2 (u2 σ 8 4 ((σ 8 4) + 1)) 8 5 (((u2 σ 8 4 ((σ 8 4) + 1)) 8 5) + 1)) 8 3) + 1)) 7 ((u2 (u2 (u2 σ 8 4 ((σ 8 4) + 1)) 8 5 (((u2 σ 8 4 ((σ 8 4) + 1)) 8 5) + 1)) 8 3 (((u2 (u2 σ 8 4 ((σ 8 4) + 1)) 8 5 (((u2 σ 8 4 ((σ 8 4) + 1)) 8 5) + 1)) 8 3) + 1)) 8 2).toNatClampNeg (((u2 (u2 (u2 σ 8 4 ((σ 8 4) + 1)) 8 5 (((u2 σ 8 4 ((σ 8 4) + 1)) 8 5) + 1)) 8 3 (((u2 (u2 σ 8 4 ((σ 8 4) + 1)) 8 5 (((u2 σ 8 4 ((σ 8 4) + 1)) 8 5) + 1)) 8 3) + 1)) 7 ((u2 (u2 (u2 σ 8 4 ((σ 8 4) + 1)) 8 5 (((u2 σ 8 4 ((σ 8 4) + 1)) 8 5) + 1)) 8 3 (((u2 (u2 σ 8 4 ((σ 8 4) + 1)) 8 5 (((u2 σ 8 4 ((σ 8 4) + 1)) 8 5) + 1)) 8 3) + 1)) 8 2).toNatClampNeg) + wo))) 8 rfl (in_pl c46_2) (ax_13 (E := E)) dX4_scoreShot_61 (fun H locs w => ?_)
      have hq : fX4_scoreShot σ wo = (u2 (u2 (u2 (u2 σ 8 4 ((σ 8 4) + 1)) 8 5 (((u2 σ 8 4 ((σ 8 4) + 1)) 8 5) + 1)) 8 3 (((u2 (u2 σ 8 4 ((σ 8 4) + 1)) 8 5 (((u2 σ 8 4 ((σ 8 4) + 1)) 8 5) + 1)) 8 3) + 1)) 7 ((u2 (u2 (u2 σ 8 4 ((σ 8 4) + 1)) 8 5 (((u2 σ 8 4 ((σ 8 4) + 1)) 8 5) + 1)) 8 3 (((u2 (u2 σ 8 4 ((σ 8 4) + 1)) 8 5 (((u2 σ 8 4 ((σ 8 4) + 1)) 8 5) + 1)) 8 3) + 1)) 8 2).toNatClampNeg (((u2 (u2 (u2 σ 8 4 ((σ 8 4) + 1)) 8 5 (((u2 σ 8 4 ((σ 8 4) + 1)) 8 5) + 1)) 8 3 (((u2 (u2 σ 8 4 ((σ 8 4) + 1)) 8 5 (((u2 σ 8 4 ((σ 8 4) + 1)) 8 5) + 1)) 8 3) + 1)) 7 ((u2 (u2 (u2 σ 8 4 ((σ 8 4) + 1)) 8 5 (((u2 σ 8 4 ((σ 8 4) + 1)) 8 5) + 1)) 8 3 (((u2 (u2 σ 8 4 ((σ 8 4) + 1)) 8 5 (((u2 σ 8 4 ((σ 8 4) + 1)) 8 5) + 1)) 8 3) + 1)) 8 2).toNatClampNeg) + wo)) := by simp only [fX4_scoreShot, if_neg c11_1, if_neg c46_2]
      rw [hq]
      exact r_vret X w hr dX4_scoreShot_62
  · refine lv_aload_n hx hb dX4_scoreShot_14 rfl (lv_at hl 0 rfl) ?_
    refine r_cv w (r_runV (As := []) (rest := []) X w (kX4_changeTurn l E a (u2 σ 8 4 ((σ 8 4) + 1)) ) ck_X4_94 ⟨Nat.le_of_ble_eq_true rfl, Nat.le_of_ble_eq_true rfl⟩ [0, 1, 2, 3, 4, 5, 6, 7, 8] (hc_1 (E := E)) (by decide +kernel) (k0 := 0) CL4 rfl hl.1 (Nat.le_of_ble_eq_true rfl) rfl dX4_scoreShot_15 ⟨Nat.le_of_ble_eq_true rfl, Nat.le_of_ble_eq_true rfl⟩) (wSt E a (fX4_changeTurn (u2 σ 8 4 ((σ 8 4) + 1)))) [0, 1, 2, 3, 4, 5, 6, 7, 8] (hc_1 (E := E)) (by decide +kernel) (ha_1 (E := E)) (hw_1 (E := E)) (fun H locs w => ?_)
    have hq : fX4_scoreShot σ wo = ((fX4_changeTurn (u2 σ 8 4 ((σ 8 4) + 1)))) := by simp only [fX4_scoreShot, if_pos c11_1]
    rw [hq]
    exact r_vret X w hr dX4_scoreShot_18
def fX4_copyFrom (σ : N2) (σo : N2) : N2 := (σo)
theorem dX4_copyFrom_0 : decode cX4_copyFrom 0 = .ok (.aload_n 1, 1) := by decide +kernel
theorem dX4_copyFrom_1 : decode cX4_copyFrom 1 = .ok (.getfield 9, 3) := by decide +kernel
theorem dX4_copyFrom_4 : decode cX4_copyFrom 4 = .ok (.iconst 0, 1) := by decide +kernel
theorem dX4_copyFrom_5 : decode cX4_copyFrom 5 = .ok (.aload_n 0, 1) := by decide +kernel
theorem dX4_copyFrom_6 : decode cX4_copyFrom 6 = .ok (.getfield 9, 3) := by decide +kernel
theorem dX4_copyFrom_9 : decode cX4_copyFrom 9 = .ok (.iconst 0, 1) := by decide +kernel
theorem dX4_copyFrom_10 : decode cX4_copyFrom 10 = .ok (.bipush 12, 2) := by decide +kernel
theorem dX4_copyFrom_12 : decode cX4_copyFrom 12 = .ok (.invokestatic 45, 3) := by decide +kernel
theorem dX4_copyFrom_15 : decode cX4_copyFrom 15 = .ok (.aload_n 1, 1) := by decide +kernel
theorem dX4_copyFrom_16 : decode cX4_copyFrom 16 = .ok (.getfield 15, 3) := by decide +kernel
theorem dX4_copyFrom_19 : decode cX4_copyFrom 19 = .ok (.iconst 0, 1) := by decide +kernel
theorem dX4_copyFrom_20 : decode cX4_copyFrom 20 = .ok (.aload_n 0, 1) := by decide +kernel
theorem dX4_copyFrom_21 : decode cX4_copyFrom 21 = .ok (.getfield 15, 3) := by decide +kernel
theorem dX4_copyFrom_24 : decode cX4_copyFrom 24 = .ok (.iconst 0, 1) := by decide +kernel
theorem dX4_copyFrom_25 : decode cX4_copyFrom 25 = .ok (.bipush 12, 2) := by decide +kernel
theorem dX4_copyFrom_27 : decode cX4_copyFrom 27 = .ok (.invokestatic 45, 3) := by decide +kernel
theorem dX4_copyFrom_30 : decode cX4_copyFrom 30 = .ok (.aload_n 1, 1) := by decide +kernel
theorem dX4_copyFrom_31 : decode cX4_copyFrom 31 = .ok (.getfield 18, 3) := by decide +kernel
theorem dX4_copyFrom_34 : decode cX4_copyFrom 34 = .ok (.iconst 0, 1) := by decide +kernel
theorem dX4_copyFrom_35 : decode cX4_copyFrom 35 = .ok (.aload_n 0, 1) := by decide +kernel
theorem dX4_copyFrom_36 : decode cX4_copyFrom 36 = .ok (.getfield 18, 3) := by decide +kernel
theorem dX4_copyFrom_39 : decode cX4_copyFrom 39 = .ok (.iconst 0, 1) := by decide +kernel
theorem dX4_copyFrom_40 : decode cX4_copyFrom 40 = .ok (.bipush 12, 2) := by decide +kernel
theorem dX4_copyFrom_42 : decode cX4_copyFrom 42 = .ok (.invokestatic 45, 3) := by decide +kernel
theorem dX4_copyFrom_45 : decode cX4_copyFrom 45 = .ok (.aload_n 1, 1) := by decide +kernel
theorem dX4_copyFrom_46 : decode cX4_copyFrom 46 = .ok (.getfield 21, 3) := by decide +kernel
theorem dX4_copyFrom_49 : decode cX4_copyFrom 49 = .ok (.iconst 0, 1) := by decide +kernel
theorem dX4_copyFrom_50 : decode cX4_copyFrom 50 = .ok (.aload_n 0, 1) := by decide +kernel
theorem dX4_copyFrom_51 : decode cX4_copyFrom 51 = .ok (.getfield 21, 3) := by decide +kernel
theorem dX4_copyFrom_54 : decode cX4_copyFrom 54 = .ok (.iconst 0, 1) := by decide +kernel
theorem dX4_copyFrom_55 : decode cX4_copyFrom 55 = .ok (.bipush 12, 2) := by decide +kernel
theorem dX4_copyFrom_57 : decode cX4_copyFrom 57 = .ok (.invokestatic 45, 3) := by decide +kernel
theorem dX4_copyFrom_60 : decode cX4_copyFrom 60 = .ok (.aload_n 1, 1) := by decide +kernel
theorem dX4_copyFrom_61 : decode cX4_copyFrom 61 = .ok (.getfield 24, 3) := by decide +kernel
theorem dX4_copyFrom_64 : decode cX4_copyFrom 64 = .ok (.iconst 0, 1) := by decide +kernel
theorem dX4_copyFrom_65 : decode cX4_copyFrom 65 = .ok (.aload_n 0, 1) := by decide +kernel
theorem dX4_copyFrom_66 : decode cX4_copyFrom 66 = .ok (.getfield 24, 3) := by decide +kernel
theorem dX4_copyFrom_69 : decode cX4_copyFrom 69 = .ok (.iconst 0, 1) := by decide +kernel
theorem dX4_copyFrom_70 : decode cX4_copyFrom 70 = .ok (.bipush 12, 2) := by decide +kernel
theorem dX4_copyFrom_72 : decode cX4_copyFrom 72 = .ok (.invokestatic 45, 3) := by decide +kernel
theorem dX4_copyFrom_75 : decode cX4_copyFrom 75 = .ok (.aload_n 1, 1) := by decide +kernel
theorem dX4_copyFrom_76 : decode cX4_copyFrom 76 = .ok (.getfield 27, 3) := by decide +kernel
theorem dX4_copyFrom_79 : decode cX4_copyFrom 79 = .ok (.iconst 0, 1) := by decide +kernel
theorem dX4_copyFrom_80 : decode cX4_copyFrom 80 = .ok (.aload_n 0, 1) := by decide +kernel
theorem dX4_copyFrom_81 : decode cX4_copyFrom 81 = .ok (.getfield 27, 3) := by decide +kernel
theorem dX4_copyFrom_84 : decode cX4_copyFrom 84 = .ok (.iconst 0, 1) := by decide +kernel
theorem dX4_copyFrom_85 : decode cX4_copyFrom 85 = .ok (.bipush 61, 2) := by decide +kernel
theorem dX4_copyFrom_87 : decode cX4_copyFrom 87 = .ok (.invokestatic 45, 3) := by decide +kernel
theorem dX4_copyFrom_90 : decode cX4_copyFrom 90 = .ok (.aload_n 1, 1) := by decide +kernel
theorem dX4_copyFrom_91 : decode cX4_copyFrom 91 = .ok (.getfield 30, 3) := by decide +kernel
theorem dX4_copyFrom_94 : decode cX4_copyFrom 94 = .ok (.iconst 0, 1) := by decide +kernel
theorem dX4_copyFrom_95 : decode cX4_copyFrom 95 = .ok (.aload_n 0, 1) := by decide +kernel
theorem dX4_copyFrom_96 : decode cX4_copyFrom 96 = .ok (.getfield 30, 3) := by decide +kernel
theorem dX4_copyFrom_99 : decode cX4_copyFrom 99 = .ok (.iconst 0, 1) := by decide +kernel
theorem dX4_copyFrom_100 : decode cX4_copyFrom 100 = .ok (.iconst 3, 1) := by decide +kernel
theorem dX4_copyFrom_101 : decode cX4_copyFrom 101 = .ok (.invokestatic 45, 3) := by decide +kernel
theorem dX4_copyFrom_104 : decode cX4_copyFrom 104 = .ok (.aload_n 1, 1) := by decide +kernel
theorem dX4_copyFrom_105 : decode cX4_copyFrom 105 = .ok (.getfield 33, 3) := by decide +kernel
theorem dX4_copyFrom_108 : decode cX4_copyFrom 108 = .ok (.iconst 0, 1) := by decide +kernel
theorem dX4_copyFrom_109 : decode cX4_copyFrom 109 = .ok (.aload_n 0, 1) := by decide +kernel
theorem dX4_copyFrom_110 : decode cX4_copyFrom 110 = .ok (.getfield 33, 3) := by decide +kernel
theorem dX4_copyFrom_113 : decode cX4_copyFrom 113 = .ok (.iconst 0, 1) := by decide +kernel
theorem dX4_copyFrom_114 : decode cX4_copyFrom 114 = .ok (.iconst 2, 1) := by decide +kernel
theorem dX4_copyFrom_115 : decode cX4_copyFrom 115 = .ok (.invokestatic 45, 3) := by decide +kernel
theorem dX4_copyFrom_118 : decode cX4_copyFrom 118 = .ok (.aload_n 0, 1) := by decide +kernel
theorem dX4_copyFrom_119 : decode cX4_copyFrom 119 = .ok (.aload_n 1, 1) := by decide +kernel
theorem dX4_copyFrom_120 : decode cX4_copyFrom 120 = .ok (.getfield 55, 3) := by decide +kernel
theorem dX4_copyFrom_123 : decode cX4_copyFrom 123 = .ok (.putfield 55, 3) := by decide +kernel
theorem dX4_copyFrom_126 : decode cX4_copyFrom 126 = .ok (.aload_n 0, 1) := by decide +kernel
theorem dX4_copyFrom_127 : decode cX4_copyFrom 127 = .ok (.aload_n 1, 1) := by decide +kernel
theorem dX4_copyFrom_128 : decode cX4_copyFrom 128 = .ok (.getfield 51, 3) := by decide +kernel
theorem dX4_copyFrom_131 : decode cX4_copyFrom 131 = .ok (.putfield 51, 3) := by decide +kernel
theorem dX4_copyFrom_134 : decode cX4_copyFrom 134 = .ok (.aload_n 0, 1) := by decide +kernel
theorem dX4_copyFrom_135 : decode cX4_copyFrom 135 = .ok (.aload_n 1, 1) := by decide +kernel
theorem dX4_copyFrom_136 : decode cX4_copyFrom 136 = .ok (.getfield 58, 3) := by decide +kernel
theorem dX4_copyFrom_139 : decode cX4_copyFrom 139 = .ok (.putfield 58, 3) := by decide +kernel
theorem dX4_copyFrom_142 : decode cX4_copyFrom 142 = .ok (.aload_n 0, 1) := by decide +kernel
theorem dX4_copyFrom_143 : decode cX4_copyFrom 143 = .ok (.aload_n 1, 1) := by decide +kernel
theorem dX4_copyFrom_144 : decode cX4_copyFrom 144 = .ok (.getfield 61, 3) := by decide +kernel
theorem dX4_copyFrom_147 : decode cX4_copyFrom 147 = .ok (.putfield 61, 3) := by decide +kernel
theorem dX4_copyFrom_150 : decode cX4_copyFrom 150 = .ok (.aload_n 0, 1) := by decide +kernel
theorem dX4_copyFrom_151 : decode cX4_copyFrom 151 = .ok (.aload_n 1, 1) := by decide +kernel
theorem dX4_copyFrom_152 : decode cX4_copyFrom 152 = .ok (.getfield 64, 3) := by decide +kernel
theorem dX4_copyFrom_155 : decode cX4_copyFrom 155 = .ok (.putfield 64, 3) := by decide +kernel
theorem dX4_copyFrom_158 : decode cX4_copyFrom 158 = .ok (.aload_n 0, 1) := by decide +kernel
theorem dX4_copyFrom_159 : decode cX4_copyFrom 159 = .ok (.aload_n 1, 1) := by decide +kernel
theorem dX4_copyFrom_160 : decode cX4_copyFrom 160 = .ok (.getfield 67, 3) := by decide +kernel
theorem dX4_copyFrom_163 : decode cX4_copyFrom 163 = .ok (.putfield 67, 3) := by decide +kernel
theorem dX4_copyFrom_166 : decode cX4_copyFrom 166 = .ok (.return_, 1) := by decide +kernel
theorem ax_14 {E : Ev} {a0 : Nat → Nat} {σ0 : N2} {a1 : Nat → Nat} {σ1 : N2} {x : Int32} : (wSt E a0 σ0 ++ wSt E a1 σ1).set 0 (a0 0, .inr (3, ([.ref (a0 1), .ref (a0 2), .ref (a0 3), .ref (a0 4), .ref (a0 5), .ref (a0 6), .ref (a0 7), .ref (a0 8), .int (σ0 8 0), .int (σ0 8 1), .int (σ0 8 2), .int (σ0 8 3), .int (σ0 8 4), .int (σ0 8 5)] : List Value).set 8 (.int x))) = wSt E a0 (u2 σ0 8 0 x) ++ wSt E a1 σ1 := rfl
theorem ax_15 {E : Ev} {a0 : Nat → Nat} {σ0 : N2} {a1 : Nat → Nat} {σ1 : N2} {x : Int32} : (wSt E a0 σ0 ++ wSt E a1 σ1).set 0 (a0 0, .inr (3, ([.ref (a0 1), .ref (a0 2), .ref (a0 3), .ref (a0 4), .ref (a0 5), .ref (a0 6), .ref (a0 7), .ref (a0 8), .int (σ0 8 0), .int (σ0 8 1), .int (σ0 8 2), .int (σ0 8 3), .int (σ0 8 4), .int (σ0 8 5)] : List Value).set 9 (.int x))) = wSt E a0 (u2 σ0 8 1 x) ++ wSt E a1 σ1 := rfl
theorem ax_16 {E : Ev} {a0 : Nat → Nat} {σ0 : N2} {a1 : Nat → Nat} {σ1 : N2} {x : Int32} : (wSt E a0 σ0 ++ wSt E a1 σ1).set 0 (a0 0, .inr (3, ([.ref (a0 1), .ref (a0 2), .ref (a0 3), .ref (a0 4), .ref (a0 5), .ref (a0 6), .ref (a0 7), .ref (a0 8), .int (σ0 8 0), .int (σ0 8 1), .int (σ0 8 2), .int (σ0 8 3), .int (σ0 8 4), .int (σ0 8 5)] : List Value).set 10 (.int x))) = wSt E a0 (u2 σ0 8 2 x) ++ wSt E a1 σ1 := rfl
theorem ax_17 {E : Ev} {a0 : Nat → Nat} {σ0 : N2} {a1 : Nat → Nat} {σ1 : N2} {x : Int32} : (wSt E a0 σ0 ++ wSt E a1 σ1).set 0 (a0 0, .inr (3, ([.ref (a0 1), .ref (a0 2), .ref (a0 3), .ref (a0 4), .ref (a0 5), .ref (a0 6), .ref (a0 7), .ref (a0 8), .int (σ0 8 0), .int (σ0 8 1), .int (σ0 8 2), .int (σ0 8 3), .int (σ0 8 4), .int (σ0 8 5)] : List Value).set 11 (.int x))) = wSt E a0 (u2 σ0 8 3 x) ++ wSt E a1 σ1 := rfl
theorem ax_18 {E : Ev} {a0 : Nat → Nat} {σ0 : N2} {a1 : Nat → Nat} {σ1 : N2} {x : Int32} : (wSt E a0 σ0 ++ wSt E a1 σ1).set 0 (a0 0, .inr (3, ([.ref (a0 1), .ref (a0 2), .ref (a0 3), .ref (a0 4), .ref (a0 5), .ref (a0 6), .ref (a0 7), .ref (a0 8), .int (σ0 8 0), .int (σ0 8 1), .int (σ0 8 2), .int (σ0 8 3), .int (σ0 8 4), .int (σ0 8 5)] : List Value).set 12 (.int x))) = wSt E a0 (u2 σ0 8 4 x) ++ wSt E a1 σ1 := rfl
theorem ax_19 {E : Ev} {a0 : Nat → Nat} {σ0 : N2} {a1 : Nat → Nat} {σ1 : N2} {x : Int32} : (wSt E a0 σ0 ++ wSt E a1 σ1).set 0 (a0 0, .inr (3, ([.ref (a0 1), .ref (a0 2), .ref (a0 3), .ref (a0 4), .ref (a0 5), .ref (a0 6), .ref (a0 7), .ref (a0 8), .int (σ0 8 0), .int (σ0 8 1), .int (σ0 8 2), .int (σ0 8 3), .int (σ0 8 4), .int (σ0 8 5)] : List Value).set 13 (.int x))) = wSt E a0 (u2 σ0 8 5 x) ++ wSt E a1 σ1 := rfl
set_option maxHeartbeats 4000000 in
set_option maxRecDepth 100000 in
theorem kX4_copyFrom (l : Launch) (E : Ev) (a : Nat → Nat) (σ : N2) (b : Nat → Nat) (σo : N2) : KQ l yX4_copyFrom cX4_copyFrom 2 none 1 60 E [.ref (a 0), .ref (b 0)] (wSt E a σ ++ wSt E b σo) (QV E (wSt E a σ ++ wSt E b σo) (wSt E a (fX4_copyFrom σ σo) ++ wSt E b σo)) := by
  refine KQ.mk RX4 rfl (by decide +kernel) (Nat.le_of_ble_eq_true rfl) ?_
  intro p e s m below meth c ls X hr w hl
  have hx := X.1
  have hb := X.2.1
  have hl : lv_has ls 2 [(0, .ref (a 0)), (1, .ref (b 0))] := hl
  refine lv_aload_n hx hb dX4_copyFrom_0 rfl (lv_at hl 1 rfl) ?_
  refine r_get X w CL4 0 (by decide) wf_X4_9 9 rfl rfl dX4_copyFrom_1 ?_
  refine lv_iconst (v := 0) hx hb dX4_copyFrom_4 (by decide) ?_
  refine lv_aload_n hx hb dX4_copyFrom_5 rfl (lv_at hl 0 rfl) ?_
  refine r_get X w CL4 0 (by decide) wf_X4_9 0 rfl rfl dX4_copyFrom_6 ?_
  refine lv_iconst (v := 0) hx hb dX4_copyFrom_9 (by decide) ?_
  refine lv_bipush (v := 12) hx hb dX4_copyFrom_10 (by decide) ?_
  refine r_copy X w (wSt E a (va_up σ 0 (σo 0)) ++ wSt E b σo) wm_X4_45 10 1 rfl rfl (by decide) rfl rfl hl.1 (Nat.le_of_ble_eq_true rfl) (Nat.le_of_ble_eq_true rfl) dX4_copyFrom_12 (fun H locs w => ?_)
  refine lv_aload_n hx hb dX4_copyFrom_15 rfl (lv_at hl 1 rfl) ?_
  refine r_get X w CL4 1 (by decide) wf_X4_15 9 rfl rfl dX4_copyFrom_16 ?_
  refine lv_iconst (v := 0) hx hb dX4_copyFrom_19 (by decide) ?_
  refine lv_aload_n hx hb dX4_copyFrom_20 rfl (lv_at hl 0 rfl) ?_
  refine r_get X w CL4 1 (by decide) wf_X4_15 0 rfl rfl dX4_copyFrom_21 ?_
  refine lv_iconst (v := 0) hx hb dX4_copyFrom_24 (by decide) ?_
  refine lv_bipush (v := 12) hx hb dX4_copyFrom_25 (by decide) ?_
  refine r_copy X w (wSt E a (va_up (va_up σ 0 (σo 0)) 1 (σo 1)) ++ wSt E b σo) wm_X4_45 11 2 rfl rfl (by decide) rfl rfl hl.1 (Nat.le_of_ble_eq_true rfl) (Nat.le_of_ble_eq_true rfl) dX4_copyFrom_27 (fun H locs w => ?_)
  refine lv_aload_n hx hb dX4_copyFrom_30 rfl (lv_at hl 1 rfl) ?_
  refine r_get X w CL4 2 (by decide) wf_X4_18 9 rfl rfl dX4_copyFrom_31 ?_
  refine lv_iconst (v := 0) hx hb dX4_copyFrom_34 (by decide) ?_
  refine lv_aload_n hx hb dX4_copyFrom_35 rfl (lv_at hl 0 rfl) ?_
  refine r_get X w CL4 2 (by decide) wf_X4_18 0 rfl rfl dX4_copyFrom_36 ?_
  refine lv_iconst (v := 0) hx hb dX4_copyFrom_39 (by decide) ?_
  refine lv_bipush (v := 12) hx hb dX4_copyFrom_40 (by decide) ?_
  refine r_copy X w (wSt E a (va_up (va_up (va_up σ 0 (σo 0)) 1 (σo 1)) 2 (σo 2)) ++ wSt E b σo) wm_X4_45 12 3 rfl rfl (by decide) rfl rfl hl.1 (Nat.le_of_ble_eq_true rfl) (Nat.le_of_ble_eq_true rfl) dX4_copyFrom_42 (fun H locs w => ?_)
  refine lv_aload_n hx hb dX4_copyFrom_45 rfl (lv_at hl 1 rfl) ?_
  refine r_get X w CL4 3 (by decide) wf_X4_21 9 rfl rfl dX4_copyFrom_46 ?_
  refine lv_iconst (v := 0) hx hb dX4_copyFrom_49 (by decide) ?_
  refine lv_aload_n hx hb dX4_copyFrom_50 rfl (lv_at hl 0 rfl) ?_
  refine r_get X w CL4 3 (by decide) wf_X4_21 0 rfl rfl dX4_copyFrom_51 ?_
  refine lv_iconst (v := 0) hx hb dX4_copyFrom_54 (by decide) ?_
  refine lv_bipush (v := 12) hx hb dX4_copyFrom_55 (by decide) ?_
  refine r_copy X w (wSt E a (va_up (va_up (va_up (va_up σ 0 (σo 0)) 1 (σo 1)) 2 (σo 2)) 3 (σo 3)) ++ wSt E b σo) wm_X4_45 13 4 rfl rfl (by decide) rfl rfl hl.1 (Nat.le_of_ble_eq_true rfl) (Nat.le_of_ble_eq_true rfl) dX4_copyFrom_57 (fun H locs w => ?_)
  refine lv_aload_n hx hb dX4_copyFrom_60 rfl (lv_at hl 1 rfl) ?_
  refine r_get X w CL4 4 (by decide) wf_X4_24 9 rfl rfl dX4_copyFrom_61 ?_
  refine lv_iconst (v := 0) hx hb dX4_copyFrom_64 (by decide) ?_
  refine lv_aload_n hx hb dX4_copyFrom_65 rfl (lv_at hl 0 rfl) ?_
  refine r_get X w CL4 4 (by decide) wf_X4_24 0 rfl rfl dX4_copyFrom_66 ?_
  refine lv_iconst (v := 0) hx hb dX4_copyFrom_69 (by decide) ?_
  refine lv_bipush (v := 12) hx hb dX4_copyFrom_70 (by decide) ?_
  refine r_copy X w (wSt E a (va_up (va_up (va_up (va_up (va_up σ 0 (σo 0)) 1 (σo 1)) 2 (σo 2)) 3 (σo 3)) 4 (σo 4)) ++ wSt E b σo) wm_X4_45 14 5 rfl rfl (by decide) rfl rfl hl.1 (Nat.le_of_ble_eq_true rfl) (Nat.le_of_ble_eq_true rfl) dX4_copyFrom_72 (fun H locs w => ?_)
  refine lv_aload_n hx hb dX4_copyFrom_75 rfl (lv_at hl 1 rfl) ?_
  refine r_get X w CL4 5 (by decide) wf_X4_27 9 rfl rfl dX4_copyFrom_76 ?_
  refine lv_iconst (v := 0) hx hb dX4_copyFrom_79 (by decide) ?_
  refine lv_aload_n hx hb dX4_copyFrom_80 rfl (lv_at hl 0 rfl) ?_
  refine r_get X w CL4 5 (by decide) wf_X4_27 0 rfl rfl dX4_copyFrom_81 ?_
  refine lv_iconst (v := 0) hx hb dX4_copyFrom_84 (by decide) ?_
  refine lv_bipush (v := 61) hx hb dX4_copyFrom_85 (by decide) ?_
  refine r_copy X w (wSt E a (va_up (va_up (va_up (va_up (va_up (va_up σ 0 (σo 0)) 1 (σo 1)) 2 (σo 2)) 3 (σo 3)) 4 (σo 4)) 5 (σo 5)) ++ wSt E b σo) wm_X4_45 15 6 rfl rfl (by decide) rfl rfl hl.1 (Nat.le_of_ble_eq_true rfl) (Nat.le_of_ble_eq_true rfl) dX4_copyFrom_87 (fun H locs w => ?_)
  refine lv_aload_n hx hb dX4_copyFrom_90 rfl (lv_at hl 1 rfl) ?_
  refine r_get X w CL4 6 (by decide) wf_X4_30 9 rfl rfl dX4_copyFrom_91 ?_
  refine lv_iconst (v := 0) hx hb dX4_copyFrom_94 (by decide) ?_
  refine lv_aload_n hx hb dX4_copyFrom_95 rfl (lv_at hl 0 rfl) ?_
  refine r_get X w CL4 6 (by decide) wf_X4_30 0 rfl rfl dX4_copyFrom_96 ?_
  refine lv_iconst (v := 0) hx hb dX4_copyFrom_99 (by decide) ?_
  refine lv_iconst (v := 3) hx hb dX4_copyFrom_100 (by decide) ?_
  refine r_copy X w (wSt E a (va_up (va_up (va_up (va_up (va_up (va_up (va_up σ 0 (σo 0)) 1 (σo 1)) 2 (σo 2)) 3 (σo 3)) 4 (σo 4)) 5 (σo 5)) 6 (σo 6)) ++ wSt E b σo) wm_X4_45 16 7 rfl rfl (by decide) rfl rfl hl.1 (Nat.le_of_ble_eq_true rfl) (Nat.le_of_ble_eq_true rfl) dX4_copyFrom_101 (fun H locs w => ?_)
  refine lv_aload_n hx hb dX4_copyFrom_104 rfl (lv_at hl 1 rfl) ?_
  refine r_get X w CL4 7 (by decide) wf_X4_33 9 rfl rfl dX4_copyFrom_105 ?_
  refine lv_iconst (v := 0) hx hb dX4_copyFrom_108 (by decide) ?_
  refine lv_aload_n hx hb dX4_copyFrom_109 rfl (lv_at hl 0 rfl) ?_
  refine r_get X w CL4 7 (by decide) wf_X4_33 0 rfl rfl dX4_copyFrom_110 ?_
  refine lv_iconst (v := 0) hx hb dX4_copyFrom_113 (by decide) ?_
  refine lv_iconst (v := 2) hx hb dX4_copyFrom_114 (by decide) ?_
  refine r_copy X w (wSt E a (va_up (va_up (va_up (va_up (va_up (va_up (va_up (va_up σ 0 (σo 0)) 1 (σo 1)) 2 (σo 2)) 3 (σo 3)) 4 (σo 4)) 5 (σo 5)) 6 (σo 6)) 7 (σo 7)) ++ wSt E b σo) wm_X4_45 17 8 rfl rfl (by decide) rfl rfl hl.1 (Nat.le_of_ble_eq_true rfl) (Nat.le_of_ble_eq_true rfl) dX4_copyFrom_115 (fun H locs w => ?_)
  refine lv_aload_n hx hb dX4_copyFrom_118 rfl (lv_at hl 0 rfl) ?_
  refine lv_aload_n hx hb dX4_copyFrom_119 rfl (lv_at hl 1 rfl) ?_
  refine r_get X w CL4 8 (by decide) wf_X4_55 9 rfl rfl dX4_copyFrom_120 ?_
  refine r_put X w (wSt E a (u2 (va_up (va_up (va_up (va_up (va_up (va_up (va_up (va_up σ 0 (σo 0)) 1 (σo 1)) 2 (σo 2)) 3 (σo 3)) 4 (σo 4)) 5 (σo 5)) 6 (σo 6)) 7 (σo 7)) 8 0 (σo 8 0)) ++ wSt E b σo) CL4 8 (by decide) wf_X4_55 0 rfl rfl rfl rfl (Nat.le_of_ble_eq_true rfl) (ax_14 (E := E)) dX4_copyFrom_123 (fun H locs w => ?_)
  refine lv_aload_n hx hb dX4_copyFrom_126 rfl (lv_at hl 0 rfl) ?_
  refine lv_aload_n hx hb dX4_copyFrom_127 rfl (lv_at hl 1 rfl) ?_
  refine r_get X w CL4 9 (by decide) wf_X4_51 9 rfl rfl dX4_copyFrom_128 ?_
  refine r_put X w (wSt E a (u2 (u2 (va_up (va_up (va_up (va_up (va_up (va_up (va_up (va_up σ 0 (σo 0)) 1 (σo 1)) 2 (σo 2)) 3 (σo 3)) 4 (σo 4)) 5 (σo 5)) 6 (σo 6)) 7 (σo 7)) 8 0 (σo 8 0)) 8 1 (σo 8 1)) ++ wSt E b σo) CL4 9 (by decide) wf_X4_51 0 rfl rfl rfl rfl (Nat.le_of_ble_eq_true rfl) (ax_15 (E := E)) dX4_copyFrom_131 (fun H locs w => ?_)
  refine lv_aload_n hx hb dX4_copyFrom_134 rfl (lv_at hl 0 rfl) ?_
  refine lv_aload_n hx hb dX4_copyFrom_135 rfl (lv_at hl 1 rfl) ?_
  refine r_get X w CL4 10 (by decide) wf_X4_58 9 rfl rfl dX4_copyFrom_136 ?_
  refine r_put X w (wSt E a (u2 (u2 (u2 (va_up (va_up (va_up (va_up (va_up (va_up (va_up (va_up σ 0 (σo 0)) 1 (σo 1)) 2 (σo 2)) 3 (σo 3)) 4 (σo 4)) 5 (σo 5)) 6 (σo 6)) 7 (σo 7)) 8 0 (σo 8 0)) 8 1 (σo 8 1)) 8 2 (σo 8 2)) ++ wSt E b σo) CL4 10 (by decide) wf_X4_58 0 rfl rfl rfl rfl (Nat.le_of_ble_eq_true rfl) (ax_16 (E := E)) dX4_copyFrom_139 (fun H locs w => ?_)
  refine lv_aload_n hx hb dX4_copyFrom_142 rfl (lv_at hl 0 rfl) ?_
  refine lv_aload_n hx hb dX4_copyFrom_143 rfl (lv_at hl 1 rfl) ?_
  refine r_get X w CL4 11 (by decide) wf_X4_61 9 rfl rfl dX4_copyFrom_144 ?_
  refine r_put X w (wSt E a (u2 (u2 (u2 (u2 (va_up (va_up (va_up (va_up (va_up (va_up (va_up (va_up σ 0 (σo 0)) 1 (σo 1)) 2 (σo 2)) 3 (σo 3)) 4 (σo 4)) 5 (σo 5)) 6 (σo 6)) 7 (σo 7)) 8 0 (σo 8 0)) 8 1 (σo 8 1)) 8 2 (σo 8 2)) 8 3 (σo 8 3)) ++ wSt E b σo) CL4 11 (by decide) wf_X4_61 0 rfl rfl rfl rfl (Nat.le_of_ble_eq_true rfl) (ax_17 (E := E)) dX4_copyFrom_147 (fun H locs w => ?_)
  refine lv_aload_n hx hb dX4_copyFrom_150 rfl (lv_at hl 0 rfl) ?_
  refine lv_aload_n hx hb dX4_copyFrom_151 rfl (lv_at hl 1 rfl) ?_
  refine r_get X w CL4 12 (by decide) wf_X4_64 9 rfl rfl dX4_copyFrom_152 ?_
  refine r_put X w (wSt E a (u2 (u2 (u2 (u2 (u2 (va_up (va_up (va_up (va_up (va_up (va_up (va_up (va_up σ 0 (σo 0)) 1 (σo 1)) 2 (σo 2)) 3 (σo 3)) 4 (σo 4)) 5 (σo 5)) 6 (σo 6)) 7 (σo 7)) 8 0 (σo 8 0)) 8 1 (σo 8 1)) 8 2 (σo 8 2)) 8 3 (σo 8 3)) 8 4 (σo 8 4)) ++ wSt E b σo) CL4 12 (by decide) wf_X4_64 0 rfl rfl rfl rfl (Nat.le_of_ble_eq_true rfl) (ax_18 (E := E)) dX4_copyFrom_155 (fun H locs w => ?_)
  refine lv_aload_n hx hb dX4_copyFrom_158 rfl (lv_at hl 0 rfl) ?_
  refine lv_aload_n hx hb dX4_copyFrom_159 rfl (lv_at hl 1 rfl) ?_
  refine r_get X w CL4 13 (by decide) wf_X4_67 9 rfl rfl dX4_copyFrom_160 ?_
  refine r_put X w (wSt E a (u2 (u2 (u2 (u2 (u2 (u2 (va_up (va_up (va_up (va_up (va_up (va_up (va_up (va_up σ 0 (σo 0)) 1 (σo 1)) 2 (σo 2)) 3 (σo 3)) 4 (σo 4)) 5 (σo 5)) 6 (σo 6)) 7 (σo 7)) 8 0 (σo 8 0)) 8 1 (σo 8 1)) 8 2 (σo 8 2)) 8 3 (σo 8 3)) 8 4 (σo 8 4)) 8 5 (σo 8 5)) ++ wSt E b σo) CL4 13 (by decide) wf_X4_67 0 rfl rfl rfl rfl (Nat.le_of_ble_eq_true rfl) (ax_19 (E := E)) dX4_copyFrom_163 (fun H locs w => ?_)
  have hq : fX4_copyFrom σ σo = (σo) := rfl
  rw [hq]
  exact r_vret X w hr dX4_copyFrom_166
end
section
/-! Walker, BallText (printed by wip/whole/gen/p07.py) -/
def fX5_startAt (d : N1) (ce : Int32) (di : Int32) : N1 := (upd (upd (upd d 0 (fX1_columnOf ce)) 1 (fX1_rowOf ce)) 2 di)
theorem dX5_startAt_0 : decode cX5_startAt 0 = .ok (.aload_n 0, 1) := by decide +kernel
theorem dX5_startAt_1 : decode cX5_startAt 1 = .ok (.iload_n 1, 1) := by decide +kernel
theorem dX5_startAt_2 : decode cX5_startAt 2 = .ok (.invokestatic 9, 3) := by decide +kernel
theorem dX5_startAt_5 : decode cX5_startAt 5 = .ok (.putfield 15, 3) := by decide +kernel
theorem dX5_startAt_8 : decode cX5_startAt 8 = .ok (.aload_n 0, 1) := by decide +kernel
theorem dX5_startAt_9 : decode cX5_startAt 9 = .ok (.iload_n 1, 1) := by decide +kernel
theorem dX5_startAt_10 : decode cX5_startAt 10 = .ok (.invokestatic 21, 3) := by decide +kernel
theorem dX5_startAt_13 : decode cX5_startAt 13 = .ok (.putfield 24, 3) := by decide +kernel
theorem dX5_startAt_16 : decode cX5_startAt 16 = .ok (.aload_n 0, 1) := by decide +kernel
theorem dX5_startAt_17 : decode cX5_startAt 17 = .ok (.iload_n 2, 1) := by decide +kernel
theorem dX5_startAt_18 : decode cX5_startAt 18 = .ok (.putfield 27, 3) := by decide +kernel
theorem dX5_startAt_21 : decode cX5_startAt 21 = .ok (.return_, 1) := by decide +kernel
theorem ck_X5_9 : CkS RX5 9 yX1_columnOf cX1_columnOf 2 (some .int) 1 := ⟨wm_X5_9, wst_yX1_columnOf, wi_X1, wc_yX1_columnOf, by decide +kernel⟩
theorem ck_X5_21 : CkS RX5 21 yX1_rowOf cX1_rowOf 2 (some .int) 1 := ⟨wm_X5_21, wst_yX1_rowOf, wi_X1, wc_yX1_rowOf, by decide +kernel⟩
theorem ax_20 {E : Ev} {a0 : Nat} {σ0 : N1} {x : Int32} : (wWk a0 σ0).set 0 (a0, .inr (4, ([.int (σ0 0), .int (σ0 1), .int (σ0 2)] : List Value).set 0 (.int x))) = wWk a0 (upd σ0 0 x) := rfl
theorem ax_21 {E : Ev} {a0 : Nat} {σ0 : N1} {x : Int32} : (wWk a0 σ0).set 0 (a0, .inr (4, ([.int (σ0 0), .int (σ0 1), .int (σ0 2)] : List Value).set 1 (.int x))) = wWk a0 (upd σ0 1 x) := rfl
theorem ax_22 {E : Ev} {a0 : Nat} {σ0 : N1} {x : Int32} : (wWk a0 σ0).set 0 (a0, .inr (4, ([.int (σ0 0), .int (σ0 1), .int (σ0 2)] : List Value).set 2 (.int x))) = wWk a0 (upd σ0 2 x) := rfl
set_option maxHeartbeats 4000000 in
set_option maxRecDepth 100000 in
theorem kX5_startAt (l : Launch) (E : Ev) (j : Nat) (d : N1) (ce : Int32) (di : Int32) : KQ l yX5_startAt cX5_startAt 3 none 2 42 E [.ref j, .int ce, .int di] (wWk j d) (QV E (wWk j d) (wWk j (fX5_startAt d ce di))) := by
  refine KQ.mk RX5 rfl (by decide +kernel) (Nat.le_of_ble_eq_true rfl) ?_
  intro p e s m below meth c ls X hr w hl
  have hx := X.1
  have hb := X.2.1
  have hl : lv_has ls 3 [(0, .ref j), (1, .int ce), (2, .int di)] := hl
  refine lv_aload_n hx hb dX5_startAt_0 rfl (lv_at hl 0 rfl) ?_
  refine lv_iload_n hx hb dX5_startAt_1 rfl (lv_at hl 1 rfl) ?_
  refine r_ci w (r_runS (As := [.int ce]) (rest := [.ref j]) X w (kX1_columnOf l E ce ) ck_X5_9 ⟨Nat.le_of_ble_eq_true rfl, Nat.le_of_ble_eq_true rfl⟩ [] rfl (by decide +kernel) hl.1 (Nat.le_of_ble_eq_true rfl) rfl dX5_startAt_2 ⟨Nat.le_of_ble_eq_true rfl, Nat.le_of_ble_eq_true rfl⟩) (wWk j d) [] rfl (by decide +kernel) rfl rfl (fun H locs w => ?_)
  refine r_put X w (wWk j (upd d 0 (fX1_columnOf ce))) CL5 0 (by decide) wf_X5_15 0 rfl rfl rfl rfl (Nat.le_of_ble_eq_true rfl) (ax_20 (E := E)) dX5_startAt_5 (fun H locs w => ?_)
  refine lv_aload_n hx hb dX5_startAt_8 rfl (lv_at hl 0 rfl) ?_
  refine lv_iload_n hx hb dX5_startAt_9 rfl (lv_at hl 1 rfl) ?_
  refine r_ci w (r_runS (As := [.int ce]) (rest := [.ref j]) X w (kX1_rowOf l E ce ) ck_X5_21 ⟨Nat.le_of_ble_eq_true rfl, Nat.le_of_ble_eq_true rfl⟩ [] rfl (by decide +kernel) hl.1 (Nat.le_of_ble_eq_true rfl) rfl dX5_startAt_10 ⟨Nat.le_of_ble_eq_true rfl, Nat.le_of_ble_eq_true rfl⟩) (wWk j (upd d 0 (fX1_columnOf ce))) [] rfl (by decide +kernel) rfl rfl (fun H locs w => ?_)
  refine r_put X w (wWk j (upd (upd d 0 (fX1_columnOf ce)) 1 (fX1_rowOf ce))) CL5 1 (by decide) wf_X5_24 0 rfl rfl rfl rfl (Nat.le_of_ble_eq_true rfl) (ax_21 (E := E)) dX5_startAt_13 (fun H locs w => ?_)
  refine lv_aload_n hx hb dX5_startAt_16 rfl (lv_at hl 0 rfl) ?_
  refine lv_iload_n hx hb dX5_startAt_17 rfl (lv_at hl 2 rfl) ?_
  refine r_put X w (wWk j (upd (upd (upd d 0 (fX1_columnOf ce)) 1 (fX1_rowOf ce)) 2 di)) CL5 2 (by decide) wf_X5_27 0 rfl rfl rfl rfl (Nat.le_of_ble_eq_true rfl) (ax_22 (E := E)) dX5_startAt_18 (fun H locs w => ?_)
  have hq : fX5_startAt d ce di = (upd (upd (upd d 0 (fX1_columnOf ce)) 1 (fX1_rowOf ce)) 2 di) := rfl
  rw [hq]
  exact r_vret X w hr dX5_startAt_21
def fX5_cellAhead (d : N1) : Int32 := ((fX1_cellAt ((d 0) + (fX1_stepQ (d 2))) ((d 1) + (fX1_stepR (d 2)))))
theorem dX5_cellAhead_0 : decode cX5_cellAhead 0 = .ok (.aload_n 0, 1) := by decide +kernel
theorem dX5_cellAhead_1 : decode cX5_cellAhead 1 = .ok (.getfield 15, 3) := by decide +kernel
theorem dX5_cellAhead_4 : decode cX5_cellAhead 4 = .ok (.aload_n 0, 1) := by decide +kernel
theorem dX5_cellAhead_5 : decode cX5_cellAhead 5 = .ok (.getfield 27, 3) := by decide +kernel
theorem dX5_cellAhead_8 : decode cX5_cellAhead 8 = .ok (.invokestatic 30, 3) := by decide +kernel
theorem dX5_cellAhead_11 : decode cX5_cellAhead 11 = .ok (.iadd, 1) := by decide +kernel
theorem dX5_cellAhead_12 : decode cX5_cellAhead 12 = .ok (.aload_n 0, 1) := by decide +kernel
theorem dX5_cellAhead_13 : decode cX5_cellAhead 13 = .ok (.getfield 24, 3) := by decide +kernel
theorem dX5_cellAhead_16 : decode cX5_cellAhead 16 = .ok (.aload_n 0, 1) := by decide +kernel
theorem dX5_cellAhead_17 : decode cX5_cellAhead 17 = .ok (.getfield 27, 3) := by decide +kernel
theorem dX5_cellAhead_20 : decode cX5_cellAhead 20 = .ok (.invokestatic 33, 3) := by decide +kernel
theorem dX5_cellAhead_23 : decode cX5_cellAhead 23 = .ok (.iadd, 1) := by decide +kernel
theorem dX5_cellAhead_24 : decode cX5_cellAhead 24 = .ok (.invokestatic 36, 3) := by decide +kernel
theorem dX5_cellAhead_27 : decode cX5_cellAhead 27 = .ok (.ireturn, 1) := by decide +kernel
theorem ck_X5_30 : CkS RX5 30 yX1_stepQ cX1_stepQ 1 (some .int) 1 := ⟨wm_X5_30, wst_yX1_stepQ, wi_X1, wc_yX1_stepQ, by decide +kernel⟩
theorem ck_X5_33 : CkS RX5 33 yX1_stepR cX1_stepR 1 (some .int) 1 := ⟨wm_X5_33, wst_yX1_stepR, wi_X1, wc_yX1_stepR, by decide +kernel⟩
theorem ck_X5_36 : CkS RX5 36 yX1_cellAt cX1_cellAt 2 (some .int) 2 := ⟨wm_X5_36, wst_yX1_cellAt, wi_X1, wc_yX1_cellAt, by decide +kernel⟩
set_option maxHeartbeats 4000000 in
set_option maxRecDepth 100000 in
theorem kX5_cellAhead (l : Launch) (E : Ev) (j : Nat) (d : N1) : KQ l yX5_cellAhead cX5_cellAhead 1 (some .int) 2 41 E [.ref j] (wWk j d) (QI E (wWk j d) (fX5_cellAhead d) (wWk j d)) := by
  refine KQ.mk RX5 rfl (by decide +kernel) (Nat.le_of_ble_eq_true rfl) ?_
  intro p e s m below meth c ls X hr w hl
  have hx := X.1
  have hb := X.2.1
  have hl : lv_has ls 1 [(0, .ref j)] := hl
  refine lv_aload_n hx hb dX5_cellAhead_0 rfl (lv_at hl 0 rfl) ?_
  refine r_get X w CL5 0 (by decide) wf_X5_15 0 rfl rfl dX5_cellAhead_1 ?_
  refine lv_aload_n hx hb dX5_cellAhead_4 rfl (lv_at hl 0 rfl) ?_
  refine r_get X w CL5 2 (by decide) wf_X5_27 0 rfl rfl dX5_cellAhead_5 ?_
  refine r_ci w (r_runS (As := [.int (d 2)]) (rest := [.int (d 0)]) X w (kX1_stepQ l E (d 2) ) ck_X5_30 ⟨Nat.le_of_ble_eq_true rfl, Nat.le_of_ble_eq_true rfl⟩ [] rfl (by decide +kernel) hl.1 (Nat.le_of_ble_eq_true rfl) rfl dX5_cellAhead_8 ⟨Nat.le_of_ble_eq_true rfl, Nat.le_of_ble_eq_true rfl⟩) (wWk j d) [] rfl (by decide +kernel) rfl rfl (fun H locs w => ?_)
  refine lv_iadd hx hb dX5_cellAhead_11 ?_
  refine lv_aload_n hx hb dX5_cellAhead_12 rfl (lv_at hl 0 rfl) ?_
  refine r_get X w CL5 1 (by decide) wf_X5_24 0 rfl rfl dX5_cellAhead_13 ?_
  refine lv_aload_n hx hb dX5_cellAhead_16 rfl (lv_at hl 0 rfl) ?_
  refine r_get X w CL5 2 (by decide) wf_X5_27 0 rfl rfl dX5_cellAhead_17 ?_
  refine r_ci w (r_runS (As := [.int (d 2)]) (rest := [.int (d 1), .int ((d 0) + (fX1_stepQ (d 2)))]) X w (kX1_stepR l E (d 2) ) ck_X5_33 ⟨Nat.le_of_ble_eq_true rfl, Nat.le_of_ble_eq_true rfl⟩ [] rfl (by decide +kernel) hl.1 (Nat.le_of_ble_eq_true rfl) rfl dX5_cellAhead_20 ⟨Nat.le_of_ble_eq_true rfl, Nat.le_of_ble_eq_true rfl⟩) (wWk j d) [] rfl (by decide +kernel) rfl rfl (fun H locs w => ?_)
  refine lv_iadd hx hb dX5_cellAhead_23 ?_
  refine r_ci w (r_runS (As := [.int ((d 0) + (fX1_stepQ (d 2))), .int ((d 1) + (fX1_stepR (d 2)))]) (rest := []) X w (kX1_cellAt l E ((d 0) + (fX1_stepQ (d 2))) ((d 1) + (fX1_stepR (d 2))) ) ck_X5_36 ⟨Nat.le_of_ble_eq_true rfl, Nat.le_of_ble_eq_true rfl⟩ [] rfl (by decide +kernel) hl.1 (Nat.le_of_ble_eq_true rfl) rfl dX5_cellAhead_24 ⟨Nat.le_of_ble_eq_true rfl, Nat.le_of_ble_eq_true rfl⟩) (wWk j d) [] rfl (by decide +kernel) rfl rfl (fun H locs w => ?_)
  have hq : fX5_cellAhead d = ((fX1_cellAt ((d 0) + (fX1_stepQ (d 2))) ((d 1) + (fX1_stepR (d 2))))) := rfl
  rw [hq]
  exact r_iret X w hr rfl dX5_cellAhead_27
def fX5_stepAhead (d : N1) : N1 := (upd (upd d 0 ((d 0) + (fX1_stepQ (d 2)))) 1 (((upd d 0 ((d 0) + (fX1_stepQ (d 2)))) 1) + (fX1_stepR ((upd d 0 ((d 0) + (fX1_stepQ (d 2)))) 2))))
theorem dX5_stepAhead_0 : decode cX5_stepAhead 0 = .ok (.aload_n 0, 1) := by decide +kernel
theorem dX5_stepAhead_1 : decode cX5_stepAhead 1 = .ok (.dup, 1) := by decide +kernel
theorem dX5_stepAhead_2 : decode cX5_stepAhead 2 = .ok (.getfield 15, 3) := by decide +kernel
theorem dX5_stepAhead_5 : decode cX5_stepAhead 5 = .ok (.aload_n 0, 1) := by decide +kernel
theorem dX5_stepAhead_6 : decode cX5_stepAhead 6 = .ok (.getfield 27, 3) := by decide +kernel
theorem dX5_stepAhead_9 : decode cX5_stepAhead 9 = .ok (.invokestatic 30, 3) := by decide +kernel
theorem dX5_stepAhead_12 : decode cX5_stepAhead 12 = .ok (.iadd, 1) := by decide +kernel
theorem dX5_stepAhead_13 : decode cX5_stepAhead 13 = .ok (.putfield 15, 3) := by decide +kernel
theorem dX5_stepAhead_16 : decode cX5_stepAhead 16 = .ok (.aload_n 0, 1) := by decide +kernel
theorem dX5_stepAhead_17 : decode cX5_stepAhead 17 = .ok (.dup, 1) := by decide +kernel
theorem dX5_stepAhead_18 : decode cX5_stepAhead 18 = .ok (.getfield 24, 3) := by decide +kernel
theorem dX5_stepAhead_21 : decode cX5_stepAhead 21 = .ok (.aload_n 0, 1) := by decide +kernel
theorem dX5_stepAhead_22 : decode cX5_stepAhead 22 = .ok (.getfield 27, 3) := by decide +kernel
theorem dX5_stepAhead_25 : decode cX5_stepAhead 25 = .ok (.invokestatic 33, 3) := by decide +kernel
theorem dX5_stepAhead_28 : decode cX5_stepAhead 28 = .ok (.iadd, 1) := by decide +kernel
theorem dX5_stepAhead_29 : decode cX5_stepAhead 29 = .ok (.putfield 24, 3) := by decide +kernel
theorem dX5_stepAhead_32 : decode cX5_stepAhead 32 = .ok (.return_, 1) := by decide +kernel
set_option maxHeartbeats 4000000 in
set_option maxRecDepth 100000 in
theorem kX5_stepAhead (l : Launch) (E : Ev) (j : Nat) (d : N1) : KQ l yX5_stepAhead cX5_stepAhead 1 none 2 40 E [.ref j] (wWk j d) (QV E (wWk j d) (wWk j (fX5_stepAhead d))) := by
  refine KQ.mk RX5 rfl (by decide +kernel) (Nat.le_of_ble_eq_true rfl) ?_
  intro p e s m below meth c ls X hr w hl
  have hx := X.1
  have hb := X.2.1
  have hl : lv_has ls 1 [(0, .ref j)] := hl
  refine lv_aload_n hx hb dX5_stepAhead_0 rfl (lv_at hl 0 rfl) ?_
  refine lv_dup hx hb dX5_stepAhead_1 rfl ?_
  refine r_get X w CL5 0 (by decide) wf_X5_15 0 rfl rfl dX5_stepAhead_2 ?_
  refine lv_aload_n hx hb dX5_stepAhead_5 rfl (lv_at hl 0 rfl) ?_
  refine r_get X w CL5 2 (by decide) wf_X5_27 0 rfl rfl dX5_stepAhead_6 ?_
  refine r_ci w (r_runS (As := [.int (d 2)]) (rest := [.int (d 0), .ref j]) X w (kX1_stepQ l E (d 2) ) ck_X5_30 ⟨Nat.le_of_ble_eq_true rfl, Nat.le_of_ble_eq_true rfl⟩ [] rfl (by decide +kernel) hl.1 (Nat.le_of_ble_eq_true rfl) rfl dX5_stepAhead_9 ⟨Nat.le_of_ble_eq_true rfl, Nat.le_of_ble_eq_true rfl⟩) (wWk j d) [] rfl (by decide +kernel) rfl rfl (fun H locs w => ?_)
  refine lv_iadd hx hb dX5_stepAhead_12 ?_
  refine r_put X w (wWk j (upd d 0 ((d 0) + (fX1_stepQ (d 2))))) CL5 0 (by decide) wf_X5_15 0 rfl rfl rfl rfl (Nat.le_of_ble_eq_true rfl) (ax_20 (E := E)) dX5_stepAhead_13 (fun H locs w => ?_)
  refine lv_aload_n hx hb dX5_stepAhead_16 rfl (lv_at hl 0 rfl) ?_
  refine lv_dup hx hb dX5_stepAhead_17 rfl ?_
  refine r_get X w CL5 1 (by decide) wf_X5_24 0 rfl rfl dX5_stepAhead_18 ?_
  refine lv_aload_n hx hb dX5_stepAhead_21 rfl (lv_at hl 0 rfl) ?_
  refine r_get X w CL5 2 (by decide) wf_X5_27 0 rfl rfl dX5_stepAhead_22 ?_
  refine r_ci w (r_runS (As := [.int ((upd d 0 ((d 0) + (fX1_stepQ (d 2)))) 2)]) (rest := [.int ((upd d 0 ((d 0) + (fX1_stepQ (d 2)))) 1), .ref j]) X w (kX1_stepR l E ((upd d 0 ((d 0) + (fX1_stepQ (d 2)))) 2) ) ck_X5_33 ⟨Nat.le_of_ble_eq_true rfl, Nat.le_of_ble_eq_true rfl⟩ [] rfl (by decide +kernel) hl.1 (Nat.le_of_ble_eq_true rfl) rfl dX5_stepAhead_25 ⟨Nat.le_of_ble_eq_true rfl, Nat.le_of_ble_eq_true rfl⟩) (wWk j (upd d 0 ((d 0) + (fX1_stepQ (d 2))))) [] rfl (by decide +kernel) rfl rfl (fun H locs w => ?_)
  refine lv_iadd hx hb dX5_stepAhead_28 ?_
  refine r_put X w (wWk j (upd (upd d 0 ((d 0) + (fX1_stepQ (d 2)))) 1 (((upd d 0 ((d 0) + (fX1_stepQ (d 2)))) 1) + (fX1_stepR ((upd d 0 ((d 0) + (fX1_stepQ (d 2)))) 2))))) CL5 1 (by decide) wf_X5_24 0 rfl rfl rfl rfl (Nat.le_of_ble_eq_true rfl) (ax_21 (E := E)) dX5_stepAhead_29 (fun H locs w => ?_)
  have hq : fX5_stepAhead d = (upd (upd d 0 ((d 0) + (fX1_stepQ (d 2)))) 1 (((upd d 0 ((d 0) + (fX1_stepQ (d 2)))) 1) + (fX1_stepR ((upd d 0 ((d 0) + (fX1_stepQ (d 2)))) 2)))) := rfl
  rw [hq]
  exact r_vret X w hr dX5_stepAhead_32
def fX5_turnAtBank (d : N1) : N1 := if (fX1_isOut ((d 0) + (fX1_stepQ (d 2)))) = 0 then (if (fX1_isOut ((d 1) + (fX1_stepR (d 2)))) = 0 then ((upd d 2 (fX1_turned (-(d 2)) 2))) else (if (fX1_isOut (((d 0) + (fX1_stepQ (d 2))) + ((d 1) + (fX1_stepR (d 2))))) = 0 then ((upd d 2 (fX1_turned (-(d 2)) 0))) else ((upd d 2 (fX1_turned (d 2) 3))))) else (if (fX1_isOut ((d 1) + (fX1_stepR (d 2)))) = 0 then (if (fX1_isOut (((d 0) + (fX1_stepQ (d 2))) + ((d 1) + (fX1_stepR (d 2))))) = 0 then ((upd d 2 (fX1_turned (-(d 2)) 4))) else ((upd d 2 (fX1_turned (d 2) 3)))) else ((upd d 2 (fX1_turned (d 2) 3))))
theorem dX5_turnAtBank_0 : decode cX5_turnAtBank 0 = .ok (.aload_n 0, 1) := by decide +kernel
theorem dX5_turnAtBank_1 : decode cX5_turnAtBank 1 = .ok (.getfield 15, 3) := by decide +kernel
theorem dX5_turnAtBank_4 : decode cX5_turnAtBank 4 = .ok (.aload_n 0, 1) := by decide +kernel
theorem dX5_turnAtBank_5 : decode cX5_turnAtBank 5 = .ok (.getfield 27, 3) := by decide +kernel
theorem dX5_turnAtBank_8 : decode cX5_turnAtBank 8 = .ok (.invokestatic 30, 3) := by decide +kernel
theorem dX5_turnAtBank_11 : decode cX5_turnAtBank 11 = .ok (.iadd, 1) := by decide +kernel
theorem dX5_turnAtBank_12 : decode cX5_turnAtBank 12 = .ok (.istore_n 1, 1) := by decide +kernel
theorem dX5_turnAtBank_13 : decode cX5_turnAtBank 13 = .ok (.aload_n 0, 1) := by decide +kernel
theorem dX5_turnAtBank_14 : decode cX5_turnAtBank 14 = .ok (.getfield 24, 3) := by decide +kernel
theorem dX5_turnAtBank_17 : decode cX5_turnAtBank 17 = .ok (.aload_n 0, 1) := by decide +kernel
theorem dX5_turnAtBank_18 : decode cX5_turnAtBank 18 = .ok (.getfield 27, 3) := by decide +kernel
theorem dX5_turnAtBank_21 : decode cX5_turnAtBank 21 = .ok (.invokestatic 33, 3) := by decide +kernel
theorem dX5_turnAtBank_24 : decode cX5_turnAtBank 24 = .ok (.iadd, 1) := by decide +kernel
theorem dX5_turnAtBank_25 : decode cX5_turnAtBank 25 = .ok (.istore_n 2, 1) := by decide +kernel
theorem dX5_turnAtBank_26 : decode cX5_turnAtBank 26 = .ok (.iload_n 1, 1) := by decide +kernel
theorem dX5_turnAtBank_27 : decode cX5_turnAtBank 27 = .ok (.invokestatic 40, 3) := by decide +kernel
theorem dX5_turnAtBank_30 : decode cX5_turnAtBank 30 = .ok (.istore_n 3, 1) := by decide +kernel
theorem dX5_turnAtBank_31 : decode cX5_turnAtBank 31 = .ok (.iload_n 2, 1) := by decide +kernel
theorem dX5_turnAtBank_32 : decode cX5_turnAtBank 32 = .ok (.invokestatic 40, 3) := by decide +kernel
theorem dX5_turnAtBank_35 : decode cX5_turnAtBank 35 = .ok (.istore 4, 2) := by decide +kernel
theorem dX5_turnAtBank_37 : decode cX5_turnAtBank 37 = .ok (.iload_n 1, 1) := by decide +kernel
theorem dX5_turnAtBank_38 : decode cX5_turnAtBank 38 = .ok (.iload_n 2, 1) := by decide +kernel
theorem dX5_turnAtBank_39 : decode cX5_turnAtBank 39 = .ok (.iadd, 1) := by decide +kernel
theorem dX5_turnAtBank_40 : decode cX5_turnAtBank 40 = .ok (.invokestatic 40, 3) := by decide +kernel
theorem dX5_turnAtBank_43 : decode cX5_turnAtBank 43 = .ok (.istore 5, 2) := by decide +kernel
theorem dX5_turnAtBank_45 : decode cX5_turnAtBank 45 = .ok (.iload_n 3, 1) := by decide +kernel
theorem dX5_turnAtBank_46 : decode cX5_turnAtBank 46 = .ok (.ifCond .eq 8, 3) := by decide +kernel
theorem dX5_turnAtBank_49 : decode cX5_turnAtBank 49 = .ok (.iload 4, 2) := by decide +kernel
theorem dX5_turnAtBank_51 : decode cX5_turnAtBank 51 = .ok (.ifCond .ne 22, 3) := by decide +kernel
theorem dX5_turnAtBank_54 : decode cX5_turnAtBank 54 = .ok (.iload_n 3, 1) := by decide +kernel
theorem dX5_turnAtBank_55 : decode cX5_turnAtBank 55 = .ok (.ifCond .eq 8, 3) := by decide +kernel
theorem dX5_turnAtBank_58 : decode cX5_turnAtBank 58 = .ok (.iload 5, 2) := by decide +kernel
theorem dX5_turnAtBank_60 : decode cX5_turnAtBank 60 = .ok (.ifCond .ne 13, 3) := by decide +kernel
theorem dX5_turnAtBank_63 : decode cX5_turnAtBank 63 = .ok (.iload 4, 2) := by decide +kernel
theorem dX5_turnAtBank_65 : decode cX5_turnAtBank 65 = .ok (.ifCond .eq 12, 3) := by decide +kernel
theorem dX5_turnAtBank_68 : decode cX5_turnAtBank 68 = .ok (.iload 5, 2) := by decide +kernel
theorem dX5_turnAtBank_70 : decode cX5_turnAtBank 70 = .ok (.ifCond .eq 7, 3) := by decide +kernel
theorem dX5_turnAtBank_73 : decode cX5_turnAtBank 73 = .ok (.iconst 1, 1) := by decide +kernel
theorem dX5_turnAtBank_74 : decode cX5_turnAtBank 74 = .ok (.goto 4, 3) := by decide +kernel
theorem dX5_turnAtBank_77 : decode cX5_turnAtBank 77 = .ok (.iconst 0, 1) := by decide +kernel
theorem dX5_turnAtBank_78 : decode cX5_turnAtBank 78 = .ok (.istore 6, 2) := by decide +kernel
theorem dX5_turnAtBank_80 : decode cX5_turnAtBank 80 = .ok (.iload 6, 2) := by decide +kernel
theorem dX5_turnAtBank_82 : decode cX5_turnAtBank 82 = .ok (.ifCond .eq 18, 3) := by decide +kernel
theorem dX5_turnAtBank_85 : decode cX5_turnAtBank 85 = .ok (.aload_n 0, 1) := by decide +kernel
theorem dX5_turnAtBank_86 : decode cX5_turnAtBank 86 = .ok (.aload_n 0, 1) := by decide +kernel
theorem dX5_turnAtBank_87 : decode cX5_turnAtBank 87 = .ok (.getfield 27, 3) := by decide +kernel
theorem dX5_turnAtBank_90 : decode cX5_turnAtBank 90 = .ok (.iconst 3, 1) := by decide +kernel
theorem dX5_turnAtBank_91 : decode cX5_turnAtBank 91 = .ok (.invokestatic 44, 3) := by decide +kernel
theorem dX5_turnAtBank_94 : decode cX5_turnAtBank 94 = .ok (.putfield 27, 3) := by decide +kernel
theorem dX5_turnAtBank_97 : decode cX5_turnAtBank 97 = .ok (.goto 39, 3) := by decide +kernel
theorem dX5_turnAtBank_100 : decode cX5_turnAtBank 100 = .ok (.iload_n 3, 1) := by decide +kernel
theorem dX5_turnAtBank_101 : decode cX5_turnAtBank 101 = .ok (.ifCond .eq 7, 3) := by decide +kernel
theorem dX5_turnAtBank_104 : decode cX5_turnAtBank 104 = .ok (.iconst 2, 1) := by decide +kernel
theorem dX5_turnAtBank_105 : decode cX5_turnAtBank 105 = .ok (.goto 13, 3) := by decide +kernel
theorem dX5_turnAtBank_108 : decode cX5_turnAtBank 108 = .ok (.iload 4, 2) := by decide +kernel
theorem dX5_turnAtBank_110 : decode cX5_turnAtBank 110 = .ok (.ifCond .eq 7, 3) := by decide +kernel
theorem dX5_turnAtBank_113 : decode cX5_turnAtBank 113 = .ok (.iconst 0, 1) := by decide +kernel
theorem dX5_turnAtBank_114 : decode cX5_turnAtBank 114 = .ok (.goto 4, 3) := by decide +kernel
theorem dX5_turnAtBank_117 : decode cX5_turnAtBank 117 = .ok (.iconst 1, 1) := by decide +kernel
theorem dX5_turnAtBank_118 : decode cX5_turnAtBank 118 = .ok (.istore 7, 2) := by decide +kernel
theorem dX5_turnAtBank_120 : decode cX5_turnAtBank 120 = .ok (.aload_n 0, 1) := by decide +kernel
theorem dX5_turnAtBank_121 : decode cX5_turnAtBank 121 = .ok (.aload_n 0, 1) := by decide +kernel
theorem dX5_turnAtBank_122 : decode cX5_turnAtBank 122 = .ok (.getfield 27, 3) := by decide +kernel
theorem dX5_turnAtBank_125 : decode cX5_turnAtBank 125 = .ok (.ineg, 1) := by decide +kernel
theorem dX5_turnAtBank_126 : decode cX5_turnAtBank 126 = .ok (.iconst 2, 1) := by decide +kernel
theorem dX5_turnAtBank_127 : decode cX5_turnAtBank 127 = .ok (.iload 7, 2) := by decide +kernel
theorem dX5_turnAtBank_129 : decode cX5_turnAtBank 129 = .ok (.imul, 1) := by decide +kernel
theorem dX5_turnAtBank_130 : decode cX5_turnAtBank 130 = .ok (.invokestatic 44, 3) := by decide +kernel
theorem dX5_turnAtBank_133 : decode cX5_turnAtBank 133 = .ok (.putfield 27, 3) := by decide +kernel
theorem dX5_turnAtBank_136 : decode cX5_turnAtBank 136 = .ok (.return_, 1) := by decide +kernel
theorem ck_X5_40 : CkS RX5 40 yX1_isOut cX1_isOut 1 (some .boolean) 1 := ⟨wm_X5_40, wst_yX1_isOut, wi_X1, wc_yX1_isOut, by decide +kernel⟩
theorem ck_X5_44 : CkS RX5 44 yX1_turned cX1_turned 2 (some .int) 2 := ⟨wm_X5_44, wst_yX1_turned, wi_X1, wc_yX1_turned, by decide +kernel⟩
set_option maxHeartbeats 4000000 in
set_option maxRecDepth 100000 in
theorem kX5_turnAtBank (l : Launch) (E : Ev) (j : Nat) (d : N1) : KQ l yX5_turnAtBank cX5_turnAtBank 8 none 2 43 E [.ref j] (wWk j d) (QV E (wWk j d) (wWk j (fX5_turnAtBank d))) := by
  refine KQ.mk RX5 rfl (by decide +kernel) (Nat.le_of_ble_eq_true rfl) ?_
  intro p e s m below meth c ls X hr w hl
  have hx := X.1
  have hb := X.2.1
  have hl : lv_has ls 8 [(0, .ref j)] := hl
  refine lv_aload_n hx hb dX5_turnAtBank_0 rfl (lv_at hl 0 rfl) ?_
  refine r_get X w CL5 0 (by decide) wf_X5_15 0 rfl rfl dX5_turnAtBank_1 ?_
  refine lv_aload_n hx hb dX5_turnAtBank_4 rfl (lv_at hl 0 rfl) ?_
  refine r_get X w CL5 2 (by decide) wf_X5_27 0 rfl rfl dX5_turnAtBank_5 ?_
  refine r_ci w (r_runS (As := [.int (d 2)]) (rest := [.int (d 0)]) X w (kX1_stepQ l E (d 2) ) ck_X5_30 ⟨Nat.le_of_ble_eq_true rfl, Nat.le_of_ble_eq_true rfl⟩ [] rfl (by decide +kernel) hl.1 (Nat.le_of_ble_eq_true rfl) rfl dX5_turnAtBank_8 ⟨Nat.le_of_ble_eq_true rfl, Nat.le_of_ble_eq_true rfl⟩) (wWk j d) [] rfl (by decide +kernel) rfl rfl (fun H locs w => ?_)
  refine lv_iadd hx hb dX5_turnAtBank_11 ?_
  refine lv_istore_n (lv' := [(1, .int ((d 0) + (fX1_stepQ (d 2)))), (0, .ref j)]) hx hb dX5_turnAtBank_12 rfl hl (by decide) rfl (fun ls hl => ?_)
  refine lv_aload_n hx hb dX5_turnAtBank_13 rfl (lv_at hl 1 rfl) ?_
  refine r_get X w CL5 1 (by decide) wf_X5_24 0 rfl rfl dX5_turnAtBank_14 ?_
  refine lv_aload_n hx hb dX5_turnAtBank_17 rfl (lv_at hl 1 rfl) ?_
  refine r_get X w CL5 2 (by decide) wf_X5_27 0 rfl rfl dX5_turnAtBank_18 ?_
  refine r_ci w (r_runS (As := [.int (d 2)]) (rest := [.int (d 1)]) X w (kX1_stepR l E (d 2) ) ck_X5_33 ⟨Nat.le_of_ble_eq_true rfl, Nat.le_of_ble_eq_true rfl⟩ [] rfl (by decide +kernel) hl.1 (Nat.le_of_ble_eq_true rfl) rfl dX5_turnAtBank_21 ⟨Nat.le_of_ble_eq_true rfl, Nat.le_of_ble_eq_true rfl⟩) (wWk j d) [] rfl (by decide +kernel) rfl rfl (fun H locs w => ?_)
  refine lv_iadd hx hb dX5_turnAtBank_24 ?_
  refine lv_istore_n (lv' := [(2, .int ((d 1) + (fX1_stepR (d 2)))), (1, .int ((d 0) + (fX1_stepQ (d 2)))), (0, .ref j)]) hx hb dX5_turnAtBank_25 rfl hl (by decide) rfl (fun ls hl => ?_)
  refine lv_iload_n hx hb dX5_turnAtBank_26 rfl (lv_at hl 1 rfl) ?_
  refine r_ci w (r_runS (As := [.int ((d 0) + (fX1_stepQ (d 2)))]) (rest := []) X w (kX1_isOut l E ((d 0) + (fX1_stepQ (d 2))) ) ck_X5_40 ⟨Nat.le_of_ble_eq_true rfl, Nat.le_of_ble_eq_true rfl⟩ [] rfl (by decide +kernel) hl.1 (Nat.le_of_ble_eq_true rfl) rfl dX5_turnAtBank_27 ⟨Nat.le_of_ble_eq_true rfl, Nat.le_of_ble_eq_true rfl⟩) (wWk j d) [] rfl (by decide +kernel) rfl rfl (fun H locs w => ?_)
  refine lv_istore_n (lv' := [(3, .int (fX1_isOut ((d 0) + (fX1_stepQ (d 2))))), (2, .int ((d 1) + (fX1_stepR (d 2)))), (1, .int ((d 0) + (fX1_stepQ (d 2)))), (0, .ref j)]) hx hb dX5_turnAtBank_30 rfl hl (by decide) rfl (fun ls hl => ?_)
  refine lv_iload_n hx hb dX5_turnAtBank_31 rfl (lv_at hl 1 rfl) ?_
  refine r_ci w (r_runS (As := [.int ((d 1) + (fX1_stepR (d 2)))]) (rest := []) X w (kX1_isOut l E ((d 1) + (fX1_stepR (d 2))) ) ck_X5_40 ⟨Nat.le_of_ble_eq_true rfl, Nat.le_of_ble_eq_true rfl⟩ [] rfl (by decide +kernel) hl.1 (Nat.le_of_ble_eq_true rfl) rfl dX5_turnAtBank_32 ⟨Nat.le_of_ble_eq_true rfl, Nat.le_of_ble_eq_true rfl⟩) (wWk j d) [] rfl (by decide +kernel) rfl rfl (fun H locs w => ?_)
  refine lv_istore (lv' := [(4, .int (fX1_isOut ((d 1) + (fX1_stepR (d 2))))), (3, .int (fX1_isOut ((d 0) + (fX1_stepQ (d 2))))), (2, .int ((d 1) + (fX1_stepR (d 2)))), (1, .int ((d 0) + (fX1_stepQ (d 2)))), (0, .ref j)]) hx hb dX5_turnAtBank_35 hl (by decide) rfl (fun ls hl => ?_)
  refine lv_iload_n hx hb dX5_turnAtBank_37 rfl (lv_at hl 3 rfl) ?_
  refine lv_iload_n hx hb dX5_turnAtBank_38 rfl (lv_at hl 2 rfl) ?_
  refine lv_iadd hx hb dX5_turnAtBank_39 ?_
  refine r_ci w (r_runS (As := [.int (((d 0) + (fX1_stepQ (d 2))) + ((d 1) + (fX1_stepR (d 2))))]) (rest := []) X w (kX1_isOut l E (((d 0) + (fX1_stepQ (d 2))) + ((d 1) + (fX1_stepR (d 2)))) ) ck_X5_40 ⟨Nat.le_of_ble_eq_true rfl, Nat.le_of_ble_eq_true rfl⟩ [] rfl (by decide +kernel) hl.1 (Nat.le_of_ble_eq_true rfl) rfl dX5_turnAtBank_40 ⟨Nat.le_of_ble_eq_true rfl, Nat.le_of_ble_eq_true rfl⟩) (wWk j d) [] rfl (by decide +kernel) rfl rfl (fun H locs w => ?_)
  refine lv_istore (lv' := [(5, .int (fX1_isOut (((d 0) + (fX1_stepQ (d 2))) + ((d 1) + (fX1_stepR (d 2)))))), (4, .int (fX1_isOut ((d 1) + (fX1_stepR (d 2))))), (3, .int (fX1_isOut ((d 0) + (fX1_stepQ (d 2))))), (2, .int ((d 1) + (fX1_stepR (d 2)))), (1, .int ((d 0) + (fX1_stepQ (d 2)))), (0, .ref j)]) hx hb dX5_turnAtBank_43 hl (by decide) rfl (fun ls hl => ?_)
  refine lv_iload_n hx hb dX5_turnAtBank_45 rfl (lv_at hl 2 rfl) ?_
  refine lv_if_eq (tgt := 54) hx hb dX5_turnAtBank_46 (by decide) (fun c46_1 => ?_) (fun c46_1 => ?_)
  · refine lv_iload_n hx hb dX5_turnAtBank_54 rfl (lv_at hl 2 rfl) ?_
    refine lv_if_eq (tgt := 63) hx hb dX5_turnAtBank_55 (by decide) (fun _ => ?_) (fun h => absurd c46_1 h)
    refine lv_iload hx hb dX5_turnAtBank_63 (lv_at hl 1 rfl) ?_
    refine lv_if_eq (tgt := 77) hx hb dX5_turnAtBank_65 (by decide) (fun c65_2 => ?_) (fun c65_2 => ?_)
    · refine lv_iconst (v := 0) hx hb dX5_turnAtBank_77 (by decide) ?_
      refine lv_istore (lv' := [(6, .int 0), (5, .int (fX1_isOut (((d 0) + (fX1_stepQ (d 2))) + ((d 1) + (fX1_stepR (d 2)))))), (4, .int (fX1_isOut ((d 1) + (fX1_stepR (d 2))))), (3, .int (fX1_isOut ((d 0) + (fX1_stepQ (d 2))))), (2, .int ((d 1) + (fX1_stepR (d 2)))), (1, .int ((d 0) + (fX1_stepQ (d 2)))), (0, .ref j)]) hx hb dX5_turnAtBank_78 hl (by decide) rfl (fun ls hl => ?_)
      refine lv_iload hx hb dX5_turnAtBank_80 (lv_at hl 0 rfl) ?_
      refine lv_if_eq (tgt := 100) hx hb dX5_turnAtBank_82 (by decide) (fun _ => ?_) (fun h => absurd h (by decide))
      refine lv_iload_n hx hb dX5_turnAtBank_100 rfl (lv_at hl 3 rfl) ?_
      refine lv_if_eq (tgt := 108) hx hb dX5_turnAtBank_101 (by decide) (fun _ => ?_) (fun h => absurd c46_1 h)
      refine lv_iload hx hb dX5_turnAtBank_108 (lv_at hl 2 rfl) ?_
      refine lv_if_eq (tgt := 117) hx hb dX5_turnAtBank_110 (by decide) (fun _ => ?_) (fun h => absurd c65_2 h)
      refine lv_iconst (v := 1) hx hb dX5_turnAtBank_117 (by decide) ?_
      refine lv_istore (lv' := [(7, .int 1), (6, .int 0), (5, .int (fX1_isOut (((d 0) + (fX1_stepQ (d 2))) + ((d 1) + (fX1_stepR (d 2)))))), (4, .int (fX1_isOut ((d 1) + (fX1_stepR (d 2))))), (3, .int (fX1_isOut ((d 0) + (fX1_stepQ (d 2))))), (2, .int ((d 1) + (fX1_stepR (d 2)))), (1, .int ((d 0) + (fX1_stepQ (d 2)))), (0, .ref j)]) hx hb dX5_turnAtBank_118 hl (by decide) rfl (fun ls hl => ?_)
      refine lv_aload_n hx hb dX5_turnAtBank_120 rfl (lv_at hl 7 rfl) ?_
      refine lv_aload_n hx hb dX5_turnAtBank_121 rfl (lv_at hl 7 rfl) ?_
      refine r_get X w CL5 2 (by decide) wf_X5_27 0 rfl rfl dX5_turnAtBank_122 ?_
      refine lv_ineg hx hb dX5_turnAtBank_125 ?_
      refine lv_iconst (v := 2) hx hb dX5_turnAtBank_126 (by decide) ?_
      refine lv_iload hx hb dX5_turnAtBank_127 (lv_at hl 0 rfl) ?_
      refine lv_imul hx hb dX5_turnAtBank_129 ?_
      rw [show ((2 : Int32) * 1) = 2 from by decide]
      refine r_ci w (r_runS (As := [.int (-(d 2)), .int 2]) (rest := [.ref j]) X w (kX1_turned l E (-(d 2)) 2 ) ck_X5_44 ⟨Nat.le_of_ble_eq_true rfl, Nat.le_of_ble_eq_true rfl⟩ [] rfl (by decide +kernel) hl.1 (Nat.le_of_ble_eq_true rfl) rfl dX5_turnAtBank_130 ⟨Nat.le_of_ble_eq_true rfl, Nat.le_of_ble_eq_true rfl⟩) (wWk j d) [] rfl (by decide +kernel) rfl rfl (fun H locs w => ?_)
      refine r_put X w (wWk j (upd d 2 (fX1_turned (-(d 2)) 2))) CL5 2 (by decide) wf_X5_27 0 rfl rfl rfl rfl (Nat.le_of_ble_eq_true rfl) (ax_22 (E := E)) dX5_turnAtBank_133 (fun H locs w => ?_)
      have hq : fX5_turnAtBank d = (upd d 2 (fX1_turned (-(d 2)) 2)) := by simp only [fX5_turnAtBank, if_pos c46_1, if_pos c65_2]
      rw [hq]
      exact r_vret X w hr dX5_turnAtBank_136
    · refine lv_iload hx hb dX5_turnAtBank_68 (lv_at hl 0 rfl) ?_
      refine lv_if_eq (tgt := 77) hx hb dX5_turnAtBank_70 (by decide) (fun c70_3 => ?_) (fun c70_3 => ?_)
      · refine lv_iconst (v := 0) hx hb dX5_turnAtBank_77 (by decide) ?_
        refine lv_istore (lv' := [(6, .int 0), (5, .int (fX1_isOut (((d 0) + (fX1_stepQ (d 2))) + ((d 1) + (fX1_stepR (d 2)))))), (4, .int (fX1_isOut ((d 1) + (fX1_stepR (d 2))))), (3, .int (fX1_isOut ((d 0) + (fX1_stepQ (d 2))))), (2, .int ((d 1) + (fX1_stepR (d 2)))), (1, .int ((d 0) + (fX1_stepQ (d 2)))), (0, .ref j)]) hx hb dX5_turnAtBank_78 hl (by decide) rfl (fun ls hl => ?_)
        refine lv_iload hx hb dX5_turnAtBank_80 (lv_at hl 0 rfl) ?_
        refine lv_if_eq (tgt := 100) hx hb dX5_turnAtBank_82 (by decide) (fun _ => ?_) (fun h => absurd h (by decide))
        refine lv_iload_n hx hb dX5_turnAtBank_100 rfl (lv_at hl 3 rfl) ?_
        refine lv_if_eq (tgt := 108) hx hb dX5_turnAtBank_101 (by decide) (fun _ => ?_) (fun h => absurd c46_1 h)
        refine lv_iload hx hb dX5_turnAtBank_108 (lv_at hl 2 rfl) ?_
        refine lv_if_eq (tgt := 117) hx hb dX5_turnAtBank_110 (by decide) (fun h => absurd h c65_2) (fun _ => ?_)
        refine lv_iconst (v := 0) hx hb dX5_turnAtBank_113 (by decide) ?_
        refine lv_goto (tgt := 118) hx hb dX5_turnAtBank_114 (by decide) ?_
        refine lv_istore (lv' := [(7, .int 0), (6, .int 0), (5, .int (fX1_isOut (((d 0) + (fX1_stepQ (d 2))) + ((d 1) + (fX1_stepR (d 2)))))), (4, .int (fX1_isOut ((d 1) + (fX1_stepR (d 2))))), (3, .int (fX1_isOut ((d 0) + (fX1_stepQ (d 2))))), (2, .int ((d 1) + (fX1_stepR (d 2)))), (1, .int ((d 0) + (fX1_stepQ (d 2)))), (0, .ref j)]) hx hb dX5_turnAtBank_118 hl (by decide) rfl (fun ls hl => ?_)
        refine lv_aload_n hx hb dX5_turnAtBank_120 rfl (lv_at hl 7 rfl) ?_
        refine lv_aload_n hx hb dX5_turnAtBank_121 rfl (lv_at hl 7 rfl) ?_
        refine r_get X w CL5 2 (by decide) wf_X5_27 0 rfl rfl dX5_turnAtBank_122 ?_
        refine lv_ineg hx hb dX5_turnAtBank_125 ?_
        refine lv_iconst (v := 2) hx hb dX5_turnAtBank_126 (by decide) ?_
        refine lv_iload hx hb dX5_turnAtBank_127 (lv_at hl 0 rfl) ?_
        refine lv_imul hx hb dX5_turnAtBank_129 ?_
        rw [show ((2 : Int32) * 0) = 0 from by decide]
        refine r_ci w (r_runS (As := [.int (-(d 2)), .int 0]) (rest := [.ref j]) X w (kX1_turned l E (-(d 2)) 0 ) ck_X5_44 ⟨Nat.le_of_ble_eq_true rfl, Nat.le_of_ble_eq_true rfl⟩ [] rfl (by decide +kernel) hl.1 (Nat.le_of_ble_eq_true rfl) rfl dX5_turnAtBank_130 ⟨Nat.le_of_ble_eq_true rfl, Nat.le_of_ble_eq_true rfl⟩) (wWk j d) [] rfl (by decide +kernel) rfl rfl (fun H locs w => ?_)
        refine r_put X w (wWk j (upd d 2 (fX1_turned (-(d 2)) 0))) CL5 2 (by decide) wf_X5_27 0 rfl rfl rfl rfl (Nat.le_of_ble_eq_true rfl) (ax_22 (E := E)) dX5_turnAtBank_133 (fun H locs w => ?_)
        have hq : fX5_turnAtBank d = (upd d 2 (fX1_turned (-(d 2)) 0)) := by simp only [fX5_turnAtBank, if_pos c46_1, if_neg c65_2, if_pos c70_3]
        rw [hq]
        exact r_vret X w hr dX5_turnAtBank_136
      · refine lv_iconst (v := 1) hx hb dX5_turnAtBank_73 (by decide) ?_
        refine lv_goto (tgt := 78) hx hb dX5_turnAtBank_74 (by decide) ?_
        refine lv_istore (lv' := [(6, .int 1), (5, .int (fX1_isOut (((d 0) + (fX1_stepQ (d 2))) + ((d 1) + (fX1_stepR (d 2)))))), (4, .int (fX1_isOut ((d 1) + (fX1_stepR (d 2))))), (3, .int (fX1_isOut ((d 0) + (fX1_stepQ (d 2))))), (2, .int ((d 1) + (fX1_stepR (d 2)))), (1, .int ((d 0) + (fX1_stepQ (d 2)))), (0, .ref j)]) hx hb dX5_turnAtBank_78 hl (by decide) rfl (fun ls hl => ?_)
        refine lv_iload hx hb dX5_turnAtBank_80 (lv_at hl 0 rfl) ?_
        refine lv_if_eq (tgt := 100) hx hb dX5_turnAtBank_82 (by decide) (fun h => absurd h (by decide)) (fun _ => ?_)
        refine lv_aload_n hx hb dX5_turnAtBank_85 rfl (lv_at hl 6 rfl) ?_
        refine lv_aload_n hx hb dX5_turnAtBank_86 rfl (lv_at hl 6 rfl) ?_
        refine r_get X w CL5 2 (by decide) wf_X5_27 0 rfl rfl dX5_turnAtBank_87 ?_
        refine lv_iconst (v := 3) hx hb dX5_turnAtBank_90 (by decide) ?_
        refine r_ci w (r_runS (As := [.int (d 2), .int 3]) (rest := [.ref j]) X w (kX1_turned l E (d 2) 3 ) ck_X5_44 ⟨Nat.le_of_ble_eq_true rfl, Nat.le_of_ble_eq_true rfl⟩ [] rfl (by decide +kernel) hl.1 (Nat.le_of_ble_eq_true rfl) rfl dX5_turnAtBank_91 ⟨Nat.le_of_ble_eq_true rfl, Nat.le_of_ble_eq_true rfl⟩) (wWk j d) [] rfl (by decide +kernel) rfl rfl (fun H locs w => ?_)
        refine r_put X w (wWk j (upd d 2 (fX1_turned (d 2) 3))) CL5 2 (by decide) wf_X5_27 0 rfl rfl rfl rfl (Nat.le_of_ble_eq_true rfl) (ax_22 (E := E)) dX5_turnAtBank_94 (fun H locs w => ?_)
        refine lv_goto (tgt := 136) hx hb dX5_turnAtBank_97 (by decide) ?_
        have hq : fX5_turnAtBank d = (upd d 2 (fX1_turned (d 2) 3)) := by simp only [fX5_turnAtBank, if_pos c46_1, if_neg c65_2, if_neg c70_3]
        rw [hq]
        exact r_vret X w hr dX5_turnAtBank_136
  · refine lv_iload hx hb dX5_turnAtBank_49 (lv_at hl 1 rfl) ?_
    refine lv_if_ne (tgt := 73) hx hb dX5_turnAtBank_51 (by decide) (fun c51_4 => ?_) (fun c51_4 => ?_)
    · refine lv_iconst (v := 1) hx hb dX5_turnAtBank_73 (by decide) ?_
      refine lv_goto (tgt := 78) hx hb dX5_turnAtBank_74 (by decide) ?_
      refine lv_istore (lv' := [(6, .int 1), (5, .int (fX1_isOut (((d 0) + (fX1_stepQ (d 2))) + ((d 1) + (fX1_stepR (d 2)))))), (4, .int (fX1_isOut ((d 1) + (fX1_stepR (d 2))))), (3, .int (fX1_isOut ((d 0) + (fX1_stepQ (d 2))))), (2, .int ((d 1) + (fX1_stepR (d 2)))), (1, .int ((d 0) + (fX1_stepQ (d 2)))), (0, .ref j)]) hx hb dX5_turnAtBank_78 hl (by decide) rfl (fun ls hl => ?_)
      refine lv_iload hx hb dX5_turnAtBank_80 (lv_at hl 0 rfl) ?_
      refine lv_if_eq (tgt := 100) hx hb dX5_turnAtBank_82 (by decide) (fun h => absurd h (by decide)) (fun _ => ?_)
      refine lv_aload_n hx hb dX5_turnAtBank_85 rfl (lv_at hl 6 rfl) ?_
      refine lv_aload_n hx hb dX5_turnAtBank_86 rfl (lv_at hl 6 rfl) ?_
      refine r_get X w CL5 2 (by decide) wf_X5_27 0 rfl rfl dX5_turnAtBank_87 ?_
      refine lv_iconst (v := 3) hx hb dX5_turnAtBank_90 (by decide) ?_
      refine r_ci w (r_runS (As := [.int (d 2), .int 3]) (rest := [.ref j]) X w (kX1_turned l E (d 2) 3 ) ck_X5_44 ⟨Nat.le_of_ble_eq_true rfl, Nat.le_of_ble_eq_true rfl⟩ [] rfl (by decide +kernel) hl.1 (Nat.le_of_ble_eq_true rfl) rfl dX5_turnAtBank_91 ⟨Nat.le_of_ble_eq_true rfl, Nat.le_of_ble_eq_true rfl⟩) (wWk j d) [] rfl (by decide +kernel) rfl rfl (fun H locs w => ?_)
      refine r_put X w (wWk j (upd d 2 (fX1_turned (d 2) 3))) CL5 2 (by decide) wf_X5_27 0 rfl rfl rfl rfl (Nat.le_of_ble_eq_true rfl) (ax_22 (E := E)) dX5_turnAtBank_94 (fun H locs w => ?_)
      refine lv_goto (tgt := 136) hx hb dX5_turnAtBank_97 (by decide) ?_
      have hq : fX5_turnAtBank d = (upd d 2 (fX1_turned (d 2) 3)) := by simp only [fX5_turnAtBank, if_neg c46_1, if_neg c51_4]
      rw [hq]
      exact r_vret X w hr dX5_turnAtBank_136
    · refine lv_iload_n hx hb dX5_turnAtBank_54 rfl (lv_at hl 2 rfl) ?_
      refine lv_if_eq (tgt := 63) hx hb dX5_turnAtBank_55 (by decide) (fun h => absurd h c46_1) (fun _ => ?_)
      refine lv_iload hx hb dX5_turnAtBank_58 (lv_at hl 0 rfl) ?_
      refine lv_if_ne (tgt := 73) hx hb dX5_turnAtBank_60 (by decide) (fun c60_5 => ?_) (fun c60_5 => ?_)
      · refine lv_iconst (v := 1) hx hb dX5_turnAtBank_73 (by decide) ?_
        refine lv_goto (tgt := 78) hx hb dX5_turnAtBank_74 (by decide) ?_
        refine lv_istore (lv' := [(6, .int 1), (5, .int (fX1_isOut (((d 0) + (fX1_stepQ (d 2))) + ((d 1) + (fX1_stepR (d 2)))))), (4, .int (fX1_isOut ((d 1) + (fX1_stepR (d 2))))), (3, .int (fX1_isOut ((d 0) + (fX1_stepQ (d 2))))), (2, .int ((d 1) + (fX1_stepR (d 2)))), (1, .int ((d 0) + (fX1_stepQ (d 2)))), (0, .ref j)]) hx hb dX5_turnAtBank_78 hl (by decide) rfl (fun ls hl => ?_)
        refine lv_iload hx hb dX5_turnAtBank_80 (lv_at hl 0 rfl) ?_
        refine lv_if_eq (tgt := 100) hx hb dX5_turnAtBank_82 (by decide) (fun h => absurd h (by decide)) (fun _ => ?_)
        refine lv_aload_n hx hb dX5_turnAtBank_85 rfl (lv_at hl 6 rfl) ?_
        refine lv_aload_n hx hb dX5_turnAtBank_86 rfl (lv_at hl 6 rfl) ?_
        refine r_get X w CL5 2 (by decide) wf_X5_27 0 rfl rfl dX5_turnAtBank_87 ?_
        refine lv_iconst (v := 3) hx hb dX5_turnAtBank_90 (by decide) ?_
        refine r_ci w (r_runS (As := [.int (d 2), .int 3]) (rest := [.ref j]) X w (kX1_turned l E (d 2) 3 ) ck_X5_44 ⟨Nat.le_of_ble_eq_true rfl, Nat.le_of_ble_eq_true rfl⟩ [] rfl (by decide +kernel) hl.1 (Nat.le_of_ble_eq_true rfl) rfl dX5_turnAtBank_91 ⟨Nat.le_of_ble_eq_true rfl, Nat.le_of_ble_eq_true rfl⟩) (wWk j d) [] rfl (by decide +kernel) rfl rfl (fun H locs w => ?_)
        refine r_put X w (wWk j (upd d 2 (fX1_turned (d 2) 3))) CL5 2 (by decide) wf_X5_27 0 rfl rfl rfl rfl (Nat.le_of_ble_eq_true rfl) (ax_22 (E := E)) dX5_turnAtBank_94 (fun H locs w => ?_)
        refine lv_goto (tgt := 136) hx hb dX5_turnAtBank_97 (by decide) ?_
        have hq : fX5_turnAtBank d = (upd d 2 (fX1_turned (d 2) 3)) := by simp only [fX5_turnAtBank, if_neg c46_1, if_pos c51_4, if_neg c60_5]
        rw [hq]
        exact r_vret X w hr dX5_turnAtBank_136
      · refine lv_iload hx hb dX5_turnAtBank_63 (lv_at hl 1 rfl) ?_
        refine lv_if_eq (tgt := 77) hx hb dX5_turnAtBank_65 (by decide) (fun _ => ?_) (fun h => absurd c51_4 h)
        refine lv_iconst (v := 0) hx hb dX5_turnAtBank_77 (by decide) ?_
        refine lv_istore (lv' := [(6, .int 0), (5, .int (fX1_isOut (((d 0) + (fX1_stepQ (d 2))) + ((d 1) + (fX1_stepR (d 2)))))), (4, .int (fX1_isOut ((d 1) + (fX1_stepR (d 2))))), (3, .int (fX1_isOut ((d 0) + (fX1_stepQ (d 2))))), (2, .int ((d 1) + (fX1_stepR (d 2)))), (1, .int ((d 0) + (fX1_stepQ (d 2)))), (0, .ref j)]) hx hb dX5_turnAtBank_78 hl (by decide) rfl (fun ls hl => ?_)
        refine lv_iload hx hb dX5_turnAtBank_80 (lv_at hl 0 rfl) ?_
        refine lv_if_eq (tgt := 100) hx hb dX5_turnAtBank_82 (by decide) (fun _ => ?_) (fun h => absurd h (by decide))
        refine lv_iload_n hx hb dX5_turnAtBank_100 rfl (lv_at hl 3 rfl) ?_
        refine lv_if_eq (tgt := 108) hx hb dX5_turnAtBank_101 (by decide) (fun h => absurd h c46_1) (fun _ => ?_)
        refine lv_iconst (v := 2) hx hb dX5_turnAtBank_104 (by decide) ?_
        refine lv_goto (tgt := 118) hx hb dX5_turnAtBank_105 (by decide) ?_
        refine lv_istore (lv' := [(7, .int 2), (6, .int 0), (5, .int (fX1_isOut (((d 0) + (fX1_stepQ (d 2))) + ((d 1) + (fX1_stepR (d 2)))))), (4, .int (fX1_isOut ((d 1) + (fX1_stepR (d 2))))), (3, .int (fX1_isOut ((d 0) + (fX1_stepQ (d 2))))), (2, .int ((d 1) + (fX1_stepR (d 2)))), (1, .int ((d 0) + (fX1_stepQ (d 2)))), (0, .ref j)]) hx hb dX5_turnAtBank_118 hl (by decide) rfl (fun ls hl => ?_)
        refine lv_aload_n hx hb dX5_turnAtBank_120 rfl (lv_at hl 7 rfl) ?_
        refine lv_aload_n hx hb dX5_turnAtBank_121 rfl (lv_at hl 7 rfl) ?_
        refine r_get X w CL5 2 (by decide) wf_X5_27 0 rfl rfl dX5_turnAtBank_122 ?_
        refine lv_ineg hx hb dX5_turnAtBank_125 ?_
        refine lv_iconst (v := 2) hx hb dX5_turnAtBank_126 (by decide) ?_
        refine lv_iload hx hb dX5_turnAtBank_127 (lv_at hl 0 rfl) ?_
        refine lv_imul hx hb dX5_turnAtBank_129 ?_
        rw [show ((2 : Int32) * 2) = 4 from by decide]
        refine r_ci w (r_runS (As := [.int (-(d 2)), .int 4]) (rest := [.ref j]) X w (kX1_turned l E (-(d 2)) 4 ) ck_X5_44 ⟨Nat.le_of_ble_eq_true rfl, Nat.le_of_ble_eq_true rfl⟩ [] rfl (by decide +kernel) hl.1 (Nat.le_of_ble_eq_true rfl) rfl dX5_turnAtBank_130 ⟨Nat.le_of_ble_eq_true rfl, Nat.le_of_ble_eq_true rfl⟩) (wWk j d) [] rfl (by decide +kernel) rfl rfl (fun H locs w => ?_)
        refine r_put X w (wWk j (upd d 2 (fX1_turned (-(d 2)) 4))) CL5 2 (by decide) wf_X5_27 0 rfl rfl rfl rfl (Nat.le_of_ble_eq_true rfl) (ax_22 (E := E)) dX5_turnAtBank_133 (fun H locs w => ?_)
        have hq : fX5_turnAtBank d = (upd d 2 (fX1_turned (-(d 2)) 4)) := by simp only [fX5_turnAtBank, if_neg c46_1, if_pos c51_4, if_pos c60_5]
        rw [hq]
        exact r_vret X w hr dX5_turnAtBank_136
def fX5_turnOnIfOpen (d : N1) : N1 := if (fX1_cellAt ((d 0) + (fX1_stepQ (fX1_turned (d 2) 1))) ((d 1) + (fX1_stepR (fX1_turned (d 2) 1)))) = (-5) then ((d)) else ((upd d 2 (fX1_turned (d 2) 1)))
theorem dX5_turnOnIfOpen_0 : decode cX5_turnOnIfOpen 0 = .ok (.aload_n 0, 1) := by decide +kernel
theorem dX5_turnOnIfOpen_1 : decode cX5_turnOnIfOpen 1 = .ok (.getfield 27, 3) := by decide +kernel
theorem dX5_turnOnIfOpen_4 : decode cX5_turnOnIfOpen 4 = .ok (.iconst 1, 1) := by decide +kernel
theorem dX5_turnOnIfOpen_5 : decode cX5_turnOnIfOpen 5 = .ok (.invokestatic 44, 3) := by decide +kernel
theorem dX5_turnOnIfOpen_8 : decode cX5_turnOnIfOpen 8 = .ok (.istore_n 1, 1) := by decide +kernel
theorem dX5_turnOnIfOpen_9 : decode cX5_turnOnIfOpen 9 = .ok (.aload_n 0, 1) := by decide +kernel
theorem dX5_turnOnIfOpen_10 : decode cX5_turnOnIfOpen 10 = .ok (.getfield 15, 3) := by decide +kernel
theorem dX5_turnOnIfOpen_13 : decode cX5_turnOnIfOpen 13 = .ok (.iload_n 1, 1) := by decide +kernel
theorem dX5_turnOnIfOpen_14 : decode cX5_turnOnIfOpen 14 = .ok (.invokestatic 30, 3) := by decide +kernel
theorem dX5_turnOnIfOpen_17 : decode cX5_turnOnIfOpen 17 = .ok (.iadd, 1) := by decide +kernel
theorem dX5_turnOnIfOpen_18 : decode cX5_turnOnIfOpen 18 = .ok (.aload_n 0, 1) := by decide +kernel
theorem dX5_turnOnIfOpen_19 : decode cX5_turnOnIfOpen 19 = .ok (.getfield 24, 3) := by decide +kernel
theorem dX5_turnOnIfOpen_22 : decode cX5_turnOnIfOpen 22 = .ok (.iload_n 1, 1) := by decide +kernel
theorem dX5_turnOnIfOpen_23 : decode cX5_turnOnIfOpen 23 = .ok (.invokestatic 33, 3) := by decide +kernel
theorem dX5_turnOnIfOpen_26 : decode cX5_turnOnIfOpen 26 = .ok (.iadd, 1) := by decide +kernel
theorem dX5_turnOnIfOpen_27 : decode cX5_turnOnIfOpen 27 = .ok (.invokestatic 36, 3) := by decide +kernel
theorem dX5_turnOnIfOpen_30 : decode cX5_turnOnIfOpen 30 = .ok (.bipush (-5), 2) := by decide +kernel
theorem dX5_turnOnIfOpen_32 : decode cX5_turnOnIfOpen 32 = .ok (.if_icmp .eq 8, 3) := by decide +kernel
theorem dX5_turnOnIfOpen_35 : decode cX5_turnOnIfOpen 35 = .ok (.aload_n 0, 1) := by decide +kernel
theorem dX5_turnOnIfOpen_36 : decode cX5_turnOnIfOpen 36 = .ok (.iload_n 1, 1) := by decide +kernel
theorem dX5_turnOnIfOpen_37 : decode cX5_turnOnIfOpen 37 = .ok (.putfield 27, 3) := by decide +kernel
theorem dX5_turnOnIfOpen_40 : decode cX5_turnOnIfOpen 40 = .ok (.return_, 1) := by decide +kernel
set_option maxHeartbeats 4000000 in
set_option maxRecDepth 100000 in
theorem kX5_turnOnIfOpen (l : Launch) (E : Ev) (j : Nat) (d : N1) : KQ l yX5_turnOnIfOpen cX5_turnOnIfOpen 2 none 2 43 E [.ref j] (wWk j d) (QV E (wWk j d) (wWk j (fX5_turnOnIfOpen d))) := by
  refine KQ.mk RX5 rfl (by decide +kernel) (Nat.le_of_ble_eq_true rfl) ?_
  intro p e s m below meth c ls X hr w hl
  have hx := X.1
  have hb := X.2.1
  have hl : lv_has ls 2 [(0, .ref j)] := hl
  refine lv_aload_n hx hb dX5_turnOnIfOpen_0 rfl (lv_at hl 0 rfl) ?_
  refine r_get X w CL5 2 (by decide) wf_X5_27 0 rfl rfl dX5_turnOnIfOpen_1 ?_
  refine lv_iconst (v := 1) hx hb dX5_turnOnIfOpen_4 (by decide) ?_
  refine r_ci w (r_runS (As := [.int (d 2), .int 1]) (rest := []) X w (kX1_turned l E (d 2) 1 ) ck_X5_44 ⟨Nat.le_of_ble_eq_true rfl, Nat.le_of_ble_eq_true rfl⟩ [] rfl (by decide +kernel) hl.1 (Nat.le_of_ble_eq_true rfl) rfl dX5_turnOnIfOpen_5 ⟨Nat.le_of_ble_eq_true rfl, Nat.le_of_ble_eq_true rfl⟩) (wWk j d) [] rfl (by decide +kernel) rfl rfl (fun H locs w => ?_)
  refine lv_istore_n (lv' := [(1, .int (fX1_turned (d 2) 1)), (0, .ref j)]) hx hb dX5_turnOnIfOpen_8 rfl hl (by decide) rfl (fun ls hl => ?_)
  refine lv_aload_n hx hb dX5_turnOnIfOpen_9 rfl (lv_at hl 1 rfl) ?_
  refine r_get X w CL5 0 (by decide) wf_X5_15 0 rfl rfl dX5_turnOnIfOpen_10 ?_
  refine lv_iload_n hx hb dX5_turnOnIfOpen_13 rfl (lv_at hl 0 rfl) ?_
  refine r_ci w (r_runS (As := [.int (fX1_turned (d 2) 1)]) (rest := [.int (d 0)]) X w (kX1_stepQ l E (fX1_turned (d 2) 1) ) ck_X5_30 ⟨Nat.le_of_ble_eq_true rfl, Nat.le_of_ble_eq_true rfl⟩ [] rfl (by decide +kernel) hl.1 (Nat.le_of_ble_eq_true rfl) rfl dX5_turnOnIfOpen_14 ⟨Nat.le_of_ble_eq_true rfl, Nat.le_of_ble_eq_true rfl⟩) (wWk j d) [] rfl (by decide +kernel) rfl rfl (fun H locs w => ?_)
  refine lv_iadd hx hb dX5_turnOnIfOpen_17 ?_
  refine lv_aload_n hx hb dX5_turnOnIfOpen_18 rfl (lv_at hl 1 rfl) ?_
  refine r_get X w CL5 1 (by decide) wf_X5_24 0 rfl rfl dX5_turnOnIfOpen_19 ?_
  refine lv_iload_n hx hb dX5_turnOnIfOpen_22 rfl (lv_at hl 0 rfl) ?_
  refine r_ci w (r_runS (As := [.int (fX1_turned (d 2) 1)]) (rest := [.int (d 1), .int ((d 0) + (fX1_stepQ (fX1_turned (d 2) 1)))]) X w (kX1_stepR l E (fX1_turned (d 2) 1) ) ck_X5_33 ⟨Nat.le_of_ble_eq_true rfl, Nat.le_of_ble_eq_true rfl⟩ [] rfl (by decide +kernel) hl.1 (Nat.le_of_ble_eq_true rfl) rfl dX5_turnOnIfOpen_23 ⟨Nat.le_of_ble_eq_true rfl, Nat.le_of_ble_eq_true rfl⟩) (wWk j d) [] rfl (by decide +kernel) rfl rfl (fun H locs w => ?_)
  refine lv_iadd hx hb dX5_turnOnIfOpen_26 ?_
  refine r_ci w (r_runS (As := [.int ((d 0) + (fX1_stepQ (fX1_turned (d 2) 1))), .int ((d 1) + (fX1_stepR (fX1_turned (d 2) 1)))]) (rest := []) X w (kX1_cellAt l E ((d 0) + (fX1_stepQ (fX1_turned (d 2) 1))) ((d 1) + (fX1_stepR (fX1_turned (d 2) 1))) ) ck_X5_36 ⟨Nat.le_of_ble_eq_true rfl, Nat.le_of_ble_eq_true rfl⟩ [] rfl (by decide +kernel) hl.1 (Nat.le_of_ble_eq_true rfl) rfl dX5_turnOnIfOpen_27 ⟨Nat.le_of_ble_eq_true rfl, Nat.le_of_ble_eq_true rfl⟩) (wWk j d) [] rfl (by decide +kernel) rfl rfl (fun H locs w => ?_)
  refine lv_bipush (v := (-5)) hx hb dX5_turnOnIfOpen_30 (by decide) ?_
  refine lv_icmp_eq (tgt := 40) hx hb dX5_turnOnIfOpen_32 (by decide) (fun c32_1 => ?_) (fun c32_1 => ?_)
  · have hq : fX5_turnOnIfOpen d = (d) := by simp only [fX5_turnOnIfOpen, if_pos c32_1]
    rw [hq]
    exact r_vret X w hr dX5_turnOnIfOpen_40
  · refine lv_aload_n hx hb dX5_turnOnIfOpen_35 rfl (lv_at hl 1 rfl) ?_
    refine lv_iload_n hx hb dX5_turnOnIfOpen_36 rfl (lv_at hl 0 rfl) ?_
    refine r_put X w (wWk j (upd d 2 (fX1_turned (d 2) 1))) CL5 2 (by decide) wf_X5_27 0 rfl rfl rfl rfl (Nat.le_of_ble_eq_true rfl) (ax_22 (E := E)) dX5_turnOnIfOpen_37 (fun H locs w => ?_)
    have hq : fX5_turnOnIfOpen d = (upd d 2 (fX1_turned (d 2) 1)) := by simp only [fX5_turnOnIfOpen, if_neg c32_1]
    rw [hq]
    exact r_vret X w hr dX5_turnOnIfOpen_40
/-- some steps, banks turned at -/
def wkN (d : N1) : Nat → N1
  | 0 => d
  | k + 1 => if fX5_cellAhead (wkN d k) = (-5) then fX5_stepAhead (fX5_turnAtBank (wkN d k)) else fX5_stepAhead (wkN d k)
def fX5_walk (d : N1) (N : Nat) : N1 := wkN d N
theorem dX5_walk_0 : decode cX5_walk 0 = .ok (.iconst 0, 1) := by decide +kernel
theorem dX5_walk_1 : decode cX5_walk 1 = .ok (.istore_n 2, 1) := by decide +kernel
theorem dX5_walk_2 : decode cX5_walk 2 = .ok (.iload_n 2, 1) := by decide +kernel
theorem dX5_walk_3 : decode cX5_walk 3 = .ok (.iload_n 1, 1) := by decide +kernel
theorem dX5_walk_4 : decode cX5_walk 4 = .ok (.if_icmp .ge 26, 3) := by decide +kernel
theorem dX5_walk_7 : decode cX5_walk 7 = .ok (.aload_n 0, 1) := by decide +kernel
theorem dX5_walk_8 : decode cX5_walk 8 = .ok (.invokevirtual 47, 3) := by decide +kernel
theorem dX5_walk_11 : decode cX5_walk 11 = .ok (.bipush (-5), 2) := by decide +kernel
theorem dX5_walk_13 : decode cX5_walk 13 = .ok (.if_icmp .ne 7, 3) := by decide +kernel
theorem dX5_walk_16 : decode cX5_walk 16 = .ok (.aload_n 0, 1) := by decide +kernel
theorem dX5_walk_17 : decode cX5_walk 17 = .ok (.invokevirtual 51, 3) := by decide +kernel
theorem dX5_walk_20 : decode cX5_walk 20 = .ok (.aload_n 0, 1) := by decide +kernel
theorem dX5_walk_21 : decode cX5_walk 21 = .ok (.invokevirtual 54, 3) := by decide +kernel
theorem dX5_walk_24 : decode cX5_walk 24 = .ok (.iinc 2 1, 3) := by decide +kernel
theorem dX5_walk_27 : decode cX5_walk 27 = .ok (.goto (-25), 3) := by decide +kernel
theorem dX5_walk_30 : decode cX5_walk 30 = .ok (.return_, 1) := by decide +kernel
theorem ck_X5_47 : CkV RX5 47 RX5 yX5_cellAhead cX5_cellAhead 1 (some .int) 0 := ⟨wm_X5_47, wim_yX5_cellAhead, wse_yX5_cellAhead, wi_X5, wc_yX5_cellAhead, by decide +kernel⟩
theorem ck_X5_51 : CkV RX5 51 RX5 yX5_turnAtBank cX5_turnAtBank 8 none 0 := ⟨wm_X5_51, wim_yX5_turnAtBank, wse_yX5_turnAtBank, wi_X5, wc_yX5_turnAtBank, by decide +kernel⟩
theorem ck_X5_54 : CkV RX5 54 RX5 yX5_stepAhead cX5_stepAhead 1 none 0 := ⟨wm_X5_54, wim_yX5_stepAhead, wse_yX5_stepAhead, wi_X5, wc_yX5_stepAhead, by decide +kernel⟩
theorem hc_23 {E : Ev} {a0 : Nat} {σ0 : N1} : ([0] : List Nat).map (fun i => (wWk a0 σ0)[i]?) = (wWk a0 σ0).map some := rfl
theorem ha_23 {E : Ev} {a0 : Nat} {σ0 : N1} {τ0_0 : N1} : (wWk a0 τ0_0).map Prod.fst = (wWk a0 σ0).map Prod.fst := rfl
theorem hw_23 {E : Ev} {a0 : Nat} {σ0 : N1} {τ0_0 : N1} : wput (wWk a0 σ0) [0] (wWk a0 τ0_0) = wWk a0 τ0_0 := rfl
set_option maxHeartbeats 4000000 in
set_option maxRecDepth 100000 in
theorem kX5_walk (l : Launch) (E : Ev) (j : Nat) (d : N1) (N : Nat) (hN : N < 2 ^ 31) : KQ l yX5_walk cX5_walk 3 none 3 70 E [.ref j, .int (nI N)] (wWk j d) (QV E (wWk j d) (wWk j (fX5_walk d N))) := by
  refine KQ.mk RX5 rfl (by decide +kernel) (Nat.le_of_ble_eq_true rfl) ?_
  intro p e s m below meth c ls X hr w hl
  have hx := X.1
  have hb := X.2.1
  have hl : lv_has ls 3 [(0, .ref j), (1, .int (nI N))] := hl
  refine lv_iconst (v := 0) hx hb dX5_walk_0 (by decide) ?_
  refine lv_istore_n (lv' := [(2, .int 0), (0, .ref j), (1, .int (nI N))]) hx hb dX5_walk_1 rfl hl (by decide) rfl (fun ls hl => ?_)
  have loop : ∀ (n k : Nat), k + n = N → ∀ (H : Heap) (locs : List Loc), Wd E (hB (wWk j d)) s (wWk j (wkN d k)) H locs → ∀ (ls : Array Slot), lv_has ls 3 [(2, .int (nI k)), (0, .ref j), (1, .int (nI N))] → W p l e { frames := 3, cells := 0, slots := 0, locals := 70 } s m (([.ref j, .int (nI N)] : List Value)).toArray below meth c H locs 0 0 (MQ below (QV E (wWk j d) (wWk j (fX5_walk d N))) (([.ref j, .int (nI N)] : List Value)).toArray s 0 0 (hB (wWk j d))) (F0 m 2 ls []) := by
    intro n
    induction n with
    | zero =>
      intro k hk_k H locs w ls hl
      obtain rfl : N = k := by omega
      refine lv_iload_n hx hb dX5_walk_2 rfl (lv_at hl 0 rfl) ?_
      refine lv_iload_n hx hb dX5_walk_3 rfl (lv_at hl 2 rfl) ?_
      refine lv_icmp_ge (tgt := 30) hx hb dX5_walk_4 (by decide) (fun _ => ?_) (fun h => absurd (nI_le (Nat.le_refl N) hN) h)
      have hq : fX5_walk d N = (wkN d N) := rfl
      rw [hq]
      exact r_vret X w hr dX5_walk_30
    | succ n ih =>
      intro k hk_k H locs w ls hl
      have hkN : k < N := by omega
      refine lv_iload_n hx hb dX5_walk_2 rfl (lv_at hl 0 rfl) ?_
      refine lv_iload_n hx hb dX5_walk_3 rfl (lv_at hl 2 rfl) ?_
      refine lv_icmp_ge (tgt := 30) hx hb dX5_walk_4 (by decide) (fun h => absurd h (nI_ge hkN hN)) (fun _ => ?_)
      refine lv_aload_n hx hb dX5_walk_7 rfl (lv_at hl 1 rfl) ?_
      refine r_ci w (r_runV (As := []) (rest := []) X w (kX5_cellAhead l E j (wkN d k) ) ck_X5_47 ⟨Nat.le_of_ble_eq_true rfl, Nat.le_of_ble_eq_true rfl⟩ [0] (hc_23 (E := E)) (by decide +kernel) (k0 := 0) CL5 rfl hl.1 (Nat.le_of_ble_eq_true rfl) rfl dX5_walk_8 ⟨Nat.le_of_ble_eq_true rfl, Nat.le_of_ble_eq_true rfl⟩) (wWk j (wkN d k)) [0] (hc_23 (E := E)) (by decide +kernel) (ha_23 (E := E)) (hw_23 (E := E)) (fun H locs w => ?_)
      refine lv_bipush (v := (-5)) hx hb dX5_walk_11 (by decide) ?_
      refine lv_icmp_ne (tgt := 20) hx hb dX5_walk_13 (by decide) (fun c13_3 => ?_) (fun c13_3 => ?_)
      · refine lv_aload_n hx hb dX5_walk_20 rfl (lv_at hl 1 rfl) ?_
        refine r_cv w (r_runV (As := []) (rest := []) X w (kX5_stepAhead l E j (wkN d k) ) ck_X5_54 ⟨Nat.le_of_ble_eq_true rfl, Nat.le_of_ble_eq_true rfl⟩ [0] (hc_23 (E := E)) (by decide +kernel) (k0 := 0) CL5 rfl hl.1 (Nat.le_of_ble_eq_true rfl) rfl dX5_walk_21 ⟨Nat.le_of_ble_eq_true rfl, Nat.le_of_ble_eq_true rfl⟩) (wWk j (fX5_stepAhead (wkN d k))) [0] (hc_23 (E := E)) (by decide +kernel) (ha_23 (E := E)) (hw_23 (E := E)) (fun H locs w => ?_)
        refine lv_iinc (v := (nI k) + 1) (lv' := [(2, .int ((nI k) + 1)), (0, .ref j), (1, .int (nI N))]) hx hb dX5_walk_24 hl (k := 0) rfl (by first | rfl | decide) (by decide) rfl (fun ls hl => ?_)
        refine lv_goto (tgt := 2) hx hb dX5_walk_27 (by decide) ?_
        have e0 : nI k + 1 = nI (k + 1) := nI_1 k
        rw [e0] at hl
        have e1 : (fX5_stepAhead (wkN d k)) = wkN d (k + 1) := by rw [wkN, if_neg c13_3]
        rw [e1] at w
        exact ih (k + 1) (by omega) _ _ w ls (lv_sub hl [0, 1, 2] rfl)
      · refine lv_aload_n hx hb dX5_walk_16 rfl (lv_at hl 1 rfl) ?_
        refine r_cv w (r_runV (As := []) (rest := []) X w (kX5_turnAtBank l E j (wkN d k) ) ck_X5_51 ⟨Nat.le_of_ble_eq_true rfl, Nat.le_of_ble_eq_true rfl⟩ [0] (hc_23 (E := E)) (by decide +kernel) (k0 := 0) CL5 rfl hl.1 (Nat.le_of_ble_eq_true rfl) rfl dX5_walk_17 ⟨Nat.le_of_ble_eq_true rfl, Nat.le_of_ble_eq_true rfl⟩) (wWk j (fX5_turnAtBank (wkN d k))) [0] (hc_23 (E := E)) (by decide +kernel) (ha_23 (E := E)) (hw_23 (E := E)) (fun H locs w => ?_)
        refine lv_aload_n hx hb dX5_walk_20 rfl (lv_at hl 1 rfl) ?_
        refine r_cv w (r_runV (As := []) (rest := []) X w (kX5_stepAhead l E j (fX5_turnAtBank (wkN d k)) ) ck_X5_54 ⟨Nat.le_of_ble_eq_true rfl, Nat.le_of_ble_eq_true rfl⟩ [0] (hc_23 (E := E)) (by decide +kernel) (k0 := 0) CL5 rfl hl.1 (Nat.le_of_ble_eq_true rfl) rfl dX5_walk_21 ⟨Nat.le_of_ble_eq_true rfl, Nat.le_of_ble_eq_true rfl⟩) (wWk j (fX5_stepAhead (fX5_turnAtBank (wkN d k)))) [0] (hc_23 (E := E)) (by decide +kernel) (ha_23 (E := E)) (hw_23 (E := E)) (fun H locs w => ?_)
        refine lv_iinc (v := (nI k) + 1) (lv' := [(2, .int ((nI k) + 1)), (0, .ref j), (1, .int (nI N))]) hx hb dX5_walk_24 hl (k := 0) rfl (by first | rfl | decide) (by decide) rfl (fun ls hl => ?_)
        refine lv_goto (tgt := 2) hx hb dX5_walk_27 (by decide) ?_
        have e0 : nI k + 1 = nI (k + 1) := nI_1 k
        rw [e0] at hl
        have e1 : (fX5_stepAhead (fX5_turnAtBank (wkN d k))) = wkN d (k + 1) := by rw [wkN, if_pos c13_3]
        rw [e1] at w
        exact ih (k + 1) (by omega) _ _ w ls (lv_sub hl [0, 1, 2] rfl)
  exact loop N 0 (by omega) _ _ w ls (lv_sub hl [0, 1, 2] rfl)
def fX0_append (t : N2) (ch : Int32) : Int32 × N2 := if (t 3 0) < 0 then ((0, t)) else (if (t 3 0) < 60 then ((1, u2 (u2 t 0 (t 3 0).toNatClampNeg ch) 3 0 (((u2 t 0 (t 3 0).toNatClampNeg ch) 3 0) + 1))) else ((0, t)))
theorem dX0_append_0 : decode cX0_append 0 = .ok (.aload_n 0, 1) := by decide +kernel
theorem dX0_append_1 : decode cX0_append 1 = .ok (.getfield 22, 3) := by decide +kernel
theorem dX0_append_4 : decode cX0_append 4 = .ok (.ifCond .lt 12, 3) := by decide +kernel
theorem dX0_append_7 : decode cX0_append 7 = .ok (.aload_n 0, 1) := by decide +kernel
theorem dX0_append_8 : decode cX0_append 8 = .ok (.getfield 22, 3) := by decide +kernel
theorem dX0_append_11 : decode cX0_append 11 = .ok (.bipush 60, 2) := by decide +kernel
theorem dX0_append_13 : decode cX0_append 13 = .ok (.if_icmp .lt 5, 3) := by decide +kernel
theorem dX0_append_16 : decode cX0_append 16 = .ok (.iconst 0, 1) := by decide +kernel
theorem dX0_append_17 : decode cX0_append 17 = .ok (.ireturn, 1) := by decide +kernel
theorem dX0_append_18 : decode cX0_append 18 = .ok (.aload_n 0, 1) := by decide +kernel
theorem dX0_append_19 : decode cX0_append 19 = .ok (.getfield 11, 3) := by decide +kernel
theorem dX0_append_22 : decode cX0_append 22 = .ok (.aload_n 0, 1) := by decide +kernel
theorem dX0_append_23 : decode cX0_append 23 = .ok (.getfield 22, 3) := by decide +kernel
theorem dX0_append_26 : decode cX0_append 26 = .ok (.iload_n 1, 1) := by decide +kernel
theorem dX0_append_27 : decode cX0_append 27 = .ok (.castore, 1) := by decide +kernel
theorem dX0_append_28 : decode cX0_append 28 = .ok (.aload_n 0, 1) := by decide +kernel
theorem dX0_append_29 : decode cX0_append 29 = .ok (.dup, 1) := by decide +kernel
theorem dX0_append_30 : decode cX0_append 30 = .ok (.getfield 22, 3) := by decide +kernel
theorem dX0_append_33 : decode cX0_append 33 = .ok (.iconst 1, 1) := by decide +kernel
theorem dX0_append_34 : decode cX0_append 34 = .ok (.iadd, 1) := by decide +kernel
theorem dX0_append_35 : decode cX0_append 35 = .ok (.putfield 22, 3) := by decide +kernel
theorem dX0_append_38 : decode cX0_append 38 = .ok (.iconst 1, 1) := by decide +kernel
theorem dX0_append_39 : decode cX0_append 39 = .ok (.ireturn, 1) := by decide +kernel
theorem ax_24 {E : Ev} {a0 : Nat → Nat} {σ0 : N2} {i x : Int32} : (wTx E a0 σ0).set 1 (a0 1, .inl (E.2.1.2.1, 60, .inl (upd (σ0 0) i.toNatClampNeg x))) = wTx E a0 (u2 σ0 0 i.toNatClampNeg x) := rfl
theorem ax_25 {E : Ev} {a0 : Nat → Nat} {σ0 : N2} {x : Int32} : (wTx E a0 σ0).set 0 (a0 0, .inr (0, ([.ref (a0 1), .int (σ0 3 0), .ref (a0 2), .ref (a0 3), .int (σ0 3 1), .int (σ0 3 2), .int (σ0 3 3)] : List Value).set 1 (.int x))) = wTx E a0 (u2 σ0 3 0 x) := rfl
set_option maxHeartbeats 4000000 in
set_option maxRecDepth 100000 in
theorem kX0_append (l : Launch) (E : Ev) (a : Nat → Nat) (t : N2) (ch : Int32) (hc : vp_nar .char ch = ch) : KQ l yX0_append cX0_append 2 (some .boolean) 0 0 E [.ref (a 0), .int ch] (wTx E a t) (QI E (wTx E a t) (fX0_append t ch).1 (wTx E a ((fX0_append t ch).2))) := by
  refine KQ.mk RX0 rfl (by decide +kernel) (Nat.le_of_ble_eq_true rfl) ?_
  intro p e s m below meth c ls X hr w hl
  have hx := X.1
  have hb := X.2.1
  have hl : lv_has ls 2 [(0, .ref (a 0)), (1, .int ch)] := hl
  refine lv_aload_n hx hb dX0_append_0 rfl (lv_at hl 0 rfl) ?_
  refine r_get X w CL0 1 (by decide) wf_X0_22 0 rfl rfl dX0_append_1 ?_
  refine lv_if_lt (tgt := 16) hx hb dX0_append_4 (by decide) (fun c4_1 => ?_) (fun c4_1 => ?_)
  · refine lv_iconst (v := 0) hx hb dX0_append_16 (by decide) ?_
    have hq : fX0_append t ch = (0, t) := by simp only [fX0_append, if_pos c4_1]
    obtain ⟨h0_, h1_⟩ := tup2 hq
    rw [h0_, h1_]
    exact r_zret X w hr (Or.inl rfl) rfl dX0_append_17
  · refine lv_aload_n hx hb dX0_append_7 rfl (lv_at hl 0 rfl) ?_
    refine r_get X w CL0 1 (by decide) wf_X0_22 0 rfl rfl dX0_append_8 ?_
    refine lv_bipush (v := 60) hx hb dX0_append_11 (by decide) ?_
    refine lv_icmp_lt (tgt := 18) hx hb dX0_append_13 (by decide) (fun c13_2 => ?_) (fun c13_2 => ?_)
    · refine lv_aload_n hx hb dX0_append_18 rfl (lv_at hl 0 rfl) ?_
      refine r_get X w CL0 0 (by decide) wf_X0_11 0 rfl rfl dX0_append_19 ?_
      refine lv_aload_n hx hb dX0_append_22 rfl (lv_at hl 0 rfl) ?_
      refine r_get X w CL0 1 (by decide) wf_X0_22 0 rfl rfl dX0_append_23 ?_
      refine lv_iload_n hx hb dX0_append_26 rfl (lv_at hl 1 rfl) ?_
      refine r_cast X w (wTx E a (u2 t 0 (t 3 0).toNatClampNeg ch)) 1 rfl (vin_lt 60 rfl c4_1 c13_2) hc (ax_24 (E := E)) dX0_append_27 (fun H locs w => ?_)
      refine lv_aload_n hx hb dX0_append_28 rfl (lv_at hl 0 rfl) ?_
      refine lv_dup hx hb dX0_append_29 rfl ?_
      refine r_get X w CL0 1 (by decide) wf_X0_22 0 rfl rfl dX0_append_30 ?_
      refine lv_iconst (v := 1) hx hb dX0_append_33 (by decide) ?_
      refine lv_iadd hx hb dX0_append_34 ?_
      refine r_put X w (wTx E a (u2 (u2 t 0 (t 3 0).toNatClampNeg ch) 3 0 (((u2 t 0 (t 3 0).toNatClampNeg ch) 3 0) + 1))) CL0 1 (by decide) wf_X0_22 0 rfl rfl rfl rfl (Nat.le_of_ble_eq_true rfl) (ax_25 (E := E)) dX0_append_35 (fun H locs w => ?_)
      refine lv_iconst (v := 1) hx hb dX0_append_38 (by decide) ?_
      have hq : fX0_append t ch = (1, u2 (u2 t 0 (t 3 0).toNatClampNeg ch) 3 0 (((u2 t 0 (t 3 0).toNatClampNeg ch) 3 0) + 1)) := by simp only [fX0_append, if_neg c4_1, if_pos c13_2]
      obtain ⟨h0_, h1_⟩ := tup2 hq
      rw [h0_, h1_]
      exact r_zret X w hr (Or.inr rfl) rfl dX0_append_39
    · refine lv_iconst (v := 0) hx hb dX0_append_16 (by decide) ?_
      have hq : fX0_append t ch = (0, t) := by simp only [fX0_append, if_neg c4_1, if_neg c13_2]
      obtain ⟨h0_, h1_⟩ := tup2 hq
      rw [h0_, h1_]
      exact r_zret X w hr (Or.inl rfl) rfl dX0_append_17
theorem zX0_append (t : N2) (ch : Int32) : (fX0_append t ch).1 = 0 ∨ (fX0_append t ch).1 = 1 := by
  unfold fX0_append
  repeat' split
  all_goals first | exact Or.inl rfl | exact Or.inr rfl | (simp; done) | exact Or.inl rfl
def fX0_cellOfBall (t : N2) (i : Int32) : Int32 := if i < 0 then (((-5))) else (if 16 ≤ i then (((-5))) else ((t 1 i.toNatClampNeg)))
theorem dX0_cellOfBall_0 : decode cX0_cellOfBall 0 = .ok (.iload_n 1, 1) := by decide +kernel
theorem dX0_cellOfBall_1 : decode cX0_cellOfBall 1 = .ok (.ifCond .lt 18, 3) := by decide +kernel
theorem dX0_cellOfBall_4 : decode cX0_cellOfBall 4 = .ok (.iload_n 1, 1) := by decide +kernel
theorem dX0_cellOfBall_5 : decode cX0_cellOfBall 5 = .ok (.bipush 16, 2) := by decide +kernel
theorem dX0_cellOfBall_7 : decode cX0_cellOfBall 7 = .ok (.if_icmp .ge 12, 3) := by decide +kernel
theorem dX0_cellOfBall_10 : decode cX0_cellOfBall 10 = .ok (.aload_n 0, 1) := by decide +kernel
theorem dX0_cellOfBall_11 : decode cX0_cellOfBall 11 = .ok (.getfield 15, 3) := by decide +kernel
theorem dX0_cellOfBall_14 : decode cX0_cellOfBall 14 = .ok (.iload_n 1, 1) := by decide +kernel
theorem dX0_cellOfBall_15 : decode cX0_cellOfBall 15 = .ok (.iaload, 1) := by decide +kernel
theorem dX0_cellOfBall_16 : decode cX0_cellOfBall 16 = .ok (.goto 5, 3) := by decide +kernel
theorem dX0_cellOfBall_19 : decode cX0_cellOfBall 19 = .ok (.bipush (-5), 2) := by decide +kernel
theorem dX0_cellOfBall_21 : decode cX0_cellOfBall 21 = .ok (.ireturn, 1) := by decide +kernel
set_option maxHeartbeats 4000000 in
set_option maxRecDepth 100000 in
theorem kX0_cellOfBall (l : Launch) (E : Ev) (a : Nat → Nat) (t : N2) (i : Int32) : KQ l yX0_cellOfBall cX0_cellOfBall 2 (some .int) 0 0 E [.ref (a 0), .int i] (wTx E a t) (QI E (wTx E a t) (fX0_cellOfBall t i) (wTx E a t)) := by
  refine KQ.mk RX0 rfl (by decide +kernel) (Nat.le_of_ble_eq_true rfl) ?_
  intro p e s m below meth c ls X hr w hl
  have hx := X.1
  have hb := X.2.1
  have hl : lv_has ls 2 [(0, .ref (a 0)), (1, .int i)] := hl
  refine lv_iload_n hx hb dX0_cellOfBall_0 rfl (lv_at hl 1 rfl) ?_
  refine lv_if_lt (tgt := 19) hx hb dX0_cellOfBall_1 (by decide) (fun c1_1 => ?_) (fun c1_1 => ?_)
  · refine lv_bipush (v := (-5)) hx hb dX0_cellOfBall_19 (by decide) ?_
    have hq : fX0_cellOfBall t i = ((-5)) := by simp only [fX0_cellOfBall, if_pos c1_1]
    rw [hq]
    exact r_iret X w hr rfl dX0_cellOfBall_21
  · refine lv_iload_n hx hb dX0_cellOfBall_4 rfl (lv_at hl 1 rfl) ?_
    refine lv_bipush (v := 16) hx hb dX0_cellOfBall_5 (by decide) ?_
    refine lv_icmp_ge (tgt := 19) hx hb dX0_cellOfBall_7 (by decide) (fun c7_2 => ?_) (fun c7_2 => ?_)
    · refine lv_bipush (v := (-5)) hx hb dX0_cellOfBall_19 (by decide) ?_
      have hq : fX0_cellOfBall t i = ((-5)) := by simp only [fX0_cellOfBall, if_neg c1_1, if_pos c7_2]
      rw [hq]
      exact r_iret X w hr rfl dX0_cellOfBall_21
    · refine lv_aload_n hx hb dX0_cellOfBall_10 rfl (lv_at hl 0 rfl) ?_
      refine r_get X w CL0 2 (by decide) wf_X0_15 0 rfl rfl dX0_cellOfBall_11 ?_
      refine lv_iload_n hx hb dX0_cellOfBall_14 rfl (lv_at hl 1 rfl) ?_
      refine r_iald X w 2 rfl (vin_ge 16 rfl c1_1 c7_2) dX0_cellOfBall_15 ?_
      refine lv_goto (tgt := 21) hx hb dX0_cellOfBall_16 (by decide) ?_
      have hq : fX0_cellOfBall t i = (t 1 i.toNatClampNeg) := by simp only [fX0_cellOfBall, if_neg c1_1, if_neg c7_2]
      rw [hq]
      exact r_iret X w hr rfl dX0_cellOfBall_21
def fX0_valueOfBall (t : N2) (i : Int32) : Int32 := if i < 0 then ((0)) else (if 16 ≤ i then ((0)) else ((t 2 i.toNatClampNeg)))
theorem dX0_valueOfBall_0 : decode cX0_valueOfBall 0 = .ok (.iload_n 1, 1) := by decide +kernel
theorem dX0_valueOfBall_1 : decode cX0_valueOfBall 1 = .ok (.ifCond .lt 18, 3) := by decide +kernel
theorem dX0_valueOfBall_4 : decode cX0_valueOfBall 4 = .ok (.iload_n 1, 1) := by decide +kernel
theorem dX0_valueOfBall_5 : decode cX0_valueOfBall 5 = .ok (.bipush 16, 2) := by decide +kernel
theorem dX0_valueOfBall_7 : decode cX0_valueOfBall 7 = .ok (.if_icmp .ge 12, 3) := by decide +kernel
theorem dX0_valueOfBall_10 : decode cX0_valueOfBall 10 = .ok (.aload_n 0, 1) := by decide +kernel
theorem dX0_valueOfBall_11 : decode cX0_valueOfBall 11 = .ok (.getfield 19, 3) := by decide +kernel
theorem dX0_valueOfBall_14 : decode cX0_valueOfBall 14 = .ok (.iload_n 1, 1) := by decide +kernel
theorem dX0_valueOfBall_15 : decode cX0_valueOfBall 15 = .ok (.iaload, 1) := by decide +kernel
theorem dX0_valueOfBall_16 : decode cX0_valueOfBall 16 = .ok (.goto 4, 3) := by decide +kernel
theorem dX0_valueOfBall_19 : decode cX0_valueOfBall 19 = .ok (.iconst 0, 1) := by decide +kernel
theorem dX0_valueOfBall_20 : decode cX0_valueOfBall 20 = .ok (.ireturn, 1) := by decide +kernel
set_option maxHeartbeats 4000000 in
set_option maxRecDepth 100000 in
theorem kX0_valueOfBall (l : Launch) (E : Ev) (a : Nat → Nat) (t : N2) (i : Int32) : KQ l yX0_valueOfBall cX0_valueOfBall 2 (some .int) 0 0 E [.ref (a 0), .int i] (wTx E a t) (QI E (wTx E a t) (fX0_valueOfBall t i) (wTx E a t)) := by
  refine KQ.mk RX0 rfl (by decide +kernel) (Nat.le_of_ble_eq_true rfl) ?_
  intro p e s m below meth c ls X hr w hl
  have hx := X.1
  have hb := X.2.1
  have hl : lv_has ls 2 [(0, .ref (a 0)), (1, .int i)] := hl
  refine lv_iload_n hx hb dX0_valueOfBall_0 rfl (lv_at hl 1 rfl) ?_
  refine lv_if_lt (tgt := 19) hx hb dX0_valueOfBall_1 (by decide) (fun c1_1 => ?_) (fun c1_1 => ?_)
  · refine lv_iconst (v := 0) hx hb dX0_valueOfBall_19 (by decide) ?_
    have hq : fX0_valueOfBall t i = (0) := by simp only [fX0_valueOfBall, if_pos c1_1]
    rw [hq]
    exact r_iret X w hr rfl dX0_valueOfBall_20
  · refine lv_iload_n hx hb dX0_valueOfBall_4 rfl (lv_at hl 1 rfl) ?_
    refine lv_bipush (v := 16) hx hb dX0_valueOfBall_5 (by decide) ?_
    refine lv_icmp_ge (tgt := 19) hx hb dX0_valueOfBall_7 (by decide) (fun c7_2 => ?_) (fun c7_2 => ?_)
    · refine lv_iconst (v := 0) hx hb dX0_valueOfBall_19 (by decide) ?_
      have hq : fX0_valueOfBall t i = (0) := by simp only [fX0_valueOfBall, if_neg c1_1, if_pos c7_2]
      rw [hq]
      exact r_iret X w hr rfl dX0_valueOfBall_20
    · refine lv_aload_n hx hb dX0_valueOfBall_10 rfl (lv_at hl 0 rfl) ?_
      refine r_get X w CL0 3 (by decide) wf_X0_19 0 rfl rfl dX0_valueOfBall_11 ?_
      refine lv_iload_n hx hb dX0_valueOfBall_14 rfl (lv_at hl 1 rfl) ?_
      refine r_iald X w 3 rfl (vin_ge 16 rfl c1_1 c7_2) dX0_valueOfBall_15 ?_
      refine lv_goto (tgt := 20) hx hb dX0_valueOfBall_16 (by decide) ?_
      have hq : fX0_valueOfBall t i = (t 2 i.toNatClampNeg) := by simp only [fX0_valueOfBall, if_neg c1_1, if_neg c7_2]
      rw [hq]
      exact r_iret X w hr rfl dX0_valueOfBall_20
def fX0_beginsNumber (t : N2) (ch : Int32) (lw : Int32) (np : Int32) : Int32 × N2 := if ch < lw then ((0, t)) else (if ch ≤ 57 then ((1, u2 (u2 t 3 3 (ch - 48)) 3 2 np)) else ((0, t)))
theorem dX0_beginsNumber_0 : decode cX0_beginsNumber 0 = .ok (.iload_n 1, 1) := by decide +kernel
theorem dX0_beginsNumber_1 : decode cX0_beginsNumber 1 = .ok (.iload_n 2, 1) := by decide +kernel
theorem dX0_beginsNumber_2 : decode cX0_beginsNumber 2 = .ok (.if_icmp .lt 9, 3) := by decide +kernel
theorem dX0_beginsNumber_5 : decode cX0_beginsNumber 5 = .ok (.iload_n 1, 1) := by decide +kernel
theorem dX0_beginsNumber_6 : decode cX0_beginsNumber 6 = .ok (.bipush 57, 2) := by decide +kernel
theorem dX0_beginsNumber_8 : decode cX0_beginsNumber 8 = .ok (.if_icmp .le 5, 3) := by decide +kernel
theorem dX0_beginsNumber_11 : decode cX0_beginsNumber 11 = .ok (.iconst 0, 1) := by decide +kernel
theorem dX0_beginsNumber_12 : decode cX0_beginsNumber 12 = .ok (.ireturn, 1) := by decide +kernel
theorem dX0_beginsNumber_13 : decode cX0_beginsNumber 13 = .ok (.aload_n 0, 1) := by decide +kernel
theorem dX0_beginsNumber_14 : decode cX0_beginsNumber 14 = .ok (.iload_n 1, 1) := by decide +kernel
theorem dX0_beginsNumber_15 : decode cX0_beginsNumber 15 = .ok (.bipush 48, 2) := by decide +kernel
theorem dX0_beginsNumber_17 : decode cX0_beginsNumber 17 = .ok (.isub, 1) := by decide +kernel
theorem dX0_beginsNumber_18 : decode cX0_beginsNumber 18 = .ok (.putfield 51, 3) := by decide +kernel
theorem dX0_beginsNumber_21 : decode cX0_beginsNumber 21 = .ok (.aload_n 0, 1) := by decide +kernel
theorem dX0_beginsNumber_22 : decode cX0_beginsNumber 22 = .ok (.iload_n 3, 1) := by decide +kernel
theorem dX0_beginsNumber_23 : decode cX0_beginsNumber 23 = .ok (.putfield 29, 3) := by decide +kernel
theorem dX0_beginsNumber_26 : decode cX0_beginsNumber 26 = .ok (.iconst 1, 1) := by decide +kernel
theorem dX0_beginsNumber_27 : decode cX0_beginsNumber 27 = .ok (.ireturn, 1) := by decide +kernel
theorem ax_26 {E : Ev} {a0 : Nat → Nat} {σ0 : N2} {x : Int32} : (wTx E a0 σ0).set 0 (a0 0, .inr (0, ([.ref (a0 1), .int (σ0 3 0), .ref (a0 2), .ref (a0 3), .int (σ0 3 1), .int (σ0 3 2), .int (σ0 3 3)] : List Value).set 6 (.int x))) = wTx E a0 (u2 σ0 3 3 x) := rfl
theorem ax_27 {E : Ev} {a0 : Nat → Nat} {σ0 : N2} {x : Int32} : (wTx E a0 σ0).set 0 (a0 0, .inr (0, ([.ref (a0 1), .int (σ0 3 0), .ref (a0 2), .ref (a0 3), .int (σ0 3 1), .int (σ0 3 2), .int (σ0 3 3)] : List Value).set 5 (.int x))) = wTx E a0 (u2 σ0 3 2 x) := rfl
set_option maxHeartbeats 4000000 in
set_option maxRecDepth 100000 in
theorem kX0_beginsNumber (l : Launch) (E : Ev) (a : Nat → Nat) (t : N2) (ch : Int32) (lw : Int32) (np : Int32) : KQ l yX0_beginsNumber cX0_beginsNumber 4 (some .boolean) 0 0 E [.ref (a 0), .int ch, .int lw, .int np] (wTx E a t) (QI E (wTx E a t) (fX0_beginsNumber t ch lw np).1 (wTx E a ((fX0_beginsNumber t ch lw np).2))) := by
  refine KQ.mk RX0 rfl (by decide +kernel) (Nat.le_of_ble_eq_true rfl) ?_
  intro p e s m below meth c ls X hr w hl
  have hx := X.1
  have hb := X.2.1
  have hl : lv_has ls 4 [(0, .ref (a 0)), (1, .int ch), (2, .int lw), (3, .int np)] := hl
  refine lv_iload_n hx hb dX0_beginsNumber_0 rfl (lv_at hl 1 rfl) ?_
  refine lv_iload_n hx hb dX0_beginsNumber_1 rfl (lv_at hl 2 rfl) ?_
  refine lv_icmp_lt (tgt := 11) hx hb dX0_beginsNumber_2 (by decide) (fun c2_1 => ?_) (fun c2_1 => ?_)
  · refine lv_iconst (v := 0) hx hb dX0_beginsNumber_11 (by decide) ?_
    have hq : fX0_beginsNumber t ch lw np = (0, t) := by simp only [fX0_beginsNumber, if_pos c2_1]
    obtain ⟨h0_, h1_⟩ := tup2 hq
    rw [h0_, h1_]
    exact r_zret X w hr (Or.inl rfl) rfl dX0_beginsNumber_12
  · refine lv_iload_n hx hb dX0_beginsNumber_5 rfl (lv_at hl 1 rfl) ?_
    refine lv_bipush (v := 57) hx hb dX0_beginsNumber_6 (by decide) ?_
    refine lv_icmp_le (tgt := 13) hx hb dX0_beginsNumber_8 (by decide) (fun c8_2 => ?_) (fun c8_2 => ?_)
    · refine lv_aload_n hx hb dX0_beginsNumber_13 rfl (lv_at hl 0 rfl) ?_
      refine lv_iload_n hx hb dX0_beginsNumber_14 rfl (lv_at hl 1 rfl) ?_
      refine lv_bipush (v := 48) hx hb dX0_beginsNumber_15 (by decide) ?_
      refine lv_isub hx hb dX0_beginsNumber_17 ?_
      refine r_put X w (wTx E a (u2 t 3 3 (ch - 48))) CL0 6 (by decide) wf_X0_51 0 rfl rfl rfl rfl (Nat.le_of_ble_eq_true rfl) (ax_26 (E := E)) dX0_beginsNumber_18 (fun H locs w => ?_)
      refine lv_aload_n hx hb dX0_beginsNumber_21 rfl (lv_at hl 0 rfl) ?_
      refine lv_iload_n hx hb dX0_beginsNumber_22 rfl (lv_at hl 3 rfl) ?_
      refine r_put X w (wTx E a (u2 (u2 t 3 3 (ch - 48)) 3 2 np)) CL0 5 (by decide) wf_X0_29 0 rfl rfl rfl rfl (Nat.le_of_ble_eq_true rfl) (ax_27 (E := E)) dX0_beginsNumber_23 (fun H locs w => ?_)
      refine lv_iconst (v := 1) hx hb dX0_beginsNumber_26 (by decide) ?_
      have hq : fX0_beginsNumber t ch lw np = (1, u2 (u2 t 3 3 (ch - 48)) 3 2 np) := by simp only [fX0_beginsNumber, if_neg c2_1, if_pos c8_2]
      obtain ⟨h0_, h1_⟩ := tup2 hq
      rw [h0_, h1_]
      exact r_zret X w hr (Or.inr rfl) rfl dX0_beginsNumber_27
    · refine lv_iconst (v := 0) hx hb dX0_beginsNumber_11 (by decide) ?_
      have hq : fX0_beginsNumber t ch lw np = (0, t) := by simp only [fX0_beginsNumber, if_neg c2_1, if_neg c8_2]
      obtain ⟨h0_, h1_⟩ := tup2 hq
      rw [h0_, h1_]
      exact r_zret X w hr (Or.inl rfl) rfl dX0_beginsNumber_12
theorem zX0_beginsNumber (t : N2) (ch : Int32) (lw : Int32) (np : Int32) : (fX0_beginsNumber t ch lw np).1 = 0 ∨ (fX0_beginsNumber t ch lw np).1 = 1 := by
  unfold fX0_beginsNumber
  repeat' split
  all_goals first | exact Or.inl rfl | exact Or.inr rfl | (simp; done) | exact Or.inl rfl
def fX0_growsNumber (t : N2) (ch : Int32) (hi : Int32) : Int32 × N2 := if ch < 48 then ((0, t)) else (if 57 < ch then ((0, t)) else (if (t 3 3) = 0 then ((0, t)) else (if (((t 3 3) * 10) + (ch - 48)) ≤ hi then ((1, u2 t 3 3 (((t 3 3) * 10) + (ch - 48)))) else ((0, t)))))
theorem dX0_growsNumber_0 : decode cX0_growsNumber 0 = .ok (.iload_n 1, 1) := by decide +kernel
theorem dX0_growsNumber_1 : decode cX0_growsNumber 1 = .ok (.bipush 48, 2) := by decide +kernel
theorem dX0_growsNumber_3 : decode cX0_growsNumber 3 = .ok (.if_icmp .lt 16, 3) := by decide +kernel
theorem dX0_growsNumber_6 : decode cX0_growsNumber 6 = .ok (.iload_n 1, 1) := by decide +kernel
theorem dX0_growsNumber_7 : decode cX0_growsNumber 7 = .ok (.bipush 57, 2) := by decide +kernel
theorem dX0_growsNumber_9 : decode cX0_growsNumber 9 = .ok (.if_icmp .gt 10, 3) := by decide +kernel
theorem dX0_growsNumber_12 : decode cX0_growsNumber 12 = .ok (.aload_n 0, 1) := by decide +kernel
theorem dX0_growsNumber_13 : decode cX0_growsNumber 13 = .ok (.getfield 51, 3) := by decide +kernel
theorem dX0_growsNumber_16 : decode cX0_growsNumber 16 = .ok (.ifCond .ne 5, 3) := by decide +kernel
theorem dX0_growsNumber_19 : decode cX0_growsNumber 19 = .ok (.iconst 0, 1) := by decide +kernel
theorem dX0_growsNumber_20 : decode cX0_growsNumber 20 = .ok (.ireturn, 1) := by decide +kernel
theorem dX0_growsNumber_21 : decode cX0_growsNumber 21 = .ok (.aload_n 0, 1) := by decide +kernel
theorem dX0_growsNumber_22 : decode cX0_growsNumber 22 = .ok (.getfield 51, 3) := by decide +kernel
theorem dX0_growsNumber_25 : decode cX0_growsNumber 25 = .ok (.bipush 10, 2) := by decide +kernel
theorem dX0_growsNumber_27 : decode cX0_growsNumber 27 = .ok (.imul, 1) := by decide +kernel
theorem dX0_growsNumber_28 : decode cX0_growsNumber 28 = .ok (.iload_n 1, 1) := by decide +kernel
theorem dX0_growsNumber_29 : decode cX0_growsNumber 29 = .ok (.bipush 48, 2) := by decide +kernel
theorem dX0_growsNumber_31 : decode cX0_growsNumber 31 = .ok (.isub, 1) := by decide +kernel
theorem dX0_growsNumber_32 : decode cX0_growsNumber 32 = .ok (.iadd, 1) := by decide +kernel
theorem dX0_growsNumber_33 : decode cX0_growsNumber 33 = .ok (.istore_n 3, 1) := by decide +kernel
theorem dX0_growsNumber_34 : decode cX0_growsNumber 34 = .ok (.iload_n 3, 1) := by decide +kernel
theorem dX0_growsNumber_35 : decode cX0_growsNumber 35 = .ok (.iload_n 2, 1) := by decide +kernel
theorem dX0_growsNumber_36 : decode cX0_growsNumber 36 = .ok (.if_icmp .le 5, 3) := by decide +kernel
theorem dX0_growsNumber_39 : decode cX0_growsNumber 39 = .ok (.iconst 0, 1) := by decide +kernel
theorem dX0_growsNumber_40 : decode cX0_growsNumber 40 = .ok (.ireturn, 1) := by decide +kernel
theorem dX0_growsNumber_41 : decode cX0_growsNumber 41 = .ok (.aload_n 0, 1) := by decide +kernel
theorem dX0_growsNumber_42 : decode cX0_growsNumber 42 = .ok (.iload_n 3, 1) := by decide +kernel
theorem dX0_growsNumber_43 : decode cX0_growsNumber 43 = .ok (.putfield 51, 3) := by decide +kernel
theorem dX0_growsNumber_46 : decode cX0_growsNumber 46 = .ok (.iconst 1, 1) := by decide +kernel
theorem dX0_growsNumber_47 : decode cX0_growsNumber 47 = .ok (.ireturn, 1) := by decide +kernel
set_option maxHeartbeats 4000000 in
set_option maxRecDepth 100000 in
theorem kX0_growsNumber (l : Launch) (E : Ev) (a : Nat → Nat) (t : N2) (ch : Int32) (hi : Int32) : KQ l yX0_growsNumber cX0_growsNumber 4 (some .boolean) 0 0 E [.ref (a 0), .int ch, .int hi] (wTx E a t) (QI E (wTx E a t) (fX0_growsNumber t ch hi).1 (wTx E a ((fX0_growsNumber t ch hi).2))) := by
  refine KQ.mk RX0 rfl (by decide +kernel) (Nat.le_of_ble_eq_true rfl) ?_
  intro p e s m below meth c ls X hr w hl
  have hx := X.1
  have hb := X.2.1
  have hl : lv_has ls 4 [(0, .ref (a 0)), (1, .int ch), (2, .int hi)] := hl
  refine lv_iload_n hx hb dX0_growsNumber_0 rfl (lv_at hl 1 rfl) ?_
  refine lv_bipush (v := 48) hx hb dX0_growsNumber_1 (by decide) ?_
  refine lv_icmp_lt (tgt := 19) hx hb dX0_growsNumber_3 (by decide) (fun c3_1 => ?_) (fun c3_1 => ?_)
  · refine lv_iconst (v := 0) hx hb dX0_growsNumber_19 (by decide) ?_
    have hq : fX0_growsNumber t ch hi = (0, t) := by simp only [fX0_growsNumber, if_pos c3_1]
    obtain ⟨h0_, h1_⟩ := tup2 hq
    rw [h0_, h1_]
    exact r_zret X w hr (Or.inl rfl) rfl dX0_growsNumber_20
  · refine lv_iload_n hx hb dX0_growsNumber_6 rfl (lv_at hl 1 rfl) ?_
    refine lv_bipush (v := 57) hx hb dX0_growsNumber_7 (by decide) ?_
    refine lv_icmp_gt (tgt := 19) hx hb dX0_growsNumber_9 (by decide) (fun c9_2 => ?_) (fun c9_2 => ?_)
    · refine lv_iconst (v := 0) hx hb dX0_growsNumber_19 (by decide) ?_
      have hq : fX0_growsNumber t ch hi = (0, t) := by simp only [fX0_growsNumber, if_neg c3_1, if_pos c9_2]
      obtain ⟨h0_, h1_⟩ := tup2 hq
      rw [h0_, h1_]
      exact r_zret X w hr (Or.inl rfl) rfl dX0_growsNumber_20
    · refine lv_aload_n hx hb dX0_growsNumber_12 rfl (lv_at hl 0 rfl) ?_
      refine r_get X w CL0 6 (by decide) wf_X0_51 0 rfl rfl dX0_growsNumber_13 ?_
      refine lv_if_ne (tgt := 21) hx hb dX0_growsNumber_16 (by decide) (fun c16_3 => ?_) (fun c16_3 => ?_)
      · refine lv_aload_n hx hb dX0_growsNumber_21 rfl (lv_at hl 0 rfl) ?_
        refine r_get X w CL0 6 (by decide) wf_X0_51 0 rfl rfl dX0_growsNumber_22 ?_
        refine lv_bipush (v := 10) hx hb dX0_growsNumber_25 (by decide) ?_
        refine lv_imul hx hb dX0_growsNumber_27 ?_
        refine lv_iload_n hx hb dX0_growsNumber_28 rfl (lv_at hl 1 rfl) ?_
        refine lv_bipush (v := 48) hx hb dX0_growsNumber_29 (by decide) ?_
        refine lv_isub hx hb dX0_growsNumber_31 ?_
        refine lv_iadd hx hb dX0_growsNumber_32 ?_
        refine lv_istore_n (lv' := [(3, .int (((t 3 3) * 10) + (ch - 48))), (0, .ref (a 0)), (1, .int ch), (2, .int hi)]) hx hb dX0_growsNumber_33 rfl hl (by decide) rfl (fun ls hl => ?_)
        refine lv_iload_n hx hb dX0_growsNumber_34 rfl (lv_at hl 0 rfl) ?_
        refine lv_iload_n hx hb dX0_growsNumber_35 rfl (lv_at hl 3 rfl) ?_
        refine lv_icmp_le (tgt := 41) hx hb dX0_growsNumber_36 (by decide) (fun c36_4 => ?_) (fun c36_4 => ?_)
        · refine lv_aload_n hx hb dX0_growsNumber_41 rfl (lv_at hl 1 rfl) ?_
          refine lv_iload_n hx hb dX0_growsNumber_42 rfl (lv_at hl 0 rfl) ?_
          refine r_put X w (wTx E a (u2 t 3 3 (((t 3 3) * 10) + (ch - 48)))) CL0 6 (by decide) wf_X0_51 0 rfl rfl rfl rfl (Nat.le_of_ble_eq_true rfl) (ax_26 (E := E)) dX0_growsNumber_43 (fun H locs w => ?_)
          refine lv_iconst (v := 1) hx hb dX0_growsNumber_46 (by decide) ?_
          have hq : fX0_growsNumber t ch hi = (1, u2 t 3 3 (((t 3 3) * 10) + (ch - 48))) := by simp only [fX0_growsNumber, if_neg c3_1, if_neg c9_2, if_neg c16_3, if_pos c36_4]
          obtain ⟨h0_, h1_⟩ := tup2 hq
          rw [h0_, h1_]
          exact r_zret X w hr (Or.inr rfl) rfl dX0_growsNumber_47
        · refine lv_iconst (v := 0) hx hb dX0_growsNumber_39 (by decide) ?_
          have hq : fX0_growsNumber t ch hi = (0, t) := by simp only [fX0_growsNumber, if_neg c3_1, if_neg c9_2, if_neg c16_3, if_neg c36_4]
          obtain ⟨h0_, h1_⟩ := tup2 hq
          rw [h0_, h1_]
          exact r_zret X w hr (Or.inl rfl) rfl dX0_growsNumber_40
      · refine lv_iconst (v := 0) hx hb dX0_growsNumber_19 (by decide) ?_
        have hq : fX0_growsNumber t ch hi = (0, t) := by simp only [fX0_growsNumber, if_neg c3_1, if_neg c9_2, if_pos c16_3]
        obtain ⟨h0_, h1_⟩ := tup2 hq
        rw [h0_, h1_]
        exact r_zret X w hr (Or.inl rfl) rfl dX0_growsNumber_20
theorem zX0_growsNumber (t : N2) (ch : Int32) (hi : Int32) : (fX0_growsNumber t ch hi).1 = 0 ∨ (fX0_growsNumber t ch hi).1 = 1 := by
  unfold fX0_growsNumber
  repeat' split
  all_goals first | exact Or.inl rfl | exact Or.inr rfl | (simp; done) | exact Or.inl rfl
def fX0_endsCell (t : N2) : Int32 × N2 := if (t 3 1) < 0 then ((0, t)) else (if (t 3 1) < 16 then ((1, u2 (u2 t 1 (t 3 1).toNatClampNeg (t 3 3)) 3 2 2)) else ((0, t)))
theorem dX0_endsCell_0 : decode cX0_endsCell 0 = .ok (.aload_n 0, 1) := by decide +kernel
theorem dX0_endsCell_1 : decode cX0_endsCell 1 = .ok (.getfield 26, 3) := by decide +kernel
theorem dX0_endsCell_4 : decode cX0_endsCell 4 = .ok (.ifCond .lt 12, 3) := by decide +kernel
theorem dX0_endsCell_7 : decode cX0_endsCell 7 = .ok (.aload_n 0, 1) := by decide +kernel
theorem dX0_endsCell_8 : decode cX0_endsCell 8 = .ok (.getfield 26, 3) := by decide +kernel
theorem dX0_endsCell_11 : decode cX0_endsCell 11 = .ok (.bipush 16, 2) := by decide +kernel
theorem dX0_endsCell_13 : decode cX0_endsCell 13 = .ok (.if_icmp .lt 5, 3) := by decide +kernel
theorem dX0_endsCell_16 : decode cX0_endsCell 16 = .ok (.iconst 0, 1) := by decide +kernel
theorem dX0_endsCell_17 : decode cX0_endsCell 17 = .ok (.ireturn, 1) := by decide +kernel
theorem dX0_endsCell_18 : decode cX0_endsCell 18 = .ok (.aload_n 0, 1) := by decide +kernel
theorem dX0_endsCell_19 : decode cX0_endsCell 19 = .ok (.getfield 15, 3) := by decide +kernel
theorem dX0_endsCell_22 : decode cX0_endsCell 22 = .ok (.aload_n 0, 1) := by decide +kernel
theorem dX0_endsCell_23 : decode cX0_endsCell 23 = .ok (.getfield 26, 3) := by decide +kernel
theorem dX0_endsCell_26 : decode cX0_endsCell 26 = .ok (.aload_n 0, 1) := by decide +kernel
theorem dX0_endsCell_27 : decode cX0_endsCell 27 = .ok (.getfield 51, 3) := by decide +kernel
theorem dX0_endsCell_30 : decode cX0_endsCell 30 = .ok (.iastore, 1) := by decide +kernel
theorem dX0_endsCell_31 : decode cX0_endsCell 31 = .ok (.aload_n 0, 1) := by decide +kernel
theorem dX0_endsCell_32 : decode cX0_endsCell 32 = .ok (.iconst 2, 1) := by decide +kernel
theorem dX0_endsCell_33 : decode cX0_endsCell 33 = .ok (.putfield 29, 3) := by decide +kernel
theorem dX0_endsCell_36 : decode cX0_endsCell 36 = .ok (.iconst 1, 1) := by decide +kernel
theorem dX0_endsCell_37 : decode cX0_endsCell 37 = .ok (.ireturn, 1) := by decide +kernel
theorem ax_28 {E : Ev} {a0 : Nat → Nat} {σ0 : N2} {i x : Int32} : (wTx E a0 σ0).set 2 (a0 2, .inl (E.2.1.1, 16, .inl (upd (σ0 1) i.toNatClampNeg x))) = wTx E a0 (u2 σ0 1 i.toNatClampNeg x) := rfl
set_option maxHeartbeats 4000000 in
set_option maxRecDepth 100000 in
theorem kX0_endsCell (l : Launch) (E : Ev) (a : Nat → Nat) (t : N2) : KQ l yX0_endsCell cX0_endsCell 1 (some .boolean) 0 0 E [.ref (a 0)] (wTx E a t) (QI E (wTx E a t) (fX0_endsCell t).1 (wTx E a ((fX0_endsCell t).2))) := by
  refine KQ.mk RX0 rfl (by decide +kernel) (Nat.le_of_ble_eq_true rfl) ?_
  intro p e s m below meth c ls X hr w hl
  have hx := X.1
  have hb := X.2.1
  have hl : lv_has ls 1 [(0, .ref (a 0))] := hl
  refine lv_aload_n hx hb dX0_endsCell_0 rfl (lv_at hl 0 rfl) ?_
  refine r_get X w CL0 4 (by decide) wf_X0_26 0 rfl rfl dX0_endsCell_1 ?_
  refine lv_if_lt (tgt := 16) hx hb dX0_endsCell_4 (by decide) (fun c4_1 => ?_) (fun c4_1 => ?_)
  · refine lv_iconst (v := 0) hx hb dX0_endsCell_16 (by decide) ?_
    have hq : fX0_endsCell t = (0, t) := by simp only [fX0_endsCell, if_pos c4_1]
    obtain ⟨h0_, h1_⟩ := tup2 hq
    rw [h0_, h1_]
    exact r_zret X w hr (Or.inl rfl) rfl dX0_endsCell_17
  · refine lv_aload_n hx hb dX0_endsCell_7 rfl (lv_at hl 0 rfl) ?_
    refine r_get X w CL0 4 (by decide) wf_X0_26 0 rfl rfl dX0_endsCell_8 ?_
    refine lv_bipush (v := 16) hx hb dX0_endsCell_11 (by decide) ?_
    refine lv_icmp_lt (tgt := 18) hx hb dX0_endsCell_13 (by decide) (fun c13_2 => ?_) (fun c13_2 => ?_)
    · refine lv_aload_n hx hb dX0_endsCell_18 rfl (lv_at hl 0 rfl) ?_
      refine r_get X w CL0 2 (by decide) wf_X0_15 0 rfl rfl dX0_endsCell_19 ?_
      refine lv_aload_n hx hb dX0_endsCell_22 rfl (lv_at hl 0 rfl) ?_
      refine r_get X w CL0 4 (by decide) wf_X0_26 0 rfl rfl dX0_endsCell_23 ?_
      refine lv_aload_n hx hb dX0_endsCell_26 rfl (lv_at hl 0 rfl) ?_
      refine r_get X w CL0 6 (by decide) wf_X0_51 0 rfl rfl dX0_endsCell_27 ?_
      refine r_iast X w (wTx E a (u2 t 1 (t 3 1).toNatClampNeg (t 3 3))) 2 rfl (vin_lt 16 rfl c4_1 c13_2) (ax_28 (E := E)) dX0_endsCell_30 (fun H locs w => ?_)
      refine lv_aload_n hx hb dX0_endsCell_31 rfl (lv_at hl 0 rfl) ?_
      refine lv_iconst (v := 2) hx hb dX0_endsCell_32 (by decide) ?_
      refine r_put X w (wTx E a (u2 (u2 t 1 (t 3 1).toNatClampNeg (t 3 3)) 3 2 2)) CL0 5 (by decide) wf_X0_29 0 rfl rfl rfl rfl (Nat.le_of_ble_eq_true rfl) (ax_27 (E := E)) dX0_endsCell_33 (fun H locs w => ?_)
      refine lv_iconst (v := 1) hx hb dX0_endsCell_36 (by decide) ?_
      have hq : fX0_endsCell t = (1, u2 (u2 t 1 (t 3 1).toNatClampNeg (t 3 3)) 3 2 2) := by simp only [fX0_endsCell, if_neg c4_1, if_pos c13_2]
      obtain ⟨h0_, h1_⟩ := tup2 hq
      rw [h0_, h1_]
      exact r_zret X w hr (Or.inr rfl) rfl dX0_endsCell_37
    · refine lv_iconst (v := 0) hx hb dX0_endsCell_16 (by decide) ?_
      have hq : fX0_endsCell t = (0, t) := by simp only [fX0_endsCell, if_neg c4_1, if_neg c13_2]
      obtain ⟨h0_, h1_⟩ := tup2 hq
      rw [h0_, h1_]
      exact r_zret X w hr (Or.inl rfl) rfl dX0_endsCell_17
theorem zX0_endsCell (t : N2) : (fX0_endsCell t).1 = 0 ∨ (fX0_endsCell t).1 = 1 := by
  unfold fX0_endsCell
  repeat' split
  all_goals first | exact Or.inl rfl | exact Or.inr rfl | (simp; done) | exact Or.inl rfl
def fX0_endBall (t : N2) : Int32 × N2 := if (t 3 1) < 0 then ((0, t)) else (if (t 3 1) < 16 then ((1, u2 (u2 (u2 t 2 (t 3 1).toNatClampNeg (t 3 3)) 3 1 (((u2 t 2 (t 3 1).toNatClampNeg (t 3 3)) 3 1) + 1)) 3 2 0)) else ((0, t)))
theorem dX0_endBall_0 : decode cX0_endBall 0 = .ok (.aload_n 0, 1) := by decide +kernel
theorem dX0_endBall_1 : decode cX0_endBall 1 = .ok (.getfield 26, 3) := by decide +kernel
theorem dX0_endBall_4 : decode cX0_endBall 4 = .ok (.ifCond .lt 12, 3) := by decide +kernel
theorem dX0_endBall_7 : decode cX0_endBall 7 = .ok (.aload_n 0, 1) := by decide +kernel
theorem dX0_endBall_8 : decode cX0_endBall 8 = .ok (.getfield 26, 3) := by decide +kernel
theorem dX0_endBall_11 : decode cX0_endBall 11 = .ok (.bipush 16, 2) := by decide +kernel
theorem dX0_endBall_13 : decode cX0_endBall 13 = .ok (.if_icmp .lt 5, 3) := by decide +kernel
theorem dX0_endBall_16 : decode cX0_endBall 16 = .ok (.iconst 0, 1) := by decide +kernel
theorem dX0_endBall_17 : decode cX0_endBall 17 = .ok (.ireturn, 1) := by decide +kernel
theorem dX0_endBall_18 : decode cX0_endBall 18 = .ok (.aload_n 0, 1) := by decide +kernel
theorem dX0_endBall_19 : decode cX0_endBall 19 = .ok (.getfield 19, 3) := by decide +kernel
theorem dX0_endBall_22 : decode cX0_endBall 22 = .ok (.aload_n 0, 1) := by decide +kernel
theorem dX0_endBall_23 : decode cX0_endBall 23 = .ok (.getfield 26, 3) := by decide +kernel
theorem dX0_endBall_26 : decode cX0_endBall 26 = .ok (.aload_n 0, 1) := by decide +kernel
theorem dX0_endBall_27 : decode cX0_endBall 27 = .ok (.getfield 51, 3) := by decide +kernel
theorem dX0_endBall_30 : decode cX0_endBall 30 = .ok (.iastore, 1) := by decide +kernel
theorem dX0_endBall_31 : decode cX0_endBall 31 = .ok (.aload_n 0, 1) := by decide +kernel
theorem dX0_endBall_32 : decode cX0_endBall 32 = .ok (.dup, 1) := by decide +kernel
theorem dX0_endBall_33 : decode cX0_endBall 33 = .ok (.getfield 26, 3) := by decide +kernel
theorem dX0_endBall_36 : decode cX0_endBall 36 = .ok (.iconst 1, 1) := by decide +kernel
theorem dX0_endBall_37 : decode cX0_endBall 37 = .ok (.iadd, 1) := by decide +kernel
theorem dX0_endBall_38 : decode cX0_endBall 38 = .ok (.putfield 26, 3) := by decide +kernel
theorem dX0_endBall_41 : decode cX0_endBall 41 = .ok (.aload_n 0, 1) := by decide +kernel
theorem dX0_endBall_42 : decode cX0_endBall 42 = .ok (.iconst 0, 1) := by decide +kernel
theorem dX0_endBall_43 : decode cX0_endBall 43 = .ok (.putfield 29, 3) := by decide +kernel
theorem dX0_endBall_46 : decode cX0_endBall 46 = .ok (.iconst 1, 1) := by decide +kernel
theorem dX0_endBall_47 : decode cX0_endBall 47 = .ok (.ireturn, 1) := by decide +kernel
theorem ax_29 {E : Ev} {a0 : Nat → Nat} {σ0 : N2} {i x : Int32} : (wTx E a0 σ0).set 3 (a0 3, .inl (E.2.1.1, 16, .inl (upd (σ0 2) i.toNatClampNeg x))) = wTx E a0 (u2 σ0 2 i.toNatClampNeg x) := rfl
theorem ax_30 {E : Ev} {a0 : Nat → Nat} {σ0 : N2} {x : Int32} : (wTx E a0 σ0).set 0 (a0 0, .inr (0, ([.ref (a0 1), .int (σ0 3 0), .ref (a0 2), .ref (a0 3), .int (σ0 3 1), .int (σ0 3 2), .int (σ0 3 3)] : List Value).set 4 (.int x))) = wTx E a0 (u2 σ0 3 1 x) := rfl
set_option maxHeartbeats 4000000 in
set_option maxRecDepth 100000 in
theorem kX0_endBall (l : Launch) (E : Ev) (a : Nat → Nat) (t : N2) : KQ l yX0_endBall cX0_endBall 1 (some .boolean) 0 0 E [.ref (a 0)] (wTx E a t) (QI E (wTx E a t) (fX0_endBall t).1 (wTx E a ((fX0_endBall t).2))) := by
  refine KQ.mk RX0 rfl (by decide +kernel) (Nat.le_of_ble_eq_true rfl) ?_
  intro p e s m below meth c ls X hr w hl
  have hx := X.1
  have hb := X.2.1
  have hl : lv_has ls 1 [(0, .ref (a 0))] := hl
  refine lv_aload_n hx hb dX0_endBall_0 rfl (lv_at hl 0 rfl) ?_
  refine r_get X w CL0 4 (by decide) wf_X0_26 0 rfl rfl dX0_endBall_1 ?_
  refine lv_if_lt (tgt := 16) hx hb dX0_endBall_4 (by decide) (fun c4_1 => ?_) (fun c4_1 => ?_)
  · refine lv_iconst (v := 0) hx hb dX0_endBall_16 (by decide) ?_
    have hq : fX0_endBall t = (0, t) := by simp only [fX0_endBall, if_pos c4_1]
    obtain ⟨h0_, h1_⟩ := tup2 hq
    rw [h0_, h1_]
    exact r_zret X w hr (Or.inl rfl) rfl dX0_endBall_17
  · refine lv_aload_n hx hb dX0_endBall_7 rfl (lv_at hl 0 rfl) ?_
    refine r_get X w CL0 4 (by decide) wf_X0_26 0 rfl rfl dX0_endBall_8 ?_
    refine lv_bipush (v := 16) hx hb dX0_endBall_11 (by decide) ?_
    refine lv_icmp_lt (tgt := 18) hx hb dX0_endBall_13 (by decide) (fun c13_2 => ?_) (fun c13_2 => ?_)
    · refine lv_aload_n hx hb dX0_endBall_18 rfl (lv_at hl 0 rfl) ?_
      refine r_get X w CL0 3 (by decide) wf_X0_19 0 rfl rfl dX0_endBall_19 ?_
      refine lv_aload_n hx hb dX0_endBall_22 rfl (lv_at hl 0 rfl) ?_
      refine r_get X w CL0 4 (by decide) wf_X0_26 0 rfl rfl dX0_endBall_23 ?_
      refine lv_aload_n hx hb dX0_endBall_26 rfl (lv_at hl 0 rfl) ?_
      refine r_get X w CL0 6 (by decide) wf_X0_51 0 rfl rfl dX0_endBall_27 ?_
      refine r_iast X w (wTx E a (u2 t 2 (t 3 1).toNatClampNeg (t 3 3))) 3 rfl (vin_lt 16 rfl c4_1 c13_2) (ax_29 (E := E)) dX0_endBall_30 (fun H locs w => ?_)
      refine lv_aload_n hx hb dX0_endBall_31 rfl (lv_at hl 0 rfl) ?_
      refine lv_dup hx hb dX0_endBall_32 rfl ?_
      refine r_get X w CL0 4 (by decide) wf_X0_26 0 rfl rfl dX0_endBall_33 ?_
      refine lv_iconst (v := 1) hx hb dX0_endBall_36 (by decide) ?_
      refine lv_iadd hx hb dX0_endBall_37 ?_
      refine r_put X w (wTx E a (u2 (u2 t 2 (t 3 1).toNatClampNeg (t 3 3)) 3 1 (((u2 t 2 (t 3 1).toNatClampNeg (t 3 3)) 3 1) + 1))) CL0 4 (by decide) wf_X0_26 0 rfl rfl rfl rfl (Nat.le_of_ble_eq_true rfl) (ax_30 (E := E)) dX0_endBall_38 (fun H locs w => ?_)
      refine lv_aload_n hx hb dX0_endBall_41 rfl (lv_at hl 0 rfl) ?_
      refine lv_iconst (v := 0) hx hb dX0_endBall_42 (by decide) ?_
      refine r_put X w (wTx E a (u2 (u2 (u2 t 2 (t 3 1).toNatClampNeg (t 3 3)) 3 1 (((u2 t 2 (t 3 1).toNatClampNeg (t 3 3)) 3 1) + 1)) 3 2 0)) CL0 5 (by decide) wf_X0_29 0 rfl rfl rfl rfl (Nat.le_of_ble_eq_true rfl) (ax_27 (E := E)) dX0_endBall_43 (fun H locs w => ?_)
      refine lv_iconst (v := 1) hx hb dX0_endBall_46 (by decide) ?_
      have hq : fX0_endBall t = (1, u2 (u2 (u2 t 2 (t 3 1).toNatClampNeg (t 3 3)) 3 1 (((u2 t 2 (t 3 1).toNatClampNeg (t 3 3)) 3 1) + 1)) 3 2 0) := by simp only [fX0_endBall, if_neg c4_1, if_pos c13_2]
      obtain ⟨h0_, h1_⟩ := tup2 hq
      rw [h0_, h1_]
      exact r_zret X w hr (Or.inr rfl) rfl dX0_endBall_47
    · refine lv_iconst (v := 0) hx hb dX0_endBall_16 (by decide) ?_
      have hq : fX0_endBall t = (0, t) := by simp only [fX0_endBall, if_neg c4_1, if_neg c13_2]
      obtain ⟨h0_, h1_⟩ := tup2 hq
      rw [h0_, h1_]
      exact r_zret X w hr (Or.inl rfl) rfl dX0_endBall_17
theorem zX0_endBall (t : N2) : (fX0_endBall t).1 = 0 ∨ (fX0_endBall t).1 = 1 := by
  unfold fX0_endBall
  repeat' split
  all_goals first | exact Or.inl rfl | exact Or.inr rfl | (simp; done) | exact Or.inl rfl
def fX0_takes (t : N2) (ch : Int32) : Int32 × N2 := if (t 3 2) = 0 then (((fX0_beginsNumber t ch 48 1).1, (fX0_beginsNumber t ch 48 1).2)) else (if (t 3 2) = 1 then (if ch = 58 then (((fX0_endsCell t).1, (fX0_endsCell t).2)) else (((fX0_growsNumber t ch 60).1, (fX0_growsNumber t ch 60).2))) else (if (t 3 2) = 2 then (((fX0_beginsNumber t ch 49 3).1, (fX0_beginsNumber t ch 49 3).2)) else (if ch = 59 then (((fX0_endBall t).1, (fX0_endBall t).2)) else (((fX0_growsNumber t ch 20).1, (fX0_growsNumber t ch 20).2)))))
theorem dX0_takes_0 : decode cX0_takes 0 = .ok (.aload_n 0, 1) := by decide +kernel
theorem dX0_takes_1 : decode cX0_takes 1 = .ok (.getfield 29, 3) := by decide +kernel
theorem dX0_takes_4 : decode cX0_takes 4 = .ok (.tableswitch 67 0 2 #[28, 37, 58], 28) := by decide +kernel
theorem dX0_takes_32 : decode cX0_takes 32 = .ok (.aload_n 0, 1) := by decide +kernel
theorem dX0_takes_33 : decode cX0_takes 33 = .ok (.iload_n 1, 1) := by decide +kernel
theorem dX0_takes_34 : decode cX0_takes 34 = .ok (.bipush 48, 2) := by decide +kernel
theorem dX0_takes_36 : decode cX0_takes 36 = .ok (.iconst 1, 1) := by decide +kernel
theorem dX0_takes_37 : decode cX0_takes 37 = .ok (.invokevirtual 40, 3) := by decide +kernel
theorem dX0_takes_40 : decode cX0_takes 40 = .ok (.ireturn, 1) := by decide +kernel
theorem dX0_takes_41 : decode cX0_takes 41 = .ok (.iload_n 1, 1) := by decide +kernel
theorem dX0_takes_42 : decode cX0_takes 42 = .ok (.bipush 58, 2) := by decide +kernel
theorem dX0_takes_44 : decode cX0_takes 44 = .ok (.if_icmp .ne 10, 3) := by decide +kernel
theorem dX0_takes_47 : decode cX0_takes 47 = .ok (.aload_n 0, 1) := by decide +kernel
theorem dX0_takes_48 : decode cX0_takes 48 = .ok (.invokevirtual 44, 3) := by decide +kernel
theorem dX0_takes_51 : decode cX0_takes 51 = .ok (.goto 10, 3) := by decide +kernel
theorem dX0_takes_54 : decode cX0_takes 54 = .ok (.aload_n 0, 1) := by decide +kernel
theorem dX0_takes_55 : decode cX0_takes 55 = .ok (.iload_n 1, 1) := by decide +kernel
theorem dX0_takes_56 : decode cX0_takes 56 = .ok (.bipush 60, 2) := by decide +kernel
theorem dX0_takes_58 : decode cX0_takes 58 = .ok (.invokevirtual 47, 3) := by decide +kernel
theorem dX0_takes_61 : decode cX0_takes 61 = .ok (.ireturn, 1) := by decide +kernel
theorem dX0_takes_62 : decode cX0_takes 62 = .ok (.aload_n 0, 1) := by decide +kernel
theorem dX0_takes_63 : decode cX0_takes 63 = .ok (.iload_n 1, 1) := by decide +kernel
theorem dX0_takes_64 : decode cX0_takes 64 = .ok (.bipush 49, 2) := by decide +kernel
theorem dX0_takes_66 : decode cX0_takes 66 = .ok (.iconst 3, 1) := by decide +kernel
theorem dX0_takes_67 : decode cX0_takes 67 = .ok (.invokevirtual 40, 3) := by decide +kernel
theorem dX0_takes_70 : decode cX0_takes 70 = .ok (.ireturn, 1) := by decide +kernel
theorem dX0_takes_71 : decode cX0_takes 71 = .ok (.iload_n 1, 1) := by decide +kernel
theorem dX0_takes_72 : decode cX0_takes 72 = .ok (.bipush 59, 2) := by decide +kernel
theorem dX0_takes_74 : decode cX0_takes 74 = .ok (.if_icmp .ne 10, 3) := by decide +kernel
theorem dX0_takes_77 : decode cX0_takes 77 = .ok (.aload_n 0, 1) := by decide +kernel
theorem dX0_takes_78 : decode cX0_takes 78 = .ok (.invokevirtual 36, 3) := by decide +kernel
theorem dX0_takes_81 : decode cX0_takes 81 = .ok (.goto 10, 3) := by decide +kernel
theorem dX0_takes_84 : decode cX0_takes 84 = .ok (.aload_n 0, 1) := by decide +kernel
theorem dX0_takes_85 : decode cX0_takes 85 = .ok (.iload_n 1, 1) := by decide +kernel
theorem dX0_takes_86 : decode cX0_takes 86 = .ok (.bipush 20, 2) := by decide +kernel
theorem dX0_takes_88 : decode cX0_takes 88 = .ok (.invokevirtual 47, 3) := by decide +kernel
theorem dX0_takes_91 : decode cX0_takes 91 = .ok (.ireturn, 1) := by decide +kernel
theorem ck_X0_36 : CkV RX0 36 RX0 yX0_endBall cX0_endBall 1 (some .boolean) 0 := ⟨wm_X0_36, wim_yX0_endBall, wse_yX0_endBall, wi_X0, wc_yX0_endBall, by decide +kernel⟩
theorem ck_X0_40 : CkV RX0 40 RX0 yX0_beginsNumber cX0_beginsNumber 4 (some .boolean) 3 := ⟨wm_X0_40, wim_yX0_beginsNumber, wse_yX0_beginsNumber, wi_X0, wc_yX0_beginsNumber, by decide +kernel⟩
theorem ck_X0_44 : CkV RX0 44 RX0 yX0_endsCell cX0_endsCell 1 (some .boolean) 0 := ⟨wm_X0_44, wim_yX0_endsCell, wse_yX0_endsCell, wi_X0, wc_yX0_endsCell, by decide +kernel⟩
theorem ck_X0_47 : CkV RX0 47 RX0 yX0_growsNumber cX0_growsNumber 4 (some .boolean) 2 := ⟨wm_X0_47, wim_yX0_growsNumber, wse_yX0_growsNumber, wi_X0, wc_yX0_growsNumber, by decide +kernel⟩
theorem hc_31 {E : Ev} {a0 : Nat → Nat} {σ0 : N2} : ([0, 1, 2, 3] : List Nat).map (fun i => (wTx E a0 σ0)[i]?) = (wTx E a0 σ0).map some := rfl
theorem ha_31 {E : Ev} {a0 : Nat → Nat} {σ0 : N2} {τ0_0 : N2} : (wTx E a0 τ0_0).map Prod.fst = (wTx E a0 σ0).map Prod.fst := rfl
theorem hw_31 {E : Ev} {a0 : Nat → Nat} {σ0 : N2} {τ0_0 : N2} : wput (wTx E a0 σ0) [0, 1, 2, 3] (wTx E a0 τ0_0) = wTx E a0 τ0_0 := rfl
set_option maxHeartbeats 4000000 in
set_option maxRecDepth 100000 in
theorem kX0_takes (l : Launch) (E : Ev) (a : Nat → Nat) (t : N2) (ch : Int32) : KQ l yX0_takes cX0_takes 2 (some .boolean) 1 23 E [.ref (a 0), .int ch] (wTx E a t) (QI E (wTx E a t) (fX0_takes t ch).1 (wTx E a ((fX0_takes t ch).2))) := by
  refine KQ.mk RX0 rfl (by decide +kernel) (Nat.le_of_ble_eq_true rfl) ?_
  intro p e s m below meth c ls X hr w hl
  have hx := X.1
  have hb := X.2.1
  have hl : lv_has ls 2 [(0, .ref (a 0)), (1, .int ch)] := hl
  refine lv_aload_n hx hb dX0_takes_0 rfl (lv_at hl 0 rfl) ?_
  refine r_get X w CL0 5 (by decide) wf_X0_29 0 rfl rfl dX0_takes_1 ?_
  by_cases c4_1 : (t 3 2) = 0
  · refine lv_tableIn (off := 28) (tgt := 32) hx hb dX0_takes_4 (by rw [c4_1]; decide) (by rw [c4_1]; decide) (by rw [c4_1]; rfl) (by decide) ?_
    refine lv_aload_n hx hb dX0_takes_32 rfl (lv_at hl 0 rfl) ?_
    refine lv_iload_n hx hb dX0_takes_33 rfl (lv_at hl 1 rfl) ?_
    refine lv_bipush (v := 48) hx hb dX0_takes_34 (by decide) ?_
    refine lv_iconst (v := 1) hx hb dX0_takes_36 (by decide) ?_
    refine r_ci w (r_runV (As := [.int ch, .int 48, .int 1]) (rest := []) X w (kX0_beginsNumber l E a t ch 48 1 ) ck_X0_40 ⟨Nat.le_of_ble_eq_true rfl, Nat.le_of_ble_eq_true rfl⟩ [0, 1, 2, 3] (hc_31 (E := E)) (by decide +kernel) (k0 := 0) CL0 rfl hl.1 (Nat.le_of_ble_eq_true rfl) rfl dX0_takes_37 ⟨Nat.le_of_ble_eq_true rfl, Nat.le_of_ble_eq_true rfl⟩) (wTx E a ((fX0_beginsNumber t ch 48 1).2)) [0, 1, 2, 3] (hc_31 (E := E)) (by decide +kernel) (ha_31 (E := E)) (hw_31 (E := E)) (fun H locs w => ?_)
    have hq : fX0_takes t ch = ((fX0_beginsNumber t ch 48 1).1, (fX0_beginsNumber t ch 48 1).2) := by simp only [fX0_takes, if_pos c4_1]
    obtain ⟨h0_, h1_⟩ := tup2 hq
    rw [h0_, h1_]
    exact r_zret X w hr (zX0_beginsNumber _ _ _ _) rfl dX0_takes_40
  · by_cases c4_2 : (t 3 2) = 1
    · refine lv_tableIn (off := 37) (tgt := 41) hx hb dX0_takes_4 (by rw [c4_2]; decide) (by rw [c4_2]; decide) (by rw [c4_2]; rfl) (by decide) ?_
      refine lv_iload_n hx hb dX0_takes_41 rfl (lv_at hl 1 rfl) ?_
      refine lv_bipush (v := 58) hx hb dX0_takes_42 (by decide) ?_
      refine lv_icmp_ne (tgt := 54) hx hb dX0_takes_44 (by decide) (fun c44_3 => ?_) (fun c44_3 => ?_)
      · refine lv_aload_n hx hb dX0_takes_54 rfl (lv_at hl 0 rfl) ?_
        refine lv_iload_n hx hb dX0_takes_55 rfl (lv_at hl 1 rfl) ?_
        refine lv_bipush (v := 60) hx hb dX0_takes_56 (by decide) ?_
        refine r_ci w (r_runV (As := [.int ch, .int 60]) (rest := []) X w (kX0_growsNumber l E a t ch 60 ) ck_X0_47 ⟨Nat.le_of_ble_eq_true rfl, Nat.le_of_ble_eq_true rfl⟩ [0, 1, 2, 3] (hc_31 (E := E)) (by decide +kernel) (k0 := 0) CL0 rfl hl.1 (Nat.le_of_ble_eq_true rfl) rfl dX0_takes_58 ⟨Nat.le_of_ble_eq_true rfl, Nat.le_of_ble_eq_true rfl⟩) (wTx E a ((fX0_growsNumber t ch 60).2)) [0, 1, 2, 3] (hc_31 (E := E)) (by decide +kernel) (ha_31 (E := E)) (hw_31 (E := E)) (fun H locs w => ?_)
        have hq : fX0_takes t ch = ((fX0_growsNumber t ch 60).1, (fX0_growsNumber t ch 60).2) := by simp only [fX0_takes, if_neg c4_1, if_pos c4_2, if_neg c44_3]
        obtain ⟨h0_, h1_⟩ := tup2 hq
        rw [h0_, h1_]
        exact r_zret X w hr (zX0_growsNumber _ _ _) rfl dX0_takes_61
      · refine lv_aload_n hx hb dX0_takes_47 rfl (lv_at hl 0 rfl) ?_
        refine r_ci w (r_runV (As := []) (rest := []) X w (kX0_endsCell l E a t ) ck_X0_44 ⟨Nat.le_of_ble_eq_true rfl, Nat.le_of_ble_eq_true rfl⟩ [0, 1, 2, 3] (hc_31 (E := E)) (by decide +kernel) (k0 := 0) CL0 rfl hl.1 (Nat.le_of_ble_eq_true rfl) rfl dX0_takes_48 ⟨Nat.le_of_ble_eq_true rfl, Nat.le_of_ble_eq_true rfl⟩) (wTx E a ((fX0_endsCell t).2)) [0, 1, 2, 3] (hc_31 (E := E)) (by decide +kernel) (ha_31 (E := E)) (hw_31 (E := E)) (fun H locs w => ?_)
        refine lv_goto (tgt := 61) hx hb dX0_takes_51 (by decide) ?_
        have hq : fX0_takes t ch = ((fX0_endsCell t).1, (fX0_endsCell t).2) := by simp only [fX0_takes, if_neg c4_1, if_pos c4_2, if_pos c44_3]
        obtain ⟨h0_, h1_⟩ := tup2 hq
        rw [h0_, h1_]
        exact r_zret X w hr (zX0_endsCell _) rfl dX0_takes_61
    · by_cases c4_4 : (t 3 2) = 2
      · refine lv_tableIn (off := 58) (tgt := 62) hx hb dX0_takes_4 (by rw [c4_4]; decide) (by rw [c4_4]; decide) (by rw [c4_4]; rfl) (by decide) ?_
        refine lv_aload_n hx hb dX0_takes_62 rfl (lv_at hl 0 rfl) ?_
        refine lv_iload_n hx hb dX0_takes_63 rfl (lv_at hl 1 rfl) ?_
        refine lv_bipush (v := 49) hx hb dX0_takes_64 (by decide) ?_
        refine lv_iconst (v := 3) hx hb dX0_takes_66 (by decide) ?_
        refine r_ci w (r_runV (As := [.int ch, .int 49, .int 3]) (rest := []) X w (kX0_beginsNumber l E a t ch 49 3 ) ck_X0_40 ⟨Nat.le_of_ble_eq_true rfl, Nat.le_of_ble_eq_true rfl⟩ [0, 1, 2, 3] (hc_31 (E := E)) (by decide +kernel) (k0 := 0) CL0 rfl hl.1 (Nat.le_of_ble_eq_true rfl) rfl dX0_takes_67 ⟨Nat.le_of_ble_eq_true rfl, Nat.le_of_ble_eq_true rfl⟩) (wTx E a ((fX0_beginsNumber t ch 49 3).2)) [0, 1, 2, 3] (hc_31 (E := E)) (by decide +kernel) (ha_31 (E := E)) (hw_31 (E := E)) (fun H locs w => ?_)
        have hq : fX0_takes t ch = ((fX0_beginsNumber t ch 49 3).1, (fX0_beginsNumber t ch 49 3).2) := by simp only [fX0_takes, if_neg c4_1, if_neg c4_2, if_pos c4_4]
        obtain ⟨h0_, h1_⟩ := tup2 hq
        rw [h0_, h1_]
        exact r_zret X w hr (zX0_beginsNumber _ _ _ _) rfl dX0_takes_70
      · refine lv_tableOut (tgt := 71) hx hb dX0_takes_4 (tab_out_2 c4_1 c4_2 c4_4) (by decide) ?_
        refine lv_iload_n hx hb dX0_takes_71 rfl (lv_at hl 1 rfl) ?_
        refine lv_bipush (v := 59) hx hb dX0_takes_72 (by decide) ?_
        refine lv_icmp_ne (tgt := 84) hx hb dX0_takes_74 (by decide) (fun c74_5 => ?_) (fun c74_5 => ?_)
        · refine lv_aload_n hx hb dX0_takes_84 rfl (lv_at hl 0 rfl) ?_
          refine lv_iload_n hx hb dX0_takes_85 rfl (lv_at hl 1 rfl) ?_
          refine lv_bipush (v := 20) hx hb dX0_takes_86 (by decide) ?_
          refine r_ci w (r_runV (As := [.int ch, .int 20]) (rest := []) X w (kX0_growsNumber l E a t ch 20 ) ck_X0_47 ⟨Nat.le_of_ble_eq_true rfl, Nat.le_of_ble_eq_true rfl⟩ [0, 1, 2, 3] (hc_31 (E := E)) (by decide +kernel) (k0 := 0) CL0 rfl hl.1 (Nat.le_of_ble_eq_true rfl) rfl dX0_takes_88 ⟨Nat.le_of_ble_eq_true rfl, Nat.le_of_ble_eq_true rfl⟩) (wTx E a ((fX0_growsNumber t ch 20).2)) [0, 1, 2, 3] (hc_31 (E := E)) (by decide +kernel) (ha_31 (E := E)) (hw_31 (E := E)) (fun H locs w => ?_)
          have hq : fX0_takes t ch = ((fX0_growsNumber t ch 20).1, (fX0_growsNumber t ch 20).2) := by simp only [fX0_takes, if_neg c4_1, if_neg c4_2, if_neg c4_4, if_neg c74_5]
          obtain ⟨h0_, h1_⟩ := tup2 hq
          rw [h0_, h1_]
          exact r_zret X w hr (zX0_growsNumber _ _ _) rfl dX0_takes_91
        · refine lv_aload_n hx hb dX0_takes_77 rfl (lv_at hl 0 rfl) ?_
          refine r_ci w (r_runV (As := []) (rest := []) X w (kX0_endBall l E a t ) ck_X0_36 ⟨Nat.le_of_ble_eq_true rfl, Nat.le_of_ble_eq_true rfl⟩ [0, 1, 2, 3] (hc_31 (E := E)) (by decide +kernel) (k0 := 0) CL0 rfl hl.1 (Nat.le_of_ble_eq_true rfl) rfl dX0_takes_78 ⟨Nat.le_of_ble_eq_true rfl, Nat.le_of_ble_eq_true rfl⟩) (wTx E a ((fX0_endBall t).2)) [0, 1, 2, 3] (hc_31 (E := E)) (by decide +kernel) (ha_31 (E := E)) (hw_31 (E := E)) (fun H locs w => ?_)
          refine lv_goto (tgt := 91) hx hb dX0_takes_81 (by decide) ?_
          have hq : fX0_takes t ch = ((fX0_endBall t).1, (fX0_endBall t).2) := by simp only [fX0_takes, if_neg c4_1, if_neg c4_2, if_neg c4_4, if_pos c74_5]
          obtain ⟨h0_, h1_⟩ := tup2 hq
          rw [h0_, h1_]
          exact r_zret X w hr (zX0_endBall _) rfl dX0_takes_91
theorem zX0_takes (t : N2) (ch : Int32) : (fX0_takes t ch).1 = 0 ∨ (fX0_takes t ch).1 = 1 := by
  unfold fX0_takes
  repeat' split
  all_goals first | exact Or.inl rfl | exact Or.inr rfl | (simp; done) | exact zX0_beginsNumber _ _ _ _ | exact zX0_endBall _ | exact zX0_endsCell _ | exact zX0_growsNumber _ _ _
end
section
/-! the history's states, at their places: states[i] is the object hh ((i + o) % 4) -/
def wHg (E : Ev) (a : Nat → Nat) (hh : Nat → Nat → Nat) (n : Int32) (f : Nat → Option Nat) (η : Nat → N2) : va_W := [(a 0, .inr (1, [.ref (a 1), .int n])), (a 1, .inl (E.2.1.2.2, 4, .inr (.inr (.inr (.inr f)))))] ++ (wSt E (hh 0) (η 0) ++ (wSt E (hh 1) (η 1) ++ (wSt E (hh 2) (η 2) ++ wSt E (hh 3) (η 3))))
def wHs (E : Ev) (a : Nat → Nat) (hh : Nat → Nat → Nat) (n : Int32) (o : Nat) (η : Nat → N2) : va_W := wHg E a hh n (fun i => some (hh ((i + o) % 4) 0)) η
def hhd (E : Ev) (a : Nat → Nat) (hh : Nat → Nat → Nat) (n : Int32) (o : Nat) : va_W := [(a 0, .inr (1, [.ref (a 1), .int n])), (a 1, .inl (E.2.1.2.2, 4, .inr (.inr (.inr (.inr (fun i => some (hh ((i + o) % 4) 0)))))))]
def hsP (j : Nat) : List Nat := [2 + 9 * j, 3 + 9 * j, 4 + 9 * j, 5 + 9 * j, 6 + 9 * j, 7 + 9 * j, 8 + 9 * j, 9 + 9 * j, 10 + 9 * j, 38, 39, 40, 41, 42, 43, 44, 45, 46]
def hsQ (j : Nat) : List Nat := [38, 39, 40, 41, 42, 43, 44, 45, 46, 2 + 9 * j, 3 + 9 * j, 4 + 9 * j, 5 + 9 * j, 6 + 9 * j, 7 + 9 * j, 8 + 9 * j, 9 + 9 * j, 10 + 9 * j]
theorem fst_St {E : Ev} {b : Nat → Nat} {σ τ : N2} : (wSt E b σ).map Prod.fst = (wSt E b τ).map Prod.fst := rfl
theorem fst_Wk {j : Nat} {d e : N1} : (wWk j d).map Prod.fst = (wWk j e).map Prod.fst := rfl
theorem fst_Sh {k j : Nat} {z z' : N1} {v v' : UInt32} : (wSh k j z v).map Prod.fst = (wSh k j z' v').map Prod.fst := rfl
theorem fst_Tx {E : Ev} {b : Nat → Nat} {σ τ : N2} : (wTx E b σ).map Prod.fst = (wTx E b τ).map Prod.fst := rfl
theorem fst_Hs {E : Ev} {a : Nat → Nat} {hh : Nat → Nat → Nat} {n n' : Int32} {o o' : Nat} {η η' : Nat → N2} : (wHs E a hh n o η).map Prod.fst = (wHs E a hh n' o' η').map Prod.fst := rfl
theorem fst_Hb {h p0 p1 p2 p3 p4 p5 : Nat} {s s' : Int32} : (wHb h p0 p1 p2 p3 p4 p5 s).map Prod.fst = (wHb h p0 p1 p2 p3 p4 p5 s').map Prod.fst := rfl
section HS
variable {E : Ev} {a sa : Nat → Nat} {hh : Nat → Nat → Nat} {n : Int32} {o : Nat} {η : Nat → N2} {σ : N2}
theorem hsPC {j : Nat} (hj : j < 4) : (hsP j).map (fun i => (wHs E a hh n o η ++ wSt E sa σ)[i]?) = (wSt E (hh j) (η j) ++ wSt E sa σ).map some := by
  match j, hj with
  | 0, _ =>
    have e1 : wHs E a hh n o η ++ wSt E sa σ = (hhd E a hh n o) ++ (wSt E (hh 0) (η 0) ++ (wSt E (hh 1) (η 1) ++ (wSt E (hh 2) (η 2) ++ (wSt E (hh 3) (η 3) ++ (wSt E sa σ))))) := by simp only [wHs, wHg, hhd, List.append_assoc]
    have e2 : wHs E a hh n o η ++ wSt E sa σ = (hhd E a hh n o ++ (wSt E (hh 0) (η 0) ++ (wSt E (hh 1) (η 1) ++ (wSt E (hh 2) (η 2) ++ (wSt E (hh 3) (η 3)))))) ++ (wSt E sa σ ++ []) := by simp only [wHs, wHg, hhd, List.append_assoc, List.append_nil]
    exact get_app (is1 := rg 2 9) (is2 := rg 38 9) (by rw [e1]; exact get1 (s := 2) (n := 9) rfl rfl) (by rw [e2]; exact get1 (s := 38) (n := 9) rfl rfl)
  | 1, _ =>
    have e1 : wHs E a hh n o η ++ wSt E sa σ = (hhd E a hh n o ++ (wSt E (hh 0) (η 0))) ++ (wSt E (hh 1) (η 1) ++ (wSt E (hh 2) (η 2) ++ (wSt E (hh 3) (η 3) ++ (wSt E sa σ)))) := by simp only [wHs, wHg, hhd, List.append_assoc]
    have e2 : wHs E a hh n o η ++ wSt E sa σ = (hhd E a hh n o ++ (wSt E (hh 0) (η 0) ++ (wSt E (hh 1) (η 1) ++ (wSt E (hh 2) (η 2) ++ (wSt E (hh 3) (η 3)))))) ++ (wSt E sa σ ++ []) := by simp only [wHs, wHg, hhd, List.append_assoc, List.append_nil]
    exact get_app (is1 := rg 11 9) (is2 := rg 38 9) (by rw [e1]; exact get1 (s := 11) (n := 9) rfl rfl) (by rw [e2]; exact get1 (s := 38) (n := 9) rfl rfl)
  | 2, _ =>
    have e1 : wHs E a hh n o η ++ wSt E sa σ = (hhd E a hh n o ++ (wSt E (hh 0) (η 0) ++ (wSt E (hh 1) (η 1)))) ++ (wSt E (hh 2) (η 2) ++ (wSt E (hh 3) (η 3) ++ (wSt E sa σ))) := by simp only [wHs, wHg, hhd, List.append_assoc]
    have e2 : wHs E a hh n o η ++ wSt E sa σ = (hhd E a hh n o ++ (wSt E (hh 0) (η 0) ++ (wSt E (hh 1) (η 1) ++ (wSt E (hh 2) (η 2) ++ (wSt E (hh 3) (η 3)))))) ++ (wSt E sa σ ++ []) := by simp only [wHs, wHg, hhd, List.append_assoc, List.append_nil]
    exact get_app (is1 := rg 20 9) (is2 := rg 38 9) (by rw [e1]; exact get1 (s := 20) (n := 9) rfl rfl) (by rw [e2]; exact get1 (s := 38) (n := 9) rfl rfl)
  | 3, _ =>
    have e1 : wHs E a hh n o η ++ wSt E sa σ = (hhd E a hh n o ++ (wSt E (hh 0) (η 0) ++ (wSt E (hh 1) (η 1) ++ (wSt E (hh 2) (η 2))))) ++ (wSt E (hh 3) (η 3) ++ (wSt E sa σ)) := by simp only [wHs, wHg, hhd, List.append_assoc]
    have e2 : wHs E a hh n o η ++ wSt E sa σ = (hhd E a hh n o ++ (wSt E (hh 0) (η 0) ++ (wSt E (hh 1) (η 1) ++ (wSt E (hh 2) (η 2) ++ (wSt E (hh 3) (η 3)))))) ++ (wSt E sa σ ++ []) := by simp only [wHs, wHg, hhd, List.append_assoc, List.append_nil]
    exact get_app (is1 := rg 29 9) (is2 := rg 38 9) (by rw [e1]; exact get1 (s := 29) (n := 9) rfl rfl) (by rw [e2]; exact get1 (s := 38) (n := 9) rfl rfl)
theorem hsQC {j : Nat} (hj : j < 4) : (hsQ j).map (fun i => (wHs E a hh n o η ++ wSt E sa σ)[i]?) = (wSt E sa σ ++ wSt E (hh j) (η j)).map some := by
  match j, hj with
  | 0, _ =>
    have e1 : wHs E a hh n o η ++ wSt E sa σ = (hhd E a hh n o) ++ (wSt E (hh 0) (η 0) ++ (wSt E (hh 1) (η 1) ++ (wSt E (hh 2) (η 2) ++ (wSt E (hh 3) (η 3) ++ (wSt E sa σ))))) := by simp only [wHs, wHg, hhd, List.append_assoc]
    have e2 : wHs E a hh n o η ++ wSt E sa σ = (hhd E a hh n o ++ (wSt E (hh 0) (η 0) ++ (wSt E (hh 1) (η 1) ++ (wSt E (hh 2) (η 2) ++ (wSt E (hh 3) (η 3)))))) ++ (wSt E sa σ ++ []) := by simp only [wHs, wHg, hhd, List.append_assoc, List.append_nil]
    exact get_app (is1 := rg 38 9) (is2 := rg 2 9) (by rw [e2]; exact get1 (s := 38) (n := 9) rfl rfl) (by rw [e1]; exact get1 (s := 2) (n := 9) rfl rfl)
  | 1, _ =>
    have e1 : wHs E a hh n o η ++ wSt E sa σ = (hhd E a hh n o ++ (wSt E (hh 0) (η 0))) ++ (wSt E (hh 1) (η 1) ++ (wSt E (hh 2) (η 2) ++ (wSt E (hh 3) (η 3) ++ (wSt E sa σ)))) := by simp only [wHs, wHg, hhd, List.append_assoc]
    have e2 : wHs E a hh n o η ++ wSt E sa σ = (hhd E a hh n o ++ (wSt E (hh 0) (η 0) ++ (wSt E (hh 1) (η 1) ++ (wSt E (hh 2) (η 2) ++ (wSt E (hh 3) (η 3)))))) ++ (wSt E sa σ ++ []) := by simp only [wHs, wHg, hhd, List.append_assoc, List.append_nil]
    exact get_app (is1 := rg 38 9) (is2 := rg 11 9) (by rw [e2]; exact get1 (s := 38) (n := 9) rfl rfl) (by rw [e1]; exact get1 (s := 11) (n := 9) rfl rfl)
  | 2, _ =>
    have e1 : wHs E a hh n o η ++ wSt E sa σ = (hhd E a hh n o ++ (wSt E (hh 0) (η 0) ++ (wSt E (hh 1) (η 1)))) ++ (wSt E (hh 2) (η 2) ++ (wSt E (hh 3) (η 3) ++ (wSt E sa σ))) := by simp only [wHs, wHg, hhd, List.append_assoc]
    have e2 : wHs E a hh n o η ++ wSt E sa σ = (hhd E a hh n o ++ (wSt E (hh 0) (η 0) ++ (wSt E (hh 1) (η 1) ++ (wSt E (hh 2) (η 2) ++ (wSt E (hh 3) (η 3)))))) ++ (wSt E sa σ ++ []) := by simp only [wHs, wHg, hhd, List.append_assoc, List.append_nil]
    exact get_app (is1 := rg 38 9) (is2 := rg 20 9) (by rw [e2]; exact get1 (s := 38) (n := 9) rfl rfl) (by rw [e1]; exact get1 (s := 20) (n := 9) rfl rfl)
  | 3, _ =>
    have e1 : wHs E a hh n o η ++ wSt E sa σ = (hhd E a hh n o ++ (wSt E (hh 0) (η 0) ++ (wSt E (hh 1) (η 1) ++ (wSt E (hh 2) (η 2))))) ++ (wSt E (hh 3) (η 3) ++ (wSt E sa σ)) := by simp only [wHs, wHg, hhd, List.append_assoc]
    have e2 : wHs E a hh n o η ++ wSt E sa σ = (hhd E a hh n o ++ (wSt E (hh 0) (η 0) ++ (wSt E (hh 1) (η 1) ++ (wSt E (hh 2) (η 2) ++ (wSt E (hh 3) (η 3)))))) ++ (wSt E sa σ ++ []) := by simp only [wHs, wHg, hhd, List.append_assoc, List.append_nil]
    exact get_app (is1 := rg 38 9) (is2 := rg 29 9) (by rw [e2]; exact get1 (s := 38) (n := 9) rfl rfl) (by rw [e1]; exact get1 (s := 29) (n := 9) rfl rfl)
theorem hsPN {j : Nat} (hj : j < 4) : va_nd (hsP j) = true := by
  match j, hj with
  | 0, _ => rfl
  | 1, _ => rfl
  | 2, _ => rfl
  | 3, _ => rfl
theorem hsQN {j : Nat} (hj : j < 4) : va_nd (hsQ j) = true := by
  match j, hj with
  | 0, _ => rfl
  | 1, _ => rfl
  | 2, _ => rfl
  | 3, _ => rfl
theorem st_fst {b : Nat → Nat} {σ τ : N2} : (wSt E b σ).map Prod.fst = (wSt E b τ).map Prod.fst := rfl
theorem hsA {b c : Nat → Nat} {σ τ σ' τ' : N2} : (wSt E b σ ++ wSt E c τ).map Prod.fst = (wSt E b σ' ++ wSt E c τ').map Prod.fst := rfl
theorem hsPW {j : Nat} (hj : j < 4) {τ τ' : N2} : wput (wHs E a hh n o η ++ wSt E sa σ) (hsP j) (wSt E (hh j) τ ++ wSt E sa τ') = wHs E a hh n o (va_up η j τ) ++ wSt E sa τ' := by
  match j, hj with
  | 0, _ =>
    have e1 : wHs E a hh n o η ++ wSt E sa σ = (hhd E a hh n o) ++ (wSt E (hh 0) (η 0) ++ (wSt E (hh 1) (η 1) ++ (wSt E (hh 2) (η 2) ++ (wSt E (hh 3) (η 3) ++ (wSt E sa σ))))) := by simp only [wHs, wHg, hhd, List.append_assoc]
    have e2 : wHs E a hh n o η ++ wSt E sa σ = (hhd E a hh n o ++ (wSt E (hh 0) (η 0) ++ (wSt E (hh 1) (η 1) ++ (wSt E (hh 2) (η 2) ++ (wSt E (hh 3) (η 3)))))) ++ (wSt E sa σ ++ []) := by simp only [wHs, wHg, hhd, List.append_assoc, List.append_nil]
    show wput (wHs E a hh n o η ++ wSt E sa σ) (rg 2 9 ++ rg 38 9) (wSt E (hh 0) τ ++ wSt E sa τ') = _
    rw [wput_app rfl, e1, put1 (s := 2) (n := 9) rfl rfl rfl]
    rw [show (hhd E a hh n o) ++ (wSt E (hh 0) τ ++ (wSt E (hh 1) (η 1) ++ (wSt E (hh 2) (η 2) ++ (wSt E (hh 3) (η 3) ++ (wSt E sa σ))))) = (hhd E a hh n o ++ (wSt E (hh 0) τ ++ (wSt E (hh 1) (η 1) ++ (wSt E (hh 2) (η 2) ++ (wSt E (hh 3) (η 3)))))) ++ (wSt E sa σ ++ []) by simp only [List.append_assoc, List.append_nil], put1 (s := 38) (n := 9) rfl rfl rfl]
    show _ = wHg E a hh n (fun i => some (hh ((i + o) % 4) 0)) (va_up η 0 τ) ++ wSt E sa τ'
    simp only [wHg, hhd, List.append_assoc, List.append_nil]
    rfl
  | 1, _ =>
    have e1 : wHs E a hh n o η ++ wSt E sa σ = (hhd E a hh n o ++ (wSt E (hh 0) (η 0))) ++ (wSt E (hh 1) (η 1) ++ (wSt E (hh 2) (η 2) ++ (wSt E (hh 3) (η 3) ++ (wSt E sa σ)))) := by simp only [wHs, wHg, hhd, List.append_assoc]
    have e2 : wHs E a hh n o η ++ wSt E sa σ = (hhd E a hh n o ++ (wSt E (hh 0) (η 0) ++ (wSt E (hh 1) (η 1) ++ (wSt E (hh 2) (η 2) ++ (wSt E (hh 3) (η 3)))))) ++ (wSt E sa σ ++ []) := by simp only [wHs, wHg, hhd, List.append_assoc, List.append_nil]
    show wput (wHs E a hh n o η ++ wSt E sa σ) (rg 11 9 ++ rg 38 9) (wSt E (hh 1) τ ++ wSt E sa τ') = _
    rw [wput_app rfl, e1, put1 (s := 11) (n := 9) rfl rfl rfl]
    rw [show (hhd E a hh n o ++ (wSt E (hh 0) (η 0))) ++ (wSt E (hh 1) τ ++ (wSt E (hh 2) (η 2) ++ (wSt E (hh 3) (η 3) ++ (wSt E sa σ)))) = (hhd E a hh n o ++ (wSt E (hh 0) (η 0) ++ (wSt E (hh 1) τ ++ (wSt E (hh 2) (η 2) ++ (wSt E (hh 3) (η 3)))))) ++ (wSt E sa σ ++ []) by simp only [List.append_assoc, List.append_nil], put1 (s := 38) (n := 9) rfl rfl rfl]
    show _ = wHg E a hh n (fun i => some (hh ((i + o) % 4) 0)) (va_up η 1 τ) ++ wSt E sa τ'
    simp only [wHg, hhd, List.append_assoc, List.append_nil]
    rfl
  | 2, _ =>
    have e1 : wHs E a hh n o η ++ wSt E sa σ = (hhd E a hh n o ++ (wSt E (hh 0) (η 0) ++ (wSt E (hh 1) (η 1)))) ++ (wSt E (hh 2) (η 2) ++ (wSt E (hh 3) (η 3) ++ (wSt E sa σ))) := by simp only [wHs, wHg, hhd, List.append_assoc]
    have e2 : wHs E a hh n o η ++ wSt E sa σ = (hhd E a hh n o ++ (wSt E (hh 0) (η 0) ++ (wSt E (hh 1) (η 1) ++ (wSt E (hh 2) (η 2) ++ (wSt E (hh 3) (η 3)))))) ++ (wSt E sa σ ++ []) := by simp only [wHs, wHg, hhd, List.append_assoc, List.append_nil]
    show wput (wHs E a hh n o η ++ wSt E sa σ) (rg 20 9 ++ rg 38 9) (wSt E (hh 2) τ ++ wSt E sa τ') = _
    rw [wput_app rfl, e1, put1 (s := 20) (n := 9) rfl rfl rfl]
    rw [show (hhd E a hh n o ++ (wSt E (hh 0) (η 0) ++ (wSt E (hh 1) (η 1)))) ++ (wSt E (hh 2) τ ++ (wSt E (hh 3) (η 3) ++ (wSt E sa σ))) = (hhd E a hh n o ++ (wSt E (hh 0) (η 0) ++ (wSt E (hh 1) (η 1) ++ (wSt E (hh 2) τ ++ (wSt E (hh 3) (η 3)))))) ++ (wSt E sa σ ++ []) by simp only [List.append_assoc, List.append_nil], put1 (s := 38) (n := 9) rfl rfl rfl]
    show _ = wHg E a hh n (fun i => some (hh ((i + o) % 4) 0)) (va_up η 2 τ) ++ wSt E sa τ'
    simp only [wHg, hhd, List.append_assoc, List.append_nil]
    rfl
  | 3, _ =>
    have e1 : wHs E a hh n o η ++ wSt E sa σ = (hhd E a hh n o ++ (wSt E (hh 0) (η 0) ++ (wSt E (hh 1) (η 1) ++ (wSt E (hh 2) (η 2))))) ++ (wSt E (hh 3) (η 3) ++ (wSt E sa σ)) := by simp only [wHs, wHg, hhd, List.append_assoc]
    have e2 : wHs E a hh n o η ++ wSt E sa σ = (hhd E a hh n o ++ (wSt E (hh 0) (η 0) ++ (wSt E (hh 1) (η 1) ++ (wSt E (hh 2) (η 2) ++ (wSt E (hh 3) (η 3)))))) ++ (wSt E sa σ ++ []) := by simp only [wHs, wHg, hhd, List.append_assoc, List.append_nil]
    show wput (wHs E a hh n o η ++ wSt E sa σ) (rg 29 9 ++ rg 38 9) (wSt E (hh 3) τ ++ wSt E sa τ') = _
    rw [wput_app rfl, e1, put1 (s := 29) (n := 9) rfl rfl rfl]
    rw [show (hhd E a hh n o ++ (wSt E (hh 0) (η 0) ++ (wSt E (hh 1) (η 1) ++ (wSt E (hh 2) (η 2))))) ++ (wSt E (hh 3) τ ++ (wSt E sa σ)) = (hhd E a hh n o ++ (wSt E (hh 0) (η 0) ++ (wSt E (hh 1) (η 1) ++ (wSt E (hh 2) (η 2) ++ (wSt E (hh 3) τ))))) ++ (wSt E sa σ ++ []) by simp only [List.append_assoc, List.append_nil], put1 (s := 38) (n := 9) rfl rfl rfl]
    show _ = wHg E a hh n (fun i => some (hh ((i + o) % 4) 0)) (va_up η 3 τ) ++ wSt E sa τ'
    simp only [wHg, hhd, List.append_assoc, List.append_nil]
    rfl
theorem up_self {α : Type} (η : Nat → α) (j : Nat) : va_up η j (η j) = η := by
  funext i
  by_cases h : i = j
  · subst h; simp [va_up]
  · simp [va_up, h]
theorem hsQW {j : Nat} (hj : j < 4) {τ : N2} : wput (wHs E a hh n o η ++ wSt E sa σ) (hsQ j) (wSt E sa τ ++ wSt E (hh j) (η j)) = wHs E a hh n o η ++ wSt E sa τ := by
  match j, hj with
  | 0, _ =>
    have e1 : wHs E a hh n o η ++ wSt E sa σ = (hhd E a hh n o) ++ (wSt E (hh 0) (η 0) ++ (wSt E (hh 1) (η 1) ++ (wSt E (hh 2) (η 2) ++ (wSt E (hh 3) (η 3) ++ (wSt E sa σ))))) := by simp only [wHs, wHg, hhd, List.append_assoc]
    have e2 : wHs E a hh n o η ++ wSt E sa σ = (hhd E a hh n o ++ (wSt E (hh 0) (η 0) ++ (wSt E (hh 1) (η 1) ++ (wSt E (hh 2) (η 2) ++ (wSt E (hh 3) (η 3)))))) ++ (wSt E sa σ ++ []) := by simp only [wHs, wHg, hhd, List.append_assoc, List.append_nil]
    show wput (wHs E a hh n o η ++ wSt E sa σ) (rg 38 9 ++ rg 2 9) (wSt E sa τ ++ wSt E (hh 0) (η 0)) = _
    rw [wput_app rfl, e2, put1 (s := 38) (n := 9) rfl rfl rfl]
    rw [show (hhd E a hh n o ++ (wSt E (hh 0) (η 0) ++ (wSt E (hh 1) (η 1) ++ (wSt E (hh 2) (η 2) ++ (wSt E (hh 3) (η 3)))))) ++ (wSt E sa τ ++ []) = (hhd E a hh n o) ++ (wSt E (hh 0) (η 0) ++ (wSt E (hh 1) (η 1) ++ (wSt E (hh 2) (η 2) ++ (wSt E (hh 3) (η 3) ++ (wSt E sa τ))))) by simp only [List.append_assoc, List.append_nil], put1 (s := 2) (n := 9) rfl rfl rfl]
    simp only [wHs, wHg, hhd, List.append_assoc]
  | 1, _ =>
    have e1 : wHs E a hh n o η ++ wSt E sa σ = (hhd E a hh n o ++ (wSt E (hh 0) (η 0))) ++ (wSt E (hh 1) (η 1) ++ (wSt E (hh 2) (η 2) ++ (wSt E (hh 3) (η 3) ++ (wSt E sa σ)))) := by simp only [wHs, wHg, hhd, List.append_assoc]
    have e2 : wHs E a hh n o η ++ wSt E sa σ = (hhd E a hh n o ++ (wSt E (hh 0) (η 0) ++ (wSt E (hh 1) (η 1) ++ (wSt E (hh 2) (η 2) ++ (wSt E (hh 3) (η 3)))))) ++ (wSt E sa σ ++ []) := by simp only [wHs, wHg, hhd, List.append_assoc, List.append_nil]
    show wput (wHs E a hh n o η ++ wSt E sa σ) (rg 38 9 ++ rg 11 9) (wSt E sa τ ++ wSt E (hh 1) (η 1)) = _
    rw [wput_app rfl, e2, put1 (s := 38) (n := 9) rfl rfl rfl]
    rw [show (hhd E a hh n o ++ (wSt E (hh 0) (η 0) ++ (wSt E (hh 1) (η 1) ++ (wSt E (hh 2) (η 2) ++ (wSt E (hh 3) (η 3)))))) ++ (wSt E sa τ ++ []) = (hhd E a hh n o ++ (wSt E (hh 0) (η 0))) ++ (wSt E (hh 1) (η 1) ++ (wSt E (hh 2) (η 2) ++ (wSt E (hh 3) (η 3) ++ (wSt E sa τ)))) by simp only [List.append_assoc, List.append_nil], put1 (s := 11) (n := 9) rfl rfl rfl]
    simp only [wHs, wHg, hhd, List.append_assoc]
  | 2, _ =>
    have e1 : wHs E a hh n o η ++ wSt E sa σ = (hhd E a hh n o ++ (wSt E (hh 0) (η 0) ++ (wSt E (hh 1) (η 1)))) ++ (wSt E (hh 2) (η 2) ++ (wSt E (hh 3) (η 3) ++ (wSt E sa σ))) := by simp only [wHs, wHg, hhd, List.append_assoc]
    have e2 : wHs E a hh n o η ++ wSt E sa σ = (hhd E a hh n o ++ (wSt E (hh 0) (η 0) ++ (wSt E (hh 1) (η 1) ++ (wSt E (hh 2) (η 2) ++ (wSt E (hh 3) (η 3)))))) ++ (wSt E sa σ ++ []) := by simp only [wHs, wHg, hhd, List.append_assoc, List.append_nil]
    show wput (wHs E a hh n o η ++ wSt E sa σ) (rg 38 9 ++ rg 20 9) (wSt E sa τ ++ wSt E (hh 2) (η 2)) = _
    rw [wput_app rfl, e2, put1 (s := 38) (n := 9) rfl rfl rfl]
    rw [show (hhd E a hh n o ++ (wSt E (hh 0) (η 0) ++ (wSt E (hh 1) (η 1) ++ (wSt E (hh 2) (η 2) ++ (wSt E (hh 3) (η 3)))))) ++ (wSt E sa τ ++ []) = (hhd E a hh n o ++ (wSt E (hh 0) (η 0) ++ (wSt E (hh 1) (η 1)))) ++ (wSt E (hh 2) (η 2) ++ (wSt E (hh 3) (η 3) ++ (wSt E sa τ))) by simp only [List.append_assoc, List.append_nil], put1 (s := 20) (n := 9) rfl rfl rfl]
    simp only [wHs, wHg, hhd, List.append_assoc]
  | 3, _ =>
    have e1 : wHs E a hh n o η ++ wSt E sa σ = (hhd E a hh n o ++ (wSt E (hh 0) (η 0) ++ (wSt E (hh 1) (η 1) ++ (wSt E (hh 2) (η 2))))) ++ (wSt E (hh 3) (η 3) ++ (wSt E sa σ)) := by simp only [wHs, wHg, hhd, List.append_assoc]
    have e2 : wHs E a hh n o η ++ wSt E sa σ = (hhd E a hh n o ++ (wSt E (hh 0) (η 0) ++ (wSt E (hh 1) (η 1) ++ (wSt E (hh 2) (η 2) ++ (wSt E (hh 3) (η 3)))))) ++ (wSt E sa σ ++ []) := by simp only [wHs, wHg, hhd, List.append_assoc, List.append_nil]
    show wput (wHs E a hh n o η ++ wSt E sa σ) (rg 38 9 ++ rg 29 9) (wSt E sa τ ++ wSt E (hh 3) (η 3)) = _
    rw [wput_app rfl, e2, put1 (s := 38) (n := 9) rfl rfl rfl]
    rw [show (hhd E a hh n o ++ (wSt E (hh 0) (η 0) ++ (wSt E (hh 1) (η 1) ++ (wSt E (hh 2) (η 2) ++ (wSt E (hh 3) (η 3)))))) ++ (wSt E sa τ ++ []) = (hhd E a hh n o ++ (wSt E (hh 0) (η 0) ++ (wSt E (hh 1) (η 1) ++ (wSt E (hh 2) (η 2))))) ++ (wSt E (hh 3) (η 3) ++ (wSt E sa τ)) by simp only [List.append_assoc, List.append_nil], put1 (s := 29) (n := 9) rfl rfl rfl]
    simp only [wHs, wHg, hhd, List.append_assoc]
theorem hsO {f : Nat → Option Nat} {j : Nat} (hj : j < 4) : (wHg E a hh n f η)[2 + 9 * j]? = some (hh j 0, .inr (3, [.ref (hh j 1), .ref (hh j 2), .ref (hh j 3), .ref (hh j 4), .ref (hh j 5), .ref (hh j 6), .ref (hh j 7), .ref (hh j 8), .int (η j 8 0), .int (η j 8 1), .int (η j 8 2), .int (η j 8 3), .int (η j 8 4), .int (η j 8 5)])) := by
  match j, hj with
  | 0, _ => rfl
  | 1, _ => rfl
  | 2, _ => rfl
  | 3, _ => rfl
theorem hs_in {n : Int32} (h0 : ¬ n < 1) (h1 : n ≤ 4) : vp_in (n - 1) 4 := by
  have e1 : (1 : Int32).toInt = 1 := rfl
  have e4 : (4 : Int32).toInt = 4 := rfl
  rw [Int32.lt_iff_toInt_lt, e1] at h0
  rw [Int32.le_iff_toInt_le, e4] at h1
  rw [vp_in_iff, ti_sub (by omega) (by omega)]
  omega
end HS
theorem arr_extq {cA : ClassId} {n : Nat} {f g : Nat → Option Nat} (h : ∀ j : Nat, j < n → f j = g j) : vp_cell cA (n, .inr (.inr (.inr (.inr f)))) = vp_cell cA (n, .inr (.inr (.inr (.inr g)))) := by
  rw [vp_cell_q, vp_cell_q]
  unfold arrV
  congr 1
  apply Array.ext
  · simp
  · intro j h1 h2
    simp at h1 ⊢
    rw [h j (by simpa using h1)]
theorem Wd.arrq {E : Ev} {A : Nat → Prop} {s : State} {ws : va_W} {H : Heap} {locs : List Loc} (w : Wd E A s ws H locs) (q0 : Nat) {a : Nat} {cA : ClassId} {n : Nat} {f : Nat → Option Nat} (g : Nat → Option Nat) (ha : ws[q0]? = some (a, .inl (cA, n, .inr (.inr (.inr (.inr f)))))) (h : ∀ j : Nat, j < n → f j = g j) : Wd E A s (ws.set q0 (a, .inl (cA, n, .inr (.inr (.inr (.inr g)))))) H locs := by
  obtain ⟨hP, hD, hS⟩ := w
  refine ⟨hP.set hD ha ?_ (fun _ _ => rfl), hD.set ha, hS⟩
  have h0 := hP q0 _ ha
  show H[a]? = some (vp_cell cA (n, .inr (.inr (.inr (.inr g)))))
  rw [← arr_extq h]
  exact h0
section RQ
variable {p : Program} {l : Launch} {e : Env} {R : Room} {s : State} {m : MethodId} {args : Array Value} {below : List Frame} {meth : Method} {c : Code} {H : Heap} {locs : List Loc} {cells slots : Nat} {Q : State → Prop}
variable {cc : ByteArray} {nL : Nat} {own : String} {E : Ev} {A : Nat → Prop} {ws : va_W} {pc : Nat} {ls : Array Slot} {rest st0 : List Value} {a : Nat}
theorem r_astq (X : Cx p m meth c cc nL s args own E A) (w : Wd E A s ws H locs) (ws' : va_W) (q0 qk : Nat) {n v : Nat} {vs : List Value} {f : Nat → Option Nat} (ha : ws[q0]? = some (a, .inl (E.2.1.2.2, n, .inr (.inr (.inr (.inr f)))))) (hv : ws[qk]? = some (v, .inr (3, vs))) {i : Int32} (hin : vp_in i n) (hw : ws.set q0 (a, .inl (E.2.1.2.2, n, .inr (.inr (.inr (.inr (va_up f i.toNatClampNeg (some v))))))) = ws') (hdg : decode cc pc = .ok (.aastore, 1))
    (kk : ∀ (H1 : Heap) (locs1 : List Loc), Wd E A s ws' H1 locs1 → W p l e R s m args below meth c H1 locs1 cells slots Q (F0 m (pc + 1) ls rest)) : W p l e R s m args below meth c H locs cells slots Q (F0 m pc ls (.ref v :: .int i :: .ref a :: rest)) := by
  subst hw
  exact va_astq X.1 X.2.1 X.2.2.2.2.2.1 w.1 w.2.1 w.2.2 q0 2 qk 3 (r := (RX4, TX4, 14)) ha rfl hv rfl hin hdg (fun H1 locs1 h1 h2 h3 => kk H1 locs1 ⟨h1, h2, h3⟩)
end RQ
/-! the text, read -/
def rdF (t : N2) : Int32 × N2 := if t 3 2 = 3 then ((-1), (fX0_endBall t).2) else (t 3 0, t)
def rdN : Nat → Nat → N2 → Int32 × N2
  | 0, _, t => rdF t
  | n + 1, k, t => if t 3 0 ≤ nI k then rdF t else if (fX0_takes t (t 0 (nI k).toNatClampNeg)).1 = 0 then (nI k, (fX0_takes t (t 0 (nI k).toNatClampNeg)).2) else rdN n (k + 1) (fX0_takes t (t 0 (nI k).toNatClampNeg)).2
def fX0_read (t : N2) : Int32 × N2 := rdN 60 0 (u2 (u2 t 3 1 0) 3 2 0)

theorem dX0_read_0 : decode cX0_read 0 = .ok (.aload_n 0, 1) := by decide +kernel
theorem dX0_read_1 : decode cX0_read 1 = .ok (.iconst 0, 1) := by decide +kernel
theorem dX0_read_2 : decode cX0_read 2 = .ok (.putfield 26, 3) := by decide +kernel
theorem dX0_read_5 : decode cX0_read 5 = .ok (.aload_n 0, 1) := by decide +kernel
theorem dX0_read_6 : decode cX0_read 6 = .ok (.iconst 0, 1) := by decide +kernel
theorem dX0_read_7 : decode cX0_read 7 = .ok (.putfield 29, 3) := by decide +kernel
theorem dX0_read_10 : decode cX0_read 10 = .ok (.iconst 0, 1) := by decide +kernel
theorem dX0_read_11 : decode cX0_read 11 = .ok (.istore_n 1, 1) := by decide +kernel
theorem dX0_read_12 : decode cX0_read 12 = .ok (.iload_n 1, 1) := by decide +kernel
theorem dX0_read_13 : decode cX0_read 13 = .ok (.aload_n 0, 1) := by decide +kernel
theorem dX0_read_14 : decode cX0_read 14 = .ok (.getfield 22, 3) := by decide +kernel
theorem dX0_read_17 : decode cX0_read 17 = .ok (.if_icmp .ge 30, 3) := by decide +kernel
theorem dX0_read_20 : decode cX0_read 20 = .ok (.iload_n 1, 1) := by decide +kernel
theorem dX0_read_21 : decode cX0_read 21 = .ok (.bipush 60, 2) := by decide +kernel
theorem dX0_read_23 : decode cX0_read 23 = .ok (.if_icmp .ge 24, 3) := by decide +kernel
theorem dX0_read_26 : decode cX0_read 26 = .ok (.aload_n 0, 1) := by decide +kernel
theorem dX0_read_27 : decode cX0_read 27 = .ok (.aload_n 0, 1) := by decide +kernel
theorem dX0_read_28 : decode cX0_read 28 = .ok (.getfield 11, 3) := by decide +kernel
theorem dX0_read_31 : decode cX0_read 31 = .ok (.iload_n 1, 1) := by decide +kernel
theorem dX0_read_32 : decode cX0_read 32 = .ok (.caload, 1) := by decide +kernel
theorem dX0_read_33 : decode cX0_read 33 = .ok (.invokevirtual 32, 3) := by decide +kernel
theorem dX0_read_36 : decode cX0_read 36 = .ok (.ifCond .ne 5, 3) := by decide +kernel
theorem dX0_read_39 : decode cX0_read 39 = .ok (.iload_n 1, 1) := by decide +kernel
theorem dX0_read_40 : decode cX0_read 40 = .ok (.ireturn, 1) := by decide +kernel
theorem dX0_read_41 : decode cX0_read 41 = .ok (.iinc 1 1, 3) := by decide +kernel
theorem dX0_read_44 : decode cX0_read 44 = .ok (.goto (-32), 3) := by decide +kernel
theorem dX0_read_47 : decode cX0_read 47 = .ok (.aload_n 0, 1) := by decide +kernel
theorem dX0_read_48 : decode cX0_read 48 = .ok (.getfield 29, 3) := by decide +kernel
theorem dX0_read_51 : decode cX0_read 51 = .ok (.iconst 3, 1) := by decide +kernel
theorem dX0_read_52 : decode cX0_read 52 = .ok (.if_icmp .eq 8, 3) := by decide +kernel
theorem dX0_read_55 : decode cX0_read 55 = .ok (.aload_n 0, 1) := by decide +kernel
theorem dX0_read_56 : decode cX0_read 56 = .ok (.getfield 22, 3) := by decide +kernel
theorem dX0_read_59 : decode cX0_read 59 = .ok (.ireturn, 1) := by decide +kernel
theorem dX0_read_60 : decode cX0_read 60 = .ok (.aload_n 0, 1) := by decide +kernel
theorem dX0_read_61 : decode cX0_read 61 = .ok (.invokevirtual 36, 3) := by decide +kernel
theorem dX0_read_64 : decode cX0_read 64 = .ok (.pop, 1) := by decide +kernel
theorem dX0_read_65 : decode cX0_read 65 = .ok (.iconst (-1), 1) := by decide +kernel
theorem dX0_read_66 : decode cX0_read 66 = .ok (.ireturn, 1) := by decide +kernel
theorem ck_X0_32 : CkV RX0 32 RX0 yX0_takes cX0_takes 2 (some .boolean) 1 := ⟨wm_X0_32, wim_yX0_takes, wse_yX0_takes, wi_X0, wc_yX0_takes, by decide +kernel⟩
set_option maxHeartbeats 4000000 in
set_option maxRecDepth 100000 in
theorem kX0_read (l : Launch) (E : Ev) (a : Nat → Nat) (t : N2) : KQ l yX0_read cX0_read 2 (some .int) 2 44 E [.ref (a 0)] (wTx E a t) (QI E (wTx E a t) (fX0_read t).1 (wTx E a ((fX0_read t).2))) := by
  refine KQ.mk RX0 rfl (by decide +kernel) (Nat.le_of_ble_eq_true rfl) ?_
  intro p e s m below meth c ls X hr w hl
  have hx := X.1
  have hb := X.2.1
  have hl : lv_has ls 2 [(0, .ref (a 0))] := hl
  refine lv_aload_n hx hb dX0_read_0 rfl (lv_at hl 0 rfl) ?_
  refine lv_iconst (v := 0) hx hb dX0_read_1 (by decide) ?_
  refine r_put X w (wTx E a (u2 t 3 1 0)) CL0 4 (by decide) wf_X0_26 0 rfl rfl rfl rfl (Nat.le_of_ble_eq_true rfl) (ax_30 (E := E)) dX0_read_2 (fun H locs w => ?_)
  refine lv_aload_n hx hb dX0_read_5 rfl (lv_at hl 0 rfl) ?_
  refine lv_iconst (v := 0) hx hb dX0_read_6 (by decide) ?_
  refine r_put X w (wTx E a (u2 (u2 t 3 1 0) 3 2 0)) CL0 5 (by decide) wf_X0_29 0 rfl rfl rfl rfl (Nat.le_of_ble_eq_true rfl) (ax_27 (E := E)) dX0_read_7 (fun H locs w => ?_)
  refine lv_iconst (v := 0) hx hb dX0_read_10 (by decide) ?_
  refine lv_istore_n (lv' := [(1, .int 0), (0, .ref (a 0))]) hx hb dX0_read_11 rfl hl (by decide) rfl (fun ls hl => ?_)
  have loop : ∀ (n k : Nat), k + n = 60 → ∀ (t1 : N2), rdN n k t1 = fX0_read t → ∀ (H : Heap) (locs : List Loc), Wd E (hB (wTx E a t)) s (wTx E a t1) H locs → ∀ (ls : Array Slot), lv_has ls 2 [(1, .int (nI k)), (0, .ref (a 0))] → W p l e { frames := 2, cells := 0, slots := 0, locals := 44 } s m (([.ref (a 0)] : List Value)).toArray below meth c H locs 0 0 (MQ below (QI E (wTx E a t) (fX0_read t).1 (wTx E a ((fX0_read t).2))) (([.ref (a 0)] : List Value)).toArray s 0 0 (hB (wTx E a t))) (F0 m 12 ls []) := by
    intro n
    induction n with
    | zero =>
      intro k hk_k t1 hR H locs w ls hl
      obtain rfl : k = 60 := by omega
      refine lv_iload_n hx hb dX0_read_12 rfl (lv_at hl 0 rfl) ?_
      refine lv_aload_n hx hb dX0_read_13 rfl (lv_at hl 1 rfl) ?_
      refine r_get X w CL0 1 (by decide) wf_X0_22 0 rfl rfl dX0_read_14 ?_
      refine lv_icmp_ge (tgt := 47) hx hb dX0_read_17 (by decide) (fun c17_1 => ?_) (fun c17_1 => ?_)
      · refine lv_aload_n hx hb dX0_read_47 rfl (lv_at hl 1 rfl) ?_
        refine r_get X w CL0 5 (by decide) wf_X0_29 0 rfl rfl dX0_read_48 ?_
        refine lv_iconst (v := 3) hx hb dX0_read_51 (by decide) ?_
        refine lv_icmp_eq (tgt := 60) hx hb dX0_read_52 (by decide) (fun c52_2 => ?_) (fun c52_2 => ?_)
        · refine lv_aload_n hx hb dX0_read_60 rfl (lv_at hl 1 rfl) ?_
          refine r_ci w (r_runV (As := []) (rest := []) X w (kX0_endBall l E a t1 ) ck_X0_36 ⟨Nat.le_of_ble_eq_true rfl, Nat.le_of_ble_eq_true rfl⟩ [0, 1, 2, 3] (hc_31 (E := E)) (by decide +kernel) (k0 := 0) CL0 rfl hl.1 (Nat.le_of_ble_eq_true rfl) rfl dX0_read_61 ⟨Nat.le_of_ble_eq_true rfl, Nat.le_of_ble_eq_true rfl⟩) (wTx E a ((fX0_endBall t1).2)) [0, 1, 2, 3] (hc_31 (E := E)) (by decide +kernel) (ha_31 (E := E)) (hw_31 (E := E)) (fun H locs w => ?_)
          refine lv_pop hx hb dX0_read_64 rfl ?_
          refine lv_iconst (v := (-1)) hx hb dX0_read_65 (by decide) ?_
          have hq : fX0_read t = ((-1), (fX0_endBall t1).2) := by rw [← hR]; simp only [rdN, rdF, if_pos c17_1, if_pos c52_2]
          obtain ⟨h0_, h1_⟩ := tup2 hq
          rw [h0_, h1_]
          exact r_iret X w hr rfl dX0_read_66
        · refine lv_aload_n hx hb dX0_read_55 rfl (lv_at hl 1 rfl) ?_
          refine r_get X w CL0 1 (by decide) wf_X0_22 0 rfl rfl dX0_read_56 ?_
          have hq : fX0_read t = (t1 3 0, t1) := by rw [← hR]; simp only [rdN, rdF, if_pos c17_1, if_neg c52_2]
          obtain ⟨h0_, h1_⟩ := tup2 hq
          rw [h0_, h1_]
          exact r_iret X w hr rfl dX0_read_59
      · refine lv_iload_n hx hb dX0_read_20 rfl (lv_at hl 0 rfl) ?_
        refine lv_bipush (v := 60) hx hb dX0_read_21 (by decide) ?_
        refine lv_icmp_ge (tgt := 47) hx hb dX0_read_23 (by decide) (fun _ => ?_) (fun h => absurd (by decide : (60 : Int32) ≤ nI 60) h)
        refine lv_aload_n hx hb dX0_read_47 rfl (lv_at hl 1 rfl) ?_
        refine r_get X w CL0 5 (by decide) wf_X0_29 0 rfl rfl dX0_read_48 ?_
        refine lv_iconst (v := 3) hx hb dX0_read_51 (by decide) ?_
        refine lv_icmp_eq (tgt := 60) hx hb dX0_read_52 (by decide) (fun c52_4 => ?_) (fun c52_4 => ?_)
        · refine lv_aload_n hx hb dX0_read_60 rfl (lv_at hl 1 rfl) ?_
          refine r_ci w (r_runV (As := []) (rest := []) X w (kX0_endBall l E a t1 ) ck_X0_36 ⟨Nat.le_of_ble_eq_true rfl, Nat.le_of_ble_eq_true rfl⟩ [0, 1, 2, 3] (hc_31 (E := E)) (by decide +kernel) (k0 := 0) CL0 rfl hl.1 (Nat.le_of_ble_eq_true rfl) rfl dX0_read_61 ⟨Nat.le_of_ble_eq_true rfl, Nat.le_of_ble_eq_true rfl⟩) (wTx E a ((fX0_endBall t1).2)) [0, 1, 2, 3] (hc_31 (E := E)) (by decide +kernel) (ha_31 (E := E)) (hw_31 (E := E)) (fun H locs w => ?_)
          refine lv_pop hx hb dX0_read_64 rfl ?_
          refine lv_iconst (v := (-1)) hx hb dX0_read_65 (by decide) ?_
          have hq : fX0_read t = ((-1), (fX0_endBall t1).2) := by rw [← hR]; simp only [rdN, rdF, if_neg c17_1, if_pos c52_4]
          obtain ⟨h0_, h1_⟩ := tup2 hq
          rw [h0_, h1_]
          exact r_iret X w hr rfl dX0_read_66
        · refine lv_aload_n hx hb dX0_read_55 rfl (lv_at hl 1 rfl) ?_
          refine r_get X w CL0 1 (by decide) wf_X0_22 0 rfl rfl dX0_read_56 ?_
          have hq : fX0_read t = (t1 3 0, t1) := by rw [← hR]; simp only [rdN, rdF, if_neg c17_1, if_neg c52_4]
          obtain ⟨h0_, h1_⟩ := tup2 hq
          rw [h0_, h1_]
          exact r_iret X w hr rfl dX0_read_59
    | succ n ih =>
      intro k hk_k t1 hR H locs w ls hl
      have hkN : k < 60 := by omega
      refine lv_iload_n hx hb dX0_read_12 rfl (lv_at hl 0 rfl) ?_
      refine lv_aload_n hx hb dX0_read_13 rfl (lv_at hl 1 rfl) ?_
      refine r_get X w CL0 1 (by decide) wf_X0_22 0 rfl rfl dX0_read_14 ?_
      refine lv_icmp_ge (tgt := 47) hx hb dX0_read_17 (by decide) (fun c17_5 => ?_) (fun c17_5 => ?_)
      · refine lv_aload_n hx hb dX0_read_47 rfl (lv_at hl 1 rfl) ?_
        refine r_get X w CL0 5 (by decide) wf_X0_29 0 rfl rfl dX0_read_48 ?_
        refine lv_iconst (v := 3) hx hb dX0_read_51 (by decide) ?_
        refine lv_icmp_eq (tgt := 60) hx hb dX0_read_52 (by decide) (fun c52_6 => ?_) (fun c52_6 => ?_)
        · refine lv_aload_n hx hb dX0_read_60 rfl (lv_at hl 1 rfl) ?_
          refine r_ci w (r_runV (As := []) (rest := []) X w (kX0_endBall l E a t1 ) ck_X0_36 ⟨Nat.le_of_ble_eq_true rfl, Nat.le_of_ble_eq_true rfl⟩ [0, 1, 2, 3] (hc_31 (E := E)) (by decide +kernel) (k0 := 0) CL0 rfl hl.1 (Nat.le_of_ble_eq_true rfl) rfl dX0_read_61 ⟨Nat.le_of_ble_eq_true rfl, Nat.le_of_ble_eq_true rfl⟩) (wTx E a ((fX0_endBall t1).2)) [0, 1, 2, 3] (hc_31 (E := E)) (by decide +kernel) (ha_31 (E := E)) (hw_31 (E := E)) (fun H locs w => ?_)
          refine lv_pop hx hb dX0_read_64 rfl ?_
          refine lv_iconst (v := (-1)) hx hb dX0_read_65 (by decide) ?_
          have hq : fX0_read t = ((-1), (fX0_endBall t1).2) := by rw [← hR]; simp only [rdN, rdF, if_pos c17_5, if_pos c52_6]
          obtain ⟨h0_, h1_⟩ := tup2 hq
          rw [h0_, h1_]
          exact r_iret X w hr rfl dX0_read_66
        · refine lv_aload_n hx hb dX0_read_55 rfl (lv_at hl 1 rfl) ?_
          refine r_get X w CL0 1 (by decide) wf_X0_22 0 rfl rfl dX0_read_56 ?_
          have hq : fX0_read t = (t1 3 0, t1) := by rw [← hR]; simp only [rdN, rdF, if_pos c17_5, if_neg c52_6]
          obtain ⟨h0_, h1_⟩ := tup2 hq
          rw [h0_, h1_]
          exact r_iret X w hr rfl dX0_read_59
      · refine lv_iload_n hx hb dX0_read_20 rfl (lv_at hl 0 rfl) ?_
        refine lv_bipush (v := 60) hx hb dX0_read_21 (by decide) ?_
        refine lv_icmp_ge (tgt := 47) hx hb dX0_read_23 (by decide) (fun h => absurd h (nI_ge (b := 60) hkN (by decide))) (fun _ => ?_)
        refine lv_aload_n hx hb dX0_read_26 rfl (lv_at hl 1 rfl) ?_
        refine lv_aload_n hx hb dX0_read_27 rfl (lv_at hl 1 rfl) ?_
        refine r_get X w CL0 0 (by decide) wf_X0_11 0 rfl rfl dX0_read_28 ?_
        refine lv_iload_n hx hb dX0_read_31 rfl (lv_at hl 0 rfl) ?_
        refine r_cald X w 1 rfl (vp_in_nI hkN (by decide)) dX0_read_32 ?_
        refine r_ci w (r_runV (As := [.int (t1 0 (nI k).toNatClampNeg)]) (rest := []) X w (kX0_takes l E a t1 (t1 0 (nI k).toNatClampNeg) ) ck_X0_32 ⟨Nat.le_of_ble_eq_true rfl, Nat.le_of_ble_eq_true rfl⟩ [0, 1, 2, 3] (hc_31 (E := E)) (by decide +kernel) (k0 := 0) CL0 rfl hl.1 (Nat.le_of_ble_eq_true rfl) rfl dX0_read_33 ⟨Nat.le_of_ble_eq_true rfl, Nat.le_of_ble_eq_true rfl⟩) (wTx E a ((fX0_takes t1 (t1 0 (nI k).toNatClampNeg)).2)) [0, 1, 2, 3] (hc_31 (E := E)) (by decide +kernel) (ha_31 (E := E)) (hw_31 (E := E)) (fun H locs w => ?_)
        refine lv_if_ne (tgt := 41) hx hb dX0_read_36 (by decide) (fun c36_8 => ?_) (fun c36_8 => ?_)
        · refine lv_iinc (v := (nI k) + 1) (lv' := [(1, .int ((nI k) + 1)), (0, .ref (a 0))]) hx hb dX0_read_41 hl (k := 0) rfl (by first | rfl | decide) (by decide) rfl (fun ls hl => ?_)
          refine lv_goto (tgt := 12) hx hb dX0_read_44 (by decide) ?_
          have e0 : nI k + 1 = nI (k + 1) := nI_1 k
          rw [e0] at hl
          exact ih (k + 1) (by omega) _ (by rw [← hR]; simp only [rdN, if_neg c17_5, if_neg c36_8]) _ _ w ls (lv_sub hl [0, 1] rfl)
        · refine lv_iload_n hx hb dX0_read_39 rfl (lv_at hl 0 rfl) ?_
          have hq : fX0_read t = (nI k, (fX0_takes t1 (t1 0 (nI k).toNatClampNeg)).2) := by rw [← hR]; simp only [rdN, rdF, if_neg c17_5, if_pos c36_8]
          obtain ⟨h0_, h1_⟩ := tup2 hq
          rw [h0_, h1_]
          exact r_iret X w hr rfl dX0_read_40
  exact loop 60 0 (by omega) _ rfl _ _ w ls (lv_sub hl [0, 1] rfl)
def fX2_dropOldest (n : Int32) (o : Nat) (η : Nat → N2) : Int32 × Nat := (3, (o + 1))
theorem dX2_dropOldest_0 : decode cX2_dropOldest 0 = .ok (.aload_n 0, 1) := by decide +kernel
theorem dX2_dropOldest_1 : decode cX2_dropOldest 1 = .ok (.getfield 11, 3) := by decide +kernel
theorem dX2_dropOldest_4 : decode cX2_dropOldest 4 = .ok (.iconst 0, 1) := by decide +kernel
theorem dX2_dropOldest_5 : decode cX2_dropOldest 5 = .ok (.aaload, 1) := by decide +kernel
theorem dX2_dropOldest_6 : decode cX2_dropOldest 6 = .ok (.astore_n 1, 1) := by decide +kernel
theorem dX2_dropOldest_7 : decode cX2_dropOldest 7 = .ok (.iconst 1, 1) := by decide +kernel
theorem dX2_dropOldest_8 : decode cX2_dropOldest 8 = .ok (.istore_n 2, 1) := by decide +kernel
theorem dX2_dropOldest_9 : decode cX2_dropOldest 9 = .ok (.iload_n 2, 1) := by decide +kernel
theorem dX2_dropOldest_10 : decode cX2_dropOldest 10 = .ok (.iconst 4, 1) := by decide +kernel
theorem dX2_dropOldest_11 : decode cX2_dropOldest 11 = .ok (.if_icmp .ge 23, 3) := by decide +kernel
theorem dX2_dropOldest_14 : decode cX2_dropOldest 14 = .ok (.aload_n 0, 1) := by decide +kernel
theorem dX2_dropOldest_15 : decode cX2_dropOldest 15 = .ok (.getfield 11, 3) := by decide +kernel
theorem dX2_dropOldest_18 : decode cX2_dropOldest 18 = .ok (.iload_n 2, 1) := by decide +kernel
theorem dX2_dropOldest_19 : decode cX2_dropOldest 19 = .ok (.iconst 1, 1) := by decide +kernel
theorem dX2_dropOldest_20 : decode cX2_dropOldest 20 = .ok (.isub, 1) := by decide +kernel
theorem dX2_dropOldest_21 : decode cX2_dropOldest 21 = .ok (.aload_n 0, 1) := by decide +kernel
theorem dX2_dropOldest_22 : decode cX2_dropOldest 22 = .ok (.getfield 11, 3) := by decide +kernel
theorem dX2_dropOldest_25 : decode cX2_dropOldest 25 = .ok (.iload_n 2, 1) := by decide +kernel
theorem dX2_dropOldest_26 : decode cX2_dropOldest 26 = .ok (.aaload, 1) := by decide +kernel
theorem dX2_dropOldest_27 : decode cX2_dropOldest 27 = .ok (.aastore, 1) := by decide +kernel
theorem dX2_dropOldest_28 : decode cX2_dropOldest 28 = .ok (.iinc 2 1, 3) := by decide +kernel
theorem dX2_dropOldest_31 : decode cX2_dropOldest 31 = .ok (.goto (-22), 3) := by decide +kernel
theorem dX2_dropOldest_34 : decode cX2_dropOldest 34 = .ok (.aload_n 0, 1) := by decide +kernel
theorem dX2_dropOldest_35 : decode cX2_dropOldest 35 = .ok (.getfield 11, 3) := by decide +kernel
theorem dX2_dropOldest_38 : decode cX2_dropOldest 38 = .ok (.iconst 3, 1) := by decide +kernel
theorem dX2_dropOldest_39 : decode cX2_dropOldest 39 = .ok (.aload_n 1, 1) := by decide +kernel
theorem dX2_dropOldest_40 : decode cX2_dropOldest 40 = .ok (.aastore, 1) := by decide +kernel
theorem dX2_dropOldest_41 : decode cX2_dropOldest 41 = .ok (.aload_n 0, 1) := by decide +kernel
theorem dX2_dropOldest_42 : decode cX2_dropOldest 42 = .ok (.iconst 3, 1) := by decide +kernel
theorem dX2_dropOldest_43 : decode cX2_dropOldest 43 = .ok (.putfield 16, 3) := by decide +kernel
theorem dX2_dropOldest_46 : decode cX2_dropOldest 46 = .ok (.return_, 1) := by decide +kernel
theorem ax_32 {E : Ev} {a0 : Nat → Nat} {h0 : Nat → Nat → Nat} {n0 : Int32} {η0 : Nat → N2} {f0 : Nat → Option Nat} {x : Int32} : (wHg E a0 h0 n0 f0 η0).set 0 (a0 0, .inr (1, ([.ref (a0 1), .int n0] : List Value).set 1 (.int x))) = wHg E a0 h0 x f0 η0 := rfl
set_option maxHeartbeats 4000000 in
set_option maxRecDepth 100000 in
theorem kX2_dropOldest (l : Launch) (E : Ev) (a : Nat → Nat) (hh : Nat → Nat → Nat) (n : Int32) (o : Nat) (η : Nat → N2) : KQ l yX2_dropOldest cX2_dropOldest 3 none 0 0 E [.ref (a 0)] (wHs E a hh n o η) (QV E (wHs E a hh n o η) (wHs E a hh ((fX2_dropOldest n o η).1) ((fX2_dropOldest n o η).2) η)) := by
  refine KQ.mk RX2 rfl (by decide +kernel) (Nat.le_of_ble_eq_true rfl) ?_
  intro p e s m below meth c ls X hr w hl
  have hx := X.1
  have hb := X.2.1
  have hl : lv_has ls 3 [(0, .ref (a 0))] := hl
  refine lv_aload_n hx hb dX2_dropOldest_0 rfl (lv_at hl 0 rfl) ?_
  refine r_get X w CL2 0 (by decide) wf_X2_11 0 rfl rfl dX2_dropOldest_1 ?_
  refine lv_iconst (v := 0) hx hb dX2_dropOldest_4 (by decide) ?_
  refine r_aldq X w 1 rfl (vin_c rfl) (v := (hh ((0 + o) % 4) 0)) rfl dX2_dropOldest_5 ?_
  refine lv_astore_n (lv' := [(1, .ref (hh ((0 + o) % 4) 0)), (0, .ref (a 0))]) hx hb dX2_dropOldest_6 rfl hl (by decide) rfl (fun ls hl => ?_)
  refine lv_iconst (v := 1) hx hb dX2_dropOldest_7 (by decide) ?_
  refine lv_istore_n (lv' := [(2, .int 1), (1, .ref (hh ((0 + o) % 4) 0)), (0, .ref (a 0))]) hx hb dX2_dropOldest_8 rfl hl (by decide) rfl (fun ls hl => ?_)
  refine lv_iload_n hx hb dX2_dropOldest_9 rfl (lv_at hl 0 rfl) ?_
  refine lv_iconst (v := 4) hx hb dX2_dropOldest_10 (by decide) ?_
  refine lv_icmp_ge (tgt := 34) hx hb dX2_dropOldest_11 (by decide) (fun h => absurd h (by decide)) (fun _ => ?_)
  refine lv_aload_n hx hb dX2_dropOldest_14 rfl (lv_at hl 2 rfl) ?_
  refine r_get X w CL2 0 (by decide) wf_X2_11 0 rfl rfl dX2_dropOldest_15 ?_
  refine lv_iload_n hx hb dX2_dropOldest_18 rfl (lv_at hl 0 rfl) ?_
  refine lv_iconst (v := 1) hx hb dX2_dropOldest_19 (by decide) ?_
  refine lv_isub hx hb dX2_dropOldest_20 ?_
  rw [show ((1 : Int32) - 1) = 0 from by decide]
  refine lv_aload_n hx hb dX2_dropOldest_21 rfl (lv_at hl 2 rfl) ?_
  refine r_get X w CL2 0 (by decide) wf_X2_11 0 rfl rfl dX2_dropOldest_22 ?_
  refine lv_iload_n hx hb dX2_dropOldest_25 rfl (lv_at hl 0 rfl) ?_
  refine r_aldq X w 1 rfl (vin_c rfl) (v := (hh ((1 + o) % 4) 0)) rfl dX2_dropOldest_26 ?_
  refine r_astq X w (wHg E a hh n (va_up (fun i => some (hh ((i + o) % 4) 0)) (0 : Int32).toNatClampNeg (some (hh ((1 + o) % 4) 0))) η) 1 (2 + 9 * ((1 + o) % 4)) rfl (hsO (Nat.mod_lt _ (by decide))) (vin_c rfl) rfl dX2_dropOldest_27 (fun H locs w => ?_)
  refine lv_iinc (v := 2) (lv' := [(2, .int 2), (1, .ref (hh ((0 + o) % 4) 0)), (0, .ref (a 0))]) hx hb dX2_dropOldest_28 hl (k := 0) rfl (by first | rfl | decide) (by decide) rfl (fun ls hl => ?_)
  refine lv_goto (tgt := 9) hx hb dX2_dropOldest_31 (by decide) ?_
  refine lv_iload_n hx hb dX2_dropOldest_9 rfl (lv_at hl 0 rfl) ?_
  refine lv_iconst (v := 4) hx hb dX2_dropOldest_10 (by decide) ?_
  refine lv_icmp_ge (tgt := 34) hx hb dX2_dropOldest_11 (by decide) (fun h => absurd h (by decide)) (fun _ => ?_)
  refine lv_aload_n hx hb dX2_dropOldest_14 rfl (lv_at hl 2 rfl) ?_
  refine r_get X w CL2 0 (by decide) wf_X2_11 0 rfl rfl dX2_dropOldest_15 ?_
  refine lv_iload_n hx hb dX2_dropOldest_18 rfl (lv_at hl 0 rfl) ?_
  refine lv_iconst (v := 1) hx hb dX2_dropOldest_19 (by decide) ?_
  refine lv_isub hx hb dX2_dropOldest_20 ?_
  rw [show ((2 : Int32) - 1) = 1 from by decide]
  refine lv_aload_n hx hb dX2_dropOldest_21 rfl (lv_at hl 2 rfl) ?_
  refine r_get X w CL2 0 (by decide) wf_X2_11 0 rfl rfl dX2_dropOldest_22 ?_
  refine lv_iload_n hx hb dX2_dropOldest_25 rfl (lv_at hl 0 rfl) ?_
  refine r_aldq X w 1 rfl (vin_c rfl) (v := (hh ((2 + o) % 4) 0)) rfl dX2_dropOldest_26 ?_
  refine r_astq X w (wHg E a hh n (va_up (va_up (fun i => some (hh ((i + o) % 4) 0)) (0 : Int32).toNatClampNeg (some (hh ((1 + o) % 4) 0))) (1 : Int32).toNatClampNeg (some (hh ((2 + o) % 4) 0))) η) 1 (2 + 9 * ((2 + o) % 4)) rfl (hsO (Nat.mod_lt _ (by decide))) (vin_c rfl) rfl dX2_dropOldest_27 (fun H locs w => ?_)
  refine lv_iinc (v := 3) (lv' := [(2, .int 3), (1, .ref (hh ((0 + o) % 4) 0)), (0, .ref (a 0))]) hx hb dX2_dropOldest_28 hl (k := 0) rfl (by first | rfl | decide) (by decide) rfl (fun ls hl => ?_)
  refine lv_goto (tgt := 9) hx hb dX2_dropOldest_31 (by decide) ?_
  refine lv_iload_n hx hb dX2_dropOldest_9 rfl (lv_at hl 0 rfl) ?_
  refine lv_iconst (v := 4) hx hb dX2_dropOldest_10 (by decide) ?_
  refine lv_icmp_ge (tgt := 34) hx hb dX2_dropOldest_11 (by decide) (fun h => absurd h (by decide)) (fun _ => ?_)
  refine lv_aload_n hx hb dX2_dropOldest_14 rfl (lv_at hl 2 rfl) ?_
  refine r_get X w CL2 0 (by decide) wf_X2_11 0 rfl rfl dX2_dropOldest_15 ?_
  refine lv_iload_n hx hb dX2_dropOldest_18 rfl (lv_at hl 0 rfl) ?_
  refine lv_iconst (v := 1) hx hb dX2_dropOldest_19 (by decide) ?_
  refine lv_isub hx hb dX2_dropOldest_20 ?_
  rw [show ((3 : Int32) - 1) = 2 from by decide]
  refine lv_aload_n hx hb dX2_dropOldest_21 rfl (lv_at hl 2 rfl) ?_
  refine r_get X w CL2 0 (by decide) wf_X2_11 0 rfl rfl dX2_dropOldest_22 ?_
  refine lv_iload_n hx hb dX2_dropOldest_25 rfl (lv_at hl 0 rfl) ?_
  refine r_aldq X w 1 rfl (vin_c rfl) (v := (hh ((3 + o) % 4) 0)) rfl dX2_dropOldest_26 ?_
  refine r_astq X w (wHg E a hh n (va_up (va_up (va_up (fun i => some (hh ((i + o) % 4) 0)) (0 : Int32).toNatClampNeg (some (hh ((1 + o) % 4) 0))) (1 : Int32).toNatClampNeg (some (hh ((2 + o) % 4) 0))) (2 : Int32).toNatClampNeg (some (hh ((3 + o) % 4) 0))) η) 1 (2 + 9 * ((3 + o) % 4)) rfl (hsO (Nat.mod_lt _ (by decide))) (vin_c rfl) rfl dX2_dropOldest_27 (fun H locs w => ?_)
  refine lv_iinc (v := 4) (lv' := [(2, .int 4), (1, .ref (hh ((0 + o) % 4) 0)), (0, .ref (a 0))]) hx hb dX2_dropOldest_28 hl (k := 0) rfl (by first | rfl | decide) (by decide) rfl (fun ls hl => ?_)
  refine lv_goto (tgt := 9) hx hb dX2_dropOldest_31 (by decide) ?_
  refine lv_iload_n hx hb dX2_dropOldest_9 rfl (lv_at hl 0 rfl) ?_
  refine lv_iconst (v := 4) hx hb dX2_dropOldest_10 (by decide) ?_
  refine lv_icmp_ge (tgt := 34) hx hb dX2_dropOldest_11 (by decide) (fun _ => ?_) (fun h => absurd h (by decide))
  refine lv_aload_n hx hb dX2_dropOldest_34 rfl (lv_at hl 2 rfl) ?_
  refine r_get X w CL2 0 (by decide) wf_X2_11 0 rfl rfl dX2_dropOldest_35 ?_
  refine lv_iconst (v := 3) hx hb dX2_dropOldest_38 (by decide) ?_
  refine lv_aload_n hx hb dX2_dropOldest_39 rfl (lv_at hl 1 rfl) ?_
  refine r_astq X w (wHg E a hh n (va_up (va_up (va_up (va_up (fun i => some (hh ((i + o) % 4) 0)) (0 : Int32).toNatClampNeg (some (hh ((1 + o) % 4) 0))) (1 : Int32).toNatClampNeg (some (hh ((2 + o) % 4) 0))) (2 : Int32).toNatClampNeg (some (hh ((3 + o) % 4) 0))) (3 : Int32).toNatClampNeg (some (hh ((0 + o) % 4) 0))) η) 1 (2 + 9 * ((0 + o) % 4)) rfl (hsO (Nat.mod_lt _ (by decide))) (vin_c rfl) rfl dX2_dropOldest_40 (fun H locs w => ?_)
  refine lv_aload_n hx hb dX2_dropOldest_41 rfl (lv_at hl 2 rfl) ?_
  refine lv_iconst (v := 3) hx hb dX2_dropOldest_42 (by decide) ?_
  refine r_put X w (wHg E a hh 3 (va_up (va_up (va_up (va_up (fun i => some (hh ((i + o) % 4) 0)) (0 : Int32).toNatClampNeg (some (hh ((1 + o) % 4) 0))) (1 : Int32).toNatClampNeg (some (hh ((2 + o) % 4) 0))) (2 : Int32).toNatClampNeg (some (hh ((3 + o) % 4) 0))) (3 : Int32).toNatClampNeg (some (hh ((0 + o) % 4) 0))) η) CL2 1 (by decide) wf_X2_16 0 rfl rfl rfl rfl (Nat.le_of_ble_eq_true rfl) (ax_32 (E := E)) dX2_dropOldest_43 (fun H locs w => ?_)
  have w := w.arrq 1 (fun i => some (hh ((i + (o + 1)) % 4) 0)) rfl (by
    intro j hj
    match j, hj with
    | 0, _ => exact congrArg (fun q => some (hh q 0)) (by omega : (1 + o) % 4 = (0 + (o + 1)) % 4)
    | 1, _ => exact congrArg (fun q => some (hh q 0)) (by omega : (2 + o) % 4 = (1 + (o + 1)) % 4)
    | 2, _ => exact congrArg (fun q => some (hh q 0)) (by omega : (3 + o) % 4 = (2 + (o + 1)) % 4)
    | 3, _ => exact congrArg (fun q => some (hh q 0)) (by omega : (0 + o) % 4 = (3 + (o + 1)) % 4))
  have hq : fX2_dropOldest n o η = (3, (o + 1)) := rfl
  obtain ⟨h0_, h1_⟩ := tup2 hq
  rw [h0_, h1_]
  exact r_vret X w hr dX2_dropOldest_46
def fX2_record (n : Int32) (o : Nat) (η : Nat → N2) (σ : N2) : Int32 × Nat × (Nat → N2) := if n < 4 then (if n < 0 then ((n, o, η)) else (if 4 ≤ n then ((n, o, η)) else ((n + 1, o, va_up η ((n.toNatClampNeg + o) % 4) σ)))) else (if ((fX2_dropOldest n o η).1) < 0 then (((fX2_dropOldest n o η).1, (fX2_dropOldest n o η).2, η)) else (if 4 ≤ ((fX2_dropOldest n o η).1) then (((fX2_dropOldest n o η).1, (fX2_dropOldest n o η).2, η)) else ((((fX2_dropOldest n o η).1) + 1, (fX2_dropOldest n o η).2, va_up η ((((fX2_dropOldest n o η).1).toNatClampNeg + ((fX2_dropOldest n o η).2)) % 4) σ))))
theorem dX2_record_0 : decode cX2_record 0 = .ok (.aload_n 0, 1) := by decide +kernel
theorem dX2_record_1 : decode cX2_record 1 = .ok (.getfield 16, 3) := by decide +kernel
theorem dX2_record_4 : decode cX2_record 4 = .ok (.iconst 4, 1) := by decide +kernel
theorem dX2_record_5 : decode cX2_record 5 = .ok (.if_icmp .lt 7, 3) := by decide +kernel
theorem dX2_record_8 : decode cX2_record 8 = .ok (.aload_n 0, 1) := by decide +kernel
theorem dX2_record_9 : decode cX2_record 9 = .ok (.invokevirtual 20, 3) := by decide +kernel
theorem dX2_record_12 : decode cX2_record 12 = .ok (.aload_n 0, 1) := by decide +kernel
theorem dX2_record_13 : decode cX2_record 13 = .ok (.getfield 16, 3) := by decide +kernel
theorem dX2_record_16 : decode cX2_record 16 = .ok (.ifCond .lt 34, 3) := by decide +kernel
theorem dX2_record_19 : decode cX2_record 19 = .ok (.aload_n 0, 1) := by decide +kernel
theorem dX2_record_20 : decode cX2_record 20 = .ok (.getfield 16, 3) := by decide +kernel
theorem dX2_record_23 : decode cX2_record 23 = .ok (.iconst 4, 1) := by decide +kernel
theorem dX2_record_24 : decode cX2_record 24 = .ok (.if_icmp .ge 26, 3) := by decide +kernel
theorem dX2_record_27 : decode cX2_record 27 = .ok (.aload_n 0, 1) := by decide +kernel
theorem dX2_record_28 : decode cX2_record 28 = .ok (.getfield 11, 3) := by decide +kernel
theorem dX2_record_31 : decode cX2_record 31 = .ok (.aload_n 0, 1) := by decide +kernel
theorem dX2_record_32 : decode cX2_record 32 = .ok (.getfield 16, 3) := by decide +kernel
theorem dX2_record_35 : decode cX2_record 35 = .ok (.aaload, 1) := by decide +kernel
theorem dX2_record_36 : decode cX2_record 36 = .ok (.aload_n 1, 1) := by decide +kernel
theorem dX2_record_37 : decode cX2_record 37 = .ok (.invokevirtual 23, 3) := by decide +kernel
theorem dX2_record_40 : decode cX2_record 40 = .ok (.aload_n 0, 1) := by decide +kernel
theorem dX2_record_41 : decode cX2_record 41 = .ok (.dup, 1) := by decide +kernel
theorem dX2_record_42 : decode cX2_record 42 = .ok (.getfield 16, 3) := by decide +kernel
theorem dX2_record_45 : decode cX2_record 45 = .ok (.iconst 1, 1) := by decide +kernel
theorem dX2_record_46 : decode cX2_record 46 = .ok (.iadd, 1) := by decide +kernel
theorem dX2_record_47 : decode cX2_record 47 = .ok (.putfield 16, 3) := by decide +kernel
theorem dX2_record_50 : decode cX2_record 50 = .ok (.return_, 1) := by decide +kernel
theorem ck_X2_20 : CkV RX2 20 RX2 yX2_dropOldest cX2_dropOldest 3 none 0 := ⟨wm_X2_20, wim_yX2_dropOldest, wse_yX2_dropOldest, wi_X2, wc_yX2_dropOldest, by decide +kernel⟩
theorem ck_X2_23 : CkV RX2 23 RX4 yX4_copyFrom cX4_copyFrom 2 none 1 := ⟨wm_X2_23, wim_yX4_copyFrom, wse_yX4_copyFrom, wi_X4, wc_yX4_copyFrom, by decide +kernel⟩
theorem ax_33 {E : Ev} {a0 : Nat → Nat} {h0 : Nat → Nat → Nat} {n0 : Int32} {η0 : Nat → N2} {o0 : Nat} {a1 : Nat → Nat} {σ1 : N2} {x : Int32} : (wHs E a0 h0 n0 o0 η0 ++ wSt E a1 σ1).set 0 (a0 0, .inr (1, ([.ref (a0 1), .int n0] : List Value).set 1 (.int x))) = wHs E a0 h0 x o0 η0 ++ wSt E a1 σ1 := rfl
theorem hc_34 {E : Ev} {a0 : Nat → Nat} {h0 : Nat → Nat → Nat} {n0 : Int32} {η0 : Nat → N2} {o0 : Nat} {a1 : Nat → Nat} {σ1 : N2} : ([0, 1, 2, 3, 4, 5, 6, 7, 8, 9, 10, 11, 12, 13, 14, 15, 16, 17, 18, 19, 20, 21, 22, 23, 24, 25, 26, 27, 28, 29, 30, 31, 32, 33, 34, 35, 36, 37] : List Nat).map (fun i => (wHs E a0 h0 n0 o0 η0 ++ wSt E a1 σ1)[i]?) = (wHs E a0 h0 n0 o0 η0).map some := by rw [show wHs E a0 h0 n0 o0 η0 ++ (wSt E a1 σ1) = ([] : va_W) ++ (wHs E a0 h0 n0 o0 η0 ++ (wSt E a1 σ1)) by simp only [List.append_assoc, List.nil_append, List.append_nil]]; exact get1 (s := 0) (n := 38) rfl rfl
theorem ha_34 {E : Ev} {a0 : Nat → Nat} {h0 : Nat → Nat → Nat} {n0 : Int32} {η0 : Nat → N2} {o0 : Nat} {τ0_0 : Int32} {τ0_1 : Nat} {τ0_2 : Nat → N2} : (wHs E a0 h0 τ0_0 τ0_1 τ0_2).map Prod.fst = (wHs E a0 h0 n0 o0 η0).map Prod.fst := fst_Hs
theorem hw_34 {E : Ev} {a0 : Nat → Nat} {h0 : Nat → Nat → Nat} {n0 : Int32} {η0 : Nat → N2} {o0 : Nat} {a1 : Nat → Nat} {σ1 : N2} {τ0_0 : Int32} {τ0_1 : Nat} {τ0_2 : Nat → N2} : wput (wHs E a0 h0 n0 o0 η0 ++ wSt E a1 σ1) [0, 1, 2, 3, 4, 5, 6, 7, 8, 9, 10, 11, 12, 13, 14, 15, 16, 17, 18, 19, 20, 21, 22, 23, 24, 25, 26, 27, 28, 29, 30, 31, 32, 33, 34, 35, 36, 37] (wHs E a0 h0 τ0_0 τ0_1 τ0_2) = wHs E a0 h0 τ0_0 τ0_1 τ0_2 ++ wSt E a1 σ1 := by
  show wput (wHs E a0 h0 n0 o0 η0 ++ (wSt E a1 σ1)) (rg 0 38) (wHs E a0 h0 τ0_0 τ0_1 τ0_2) = _
  rw [show wHs E a0 h0 n0 o0 η0 ++ (wSt E a1 σ1) = ([] : va_W) ++ (wHs E a0 h0 n0 o0 η0 ++ (wSt E a1 σ1)) by simp only [List.append_assoc, List.nil_append, List.append_nil], put1 (s := 0) (n := 38) rfl rfl rfl]
  try simp only [List.append_assoc, List.nil_append, List.append_nil]
set_option maxHeartbeats 4000000 in
set_option maxRecDepth 100000 in
theorem kX2_record (l : Launch) (E : Ev) (a : Nat → Nat) (hh : Nat → Nat → Nat) (n : Int32) (o : Nat) (η : Nat → N2) (sa : Nat → Nat) (σ : N2) : KQ l yX2_record cX2_record 2 none 2 81 E [.ref (a 0), .ref (sa 0)] (wHs E a hh n o η ++ wSt E sa σ) (QV E (wHs E a hh n o η ++ wSt E sa σ) (wHs E a hh ((fX2_record n o η σ).1) ((fX2_record n o η σ).2.1) ((fX2_record n o η σ).2.2) ++ wSt E sa σ)) := by
  refine KQ.mk RX2 rfl (by decide +kernel) (Nat.le_of_ble_eq_true rfl) ?_
  intro p e s m below meth c ls X hr w hl
  have hx := X.1
  have hb := X.2.1
  have hl : lv_has ls 2 [(0, .ref (a 0)), (1, .ref (sa 0))] := hl
  refine lv_aload_n hx hb dX2_record_0 rfl (lv_at hl 0 rfl) ?_
  refine r_get X w CL2 1 (by decide) wf_X2_16 0 rfl rfl dX2_record_1 ?_
  refine lv_iconst (v := 4) hx hb dX2_record_4 (by decide) ?_
  refine lv_icmp_lt (tgt := 12) hx hb dX2_record_5 (by decide) (fun c5_1 => ?_) (fun c5_1 => ?_)
  · refine lv_aload_n hx hb dX2_record_12 rfl (lv_at hl 0 rfl) ?_
    refine r_get X w CL2 1 (by decide) wf_X2_16 0 rfl rfl dX2_record_13 ?_
    refine lv_if_lt (tgt := 50) hx hb dX2_record_16 (by decide) (fun c16_2 => ?_) (fun c16_2 => ?_)
    · have hq : fX2_record n o η σ = (n, o, η) := by simp only [fX2_record, if_pos c5_1, if_pos c16_2]
      obtain ⟨h0_, h1_, h2_⟩ := tup3 hq
      rw [h0_, h1_, h2_]
      exact r_vret X w hr dX2_record_50
    · refine lv_aload_n hx hb dX2_record_19 rfl (lv_at hl 0 rfl) ?_
      refine r_get X w CL2 1 (by decide) wf_X2_16 0 rfl rfl dX2_record_20 ?_
      refine lv_iconst (v := 4) hx hb dX2_record_23 (by decide) ?_
      refine lv_icmp_ge (tgt := 50) hx hb dX2_record_24 (by decide) (fun c24_3 => ?_) (fun c24_3 => ?_)
      · have hq : fX2_record n o η σ = (n, o, η) := by simp only [fX2_record, if_pos c5_1, if_neg c16_2, if_pos c24_3]
        obtain ⟨h0_, h1_, h2_⟩ := tup3 hq
        rw [h0_, h1_, h2_]
        exact r_vret X w hr dX2_record_50
      · refine lv_aload_n hx hb dX2_record_27 rfl (lv_at hl 0 rfl) ?_
        refine r_get X w CL2 0 (by decide) wf_X2_11 0 rfl rfl dX2_record_28 ?_
        refine lv_aload_n hx hb dX2_record_31 rfl (lv_at hl 0 rfl) ?_
        refine r_get X w CL2 1 (by decide) wf_X2_16 0 rfl rfl dX2_record_32 ?_
        refine r_aldq X w 1 rfl (vin_ge 4 rfl c16_2 c24_3) (v := (hh ((n.toNatClampNeg + o) % 4) 0)) rfl dX2_record_35 ?_
        refine lv_aload_n hx hb dX2_record_36 rfl (lv_at hl 1 rfl) ?_
        refine r_cv w (r_runV (As := [.ref (sa 0)]) (rest := []) X w (kX4_copyFrom l E (hh ((n.toNatClampNeg + o) % 4)) (η ((n.toNatClampNeg + o) % 4)) sa σ) ck_X2_23 ⟨Nat.le_of_ble_eq_true rfl, Nat.le_of_ble_eq_true rfl⟩ (hsP ((n.toNatClampNeg + o) % 4)) (hsPC (Nat.mod_lt _ (by decide))) (hsPN (Nat.mod_lt _ (by decide))) (k0 := 0) CL4 rfl hl.1 (Nat.le_of_ble_eq_true rfl) rfl dX2_record_37 ⟨Nat.le_of_ble_eq_true rfl, Nat.le_of_ble_eq_true rfl⟩) (wHs E a hh n o (va_up η ((n.toNatClampNeg + o) % 4) σ) ++ wSt E sa σ) (hsP ((n.toNatClampNeg + o) % 4)) (hsPC (Nat.mod_lt _ (by decide))) (hsPN (Nat.mod_lt _ (by decide))) hsA (hsPW (Nat.mod_lt _ (by decide))) (fun H locs w => ?_)
        refine lv_aload_n hx hb dX2_record_40 rfl (lv_at hl 0 rfl) ?_
        refine lv_dup hx hb dX2_record_41 rfl ?_
        refine r_get X w CL2 1 (by decide) wf_X2_16 0 rfl rfl dX2_record_42 ?_
        refine lv_iconst (v := 1) hx hb dX2_record_45 (by decide) ?_
        refine lv_iadd hx hb dX2_record_46 ?_
        refine r_put X w (wHs E a hh (n + 1) o (va_up η ((n.toNatClampNeg + o) % 4) σ) ++ wSt E sa σ) CL2 1 (by decide) wf_X2_16 0 rfl rfl rfl rfl (Nat.le_of_ble_eq_true rfl) (ax_33 (E := E)) dX2_record_47 (fun H locs w => ?_)
        have hq : fX2_record n o η σ = (n + 1, o, va_up η ((n.toNatClampNeg + o) % 4) σ) := by simp only [fX2_record, if_pos c5_1, if_neg c16_2, if_neg c24_3]
        obtain ⟨h0_, h1_, h2_⟩ := tup3 hq
        rw [h0_, h1_, h2_]
        exact r_vret X w hr dX2_record_50
  · refine lv_aload_n hx hb dX2_record_8 rfl (lv_at hl 0 rfl) ?_
    refine r_cv w (r_runV (As := []) (rest := []) X w (kX2_dropOldest l E a hh n o η ) ck_X2_20 ⟨Nat.le_of_ble_eq_true rfl, Nat.le_of_ble_eq_true rfl⟩ [0, 1, 2, 3, 4, 5, 6, 7, 8, 9, 10, 11, 12, 13, 14, 15, 16, 17, 18, 19, 20, 21, 22, 23, 24, 25, 26, 27, 28, 29, 30, 31, 32, 33, 34, 35, 36, 37] (hc_34 (E := E)) (by decide +kernel) (k0 := 0) CL2 rfl hl.1 (Nat.le_of_ble_eq_true rfl) rfl dX2_record_9 ⟨Nat.le_of_ble_eq_true rfl, Nat.le_of_ble_eq_true rfl⟩) (wHs E a hh ((fX2_dropOldest n o η).1) ((fX2_dropOldest n o η).2) η ++ wSt E sa σ) [0, 1, 2, 3, 4, 5, 6, 7, 8, 9, 10, 11, 12, 13, 14, 15, 16, 17, 18, 19, 20, 21, 22, 23, 24, 25, 26, 27, 28, 29, 30, 31, 32, 33, 34, 35, 36, 37] (hc_34 (E := E)) (by decide +kernel) (ha_34 (E := E)) (hw_34 (E := E)) (fun H locs w => ?_)
    refine lv_aload_n hx hb dX2_record_12 rfl (lv_at hl 0 rfl) ?_
    refine r_get X w CL2 1 (by decide) wf_X2_16 0 rfl rfl dX2_record_13 ?_
    refine lv_if_lt (tgt := 50) hx hb dX2_record_16 (by decide) (fun c16_4 => ?_) (fun c16_4 => ?_)
    · have hq : fX2_record n o η σ = ((fX2_dropOldest n o η).1, (fX2_dropOldest n o η).2, η) := by simp only [fX2_record, if_neg c5_1, if_pos c16_4]
      obtain ⟨h0_, h1_, h2_⟩ := tup3 hq
      rw [h0_, h1_, h2_]
      exact r_vret X w hr dX2_record_50
    · refine lv_aload_n hx hb dX2_record_19 rfl (lv_at hl 0 rfl) ?_
      refine r_get X w CL2 1 (by decide) wf_X2_16 0 rfl rfl dX2_record_20 ?_
      refine lv_iconst (v := 4) hx hb dX2_record_23 (by decide) ?_
      refine lv_icmp_ge (tgt := 50) hx hb dX2_record_24 (by decide) (fun c24_5 => ?_) (fun c24_5 => ?_)
      · have hq : fX2_record n o η σ = ((fX2_dropOldest n o η).1, (fX2_dropOldest n o η).2, η) := by simp only [fX2_record, if_neg c5_1, if_neg c16_4, if_pos c24_5]
        obtain ⟨h0_, h1_, h2_⟩ := tup3 hq
        rw [h0_, h1_, h2_]
        exact r_vret X w hr dX2_record_50
      · refine lv_aload_n hx hb dX2_record_27 rfl (lv_at hl 0 rfl) ?_
        refine r_get X w CL2 0 (by decide) wf_X2_11 0 rfl rfl dX2_record_28 ?_
        refine lv_aload_n hx hb dX2_record_31 rfl (lv_at hl 0 rfl) ?_
        refine r_get X w CL2 1 (by decide) wf_X2_16 0 rfl rfl dX2_record_32 ?_
        refine r_aldq X w 1 rfl (vin_ge 4 rfl c16_4 c24_5) (v := (hh ((((fX2_dropOldest n o η).1).toNatClampNeg + ((fX2_dropOldest n o η).2)) % 4) 0)) rfl dX2_record_35 ?_
        refine lv_aload_n hx hb dX2_record_36 rfl (lv_at hl 1 rfl) ?_
        refine r_cv w (r_runV (As := [.ref (sa 0)]) (rest := []) X w (kX4_copyFrom l E (hh ((((fX2_dropOldest n o η).1).toNatClampNeg + ((fX2_dropOldest n o η).2)) % 4)) (η ((((fX2_dropOldest n o η).1).toNatClampNeg + ((fX2_dropOldest n o η).2)) % 4)) sa σ) ck_X2_23 ⟨Nat.le_of_ble_eq_true rfl, Nat.le_of_ble_eq_true rfl⟩ (hsP ((((fX2_dropOldest n o η).1).toNatClampNeg + ((fX2_dropOldest n o η).2)) % 4)) (hsPC (Nat.mod_lt _ (by decide))) (hsPN (Nat.mod_lt _ (by decide))) (k0 := 0) CL4 rfl hl.1 (Nat.le_of_ble_eq_true rfl) rfl dX2_record_37 ⟨Nat.le_of_ble_eq_true rfl, Nat.le_of_ble_eq_true rfl⟩) (wHs E a hh ((fX2_dropOldest n o η).1) ((fX2_dropOldest n o η).2) (va_up η ((((fX2_dropOldest n o η).1).toNatClampNeg + ((fX2_dropOldest n o η).2)) % 4) σ) ++ wSt E sa σ) (hsP ((((fX2_dropOldest n o η).1).toNatClampNeg + ((fX2_dropOldest n o η).2)) % 4)) (hsPC (Nat.mod_lt _ (by decide))) (hsPN (Nat.mod_lt _ (by decide))) hsA (hsPW (Nat.mod_lt _ (by decide))) (fun H locs w => ?_)
        refine lv_aload_n hx hb dX2_record_40 rfl (lv_at hl 0 rfl) ?_
        refine lv_dup hx hb dX2_record_41 rfl ?_
        refine r_get X w CL2 1 (by decide) wf_X2_16 0 rfl rfl dX2_record_42 ?_
        refine lv_iconst (v := 1) hx hb dX2_record_45 (by decide) ?_
        refine lv_iadd hx hb dX2_record_46 ?_
        refine r_put X w (wHs E a hh (((fX2_dropOldest n o η).1) + 1) ((fX2_dropOldest n o η).2) (va_up η ((((fX2_dropOldest n o η).1).toNatClampNeg + ((fX2_dropOldest n o η).2)) % 4) σ) ++ wSt E sa σ) CL2 1 (by decide) wf_X2_16 0 rfl rfl rfl rfl (Nat.le_of_ble_eq_true rfl) (ax_33 (E := E)) dX2_record_47 (fun H locs w => ?_)
        have hq : fX2_record n o η σ = (((fX2_dropOldest n o η).1) + 1, (fX2_dropOldest n o η).2, va_up η ((((fX2_dropOldest n o η).1).toNatClampNeg + ((fX2_dropOldest n o η).2)) % 4) σ) := by simp only [fX2_record, if_neg c5_1, if_neg c16_4, if_neg c24_5]
        obtain ⟨h0_, h1_, h2_⟩ := tup3 hq
        rw [h0_, h1_, h2_]
        exact r_vret X w hr dX2_record_50
end
section
/-! speeds: a float from 1 to 128, slowed by 0.5 to 1.0 -/
theorem nr_le (n d : Nat) : Jvm.FP.Core.nearest n d ≤ n / d + 1 := by
  unfold Jvm.FP.Core.nearest
  split
  · omega
  · split
    · omega
    · omega
theorem nr_ge (n d : Nat) : n / d ≤ Jvm.FP.Core.nearest n d := by
  unfold Jvm.FP.Core.nearest
  split
  · omega
  · split
    · omega
    · omega
theorem dec_norm {E T : Nat} (hE : 1 ≤ E ∧ E ≤ 254) (hT : T < 8388608) : Jvm.FP.Core.decode Jvm.FP.Core.b32 (E * 8388608 + T) = .fin false (8388608 + T) (-149 + ((E : Int) - 1)) := by
  have t0 : Jvm.FP.Core.Fmt.tails Jvm.FP.Core.b32 = 8388608 := by decide
  have e0 : Jvm.FP.Core.Fmt.exps Jvm.FP.Core.b32 = 256 := by decide
  have q0 : Jvm.FP.Core.Fmt.qmin Jvm.FP.Core.b32 = -149 := by decide
  have hE1 : Jvm.FP.Core.fieldE Jvm.FP.Core.b32 (E * 8388608 + T) = E := by
    unfold Jvm.FP.Core.fieldE; rw [t0, e0]; omega
  have hT1 : Jvm.FP.Core.fieldT Jvm.FP.Core.b32 (E * 8388608 + T) = T := by
    unfold Jvm.FP.Core.fieldT; rw [t0]; omega
  have hS1 : Jvm.FP.Core.fieldS Jvm.FP.Core.b32 (E * 8388608 + T) = false := by
    unfold Jvm.FP.Core.fieldS; rw [t0, e0]
    have : (E * 8388608 + T) / 8388608 / 256 % 2 = 0 := by omega
    rw [this]; rfl
  unfold Jvm.FP.Core.decode
  rw [hE1, hT1, hS1, e0, t0, q0]
  rw [if_neg (by omega), if_neg (by omega)]
theorem enc_norm {c : Nat} {q : Int} (hc : 8388608 ≤ c) (hc2 : c ≤ 16777216) (hq : -149 ≤ q) (hq2 : q ≤ 100) : Jvm.FP.Core.encode Jvm.FP.Core.b32 (Jvm.FP.Core.settle Jvm.FP.Core.b32 false c q) = ((q + 149).toNat + 1) * 8388608 + (c - 8388608) := by
  have t0 : Jvm.FP.Core.Fmt.tails Jvm.FP.Core.b32 = 8388608 := by decide
  have q0 : Jvm.FP.Core.Fmt.qmin Jvm.FP.Core.b32 = -149 := by decide
  have q1 : Jvm.FP.Core.Fmt.qmax Jvm.FP.Core.b32 = 104 := by decide
  have p0 : (2 : Nat) ^ (Jvm.FP.Core.Fmt.p Jvm.FP.Core.b32) = 16777216 := by decide
  unfold Jvm.FP.Core.settle
  rw [p0]
  by_cases h : c < 16777216
  · rw [if_pos h]
    unfold Jvm.FP.Core.bound
    rw [q1, if_pos (by omega)]
    unfold Jvm.FP.Core.encode
    rw [t0]
    show (if c < 8388608 then _ else _) = _
    rw [if_neg (by omega)]
    unfold Jvm.FP.Core.assemble
    rw [t0, q0]
    have e1 : q - -149 = q + 149 := by omega
    rw [e1]
    simp
  · rw [if_neg h]
    unfold Jvm.FP.Core.bound
    rw [q1, if_pos (by omega)]
    unfold Jvm.FP.Core.encode
    rw [t0]
    show (if 8388608 < 8388608 then _ else _) = _
    rw [if_neg (by omega)]
    unfold Jvm.FP.Core.assemble
    rw [t0, q0]
    have e1 : (q + 1 - -149).toNat = (q + 149).toNat + 1 := by omega
    have e2 : c - 8388608 = 8388608 := by omega
    rw [e1, e2]
    simp
    omega
/-- the product of two normal numbers, its leading digit at L -/
theorem mul_norm {E T F U L : Nat} (hE : 1 ≤ E ∧ E ≤ 150) (hT : T < 8388608) (hF : 100 ≤ F ∧ F ≤ 127) (hEF : 127 ≤ E) (hU : U < 8388608) (hL : 46 ≤ L ∧ L ≤ 47) (h1 : 2 ^ L ≤ (8388608 + T) * (8388608 + U)) (h2 : (8388608 + T) * (8388608 + U) < 2 ^ (L + 1)) :
    Jvm.FP.Core.mul Jvm.FP.Core.b32 (E * 8388608 + T) (F * 8388608 + U) = (E + F + L - 173) * 8388608 + (Jvm.FP.Core.nearest ((8388608 + T) * (8388608 + U)) (2 ^ (L - 23)) - 8388608) := by
  unfold Jvm.FP.Core.mul
  rw [dec_norm ⟨hE.1, by omega⟩ hT, dec_norm ⟨by omega, by omega⟩ hU]
  show Jvm.FP.Core.encode _ (Jvm.FP.Core.round _ (.fin (false != false) ((8388608 + T) * (8388608 + U)) (-149 + ((E : Int) - 1) + (-149 + ((F : Int) - 1))))) = _
  generalize hp : (8388608 + T) * (8388608 + U) = p at h1 h2 ⊢
  have hp0 : p ≠ 0 := by have : 0 < 2 ^ L := Nat.pow_pos (by decide); omega
  show Jvm.FP.Core.encode _ (Jvm.FP.Core.roundRatio _ (false != false) p 1 (-149 + ((E : Int) - 1) + (-149 + ((F : Int) - 1)))) = _
  generalize he : (-149 + ((E : Int) - 1) + (-149 + ((F : Int) - 1))) = e
  have hlog : p.log2 = L := by
    have a1 : L ≤ p.log2 := (Nat.le_log2 hp0).mpr h1
    have a2 : p.log2 < L + 1 := (Nat.log2_lt hp0).mpr h2
    omega
  have hlead : Jvm.FP.Core.leading p 1 = (L : Int) := by
    unfold Jvm.FP.Core.leading
    rw [hlog, show Nat.log2 1 = 0 by decide]
    have e1 : ((L : Int) - ((0 : Nat) : Int)) = (L : Int) := by omega
    simp only [e1]
    rw [if_pos]
    have e2 : (-(L : Int)).toNat = 0 := by omega
    have e3 : ((L : Int)).toNat = L := by omega
    rw [e2, e3]
    omega
  have q0 : Jvm.FP.Core.Fmt.qmin Jvm.FP.Core.b32 = -149 := by decide
  have hquant : Jvm.FP.Core.quantum Jvm.FP.Core.b32 p 1 e = (L : Int) + e - 23 := by
    unfold Jvm.FP.Core.quantum
    rw [hlead, q0]
    show max (-149) ((L : Int) + e - ((24 : Int) - 1)) = _
    omega
  unfold Jvm.FP.Core.roundRatio
  rw [if_neg hp0, hquant]
  unfold Jvm.FP.Core.roundAt Jvm.FP.Core.unitsNum Jvm.FP.Core.unitsDen
  have e4 : (e - ((L : Int) + e - 23)).toNat = 0 := by omega
  have e5 : ((L : Int) + e - 23 - e).toNat = L - 23 := by omega
  rw [e4, e5, Nat.pow_zero, Nat.mul_one, Nat.one_mul]
  have hd : 0 < 2 ^ (L - 23) := Nat.pow_pos (by decide)
  have hs1 : 2 ^ L = 8388608 * 2 ^ (L - 23) := by
    rw [show (8388608 : Nat) = 2 ^ 23 by decide, ← Nat.pow_add]; congr 1; omega
  have hs2 : 2 ^ (L + 1) = 16777216 * 2 ^ (L - 23) := by
    rw [show (16777216 : Nat) = 2 ^ 24 by decide, ← Nat.pow_add]; congr 1; omega
  have hlo : 8388608 ≤ p / 2 ^ (L - 23) := (Nat.le_div_iff_mul_le hd).mpr (by omega)
  have hhi : p / 2 ^ (L - 23) < 16777216 := (Nat.div_lt_iff_lt_mul hd).mpr (by omega)
  have g1 := nr_ge p (2 ^ (L - 23))
  have g2 := nr_le p (2 ^ (L - 23))
  rw [show (false != false) = false from rfl, enc_norm (by omega) (by omega) (by omega) (by omega)]
  have e6 : ((L : Int) + e - 23 + 149).toNat + 1 = E + F + L - 173 := by omega
  rw [e6]
/-- a speed that moves: 1.0 to 128.0 -/
def gV (v : UInt32) : Prop := 1065353216 ≤ v.toNat ∧ v.toNat < 1124073472
/-- a speed at all: 0.5 to 128.0 -/
def gW (v : UInt32) : Prop := 1056964608 ≤ v.toNat ∧ v.toNat < 1124073472
/-- what is kept, of a setting in hundredths -/
abbrev kF (x : Int32) : UInt32 := FP.fdiv (FP.i2f x) 1120403456
def gK (x : Int32) : Prop := 50 ≤ x.toInt ∧ x.toInt ≤ 100
theorem n32_of {r : UInt32} (h : r.toNat ≤ 2139095040) : vf_n32 r := by
  unfold vf_n32
  rw [UInt32.le_iff_toNat_le, UInt32.toNat_and]
  exact Nat.le_trans Nat.and_le_left h
def kChk (j : Nat) : Bool := let b := (kF (nI (j + 50))).toNat
  if j = 50 then b == 1065353216 else decide (1056964608 ≤ b) && decide (b ≤ 1065185444)
theorem kChk_all : (List.range 51).all kChk = true := by decide +kernel
theorem kF_val {x : Int32} (h : gK x) : (x = 100 ∧ (kF x).toNat = 1065353216) ∨ (¬ x = 100 ∧ ∃ U : Nat, U ≤ 8220836 ∧ (kF x).toNat = 126 * 8388608 + U) := by
  obtain ⟨h1, h2⟩ := h
  obtain ⟨j, hj, hx⟩ : ∃ j : Nat, j < 51 ∧ x = nI (j + 50) := by
    refine ⟨(x.toInt - 50).toNat, by omega, ?_⟩
    apply Int32.toInt_inj.mp
    rw [nI_toInt (by omega)]
    omega
  have hc := List.all_eq_true.mp kChk_all j (List.mem_range.mpr hj)
  subst hx
  unfold kChk at hc
  by_cases hj5 : j = 50
  · subst hj5
    left
    refine ⟨by decide, ?_⟩
    simpa using hc
  · right
    refine ⟨fun e => hj5 ?_, ?_⟩
    · have e2 : nI (j + 50) = nI 100 := e
      have := (nI_eq (by omega) (by omega)).mp e2
      omega
    · simp only [hj5, if_false, Bool.and_eq_true, decide_eq_true_eq] at hc
      exact ⟨(kF (nI (j + 50))).toNat - 126 * 8388608, by omega, by omega⟩
theorem kF_n32 {x : Int32} (h : gK x) : vf_n32 (kF x) := by
  rcases kF_val h with ⟨-, e⟩ | ⟨-, U, hU, e⟩
  · exact n32_of (by omega)
  · exact n32_of (by omega)
theorem slow_val {v : UInt32} {x : Int32} (hv : gV v) (hx : gK x) : (FP.fmul v (kF x)).toNat ≤ v.toNat ∧ 1056964608 ≤ (FP.fmul v (kF x)).toNat ∧ (¬ x = 100 → (FP.fmul v (kF x)).toNat + 1000 ≤ v.toNat) := by
  obtain ⟨h1, h2⟩ := hv
  obtain ⟨E, T, hT, hvE⟩ : ∃ E T : Nat, T < 8388608 ∧ v.toNat = E * 8388608 + T := ⟨v.toNat / 8388608, v.toNat % 8388608, by omega, by omega⟩
  have hE : 127 ≤ E ∧ E ≤ 133 := by omega
  have hr : (FP.fmul v (kF x)).toNat = Jvm.FP.Core.mul Jvm.FP.Core.b32 v.toNat (kF x).toNat % 4294967296 := by
    show (UInt32.ofNat _).toNat = _
    rw [UInt32.toNat_ofNat']
  rcases kF_val hx with ⟨ex, e⟩ | ⟨nx, U, hU, e⟩
  · have hp1 : (8388608 + T) * (8388608 + 0) = (8388608 + T) * 8388608 := by rw [Nat.add_zero]
    have hm := mul_norm (E := E) (T := T) (F := 127) (U := 0) (L := 46) ⟨by omega, by omega⟩ hT ⟨by omega, by omega⟩ hE.1 (by omega) ⟨by omega, by omega⟩ (by rw [hp1]; omega) (by rw [hp1]; omega)
    have hn : Jvm.FP.Core.nearest ((8388608 + T) * (8388608 + 0)) (2 ^ (46 - 23)) = 8388608 + T := by
      unfold Jvm.FP.Core.nearest
      rw [hp1]
      have e1 : (8388608 + T) * 8388608 % 2 ^ (46 - 23) = 0 := by omega
      have e2 : (8388608 + T) * 8388608 / 2 ^ (46 - 23) = 8388608 + T := by omega
      rw [e1, if_pos (by decide), e2]
    rw [hn] at hm
    rw [hr, e, hvE, show (1065353216 : Nat) = 127 * 8388608 + 0 by decide, hm]
    refine ⟨by omega, by omega, fun q => absurd ex q⟩
  · obtain ⟨p, hp⟩ : ∃ p, p = (8388608 + T) * (8388608 + U) := ⟨_, rfl⟩
    have b1 : p ≤ (8388608 + T) * 16609444 := by rw [hp]; exact Nat.mul_le_mul_left _ (by omega)
    have b2 : (8388608 + T) * 8388608 ≤ p := by rw [hp]; exact Nat.mul_le_mul_left _ (by omega)
    by_cases hL : p < 140737488355328
    · have hm := mul_norm (E := E) (T := T) (F := 126) (U := U) (L := 46) ⟨by omega, by omega⟩ hT ⟨by omega, by omega⟩ hE.1 (by omega) ⟨by omega, by omega⟩ (by rw [← hp]; omega) (by rw [← hp]; omega)
      rw [← hp] at hm
      have g1 := nr_ge p (2 ^ (46 - 23))
      have g2 := nr_le p (2 ^ (46 - 23))
      have f1 : 8388608 ≤ p / 2 ^ (46 - 23) := by omega
      have f2 : p / 2 ^ (46 - 23) + 1 + 1000 ≤ 8388608 + (8388608 + T) := by omega
      rw [hr, e, hvE, hm]
      generalize Jvm.FP.Core.nearest p (2 ^ (46 - 23)) = c at g1 g2 ⊢
      generalize p / 2 ^ (46 - 23) = d at g1 g2 f1 f2
      refine ⟨by omega, by omega, fun _ => by omega⟩
    · have hm := mul_norm (E := E) (T := T) (F := 126) (U := U) (L := 47) ⟨by omega, by omega⟩ hT ⟨by omega, by omega⟩ hE.1 (by omega) ⟨by omega, by omega⟩ (by rw [← hp]; omega) (by rw [← hp]; omega)
      rw [← hp] at hm
      have g1 := nr_ge p (2 ^ (47 - 23))
      have g2 := nr_le p (2 ^ (47 - 23))
      have f1 : 8388608 ≤ p / 2 ^ (47 - 23) := by omega
      have f2 : p / 2 ^ (47 - 23) + 1 + 1000 ≤ 8388608 + T := by omega
      rw [hr, e, hvE, hm]
      generalize Jvm.FP.Core.nearest p (2 ^ (47 - 23)) = c at g1 g2 ⊢
      generalize p / 2 ^ (47 - 23) = d at g1 g2 f1 f2
      refine ⟨by omega, by omega, fun _ => by omega⟩
theorem slow_gW {v : UInt32} {x : Int32} (hv : gV v) (hx : gK x) : gW (FP.fmul v (kF x)) := by
  obtain ⟨h1, h2, -⟩ := slow_val hv hx
  exact ⟨h2, Nat.lt_of_le_of_lt h1 hv.2⟩
theorem slow_n32 {v : UInt32} {x : Int32} (hv : gV v) (hx : gK x) : vf_n32 (FP.fmul v (kF x)) := n32_of (by have := (slow_val hv hx).1; have := hv.2; omega)
def sChk (j : Nat) : Bool := let b := (FP.fdiv (FP.i2f (nI (j + 10))) 1092616192).toNat
  decide (1065353216 ≤ b) && decide (b < 1124073472)
theorem sChk_all : (List.range 990).all sChk = true := by decide +kernel
theorem first_gV {x : Int32} (h1 : 10 ≤ x.toInt) (h2 : x.toInt ≤ 999) : gV (FP.fdiv (FP.i2f x) 1092616192) := by
  obtain ⟨j, hj, hx⟩ : ∃ j : Nat, j < 990 ∧ x = nI (j + 10) := by
    refine ⟨(x.toInt - 10).toNat, by omega, ?_⟩
    apply Int32.toInt_inj.mp
    rw [nI_toInt (by omega)]
    omega
  have hc := List.all_eq_true.mp sChk_all j (List.mem_range.mpr hj)
  subst hx
  unfold sChk at hc
  simp only [Bool.and_eq_true, decide_eq_true_eq] at hc
  exact hc
theorem gV_n32 {v : UInt32} (h : gV v) : vf_n32 v := n32_of (by have := h.2; omega)
theorem gV_gW {v : UInt32} (h : gV v) : gW v := ⟨by have := h.1; omega, h.2⟩
/-- the comparison with 1.0 -/
theorem cmp_gV {v : UInt32} (h : gW v) : ¬ Op.cmpValue (FP.fcmp v FP.fconst1) .l < 0 ↔ gV v := by
  obtain ⟨h1, h2⟩ := h
  obtain ⟨E, T, hT, hvE⟩ : ∃ E T : Nat, T < 8388608 ∧ v.toNat = E * 8388608 + T := ⟨v.toNat / 8388608, v.toNat % 8388608, by omega, by omega⟩
  have hE : 126 ≤ E ∧ E ≤ 133 := by omega
  have e0 : FP.fcmp v FP.fconst1 = Jvm.FP.Core.order (Jvm.FP.Core.decode Jvm.FP.Core.b32 v.toNat) (Jvm.FP.Core.decode Jvm.FP.Core.b32 1065353216) := rfl
  have e1 : Jvm.FP.Core.decode Jvm.FP.Core.b32 1065353216 = .fin false 8388608 (-23) := by decide +kernel
  rw [e0, e1, hvE, dec_norm ⟨by omega, by omega⟩ hT]
  show ¬ Op.cmpValue (some (compare ((Jvm.FP.Core.inUnits (8388608 + T) (-149 + ((E : Int) - 1)) (min (-149 + ((E : Int) - 1)) (-23)) : Nat) : Int) ((Jvm.FP.Core.inUnits 8388608 (-23) (min (-149 + ((E : Int) - 1)) (-23)) : Nat) : Int))) .l < 0 ↔ _
  by_cases hb : E = 126
  · subst hb
    have k1 : Jvm.FP.Core.inUnits (8388608 + T) (-149 + (((126 : Nat) : Int) - 1)) (min (-149 + (((126 : Nat) : Int) - 1)) (-23)) = 8388608 + T := by
      unfold Jvm.FP.Core.inUnits
      rw [show (-149 + (((126 : Nat) : Int) - 1) - min (-149 + (((126 : Nat) : Int) - 1)) (-23)).toNat = 0 by decide]; omega
    have k2 : Jvm.FP.Core.inUnits 8388608 (-23) (min (-149 + (((126 : Nat) : Int) - 1)) (-23)) = 16777216 := by decide
    rw [k1, k2]
    have k3 : compare ((8388608 + T : Nat) : Int) ((16777216 : Nat) : Int) = .lt := by
      rw [Int.compare_eq_lt]; omega
    rw [k3]
    refine ⟨fun q => absurd (by decide) q, fun q => ?_⟩
    have := q.1
    omega
  · have k1 : 8388608 ≤ Jvm.FP.Core.inUnits (8388608 + T) (-149 + ((E : Int) - 1)) (min (-149 + ((E : Int) - 1)) (-23)) := by
      unfold Jvm.FP.Core.inUnits
      have : 0 < 2 ^ (-149 + ((E : Int) - 1) - min (-149 + ((E : Int) - 1)) (-23)).toNat := Nat.pow_pos (by decide)
      calc 8388608 ≤ 8388608 + T := by omega
        _ = (8388608 + T) * 1 := (Nat.mul_one _).symm
        _ ≤ _ := Nat.mul_le_mul_left _ this
    have k2 : Jvm.FP.Core.inUnits 8388608 (-23) (min (-149 + ((E : Int) - 1)) (-23)) = 8388608 := by
      unfold Jvm.FP.Core.inUnits
      rw [show (-23 - min (-149 + ((E : Int) - 1)) (-23)).toNat = 0 by omega]
    rw [k2]
    refine ⟨fun _ => ⟨by omega, h2⟩, fun _ q => ?_⟩
    cases hc : compare ((Jvm.FP.Core.inUnits (8388608 + T) (-149 + ((E : Int) - 1)) (min (-149 + ((E : Int) - 1)) (-23)) : Nat) : Int) ((8388608 : Nat) : Int) with
    | lt => rw [Int.compare_eq_lt] at hc; omega
    | eq => rw [hc] at q; exact absurd q (by decide)
    | gt => rw [hc] at q; exact absurd q (by decide)
end
section
/-! Shot (printed by wip/whole/gen/p10.py) -/
/-- settings in their ranges -/
def gset (σ : N2) : Prop := ∀ i : Nat, i < 3 → gK (σ 6 i)
def fX3_slow (z : N1) (sp : UInt32) (x : Int32) : UInt32 := (FP.fmul sp (FP.fdiv (FP.i2f x) 1120403456))
theorem dX3_slow_0 : decode cX3_slow 0 = .ok (.aload_n 0, 1) := by decide +kernel
theorem dX3_slow_1 : decode cX3_slow 1 = .ok (.aload_n 0, 1) := by decide +kernel
theorem dX3_slow_2 : decode cX3_slow 2 = .ok (.getfield 33, 3) := by decide +kernel
theorem dX3_slow_5 : decode cX3_slow 5 = .ok (.iload_n 1, 1) := by decide +kernel
theorem dX3_slow_6 : decode cX3_slow 6 = .ok (.i2f, 1) := by decide +kernel
theorem dX3_slow_7 : decode cX3_slow 7 = .ok (.ldc 110, 2) := by decide +kernel
theorem dX3_slow_9 : decode cX3_slow 9 = .ok (.fdiv, 1) := by decide +kernel
theorem dX3_slow_10 : decode cX3_slow 10 = .ok (.fmul, 1) := by decide +kernel
theorem dX3_slow_11 : decode cX3_slow 11 = .ok (.putfield 33, 3) := by decide +kernel
theorem dX3_slow_14 : decode cX3_slow 14 = .ok (.return_, 1) := by decide +kernel
theorem ax_35 {E : Ev} {a0 j0 : Nat} {σ0 : N1} {v0 : UInt32} {x : UInt32} : (wSh a0 j0 σ0 v0).set 0 (a0, .inr (2, ([.ref j0, .int (σ0 0), .float v0, .int (σ0 1), .int (σ0 2), .int (σ0 3), .int (σ0 4), .int (σ0 5), .int (σ0 6)] : List Value).set 2 (.float x))) = wSh a0 j0 σ0 x := rfl
set_option maxHeartbeats 4000000 in
set_option maxRecDepth 100000 in
theorem kX3_slow (l : Launch) (E : Ev) (k : Nat) (j : Nat) (z : N1) (sp : UInt32) (x : Int32) (hv : gV sp) (hk : gK x) : KQ l yX3_slow cX3_slow 2 none 0 0 E [.ref k, .int x] (wSh k j z sp) (QV E (wSh k j z sp) (wSh k j z (fX3_slow z sp x))) := by
  refine KQ.mk RX3 rfl (by decide +kernel) (Nat.le_of_ble_eq_true rfl) ?_
  intro p e s m below meth c ls X hr w hl
  have hx := X.1
  have hb := X.2.1
  have hl : lv_has ls 2 [(0, .ref k), (1, .int x)] := hl
  refine lv_aload_n hx hb dX3_slow_0 rfl (lv_at hl 0 rfl) ?_
  refine lv_aload_n hx hb dX3_slow_1 rfl (lv_at hl 0 rfl) ?_
  refine r_get X w CL3 2 (by decide) wf_X3_33 0 rfl rfl dX3_slow_2 ?_
  refine lv_iload_n hx hb dX3_slow_5 rfl (lv_at hl 1 rfl) ?_
  refine lv_i2f hx hb dX3_slow_6 ?_
  refine r_ldcf X wk_X3_110 dX3_slow_7 ?_
  refine lv_fdiv hx hb dX3_slow_9 (kF_n32 hk) ?_
  refine lv_fmul hx hb dX3_slow_10 (slow_n32 hv hk) ?_
  refine r_put X w (wSh k j z (FP.fmul sp (FP.fdiv (FP.i2f x) 1120403456))) CL3 2 (by decide) wf_X3_33 0 rfl rfl rfl rfl (Nat.le_of_ble_eq_true rfl) (ax_35 (E := E)) dX3_slow_11 (fun H locs w => ?_)
  have hq : fX3_slow z sp x = (FP.fmul sp (FP.fdiv (FP.i2f x) 1120403456)) := rfl
  rw [hq]
  exact r_vret X w hr dX3_slow_14
def fX3_bank (z : N1) (sp : UInt32) (d : N1) (σ : N2) : N1 × UInt32 × N1 × N2 := if ((upd (upd z 4 ((z 4) + 1)) 2 (((upd z 4 ((z 4) + 1)) 2) + ((upd z 4 ((z 4) + 1)) 1))) 2) < 3 then ((upd (upd z 4 ((z 4) + 1)) 2 (((upd z 4 ((z 4) + 1)) 2) + ((upd z 4 ((z 4) + 1)) 1)), (fX3_slow z sp (σ 6 1)), (fX5_turnAtBank d), (fX4_addBank σ ((upd z 4 ((z 4) + 1)) 0)))) else ((upd (upd (upd z 4 ((z 4) + 1)) 2 (((upd z 4 ((z 4) + 1)) 2) + ((upd z 4 ((z 4) + 1)) 1))) 2 (((upd (upd z 4 ((z 4) + 1)) 2 (((upd z 4 ((z 4) + 1)) 2) + ((upd z 4 ((z 4) + 1)) 1))) 2) - 3), (fX3_slow z sp (σ 6 1)), (fX5_turnOnIfOpen (fX5_turnAtBank d)), (fX4_addBank σ ((upd z 4 ((z 4) + 1)) 0))))
theorem dX3_bank_0 : decode cX3_bank 0 = .ok (.aload_n 0, 1) := by decide +kernel
theorem dX3_bank_1 : decode cX3_bank 1 = .ok (.aload_n 1, 1) := by decide +kernel
theorem dX3_bank_2 : decode cX3_bank 2 = .ok (.getfield 74, 3) := by decide +kernel
theorem dX3_bank_5 : decode cX3_bank 5 = .ok (.iconst 1, 1) := by decide +kernel
theorem dX3_bank_6 : decode cX3_bank 6 = .ok (.iaload, 1) := by decide +kernel
theorem dX3_bank_7 : decode cX3_bank 7 = .ok (.invokevirtual 78, 3) := by decide +kernel
theorem dX3_bank_10 : decode cX3_bank 10 = .ok (.aload_n 0, 1) := by decide +kernel
theorem dX3_bank_11 : decode cX3_bank 11 = .ok (.dup, 1) := by decide +kernel
theorem dX3_bank_12 : decode cX3_bank 12 = .ok (.getfield 46, 3) := by decide +kernel
theorem dX3_bank_15 : decode cX3_bank 15 = .ok (.iconst 1, 1) := by decide +kernel
theorem dX3_bank_16 : decode cX3_bank 16 = .ok (.iadd, 1) := by decide +kernel
theorem dX3_bank_17 : decode cX3_bank 17 = .ok (.putfield 46, 3) := by decide +kernel
theorem dX3_bank_20 : decode cX3_bank 20 = .ok (.aload_n 1, 1) := by decide +kernel
theorem dX3_bank_21 : decode cX3_bank 21 = .ok (.aload_n 0, 1) := by decide +kernel
theorem dX3_bank_22 : decode cX3_bank 22 = .ok (.getfield 28, 3) := by decide +kernel
theorem dX3_bank_25 : decode cX3_bank 25 = .ok (.invokevirtual 82, 3) := by decide +kernel
theorem dX3_bank_28 : decode cX3_bank 28 = .ok (.aload_n 0, 1) := by decide +kernel
theorem dX3_bank_29 : decode cX3_bank 29 = .ok (.getfield 12, 3) := by decide +kernel
theorem dX3_bank_32 : decode cX3_bank 32 = .ok (.invokevirtual 85, 3) := by decide +kernel
theorem dX3_bank_35 : decode cX3_bank 35 = .ok (.aload_n 0, 1) := by decide +kernel
theorem dX3_bank_36 : decode cX3_bank 36 = .ok (.dup, 1) := by decide +kernel
theorem dX3_bank_37 : decode cX3_bank 37 = .ok (.getfield 40, 3) := by decide +kernel
theorem dX3_bank_40 : decode cX3_bank 40 = .ok (.aload_n 0, 1) := by decide +kernel
theorem dX3_bank_41 : decode cX3_bank 41 = .ok (.getfield 37, 3) := by decide +kernel
theorem dX3_bank_44 : decode cX3_bank 44 = .ok (.iadd, 1) := by decide +kernel
theorem dX3_bank_45 : decode cX3_bank 45 = .ok (.putfield 40, 3) := by decide +kernel
theorem dX3_bank_48 : decode cX3_bank 48 = .ok (.aload_n 0, 1) := by decide +kernel
theorem dX3_bank_49 : decode cX3_bank 49 = .ok (.getfield 40, 3) := by decide +kernel
theorem dX3_bank_52 : decode cX3_bank 52 = .ok (.iconst 3, 1) := by decide +kernel
theorem dX3_bank_53 : decode cX3_bank 53 = .ok (.if_icmp .lt 20, 3) := by decide +kernel
theorem dX3_bank_56 : decode cX3_bank 56 = .ok (.aload_n 0, 1) := by decide +kernel
theorem dX3_bank_57 : decode cX3_bank 57 = .ok (.dup, 1) := by decide +kernel
theorem dX3_bank_58 : decode cX3_bank 58 = .ok (.getfield 40, 3) := by decide +kernel
theorem dX3_bank_61 : decode cX3_bank 61 = .ok (.iconst 3, 1) := by decide +kernel
theorem dX3_bank_62 : decode cX3_bank 62 = .ok (.isub, 1) := by decide +kernel
theorem dX3_bank_63 : decode cX3_bank 63 = .ok (.putfield 40, 3) := by decide +kernel
theorem dX3_bank_66 : decode cX3_bank 66 = .ok (.aload_n 0, 1) := by decide +kernel
theorem dX3_bank_67 : decode cX3_bank 67 = .ok (.getfield 12, 3) := by decide +kernel
theorem dX3_bank_70 : decode cX3_bank 70 = .ok (.invokevirtual 88, 3) := by decide +kernel
theorem dX3_bank_73 : decode cX3_bank 73 = .ok (.return_, 1) := by decide +kernel
theorem ck_X3_78 : CkV RX3 78 RX3 yX3_slow cX3_slow 2 none 1 := ⟨wm_X3_78, wim_yX3_slow, wse_yX3_slow, wi_X3, wc_yX3_slow, by decide +kernel⟩
theorem ck_X3_82 : CkV RX3 82 RX4 yX4_addBank cX4_addBank 2 none 1 := ⟨wm_X3_82, wim_yX4_addBank, wse_yX4_addBank, wi_X4, wc_yX4_addBank, by decide +kernel⟩
theorem ck_X3_85 : CkV RX3 85 RX5 yX5_turnAtBank cX5_turnAtBank 8 none 0 := ⟨wm_X3_85, wim_yX5_turnAtBank, wse_yX5_turnAtBank, wi_X5, wc_yX5_turnAtBank, by decide +kernel⟩
theorem ck_X3_88 : CkV RX3 88 RX5 yX5_turnOnIfOpen cX5_turnOnIfOpen 2 none 0 := ⟨wm_X3_88, wim_yX5_turnOnIfOpen, wse_yX5_turnOnIfOpen, wi_X5, wc_yX5_turnOnIfOpen, by decide +kernel⟩
theorem hc_36 {E : Ev} {a0 j0 : Nat} {σ0 : N1} {v0 : UInt32} {a1 : Nat} {σ1 : N1} {a2 : Nat → Nat} {σ2 : N2} : ([0] : List Nat).map (fun i => (wSh a0 j0 σ0 v0 ++ (wWk a1 σ1 ++ wSt E a2 σ2))[i]?) = (wSh a0 j0 σ0 v0).map some := rfl
theorem ha_36 {E : Ev} {a0 j0 : Nat} {σ0 : N1} {v0 : UInt32} {τ0_0 : N1} {τ0_1 : UInt32} : (wSh a0 j0 τ0_0 τ0_1).map Prod.fst = (wSh a0 j0 σ0 v0).map Prod.fst := rfl
theorem hw_36 {E : Ev} {a0 j0 : Nat} {σ0 : N1} {v0 : UInt32} {a1 : Nat} {σ1 : N1} {a2 : Nat → Nat} {σ2 : N2} {τ0_0 : N1} {τ0_1 : UInt32} : wput (wSh a0 j0 σ0 v0 ++ (wWk a1 σ1 ++ wSt E a2 σ2)) [0] (wSh a0 j0 τ0_0 τ0_1) = wSh a0 j0 τ0_0 τ0_1 ++ (wWk a1 σ1 ++ wSt E a2 σ2) := rfl
theorem ax_37 {E : Ev} {a0 j0 : Nat} {σ0 : N1} {v0 : UInt32} {a1 : Nat} {σ1 : N1} {a2 : Nat → Nat} {σ2 : N2} {x : Int32} : (wSh a0 j0 σ0 v0 ++ (wWk a1 σ1 ++ wSt E a2 σ2)).set 0 (a0, .inr (2, ([.ref j0, .int (σ0 0), .float v0, .int (σ0 1), .int (σ0 2), .int (σ0 3), .int (σ0 4), .int (σ0 5), .int (σ0 6)] : List Value).set 6 (.int x))) = wSh a0 j0 (upd σ0 4 x) v0 ++ (wWk a1 σ1 ++ wSt E a2 σ2) := rfl
theorem hc_38 {E : Ev} {a0 j0 : Nat} {σ0 : N1} {v0 : UInt32} {a1 : Nat} {σ1 : N1} {a2 : Nat → Nat} {σ2 : N2} : ([2, 3, 4, 5, 6, 7, 8, 9, 10] : List Nat).map (fun i => (wSh a0 j0 σ0 v0 ++ (wWk a1 σ1 ++ wSt E a2 σ2))[i]?) = (wSt E a2 σ2).map some := rfl
theorem ha_38 {E : Ev} {a2 : Nat → Nat} {σ2 : N2} {τ0_0 : N2} : (wSt E a2 τ0_0).map Prod.fst = (wSt E a2 σ2).map Prod.fst := rfl
theorem hw_38 {E : Ev} {a0 j0 : Nat} {σ0 : N1} {v0 : UInt32} {a1 : Nat} {σ1 : N1} {a2 : Nat → Nat} {σ2 : N2} {τ0_0 : N2} : wput (wSh a0 j0 σ0 v0 ++ (wWk a1 σ1 ++ wSt E a2 σ2)) [2, 3, 4, 5, 6, 7, 8, 9, 10] (wSt E a2 τ0_0) = wSh a0 j0 σ0 v0 ++ (wWk a1 σ1 ++ wSt E a2 τ0_0) := rfl
theorem hc_39 {E : Ev} {a0 j0 : Nat} {σ0 : N1} {v0 : UInt32} {a1 : Nat} {σ1 : N1} {a2 : Nat → Nat} {σ2 : N2} : ([1] : List Nat).map (fun i => (wSh a0 j0 σ0 v0 ++ (wWk a1 σ1 ++ wSt E a2 σ2))[i]?) = (wWk a1 σ1).map some := rfl
theorem ha_39 {E : Ev} {a1 : Nat} {σ1 : N1} {τ0_0 : N1} : (wWk a1 τ0_0).map Prod.fst = (wWk a1 σ1).map Prod.fst := rfl
theorem hw_39 {E : Ev} {a0 j0 : Nat} {σ0 : N1} {v0 : UInt32} {a1 : Nat} {σ1 : N1} {a2 : Nat → Nat} {σ2 : N2} {τ0_0 : N1} : wput (wSh a0 j0 σ0 v0 ++ (wWk a1 σ1 ++ wSt E a2 σ2)) [1] (wWk a1 τ0_0) = wSh a0 j0 σ0 v0 ++ (wWk a1 τ0_0 ++ wSt E a2 σ2) := rfl
theorem ax_40 {E : Ev} {a0 j0 : Nat} {σ0 : N1} {v0 : UInt32} {a1 : Nat} {σ1 : N1} {a2 : Nat → Nat} {σ2 : N2} {x : Int32} : (wSh a0 j0 σ0 v0 ++ (wWk a1 σ1 ++ wSt E a2 σ2)).set 0 (a0, .inr (2, ([.ref j0, .int (σ0 0), .float v0, .int (σ0 1), .int (σ0 2), .int (σ0 3), .int (σ0 4), .int (σ0 5), .int (σ0 6)] : List Value).set 4 (.int x))) = wSh a0 j0 (upd σ0 2 x) v0 ++ (wWk a1 σ1 ++ wSt E a2 σ2) := rfl
set_option maxHeartbeats 4000000 in
set_option maxRecDepth 100000 in
theorem kX3_bank (l : Launch) (E : Ev) (k : Nat) (j : Nat) (z : N1) (sp : UInt32) (d : N1) (a : Nat → Nat) (σ : N2) (hv : gV sp) (hs : gset σ) : KQ l yX3_bank cX3_bank 2 none 3 70 E [.ref k, .ref (a 0)] (wSh k j z sp ++ (wWk j d ++ wSt E a σ)) (QV E (wSh k j z sp ++ (wWk j d ++ wSt E a σ)) (wSh k j ((fX3_bank z sp d σ).1) ((fX3_bank z sp d σ).2.1) ++ (wWk j ((fX3_bank z sp d σ).2.2.1) ++ wSt E a ((fX3_bank z sp d σ).2.2.2)))) := by
  refine KQ.mk RX3 rfl (by decide +kernel) (Nat.le_of_ble_eq_true rfl) ?_
  intro p e s m below meth c ls X hr w hl
  have hx := X.1
  have hb := X.2.1
  have hl : lv_has ls 2 [(0, .ref k), (1, .ref (a 0))] := hl
  refine lv_aload_n hx hb dX3_bank_0 rfl (lv_at hl 0 rfl) ?_
  refine lv_aload_n hx hb dX3_bank_1 rfl (lv_at hl 1 rfl) ?_
  refine r_getN X w CL4 6 (by decide) nl_25 2 rfl rfl dX3_bank_2 ?_
  refine lv_iconst (v := 1) hx hb dX3_bank_5 (by decide) ?_
  refine r_ialdL X w 9 rfl (j := 1) rfl (vin_c rfl) dX3_bank_6 ?_
  refine r_cv w (r_runV (As := [.int (σ 6 1)]) (rest := []) X w (kX3_slow l E k j z sp (σ 6 1) hv (hs 1 (by decide))) ck_X3_78 ⟨Nat.le_of_ble_eq_true rfl, Nat.le_of_ble_eq_true rfl⟩ [0] (hc_36 (E := E)) (by decide +kernel) (k0 := 0) CL3 rfl hl.1 (Nat.le_of_ble_eq_true rfl) rfl dX3_bank_7 ⟨Nat.le_of_ble_eq_true rfl, Nat.le_of_ble_eq_true rfl⟩) (wSh k j z (fX3_slow z sp (σ 6 1)) ++ (wWk j d ++ wSt E a σ)) [0] (hc_36 (E := E)) (by decide +kernel) (ha_36 (E := E)) (hw_36 (E := E)) (fun H locs w => ?_)
  refine lv_aload_n hx hb dX3_bank_10 rfl (lv_at hl 0 rfl) ?_
  refine lv_dup hx hb dX3_bank_11 rfl ?_
  refine r_get X w CL3 6 (by decide) wf_X3_46 0 rfl rfl dX3_bank_12 ?_
  refine lv_iconst (v := 1) hx hb dX3_bank_15 (by decide) ?_
  refine lv_iadd hx hb dX3_bank_16 ?_
  refine r_put X w (wSh k j (upd z 4 ((z 4) + 1)) (fX3_slow z sp (σ 6 1)) ++ (wWk j d ++ wSt E a σ)) CL3 6 (by decide) wf_X3_46 0 rfl rfl rfl rfl (Nat.le_of_ble_eq_true rfl) (ax_37 (E := E)) dX3_bank_17 (fun H locs w => ?_)
  refine lv_aload_n hx hb dX3_bank_20 rfl (lv_at hl 1 rfl) ?_
  refine lv_aload_n hx hb dX3_bank_21 rfl (lv_at hl 0 rfl) ?_
  refine r_get X w CL3 1 (by decide) wf_X3_28 0 rfl rfl dX3_bank_22 ?_
  refine r_cv w (r_runV (As := [.int ((upd z 4 ((z 4) + 1)) 0)]) (rest := []) X w (kX4_addBank l E a σ ((upd z 4 ((z 4) + 1)) 0) ) ck_X3_82 ⟨Nat.le_of_ble_eq_true rfl, Nat.le_of_ble_eq_true rfl⟩ [2, 3, 4, 5, 6, 7, 8, 9, 10] (hc_38 (E := E)) (by decide +kernel) (k0 := 0) CL4 rfl hl.1 (Nat.le_of_ble_eq_true rfl) rfl dX3_bank_25 ⟨Nat.le_of_ble_eq_true rfl, Nat.le_of_ble_eq_true rfl⟩) (wSh k j (upd z 4 ((z 4) + 1)) (fX3_slow z sp (σ 6 1)) ++ (wWk j d ++ wSt E a (fX4_addBank σ ((upd z 4 ((z 4) + 1)) 0)))) [2, 3, 4, 5, 6, 7, 8, 9, 10] (hc_38 (E := E)) (by decide +kernel) (ha_38 (E := E)) (hw_38 (E := E)) (fun H locs w => ?_)
  refine lv_aload_n hx hb dX3_bank_28 rfl (lv_at hl 0 rfl) ?_
  refine r_get X w CL3 0 (by decide) wf_X3_12 0 rfl rfl dX3_bank_29 ?_
  refine r_cv w (r_runV (As := []) (rest := []) X w (kX5_turnAtBank l E j d ) ck_X3_85 ⟨Nat.le_of_ble_eq_true rfl, Nat.le_of_ble_eq_true rfl⟩ [1] (hc_39 (E := E)) (by decide +kernel) (k0 := 0) CL5 rfl hl.1 (Nat.le_of_ble_eq_true rfl) rfl dX3_bank_32 ⟨Nat.le_of_ble_eq_true rfl, Nat.le_of_ble_eq_true rfl⟩) (wSh k j (upd z 4 ((z 4) + 1)) (fX3_slow z sp (σ 6 1)) ++ (wWk j (fX5_turnAtBank d) ++ wSt E a (fX4_addBank σ ((upd z 4 ((z 4) + 1)) 0)))) [1] (hc_39 (E := E)) (by decide +kernel) (ha_39 (E := E)) (hw_39 (E := E)) (fun H locs w => ?_)
  refine lv_aload_n hx hb dX3_bank_35 rfl (lv_at hl 0 rfl) ?_
  refine lv_dup hx hb dX3_bank_36 rfl ?_
  refine r_get X w CL3 4 (by decide) wf_X3_40 0 rfl rfl dX3_bank_37 ?_
  refine lv_aload_n hx hb dX3_bank_40 rfl (lv_at hl 0 rfl) ?_
  refine r_get X w CL3 3 (by decide) wf_X3_37 0 rfl rfl dX3_bank_41 ?_
  refine lv_iadd hx hb dX3_bank_44 ?_
  refine r_put X w (wSh k j (upd (upd z 4 ((z 4) + 1)) 2 (((upd z 4 ((z 4) + 1)) 2) + ((upd z 4 ((z 4) + 1)) 1))) (fX3_slow z sp (σ 6 1)) ++ (wWk j (fX5_turnAtBank d) ++ wSt E a (fX4_addBank σ ((upd z 4 ((z 4) + 1)) 0)))) CL3 4 (by decide) wf_X3_40 0 rfl rfl rfl rfl (Nat.le_of_ble_eq_true rfl) (ax_40 (E := E)) dX3_bank_45 (fun H locs w => ?_)
  refine lv_aload_n hx hb dX3_bank_48 rfl (lv_at hl 0 rfl) ?_
  refine r_get X w CL3 4 (by decide) wf_X3_40 0 rfl rfl dX3_bank_49 ?_
  refine lv_iconst (v := 3) hx hb dX3_bank_52 (by decide) ?_
  refine lv_icmp_lt (tgt := 73) hx hb dX3_bank_53 (by decide) (fun c53_1 => ?_) (fun c53_1 => ?_)
  · have hq : fX3_bank z sp d σ = (upd (upd z 4 ((z 4) + 1)) 2 (((upd z 4 ((z 4) + 1)) 2) + ((upd z 4 ((z 4) + 1)) 1)), (fX3_slow z sp (σ 6 1)), (fX5_turnAtBank d), (fX4_addBank σ ((upd z 4 ((z 4) + 1)) 0))) := by simp only [fX3_bank, if_pos c53_1]
    obtain ⟨h0_, h1_, h2_, h3_⟩ := tup4 hq
    rw [h0_, h1_, h2_, h3_]
    exact r_vret X w hr dX3_bank_73
  · refine lv_aload_n hx hb dX3_bank_56 rfl (lv_at hl 0 rfl) ?_
    refine lv_dup hx hb dX3_bank_57 rfl ?_
    refine r_get X w CL3 4 (by decide) wf_X3_40 0 rfl rfl dX3_bank_58 ?_
    refine lv_iconst (v := 3) hx hb dX3_bank_61 (by decide) ?_
    refine lv_isub hx hb dX3_bank_62 ?_
    refine r_put X w (wSh k j (upd (upd (upd z 4 ((z 4) + 1)) 2 (((upd z 4 ((z 4) + 1)) 2) + ((upd z 4 ((z 4) + 1)) 1))) 2 (((upd (upd z 4 ((z 4) + 1)) 2 (((upd z 4 ((z 4) + 1)) 2) + ((upd z 4 ((z 4) + 1)) 1))) 2) - 3)) (fX3_slow z sp (σ 6 1)) ++ (wWk j (fX5_turnAtBank d) ++ wSt E a (fX4_addBank σ ((upd z 4 ((z 4) + 1)) 0)))) CL3 4 (by decide) wf_X3_40 0 rfl rfl rfl rfl (Nat.le_of_ble_eq_true rfl) (ax_40 (E := E)) dX3_bank_63 (fun H locs w => ?_)
    refine lv_aload_n hx hb dX3_bank_66 rfl (lv_at hl 0 rfl) ?_
    refine r_get X w CL3 0 (by decide) wf_X3_12 0 rfl rfl dX3_bank_67 ?_
    refine r_cv w (r_runV (As := []) (rest := []) X w (kX5_turnOnIfOpen l E j (fX5_turnAtBank d) ) ck_X3_88 ⟨Nat.le_of_ble_eq_true rfl, Nat.le_of_ble_eq_true rfl⟩ [1] (hc_39 (E := E)) (by decide +kernel) (k0 := 0) CL5 rfl hl.1 (Nat.le_of_ble_eq_true rfl) rfl dX3_bank_70 ⟨Nat.le_of_ble_eq_true rfl, Nat.le_of_ble_eq_true rfl⟩) (wSh k j (upd (upd (upd z 4 ((z 4) + 1)) 2 (((upd z 4 ((z 4) + 1)) 2) + ((upd z 4 ((z 4) + 1)) 1))) 2 (((upd (upd z 4 ((z 4) + 1)) 2 (((upd z 4 ((z 4) + 1)) 2) + ((upd z 4 ((z 4) + 1)) 1))) 2) - 3)) (fX3_slow z sp (σ 6 1)) ++ (wWk j (fX5_turnOnIfOpen (fX5_turnAtBank d)) ++ wSt E a (fX4_addBank σ ((upd z 4 ((z 4) + 1)) 0)))) [1] (hc_39 (E := E)) (by decide +kernel) (ha_39 (E := E)) (hw_39 (E := E)) (fun H locs w => ?_)
    have hq : fX3_bank z sp d σ = (upd (upd (upd z 4 ((z 4) + 1)) 2 (((upd z 4 ((z 4) + 1)) 2) + ((upd z 4 ((z 4) + 1)) 1))) 2 (((upd (upd z 4 ((z 4) + 1)) 2 (((upd z 4 ((z 4) + 1)) 2) + ((upd z 4 ((z 4) + 1)) 1))) 2) - 3), (fX3_slow z sp (σ 6 1)), (fX5_turnOnIfOpen (fX5_turnAtBank d)), (fX4_addBank σ ((upd z 4 ((z 4) + 1)) 0))) := by simp only [fX3_bank, if_neg c53_1]
    obtain ⟨h0_, h1_, h2_, h3_⟩ := tup4 hq
    rw [h0_, h1_, h2_, h3_]
    exact r_vret X w hr dX3_bank_73
def fX3_hit (z : N1) (sp : UInt32) (d : N1) (σ : N2) (ot : Int32) : N1 × UInt32 × N1 × N2 := (upd (upd (upd (upd z 5 ((z 5) + 1)) 0 ot) 1 0) 2 0, (fX3_slow z sp (σ 6 2)), (fX5_stepAhead d), (fX4_addHit σ ((upd z 5 ((z 5) + 1)) 0)))
theorem dX3_hit_0 : decode cX3_hit 0 = .ok (.aload_n 0, 1) := by decide +kernel
theorem dX3_hit_1 : decode cX3_hit 1 = .ok (.aload_n 1, 1) := by decide +kernel
theorem dX3_hit_2 : decode cX3_hit 2 = .ok (.getfield 74, 3) := by decide +kernel
theorem dX3_hit_5 : decode cX3_hit 5 = .ok (.iconst 2, 1) := by decide +kernel
theorem dX3_hit_6 : decode cX3_hit 6 = .ok (.iaload, 1) := by decide +kernel
theorem dX3_hit_7 : decode cX3_hit 7 = .ok (.invokevirtual 78, 3) := by decide +kernel
theorem dX3_hit_10 : decode cX3_hit 10 = .ok (.aload_n 0, 1) := by decide +kernel
theorem dX3_hit_11 : decode cX3_hit 11 = .ok (.dup, 1) := by decide +kernel
theorem dX3_hit_12 : decode cX3_hit 12 = .ok (.getfield 49, 3) := by decide +kernel
theorem dX3_hit_15 : decode cX3_hit 15 = .ok (.iconst 1, 1) := by decide +kernel
theorem dX3_hit_16 : decode cX3_hit 16 = .ok (.iadd, 1) := by decide +kernel
theorem dX3_hit_17 : decode cX3_hit 17 = .ok (.putfield 49, 3) := by decide +kernel
theorem dX3_hit_20 : decode cX3_hit 20 = .ok (.aload_n 1, 1) := by decide +kernel
theorem dX3_hit_21 : decode cX3_hit 21 = .ok (.aload_n 0, 1) := by decide +kernel
theorem dX3_hit_22 : decode cX3_hit 22 = .ok (.getfield 28, 3) := by decide +kernel
theorem dX3_hit_25 : decode cX3_hit 25 = .ok (.invokevirtual 91, 3) := by decide +kernel
theorem dX3_hit_28 : decode cX3_hit 28 = .ok (.aload_n 0, 1) := by decide +kernel
theorem dX3_hit_29 : decode cX3_hit 29 = .ok (.iload_n 2, 1) := by decide +kernel
theorem dX3_hit_30 : decode cX3_hit 30 = .ok (.putfield 28, 3) := by decide +kernel
theorem dX3_hit_33 : decode cX3_hit 33 = .ok (.aload_n 0, 1) := by decide +kernel
theorem dX3_hit_34 : decode cX3_hit 34 = .ok (.iconst 0, 1) := by decide +kernel
theorem dX3_hit_35 : decode cX3_hit 35 = .ok (.putfield 37, 3) := by decide +kernel
theorem dX3_hit_38 : decode cX3_hit 38 = .ok (.aload_n 0, 1) := by decide +kernel
theorem dX3_hit_39 : decode cX3_hit 39 = .ok (.iconst 0, 1) := by decide +kernel
theorem dX3_hit_40 : decode cX3_hit 40 = .ok (.putfield 40, 3) := by decide +kernel
theorem dX3_hit_43 : decode cX3_hit 43 = .ok (.aload_n 0, 1) := by decide +kernel
theorem dX3_hit_44 : decode cX3_hit 44 = .ok (.getfield 12, 3) := by decide +kernel
theorem dX3_hit_47 : decode cX3_hit 47 = .ok (.invokevirtual 94, 3) := by decide +kernel
theorem dX3_hit_50 : decode cX3_hit 50 = .ok (.return_, 1) := by decide +kernel
theorem ck_X3_91 : CkV RX3 91 RX4 yX4_addHit cX4_addHit 2 none 1 := ⟨wm_X3_91, wim_yX4_addHit, wse_yX4_addHit, wi_X4, wc_yX4_addHit, by decide +kernel⟩
theorem ck_X3_94 : CkV RX3 94 RX5 yX5_stepAhead cX5_stepAhead 1 none 0 := ⟨wm_X3_94, wim_yX5_stepAhead, wse_yX5_stepAhead, wi_X5, wc_yX5_stepAhead, by decide +kernel⟩
theorem ax_41 {E : Ev} {a0 j0 : Nat} {σ0 : N1} {v0 : UInt32} {a1 : Nat} {σ1 : N1} {a2 : Nat → Nat} {σ2 : N2} {x : Int32} : (wSh a0 j0 σ0 v0 ++ (wWk a1 σ1 ++ wSt E a2 σ2)).set 0 (a0, .inr (2, ([.ref j0, .int (σ0 0), .float v0, .int (σ0 1), .int (σ0 2), .int (σ0 3), .int (σ0 4), .int (σ0 5), .int (σ0 6)] : List Value).set 7 (.int x))) = wSh a0 j0 (upd σ0 5 x) v0 ++ (wWk a1 σ1 ++ wSt E a2 σ2) := rfl
theorem ax_42 {E : Ev} {a0 j0 : Nat} {σ0 : N1} {v0 : UInt32} {a1 : Nat} {σ1 : N1} {a2 : Nat → Nat} {σ2 : N2} {x : Int32} : (wSh a0 j0 σ0 v0 ++ (wWk a1 σ1 ++ wSt E a2 σ2)).set 0 (a0, .inr (2, ([.ref j0, .int (σ0 0), .float v0, .int (σ0 1), .int (σ0 2), .int (σ0 3), .int (σ0 4), .int (σ0 5), .int (σ0 6)] : List Value).set 1 (.int x))) = wSh a0 j0 (upd σ0 0 x) v0 ++ (wWk a1 σ1 ++ wSt E a2 σ2) := rfl
theorem ax_43 {E : Ev} {a0 j0 : Nat} {σ0 : N1} {v0 : UInt32} {a1 : Nat} {σ1 : N1} {a2 : Nat → Nat} {σ2 : N2} {x : Int32} : (wSh a0 j0 σ0 v0 ++ (wWk a1 σ1 ++ wSt E a2 σ2)).set 0 (a0, .inr (2, ([.ref j0, .int (σ0 0), .float v0, .int (σ0 1), .int (σ0 2), .int (σ0 3), .int (σ0 4), .int (σ0 5), .int (σ0 6)] : List Value).set 3 (.int x))) = wSh a0 j0 (upd σ0 1 x) v0 ++ (wWk a1 σ1 ++ wSt E a2 σ2) := rfl
set_option maxHeartbeats 4000000 in
set_option maxRecDepth 100000 in
theorem kX3_hit (l : Launch) (E : Ev) (k : Nat) (j : Nat) (z : N1) (sp : UInt32) (d : N1) (a : Nat → Nat) (σ : N2) (ot : Int32) (hv : gV sp) (hs : gset σ) : KQ l yX3_hit cX3_hit 3 none 3 60 E [.ref k, .ref (a 0), .int ot] (wSh k j z sp ++ (wWk j d ++ wSt E a σ)) (QV E (wSh k j z sp ++ (wWk j d ++ wSt E a σ)) (wSh k j ((fX3_hit z sp d σ ot).1) ((fX3_hit z sp d σ ot).2.1) ++ (wWk j ((fX3_hit z sp d σ ot).2.2.1) ++ wSt E a ((fX3_hit z sp d σ ot).2.2.2)))) := by
  refine KQ.mk RX3 rfl (by decide +kernel) (Nat.le_of_ble_eq_true rfl) ?_
  intro p e s m below meth c ls X hr w hl
  have hx := X.1
  have hb := X.2.1
  have hl : lv_has ls 3 [(0, .ref k), (1, .ref (a 0)), (2, .int ot)] := hl
  refine lv_aload_n hx hb dX3_hit_0 rfl (lv_at hl 0 rfl) ?_
  refine lv_aload_n hx hb dX3_hit_1 rfl (lv_at hl 1 rfl) ?_
  refine r_getN X w CL4 6 (by decide) nl_25 2 rfl rfl dX3_hit_2 ?_
  refine lv_iconst (v := 2) hx hb dX3_hit_5 (by decide) ?_
  refine r_ialdL X w 9 rfl (j := 2) rfl (vin_c rfl) dX3_hit_6 ?_
  refine r_cv w (r_runV (As := [.int (σ 6 2)]) (rest := []) X w (kX3_slow l E k j z sp (σ 6 2) hv (hs 2 (by decide))) ck_X3_78 ⟨Nat.le_of_ble_eq_true rfl, Nat.le_of_ble_eq_true rfl⟩ [0] (hc_36 (E := E)) (by decide +kernel) (k0 := 0) CL3 rfl hl.1 (Nat.le_of_ble_eq_true rfl) rfl dX3_hit_7 ⟨Nat.le_of_ble_eq_true rfl, Nat.le_of_ble_eq_true rfl⟩) (wSh k j z (fX3_slow z sp (σ 6 2)) ++ (wWk j d ++ wSt E a σ)) [0] (hc_36 (E := E)) (by decide +kernel) (ha_36 (E := E)) (hw_36 (E := E)) (fun H locs w => ?_)
  refine lv_aload_n hx hb dX3_hit_10 rfl (lv_at hl 0 rfl) ?_
  refine lv_dup hx hb dX3_hit_11 rfl ?_
  refine r_get X w CL3 7 (by decide) wf_X3_49 0 rfl rfl dX3_hit_12 ?_
  refine lv_iconst (v := 1) hx hb dX3_hit_15 (by decide) ?_
  refine lv_iadd hx hb dX3_hit_16 ?_
  refine r_put X w (wSh k j (upd z 5 ((z 5) + 1)) (fX3_slow z sp (σ 6 2)) ++ (wWk j d ++ wSt E a σ)) CL3 7 (by decide) wf_X3_49 0 rfl rfl rfl rfl (Nat.le_of_ble_eq_true rfl) (ax_41 (E := E)) dX3_hit_17 (fun H locs w => ?_)
  refine lv_aload_n hx hb dX3_hit_20 rfl (lv_at hl 1 rfl) ?_
  refine lv_aload_n hx hb dX3_hit_21 rfl (lv_at hl 0 rfl) ?_
  refine r_get X w CL3 1 (by decide) wf_X3_28 0 rfl rfl dX3_hit_22 ?_
  refine r_cv w (r_runV (As := [.int ((upd z 5 ((z 5) + 1)) 0)]) (rest := []) X w (kX4_addHit l E a σ ((upd z 5 ((z 5) + 1)) 0) ) ck_X3_91 ⟨Nat.le_of_ble_eq_true rfl, Nat.le_of_ble_eq_true rfl⟩ [2, 3, 4, 5, 6, 7, 8, 9, 10] (hc_38 (E := E)) (by decide +kernel) (k0 := 0) CL4 rfl hl.1 (Nat.le_of_ble_eq_true rfl) rfl dX3_hit_25 ⟨Nat.le_of_ble_eq_true rfl, Nat.le_of_ble_eq_true rfl⟩) (wSh k j (upd z 5 ((z 5) + 1)) (fX3_slow z sp (σ 6 2)) ++ (wWk j d ++ wSt E a (fX4_addHit σ ((upd z 5 ((z 5) + 1)) 0)))) [2, 3, 4, 5, 6, 7, 8, 9, 10] (hc_38 (E := E)) (by decide +kernel) (ha_38 (E := E)) (hw_38 (E := E)) (fun H locs w => ?_)
  refine lv_aload_n hx hb dX3_hit_28 rfl (lv_at hl 0 rfl) ?_
  refine lv_iload_n hx hb dX3_hit_29 rfl (lv_at hl 2 rfl) ?_
  refine r_put X w (wSh k j (upd (upd z 5 ((z 5) + 1)) 0 ot) (fX3_slow z sp (σ 6 2)) ++ (wWk j d ++ wSt E a (fX4_addHit σ ((upd z 5 ((z 5) + 1)) 0)))) CL3 1 (by decide) wf_X3_28 0 rfl rfl rfl rfl (Nat.le_of_ble_eq_true rfl) (ax_42 (E := E)) dX3_hit_30 (fun H locs w => ?_)
  refine lv_aload_n hx hb dX3_hit_33 rfl (lv_at hl 0 rfl) ?_
  refine lv_iconst (v := 0) hx hb dX3_hit_34 (by decide) ?_
  refine r_put X w (wSh k j (upd (upd (upd z 5 ((z 5) + 1)) 0 ot) 1 0) (fX3_slow z sp (σ 6 2)) ++ (wWk j d ++ wSt E a (fX4_addHit σ ((upd z 5 ((z 5) + 1)) 0)))) CL3 3 (by decide) wf_X3_37 0 rfl rfl rfl rfl (Nat.le_of_ble_eq_true rfl) (ax_43 (E := E)) dX3_hit_35 (fun H locs w => ?_)
  refine lv_aload_n hx hb dX3_hit_38 rfl (lv_at hl 0 rfl) ?_
  refine lv_iconst (v := 0) hx hb dX3_hit_39 (by decide) ?_
  refine r_put X w (wSh k j (upd (upd (upd (upd z 5 ((z 5) + 1)) 0 ot) 1 0) 2 0) (fX3_slow z sp (σ 6 2)) ++ (wWk j d ++ wSt E a (fX4_addHit σ ((upd z 5 ((z 5) + 1)) 0)))) CL3 4 (by decide) wf_X3_40 0 rfl rfl rfl rfl (Nat.le_of_ble_eq_true rfl) (ax_40 (E := E)) dX3_hit_40 (fun H locs w => ?_)
  refine lv_aload_n hx hb dX3_hit_43 rfl (lv_at hl 0 rfl) ?_
  refine r_get X w CL3 0 (by decide) wf_X3_12 0 rfl rfl dX3_hit_44 ?_
  refine r_cv w (r_runV (As := []) (rest := []) X w (kX5_stepAhead l E j d ) ck_X3_94 ⟨Nat.le_of_ble_eq_true rfl, Nat.le_of_ble_eq_true rfl⟩ [1] (hc_39 (E := E)) (by decide +kernel) (k0 := 0) CL5 rfl hl.1 (Nat.le_of_ble_eq_true rfl) rfl dX3_hit_47 ⟨Nat.le_of_ble_eq_true rfl, Nat.le_of_ble_eq_true rfl⟩) (wSh k j (upd (upd (upd (upd z 5 ((z 5) + 1)) 0 ot) 1 0) 2 0) (fX3_slow z sp (σ 6 2)) ++ (wWk j (fX5_stepAhead d) ++ wSt E a (fX4_addHit σ ((upd z 5 ((z 5) + 1)) 0)))) [1] (hc_39 (E := E)) (by decide +kernel) (ha_39 (E := E)) (hw_39 (E := E)) (fun H locs w => ?_)
  have hq : fX3_hit z sp d σ ot = (upd (upd (upd (upd z 5 ((z 5) + 1)) 0 ot) 1 0) 2 0, (fX3_slow z sp (σ 6 2)), (fX5_stepAhead d), (fX4_addHit σ ((upd z 5 ((z 5) + 1)) 0))) := rfl
  obtain ⟨h0_, h1_, h2_, h3_⟩ := tup4 hq
  rw [h0_, h1_, h2_, h3_]
  exact r_vret X w hr dX3_hit_50
def fX3_step (z : N1) (sp : UInt32) (d : N1) (σ : N2) (ce : Int32) : N1 × UInt32 × N1 × N2 := if (fX4_isOpenPot (fX4_place (fX4_addStep σ ((upd z 3 ((z 3) + 1)) 0)) ((upd z 3 ((z 3) + 1)) 0) ce) ce) = 0 then ((upd z 3 ((z 3) + 1), (fX3_slow z sp (σ 6 0)), (fX5_stepAhead d), (fX4_place (fX4_addStep σ ((upd z 3 ((z 3) + 1)) 0)) ((upd z 3 ((z 3) + 1)) 0) ce))) else ((upd (upd z 3 ((z 3) + 1)) 6 ((upd z 3 ((z 3) + 1)) 0), (fX3_slow z sp (σ 6 0)), (fX5_stepAhead d), (fX4_lift (fX4_place (fX4_addStep σ ((upd z 3 ((z 3) + 1)) 0)) ((upd z 3 ((z 3) + 1)) 0) ce) ((upd z 3 ((z 3) + 1)) 0))))
theorem dX3_step_0 : decode cX3_step 0 = .ok (.aload_n 0, 1) := by decide +kernel
theorem dX3_step_1 : decode cX3_step 1 = .ok (.aload_n 1, 1) := by decide +kernel
theorem dX3_step_2 : decode cX3_step 2 = .ok (.getfield 74, 3) := by decide +kernel
theorem dX3_step_5 : decode cX3_step 5 = .ok (.iconst 0, 1) := by decide +kernel
theorem dX3_step_6 : decode cX3_step 6 = .ok (.iaload, 1) := by decide +kernel
theorem dX3_step_7 : decode cX3_step 7 = .ok (.invokevirtual 78, 3) := by decide +kernel
theorem dX3_step_10 : decode cX3_step 10 = .ok (.aload_n 0, 1) := by decide +kernel
theorem dX3_step_11 : decode cX3_step 11 = .ok (.dup, 1) := by decide +kernel
theorem dX3_step_12 : decode cX3_step 12 = .ok (.getfield 43, 3) := by decide +kernel
theorem dX3_step_15 : decode cX3_step 15 = .ok (.iconst 1, 1) := by decide +kernel
theorem dX3_step_16 : decode cX3_step 16 = .ok (.iadd, 1) := by decide +kernel
theorem dX3_step_17 : decode cX3_step 17 = .ok (.putfield 43, 3) := by decide +kernel
theorem dX3_step_20 : decode cX3_step 20 = .ok (.aload_n 1, 1) := by decide +kernel
theorem dX3_step_21 : decode cX3_step 21 = .ok (.aload_n 0, 1) := by decide +kernel
theorem dX3_step_22 : decode cX3_step 22 = .ok (.getfield 28, 3) := by decide +kernel
theorem dX3_step_25 : decode cX3_step 25 = .ok (.invokevirtual 97, 3) := by decide +kernel
theorem dX3_step_28 : decode cX3_step 28 = .ok (.aload_n 1, 1) := by decide +kernel
theorem dX3_step_29 : decode cX3_step 29 = .ok (.aload_n 0, 1) := by decide +kernel
theorem dX3_step_30 : decode cX3_step 30 = .ok (.getfield 28, 3) := by decide +kernel
theorem dX3_step_33 : decode cX3_step 33 = .ok (.iload_n 2, 1) := by decide +kernel
theorem dX3_step_34 : decode cX3_step 34 = .ok (.invokevirtual 100, 3) := by decide +kernel
theorem dX3_step_37 : decode cX3_step 37 = .ok (.aload_n 0, 1) := by decide +kernel
theorem dX3_step_38 : decode cX3_step 38 = .ok (.getfield 12, 3) := by decide +kernel
theorem dX3_step_41 : decode cX3_step 41 = .ok (.invokevirtual 94, 3) := by decide +kernel
theorem dX3_step_44 : decode cX3_step 44 = .ok (.aload_n 1, 1) := by decide +kernel
theorem dX3_step_45 : decode cX3_step 45 = .ok (.iload_n 2, 1) := by decide +kernel
theorem dX3_step_46 : decode cX3_step 46 = .ok (.invokevirtual 103, 3) := by decide +kernel
theorem dX3_step_49 : decode cX3_step 49 = .ok (.ifCond .eq 19, 3) := by decide +kernel
theorem dX3_step_52 : decode cX3_step 52 = .ok (.aload_n 1, 1) := by decide +kernel
theorem dX3_step_53 : decode cX3_step 53 = .ok (.aload_n 0, 1) := by decide +kernel
theorem dX3_step_54 : decode cX3_step 54 = .ok (.getfield 28, 3) := by decide +kernel
theorem dX3_step_57 : decode cX3_step 57 = .ok (.invokevirtual 107, 3) := by decide +kernel
theorem dX3_step_60 : decode cX3_step 60 = .ok (.aload_n 0, 1) := by decide +kernel
theorem dX3_step_61 : decode cX3_step 61 = .ok (.aload_n 0, 1) := by decide +kernel
theorem dX3_step_62 : decode cX3_step 62 = .ok (.getfield 28, 3) := by decide +kernel
theorem dX3_step_65 : decode cX3_step 65 = .ok (.putfield 52, 3) := by decide +kernel
theorem dX3_step_68 : decode cX3_step 68 = .ok (.return_, 1) := by decide +kernel
theorem ck_X3_97 : CkV RX3 97 RX4 yX4_addStep cX4_addStep 2 none 1 := ⟨wm_X3_97, wim_yX4_addStep, wse_yX4_addStep, wi_X4, wc_yX4_addStep, by decide +kernel⟩
theorem ck_X3_100 : CkV RX3 100 RX4 yX4_place cX4_place 3 none 2 := ⟨wm_X3_100, wim_yX4_place, wse_yX4_place, wi_X4, wc_yX4_place, by decide +kernel⟩
theorem ck_X3_103 : CkV RX3 103 RX4 yX4_isOpenPot cX4_isOpenPot 3 (some .boolean) 1 := ⟨wm_X3_103, wim_yX4_isOpenPot, wse_yX4_isOpenPot, wi_X4, wc_yX4_isOpenPot, by decide +kernel⟩
theorem ck_X3_107 : CkV RX3 107 RX4 yX4_lift cX4_lift 2 none 1 := ⟨wm_X3_107, wim_yX4_lift, wse_yX4_lift, wi_X4, wc_yX4_lift, by decide +kernel⟩
theorem ax_44 {E : Ev} {a0 j0 : Nat} {σ0 : N1} {v0 : UInt32} {a1 : Nat} {σ1 : N1} {a2 : Nat → Nat} {σ2 : N2} {x : Int32} : (wSh a0 j0 σ0 v0 ++ (wWk a1 σ1 ++ wSt E a2 σ2)).set 0 (a0, .inr (2, ([.ref j0, .int (σ0 0), .float v0, .int (σ0 1), .int (σ0 2), .int (σ0 3), .int (σ0 4), .int (σ0 5), .int (σ0 6)] : List Value).set 5 (.int x))) = wSh a0 j0 (upd σ0 3 x) v0 ++ (wWk a1 σ1 ++ wSt E a2 σ2) := rfl
theorem ax_45 {E : Ev} {a0 j0 : Nat} {σ0 : N1} {v0 : UInt32} {a1 : Nat} {σ1 : N1} {a2 : Nat → Nat} {σ2 : N2} {x : Int32} : (wSh a0 j0 σ0 v0 ++ (wWk a1 σ1 ++ wSt E a2 σ2)).set 0 (a0, .inr (2, ([.ref j0, .int (σ0 0), .float v0, .int (σ0 1), .int (σ0 2), .int (σ0 3), .int (σ0 4), .int (σ0 5), .int (σ0 6)] : List Value).set 8 (.int x))) = wSh a0 j0 (upd σ0 6 x) v0 ++ (wWk a1 σ1 ++ wSt E a2 σ2) := rfl
set_option maxHeartbeats 4000000 in
set_option maxRecDepth 100000 in
theorem kX3_step (l : Launch) (E : Ev) (k : Nat) (j : Nat) (z : N1) (sp : UInt32) (d : N1) (a : Nat → Nat) (σ : N2) (ce : Int32) (hv : gV sp) (hs : gset σ) : KQ l yX3_step cX3_step 3 none 3 63 E [.ref k, .ref (a 0), .int ce] (wSh k j z sp ++ (wWk j d ++ wSt E a σ)) (QV E (wSh k j z sp ++ (wWk j d ++ wSt E a σ)) (wSh k j ((fX3_step z sp d σ ce).1) ((fX3_step z sp d σ ce).2.1) ++ (wWk j ((fX3_step z sp d σ ce).2.2.1) ++ wSt E a ((fX3_step z sp d σ ce).2.2.2)))) := by
  refine KQ.mk RX3 rfl (by decide +kernel) (Nat.le_of_ble_eq_true rfl) ?_
  intro p e s m below meth c ls X hr w hl
  have hx := X.1
  have hb := X.2.1
  have hl : lv_has ls 3 [(0, .ref k), (1, .ref (a 0)), (2, .int ce)] := hl
  refine lv_aload_n hx hb dX3_step_0 rfl (lv_at hl 0 rfl) ?_
  refine lv_aload_n hx hb dX3_step_1 rfl (lv_at hl 1 rfl) ?_
  refine r_getN X w CL4 6 (by decide) nl_25 2 rfl rfl dX3_step_2 ?_
  refine lv_iconst (v := 0) hx hb dX3_step_5 (by decide) ?_
  refine r_ialdL X w 9 rfl (j := 0) rfl (vin_c rfl) dX3_step_6 ?_
  refine r_cv w (r_runV (As := [.int (σ 6 0)]) (rest := []) X w (kX3_slow l E k j z sp (σ 6 0) hv (hs 0 (by decide))) ck_X3_78 ⟨Nat.le_of_ble_eq_true rfl, Nat.le_of_ble_eq_true rfl⟩ [0] (hc_36 (E := E)) (by decide +kernel) (k0 := 0) CL3 rfl hl.1 (Nat.le_of_ble_eq_true rfl) rfl dX3_step_7 ⟨Nat.le_of_ble_eq_true rfl, Nat.le_of_ble_eq_true rfl⟩) (wSh k j z (fX3_slow z sp (σ 6 0)) ++ (wWk j d ++ wSt E a σ)) [0] (hc_36 (E := E)) (by decide +kernel) (ha_36 (E := E)) (hw_36 (E := E)) (fun H locs w => ?_)
  refine lv_aload_n hx hb dX3_step_10 rfl (lv_at hl 0 rfl) ?_
  refine lv_dup hx hb dX3_step_11 rfl ?_
  refine r_get X w CL3 5 (by decide) wf_X3_43 0 rfl rfl dX3_step_12 ?_
  refine lv_iconst (v := 1) hx hb dX3_step_15 (by decide) ?_
  refine lv_iadd hx hb dX3_step_16 ?_
  refine r_put X w (wSh k j (upd z 3 ((z 3) + 1)) (fX3_slow z sp (σ 6 0)) ++ (wWk j d ++ wSt E a σ)) CL3 5 (by decide) wf_X3_43 0 rfl rfl rfl rfl (Nat.le_of_ble_eq_true rfl) (ax_44 (E := E)) dX3_step_17 (fun H locs w => ?_)
  refine lv_aload_n hx hb dX3_step_20 rfl (lv_at hl 1 rfl) ?_
  refine lv_aload_n hx hb dX3_step_21 rfl (lv_at hl 0 rfl) ?_
  refine r_get X w CL3 1 (by decide) wf_X3_28 0 rfl rfl dX3_step_22 ?_
  refine r_cv w (r_runV (As := [.int ((upd z 3 ((z 3) + 1)) 0)]) (rest := []) X w (kX4_addStep l E a σ ((upd z 3 ((z 3) + 1)) 0) ) ck_X3_97 ⟨Nat.le_of_ble_eq_true rfl, Nat.le_of_ble_eq_true rfl⟩ [2, 3, 4, 5, 6, 7, 8, 9, 10] (hc_38 (E := E)) (by decide +kernel) (k0 := 0) CL4 rfl hl.1 (Nat.le_of_ble_eq_true rfl) rfl dX3_step_25 ⟨Nat.le_of_ble_eq_true rfl, Nat.le_of_ble_eq_true rfl⟩) (wSh k j (upd z 3 ((z 3) + 1)) (fX3_slow z sp (σ 6 0)) ++ (wWk j d ++ wSt E a (fX4_addStep σ ((upd z 3 ((z 3) + 1)) 0)))) [2, 3, 4, 5, 6, 7, 8, 9, 10] (hc_38 (E := E)) (by decide +kernel) (ha_38 (E := E)) (hw_38 (E := E)) (fun H locs w => ?_)
  refine lv_aload_n hx hb dX3_step_28 rfl (lv_at hl 1 rfl) ?_
  refine lv_aload_n hx hb dX3_step_29 rfl (lv_at hl 0 rfl) ?_
  refine r_get X w CL3 1 (by decide) wf_X3_28 0 rfl rfl dX3_step_30 ?_
  refine lv_iload_n hx hb dX3_step_33 rfl (lv_at hl 2 rfl) ?_
  refine r_cv w (r_runV (As := [.int ((upd z 3 ((z 3) + 1)) 0), .int ce]) (rest := []) X w (kX4_place l E a (fX4_addStep σ ((upd z 3 ((z 3) + 1)) 0)) ((upd z 3 ((z 3) + 1)) 0) ce ) ck_X3_100 ⟨Nat.le_of_ble_eq_true rfl, Nat.le_of_ble_eq_true rfl⟩ [2, 3, 4, 5, 6, 7, 8, 9, 10] (hc_38 (E := E)) (by decide +kernel) (k0 := 0) CL4 rfl hl.1 (Nat.le_of_ble_eq_true rfl) rfl dX3_step_34 ⟨Nat.le_of_ble_eq_true rfl, Nat.le_of_ble_eq_true rfl⟩) (wSh k j (upd z 3 ((z 3) + 1)) (fX3_slow z sp (σ 6 0)) ++ (wWk j d ++ wSt E a (fX4_place (fX4_addStep σ ((upd z 3 ((z 3) + 1)) 0)) ((upd z 3 ((z 3) + 1)) 0) ce))) [2, 3, 4, 5, 6, 7, 8, 9, 10] (hc_38 (E := E)) (by decide +kernel) (ha_38 (E := E)) (hw_38 (E := E)) (fun H locs w => ?_)
  refine lv_aload_n hx hb dX3_step_37 rfl (lv_at hl 0 rfl) ?_
  refine r_get X w CL3 0 (by decide) wf_X3_12 0 rfl rfl dX3_step_38 ?_
  refine r_cv w (r_runV (As := []) (rest := []) X w (kX5_stepAhead l E j d ) ck_X3_94 ⟨Nat.le_of_ble_eq_true rfl, Nat.le_of_ble_eq_true rfl⟩ [1] (hc_39 (E := E)) (by decide +kernel) (k0 := 0) CL5 rfl hl.1 (Nat.le_of_ble_eq_true rfl) rfl dX3_step_41 ⟨Nat.le_of_ble_eq_true rfl, Nat.le_of_ble_eq_true rfl⟩) (wSh k j (upd z 3 ((z 3) + 1)) (fX3_slow z sp (σ 6 0)) ++ (wWk j (fX5_stepAhead d) ++ wSt E a (fX4_place (fX4_addStep σ ((upd z 3 ((z 3) + 1)) 0)) ((upd z 3 ((z 3) + 1)) 0) ce))) [1] (hc_39 (E := E)) (by decide +kernel) (ha_39 (E := E)) (hw_39 (E := E)) (fun H locs w => ?_)
  refine lv_aload_n hx hb dX3_step_44 rfl (lv_at hl 1 rfl) ?_
  refine lv_iload_n hx hb dX3_step_45 rfl (lv_at hl 2 rfl) ?_
  refine r_ci w (r_runV (As := [.int ce]) (rest := []) X w (kX4_isOpenPot l E a (fX4_place (fX4_addStep σ ((upd z 3 ((z 3) + 1)) 0)) ((upd z 3 ((z 3) + 1)) 0) ce) ce ) ck_X3_103 ⟨Nat.le_of_ble_eq_true rfl, Nat.le_of_ble_eq_true rfl⟩ [2, 3, 4, 5, 6, 7, 8, 9, 10] (hc_38 (E := E)) (by decide +kernel) (k0 := 0) CL4 rfl hl.1 (Nat.le_of_ble_eq_true rfl) rfl dX3_step_46 ⟨Nat.le_of_ble_eq_true rfl, Nat.le_of_ble_eq_true rfl⟩) (wSh k j (upd z 3 ((z 3) + 1)) (fX3_slow z sp (σ 6 0)) ++ (wWk j (fX5_stepAhead d) ++ wSt E a (fX4_place (fX4_addStep σ ((upd z 3 ((z 3) + 1)) 0)) ((upd z 3 ((z 3) + 1)) 0) ce))) [2, 3, 4, 5, 6, 7, 8, 9, 10] (hc_38 (E := E)) (by decide +kernel) (ha_38 (E := E)) (hw_38 (E := E)) (fun H locs w => ?_)
  refine lv_if_eq (tgt := 68) hx hb dX3_step_49 (by decide) (fun c49_1 => ?_) (fun c49_1 => ?_)
  · have hq : fX3_step z sp d σ ce = (upd z 3 ((z 3) + 1), (fX3_slow z sp (σ 6 0)), (fX5_stepAhead d), (fX4_place (fX4_addStep σ ((upd z 3 ((z 3) + 1)) 0)) ((upd z 3 ((z 3) + 1)) 0) ce)) := by simp only [fX3_step, if_pos c49_1]
    obtain ⟨h0_, h1_, h2_, h3_⟩ := tup4 hq
    rw [h0_, h1_, h2_, h3_]
    exact r_vret X w hr dX3_step_68
  · refine lv_aload_n hx hb dX3_step_52 rfl (lv_at hl 1 rfl) ?_
    refine lv_aload_n hx hb dX3_step_53 rfl (lv_at hl 0 rfl) ?_
    refine r_get X w CL3 1 (by decide) wf_X3_28 0 rfl rfl dX3_step_54 ?_
    refine r_cv w (r_runV (As := [.int ((upd z 3 ((z 3) + 1)) 0)]) (rest := []) X w (kX4_lift l E a (fX4_place (fX4_addStep σ ((upd z 3 ((z 3) + 1)) 0)) ((upd z 3 ((z 3) + 1)) 0) ce) ((upd z 3 ((z 3) + 1)) 0) ) ck_X3_107 ⟨Nat.le_of_ble_eq_true rfl, Nat.le_of_ble_eq_true rfl⟩ [2, 3, 4, 5, 6, 7, 8, 9, 10] (hc_38 (E := E)) (by decide +kernel) (k0 := 0) CL4 rfl hl.1 (Nat.le_of_ble_eq_true rfl) rfl dX3_step_57 ⟨Nat.le_of_ble_eq_true rfl, Nat.le_of_ble_eq_true rfl⟩) (wSh k j (upd z 3 ((z 3) + 1)) (fX3_slow z sp (σ 6 0)) ++ (wWk j (fX5_stepAhead d) ++ wSt E a (fX4_lift (fX4_place (fX4_addStep σ ((upd z 3 ((z 3) + 1)) 0)) ((upd z 3 ((z 3) + 1)) 0) ce) ((upd z 3 ((z 3) + 1)) 0)))) [2, 3, 4, 5, 6, 7, 8, 9, 10] (hc_38 (E := E)) (by decide +kernel) (ha_38 (E := E)) (hw_38 (E := E)) (fun H locs w => ?_)
    refine lv_aload_n hx hb dX3_step_60 rfl (lv_at hl 0 rfl) ?_
    refine lv_aload_n hx hb dX3_step_61 rfl (lv_at hl 0 rfl) ?_
    refine r_get X w CL3 1 (by decide) wf_X3_28 0 rfl rfl dX3_step_62 ?_
    refine r_put X w (wSh k j (upd (upd z 3 ((z 3) + 1)) 6 ((upd z 3 ((z 3) + 1)) 0)) (fX3_slow z sp (σ 6 0)) ++ (wWk j (fX5_stepAhead d) ++ wSt E a (fX4_lift (fX4_place (fX4_addStep σ ((upd z 3 ((z 3) + 1)) 0)) ((upd z 3 ((z 3) + 1)) 0) ce) ((upd z 3 ((z 3) + 1)) 0)))) CL3 8 (by decide) wf_X3_52 0 rfl rfl rfl rfl (Nat.le_of_ble_eq_true rfl) (ax_45 (E := E)) dX3_step_65 (fun H locs w => ?_)
    have hq : fX3_step z sp d σ ce = (upd (upd z 3 ((z 3) + 1)) 6 ((upd z 3 ((z 3) + 1)) 0), (fX3_slow z sp (σ 6 0)), (fX5_stepAhead d), (fX4_lift (fX4_place (fX4_addStep σ ((upd z 3 ((z 3) + 1)) 0)) ((upd z 3 ((z 3) + 1)) 0) ce) ((upd z 3 ((z 3) + 1)) 0))) := by simp only [fX3_step, if_neg c49_1]
    obtain ⟨h0_, h1_, h2_, h3_⟩ := tup4 hq
    rw [h0_, h1_, h2_, h3_]
    exact r_vret X w hr dX3_step_68
/-- one event of a shot -/
def plB (z : N1) (sp : UInt32) (d : N1) (σ : N2) : N1 × UInt32 × N1 × N2 := if fX5_cellAhead d = (-5) then fX3_bank z sp d σ else if fX4_ballOnCell σ (fX5_cellAhead d) = (-5) then fX3_step z sp d σ (fX5_cellAhead d) else fX3_hit z sp d σ (fX4_ballOnCell σ (fX5_cellAhead d))
def plN : Nat → N1 → UInt32 → N1 → N2 → N1 × UInt32 × N1 × N2
  | 0, z, sp, d, σ => (z, sp, d, σ)
  | n + 1, z, sp, d, σ => if (Op.cmpValue (FP.fcmp sp FP.fconst1) .l) < 0 then (z, sp, d, σ) else if z 6 = (-5) then plN n (plB z sp d σ).1 (plB z sp d σ).2.1 (plB z sp d σ).2.2.1 (plB z sp d σ).2.2.2 else (z, sp, d, σ)
/-- a shot's first numbers -/
def plZ (z : N1) (bl sn : Int32) : N1 := upd (upd (upd (upd (upd (upd (upd z 0 bl) 1 sn) 2 0) 3 0) 4 0) 5 0) 6 (-5)
def fX3_play (z : N1) (sp : UInt32) (d : N1) (σ : N2) (bl di sg sn : Int32) : N1 × UInt32 × N1 × N2 := plN 1000000 (plZ z bl sn) (FP.fdiv (FP.i2f sg) 1092616192) (fX5_startAt d (fX4_cellOfBall σ bl) di) σ
theorem addBank_6 (σ : N2) (b : Int32) : fX4_addBank σ b 6 = σ 6 := by unfold fX4_addBank; split <;> rfl
theorem addHit_6 (σ : N2) (b : Int32) : fX4_addHit σ b 6 = σ 6 := by unfold fX4_addHit; split <;> rfl
theorem addStep_6 (σ : N2) (b : Int32) : fX4_addStep σ b 6 = σ 6 := by unfold fX4_addStep; split <;> rfl
theorem lift_6 (σ : N2) (b : Int32) : fX4_lift σ b 6 = σ 6 := by
  unfold fX4_lift
  repeat' split
  all_goals rfl
theorem place_6 (σ : N2) (b c : Int32) : fX4_place σ b c 6 = σ 6 := by
  have h : (u2 (u2 (fX4_lift σ b) 0 b.toNatClampNeg c) 5 c.toNatClampNeg b) 6 = (fX4_lift σ b) 6 := rfl
  unfold fX4_place
  repeat' split
  · rfl
  · rfl
  · exact h.trans (lift_6 σ b)
theorem bank_g {z : N1} {sp : UInt32} {d : N1} {σ : N2} (hv : gV sp) (hs : gset σ) : gW (fX3_bank z sp d σ).2.1 ∧ gset (fX3_bank z sp d σ).2.2.2 := by
  have h1 : gW (fX3_slow z sp (σ 6 1)) := slow_gW hv (hs 1 (by decide))
  unfold fX3_bank
  split
  · exact ⟨h1, fun i hi => by show gK (fX4_addBank σ _ 6 i); rw [addBank_6]; exact hs i hi⟩
  · exact ⟨h1, fun i hi => by show gK (fX4_addBank σ _ 6 i); rw [addBank_6]; exact hs i hi⟩
theorem hit_g {z : N1} {sp : UInt32} {d : N1} {σ : N2} {ot : Int32} (hv : gV sp) (hs : gset σ) : gW (fX3_hit z sp d σ ot).2.1 ∧ gset (fX3_hit z sp d σ ot).2.2.2 := by
  have h1 : gW (fX3_slow z sp (σ 6 2)) := slow_gW hv (hs 2 (by decide))
  unfold fX3_hit
  exact ⟨h1, fun i hi => by show gK (fX4_addHit σ _ 6 i); rw [addHit_6]; exact hs i hi⟩
theorem step_g {z : N1} {sp : UInt32} {d : N1} {σ : N2} {ce : Int32} (hv : gV sp) (hs : gset σ) : gW (fX3_step z sp d σ ce).2.1 ∧ gset (fX3_step z sp d σ ce).2.2.2 := by
  have h1 : gW (fX3_slow z sp (σ 6 0)) := slow_gW hv (hs 0 (by decide))
  unfold fX3_step
  split
  · exact ⟨h1, fun i hi => by show gK (fX4_place (fX4_addStep σ _) _ _ 6 i); rw [place_6, addStep_6]; exact hs i hi⟩
  · exact ⟨h1, fun i hi => by show gK (fX4_lift (fX4_place (fX4_addStep σ _) _ _) _ 6 i); rw [lift_6, place_6, addStep_6]; exact hs i hi⟩
theorem dX3_play_0 : decode cX3_play 0 = .ok (.aload_n 0, 1) := by decide +kernel
theorem dX3_play_1 : decode cX3_play 1 = .ok (.getfield 12, 3) := by decide +kernel
theorem dX3_play_4 : decode cX3_play 4 = .ok (.aload_n 1, 1) := by decide +kernel
theorem dX3_play_5 : decode cX3_play 5 = .ok (.iload_n 2, 1) := by decide +kernel
theorem dX3_play_6 : decode cX3_play 6 = .ok (.invokevirtual 18, 3) := by decide +kernel
theorem dX3_play_9 : decode cX3_play 9 = .ok (.iload_n 3, 1) := by decide +kernel
theorem dX3_play_10 : decode cX3_play 10 = .ok (.invokevirtual 24, 3) := by decide +kernel
theorem dX3_play_13 : decode cX3_play 13 = .ok (.aload_n 0, 1) := by decide +kernel
theorem dX3_play_14 : decode cX3_play 14 = .ok (.iload_n 2, 1) := by decide +kernel
theorem dX3_play_15 : decode cX3_play 15 = .ok (.putfield 28, 3) := by decide +kernel
theorem dX3_play_18 : decode cX3_play 18 = .ok (.aload_n 0, 1) := by decide +kernel
theorem dX3_play_19 : decode cX3_play 19 = .ok (.iload 4, 2) := by decide +kernel
theorem dX3_play_21 : decode cX3_play 21 = .ok (.i2f, 1) := by decide +kernel
theorem dX3_play_22 : decode cX3_play 22 = .ok (.ldc 32, 2) := by decide +kernel
theorem dX3_play_24 : decode cX3_play 24 = .ok (.fdiv, 1) := by decide +kernel
theorem dX3_play_25 : decode cX3_play 25 = .ok (.putfield 33, 3) := by decide +kernel
theorem dX3_play_28 : decode cX3_play 28 = .ok (.aload_n 0, 1) := by decide +kernel
theorem dX3_play_29 : decode cX3_play 29 = .ok (.iload 5, 2) := by decide +kernel
theorem dX3_play_31 : decode cX3_play 31 = .ok (.putfield 37, 3) := by decide +kernel
theorem dX3_play_34 : decode cX3_play 34 = .ok (.aload_n 0, 1) := by decide +kernel
theorem dX3_play_35 : decode cX3_play 35 = .ok (.iconst 0, 1) := by decide +kernel
theorem dX3_play_36 : decode cX3_play 36 = .ok (.putfield 40, 3) := by decide +kernel
theorem dX3_play_39 : decode cX3_play 39 = .ok (.aload_n 0, 1) := by decide +kernel
theorem dX3_play_40 : decode cX3_play 40 = .ok (.iconst 0, 1) := by decide +kernel
theorem dX3_play_41 : decode cX3_play 41 = .ok (.putfield 43, 3) := by decide +kernel
theorem dX3_play_44 : decode cX3_play 44 = .ok (.aload_n 0, 1) := by decide +kernel
theorem dX3_play_45 : decode cX3_play 45 = .ok (.iconst 0, 1) := by decide +kernel
theorem dX3_play_46 : decode cX3_play 46 = .ok (.putfield 46, 3) := by decide +kernel
theorem dX3_play_49 : decode cX3_play 49 = .ok (.aload_n 0, 1) := by decide +kernel
theorem dX3_play_50 : decode cX3_play 50 = .ok (.iconst 0, 1) := by decide +kernel
theorem dX3_play_51 : decode cX3_play 51 = .ok (.putfield 49, 3) := by decide +kernel
theorem dX3_play_54 : decode cX3_play 54 = .ok (.aload_n 0, 1) := by decide +kernel
theorem dX3_play_55 : decode cX3_play 55 = .ok (.bipush (-5), 2) := by decide +kernel
theorem dX3_play_57 : decode cX3_play 57 = .ok (.putfield 52, 3) := by decide +kernel
theorem dX3_play_60 : decode cX3_play 60 = .ok (.iconst 0, 1) := by decide +kernel
theorem dX3_play_61 : decode cX3_play 61 = .ok (.istore 6, 2) := by decide +kernel
theorem dX3_play_63 : decode cX3_play 63 = .ok (.iload 6, 2) := by decide +kernel
theorem dX3_play_65 : decode cX3_play 65 = .ok (.ldc 55, 2) := by decide +kernel
theorem dX3_play_67 : decode cX3_play 67 = .ok (.if_icmp .ge 83, 3) := by decide +kernel
theorem dX3_play_70 : decode cX3_play 70 = .ok (.aload_n 0, 1) := by decide +kernel
theorem dX3_play_71 : decode cX3_play 71 = .ok (.getfield 33, 3) := by decide +kernel
theorem dX3_play_74 : decode cX3_play 74 = .ok (.fconst 1, 1) := by decide +kernel
theorem dX3_play_75 : decode cX3_play 75 = .ok (.fcmp .l, 1) := by decide +kernel
theorem dX3_play_76 : decode cX3_play 76 = .ok (.ifCond .lt 74, 3) := by decide +kernel
theorem dX3_play_79 : decode cX3_play 79 = .ok (.aload_n 0, 1) := by decide +kernel
theorem dX3_play_80 : decode cX3_play 80 = .ok (.getfield 52, 3) := by decide +kernel
theorem dX3_play_83 : decode cX3_play 83 = .ok (.bipush (-5), 2) := by decide +kernel
theorem dX3_play_85 : decode cX3_play 85 = .ok (.if_icmp .ne 65, 3) := by decide +kernel
theorem dX3_play_88 : decode cX3_play 88 = .ok (.aload_n 0, 1) := by decide +kernel
theorem dX3_play_89 : decode cX3_play 89 = .ok (.getfield 12, 3) := by decide +kernel
theorem dX3_play_92 : decode cX3_play 92 = .ok (.invokevirtual 56, 3) := by decide +kernel
theorem dX3_play_95 : decode cX3_play 95 = .ok (.istore 7, 2) := by decide +kernel
theorem dX3_play_97 : decode cX3_play 97 = .ok (.aload_n 1, 1) := by decide +kernel
theorem dX3_play_98 : decode cX3_play 98 = .ok (.iload 7, 2) := by decide +kernel
theorem dX3_play_100 : decode cX3_play 100 = .ok (.invokevirtual 60, 3) := by decide +kernel
theorem dX3_play_103 : decode cX3_play 103 = .ok (.istore 8, 2) := by decide +kernel
theorem dX3_play_105 : decode cX3_play 105 = .ok (.iload 7, 2) := by decide +kernel
theorem dX3_play_107 : decode cX3_play 107 = .ok (.bipush (-5), 2) := by decide +kernel
theorem dX3_play_109 : decode cX3_play 109 = .ok (.if_icmp .ne 11, 3) := by decide +kernel
theorem dX3_play_112 : decode cX3_play 112 = .ok (.aload_n 0, 1) := by decide +kernel
theorem dX3_play_113 : decode cX3_play 113 = .ok (.aload_n 1, 1) := by decide +kernel
theorem dX3_play_114 : decode cX3_play 114 = .ok (.invokevirtual 63, 3) := by decide +kernel
theorem dX3_play_117 : decode cX3_play 117 = .ok (.goto 27, 3) := by decide +kernel
theorem dX3_play_120 : decode cX3_play 120 = .ok (.iload 8, 2) := by decide +kernel
theorem dX3_play_122 : decode cX3_play 122 = .ok (.bipush (-5), 2) := by decide +kernel
theorem dX3_play_124 : decode cX3_play 124 = .ok (.if_icmp .ne 13, 3) := by decide +kernel
theorem dX3_play_127 : decode cX3_play 127 = .ok (.aload_n 0, 1) := by decide +kernel
theorem dX3_play_128 : decode cX3_play 128 = .ok (.aload_n 1, 1) := by decide +kernel
theorem dX3_play_129 : decode cX3_play 129 = .ok (.iload 7, 2) := by decide +kernel
theorem dX3_play_131 : decode cX3_play 131 = .ok (.invokevirtual 67, 3) := by decide +kernel
theorem dX3_play_134 : decode cX3_play 134 = .ok (.goto 10, 3) := by decide +kernel
theorem dX3_play_137 : decode cX3_play 137 = .ok (.aload_n 0, 1) := by decide +kernel
theorem dX3_play_138 : decode cX3_play 138 = .ok (.aload_n 1, 1) := by decide +kernel
theorem dX3_play_139 : decode cX3_play 139 = .ok (.iload 8, 2) := by decide +kernel
theorem dX3_play_141 : decode cX3_play 141 = .ok (.invokevirtual 71, 3) := by decide +kernel
theorem dX3_play_144 : decode cX3_play 144 = .ok (.iinc 6 1, 3) := by decide +kernel
theorem dX3_play_147 : decode cX3_play 147 = .ok (.goto (-84), 3) := by decide +kernel
theorem dX3_play_150 : decode cX3_play 150 = .ok (.return_, 1) := by decide +kernel
theorem ck_X3_18 : CkV RX3 18 RX4 yX4_cellOfBall cX4_cellOfBall 2 (some .int) 1 := ⟨wm_X3_18, wim_yX4_cellOfBall, wse_yX4_cellOfBall, wi_X4, wc_yX4_cellOfBall, by decide +kernel⟩
theorem ck_X3_24 : CkV RX3 24 RX5 yX5_startAt cX5_startAt 3 none 2 := ⟨wm_X3_24, wim_yX5_startAt, wse_yX5_startAt, wi_X5, wc_yX5_startAt, by decide +kernel⟩
theorem ck_X3_56 : CkV RX3 56 RX5 yX5_cellAhead cX5_cellAhead 1 (some .int) 0 := ⟨wm_X3_56, wim_yX5_cellAhead, wse_yX5_cellAhead, wi_X5, wc_yX5_cellAhead, by decide +kernel⟩
theorem ck_X3_60 : CkV RX3 60 RX4 yX4_ballOnCell cX4_ballOnCell 2 (some .int) 1 := ⟨wm_X3_60, wim_yX4_ballOnCell, wse_yX4_ballOnCell, wi_X4, wc_yX4_ballOnCell, by decide +kernel⟩
theorem ck_X3_63 : CkV RX3 63 RX3 yX3_bank cX3_bank 2 none 1 := ⟨wm_X3_63, wim_yX3_bank, wse_yX3_bank, wi_X3, wc_yX3_bank, by decide +kernel⟩
theorem ck_X3_67 : CkV RX3 67 RX3 yX3_step cX3_step 3 none 2 := ⟨wm_X3_67, wim_yX3_step, wse_yX3_step, wi_X3, wc_yX3_step, by decide +kernel⟩
theorem ck_X3_71 : CkV RX3 71 RX3 yX3_hit cX3_hit 3 none 2 := ⟨wm_X3_71, wim_yX3_hit, wse_yX3_hit, wi_X3, wc_yX3_hit, by decide +kernel⟩
theorem ax_46 {E : Ev} {a0 j0 : Nat} {σ0 : N1} {v0 : UInt32} {a1 : Nat} {σ1 : N1} {a2 : Nat → Nat} {σ2 : N2} {x : UInt32} : (wSh a0 j0 σ0 v0 ++ (wWk a1 σ1 ++ wSt E a2 σ2)).set 0 (a0, .inr (2, ([.ref j0, .int (σ0 0), .float v0, .int (σ0 1), .int (σ0 2), .int (σ0 3), .int (σ0 4), .int (σ0 5), .int (σ0 6)] : List Value).set 2 (.float x))) = wSh a0 j0 σ0 x ++ (wWk a1 σ1 ++ wSt E a2 σ2) := rfl
theorem hc_47 {E : Ev} {a0 j0 : Nat} {σ0 : N1} {v0 : UInt32} {a1 : Nat} {σ1 : N1} {a2 : Nat → Nat} {σ2 : N2} : ([0, 1, 2, 3, 4, 5, 6, 7, 8, 9, 10] : List Nat).map (fun i => (wSh a0 j0 σ0 v0 ++ (wWk a1 σ1 ++ wSt E a2 σ2))[i]?) = (wSh a0 j0 σ0 v0 ++ (wWk a1 σ1 ++ wSt E a2 σ2)).map some := rfl
theorem ha_47 {E : Ev} {a0 j0 : Nat} {σ0 : N1} {v0 : UInt32} {a1 : Nat} {σ1 : N1} {a2 : Nat → Nat} {σ2 : N2} {τ0_0 : N1} {τ0_1 : UInt32} {τ1_0 : N1} {τ2_0 : N2} : (wSh a0 j0 τ0_0 τ0_1 ++ (wWk a1 τ1_0 ++ wSt E a2 τ2_0)).map Prod.fst = (wSh a0 j0 σ0 v0 ++ (wWk a1 σ1 ++ wSt E a2 σ2)).map Prod.fst := rfl
theorem hw_47 {E : Ev} {a0 j0 : Nat} {σ0 : N1} {v0 : UInt32} {a1 : Nat} {σ1 : N1} {a2 : Nat → Nat} {σ2 : N2} {τ0_0 : N1} {τ0_1 : UInt32} {τ1_0 : N1} {τ2_0 : N2} : wput (wSh a0 j0 σ0 v0 ++ (wWk a1 σ1 ++ wSt E a2 σ2)) [0, 1, 2, 3, 4, 5, 6, 7, 8, 9, 10] (wSh a0 j0 τ0_0 τ0_1 ++ (wWk a1 τ1_0 ++ wSt E a2 τ2_0)) = wSh a0 j0 τ0_0 τ0_1 ++ (wWk a1 τ1_0 ++ wSt E a2 τ2_0) := rfl
set_option maxHeartbeats 4000000 in
set_option maxRecDepth 100000 in
theorem kX3_play (l : Launch) (E : Ev) (k : Nat) (j : Nat) (z : N1) (sp : UInt32) (d : N1) (a : Nat → Nat) (σ : N2) (bl : Int32) (di : Int32) (sg : Int32) (sn : Int32) (hs : gset σ) (hg : 10 ≤ sg.toInt ∧ sg.toInt ≤ 999) : KQ l yX3_play cX3_play 9 none 4 91 E [.ref k, .ref (a 0), .int bl, .int di, .int sg, .int sn] (wSh k j z sp ++ (wWk j d ++ wSt E a σ)) (QV E (wSh k j z sp ++ (wWk j d ++ wSt E a σ)) (wSh k j ((fX3_play z sp d σ bl di sg sn).1) ((fX3_play z sp d σ bl di sg sn).2.1) ++ (wWk j ((fX3_play z sp d σ bl di sg sn).2.2.1) ++ wSt E a ((fX3_play z sp d σ bl di sg sn).2.2.2)))) := by
  refine KQ.mk RX3 rfl (by decide +kernel) (Nat.le_of_ble_eq_true rfl) ?_
  intro p e s m below meth c ls X hr w hl
  have hx := X.1
  have hb := X.2.1
  have hl : lv_has ls 9 [(0, .ref k), (1, .ref (a 0)), (2, .int bl), (3, .int di), (4, .int sg), (5, .int sn)] := hl
  refine lv_aload_n hx hb dX3_play_0 rfl (lv_at hl 0 rfl) ?_
  refine r_get X w CL3 0 (by decide) wf_X3_12 0 rfl rfl dX3_play_1 ?_
  refine lv_aload_n hx hb dX3_play_4 rfl (lv_at hl 1 rfl) ?_
  refine lv_iload_n hx hb dX3_play_5 rfl (lv_at hl 2 rfl) ?_
  refine r_ci w (r_runV (As := [.int bl]) (rest := [.ref j]) X w (kX4_cellOfBall l E a σ bl ) ck_X3_18 ⟨Nat.le_of_ble_eq_true rfl, Nat.le_of_ble_eq_true rfl⟩ [2, 3, 4, 5, 6, 7, 8, 9, 10] (hc_38 (E := E)) (by decide +kernel) (k0 := 0) CL4 rfl hl.1 (Nat.le_of_ble_eq_true rfl) rfl dX3_play_6 ⟨Nat.le_of_ble_eq_true rfl, Nat.le_of_ble_eq_true rfl⟩) (wSh k j z sp ++ (wWk j d ++ wSt E a σ)) [2, 3, 4, 5, 6, 7, 8, 9, 10] (hc_38 (E := E)) (by decide +kernel) (ha_38 (E := E)) (hw_38 (E := E)) (fun H locs w => ?_)
  refine lv_iload_n hx hb dX3_play_9 rfl (lv_at hl 3 rfl) ?_
  refine r_cv w (r_runV (As := [.int (fX4_cellOfBall σ bl), .int di]) (rest := []) X w (kX5_startAt l E j d (fX4_cellOfBall σ bl) di ) ck_X3_24 ⟨Nat.le_of_ble_eq_true rfl, Nat.le_of_ble_eq_true rfl⟩ [1] (hc_39 (E := E)) (by decide +kernel) (k0 := 0) CL5 rfl hl.1 (Nat.le_of_ble_eq_true rfl) rfl dX3_play_10 ⟨Nat.le_of_ble_eq_true rfl, Nat.le_of_ble_eq_true rfl⟩) (wSh k j z sp ++ (wWk j (fX5_startAt d (fX4_cellOfBall σ bl) di) ++ wSt E a σ)) [1] (hc_39 (E := E)) (by decide +kernel) (ha_39 (E := E)) (hw_39 (E := E)) (fun H locs w => ?_)
  refine lv_aload_n hx hb dX3_play_13 rfl (lv_at hl 0 rfl) ?_
  refine lv_iload_n hx hb dX3_play_14 rfl (lv_at hl 2 rfl) ?_
  refine r_put X w (wSh k j (upd z 0 bl) sp ++ (wWk j (fX5_startAt d (fX4_cellOfBall σ bl) di) ++ wSt E a σ)) CL3 1 (by decide) wf_X3_28 0 rfl rfl rfl rfl (Nat.le_of_ble_eq_true rfl) (ax_42 (E := E)) dX3_play_15 (fun H locs w => ?_)
  refine lv_aload_n hx hb dX3_play_18 rfl (lv_at hl 0 rfl) ?_
  refine lv_iload hx hb dX3_play_19 (lv_at hl 4 rfl) ?_
  refine lv_i2f hx hb dX3_play_21 ?_
  refine r_ldcf X wk_X3_32 dX3_play_22 ?_
  refine lv_fdiv hx hb dX3_play_24 (gV_n32 (first_gV hg.1 hg.2)) ?_
  refine r_put X w (wSh k j (upd z 0 bl) (FP.fdiv (FP.i2f sg) 1092616192) ++ (wWk j (fX5_startAt d (fX4_cellOfBall σ bl) di) ++ wSt E a σ)) CL3 2 (by decide) wf_X3_33 0 rfl rfl rfl rfl (Nat.le_of_ble_eq_true rfl) (ax_46 (E := E)) dX3_play_25 (fun H locs w => ?_)
  refine lv_aload_n hx hb dX3_play_28 rfl (lv_at hl 0 rfl) ?_
  refine lv_iload hx hb dX3_play_29 (lv_at hl 5 rfl) ?_
  refine r_put X w (wSh k j (upd (upd z 0 bl) 1 sn) (FP.fdiv (FP.i2f sg) 1092616192) ++ (wWk j (fX5_startAt d (fX4_cellOfBall σ bl) di) ++ wSt E a σ)) CL3 3 (by decide) wf_X3_37 0 rfl rfl rfl rfl (Nat.le_of_ble_eq_true rfl) (ax_43 (E := E)) dX3_play_31 (fun H locs w => ?_)
  refine lv_aload_n hx hb dX3_play_34 rfl (lv_at hl 0 rfl) ?_
  refine lv_iconst (v := 0) hx hb dX3_play_35 (by decide) ?_
  refine r_put X w (wSh k j (upd (upd (upd z 0 bl) 1 sn) 2 0) (FP.fdiv (FP.i2f sg) 1092616192) ++ (wWk j (fX5_startAt d (fX4_cellOfBall σ bl) di) ++ wSt E a σ)) CL3 4 (by decide) wf_X3_40 0 rfl rfl rfl rfl (Nat.le_of_ble_eq_true rfl) (ax_40 (E := E)) dX3_play_36 (fun H locs w => ?_)
  refine lv_aload_n hx hb dX3_play_39 rfl (lv_at hl 0 rfl) ?_
  refine lv_iconst (v := 0) hx hb dX3_play_40 (by decide) ?_
  refine r_put X w (wSh k j (upd (upd (upd (upd z 0 bl) 1 sn) 2 0) 3 0) (FP.fdiv (FP.i2f sg) 1092616192) ++ (wWk j (fX5_startAt d (fX4_cellOfBall σ bl) di) ++ wSt E a σ)) CL3 5 (by decide) wf_X3_43 0 rfl rfl rfl rfl (Nat.le_of_ble_eq_true rfl) (ax_44 (E := E)) dX3_play_41 (fun H locs w => ?_)
  refine lv_aload_n hx hb dX3_play_44 rfl (lv_at hl 0 rfl) ?_
  refine lv_iconst (v := 0) hx hb dX3_play_45 (by decide) ?_
  refine r_put X w (wSh k j (upd (upd (upd (upd (upd z 0 bl) 1 sn) 2 0) 3 0) 4 0) (FP.fdiv (FP.i2f sg) 1092616192) ++ (wWk j (fX5_startAt d (fX4_cellOfBall σ bl) di) ++ wSt E a σ)) CL3 6 (by decide) wf_X3_46 0 rfl rfl rfl rfl (Nat.le_of_ble_eq_true rfl) (ax_37 (E := E)) dX3_play_46 (fun H locs w => ?_)
  refine lv_aload_n hx hb dX3_play_49 rfl (lv_at hl 0 rfl) ?_
  refine lv_iconst (v := 0) hx hb dX3_play_50 (by decide) ?_
  refine r_put X w (wSh k j (upd (upd (upd (upd (upd (upd z 0 bl) 1 sn) 2 0) 3 0) 4 0) 5 0) (FP.fdiv (FP.i2f sg) 1092616192) ++ (wWk j (fX5_startAt d (fX4_cellOfBall σ bl) di) ++ wSt E a σ)) CL3 7 (by decide) wf_X3_49 0 rfl rfl rfl rfl (Nat.le_of_ble_eq_true rfl) (ax_41 (E := E)) dX3_play_51 (fun H locs w => ?_)
  refine lv_aload_n hx hb dX3_play_54 rfl (lv_at hl 0 rfl) ?_
  refine lv_bipush (v := (-5)) hx hb dX3_play_55 (by decide) ?_
  refine r_put X w (wSh k j (upd (upd (upd (upd (upd (upd (upd z 0 bl) 1 sn) 2 0) 3 0) 4 0) 5 0) 6 (-5)) (FP.fdiv (FP.i2f sg) 1092616192) ++ (wWk j (fX5_startAt d (fX4_cellOfBall σ bl) di) ++ wSt E a σ)) CL3 8 (by decide) wf_X3_52 0 rfl rfl rfl rfl (Nat.le_of_ble_eq_true rfl) (ax_45 (E := E)) dX3_play_57 (fun H locs w => ?_)
  refine lv_iconst (v := 0) hx hb dX3_play_60 (by decide) ?_
  refine lv_istore (lv' := [(6, .int 0), (0, .ref k), (1, .ref (a 0)), (2, .int bl), (3, .int di), (4, .int sg), (5, .int sn)]) hx hb dX3_play_61 hl (by decide) rfl (fun ls hl => ?_)
  have loop : ∀ (n i : Nat), i + n = 1000000 → ∀ (z1 : N1) (sp1 : UInt32) (d1 : N1) (σ1 : N2), gW sp1 → gset σ1 → plN n z1 sp1 d1 σ1 = fX3_play z sp d σ bl di sg sn → ∀ (H : Heap) (locs : List Loc), Wd E (hB (wSh k j z sp ++ (wWk j d ++ wSt E a σ))) s (wSh k j z1 sp1 ++ (wWk j d1 ++ wSt E a σ1)) H locs → ∀ (ls : Array Slot), lv_has ls 9 [(6, .int (nI i)), (0, .ref k), (1, .ref (a 0)), (2, .int bl), (3, .int di), (4, .int sg), (5, .int sn)] → W p l e { frames := 4, cells := 0, slots := 0, locals := 91 } s m (([.ref k, .ref (a 0), .int bl, .int di, .int sg, .int sn] : List Value)).toArray below meth c H locs 0 0 (MQ below (QV E (wSh k j z sp ++ (wWk j d ++ wSt E a σ)) (wSh k j ((fX3_play z sp d σ bl di sg sn).1) ((fX3_play z sp d σ bl di sg sn).2.1) ++ (wWk j ((fX3_play z sp d σ bl di sg sn).2.2.1) ++ wSt E a ((fX3_play z sp d σ bl di sg sn).2.2.2)))) (([.ref k, .ref (a 0), .int bl, .int di, .int sg, .int sn] : List Value)).toArray s 0 0 (hB (wSh k j z sp ++ (wWk j d ++ wSt E a σ)))) (F0 m 63 ls []) := by
    intro n
    induction n with
    | zero =>
      intro i hk_i z1 sp1 d1 σ1 hW hs1 hR H locs w ls hl
      obtain rfl : i = 1000000 := by omega
      refine lv_iload hx hb dX3_play_63 (lv_at hl 0 rfl) ?_
      refine r_ldci X wk_X3_55 dX3_play_65 ?_
      refine lv_icmp_ge (tgt := 150) hx hb dX3_play_67 (by decide) (fun _ => ?_) (fun h => absurd (by decide : (1000000 : Int32) ≤ nI 1000000) h)
      have hq : fX3_play z sp d σ bl di sg sn = (z1, sp1, d1, σ1) := by rw [← hR]; simp only [plN]
      obtain ⟨h0_, h1_, h2_, h3_⟩ := tup4 hq
      rw [h0_, h1_, h2_, h3_]
      exact r_vret X w hr dX3_play_150
    | succ n ih =>
      intro i hk_i z1 sp1 d1 σ1 hW hs1 hR H locs w ls hl
      have hkN : i < 1000000 := by omega
      refine lv_iload hx hb dX3_play_63 (lv_at hl 0 rfl) ?_
      refine r_ldci X wk_X3_55 dX3_play_65 ?_
      refine lv_icmp_ge (tgt := 150) hx hb dX3_play_67 (by decide) (fun h => absurd h (nI_ge (b := 1000000) hkN (by decide))) (fun _ => ?_)
      refine lv_aload_n hx hb dX3_play_70 rfl (lv_at hl 1 rfl) ?_
      refine r_get X w CL3 2 (by decide) wf_X3_33 0 rfl rfl dX3_play_71 ?_
      refine lv_fconst1 hx hb dX3_play_74 ?_
      refine lv_fcmp hx hb dX3_play_75 ?_
      refine lv_if_lt (tgt := 150) hx hb dX3_play_76 (by decide) (fun c76_3 => ?_) (fun c76_3 => ?_)
      · have hq : fX3_play z sp d σ bl di sg sn = (z1, sp1, d1, σ1) := by rw [← hR]; simp only [plN, if_pos c76_3]
        obtain ⟨h0_, h1_, h2_, h3_⟩ := tup4 hq
        rw [h0_, h1_, h2_, h3_]
        exact r_vret X w hr dX3_play_150
      · refine lv_aload_n hx hb dX3_play_79 rfl (lv_at hl 1 rfl) ?_
        refine r_get X w CL3 8 (by decide) wf_X3_52 0 rfl rfl dX3_play_80 ?_
        refine lv_bipush (v := (-5)) hx hb dX3_play_83 (by decide) ?_
        refine lv_icmp_ne (tgt := 150) hx hb dX3_play_85 (by decide) (fun c85_4 => ?_) (fun c85_4 => ?_)
        · have hq : fX3_play z sp d σ bl di sg sn = (z1, sp1, d1, σ1) := by rw [← hR]; simp only [plN, if_neg c76_3, if_neg c85_4]
          obtain ⟨h0_, h1_, h2_, h3_⟩ := tup4 hq
          rw [h0_, h1_, h2_, h3_]
          exact r_vret X w hr dX3_play_150
        · refine lv_aload_n hx hb dX3_play_88 rfl (lv_at hl 1 rfl) ?_
          refine r_get X w CL3 0 (by decide) wf_X3_12 0 rfl rfl dX3_play_89 ?_
          refine r_ci w (r_runV (As := []) (rest := []) X w (kX5_cellAhead l E j d1 ) ck_X3_56 ⟨Nat.le_of_ble_eq_true rfl, Nat.le_of_ble_eq_true rfl⟩ [1] (hc_39 (E := E)) (by decide +kernel) (k0 := 0) CL5 rfl hl.1 (Nat.le_of_ble_eq_true rfl) rfl dX3_play_92 ⟨Nat.le_of_ble_eq_true rfl, Nat.le_of_ble_eq_true rfl⟩) (wSh k j z1 sp1 ++ (wWk j d1 ++ wSt E a σ1)) [1] (hc_39 (E := E)) (by decide +kernel) (ha_39 (E := E)) (hw_39 (E := E)) (fun H locs w => ?_)
          refine lv_istore (lv' := [(7, .int (fX5_cellAhead d1)), (6, .int (nI i)), (0, .ref k), (1, .ref (a 0)), (2, .int bl), (3, .int di), (4, .int sg), (5, .int sn)]) hx hb dX3_play_95 hl (by decide) rfl (fun ls hl => ?_)
          refine lv_aload_n hx hb dX3_play_97 rfl (lv_at hl 3 rfl) ?_
          refine lv_iload hx hb dX3_play_98 (lv_at hl 0 rfl) ?_
          refine r_ci w (r_runV (As := [.int (fX5_cellAhead d1)]) (rest := []) X w (kX4_ballOnCell l E a σ1 (fX5_cellAhead d1) ) ck_X3_60 ⟨Nat.le_of_ble_eq_true rfl, Nat.le_of_ble_eq_true rfl⟩ [2, 3, 4, 5, 6, 7, 8, 9, 10] (hc_38 (E := E)) (by decide +kernel) (k0 := 0) CL4 rfl hl.1 (Nat.le_of_ble_eq_true rfl) rfl dX3_play_100 ⟨Nat.le_of_ble_eq_true rfl, Nat.le_of_ble_eq_true rfl⟩) (wSh k j z1 sp1 ++ (wWk j d1 ++ wSt E a σ1)) [2, 3, 4, 5, 6, 7, 8, 9, 10] (hc_38 (E := E)) (by decide +kernel) (ha_38 (E := E)) (hw_38 (E := E)) (fun H locs w => ?_)
          refine lv_istore (lv' := [(8, .int (fX4_ballOnCell σ1 (fX5_cellAhead d1))), (7, .int (fX5_cellAhead d1)), (6, .int (nI i)), (0, .ref k), (1, .ref (a 0)), (2, .int bl), (3, .int di), (4, .int sg), (5, .int sn)]) hx hb dX3_play_103 hl (by decide) rfl (fun ls hl => ?_)
          refine lv_iload hx hb dX3_play_105 (lv_at hl 1 rfl) ?_
          refine lv_bipush (v := (-5)) hx hb dX3_play_107 (by decide) ?_
          refine lv_icmp_ne (tgt := 120) hx hb dX3_play_109 (by decide) (fun c109_5 => ?_) (fun c109_5 => ?_)
          · refine lv_iload hx hb dX3_play_120 (lv_at hl 0 rfl) ?_
            refine lv_bipush (v := (-5)) hx hb dX3_play_122 (by decide) ?_
            refine lv_icmp_ne (tgt := 137) hx hb dX3_play_124 (by decide) (fun c124_6 => ?_) (fun c124_6 => ?_)
            · refine lv_aload_n hx hb dX3_play_137 rfl (lv_at hl 3 rfl) ?_
              refine lv_aload_n hx hb dX3_play_138 rfl (lv_at hl 4 rfl) ?_
              refine lv_iload hx hb dX3_play_139 (lv_at hl 0 rfl) ?_
              refine r_cv w (r_runV (As := [.ref (a 0), .int (fX4_ballOnCell σ1 (fX5_cellAhead d1))]) (rest := []) X w (kX3_hit l E k j z1 sp1 d1 a σ1 (fX4_ballOnCell σ1 (fX5_cellAhead d1)) ((cmp_gV hW).mp c76_3) hs1) ck_X3_71 ⟨Nat.le_of_ble_eq_true rfl, Nat.le_of_ble_eq_true rfl⟩ [0, 1, 2, 3, 4, 5, 6, 7, 8, 9, 10] (hc_47 (E := E)) (by decide +kernel) (k0 := 0) CL3 rfl hl.1 (Nat.le_of_ble_eq_true rfl) rfl dX3_play_141 ⟨Nat.le_of_ble_eq_true rfl, Nat.le_of_ble_eq_true rfl⟩) (wSh k j ((fX3_hit z1 sp1 d1 σ1 (fX4_ballOnCell σ1 (fX5_cellAhead d1))).1) ((fX3_hit z1 sp1 d1 σ1 (fX4_ballOnCell σ1 (fX5_cellAhead d1))).2.1) ++ (wWk j ((fX3_hit z1 sp1 d1 σ1 (fX4_ballOnCell σ1 (fX5_cellAhead d1))).2.2.1) ++ wSt E a ((fX3_hit z1 sp1 d1 σ1 (fX4_ballOnCell σ1 (fX5_cellAhead d1))).2.2.2))) [0, 1, 2, 3, 4, 5, 6, 7, 8, 9, 10] (hc_47 (E := E)) (by decide +kernel) (ha_47 (E := E)) (hw_47 (E := E)) (fun H locs w => ?_)
              refine lv_iinc (v := (nI i) + 1) (lv' := [(6, .int ((nI i) + 1)), (8, .int (fX4_ballOnCell σ1 (fX5_cellAhead d1))), (7, .int (fX5_cellAhead d1)), (0, .ref k), (1, .ref (a 0)), (2, .int bl), (3, .int di), (4, .int sg), (5, .int sn)]) hx hb dX3_play_144 hl (k := 2) rfl (by first | rfl | decide) (by decide) rfl (fun ls hl => ?_)
              refine lv_goto (tgt := 63) hx hb dX3_play_147 (by decide) ?_
              have e0 : nI i + 1 = nI (i + 1) := nI_1 i
              rw [e0] at hl
              exact ih (i + 1) (by omega) _ _ _ _ (hit_g ((cmp_gV hW).mp c76_3) hs1).1 (hit_g ((cmp_gV hW).mp c76_3) hs1).2 (by rw [← hR]; simp only [plN, plB, if_neg c76_3, if_pos c85_4, if_neg c109_5, if_neg c124_6]) _ _ w ls (lv_sub hl [0, 3, 4, 5, 6, 7, 8] rfl)
            · refine lv_aload_n hx hb dX3_play_127 rfl (lv_at hl 3 rfl) ?_
              refine lv_aload_n hx hb dX3_play_128 rfl (lv_at hl 4 rfl) ?_
              refine lv_iload hx hb dX3_play_129 (lv_at hl 1 rfl) ?_
              refine r_cv w (r_runV (As := [.ref (a 0), .int (fX5_cellAhead d1)]) (rest := []) X w (kX3_step l E k j z1 sp1 d1 a σ1 (fX5_cellAhead d1) ((cmp_gV hW).mp c76_3) hs1) ck_X3_67 ⟨Nat.le_of_ble_eq_true rfl, Nat.le_of_ble_eq_true rfl⟩ [0, 1, 2, 3, 4, 5, 6, 7, 8, 9, 10] (hc_47 (E := E)) (by decide +kernel) (k0 := 0) CL3 rfl hl.1 (Nat.le_of_ble_eq_true rfl) rfl dX3_play_131 ⟨Nat.le_of_ble_eq_true rfl, Nat.le_of_ble_eq_true rfl⟩) (wSh k j ((fX3_step z1 sp1 d1 σ1 (fX5_cellAhead d1)).1) ((fX3_step z1 sp1 d1 σ1 (fX5_cellAhead d1)).2.1) ++ (wWk j ((fX3_step z1 sp1 d1 σ1 (fX5_cellAhead d1)).2.2.1) ++ wSt E a ((fX3_step z1 sp1 d1 σ1 (fX5_cellAhead d1)).2.2.2))) [0, 1, 2, 3, 4, 5, 6, 7, 8, 9, 10] (hc_47 (E := E)) (by decide +kernel) (ha_47 (E := E)) (hw_47 (E := E)) (fun H locs w => ?_)
              refine lv_goto (tgt := 144) hx hb dX3_play_134 (by decide) ?_
              refine lv_iinc (v := (nI i) + 1) (lv' := [(6, .int ((nI i) + 1)), (8, .int (fX4_ballOnCell σ1 (fX5_cellAhead d1))), (7, .int (fX5_cellAhead d1)), (0, .ref k), (1, .ref (a 0)), (2, .int bl), (3, .int di), (4, .int sg), (5, .int sn)]) hx hb dX3_play_144 hl (k := 2) rfl (by first | rfl | decide) (by decide) rfl (fun ls hl => ?_)
              refine lv_goto (tgt := 63) hx hb dX3_play_147 (by decide) ?_
              have e0 : nI i + 1 = nI (i + 1) := nI_1 i
              rw [e0] at hl
              exact ih (i + 1) (by omega) _ _ _ _ (step_g ((cmp_gV hW).mp c76_3) hs1).1 (step_g ((cmp_gV hW).mp c76_3) hs1).2 (by rw [← hR]; simp only [plN, plB, if_neg c76_3, if_pos c85_4, if_neg c109_5, if_pos c124_6]) _ _ w ls (lv_sub hl [0, 3, 4, 5, 6, 7, 8] rfl)
          · refine lv_aload_n hx hb dX3_play_112 rfl (lv_at hl 3 rfl) ?_
            refine lv_aload_n hx hb dX3_play_113 rfl (lv_at hl 4 rfl) ?_
            refine r_cv w (r_runV (As := [.ref (a 0)]) (rest := []) X w (kX3_bank l E k j z1 sp1 d1 a σ1 ((cmp_gV hW).mp c76_3) hs1) ck_X3_63 ⟨Nat.le_of_ble_eq_true rfl, Nat.le_of_ble_eq_true rfl⟩ [0, 1, 2, 3, 4, 5, 6, 7, 8, 9, 10] (hc_47 (E := E)) (by decide +kernel) (k0 := 0) CL3 rfl hl.1 (Nat.le_of_ble_eq_true rfl) rfl dX3_play_114 ⟨Nat.le_of_ble_eq_true rfl, Nat.le_of_ble_eq_true rfl⟩) (wSh k j ((fX3_bank z1 sp1 d1 σ1).1) ((fX3_bank z1 sp1 d1 σ1).2.1) ++ (wWk j ((fX3_bank z1 sp1 d1 σ1).2.2.1) ++ wSt E a ((fX3_bank z1 sp1 d1 σ1).2.2.2))) [0, 1, 2, 3, 4, 5, 6, 7, 8, 9, 10] (hc_47 (E := E)) (by decide +kernel) (ha_47 (E := E)) (hw_47 (E := E)) (fun H locs w => ?_)
            refine lv_goto (tgt := 144) hx hb dX3_play_117 (by decide) ?_
            refine lv_iinc (v := (nI i) + 1) (lv' := [(6, .int ((nI i) + 1)), (8, .int (fX4_ballOnCell σ1 (fX5_cellAhead d1))), (7, .int (fX5_cellAhead d1)), (0, .ref k), (1, .ref (a 0)), (2, .int bl), (3, .int di), (4, .int sg), (5, .int sn)]) hx hb dX3_play_144 hl (k := 2) rfl (by first | rfl | decide) (by decide) rfl (fun ls hl => ?_)
            refine lv_goto (tgt := 63) hx hb dX3_play_147 (by decide) ?_
            have e0 : nI i + 1 = nI (i + 1) := nI_1 i
            rw [e0] at hl
            exact ih (i + 1) (by omega) _ _ _ _ (bank_g ((cmp_gV hW).mp c76_3) hs1).1 (bank_g ((cmp_gV hW).mp c76_3) hs1).2 (by rw [← hR]; simp only [plN, plB, if_neg c76_3, if_pos c85_4, if_pos c109_5]) _ _ w ls (lv_sub hl [0, 3, 4, 5, 6, 7, 8] rfl)
  exact loop 1000000 0 (by omega) _ _ _ _ (gV_gW (first_gV hg.1 hg.2)) hs rfl _ _ w ls (lv_sub hl [0, 1, 2, 3, 4, 5, 6] rfl)
end
section
/-! HexBilliards: its methods (printed by wip/whole/gen/p11.py) -/
def fX6_isForce (sg : Int32) (sn : Int32) : Int32 := if sg < 10 then ((0)) else (if 999 < sg then ((0)) else (if sn < 0 then ((0)) else (if 2 < sn then ((0)) else ((1)))))
theorem dX6_isForce_0 : decode cX6_isForce 0 = .ok (.iload_n 0, 1) := by decide +kernel
theorem dX6_isForce_1 : decode cX6_isForce 1 = .ok (.bipush 10, 2) := by decide +kernel
theorem dX6_isForce_3 : decode cX6_isForce 3 = .ok (.if_icmp .lt 23, 3) := by decide +kernel
theorem dX6_isForce_6 : decode cX6_isForce 6 = .ok (.iload_n 0, 1) := by decide +kernel
theorem dX6_isForce_7 : decode cX6_isForce 7 = .ok (.sipush 999, 3) := by decide +kernel
theorem dX6_isForce_10 : decode cX6_isForce 10 = .ok (.if_icmp .gt 16, 3) := by decide +kernel
theorem dX6_isForce_13 : decode cX6_isForce 13 = .ok (.iload_n 1, 1) := by decide +kernel
theorem dX6_isForce_14 : decode cX6_isForce 14 = .ok (.ifCond .lt 12, 3) := by decide +kernel
theorem dX6_isForce_17 : decode cX6_isForce 17 = .ok (.iload_n 1, 1) := by decide +kernel
theorem dX6_isForce_18 : decode cX6_isForce 18 = .ok (.iconst 2, 1) := by decide +kernel
theorem dX6_isForce_19 : decode cX6_isForce 19 = .ok (.if_icmp .gt 7, 3) := by decide +kernel
theorem dX6_isForce_22 : decode cX6_isForce 22 = .ok (.iconst 1, 1) := by decide +kernel
theorem dX6_isForce_23 : decode cX6_isForce 23 = .ok (.goto 4, 3) := by decide +kernel
theorem dX6_isForce_26 : decode cX6_isForce 26 = .ok (.iconst 0, 1) := by decide +kernel
theorem dX6_isForce_27 : decode cX6_isForce 27 = .ok (.ireturn, 1) := by decide +kernel
set_option maxHeartbeats 4000000 in
set_option maxRecDepth 100000 in
theorem kX6_isForce (l : Launch) (E : Ev) (sg : Int32) (sn : Int32) : KQ l yX6_isForce cX6_isForce 2 (some .boolean) 0 0 E [.int sg, .int sn] [] (QI E [] (fX6_isForce sg sn) []) := by
  refine KQ.mk RX6 rfl (by decide +kernel) (Nat.le_of_ble_eq_true rfl) ?_
  intro p e s m below meth c ls X hr w hl
  have hx := X.1
  have hb := X.2.1
  have hl : lv_has ls 2 [(0, .int sg), (1, .int sn)] := hl
  refine lv_iload_n hx hb dX6_isForce_0 rfl (lv_at hl 0 rfl) ?_
  refine lv_bipush (v := 10) hx hb dX6_isForce_1 (by decide) ?_
  refine lv_icmp_lt (tgt := 26) hx hb dX6_isForce_3 (by decide) (fun c3_1 => ?_) (fun c3_1 => ?_)
  · refine lv_iconst (v := 0) hx hb dX6_isForce_26 (by decide) ?_
    have hq : fX6_isForce sg sn = (0) := by simp only [fX6_isForce, if_pos c3_1]
    rw [hq]
    exact r_zret X w hr (Or.inl rfl) rfl dX6_isForce_27
  · refine lv_iload_n hx hb dX6_isForce_6 rfl (lv_at hl 0 rfl) ?_
    refine lv_sipush (v := 999) hx hb dX6_isForce_7 (by decide) ?_
    refine lv_icmp_gt (tgt := 26) hx hb dX6_isForce_10 (by decide) (fun c10_2 => ?_) (fun c10_2 => ?_)
    · refine lv_iconst (v := 0) hx hb dX6_isForce_26 (by decide) ?_
      have hq : fX6_isForce sg sn = (0) := by simp only [fX6_isForce, if_neg c3_1, if_pos c10_2]
      rw [hq]
      exact r_zret X w hr (Or.inl rfl) rfl dX6_isForce_27
    · refine lv_iload_n hx hb dX6_isForce_13 rfl (lv_at hl 1 rfl) ?_
      refine lv_if_lt (tgt := 26) hx hb dX6_isForce_14 (by decide) (fun c14_3 => ?_) (fun c14_3 => ?_)
      · refine lv_iconst (v := 0) hx hb dX6_isForce_26 (by decide) ?_
        have hq : fX6_isForce sg sn = (0) := by simp only [fX6_isForce, if_neg c3_1, if_neg c10_2, if_pos c14_3]
        rw [hq]
        exact r_zret X w hr (Or.inl rfl) rfl dX6_isForce_27
      · refine lv_iload_n hx hb dX6_isForce_17 rfl (lv_at hl 1 rfl) ?_
        refine lv_iconst (v := 2) hx hb dX6_isForce_18 (by decide) ?_
        refine lv_icmp_gt (tgt := 26) hx hb dX6_isForce_19 (by decide) (fun c19_4 => ?_) (fun c19_4 => ?_)
        · refine lv_iconst (v := 0) hx hb dX6_isForce_26 (by decide) ?_
          have hq : fX6_isForce sg sn = (0) := by simp only [fX6_isForce, if_neg c3_1, if_neg c10_2, if_neg c14_3, if_pos c19_4]
          rw [hq]
          exact r_zret X w hr (Or.inl rfl) rfl dX6_isForce_27
        · refine lv_iconst (v := 1) hx hb dX6_isForce_22 (by decide) ?_
          refine lv_goto (tgt := 27) hx hb dX6_isForce_23 (by decide) ?_
          have hq : fX6_isForce sg sn = (1) := by simp only [fX6_isForce, if_neg c3_1, if_neg c10_2, if_neg c14_3, if_neg c19_4]
          rw [hq]
          exact r_zret X w hr (Or.inr rfl) rfl dX6_isForce_27
theorem zX6_isForce (sg : Int32) (sn : Int32) : fX6_isForce sg sn = 0 ∨ fX6_isForce sg sn = 1 := by
  unfold fX6_isForce
  repeat' split
  all_goals first | exact Or.inl rfl | exact Or.inr rfl | (simp; done) | exact Or.inl rfl
def fX6_isShot (di : Int32) (sg : Int32) (sn : Int32) : Int32 := if (fX1_isDirection di) = 0 then ((0)) else (if (fX6_isForce sg sn) = 0 then ((0)) else ((1)))
theorem dX6_isShot_0 : decode cX6_isShot 0 = .ok (.iload_n 0, 1) := by decide +kernel
theorem dX6_isShot_1 : decode cX6_isShot 1 = .ok (.invokestatic 205, 3) := by decide +kernel
theorem dX6_isShot_4 : decode cX6_isShot 4 = .ok (.ifCond .eq 15, 3) := by decide +kernel
theorem dX6_isShot_7 : decode cX6_isShot 7 = .ok (.iload_n 1, 1) := by decide +kernel
theorem dX6_isShot_8 : decode cX6_isShot 8 = .ok (.iload_n 2, 1) := by decide +kernel
theorem dX6_isShot_9 : decode cX6_isShot 9 = .ok (.invokestatic 232, 3) := by decide +kernel
theorem dX6_isShot_12 : decode cX6_isShot 12 = .ok (.ifCond .eq 7, 3) := by decide +kernel
theorem dX6_isShot_15 : decode cX6_isShot 15 = .ok (.iconst 1, 1) := by decide +kernel
theorem dX6_isShot_16 : decode cX6_isShot 16 = .ok (.goto 4, 3) := by decide +kernel
theorem dX6_isShot_19 : decode cX6_isShot 19 = .ok (.iconst 0, 1) := by decide +kernel
theorem dX6_isShot_20 : decode cX6_isShot 20 = .ok (.ireturn, 1) := by decide +kernel
theorem ck_X6_205 : CkS RX6 205 yX1_isDirection cX1_isDirection 1 (some .boolean) 1 := ⟨wm_X6_205, wst_yX1_isDirection, wi_X1, wc_yX1_isDirection, by decide +kernel⟩
theorem ck_X6_232 : CkS RX6 232 yX6_isForce cX6_isForce 2 (some .boolean) 2 := ⟨wm_X6_232, wst_yX6_isForce, wi_X6, wc_yX6_isForce, by decide +kernel⟩
set_option maxHeartbeats 4000000 in
set_option maxRecDepth 100000 in
theorem kX6_isShot (l : Launch) (E : Ev) (di : Int32) (sg : Int32) (sn : Int32) : KQ l yX6_isShot cX6_isShot 3 (some .boolean) 1 21 E [.int di, .int sg, .int sn] [] (QI E [] (fX6_isShot di sg sn) []) := by
  refine KQ.mk RX6 rfl (by decide +kernel) (Nat.le_of_ble_eq_true rfl) ?_
  intro p e s m below meth c ls X hr w hl
  have hx := X.1
  have hb := X.2.1
  have hl : lv_has ls 3 [(0, .int di), (1, .int sg), (2, .int sn)] := hl
  refine lv_iload_n hx hb dX6_isShot_0 rfl (lv_at hl 0 rfl) ?_
  refine r_ci w (r_runS (As := [.int di]) (rest := []) X w (kX1_isDirection l E di ) ck_X6_205 ⟨Nat.le_of_ble_eq_true rfl, Nat.le_of_ble_eq_true rfl⟩ [] rfl (by decide +kernel) hl.1 (Nat.le_of_ble_eq_true rfl) rfl dX6_isShot_1 ⟨Nat.le_of_ble_eq_true rfl, Nat.le_of_ble_eq_true rfl⟩) ([]) [] rfl (by decide +kernel) rfl rfl (fun H locs w => ?_)
  refine lv_if_eq (tgt := 19) hx hb dX6_isShot_4 (by decide) (fun c4_1 => ?_) (fun c4_1 => ?_)
  · refine lv_iconst (v := 0) hx hb dX6_isShot_19 (by decide) ?_
    have hq : fX6_isShot di sg sn = (0) := by simp only [fX6_isShot, if_pos c4_1]
    rw [hq]
    exact r_zret X w hr (Or.inl rfl) rfl dX6_isShot_20
  · refine lv_iload_n hx hb dX6_isShot_7 rfl (lv_at hl 1 rfl) ?_
    refine lv_iload_n hx hb dX6_isShot_8 rfl (lv_at hl 2 rfl) ?_
    refine r_ci w (r_runS (As := [.int sg, .int sn]) (rest := []) X w (kX6_isForce l E sg sn ) ck_X6_232 ⟨Nat.le_of_ble_eq_true rfl, Nat.le_of_ble_eq_true rfl⟩ [] rfl (by decide +kernel) hl.1 (Nat.le_of_ble_eq_true rfl) rfl dX6_isShot_9 ⟨Nat.le_of_ble_eq_true rfl, Nat.le_of_ble_eq_true rfl⟩) ([]) [] rfl (by decide +kernel) rfl rfl (fun H locs w => ?_)
    refine lv_if_eq (tgt := 19) hx hb dX6_isShot_12 (by decide) (fun c12_2 => ?_) (fun c12_2 => ?_)
    · refine lv_iconst (v := 0) hx hb dX6_isShot_19 (by decide) ?_
      have hq : fX6_isShot di sg sn = (0) := by simp only [fX6_isShot, if_neg c4_1, if_pos c12_2]
      rw [hq]
      exact r_zret X w hr (Or.inl rfl) rfl dX6_isShot_20
    · refine lv_iconst (v := 1) hx hb dX6_isShot_15 (by decide) ?_
      refine lv_goto (tgt := 20) hx hb dX6_isShot_16 (by decide) ?_
      have hq : fX6_isShot di sg sn = (1) := by simp only [fX6_isShot, if_neg c4_1, if_neg c12_2]
      rw [hq]
      exact r_zret X w hr (Or.inr rfl) rfl dX6_isShot_20
theorem zX6_isShot (di : Int32) (sg : Int32) (sn : Int32) : fX6_isShot di sg sn = 0 ∨ fX6_isShot di sg sn = 1 := by
  unfold fX6_isShot
  repeat' split
  all_goals first | exact Or.inl rfl | exact Or.inr rfl | (simp; done) | exact zX1_isDirection _ | exact zX6_isForce _ _
theorem fo_ok {sg sn : Int32} (h : ¬ fX6_isForce sg sn = 0) : 10 ≤ sg.toInt ∧ sg.toInt ≤ 999 := by
  have e1 : sg < 10 ↔ sg.toInt < 10 := by rw [Int32.lt_iff_toInt_lt]; exact Iff.rfl
  have e2 : 999 < sg ↔ 999 < sg.toInt := by rw [Int32.lt_iff_toInt_lt]; exact Iff.rfl
  unfold fX6_isForce at h
  split at h
  · exact absurd rfl h
  · split at h
    · exact absurd rfl h
    · rename_i h1 h2
      rw [e1] at h1
      rw [e2] at h2
      omega
theorem sh_ok {di sg sn : Int32} (h : ¬ fX6_isShot di sg sn = 0) : 10 ≤ sg.toInt ∧ sg.toInt ≤ 999 := by
  unfold fX6_isShot at h
  split at h
  · exact absurd rfl h
  · split at h
    · exact absurd rfl h
    · exact fo_ok ‹_›
theorem in_has {σ : N2} {bl : Int32} (h : ¬ fX4_hasBall σ bl = 0) : vp_in bl 12 := by
  unfold fX4_hasBall at h
  split at h
  · exact absurd rfl h
  · exact in_bn ‹_›
theorem nI_cl {x : Int32} (h : ¬ x < 0) : x = nI x.toNatClampNeg := by
  obtain ⟨j, hj, e⟩ := nI_of h
  rw [e, nI_clamp hj]
theorem kX5_walkI (l : Launch) (E : Ev) (j : Nat) (d : N1) (x : Int32) (h : ¬ x < 0) : KQ l yX5_walk cX5_walk 3 none 3 70 E [.ref j, .int x] (wWk j d) (QV E (wWk j d) (wWk j (wkN d x.toNatClampNeg))) := by
  obtain ⟨N, hN, e⟩ := nI_of h
  subst e
  rw [nI_clamp hN]
  exact kX5_walk l E j d N hN
theorem le_cl (x : Int32) : x ≤ nI x.toNatClampNeg := by
  by_cases h : x < 0
  · obtain ⟨m, hm⟩ : ∃ m : Nat, x.toNatClampNeg = m := ⟨_, rfl⟩
    rw [Int32.le_iff_toInt_le, hm]
    rw [Int32.lt_iff_toInt_lt, Int32.toInt_zero] at h
    have hm0 : m = 0 := by
      rw [← hm, Int32.toNatClampNeg]
      omega
    rw [hm0, show (nI 0).toInt = 0 from rfl]
    omega
  · rw [← nI_cl h]
    exact Int32.le_refl x
theorem lt_cl {x : Int32} {k : Nat} (hk : k < x.toNatClampNeg) : ¬ x ≤ nI k := by
  have h : ¬ x < 0 := by
    intro q
    rw [Int32.lt_iff_toInt_lt, Int32.toInt_zero] at q
    rw [Int32.toNatClampNeg] at hk
    omega
  obtain ⟨j, hj, e⟩ := nI_of h
  subst e
  rw [nI_clamp hj] at hk
  exact nI_ge hk hj
def fX6_put (hs : Int32) (σ : N2) (n : Int32) (o : Nat) (η : Nat → N2) (ce : Int32) (vl : Int32) : Int32 × N2 × Int32 × Nat × (Nat → N2) := if (fX1_isCell ce) = 0 then (((-1), σ, n, o, η)) else (if vl < 1 then (((-2), σ, n, o, η)) else (if vl ≤ 20 then (if (fX4_refusalToAdd σ ce) = (-5) then (((fX4_addBall σ ce vl).1, (fX4_addBall σ ce vl).2, (fX2_record n o η σ).1, (fX2_record n o η σ).2.1, (fX2_record n o η σ).2.2)) else (((fX4_refusalToAdd σ ce), σ, n, o, η))) else (((-2), σ, n, o, η))))
theorem dX6_put_0 : decode cX6_put 0 = .ok (.iload_n 1, 1) := by decide +kernel
theorem dX6_put_1 : decode cX6_put 1 = .ok (.invokestatic 43, 3) := by decide +kernel
theorem dX6_put_4 : decode cX6_put 4 = .ok (.ifCond .ne 5, 3) := by decide +kernel
theorem dX6_put_7 : decode cX6_put 7 = .ok (.iconst (-1), 1) := by decide +kernel
theorem dX6_put_8 : decode cX6_put 8 = .ok (.ireturn, 1) := by decide +kernel
theorem dX6_put_9 : decode cX6_put 9 = .ok (.iload_n 2, 1) := by decide +kernel
theorem dX6_put_10 : decode cX6_put 10 = .ok (.iconst 1, 1) := by decide +kernel
theorem dX6_put_11 : decode cX6_put 11 = .ok (.if_icmp .lt 9, 3) := by decide +kernel
theorem dX6_put_14 : decode cX6_put 14 = .ok (.iload_n 2, 1) := by decide +kernel
theorem dX6_put_15 : decode cX6_put 15 = .ok (.bipush 20, 2) := by decide +kernel
theorem dX6_put_17 : decode cX6_put 17 = .ok (.if_icmp .le 6, 3) := by decide +kernel
theorem dX6_put_20 : decode cX6_put 20 = .ok (.bipush (-2), 2) := by decide +kernel
theorem dX6_put_22 : decode cX6_put 22 = .ok (.ireturn, 1) := by decide +kernel
theorem dX6_put_23 : decode cX6_put 23 = .ok (.aload_n 0, 1) := by decide +kernel
theorem dX6_put_24 : decode cX6_put 24 = .ok (.getfield 10, 3) := by decide +kernel
theorem dX6_put_27 : decode cX6_put 27 = .ok (.iload_n 1, 1) := by decide +kernel
theorem dX6_put_28 : decode cX6_put 28 = .ok (.invokevirtual 49, 3) := by decide +kernel
theorem dX6_put_31 : decode cX6_put 31 = .ok (.istore_n 3, 1) := by decide +kernel
theorem dX6_put_32 : decode cX6_put 32 = .ok (.iload_n 3, 1) := by decide +kernel
theorem dX6_put_33 : decode cX6_put 33 = .ok (.bipush (-5), 2) := by decide +kernel
theorem dX6_put_35 : decode cX6_put 35 = .ok (.if_icmp .eq 5, 3) := by decide +kernel
theorem dX6_put_38 : decode cX6_put 38 = .ok (.iload_n 3, 1) := by decide +kernel
theorem dX6_put_39 : decode cX6_put 39 = .ok (.ireturn, 1) := by decide +kernel
theorem dX6_put_40 : decode cX6_put 40 = .ok (.aload_n 0, 1) := by decide +kernel
theorem dX6_put_41 : decode cX6_put 41 = .ok (.getfield 25, 3) := by decide +kernel
theorem dX6_put_44 : decode cX6_put 44 = .ok (.aload_n 0, 1) := by decide +kernel
theorem dX6_put_45 : decode cX6_put 45 = .ok (.getfield 10, 3) := by decide +kernel
theorem dX6_put_48 : decode cX6_put 48 = .ok (.invokevirtual 53, 3) := by decide +kernel
theorem dX6_put_51 : decode cX6_put 51 = .ok (.aload_n 0, 1) := by decide +kernel
theorem dX6_put_52 : decode cX6_put 52 = .ok (.getfield 10, 3) := by decide +kernel
theorem dX6_put_55 : decode cX6_put 55 = .ok (.iload_n 1, 1) := by decide +kernel
theorem dX6_put_56 : decode cX6_put 56 = .ok (.iload_n 2, 1) := by decide +kernel
theorem dX6_put_57 : decode cX6_put 57 = .ok (.invokevirtual 57, 3) := by decide +kernel
theorem dX6_put_60 : decode cX6_put 60 = .ok (.ireturn, 1) := by decide +kernel
theorem ck_X6_43 : CkS RX6 43 yX1_isCell cX1_isCell 1 (some .boolean) 1 := ⟨wm_X6_43, wst_yX1_isCell, wi_X1, wc_yX1_isCell, by decide +kernel⟩
theorem ck_X6_49 : CkV RX6 49 RX4 yX4_refusalToAdd cX4_refusalToAdd 2 (some .int) 1 := ⟨wm_X6_49, wim_yX4_refusalToAdd, wse_yX4_refusalToAdd, wi_X4, wc_yX4_refusalToAdd, by decide +kernel⟩
theorem ck_X6_53 : CkV RX6 53 RX2 yX2_record cX2_record 2 none 1 := ⟨wm_X6_53, wim_yX2_record, wse_yX2_record, wi_X2, wc_yX2_record, by decide +kernel⟩
theorem ck_X6_57 : CkV RX6 57 RX4 yX4_addBall cX4_addBall 4 (some .int) 2 := ⟨wm_X6_57, wim_yX4_addBall, wse_yX4_addBall, wi_X4, wc_yX4_addBall, by decide +kernel⟩
theorem hc_48 {E : Ev} {a0 p0_0 p0_1 p0_2 p0_3 p0_4 p0_5 : Nat} {n0 : Int32} {a1 : Nat → Nat} {σ1 : N2} {a2 : Nat → Nat} {h2 : Nat → Nat → Nat} {n2 : Int32} {η2 : Nat → N2} {o2 : Nat} : ([1, 2, 3, 4, 5, 6, 7, 8, 9] : List Nat).map (fun i => (wHb a0 p0_0 p0_1 p0_2 p0_3 p0_4 p0_5 n0 ++ (wSt E a1 σ1 ++ wHs E a2 h2 n2 o2 η2))[i]?) = (wSt E a1 σ1).map some := by rw [show wHb a0 p0_0 p0_1 p0_2 p0_3 p0_4 p0_5 n0 ++ (wSt E a1 σ1 ++ (wHs E a2 h2 n2 o2 η2)) = (wHb a0 p0_0 p0_1 p0_2 p0_3 p0_4 p0_5 n0) ++ (wSt E a1 σ1 ++ (wHs E a2 h2 n2 o2 η2)) by simp only [List.append_assoc, List.nil_append, List.append_nil]]; exact get1 (s := 1) (n := 9) rfl rfl
theorem ha_48 {E : Ev} {a1 : Nat → Nat} {σ1 : N2} {τ0_0 : N2} : (wSt E a1 τ0_0).map Prod.fst = (wSt E a1 σ1).map Prod.fst := fst_St
theorem hw_48 {E : Ev} {a0 p0_0 p0_1 p0_2 p0_3 p0_4 p0_5 : Nat} {n0 : Int32} {a1 : Nat → Nat} {σ1 : N2} {a2 : Nat → Nat} {h2 : Nat → Nat → Nat} {n2 : Int32} {η2 : Nat → N2} {o2 : Nat} {τ0_0 : N2} : wput (wHb a0 p0_0 p0_1 p0_2 p0_3 p0_4 p0_5 n0 ++ (wSt E a1 σ1 ++ wHs E a2 h2 n2 o2 η2)) [1, 2, 3, 4, 5, 6, 7, 8, 9] (wSt E a1 τ0_0) = wHb a0 p0_0 p0_1 p0_2 p0_3 p0_4 p0_5 n0 ++ (wSt E a1 τ0_0 ++ wHs E a2 h2 n2 o2 η2) := by
  show wput (wHb a0 p0_0 p0_1 p0_2 p0_3 p0_4 p0_5 n0 ++ (wSt E a1 σ1 ++ (wHs E a2 h2 n2 o2 η2))) (rg 1 9) (wSt E a1 τ0_0) = _
  rw [show wHb a0 p0_0 p0_1 p0_2 p0_3 p0_4 p0_5 n0 ++ (wSt E a1 σ1 ++ (wHs E a2 h2 n2 o2 η2)) = (wHb a0 p0_0 p0_1 p0_2 p0_3 p0_4 p0_5 n0) ++ (wSt E a1 σ1 ++ (wHs E a2 h2 n2 o2 η2)) by simp only [List.append_assoc, List.nil_append, List.append_nil], put1 (s := 1) (n := 9) rfl rfl rfl]
  try simp only [List.append_assoc, List.nil_append, List.append_nil]
theorem hc_49 {E : Ev} {a0 p0_0 p0_1 p0_2 p0_3 p0_4 p0_5 : Nat} {n0 : Int32} {a1 : Nat → Nat} {σ1 : N2} {a2 : Nat → Nat} {h2 : Nat → Nat → Nat} {n2 : Int32} {η2 : Nat → N2} {o2 : Nat} : ([10, 11, 12, 13, 14, 15, 16, 17, 18, 19, 20, 21, 22, 23, 24, 25, 26, 27, 28, 29, 30, 31, 32, 33, 34, 35, 36, 37, 38, 39, 40, 41, 42, 43, 44, 45, 46, 47, 1, 2, 3, 4, 5, 6, 7, 8, 9] : List Nat).map (fun i => (wHb a0 p0_0 p0_1 p0_2 p0_3 p0_4 p0_5 n0 ++ (wSt E a1 σ1 ++ wHs E a2 h2 n2 o2 η2))[i]?) = (wHs E a2 h2 n2 o2 η2 ++ wSt E a1 σ1).map some := get_app (is1 := rg 10 38) (is2 := rg 1 9) (by rw [show wHb a0 p0_0 p0_1 p0_2 p0_3 p0_4 p0_5 n0 ++ (wSt E a1 σ1 ++ (wHs E a2 h2 n2 o2 η2)) = (wHb a0 p0_0 p0_1 p0_2 p0_3 p0_4 p0_5 n0 ++ (wSt E a1 σ1)) ++ (wHs E a2 h2 n2 o2 η2 ++ (([] : va_W))) by simp only [List.append_assoc, List.nil_append, List.append_nil]]; exact get1 (s := 10) (n := 38) rfl rfl) ((by rw [show wHb a0 p0_0 p0_1 p0_2 p0_3 p0_4 p0_5 n0 ++ (wSt E a1 σ1 ++ (wHs E a2 h2 n2 o2 η2)) = (wHb a0 p0_0 p0_1 p0_2 p0_3 p0_4 p0_5 n0) ++ (wSt E a1 σ1 ++ (wHs E a2 h2 n2 o2 η2)) by simp only [List.append_assoc, List.nil_append, List.append_nil]]; exact get1 (s := 1) (n := 9) rfl rfl))
theorem ha_49 {E : Ev} {a1 : Nat → Nat} {σ1 : N2} {a2 : Nat → Nat} {h2 : Nat → Nat → Nat} {n2 : Int32} {η2 : Nat → N2} {o2 : Nat} {τ0_0 : Int32} {τ0_1 : Nat} {τ0_2 : Nat → N2} {τ1_0 : N2} : (wHs E a2 h2 τ0_0 τ0_1 τ0_2 ++ wSt E a1 τ1_0).map Prod.fst = (wHs E a2 h2 n2 o2 η2 ++ wSt E a1 σ1).map Prod.fst := fst_app fst_Hs (fst_St)
theorem hw_49 {E : Ev} {a0 p0_0 p0_1 p0_2 p0_3 p0_4 p0_5 : Nat} {n0 : Int32} {a1 : Nat → Nat} {σ1 : N2} {a2 : Nat → Nat} {h2 : Nat → Nat → Nat} {n2 : Int32} {η2 : Nat → N2} {o2 : Nat} {τ0_0 : Int32} {τ0_1 : Nat} {τ0_2 : Nat → N2} {τ1_0 : N2} : wput (wHb a0 p0_0 p0_1 p0_2 p0_3 p0_4 p0_5 n0 ++ (wSt E a1 σ1 ++ wHs E a2 h2 n2 o2 η2)) [10, 11, 12, 13, 14, 15, 16, 17, 18, 19, 20, 21, 22, 23, 24, 25, 26, 27, 28, 29, 30, 31, 32, 33, 34, 35, 36, 37, 38, 39, 40, 41, 42, 43, 44, 45, 46, 47, 1, 2, 3, 4, 5, 6, 7, 8, 9] (wHs E a2 h2 τ0_0 τ0_1 τ0_2 ++ wSt E a1 τ1_0) = wHb a0 p0_0 p0_1 p0_2 p0_3 p0_4 p0_5 n0 ++ (wSt E a1 τ1_0 ++ wHs E a2 h2 τ0_0 τ0_1 τ0_2) := by
  show wput (wHb a0 p0_0 p0_1 p0_2 p0_3 p0_4 p0_5 n0 ++ (wSt E a1 σ1 ++ (wHs E a2 h2 n2 o2 η2))) (rg 10 38 ++ (rg 1 9)) (wHs E a2 h2 τ0_0 τ0_1 τ0_2 ++ wSt E a1 τ1_0) = _
  rw [wput_app rfl]
  rw [show wHb a0 p0_0 p0_1 p0_2 p0_3 p0_4 p0_5 n0 ++ (wSt E a1 σ1 ++ (wHs E a2 h2 n2 o2 η2)) = (wHb a0 p0_0 p0_1 p0_2 p0_3 p0_4 p0_5 n0 ++ (wSt E a1 σ1)) ++ (wHs E a2 h2 n2 o2 η2 ++ (([] : va_W))) by simp only [List.append_assoc, List.nil_append, List.append_nil], put1 (s := 10) (n := 38) rfl rfl rfl]
  rw [show (wHb a0 p0_0 p0_1 p0_2 p0_3 p0_4 p0_5 n0 ++ (wSt E a1 σ1)) ++ (wHs E a2 h2 τ0_0 τ0_1 τ0_2 ++ (([] : va_W))) = (wHb a0 p0_0 p0_1 p0_2 p0_3 p0_4 p0_5 n0) ++ (wSt E a1 σ1 ++ (wHs E a2 h2 τ0_0 τ0_1 τ0_2)) by simp only [List.append_assoc, List.nil_append, List.append_nil], put1 (s := 1) (n := 9) rfl rfl rfl]
  try simp only [List.append_assoc, List.nil_append, List.append_nil]
set_option maxHeartbeats 4000000 in
set_option maxRecDepth 100000 in
theorem kX6_put (l : Launch) (E : Ev) (h : Nat) (p1 : Nat) (p2 : Nat) (p4 : Nat) (p5 : Nat) (hs : Int32) (sa : Nat → Nat) (σ : N2) (ya : Nat → Nat) (hh : Nat → Nat → Nat) (n : Int32) (o : Nat) (η : Nat → N2) (ce : Int32) (vl : Int32) : KQ l yX6_put cX6_put 4 (some .int) 4 102 E [.ref h, .int ce, .int vl] (wHb h (sa 0) p1 p2 (ya 0) p4 p5 hs ++ (wSt E sa σ ++ wHs E ya hh n o η)) (QI E (wHb h (sa 0) p1 p2 (ya 0) p4 p5 hs ++ (wSt E sa σ ++ wHs E ya hh n o η)) (fX6_put hs σ n o η ce vl).1 (wHb h (sa 0) p1 p2 (ya 0) p4 p5 hs ++ (wSt E sa ((fX6_put hs σ n o η ce vl).2.1) ++ wHs E ya hh ((fX6_put hs σ n o η ce vl).2.2.1) ((fX6_put hs σ n o η ce vl).2.2.2.1) ((fX6_put hs σ n o η ce vl).2.2.2.2)))) := by
  refine KQ.mk RX6 rfl (by decide +kernel) (Nat.le_of_ble_eq_true rfl) ?_
  intro p e s m below meth c ls X hr w hl
  have hx := X.1
  have hb := X.2.1
  have hl : lv_has ls 4 [(0, .ref h), (1, .int ce), (2, .int vl)] := hl
  refine lv_iload_n hx hb dX6_put_0 rfl (lv_at hl 1 rfl) ?_
  refine r_ci w (r_runS (As := [.int ce]) (rest := []) X w (kX1_isCell l E ce ) ck_X6_43 ⟨Nat.le_of_ble_eq_true rfl, Nat.le_of_ble_eq_true rfl⟩ [] rfl (by decide +kernel) hl.1 (Nat.le_of_ble_eq_true rfl) rfl dX6_put_1 ⟨Nat.le_of_ble_eq_true rfl, Nat.le_of_ble_eq_true rfl⟩) (wHb h (sa 0) p1 p2 (ya 0) p4 p5 hs ++ (wSt E sa σ ++ wHs E ya hh n o η)) [] rfl (by decide +kernel) rfl rfl (fun H locs w => ?_)
  refine lv_if_ne (tgt := 9) hx hb dX6_put_4 (by decide) (fun c4_1 => ?_) (fun c4_1 => ?_)
  · refine lv_iload_n hx hb dX6_put_9 rfl (lv_at hl 2 rfl) ?_
    refine lv_iconst (v := 1) hx hb dX6_put_10 (by decide) ?_
    refine lv_icmp_lt (tgt := 20) hx hb dX6_put_11 (by decide) (fun c11_2 => ?_) (fun c11_2 => ?_)
    · refine lv_bipush (v := (-2)) hx hb dX6_put_20 (by decide) ?_
      have hq : fX6_put hs σ n o η ce vl = ((-2), σ, n, o, η) := by simp only [fX6_put, if_neg c4_1, if_pos c11_2]
      obtain ⟨h0_, h1_, h2_, h3_, h4_⟩ := tup5 hq
      rw [h0_, h1_, h2_, h3_, h4_]
      exact r_iret X w hr rfl dX6_put_22
    · refine lv_iload_n hx hb dX6_put_14 rfl (lv_at hl 2 rfl) ?_
      refine lv_bipush (v := 20) hx hb dX6_put_15 (by decide) ?_
      refine lv_icmp_le (tgt := 23) hx hb dX6_put_17 (by decide) (fun c17_3 => ?_) (fun c17_3 => ?_)
      · refine lv_aload_n hx hb dX6_put_23 rfl (lv_at hl 0 rfl) ?_
        refine r_get X w CL6 0 (by decide) wf_X6_10 0 rfl rfl dX6_put_24 ?_
        refine lv_iload_n hx hb dX6_put_27 rfl (lv_at hl 1 rfl) ?_
        refine r_ci w (r_runV (As := [.int ce]) (rest := []) X w (kX4_refusalToAdd l E sa σ ce ) ck_X6_49 ⟨Nat.le_of_ble_eq_true rfl, Nat.le_of_ble_eq_true rfl⟩ [1, 2, 3, 4, 5, 6, 7, 8, 9] (hc_48 (E := E)) (by decide +kernel) (k0 := 0) CL4 rfl hl.1 (Nat.le_of_ble_eq_true rfl) rfl dX6_put_28 ⟨Nat.le_of_ble_eq_true rfl, Nat.le_of_ble_eq_true rfl⟩) (wHb h (sa 0) p1 p2 (ya 0) p4 p5 hs ++ (wSt E sa σ ++ wHs E ya hh n o η)) [1, 2, 3, 4, 5, 6, 7, 8, 9] (hc_48 (E := E)) (by decide +kernel) (ha_48 (E := E)) (hw_48 (E := E)) (fun H locs w => ?_)
        refine lv_istore_n (lv' := [(3, .int (fX4_refusalToAdd σ ce)), (0, .ref h), (1, .int ce), (2, .int vl)]) hx hb dX6_put_31 rfl hl (by decide) rfl (fun ls hl => ?_)
        refine lv_iload_n hx hb dX6_put_32 rfl (lv_at hl 0 rfl) ?_
        refine lv_bipush (v := (-5)) hx hb dX6_put_33 (by decide) ?_
        refine lv_icmp_eq (tgt := 40) hx hb dX6_put_35 (by decide) (fun c35_4 => ?_) (fun c35_4 => ?_)
        · refine lv_aload_n hx hb dX6_put_40 rfl (lv_at hl 1 rfl) ?_
          refine r_get X w CL6 3 (by decide) wf_X6_25 0 rfl rfl dX6_put_41 ?_
          refine lv_aload_n hx hb dX6_put_44 rfl (lv_at hl 1 rfl) ?_
          refine r_get X w CL6 0 (by decide) wf_X6_10 0 rfl rfl dX6_put_45 ?_
          refine r_cv w (r_runV (As := [.ref (sa 0)]) (rest := []) X w (kX2_record l E ya hh n o η sa σ ) ck_X6_53 ⟨Nat.le_of_ble_eq_true rfl, Nat.le_of_ble_eq_true rfl⟩ [10, 11, 12, 13, 14, 15, 16, 17, 18, 19, 20, 21, 22, 23, 24, 25, 26, 27, 28, 29, 30, 31, 32, 33, 34, 35, 36, 37, 38, 39, 40, 41, 42, 43, 44, 45, 46, 47, 1, 2, 3, 4, 5, 6, 7, 8, 9] (hc_49 (E := E)) (by decide +kernel) (k0 := 0) CL2 rfl hl.1 (Nat.le_of_ble_eq_true rfl) rfl dX6_put_48 ⟨Nat.le_of_ble_eq_true rfl, Nat.le_of_ble_eq_true rfl⟩) (wHb h (sa 0) p1 p2 (ya 0) p4 p5 hs ++ (wSt E sa σ ++ wHs E ya hh ((fX2_record n o η σ).1) ((fX2_record n o η σ).2.1) ((fX2_record n o η σ).2.2))) [10, 11, 12, 13, 14, 15, 16, 17, 18, 19, 20, 21, 22, 23, 24, 25, 26, 27, 28, 29, 30, 31, 32, 33, 34, 35, 36, 37, 38, 39, 40, 41, 42, 43, 44, 45, 46, 47, 1, 2, 3, 4, 5, 6, 7, 8, 9] (hc_49 (E := E)) (by decide +kernel) (ha_49 (E := E)) (hw_49 (E := E)) (fun H locs w => ?_)
          refine lv_aload_n hx hb dX6_put_51 rfl (lv_at hl 1 rfl) ?_
          refine r_get X w CL6 0 (by decide) wf_X6_10 0 rfl rfl dX6_put_52 ?_
          refine lv_iload_n hx hb dX6_put_55 rfl (lv_at hl 2 rfl) ?_
          refine lv_iload_n hx hb dX6_put_56 rfl (lv_at hl 3 rfl) ?_
          refine r_ci w (r_runV (As := [.int ce, .int vl]) (rest := []) X w (kX4_addBall l E sa σ ce vl ) ck_X6_57 ⟨Nat.le_of_ble_eq_true rfl, Nat.le_of_ble_eq_true rfl⟩ [1, 2, 3, 4, 5, 6, 7, 8, 9] (hc_48 (E := E)) (by decide +kernel) (k0 := 0) CL4 rfl hl.1 (Nat.le_of_ble_eq_true rfl) rfl dX6_put_57 ⟨Nat.le_of_ble_eq_true rfl, Nat.le_of_ble_eq_true rfl⟩) (wHb h (sa 0) p1 p2 (ya 0) p4 p5 hs ++ (wSt E sa ((fX4_addBall σ ce vl).2) ++ wHs E ya hh ((fX2_record n o η σ).1) ((fX2_record n o η σ).2.1) ((fX2_record n o η σ).2.2))) [1, 2, 3, 4, 5, 6, 7, 8, 9] (hc_48 (E := E)) (by decide +kernel) (ha_48 (E := E)) (hw_48 (E := E)) (fun H locs w => ?_)
          have hq : fX6_put hs σ n o η ce vl = ((fX4_addBall σ ce vl).1, (fX4_addBall σ ce vl).2, (fX2_record n o η σ).1, (fX2_record n o η σ).2.1, (fX2_record n o η σ).2.2) := by simp only [fX6_put, if_neg c4_1, if_neg c11_2, if_pos c17_3, if_pos c35_4]
          obtain ⟨h0_, h1_, h2_, h3_, h4_⟩ := tup5 hq
          rw [h0_, h1_, h2_, h3_, h4_]
          exact r_iret X w hr rfl dX6_put_60
        · refine lv_iload_n hx hb dX6_put_38 rfl (lv_at hl 0 rfl) ?_
          have hq : fX6_put hs σ n o η ce vl = ((fX4_refusalToAdd σ ce), σ, n, o, η) := by simp only [fX6_put, if_neg c4_1, if_neg c11_2, if_pos c17_3, if_neg c35_4]
          obtain ⟨h0_, h1_, h2_, h3_, h4_⟩ := tup5 hq
          rw [h0_, h1_, h2_, h3_, h4_]
          exact r_iret X w hr rfl dX6_put_39
      · refine lv_bipush (v := (-2)) hx hb dX6_put_20 (by decide) ?_
        have hq : fX6_put hs σ n o η ce vl = ((-2), σ, n, o, η) := by simp only [fX6_put, if_neg c4_1, if_neg c11_2, if_neg c17_3]
        obtain ⟨h0_, h1_, h2_, h3_, h4_⟩ := tup5 hq
        rw [h0_, h1_, h2_, h3_, h4_]
        exact r_iret X w hr rfl dX6_put_22
  · refine lv_iconst (v := (-1)) hx hb dX6_put_7 (by decide) ?_
    have hq : fX6_put hs σ n o η ce vl = ((-1), σ, n, o, η) := by simp only [fX6_put, if_pos c4_1]
    obtain ⟨h0_, h1_, h2_, h3_, h4_⟩ := tup5 hq
    rw [h0_, h1_, h2_, h3_, h4_]
    exact r_iret X w hr rfl dX6_put_8
def fX6_move (hs : Int32) (σ : N2) (n : Int32) (o : Nat) (η : Nat → N2) (bl : Int32) (ce : Int32) : Int32 × N2 × Int32 × Nat × (Nat → N2) := if (fX4_hasBall σ bl) = 0 then (((-1), σ, n, o, η)) else (if (fX1_isCell ce) = 0 then (((-1), σ, n, o, η)) else (if (fX4_cellOfBall σ bl) = ce then (((-5), σ, n, o, η)) else (if (fX4_ballOnCell σ ce) = (-5) then (((fX4_cellOfBall σ bl), (fX4_place σ bl ce), (fX2_record n o η σ).1, (fX2_record n o η σ).2.1, (fX2_record n o η σ).2.2)) else (((-4), σ, n, o, η)))))
theorem dX6_move_0 : decode cX6_move 0 = .ok (.aload_n 0, 1) := by decide +kernel
theorem dX6_move_1 : decode cX6_move 1 = .ok (.getfield 10, 3) := by decide +kernel
theorem dX6_move_4 : decode cX6_move 4 = .ok (.iload_n 1, 1) := by decide +kernel
theorem dX6_move_5 : decode cX6_move 5 = .ok (.invokevirtual 78, 3) := by decide +kernel
theorem dX6_move_8 : decode cX6_move 8 = .ok (.ifCond .eq 10, 3) := by decide +kernel
theorem dX6_move_11 : decode cX6_move 11 = .ok (.iload_n 2, 1) := by decide +kernel
theorem dX6_move_12 : decode cX6_move 12 = .ok (.invokestatic 43, 3) := by decide +kernel
theorem dX6_move_15 : decode cX6_move 15 = .ok (.ifCond .ne 5, 3) := by decide +kernel
theorem dX6_move_18 : decode cX6_move 18 = .ok (.iconst (-1), 1) := by decide +kernel
theorem dX6_move_19 : decode cX6_move 19 = .ok (.ireturn, 1) := by decide +kernel
theorem dX6_move_20 : decode cX6_move 20 = .ok (.aload_n 0, 1) := by decide +kernel
theorem dX6_move_21 : decode cX6_move 21 = .ok (.getfield 10, 3) := by decide +kernel
theorem dX6_move_24 : decode cX6_move 24 = .ok (.iload_n 1, 1) := by decide +kernel
theorem dX6_move_25 : decode cX6_move 25 = .ok (.invokevirtual 81, 3) := by decide +kernel
theorem dX6_move_28 : decode cX6_move 28 = .ok (.istore_n 3, 1) := by decide +kernel
theorem dX6_move_29 : decode cX6_move 29 = .ok (.iload_n 3, 1) := by decide +kernel
theorem dX6_move_30 : decode cX6_move 30 = .ok (.iload_n 2, 1) := by decide +kernel
theorem dX6_move_31 : decode cX6_move 31 = .ok (.if_icmp .ne 6, 3) := by decide +kernel
theorem dX6_move_34 : decode cX6_move 34 = .ok (.bipush (-5), 2) := by decide +kernel
theorem dX6_move_36 : decode cX6_move 36 = .ok (.ireturn, 1) := by decide +kernel
theorem dX6_move_37 : decode cX6_move 37 = .ok (.aload_n 0, 1) := by decide +kernel
theorem dX6_move_38 : decode cX6_move 38 = .ok (.getfield 10, 3) := by decide +kernel
theorem dX6_move_41 : decode cX6_move 41 = .ok (.iload_n 2, 1) := by decide +kernel
theorem dX6_move_42 : decode cX6_move 42 = .ok (.invokevirtual 82, 3) := by decide +kernel
theorem dX6_move_45 : decode cX6_move 45 = .ok (.bipush (-5), 2) := by decide +kernel
theorem dX6_move_47 : decode cX6_move 47 = .ok (.if_icmp .eq 6, 3) := by decide +kernel
theorem dX6_move_50 : decode cX6_move 50 = .ok (.bipush (-4), 2) := by decide +kernel
theorem dX6_move_52 : decode cX6_move 52 = .ok (.ireturn, 1) := by decide +kernel
theorem dX6_move_53 : decode cX6_move 53 = .ok (.aload_n 0, 1) := by decide +kernel
theorem dX6_move_54 : decode cX6_move 54 = .ok (.getfield 25, 3) := by decide +kernel
theorem dX6_move_57 : decode cX6_move 57 = .ok (.aload_n 0, 1) := by decide +kernel
theorem dX6_move_58 : decode cX6_move 58 = .ok (.getfield 10, 3) := by decide +kernel
theorem dX6_move_61 : decode cX6_move 61 = .ok (.invokevirtual 53, 3) := by decide +kernel
theorem dX6_move_64 : decode cX6_move 64 = .ok (.aload_n 0, 1) := by decide +kernel
theorem dX6_move_65 : decode cX6_move 65 = .ok (.getfield 10, 3) := by decide +kernel
theorem dX6_move_68 : decode cX6_move 68 = .ok (.iload_n 1, 1) := by decide +kernel
theorem dX6_move_69 : decode cX6_move 69 = .ok (.iload_n 2, 1) := by decide +kernel
theorem dX6_move_70 : decode cX6_move 70 = .ok (.invokevirtual 85, 3) := by decide +kernel
theorem dX6_move_73 : decode cX6_move 73 = .ok (.iload_n 3, 1) := by decide +kernel
theorem dX6_move_74 : decode cX6_move 74 = .ok (.ireturn, 1) := by decide +kernel
theorem ck_X6_78 : CkV RX6 78 RX4 yX4_hasBall cX4_hasBall 2 (some .boolean) 1 := ⟨wm_X6_78, wim_yX4_hasBall, wse_yX4_hasBall, wi_X4, wc_yX4_hasBall, by decide +kernel⟩
theorem ck_X6_81 : CkV RX6 81 RX4 yX4_cellOfBall cX4_cellOfBall 2 (some .int) 1 := ⟨wm_X6_81, wim_yX4_cellOfBall, wse_yX4_cellOfBall, wi_X4, wc_yX4_cellOfBall, by decide +kernel⟩
theorem ck_X6_82 : CkV RX6 82 RX4 yX4_ballOnCell cX4_ballOnCell 2 (some .int) 1 := ⟨wm_X6_82, wim_yX4_ballOnCell, wse_yX4_ballOnCell, wi_X4, wc_yX4_ballOnCell, by decide +kernel⟩
theorem ck_X6_85 : CkV RX6 85 RX4 yX4_place cX4_place 3 none 2 := ⟨wm_X6_85, wim_yX4_place, wse_yX4_place, wi_X4, wc_yX4_place, by decide +kernel⟩
set_option maxHeartbeats 4000000 in
set_option maxRecDepth 100000 in
theorem kX6_move (l : Launch) (E : Ev) (h : Nat) (p1 : Nat) (p2 : Nat) (p4 : Nat) (p5 : Nat) (hs : Int32) (sa : Nat → Nat) (σ : N2) (ya : Nat → Nat) (hh : Nat → Nat → Nat) (n : Int32) (o : Nat) (η : Nat → N2) (bl : Int32) (ce : Int32) : KQ l yX6_move cX6_move 4 (some .int) 3 102 E [.ref h, .int bl, .int ce] (wHb h (sa 0) p1 p2 (ya 0) p4 p5 hs ++ (wSt E sa σ ++ wHs E ya hh n o η)) (QI E (wHb h (sa 0) p1 p2 (ya 0) p4 p5 hs ++ (wSt E sa σ ++ wHs E ya hh n o η)) (fX6_move hs σ n o η bl ce).1 (wHb h (sa 0) p1 p2 (ya 0) p4 p5 hs ++ (wSt E sa ((fX6_move hs σ n o η bl ce).2.1) ++ wHs E ya hh ((fX6_move hs σ n o η bl ce).2.2.1) ((fX6_move hs σ n o η bl ce).2.2.2.1) ((fX6_move hs σ n o η bl ce).2.2.2.2)))) := by
  refine KQ.mk RX6 rfl (by decide +kernel) (Nat.le_of_ble_eq_true rfl) ?_
  intro p e s m below meth c ls X hr w hl
  have hx := X.1
  have hb := X.2.1
  have hl : lv_has ls 4 [(0, .ref h), (1, .int bl), (2, .int ce)] := hl
  refine lv_aload_n hx hb dX6_move_0 rfl (lv_at hl 0 rfl) ?_
  refine r_get X w CL6 0 (by decide) wf_X6_10 0 rfl rfl dX6_move_1 ?_
  refine lv_iload_n hx hb dX6_move_4 rfl (lv_at hl 1 rfl) ?_
  refine r_ci w (r_runV (As := [.int bl]) (rest := []) X w (kX4_hasBall l E sa σ bl ) ck_X6_78 ⟨Nat.le_of_ble_eq_true rfl, Nat.le_of_ble_eq_true rfl⟩ [1, 2, 3, 4, 5, 6, 7, 8, 9] (hc_48 (E := E)) (by decide +kernel) (k0 := 0) CL4 rfl hl.1 (Nat.le_of_ble_eq_true rfl) rfl dX6_move_5 ⟨Nat.le_of_ble_eq_true rfl, Nat.le_of_ble_eq_true rfl⟩) (wHb h (sa 0) p1 p2 (ya 0) p4 p5 hs ++ (wSt E sa σ ++ wHs E ya hh n o η)) [1, 2, 3, 4, 5, 6, 7, 8, 9] (hc_48 (E := E)) (by decide +kernel) (ha_48 (E := E)) (hw_48 (E := E)) (fun H locs w => ?_)
  refine lv_if_eq (tgt := 18) hx hb dX6_move_8 (by decide) (fun c8_1 => ?_) (fun c8_1 => ?_)
  · refine lv_iconst (v := (-1)) hx hb dX6_move_18 (by decide) ?_
    have hq : fX6_move hs σ n o η bl ce = ((-1), σ, n, o, η) := by simp only [fX6_move, if_pos c8_1]
    obtain ⟨h0_, h1_, h2_, h3_, h4_⟩ := tup5 hq
    rw [h0_, h1_, h2_, h3_, h4_]
    exact r_iret X w hr rfl dX6_move_19
  · refine lv_iload_n hx hb dX6_move_11 rfl (lv_at hl 2 rfl) ?_
    refine r_ci w (r_runS (As := [.int ce]) (rest := []) X w (kX1_isCell l E ce ) ck_X6_43 ⟨Nat.le_of_ble_eq_true rfl, Nat.le_of_ble_eq_true rfl⟩ [] rfl (by decide +kernel) hl.1 (Nat.le_of_ble_eq_true rfl) rfl dX6_move_12 ⟨Nat.le_of_ble_eq_true rfl, Nat.le_of_ble_eq_true rfl⟩) (wHb h (sa 0) p1 p2 (ya 0) p4 p5 hs ++ (wSt E sa σ ++ wHs E ya hh n o η)) [] rfl (by decide +kernel) rfl rfl (fun H locs w => ?_)
    refine lv_if_ne (tgt := 20) hx hb dX6_move_15 (by decide) (fun c15_2 => ?_) (fun c15_2 => ?_)
    · refine lv_aload_n hx hb dX6_move_20 rfl (lv_at hl 0 rfl) ?_
      refine r_get X w CL6 0 (by decide) wf_X6_10 0 rfl rfl dX6_move_21 ?_
      refine lv_iload_n hx hb dX6_move_24 rfl (lv_at hl 1 rfl) ?_
      refine r_ci w (r_runV (As := [.int bl]) (rest := []) X w (kX4_cellOfBall l E sa σ bl ) ck_X6_81 ⟨Nat.le_of_ble_eq_true rfl, Nat.le_of_ble_eq_true rfl⟩ [1, 2, 3, 4, 5, 6, 7, 8, 9] (hc_48 (E := E)) (by decide +kernel) (k0 := 0) CL4 rfl hl.1 (Nat.le_of_ble_eq_true rfl) rfl dX6_move_25 ⟨Nat.le_of_ble_eq_true rfl, Nat.le_of_ble_eq_true rfl⟩) (wHb h (sa 0) p1 p2 (ya 0) p4 p5 hs ++ (wSt E sa σ ++ wHs E ya hh n o η)) [1, 2, 3, 4, 5, 6, 7, 8, 9] (hc_48 (E := E)) (by decide +kernel) (ha_48 (E := E)) (hw_48 (E := E)) (fun H locs w => ?_)
      refine lv_istore_n (lv' := [(3, .int (fX4_cellOfBall σ bl)), (0, .ref h), (1, .int bl), (2, .int ce)]) hx hb dX6_move_28 rfl hl (by decide) rfl (fun ls hl => ?_)
      refine lv_iload_n hx hb dX6_move_29 rfl (lv_at hl 0 rfl) ?_
      refine lv_iload_n hx hb dX6_move_30 rfl (lv_at hl 3 rfl) ?_
      refine lv_icmp_ne (tgt := 37) hx hb dX6_move_31 (by decide) (fun c31_3 => ?_) (fun c31_3 => ?_)
      · refine lv_aload_n hx hb dX6_move_37 rfl (lv_at hl 1 rfl) ?_
        refine r_get X w CL6 0 (by decide) wf_X6_10 0 rfl rfl dX6_move_38 ?_
        refine lv_iload_n hx hb dX6_move_41 rfl (lv_at hl 3 rfl) ?_
        refine r_ci w (r_runV (As := [.int ce]) (rest := []) X w (kX4_ballOnCell l E sa σ ce ) ck_X6_82 ⟨Nat.le_of_ble_eq_true rfl, Nat.le_of_ble_eq_true rfl⟩ [1, 2, 3, 4, 5, 6, 7, 8, 9] (hc_48 (E := E)) (by decide +kernel) (k0 := 0) CL4 rfl hl.1 (Nat.le_of_ble_eq_true rfl) rfl dX6_move_42 ⟨Nat.le_of_ble_eq_true rfl, Nat.le_of_ble_eq_true rfl⟩) (wHb h (sa 0) p1 p2 (ya 0) p4 p5 hs ++ (wSt E sa σ ++ wHs E ya hh n o η)) [1, 2, 3, 4, 5, 6, 7, 8, 9] (hc_48 (E := E)) (by decide +kernel) (ha_48 (E := E)) (hw_48 (E := E)) (fun H locs w => ?_)
        refine lv_bipush (v := (-5)) hx hb dX6_move_45 (by decide) ?_
        refine lv_icmp_eq (tgt := 53) hx hb dX6_move_47 (by decide) (fun c47_4 => ?_) (fun c47_4 => ?_)
        · refine lv_aload_n hx hb dX6_move_53 rfl (lv_at hl 1 rfl) ?_
          refine r_get X w CL6 3 (by decide) wf_X6_25 0 rfl rfl dX6_move_54 ?_
          refine lv_aload_n hx hb dX6_move_57 rfl (lv_at hl 1 rfl) ?_
          refine r_get X w CL6 0 (by decide) wf_X6_10 0 rfl rfl dX6_move_58 ?_
          refine r_cv w (r_runV (As := [.ref (sa 0)]) (rest := []) X w (kX2_record l E ya hh n o η sa σ ) ck_X6_53 ⟨Nat.le_of_ble_eq_true rfl, Nat.le_of_ble_eq_true rfl⟩ [10, 11, 12, 13, 14, 15, 16, 17, 18, 19, 20, 21, 22, 23, 24, 25, 26, 27, 28, 29, 30, 31, 32, 33, 34, 35, 36, 37, 38, 39, 40, 41, 42, 43, 44, 45, 46, 47, 1, 2, 3, 4, 5, 6, 7, 8, 9] (hc_49 (E := E)) (by decide +kernel) (k0 := 0) CL2 rfl hl.1 (Nat.le_of_ble_eq_true rfl) rfl dX6_move_61 ⟨Nat.le_of_ble_eq_true rfl, Nat.le_of_ble_eq_true rfl⟩) (wHb h (sa 0) p1 p2 (ya 0) p4 p5 hs ++ (wSt E sa σ ++ wHs E ya hh ((fX2_record n o η σ).1) ((fX2_record n o η σ).2.1) ((fX2_record n o η σ).2.2))) [10, 11, 12, 13, 14, 15, 16, 17, 18, 19, 20, 21, 22, 23, 24, 25, 26, 27, 28, 29, 30, 31, 32, 33, 34, 35, 36, 37, 38, 39, 40, 41, 42, 43, 44, 45, 46, 47, 1, 2, 3, 4, 5, 6, 7, 8, 9] (hc_49 (E := E)) (by decide +kernel) (ha_49 (E := E)) (hw_49 (E := E)) (fun H locs w => ?_)
          refine lv_aload_n hx hb dX6_move_64 rfl (lv_at hl 1 rfl) ?_
          refine r_get X w CL6 0 (by decide) wf_X6_10 0 rfl rfl dX6_move_65 ?_
          refine lv_iload_n hx hb dX6_move_68 rfl (lv_at hl 2 rfl) ?_
          refine lv_iload_n hx hb dX6_move_69 rfl (lv_at hl 3 rfl) ?_
          refine r_cv w (r_runV (As := [.int bl, .int ce]) (rest := []) X w (kX4_place l E sa σ bl ce ) ck_X6_85 ⟨Nat.le_of_ble_eq_true rfl, Nat.le_of_ble_eq_true rfl⟩ [1, 2, 3, 4, 5, 6, 7, 8, 9] (hc_48 (E := E)) (by decide +kernel) (k0 := 0) CL4 rfl hl.1 (Nat.le_of_ble_eq_true rfl) rfl dX6_move_70 ⟨Nat.le_of_ble_eq_true rfl, Nat.le_of_ble_eq_true rfl⟩) (wHb h (sa 0) p1 p2 (ya 0) p4 p5 hs ++ (wSt E sa (fX4_place σ bl ce) ++ wHs E ya hh ((fX2_record n o η σ).1) ((fX2_record n o η σ).2.1) ((fX2_record n o η σ).2.2))) [1, 2, 3, 4, 5, 6, 7, 8, 9] (hc_48 (E := E)) (by decide +kernel) (ha_48 (E := E)) (hw_48 (E := E)) (fun H locs w => ?_)
          refine lv_iload_n hx hb dX6_move_73 rfl (lv_at hl 0 rfl) ?_
          have hq : fX6_move hs σ n o η bl ce = ((fX4_cellOfBall σ bl), (fX4_place σ bl ce), (fX2_record n o η σ).1, (fX2_record n o η σ).2.1, (fX2_record n o η σ).2.2) := by simp only [fX6_move, if_neg c8_1, if_neg c15_2, if_neg c31_3, if_pos c47_4]
          obtain ⟨h0_, h1_, h2_, h3_, h4_⟩ := tup5 hq
          rw [h0_, h1_, h2_, h3_, h4_]
          exact r_iret X w hr rfl dX6_move_74
        · refine lv_bipush (v := (-4)) hx hb dX6_move_50 (by decide) ?_
          have hq : fX6_move hs σ n o η bl ce = ((-4), σ, n, o, η) := by simp only [fX6_move, if_neg c8_1, if_neg c15_2, if_neg c31_3, if_neg c47_4]
          obtain ⟨h0_, h1_, h2_, h3_, h4_⟩ := tup5 hq
          rw [h0_, h1_, h2_, h3_, h4_]
          exact r_iret X w hr rfl dX6_move_52
      · refine lv_bipush (v := (-5)) hx hb dX6_move_34 (by decide) ?_
        have hq : fX6_move hs σ n o η bl ce = ((-5), σ, n, o, η) := by simp only [fX6_move, if_neg c8_1, if_neg c15_2, if_pos c31_3]
        obtain ⟨h0_, h1_, h2_, h3_, h4_⟩ := tup5 hq
        rw [h0_, h1_, h2_, h3_, h4_]
        exact r_iret X w hr rfl dX6_move_36
    · refine lv_iconst (v := (-1)) hx hb dX6_move_18 (by decide) ?_
      have hq : fX6_move hs σ n o η bl ce = ((-1), σ, n, o, η) := by simp only [fX6_move, if_neg c8_1, if_pos c15_2]
      obtain ⟨h0_, h1_, h2_, h3_, h4_⟩ := tup5 hq
      rw [h0_, h1_, h2_, h3_, h4_]
      exact r_iret X w hr rfl dX6_move_19
def fX6_takeOff (hs : Int32) (σ : N2) (n : Int32) (o : Nat) (η : Nat → N2) (bl : Int32) : Int32 × N2 × Int32 × Nat × (Nat → N2) := if (fX4_hasBall σ bl) = 0 then (((-1), σ, n, o, η)) else (((fX4_cellOfBall σ bl), (fX4_lift σ bl), (fX2_record n o η σ).1, (fX2_record n o η σ).2.1, (fX2_record n o η σ).2.2))
theorem dX6_takeOff_0 : decode cX6_takeOff 0 = .ok (.aload_n 0, 1) := by decide +kernel
theorem dX6_takeOff_1 : decode cX6_takeOff 1 = .ok (.getfield 10, 3) := by decide +kernel
theorem dX6_takeOff_4 : decode cX6_takeOff 4 = .ok (.iload_n 1, 1) := by decide +kernel
theorem dX6_takeOff_5 : decode cX6_takeOff 5 = .ok (.invokevirtual 78, 3) := by decide +kernel
theorem dX6_takeOff_8 : decode cX6_takeOff 8 = .ok (.ifCond .ne 5, 3) := by decide +kernel
theorem dX6_takeOff_11 : decode cX6_takeOff 11 = .ok (.iconst (-1), 1) := by decide +kernel
theorem dX6_takeOff_12 : decode cX6_takeOff 12 = .ok (.ireturn, 1) := by decide +kernel
theorem dX6_takeOff_13 : decode cX6_takeOff 13 = .ok (.aload_n 0, 1) := by decide +kernel
theorem dX6_takeOff_14 : decode cX6_takeOff 14 = .ok (.getfield 10, 3) := by decide +kernel
theorem dX6_takeOff_17 : decode cX6_takeOff 17 = .ok (.iload_n 1, 1) := by decide +kernel
theorem dX6_takeOff_18 : decode cX6_takeOff 18 = .ok (.invokevirtual 81, 3) := by decide +kernel
theorem dX6_takeOff_21 : decode cX6_takeOff 21 = .ok (.istore_n 2, 1) := by decide +kernel
theorem dX6_takeOff_22 : decode cX6_takeOff 22 = .ok (.aload_n 0, 1) := by decide +kernel
theorem dX6_takeOff_23 : decode cX6_takeOff 23 = .ok (.getfield 25, 3) := by decide +kernel
theorem dX6_takeOff_26 : decode cX6_takeOff 26 = .ok (.aload_n 0, 1) := by decide +kernel
theorem dX6_takeOff_27 : decode cX6_takeOff 27 = .ok (.getfield 10, 3) := by decide +kernel
theorem dX6_takeOff_30 : decode cX6_takeOff 30 = .ok (.invokevirtual 53, 3) := by decide +kernel
theorem dX6_takeOff_33 : decode cX6_takeOff 33 = .ok (.aload_n 0, 1) := by decide +kernel
theorem dX6_takeOff_34 : decode cX6_takeOff 34 = .ok (.getfield 10, 3) := by decide +kernel
theorem dX6_takeOff_37 : decode cX6_takeOff 37 = .ok (.iload_n 1, 1) := by decide +kernel
theorem dX6_takeOff_38 : decode cX6_takeOff 38 = .ok (.invokevirtual 89, 3) := by decide +kernel
theorem dX6_takeOff_41 : decode cX6_takeOff 41 = .ok (.iload_n 2, 1) := by decide +kernel
theorem dX6_takeOff_42 : decode cX6_takeOff 42 = .ok (.ireturn, 1) := by decide +kernel
theorem ck_X6_89 : CkV RX6 89 RX4 yX4_lift cX4_lift 2 none 1 := ⟨wm_X6_89, wim_yX4_lift, wse_yX4_lift, wi_X4, wc_yX4_lift, by decide +kernel⟩
set_option maxHeartbeats 4000000 in
set_option maxRecDepth 100000 in
theorem kX6_takeOff (l : Launch) (E : Ev) (h : Nat) (p1 : Nat) (p2 : Nat) (p4 : Nat) (p5 : Nat) (hs : Int32) (sa : Nat → Nat) (σ : N2) (ya : Nat → Nat) (hh : Nat → Nat → Nat) (n : Int32) (o : Nat) (η : Nat → N2) (bl : Int32) : KQ l yX6_takeOff cX6_takeOff 3 (some .int) 3 102 E [.ref h, .int bl] (wHb h (sa 0) p1 p2 (ya 0) p4 p5 hs ++ (wSt E sa σ ++ wHs E ya hh n o η)) (QI E (wHb h (sa 0) p1 p2 (ya 0) p4 p5 hs ++ (wSt E sa σ ++ wHs E ya hh n o η)) (fX6_takeOff hs σ n o η bl).1 (wHb h (sa 0) p1 p2 (ya 0) p4 p5 hs ++ (wSt E sa ((fX6_takeOff hs σ n o η bl).2.1) ++ wHs E ya hh ((fX6_takeOff hs σ n o η bl).2.2.1) ((fX6_takeOff hs σ n o η bl).2.2.2.1) ((fX6_takeOff hs σ n o η bl).2.2.2.2)))) := by
  refine KQ.mk RX6 rfl (by decide +kernel) (Nat.le_of_ble_eq_true rfl) ?_
  intro p e s m below meth c ls X hr w hl
  have hx := X.1
  have hb := X.2.1
  have hl : lv_has ls 3 [(0, .ref h), (1, .int bl)] := hl
  refine lv_aload_n hx hb dX6_takeOff_0 rfl (lv_at hl 0 rfl) ?_
  refine r_get X w CL6 0 (by decide) wf_X6_10 0 rfl rfl dX6_takeOff_1 ?_
  refine lv_iload_n hx hb dX6_takeOff_4 rfl (lv_at hl 1 rfl) ?_
  refine r_ci w (r_runV (As := [.int bl]) (rest := []) X w (kX4_hasBall l E sa σ bl ) ck_X6_78 ⟨Nat.le_of_ble_eq_true rfl, Nat.le_of_ble_eq_true rfl⟩ [1, 2, 3, 4, 5, 6, 7, 8, 9] (hc_48 (E := E)) (by decide +kernel) (k0 := 0) CL4 rfl hl.1 (Nat.le_of_ble_eq_true rfl) rfl dX6_takeOff_5 ⟨Nat.le_of_ble_eq_true rfl, Nat.le_of_ble_eq_true rfl⟩) (wHb h (sa 0) p1 p2 (ya 0) p4 p5 hs ++ (wSt E sa σ ++ wHs E ya hh n o η)) [1, 2, 3, 4, 5, 6, 7, 8, 9] (hc_48 (E := E)) (by decide +kernel) (ha_48 (E := E)) (hw_48 (E := E)) (fun H locs w => ?_)
  refine lv_if_ne (tgt := 13) hx hb dX6_takeOff_8 (by decide) (fun c8_1 => ?_) (fun c8_1 => ?_)
  · refine lv_aload_n hx hb dX6_takeOff_13 rfl (lv_at hl 0 rfl) ?_
    refine r_get X w CL6 0 (by decide) wf_X6_10 0 rfl rfl dX6_takeOff_14 ?_
    refine lv_iload_n hx hb dX6_takeOff_17 rfl (lv_at hl 1 rfl) ?_
    refine r_ci w (r_runV (As := [.int bl]) (rest := []) X w (kX4_cellOfBall l E sa σ bl ) ck_X6_81 ⟨Nat.le_of_ble_eq_true rfl, Nat.le_of_ble_eq_true rfl⟩ [1, 2, 3, 4, 5, 6, 7, 8, 9] (hc_48 (E := E)) (by decide +kernel) (k0 := 0) CL4 rfl hl.1 (Nat.le_of_ble_eq_true rfl) rfl dX6_takeOff_18 ⟨Nat.le_of_ble_eq_true rfl, Nat.le_of_ble_eq_true rfl⟩) (wHb h (sa 0) p1 p2 (ya 0) p4 p5 hs ++ (wSt E sa σ ++ wHs E ya hh n o η)) [1, 2, 3, 4, 5, 6, 7, 8, 9] (hc_48 (E := E)) (by decide +kernel) (ha_48 (E := E)) (hw_48 (E := E)) (fun H locs w => ?_)
    refine lv_istore_n (lv' := [(2, .int (fX4_cellOfBall σ bl)), (0, .ref h), (1, .int bl)]) hx hb dX6_takeOff_21 rfl hl (by decide) rfl (fun ls hl => ?_)
    refine lv_aload_n hx hb dX6_takeOff_22 rfl (lv_at hl 1 rfl) ?_
    refine r_get X w CL6 3 (by decide) wf_X6_25 0 rfl rfl dX6_takeOff_23 ?_
    refine lv_aload_n hx hb dX6_takeOff_26 rfl (lv_at hl 1 rfl) ?_
    refine r_get X w CL6 0 (by decide) wf_X6_10 0 rfl rfl dX6_takeOff_27 ?_
    refine r_cv w (r_runV (As := [.ref (sa 0)]) (rest := []) X w (kX2_record l E ya hh n o η sa σ ) ck_X6_53 ⟨Nat.le_of_ble_eq_true rfl, Nat.le_of_ble_eq_true rfl⟩ [10, 11, 12, 13, 14, 15, 16, 17, 18, 19, 20, 21, 22, 23, 24, 25, 26, 27, 28, 29, 30, 31, 32, 33, 34, 35, 36, 37, 38, 39, 40, 41, 42, 43, 44, 45, 46, 47, 1, 2, 3, 4, 5, 6, 7, 8, 9] (hc_49 (E := E)) (by decide +kernel) (k0 := 0) CL2 rfl hl.1 (Nat.le_of_ble_eq_true rfl) rfl dX6_takeOff_30 ⟨Nat.le_of_ble_eq_true rfl, Nat.le_of_ble_eq_true rfl⟩) (wHb h (sa 0) p1 p2 (ya 0) p4 p5 hs ++ (wSt E sa σ ++ wHs E ya hh ((fX2_record n o η σ).1) ((fX2_record n o η σ).2.1) ((fX2_record n o η σ).2.2))) [10, 11, 12, 13, 14, 15, 16, 17, 18, 19, 20, 21, 22, 23, 24, 25, 26, 27, 28, 29, 30, 31, 32, 33, 34, 35, 36, 37, 38, 39, 40, 41, 42, 43, 44, 45, 46, 47, 1, 2, 3, 4, 5, 6, 7, 8, 9] (hc_49 (E := E)) (by decide +kernel) (ha_49 (E := E)) (hw_49 (E := E)) (fun H locs w => ?_)
    refine lv_aload_n hx hb dX6_takeOff_33 rfl (lv_at hl 1 rfl) ?_
    refine r_get X w CL6 0 (by decide) wf_X6_10 0 rfl rfl dX6_takeOff_34 ?_
    refine lv_iload_n hx hb dX6_takeOff_37 rfl (lv_at hl 2 rfl) ?_
    refine r_cv w (r_runV (As := [.int bl]) (rest := []) X w (kX4_lift l E sa σ bl ) ck_X6_89 ⟨Nat.le_of_ble_eq_true rfl, Nat.le_of_ble_eq_true rfl⟩ [1, 2, 3, 4, 5, 6, 7, 8, 9] (hc_48 (E := E)) (by decide +kernel) (k0 := 0) CL4 rfl hl.1 (Nat.le_of_ble_eq_true rfl) rfl dX6_takeOff_38 ⟨Nat.le_of_ble_eq_true rfl, Nat.le_of_ble_eq_true rfl⟩) (wHb h (sa 0) p1 p2 (ya 0) p4 p5 hs ++ (wSt E sa (fX4_lift σ bl) ++ wHs E ya hh ((fX2_record n o η σ).1) ((fX2_record n o η σ).2.1) ((fX2_record n o η σ).2.2))) [1, 2, 3, 4, 5, 6, 7, 8, 9] (hc_48 (E := E)) (by decide +kernel) (ha_48 (E := E)) (hw_48 (E := E)) (fun H locs w => ?_)
    refine lv_iload_n hx hb dX6_takeOff_41 rfl (lv_at hl 0 rfl) ?_
    have hq : fX6_takeOff hs σ n o η bl = ((fX4_cellOfBall σ bl), (fX4_lift σ bl), (fX2_record n o η σ).1, (fX2_record n o η σ).2.1, (fX2_record n o η σ).2.2) := by simp only [fX6_takeOff, if_neg c8_1]
    obtain ⟨h0_, h1_, h2_, h3_, h4_⟩ := tup5 hq
    rw [h0_, h1_, h2_, h3_, h4_]
    exact r_iret X w hr rfl dX6_takeOff_42
  · refine lv_iconst (v := (-1)) hx hb dX6_takeOff_11 (by decide) ?_
    have hq : fX6_takeOff hs σ n o η bl = ((-1), σ, n, o, η) := by simp only [fX6_takeOff, if_pos c8_1]
    obtain ⟨h0_, h1_, h2_, h3_, h4_⟩ := tup5 hq
    rw [h0_, h1_, h2_, h3_, h4_]
    exact r_iret X w hr rfl dX6_takeOff_12
def fX6_setPots (hs : Int32) (σ : N2) (n : Int32) (o : Nat) (η : Nat → N2) (op : Int32) : Int32 × N2 × Int32 × Nat × (Nat → N2) := if op < 0 then (((-2), σ, n, o, η)) else (if op ≤ 63 then (if (σ 8 1) = op then (((-5), σ, n, o, η)) else ((σ 8 1, u2 σ 8 1 op, (fX2_record n o η σ).1, (fX2_record n o η σ).2.1, (fX2_record n o η σ).2.2))) else (((-2), σ, n, o, η)))
theorem dX6_setPots_0 : decode cX6_setPots 0 = .ok (.iload_n 1, 1) := by decide +kernel
theorem dX6_setPots_1 : decode cX6_setPots 1 = .ok (.ifCond .lt 9, 3) := by decide +kernel
theorem dX6_setPots_4 : decode cX6_setPots 4 = .ok (.iload_n 1, 1) := by decide +kernel
theorem dX6_setPots_5 : decode cX6_setPots 5 = .ok (.bipush 63, 2) := by decide +kernel
theorem dX6_setPots_7 : decode cX6_setPots 7 = .ok (.if_icmp .le 6, 3) := by decide +kernel
theorem dX6_setPots_10 : decode cX6_setPots 10 = .ok (.bipush (-2), 2) := by decide +kernel
theorem dX6_setPots_12 : decode cX6_setPots 12 = .ok (.ireturn, 1) := by decide +kernel
theorem dX6_setPots_13 : decode cX6_setPots 13 = .ok (.aload_n 0, 1) := by decide +kernel
theorem dX6_setPots_14 : decode cX6_setPots 14 = .ok (.getfield 10, 3) := by decide +kernel
theorem dX6_setPots_17 : decode cX6_setPots 17 = .ok (.getfield 93, 3) := by decide +kernel
theorem dX6_setPots_20 : decode cX6_setPots 20 = .ok (.istore_n 2, 1) := by decide +kernel
theorem dX6_setPots_21 : decode cX6_setPots 21 = .ok (.iload_n 2, 1) := by decide +kernel
theorem dX6_setPots_22 : decode cX6_setPots 22 = .ok (.iload_n 1, 1) := by decide +kernel
theorem dX6_setPots_23 : decode cX6_setPots 23 = .ok (.if_icmp .ne 6, 3) := by decide +kernel
theorem dX6_setPots_26 : decode cX6_setPots 26 = .ok (.bipush (-5), 2) := by decide +kernel
theorem dX6_setPots_28 : decode cX6_setPots 28 = .ok (.ireturn, 1) := by decide +kernel
theorem dX6_setPots_29 : decode cX6_setPots 29 = .ok (.aload_n 0, 1) := by decide +kernel
theorem dX6_setPots_30 : decode cX6_setPots 30 = .ok (.getfield 25, 3) := by decide +kernel
theorem dX6_setPots_33 : decode cX6_setPots 33 = .ok (.aload_n 0, 1) := by decide +kernel
theorem dX6_setPots_34 : decode cX6_setPots 34 = .ok (.getfield 10, 3) := by decide +kernel
theorem dX6_setPots_37 : decode cX6_setPots 37 = .ok (.invokevirtual 53, 3) := by decide +kernel
theorem dX6_setPots_40 : decode cX6_setPots 40 = .ok (.aload_n 0, 1) := by decide +kernel
theorem dX6_setPots_41 : decode cX6_setPots 41 = .ok (.getfield 10, 3) := by decide +kernel
theorem dX6_setPots_44 : decode cX6_setPots 44 = .ok (.iload_n 1, 1) := by decide +kernel
theorem dX6_setPots_45 : decode cX6_setPots 45 = .ok (.putfield 93, 3) := by decide +kernel
theorem dX6_setPots_48 : decode cX6_setPots 48 = .ok (.iload_n 2, 1) := by decide +kernel
theorem dX6_setPots_49 : decode cX6_setPots 49 = .ok (.ireturn, 1) := by decide +kernel
theorem ax_50 {E : Ev} {a0 p0_0 p0_1 p0_2 p0_3 p0_4 p0_5 : Nat} {n0 : Int32} {a1 : Nat → Nat} {σ1 : N2} {a2 : Nat → Nat} {h2 : Nat → Nat → Nat} {n2 : Int32} {η2 : Nat → N2} {o2 : Nat} {x : Int32} : (wHb a0 p0_0 p0_1 p0_2 p0_3 p0_4 p0_5 n0 ++ (wSt E a1 σ1 ++ wHs E a2 h2 n2 o2 η2)).set 1 (a1 0, .inr (3, ([.ref (a1 1), .ref (a1 2), .ref (a1 3), .ref (a1 4), .ref (a1 5), .ref (a1 6), .ref (a1 7), .ref (a1 8), .int (σ1 8 0), .int (σ1 8 1), .int (σ1 8 2), .int (σ1 8 3), .int (σ1 8 4), .int (σ1 8 5)] : List Value).set 9 (.int x))) = wHb a0 p0_0 p0_1 p0_2 p0_3 p0_4 p0_5 n0 ++ (wSt E a1 (u2 σ1 8 1 x) ++ wHs E a2 h2 n2 o2 η2) := rfl
set_option maxHeartbeats 4000000 in
set_option maxRecDepth 100000 in
theorem kX6_setPots (l : Launch) (E : Ev) (h : Nat) (p1 : Nat) (p2 : Nat) (p4 : Nat) (p5 : Nat) (hs : Int32) (sa : Nat → Nat) (σ : N2) (ya : Nat → Nat) (hh : Nat → Nat → Nat) (n : Int32) (o : Nat) (η : Nat → N2) (op : Int32) : KQ l yX6_setPots cX6_setPots 3 (some .int) 3 102 E [.ref h, .int op] (wHb h (sa 0) p1 p2 (ya 0) p4 p5 hs ++ (wSt E sa σ ++ wHs E ya hh n o η)) (QI E (wHb h (sa 0) p1 p2 (ya 0) p4 p5 hs ++ (wSt E sa σ ++ wHs E ya hh n o η)) (fX6_setPots hs σ n o η op).1 (wHb h (sa 0) p1 p2 (ya 0) p4 p5 hs ++ (wSt E sa ((fX6_setPots hs σ n o η op).2.1) ++ wHs E ya hh ((fX6_setPots hs σ n o η op).2.2.1) ((fX6_setPots hs σ n o η op).2.2.2.1) ((fX6_setPots hs σ n o η op).2.2.2.2)))) := by
  refine KQ.mk RX6 rfl (by decide +kernel) (Nat.le_of_ble_eq_true rfl) ?_
  intro p e s m below meth c ls X hr w hl
  have hx := X.1
  have hb := X.2.1
  have hl : lv_has ls 3 [(0, .ref h), (1, .int op)] := hl
  refine lv_iload_n hx hb dX6_setPots_0 rfl (lv_at hl 1 rfl) ?_
  refine lv_if_lt (tgt := 10) hx hb dX6_setPots_1 (by decide) (fun c1_1 => ?_) (fun c1_1 => ?_)
  · refine lv_bipush (v := (-2)) hx hb dX6_setPots_10 (by decide) ?_
    have hq : fX6_setPots hs σ n o η op = ((-2), σ, n, o, η) := by simp only [fX6_setPots, if_pos c1_1]
    obtain ⟨h0_, h1_, h2_, h3_, h4_⟩ := tup5 hq
    rw [h0_, h1_, h2_, h3_, h4_]
    exact r_iret X w hr rfl dX6_setPots_12
  · refine lv_iload_n hx hb dX6_setPots_4 rfl (lv_at hl 1 rfl) ?_
    refine lv_bipush (v := 63) hx hb dX6_setPots_5 (by decide) ?_
    refine lv_icmp_le (tgt := 13) hx hb dX6_setPots_7 (by decide) (fun c7_2 => ?_) (fun c7_2 => ?_)
    · refine lv_aload_n hx hb dX6_setPots_13 rfl (lv_at hl 0 rfl) ?_
      refine r_get X w CL6 0 (by decide) wf_X6_10 0 rfl rfl dX6_setPots_14 ?_
      refine r_getN X w CL4 9 (by decide) nl_24 1 rfl rfl dX6_setPots_17 ?_
      refine lv_istore_n (lv' := [(2, .int (σ 8 1)), (0, .ref h), (1, .int op)]) hx hb dX6_setPots_20 rfl hl (by decide) rfl (fun ls hl => ?_)
      refine lv_iload_n hx hb dX6_setPots_21 rfl (lv_at hl 0 rfl) ?_
      refine lv_iload_n hx hb dX6_setPots_22 rfl (lv_at hl 2 rfl) ?_
      refine lv_icmp_ne (tgt := 29) hx hb dX6_setPots_23 (by decide) (fun c23_3 => ?_) (fun c23_3 => ?_)
      · refine lv_aload_n hx hb dX6_setPots_29 rfl (lv_at hl 1 rfl) ?_
        refine r_get X w CL6 3 (by decide) wf_X6_25 0 rfl rfl dX6_setPots_30 ?_
        refine lv_aload_n hx hb dX6_setPots_33 rfl (lv_at hl 1 rfl) ?_
        refine r_get X w CL6 0 (by decide) wf_X6_10 0 rfl rfl dX6_setPots_34 ?_
        refine r_cv w (r_runV (As := [.ref (sa 0)]) (rest := []) X w (kX2_record l E ya hh n o η sa σ ) ck_X6_53 ⟨Nat.le_of_ble_eq_true rfl, Nat.le_of_ble_eq_true rfl⟩ [10, 11, 12, 13, 14, 15, 16, 17, 18, 19, 20, 21, 22, 23, 24, 25, 26, 27, 28, 29, 30, 31, 32, 33, 34, 35, 36, 37, 38, 39, 40, 41, 42, 43, 44, 45, 46, 47, 1, 2, 3, 4, 5, 6, 7, 8, 9] (hc_49 (E := E)) (by decide +kernel) (k0 := 0) CL2 rfl hl.1 (Nat.le_of_ble_eq_true rfl) rfl dX6_setPots_37 ⟨Nat.le_of_ble_eq_true rfl, Nat.le_of_ble_eq_true rfl⟩) (wHb h (sa 0) p1 p2 (ya 0) p4 p5 hs ++ (wSt E sa σ ++ wHs E ya hh ((fX2_record n o η σ).1) ((fX2_record n o η σ).2.1) ((fX2_record n o η σ).2.2))) [10, 11, 12, 13, 14, 15, 16, 17, 18, 19, 20, 21, 22, 23, 24, 25, 26, 27, 28, 29, 30, 31, 32, 33, 34, 35, 36, 37, 38, 39, 40, 41, 42, 43, 44, 45, 46, 47, 1, 2, 3, 4, 5, 6, 7, 8, 9] (hc_49 (E := E)) (by decide +kernel) (ha_49 (E := E)) (hw_49 (E := E)) (fun H locs w => ?_)
        refine lv_aload_n hx hb dX6_setPots_40 rfl (lv_at hl 1 rfl) ?_
        refine r_get X w CL6 0 (by decide) wf_X6_10 0 rfl rfl dX6_setPots_41 ?_
        refine lv_iload_n hx hb dX6_setPots_44 rfl (lv_at hl 2 rfl) ?_
        refine r_putN X w (wHb h (sa 0) p1 p2 (ya 0) p4 p5 hs ++ (wSt E sa (u2 σ 8 1 op) ++ wHs E ya hh ((fX2_record n o η σ).1) ((fX2_record n o η σ).2.1) ((fX2_record n o η σ).2.2))) CL4 9 (by decide) nl_24 1 rfl rfl rfl rfl (Nat.le_of_ble_eq_true rfl) (ax_50 (E := E)) dX6_setPots_45 (fun H locs w => ?_)
        refine lv_iload_n hx hb dX6_setPots_48 rfl (lv_at hl 0 rfl) ?_
        have hq : fX6_setPots hs σ n o η op = (σ 8 1, u2 σ 8 1 op, (fX2_record n o η σ).1, (fX2_record n o η σ).2.1, (fX2_record n o η σ).2.2) := by simp only [fX6_setPots, if_neg c1_1, if_pos c7_2, if_neg c23_3]
        obtain ⟨h0_, h1_, h2_, h3_, h4_⟩ := tup5 hq
        rw [h0_, h1_, h2_, h3_, h4_]
        exact r_iret X w hr rfl dX6_setPots_49
      · refine lv_bipush (v := (-5)) hx hb dX6_setPots_26 (by decide) ?_
        have hq : fX6_setPots hs σ n o η op = ((-5), σ, n, o, η) := by simp only [fX6_setPots, if_neg c1_1, if_pos c7_2, if_pos c23_3]
        obtain ⟨h0_, h1_, h2_, h3_, h4_⟩ := tup5 hq
        rw [h0_, h1_, h2_, h3_, h4_]
        exact r_iret X w hr rfl dX6_setPots_28
    · refine lv_bipush (v := (-2)) hx hb dX6_setPots_10 (by decide) ?_
      have hq : fX6_setPots hs σ n o η op = ((-2), σ, n, o, η) := by simp only [fX6_setPots, if_neg c1_1, if_neg c7_2]
      obtain ⟨h0_, h1_, h2_, h3_, h4_⟩ := tup5 hq
      rw [h0_, h1_, h2_, h3_, h4_]
      exact r_iret X w hr rfl dX6_setPots_12
def fX6_set (hs : Int32) (σ : N2) (n : Int32) (o : Nat) (η : Nat → N2) (wh : Int32) (vl : Int32) : Int32 × N2 × Int32 × Nat × (Nat → N2) := if wh < 0 then (((-2), σ, n, o, η)) else (if wh < 3 then (if vl < (sT 0 wh.toNatClampNeg) then (((-2), σ, n, o, η)) else (if vl ≤ (sT 1 wh.toNatClampNeg) then (if (σ 6 wh.toNatClampNeg) = vl then (((-5), σ, n, o, η)) else ((σ 6 wh.toNatClampNeg, u2 σ 6 wh.toNatClampNeg vl, (fX2_record n o η σ).1, (fX2_record n o η σ).2.1, (fX2_record n o η σ).2.2))) else (((-2), σ, n, o, η)))) else (((-2), σ, n, o, η)))
theorem dX6_set_0 : decode cX6_set 0 = .ok (.iload_n 1, 1) := by decide +kernel
theorem dX6_set_1 : decode cX6_set 1 = .ok (.ifCond .lt 8, 3) := by decide +kernel
theorem dX6_set_4 : decode cX6_set 4 = .ok (.iload_n 1, 1) := by decide +kernel
theorem dX6_set_5 : decode cX6_set 5 = .ok (.iconst 3, 1) := by decide +kernel
theorem dX6_set_6 : decode cX6_set 6 = .ok (.if_icmp .lt 6, 3) := by decide +kernel
theorem dX6_set_9 : decode cX6_set 9 = .ok (.bipush (-2), 2) := by decide +kernel
theorem dX6_set_11 : decode cX6_set 11 = .ok (.ireturn, 1) := by decide +kernel
theorem dX6_set_12 : decode cX6_set 12 = .ok (.iload_n 2, 1) := by decide +kernel
theorem dX6_set_13 : decode cX6_set 13 = .ok (.getstatic 96, 3) := by decide +kernel
theorem dX6_set_16 : decode cX6_set 16 = .ok (.iload_n 1, 1) := by decide +kernel
theorem dX6_set_17 : decode cX6_set 17 = .ok (.iaload, 1) := by decide +kernel
theorem dX6_set_18 : decode cX6_set 18 = .ok (.if_icmp .lt 12, 3) := by decide +kernel
theorem dX6_set_21 : decode cX6_set 21 = .ok (.iload_n 2, 1) := by decide +kernel
theorem dX6_set_22 : decode cX6_set 22 = .ok (.getstatic 100, 3) := by decide +kernel
theorem dX6_set_25 : decode cX6_set 25 = .ok (.iload_n 1, 1) := by decide +kernel
theorem dX6_set_26 : decode cX6_set 26 = .ok (.iaload, 1) := by decide +kernel
theorem dX6_set_27 : decode cX6_set 27 = .ok (.if_icmp .le 6, 3) := by decide +kernel
theorem dX6_set_30 : decode cX6_set 30 = .ok (.bipush (-2), 2) := by decide +kernel
theorem dX6_set_32 : decode cX6_set 32 = .ok (.ireturn, 1) := by decide +kernel
theorem dX6_set_33 : decode cX6_set 33 = .ok (.aload_n 0, 1) := by decide +kernel
theorem dX6_set_34 : decode cX6_set 34 = .ok (.getfield 10, 3) := by decide +kernel
theorem dX6_set_37 : decode cX6_set 37 = .ok (.getfield 103, 3) := by decide +kernel
theorem dX6_set_40 : decode cX6_set 40 = .ok (.iload_n 1, 1) := by decide +kernel
theorem dX6_set_41 : decode cX6_set 41 = .ok (.iaload, 1) := by decide +kernel
theorem dX6_set_42 : decode cX6_set 42 = .ok (.istore_n 3, 1) := by decide +kernel
theorem dX6_set_43 : decode cX6_set 43 = .ok (.iload_n 3, 1) := by decide +kernel
theorem dX6_set_44 : decode cX6_set 44 = .ok (.iload_n 2, 1) := by decide +kernel
theorem dX6_set_45 : decode cX6_set 45 = .ok (.if_icmp .ne 6, 3) := by decide +kernel
theorem dX6_set_48 : decode cX6_set 48 = .ok (.bipush (-5), 2) := by decide +kernel
theorem dX6_set_50 : decode cX6_set 50 = .ok (.ireturn, 1) := by decide +kernel
theorem dX6_set_51 : decode cX6_set 51 = .ok (.aload_n 0, 1) := by decide +kernel
theorem dX6_set_52 : decode cX6_set 52 = .ok (.getfield 25, 3) := by decide +kernel
theorem dX6_set_55 : decode cX6_set 55 = .ok (.aload_n 0, 1) := by decide +kernel
theorem dX6_set_56 : decode cX6_set 56 = .ok (.getfield 10, 3) := by decide +kernel
theorem dX6_set_59 : decode cX6_set 59 = .ok (.invokevirtual 53, 3) := by decide +kernel
theorem dX6_set_62 : decode cX6_set 62 = .ok (.aload_n 0, 1) := by decide +kernel
theorem dX6_set_63 : decode cX6_set 63 = .ok (.getfield 10, 3) := by decide +kernel
theorem dX6_set_66 : decode cX6_set 66 = .ok (.getfield 103, 3) := by decide +kernel
theorem dX6_set_69 : decode cX6_set 69 = .ok (.iload_n 1, 1) := by decide +kernel
theorem dX6_set_70 : decode cX6_set 70 = .ok (.iload_n 2, 1) := by decide +kernel
theorem dX6_set_71 : decode cX6_set 71 = .ok (.iastore, 1) := by decide +kernel
theorem dX6_set_72 : decode cX6_set 72 = .ok (.iload_n 3, 1) := by decide +kernel
theorem dX6_set_73 : decode cX6_set 73 = .ok (.ireturn, 1) := by decide +kernel
theorem ax_51 {E : Ev} {a0 p0_0 p0_1 p0_2 p0_3 p0_4 p0_5 : Nat} {n0 : Int32} {a1 : Nat → Nat} {σ1 : N2} {a2 : Nat → Nat} {h2 : Nat → Nat → Nat} {n2 : Int32} {η2 : Nat → N2} {o2 : Nat} {i x : Int32} : (wHb a0 p0_0 p0_1 p0_2 p0_3 p0_4 p0_5 n0 ++ (wSt E a1 σ1 ++ wHs E a2 h2 n2 o2 η2)).set 8 (a1 7, .inl (E.2.1.1, 3, .inl (upd (σ1 6) i.toNatClampNeg x))) = wHb a0 p0_0 p0_1 p0_2 p0_3 p0_4 p0_5 n0 ++ (wSt E a1 (u2 σ1 6 i.toNatClampNeg x) ++ wHs E a2 h2 n2 o2 η2) := rfl
set_option maxHeartbeats 4000000 in
set_option maxRecDepth 100000 in
theorem kX6_set (l : Launch) (E : Ev) (h : Nat) (p1 : Nat) (p2 : Nat) (p4 : Nat) (p5 : Nat) (hs : Int32) (sa : Nat → Nat) (σ : N2) (ya : Nat → Nat) (hh : Nat → Nat → Nat) (n : Int32) (o : Nat) (η : Nat → N2) (wh : Int32) (vl : Int32) : KQ l yX6_set cX6_set 4 (some .int) 3 102 E [.ref h, .int wh, .int vl] (wHb h (sa 0) p1 p2 (ya 0) p4 p5 hs ++ (wSt E sa σ ++ wHs E ya hh n o η)) (QI E (wHb h (sa 0) p1 p2 (ya 0) p4 p5 hs ++ (wSt E sa σ ++ wHs E ya hh n o η)) (fX6_set hs σ n o η wh vl).1 (wHb h (sa 0) p1 p2 (ya 0) p4 p5 hs ++ (wSt E sa ((fX6_set hs σ n o η wh vl).2.1) ++ wHs E ya hh ((fX6_set hs σ n o η wh vl).2.2.1) ((fX6_set hs σ n o η wh vl).2.2.2.1) ((fX6_set hs σ n o η wh vl).2.2.2.2)))) := by
  refine KQ.mk RX6 rfl (by decide +kernel) (Nat.le_of_ble_eq_true rfl) ?_
  intro p e s m below meth c ls X hr w hl
  have hx := X.1
  have hb := X.2.1
  have hl : lv_has ls 4 [(0, .ref h), (1, .int wh), (2, .int vl)] := hl
  refine lv_iload_n hx hb dX6_set_0 rfl (lv_at hl 1 rfl) ?_
  refine lv_if_lt (tgt := 9) hx hb dX6_set_1 (by decide) (fun c1_1 => ?_) (fun c1_1 => ?_)
  · refine lv_bipush (v := (-2)) hx hb dX6_set_9 (by decide) ?_
    have hq : fX6_set hs σ n o η wh vl = ((-2), σ, n, o, η) := by simp only [fX6_set, if_pos c1_1]
    obtain ⟨h0_, h1_, h2_, h3_, h4_⟩ := tup5 hq
    rw [h0_, h1_, h2_, h3_, h4_]
    exact r_iret X w hr rfl dX6_set_11
  · refine lv_iload_n hx hb dX6_set_4 rfl (lv_at hl 1 rfl) ?_
    refine lv_iconst (v := 3) hx hb dX6_set_5 (by decide) ?_
    refine lv_icmp_lt (tgt := 12) hx hb dX6_set_6 (by decide) (fun c6_2 => ?_) (fun c6_2 => ?_)
    · refine lv_iload_n hx hb dX6_set_12 rfl (lv_at hl 2 rfl) ?_
      refine r_gets X w 0 rfl wf_X6_96 dX6_set_13 ?_
      refine lv_iload_n hx hb dX6_set_16 rfl (lv_at hl 1 rfl) ?_
      refine r_tald X w 0 rfl rfl (N := 3) (vin_lt 3 rfl c1_1 c6_2) dX6_set_17 ?_
      refine lv_icmp_lt (tgt := 30) hx hb dX6_set_18 (by decide) (fun c18_3 => ?_) (fun c18_3 => ?_)
      · refine lv_bipush (v := (-2)) hx hb dX6_set_30 (by decide) ?_
        have hq : fX6_set hs σ n o η wh vl = ((-2), σ, n, o, η) := by simp only [fX6_set, if_neg c1_1, if_pos c6_2, if_pos c18_3]
        obtain ⟨h0_, h1_, h2_, h3_, h4_⟩ := tup5 hq
        rw [h0_, h1_, h2_, h3_, h4_]
        exact r_iret X w hr rfl dX6_set_32
      · refine lv_iload_n hx hb dX6_set_21 rfl (lv_at hl 2 rfl) ?_
        refine r_gets X w 1 rfl wf_X6_100 dX6_set_22 ?_
        refine lv_iload_n hx hb dX6_set_25 rfl (lv_at hl 1 rfl) ?_
        refine r_tald X w 1 rfl rfl (N := 3) (vin_lt 3 rfl c1_1 c6_2) dX6_set_26 ?_
        refine lv_icmp_le (tgt := 33) hx hb dX6_set_27 (by decide) (fun c27_4 => ?_) (fun c27_4 => ?_)
        · refine lv_aload_n hx hb dX6_set_33 rfl (lv_at hl 0 rfl) ?_
          refine r_get X w CL6 0 (by decide) wf_X6_10 0 rfl rfl dX6_set_34 ?_
          refine r_getN X w CL4 6 (by decide) nl_26 1 rfl rfl dX6_set_37 ?_
          refine lv_iload_n hx hb dX6_set_40 rfl (lv_at hl 1 rfl) ?_
          refine r_iald X w 8 rfl (vin_lt 3 rfl c1_1 c6_2) dX6_set_41 ?_
          refine lv_istore_n (lv' := [(3, .int (σ 6 wh.toNatClampNeg)), (0, .ref h), (1, .int wh), (2, .int vl)]) hx hb dX6_set_42 rfl hl (by decide) rfl (fun ls hl => ?_)
          refine lv_iload_n hx hb dX6_set_43 rfl (lv_at hl 0 rfl) ?_
          refine lv_iload_n hx hb dX6_set_44 rfl (lv_at hl 3 rfl) ?_
          refine lv_icmp_ne (tgt := 51) hx hb dX6_set_45 (by decide) (fun c45_5 => ?_) (fun c45_5 => ?_)
          · refine lv_aload_n hx hb dX6_set_51 rfl (lv_at hl 1 rfl) ?_
            refine r_get X w CL6 3 (by decide) wf_X6_25 0 rfl rfl dX6_set_52 ?_
            refine lv_aload_n hx hb dX6_set_55 rfl (lv_at hl 1 rfl) ?_
            refine r_get X w CL6 0 (by decide) wf_X6_10 0 rfl rfl dX6_set_56 ?_
            refine r_cv w (r_runV (As := [.ref (sa 0)]) (rest := []) X w (kX2_record l E ya hh n o η sa σ ) ck_X6_53 ⟨Nat.le_of_ble_eq_true rfl, Nat.le_of_ble_eq_true rfl⟩ [10, 11, 12, 13, 14, 15, 16, 17, 18, 19, 20, 21, 22, 23, 24, 25, 26, 27, 28, 29, 30, 31, 32, 33, 34, 35, 36, 37, 38, 39, 40, 41, 42, 43, 44, 45, 46, 47, 1, 2, 3, 4, 5, 6, 7, 8, 9] (hc_49 (E := E)) (by decide +kernel) (k0 := 0) CL2 rfl hl.1 (Nat.le_of_ble_eq_true rfl) rfl dX6_set_59 ⟨Nat.le_of_ble_eq_true rfl, Nat.le_of_ble_eq_true rfl⟩) (wHb h (sa 0) p1 p2 (ya 0) p4 p5 hs ++ (wSt E sa σ ++ wHs E ya hh ((fX2_record n o η σ).1) ((fX2_record n o η σ).2.1) ((fX2_record n o η σ).2.2))) [10, 11, 12, 13, 14, 15, 16, 17, 18, 19, 20, 21, 22, 23, 24, 25, 26, 27, 28, 29, 30, 31, 32, 33, 34, 35, 36, 37, 38, 39, 40, 41, 42, 43, 44, 45, 46, 47, 1, 2, 3, 4, 5, 6, 7, 8, 9] (hc_49 (E := E)) (by decide +kernel) (ha_49 (E := E)) (hw_49 (E := E)) (fun H locs w => ?_)
            refine lv_aload_n hx hb dX6_set_62 rfl (lv_at hl 1 rfl) ?_
            refine r_get X w CL6 0 (by decide) wf_X6_10 0 rfl rfl dX6_set_63 ?_
            refine r_getN X w CL4 6 (by decide) nl_26 1 rfl rfl dX6_set_66 ?_
            refine lv_iload_n hx hb dX6_set_69 rfl (lv_at hl 2 rfl) ?_
            refine lv_iload_n hx hb dX6_set_70 rfl (lv_at hl 3 rfl) ?_
            refine r_iast X w (wHb h (sa 0) p1 p2 (ya 0) p4 p5 hs ++ (wSt E sa (u2 σ 6 wh.toNatClampNeg vl) ++ wHs E ya hh ((fX2_record n o η σ).1) ((fX2_record n o η σ).2.1) ((fX2_record n o η σ).2.2))) 8 rfl (vin_lt 3 rfl c1_1 c6_2) (ax_51 (E := E)) dX6_set_71 (fun H locs w => ?_)
            refine lv_iload_n hx hb dX6_set_72 rfl (lv_at hl 0 rfl) ?_
            have hq : fX6_set hs σ n o η wh vl = (σ 6 wh.toNatClampNeg, u2 σ 6 wh.toNatClampNeg vl, (fX2_record n o η σ).1, (fX2_record n o η σ).2.1, (fX2_record n o η σ).2.2) := by simp only [fX6_set, if_neg c1_1, if_pos c6_2, if_neg c18_3, if_pos c27_4, if_neg c45_5]
            obtain ⟨h0_, h1_, h2_, h3_, h4_⟩ := tup5 hq
            rw [h0_, h1_, h2_, h3_, h4_]
            exact r_iret X w hr rfl dX6_set_73
          · refine lv_bipush (v := (-5)) hx hb dX6_set_48 (by decide) ?_
            have hq : fX6_set hs σ n o η wh vl = ((-5), σ, n, o, η) := by simp only [fX6_set, if_neg c1_1, if_pos c6_2, if_neg c18_3, if_pos c27_4, if_pos c45_5]
            obtain ⟨h0_, h1_, h2_, h3_, h4_⟩ := tup5 hq
            rw [h0_, h1_, h2_, h3_, h4_]
            exact r_iret X w hr rfl dX6_set_50
        · refine lv_bipush (v := (-2)) hx hb dX6_set_30 (by decide) ?_
          have hq : fX6_set hs σ n o η wh vl = ((-2), σ, n, o, η) := by simp only [fX6_set, if_neg c1_1, if_pos c6_2, if_neg c18_3, if_neg c27_4]
          obtain ⟨h0_, h1_, h2_, h3_, h4_⟩ := tup5 hq
          rw [h0_, h1_, h2_, h3_, h4_]
          exact r_iret X w hr rfl dX6_set_32
    · refine lv_bipush (v := (-2)) hx hb dX6_set_9 (by decide) ?_
      have hq : fX6_set hs σ n o η wh vl = ((-2), σ, n, o, η) := by simp only [fX6_set, if_neg c1_1, if_neg c6_2]
      obtain ⟨h0_, h1_, h2_, h3_, h4_⟩ := tup5 hq
      rw [h0_, h1_, h2_, h3_, h4_]
      exact r_iret X w hr rfl dX6_set_11
def fX6_shoot (hs : Int32) (σ : N2) (n : Int32) (o : Nat) (η : Nat → N2) (z : N1) (sp : UInt32) (d : N1) (pl : Int32) (bl : Int32) (di : Int32) (sg : Int32) (sn : Int32) : Int32 × N2 × Int32 × Nat × (Nat → N2) × N1 × UInt32 × N1 := if (fX6_isPlayer pl) = 0 then (((-1), σ, n, o, η, z, sp, d)) else (if (fX4_hasBall σ bl) = 0 then (((-1), σ, n, o, η, z, sp, d)) else (if (fX6_isShot di sg sn) = 0 then (((-2), σ, n, o, η, z, sp, d)) else (if pl = (σ 8 2) then (((fX4_valueOfBall ((fX3_play z sp d σ bl di sg sn).2.2.2) (((fX3_play z sp d σ bl di sg sn).1) 6)), (fX4_scoreShot ((fX3_play z sp d σ bl di sg sn).2.2.2) (fX4_valueOfBall ((fX3_play z sp d σ bl di sg sn).2.2.2) (((fX3_play z sp d σ bl di sg sn).1) 6))), (fX2_record n o η σ).1, (fX2_record n o η σ).2.1, (fX2_record n o η σ).2.2, (fX3_play z sp d σ bl di sg sn).1, (fX3_play z sp d σ bl di sg sn).2.1, (fX3_play z sp d σ bl di sg sn).2.2.1)) else (((-4), σ, n, o, η, z, sp, d)))))
theorem dX6_shoot_0 : decode cX6_shoot 0 = .ok (.iload_n 1, 1) := by decide +kernel
theorem dX6_shoot_1 : decode cX6_shoot 1 = .ok (.invokestatic 106, 3) := by decide +kernel
theorem dX6_shoot_4 : decode cX6_shoot 4 = .ok (.ifCond .eq 14, 3) := by decide +kernel
theorem dX6_shoot_7 : decode cX6_shoot 7 = .ok (.aload_n 0, 1) := by decide +kernel
theorem dX6_shoot_8 : decode cX6_shoot 8 = .ok (.getfield 10, 3) := by decide +kernel
theorem dX6_shoot_11 : decode cX6_shoot 11 = .ok (.iload_n 2, 1) := by decide +kernel
theorem dX6_shoot_12 : decode cX6_shoot 12 = .ok (.invokevirtual 78, 3) := by decide +kernel
theorem dX6_shoot_15 : decode cX6_shoot 15 = .ok (.ifCond .ne 5, 3) := by decide +kernel
theorem dX6_shoot_18 : decode cX6_shoot 18 = .ok (.iconst (-1), 1) := by decide +kernel
theorem dX6_shoot_19 : decode cX6_shoot 19 = .ok (.ireturn, 1) := by decide +kernel
theorem dX6_shoot_20 : decode cX6_shoot 20 = .ok (.iload_n 3, 1) := by decide +kernel
theorem dX6_shoot_21 : decode cX6_shoot 21 = .ok (.iload 4, 2) := by decide +kernel
theorem dX6_shoot_23 : decode cX6_shoot 23 = .ok (.iload 5, 2) := by decide +kernel
theorem dX6_shoot_25 : decode cX6_shoot 25 = .ok (.invokestatic 109, 3) := by decide +kernel
theorem dX6_shoot_28 : decode cX6_shoot 28 = .ok (.ifCond .ne 6, 3) := by decide +kernel
theorem dX6_shoot_31 : decode cX6_shoot 31 = .ok (.bipush (-2), 2) := by decide +kernel
theorem dX6_shoot_33 : decode cX6_shoot 33 = .ok (.ireturn, 1) := by decide +kernel
theorem dX6_shoot_34 : decode cX6_shoot 34 = .ok (.iload_n 1, 1) := by decide +kernel
theorem dX6_shoot_35 : decode cX6_shoot 35 = .ok (.aload_n 0, 1) := by decide +kernel
theorem dX6_shoot_36 : decode cX6_shoot 36 = .ok (.getfield 10, 3) := by decide +kernel
theorem dX6_shoot_39 : decode cX6_shoot 39 = .ok (.getfield 113, 3) := by decide +kernel
theorem dX6_shoot_42 : decode cX6_shoot 42 = .ok (.if_icmp .eq 6, 3) := by decide +kernel
theorem dX6_shoot_45 : decode cX6_shoot 45 = .ok (.bipush (-4), 2) := by decide +kernel
theorem dX6_shoot_47 : decode cX6_shoot 47 = .ok (.ireturn, 1) := by decide +kernel
theorem dX6_shoot_48 : decode cX6_shoot 48 = .ok (.aload_n 0, 1) := by decide +kernel
theorem dX6_shoot_49 : decode cX6_shoot 49 = .ok (.getfield 25, 3) := by decide +kernel
theorem dX6_shoot_52 : decode cX6_shoot 52 = .ok (.aload_n 0, 1) := by decide +kernel
theorem dX6_shoot_53 : decode cX6_shoot 53 = .ok (.getfield 10, 3) := by decide +kernel
theorem dX6_shoot_56 : decode cX6_shoot 56 = .ok (.invokevirtual 53, 3) := by decide +kernel
theorem dX6_shoot_59 : decode cX6_shoot 59 = .ok (.aload_n 0, 1) := by decide +kernel
theorem dX6_shoot_60 : decode cX6_shoot 60 = .ok (.getfield 39, 3) := by decide +kernel
theorem dX6_shoot_63 : decode cX6_shoot 63 = .ok (.aload_n 0, 1) := by decide +kernel
theorem dX6_shoot_64 : decode cX6_shoot 64 = .ok (.getfield 10, 3) := by decide +kernel
theorem dX6_shoot_67 : decode cX6_shoot 67 = .ok (.iload_n 2, 1) := by decide +kernel
theorem dX6_shoot_68 : decode cX6_shoot 68 = .ok (.iload_n 3, 1) := by decide +kernel
theorem dX6_shoot_69 : decode cX6_shoot 69 = .ok (.iload 4, 2) := by decide +kernel
theorem dX6_shoot_71 : decode cX6_shoot 71 = .ok (.iload 5, 2) := by decide +kernel
theorem dX6_shoot_73 : decode cX6_shoot 73 = .ok (.invokevirtual 116, 3) := by decide +kernel
theorem dX6_shoot_76 : decode cX6_shoot 76 = .ok (.aload_n 0, 1) := by decide +kernel
theorem dX6_shoot_77 : decode cX6_shoot 77 = .ok (.getfield 10, 3) := by decide +kernel
theorem dX6_shoot_80 : decode cX6_shoot 80 = .ok (.aload_n 0, 1) := by decide +kernel
theorem dX6_shoot_81 : decode cX6_shoot 81 = .ok (.getfield 39, 3) := by decide +kernel
theorem dX6_shoot_84 : decode cX6_shoot 84 = .ok (.getfield 120, 3) := by decide +kernel
theorem dX6_shoot_87 : decode cX6_shoot 87 = .ok (.invokevirtual 123, 3) := by decide +kernel
theorem dX6_shoot_90 : decode cX6_shoot 90 = .ok (.istore 6, 2) := by decide +kernel
theorem dX6_shoot_92 : decode cX6_shoot 92 = .ok (.aload_n 0, 1) := by decide +kernel
theorem dX6_shoot_93 : decode cX6_shoot 93 = .ok (.getfield 10, 3) := by decide +kernel
theorem dX6_shoot_96 : decode cX6_shoot 96 = .ok (.iload 6, 2) := by decide +kernel
theorem dX6_shoot_98 : decode cX6_shoot 98 = .ok (.invokevirtual 124, 3) := by decide +kernel
theorem dX6_shoot_101 : decode cX6_shoot 101 = .ok (.iload 6, 2) := by decide +kernel
theorem dX6_shoot_103 : decode cX6_shoot 103 = .ok (.ireturn, 1) := by decide +kernel
theorem ck_X6_106 : CkS RX6 106 yX6_isPlayer cX6_isPlayer 1 (some .boolean) 1 := ⟨wm_X6_106, wst_yX6_isPlayer, wi_X6, wc_yX6_isPlayer, by decide +kernel⟩
theorem ck_X6_109 : CkS RX6 109 yX6_isShot cX6_isShot 3 (some .boolean) 3 := ⟨wm_X6_109, wst_yX6_isShot, wi_X6, wc_yX6_isShot, by decide +kernel⟩
theorem ck_X6_116 : CkV RX6 116 RX3 yX3_play cX3_play 9 none 5 := ⟨wm_X6_116, wim_yX3_play, wse_yX3_play, wi_X3, wc_yX3_play, by decide +kernel⟩
theorem ck_X6_123 : CkV RX6 123 RX4 yX4_valueOfBall cX4_valueOfBall 2 (some .int) 1 := ⟨wm_X6_123, wim_yX4_valueOfBall, wse_yX4_valueOfBall, wi_X4, wc_yX4_valueOfBall, by decide +kernel⟩
theorem ck_X6_124 : CkV RX6 124 RX4 yX4_scoreShot cX4_scoreShot 2 none 1 := ⟨wm_X6_124, wim_yX4_scoreShot, wse_yX4_scoreShot, wi_X4, wc_yX4_scoreShot, by decide +kernel⟩
theorem hc_52 {E : Ev} {a0 p0_0 p0_1 p0_2 p0_3 p0_4 p0_5 : Nat} {n0 : Int32} {a1 : Nat → Nat} {σ1 : N2} {a2 : Nat → Nat} {h2 : Nat → Nat → Nat} {n2 : Int32} {η2 : Nat → N2} {o2 : Nat} {a3 j3 : Nat} {σ3 : N1} {v3 : UInt32} {a4 : Nat} {σ4 : N1} : ([1, 2, 3, 4, 5, 6, 7, 8, 9] : List Nat).map (fun i => (wHb a0 p0_0 p0_1 p0_2 p0_3 p0_4 p0_5 n0 ++ (wSt E a1 σ1 ++ (wHs E a2 h2 n2 o2 η2 ++ (wSh a3 j3 σ3 v3 ++ wWk a4 σ4))))[i]?) = (wSt E a1 σ1).map some := by rw [show wHb a0 p0_0 p0_1 p0_2 p0_3 p0_4 p0_5 n0 ++ (wSt E a1 σ1 ++ (wHs E a2 h2 n2 o2 η2 ++ (wSh a3 j3 σ3 v3 ++ (wWk a4 σ4)))) = (wHb a0 p0_0 p0_1 p0_2 p0_3 p0_4 p0_5 n0) ++ (wSt E a1 σ1 ++ (wHs E a2 h2 n2 o2 η2 ++ (wSh a3 j3 σ3 v3 ++ (wWk a4 σ4)))) by simp only [List.append_assoc, List.nil_append, List.append_nil]]; exact get1 (s := 1) (n := 9) rfl rfl
theorem ha_52 {E : Ev} {a1 : Nat → Nat} {σ1 : N2} {τ0_0 : N2} : (wSt E a1 τ0_0).map Prod.fst = (wSt E a1 σ1).map Prod.fst := fst_St
theorem hw_52 {E : Ev} {a0 p0_0 p0_1 p0_2 p0_3 p0_4 p0_5 : Nat} {n0 : Int32} {a1 : Nat → Nat} {σ1 : N2} {a2 : Nat → Nat} {h2 : Nat → Nat → Nat} {n2 : Int32} {η2 : Nat → N2} {o2 : Nat} {a3 j3 : Nat} {σ3 : N1} {v3 : UInt32} {a4 : Nat} {σ4 : N1} {τ0_0 : N2} : wput (wHb a0 p0_0 p0_1 p0_2 p0_3 p0_4 p0_5 n0 ++ (wSt E a1 σ1 ++ (wHs E a2 h2 n2 o2 η2 ++ (wSh a3 j3 σ3 v3 ++ wWk a4 σ4)))) [1, 2, 3, 4, 5, 6, 7, 8, 9] (wSt E a1 τ0_0) = wHb a0 p0_0 p0_1 p0_2 p0_3 p0_4 p0_5 n0 ++ (wSt E a1 τ0_0 ++ (wHs E a2 h2 n2 o2 η2 ++ (wSh a3 j3 σ3 v3 ++ wWk a4 σ4))) := by
  show wput (wHb a0 p0_0 p0_1 p0_2 p0_3 p0_4 p0_5 n0 ++ (wSt E a1 σ1 ++ (wHs E a2 h2 n2 o2 η2 ++ (wSh a3 j3 σ3 v3 ++ (wWk a4 σ4))))) (rg 1 9) (wSt E a1 τ0_0) = _
  rw [show wHb a0 p0_0 p0_1 p0_2 p0_3 p0_4 p0_5 n0 ++ (wSt E a1 σ1 ++ (wHs E a2 h2 n2 o2 η2 ++ (wSh a3 j3 σ3 v3 ++ (wWk a4 σ4)))) = (wHb a0 p0_0 p0_1 p0_2 p0_3 p0_4 p0_5 n0) ++ (wSt E a1 σ1 ++ (wHs E a2 h2 n2 o2 η2 ++ (wSh a3 j3 σ3 v3 ++ (wWk a4 σ4)))) by simp only [List.append_assoc, List.nil_append, List.append_nil], put1 (s := 1) (n := 9) rfl rfl rfl]
  try simp only [List.append_assoc, List.nil_append, List.append_nil]
theorem hc_53 {E : Ev} {a0 p0_0 p0_1 p0_2 p0_3 p0_4 p0_5 : Nat} {n0 : Int32} {a1 : Nat → Nat} {σ1 : N2} {a2 : Nat → Nat} {h2 : Nat → Nat → Nat} {n2 : Int32} {η2 : Nat → N2} {o2 : Nat} {a3 j3 : Nat} {σ3 : N1} {v3 : UInt32} {a4 : Nat} {σ4 : N1} : ([10, 11, 12, 13, 14, 15, 16, 17, 18, 19, 20, 21, 22, 23, 24, 25, 26, 27, 28, 29, 30, 31, 32, 33, 34, 35, 36, 37, 38, 39, 40, 41, 42, 43, 44, 45, 46, 47, 1, 2, 3, 4, 5, 6, 7, 8, 9] : List Nat).map (fun i => (wHb a0 p0_0 p0_1 p0_2 p0_3 p0_4 p0_5 n0 ++ (wSt E a1 σ1 ++ (wHs E a2 h2 n2 o2 η2 ++ (wSh a3 j3 σ3 v3 ++ wWk a4 σ4))))[i]?) = (wHs E a2 h2 n2 o2 η2 ++ wSt E a1 σ1).map some := get_app (is1 := rg 10 38) (is2 := rg 1 9) (by rw [show wHb a0 p0_0 p0_1 p0_2 p0_3 p0_4 p0_5 n0 ++ (wSt E a1 σ1 ++ (wHs E a2 h2 n2 o2 η2 ++ (wSh a3 j3 σ3 v3 ++ (wWk a4 σ4)))) = (wHb a0 p0_0 p0_1 p0_2 p0_3 p0_4 p0_5 n0 ++ (wSt E a1 σ1)) ++ (wHs E a2 h2 n2 o2 η2 ++ (wSh a3 j3 σ3 v3 ++ (wWk a4 σ4))) by simp only [List.append_assoc, List.nil_append, List.append_nil]]; exact get1 (s := 10) (n := 38) rfl rfl) ((by rw [show wHb a0 p0_0 p0_1 p0_2 p0_3 p0_4 p0_5 n0 ++ (wSt E a1 σ1 ++ (wHs E a2 h2 n2 o2 η2 ++ (wSh a3 j3 σ3 v3 ++ (wWk a4 σ4)))) = (wHb a0 p0_0 p0_1 p0_2 p0_3 p0_4 p0_5 n0) ++ (wSt E a1 σ1 ++ (wHs E a2 h2 n2 o2 η2 ++ (wSh a3 j3 σ3 v3 ++ (wWk a4 σ4)))) by simp only [List.append_assoc, List.nil_append, List.append_nil]]; exact get1 (s := 1) (n := 9) rfl rfl))
theorem ha_53 {E : Ev} {a1 : Nat → Nat} {σ1 : N2} {a2 : Nat → Nat} {h2 : Nat → Nat → Nat} {n2 : Int32} {η2 : Nat → N2} {o2 : Nat} {τ0_0 : Int32} {τ0_1 : Nat} {τ0_2 : Nat → N2} {τ1_0 : N2} : (wHs E a2 h2 τ0_0 τ0_1 τ0_2 ++ wSt E a1 τ1_0).map Prod.fst = (wHs E a2 h2 n2 o2 η2 ++ wSt E a1 σ1).map Prod.fst := fst_app fst_Hs (fst_St)
theorem hw_53 {E : Ev} {a0 p0_0 p0_1 p0_2 p0_3 p0_4 p0_5 : Nat} {n0 : Int32} {a1 : Nat → Nat} {σ1 : N2} {a2 : Nat → Nat} {h2 : Nat → Nat → Nat} {n2 : Int32} {η2 : Nat → N2} {o2 : Nat} {a3 j3 : Nat} {σ3 : N1} {v3 : UInt32} {a4 : Nat} {σ4 : N1} {τ0_0 : Int32} {τ0_1 : Nat} {τ0_2 : Nat → N2} {τ1_0 : N2} : wput (wHb a0 p0_0 p0_1 p0_2 p0_3 p0_4 p0_5 n0 ++ (wSt E a1 σ1 ++ (wHs E a2 h2 n2 o2 η2 ++ (wSh a3 j3 σ3 v3 ++ wWk a4 σ4)))) [10, 11, 12, 13, 14, 15, 16, 17, 18, 19, 20, 21, 22, 23, 24, 25, 26, 27, 28, 29, 30, 31, 32, 33, 34, 35, 36, 37, 38, 39, 40, 41, 42, 43, 44, 45, 46, 47, 1, 2, 3, 4, 5, 6, 7, 8, 9] (wHs E a2 h2 τ0_0 τ0_1 τ0_2 ++ wSt E a1 τ1_0) = wHb a0 p0_0 p0_1 p0_2 p0_3 p0_4 p0_5 n0 ++ (wSt E a1 τ1_0 ++ (wHs E a2 h2 τ0_0 τ0_1 τ0_2 ++ (wSh a3 j3 σ3 v3 ++ wWk a4 σ4))) := by
  show wput (wHb a0 p0_0 p0_1 p0_2 p0_3 p0_4 p0_5 n0 ++ (wSt E a1 σ1 ++ (wHs E a2 h2 n2 o2 η2 ++ (wSh a3 j3 σ3 v3 ++ (wWk a4 σ4))))) (rg 10 38 ++ (rg 1 9)) (wHs E a2 h2 τ0_0 τ0_1 τ0_2 ++ wSt E a1 τ1_0) = _
  rw [wput_app rfl]
  rw [show wHb a0 p0_0 p0_1 p0_2 p0_3 p0_4 p0_5 n0 ++ (wSt E a1 σ1 ++ (wHs E a2 h2 n2 o2 η2 ++ (wSh a3 j3 σ3 v3 ++ (wWk a4 σ4)))) = (wHb a0 p0_0 p0_1 p0_2 p0_3 p0_4 p0_5 n0 ++ (wSt E a1 σ1)) ++ (wHs E a2 h2 n2 o2 η2 ++ (wSh a3 j3 σ3 v3 ++ (wWk a4 σ4))) by simp only [List.append_assoc, List.nil_append, List.append_nil], put1 (s := 10) (n := 38) rfl rfl rfl]
  rw [show (wHb a0 p0_0 p0_1 p0_2 p0_3 p0_4 p0_5 n0 ++ (wSt E a1 σ1)) ++ (wHs E a2 h2 τ0_0 τ0_1 τ0_2 ++ (wSh a3 j3 σ3 v3 ++ (wWk a4 σ4))) = (wHb a0 p0_0 p0_1 p0_2 p0_3 p0_4 p0_5 n0) ++ (wSt E a1 σ1 ++ (wHs E a2 h2 τ0_0 τ0_1 τ0_2 ++ (wSh a3 j3 σ3 v3 ++ (wWk a4 σ4)))) by simp only [List.append_assoc, List.nil_append, List.append_nil], put1 (s := 1) (n := 9) rfl rfl rfl]
  try simp only [List.append_assoc, List.nil_append, List.append_nil]
theorem hc_54 {E : Ev} {a0 p0_0 p0_1 p0_2 p0_3 p0_4 p0_5 : Nat} {n0 : Int32} {a1 : Nat → Nat} {σ1 : N2} {a2 : Nat → Nat} {h2 : Nat → Nat → Nat} {n2 : Int32} {η2 : Nat → N2} {o2 : Nat} {a3 j3 : Nat} {σ3 : N1} {v3 : UInt32} {a4 : Nat} {σ4 : N1} : ([48, 49, 1, 2, 3, 4, 5, 6, 7, 8, 9] : List Nat).map (fun i => (wHb a0 p0_0 p0_1 p0_2 p0_3 p0_4 p0_5 n0 ++ (wSt E a1 σ1 ++ (wHs E a2 h2 n2 o2 η2 ++ (wSh a3 j3 σ3 v3 ++ wWk a4 σ4))))[i]?) = (wSh a3 j3 σ3 v3 ++ (wWk a4 σ4 ++ wSt E a1 σ1)).map some := get_app (is1 := rg 48 1) (is2 := rg 49 1 ++ (rg 1 9)) (by rw [show wHb a0 p0_0 p0_1 p0_2 p0_3 p0_4 p0_5 n0 ++ (wSt E a1 σ1 ++ (wHs E a2 h2 n2 o2 η2 ++ (wSh a3 j3 σ3 v3 ++ (wWk a4 σ4)))) = (wHb a0 p0_0 p0_1 p0_2 p0_3 p0_4 p0_5 n0 ++ (wSt E a1 σ1 ++ (wHs E a2 h2 n2 o2 η2))) ++ (wSh a3 j3 σ3 v3 ++ (wWk a4 σ4)) by simp only [List.append_assoc, List.nil_append, List.append_nil]]; exact get1 (s := 48) (n := 1) rfl rfl) (get_app (is1 := rg 49 1) (is2 := rg 1 9) (by rw [show wHb a0 p0_0 p0_1 p0_2 p0_3 p0_4 p0_5 n0 ++ (wSt E a1 σ1 ++ (wHs E a2 h2 n2 o2 η2 ++ (wSh a3 j3 σ3 v3 ++ (wWk a4 σ4)))) = (wHb a0 p0_0 p0_1 p0_2 p0_3 p0_4 p0_5 n0 ++ (wSt E a1 σ1 ++ (wHs E a2 h2 n2 o2 η2 ++ (wSh a3 j3 σ3 v3)))) ++ (wWk a4 σ4 ++ (([] : va_W))) by simp only [List.append_assoc, List.nil_append, List.append_nil]]; exact get1 (s := 49) (n := 1) rfl rfl) ((by rw [show wHb a0 p0_0 p0_1 p0_2 p0_3 p0_4 p0_5 n0 ++ (wSt E a1 σ1 ++ (wHs E a2 h2 n2 o2 η2 ++ (wSh a3 j3 σ3 v3 ++ (wWk a4 σ4)))) = (wHb a0 p0_0 p0_1 p0_2 p0_3 p0_4 p0_5 n0) ++ (wSt E a1 σ1 ++ (wHs E a2 h2 n2 o2 η2 ++ (wSh a3 j3 σ3 v3 ++ (wWk a4 σ4)))) by simp only [List.append_assoc, List.nil_append, List.append_nil]]; exact get1 (s := 1) (n := 9) rfl rfl)))
theorem ha_54 {E : Ev} {a1 : Nat → Nat} {σ1 : N2} {a3 j3 : Nat} {σ3 : N1} {v3 : UInt32} {a4 : Nat} {σ4 : N1} {τ0_0 : N1} {τ0_1 : UInt32} {τ1_0 : N1} {τ2_0 : N2} : (wSh a3 j3 τ0_0 τ0_1 ++ (wWk a4 τ1_0 ++ wSt E a1 τ2_0)).map Prod.fst = (wSh a3 j3 σ3 v3 ++ (wWk a4 σ4 ++ wSt E a1 σ1)).map Prod.fst := fst_app fst_Sh (fst_app fst_Wk (fst_St))
theorem hw_54 {E : Ev} {a0 p0_0 p0_1 p0_2 p0_3 p0_4 p0_5 : Nat} {n0 : Int32} {a1 : Nat → Nat} {σ1 : N2} {a2 : Nat → Nat} {h2 : Nat → Nat → Nat} {n2 : Int32} {η2 : Nat → N2} {o2 : Nat} {a3 j3 : Nat} {σ3 : N1} {v3 : UInt32} {a4 : Nat} {σ4 : N1} {τ0_0 : N1} {τ0_1 : UInt32} {τ1_0 : N1} {τ2_0 : N2} : wput (wHb a0 p0_0 p0_1 p0_2 p0_3 p0_4 p0_5 n0 ++ (wSt E a1 σ1 ++ (wHs E a2 h2 n2 o2 η2 ++ (wSh a3 j3 σ3 v3 ++ wWk a4 σ4)))) [48, 49, 1, 2, 3, 4, 5, 6, 7, 8, 9] (wSh a3 j3 τ0_0 τ0_1 ++ (wWk a4 τ1_0 ++ wSt E a1 τ2_0)) = wHb a0 p0_0 p0_1 p0_2 p0_3 p0_4 p0_5 n0 ++ (wSt E a1 τ2_0 ++ (wHs E a2 h2 n2 o2 η2 ++ (wSh a3 j3 τ0_0 τ0_1 ++ wWk a4 τ1_0))) := by
  show wput (wHb a0 p0_0 p0_1 p0_2 p0_3 p0_4 p0_5 n0 ++ (wSt E a1 σ1 ++ (wHs E a2 h2 n2 o2 η2 ++ (wSh a3 j3 σ3 v3 ++ (wWk a4 σ4))))) (rg 48 1 ++ (rg 49 1 ++ (rg 1 9))) (wSh a3 j3 τ0_0 τ0_1 ++ (wWk a4 τ1_0 ++ wSt E a1 τ2_0)) = _
  rw [wput_app rfl]
  rw [show wHb a0 p0_0 p0_1 p0_2 p0_3 p0_4 p0_5 n0 ++ (wSt E a1 σ1 ++ (wHs E a2 h2 n2 o2 η2 ++ (wSh a3 j3 σ3 v3 ++ (wWk a4 σ4)))) = (wHb a0 p0_0 p0_1 p0_2 p0_3 p0_4 p0_5 n0 ++ (wSt E a1 σ1 ++ (wHs E a2 h2 n2 o2 η2))) ++ (wSh a3 j3 σ3 v3 ++ (wWk a4 σ4)) by simp only [List.append_assoc, List.nil_append, List.append_nil], put1 (s := 48) (n := 1) rfl rfl rfl]
  rw [wput_app rfl]
  rw [show (wHb a0 p0_0 p0_1 p0_2 p0_3 p0_4 p0_5 n0 ++ (wSt E a1 σ1 ++ (wHs E a2 h2 n2 o2 η2))) ++ (wSh a3 j3 τ0_0 τ0_1 ++ (wWk a4 σ4)) = (wHb a0 p0_0 p0_1 p0_2 p0_3 p0_4 p0_5 n0 ++ (wSt E a1 σ1 ++ (wHs E a2 h2 n2 o2 η2 ++ (wSh a3 j3 τ0_0 τ0_1)))) ++ (wWk a4 σ4 ++ (([] : va_W))) by simp only [List.append_assoc, List.nil_append, List.append_nil], put1 (s := 49) (n := 1) rfl rfl rfl]
  rw [show (wHb a0 p0_0 p0_1 p0_2 p0_3 p0_4 p0_5 n0 ++ (wSt E a1 σ1 ++ (wHs E a2 h2 n2 o2 η2 ++ (wSh a3 j3 τ0_0 τ0_1)))) ++ (wWk a4 τ1_0 ++ (([] : va_W))) = (wHb a0 p0_0 p0_1 p0_2 p0_3 p0_4 p0_5 n0) ++ (wSt E a1 σ1 ++ (wHs E a2 h2 n2 o2 η2 ++ (wSh a3 j3 τ0_0 τ0_1 ++ (wWk a4 τ1_0)))) by simp only [List.append_assoc, List.nil_append, List.append_nil], put1 (s := 1) (n := 9) rfl rfl rfl]
  try simp only [List.append_assoc, List.nil_append, List.append_nil]
set_option maxHeartbeats 4000000 in
set_option maxRecDepth 100000 in
theorem kX6_shoot (l : Launch) (E : Ev) (h : Nat) (p1 : Nat) (p2 : Nat) (p4 : Nat) (k : Nat) (hs : Int32) (sa : Nat → Nat) (σ : N2) (ya : Nat → Nat) (hh : Nat → Nat → Nat) (n : Int32) (o : Nat) (η : Nat → N2) (j : Nat) (z : N1) (sp : UInt32) (d : N1) (pl : Int32) (bl : Int32) (di : Int32) (sg : Int32) (sn : Int32) (gs : gset σ) : KQ l yX6_shoot cX6_shoot 7 (some .int) 5 119 E [.ref h, .int pl, .int bl, .int di, .int sg, .int sn] (wHb h (sa 0) p1 p2 (ya 0) p4 k hs ++ (wSt E sa σ ++ (wHs E ya hh n o η ++ (wSh k j z sp ++ wWk j d)))) (QI E (wHb h (sa 0) p1 p2 (ya 0) p4 k hs ++ (wSt E sa σ ++ (wHs E ya hh n o η ++ (wSh k j z sp ++ wWk j d)))) (fX6_shoot hs σ n o η z sp d pl bl di sg sn).1 (wHb h (sa 0) p1 p2 (ya 0) p4 k hs ++ (wSt E sa ((fX6_shoot hs σ n o η z sp d pl bl di sg sn).2.1) ++ (wHs E ya hh ((fX6_shoot hs σ n o η z sp d pl bl di sg sn).2.2.1) ((fX6_shoot hs σ n o η z sp d pl bl di sg sn).2.2.2.1) ((fX6_shoot hs σ n o η z sp d pl bl di sg sn).2.2.2.2.1) ++ (wSh k j ((fX6_shoot hs σ n o η z sp d pl bl di sg sn).2.2.2.2.2.1) ((fX6_shoot hs σ n o η z sp d pl bl di sg sn).2.2.2.2.2.2.1) ++ wWk j ((fX6_shoot hs σ n o η z sp d pl bl di sg sn).2.2.2.2.2.2.2)))))) := by
  refine KQ.mk RX6 rfl (by decide +kernel) (Nat.le_of_ble_eq_true rfl) ?_
  intro p e s m below meth c ls X hr w hl
  have hx := X.1
  have hb := X.2.1
  have hl : lv_has ls 7 [(0, .ref h), (1, .int pl), (2, .int bl), (3, .int di), (4, .int sg), (5, .int sn)] := hl
  refine lv_iload_n hx hb dX6_shoot_0 rfl (lv_at hl 1 rfl) ?_
  refine r_ci w (r_runS (As := [.int pl]) (rest := []) X w (kX6_isPlayer l E pl ) ck_X6_106 ⟨Nat.le_of_ble_eq_true rfl, Nat.le_of_ble_eq_true rfl⟩ [] rfl (by decide +kernel) hl.1 (Nat.le_of_ble_eq_true rfl) rfl dX6_shoot_1 ⟨Nat.le_of_ble_eq_true rfl, Nat.le_of_ble_eq_true rfl⟩) (wHb h (sa 0) p1 p2 (ya 0) p4 k hs ++ (wSt E sa σ ++ (wHs E ya hh n o η ++ (wSh k j z sp ++ wWk j d)))) [] rfl (by decide +kernel) rfl rfl (fun H locs w => ?_)
  refine lv_if_eq (tgt := 18) hx hb dX6_shoot_4 (by decide) (fun c4_1 => ?_) (fun c4_1 => ?_)
  · refine lv_iconst (v := (-1)) hx hb dX6_shoot_18 (by decide) ?_
    have hq : fX6_shoot hs σ n o η z sp d pl bl di sg sn = ((-1), σ, n, o, η, z, sp, d) := by simp only [fX6_shoot, if_pos c4_1]
    obtain ⟨h0_, h1_, h2_, h3_, h4_, h5_, h6_, h7_⟩ := tup8 hq
    rw [h0_, h1_, h2_, h3_, h4_, h5_, h6_, h7_]
    exact r_iret X w hr rfl dX6_shoot_19
  · refine lv_aload_n hx hb dX6_shoot_7 rfl (lv_at hl 0 rfl) ?_
    refine r_get X w CL6 0 (by decide) wf_X6_10 0 rfl rfl dX6_shoot_8 ?_
    refine lv_iload_n hx hb dX6_shoot_11 rfl (lv_at hl 2 rfl) ?_
    refine r_ci w (r_runV (As := [.int bl]) (rest := []) X w (kX4_hasBall l E sa σ bl ) ck_X6_78 ⟨Nat.le_of_ble_eq_true rfl, Nat.le_of_ble_eq_true rfl⟩ [1, 2, 3, 4, 5, 6, 7, 8, 9] (hc_52 (E := E)) (by decide +kernel) (k0 := 0) CL4 rfl hl.1 (Nat.le_of_ble_eq_true rfl) rfl dX6_shoot_12 ⟨Nat.le_of_ble_eq_true rfl, Nat.le_of_ble_eq_true rfl⟩) (wHb h (sa 0) p1 p2 (ya 0) p4 k hs ++ (wSt E sa σ ++ (wHs E ya hh n o η ++ (wSh k j z sp ++ wWk j d)))) [1, 2, 3, 4, 5, 6, 7, 8, 9] (hc_52 (E := E)) (by decide +kernel) (ha_52 (E := E)) (hw_52 (E := E)) (fun H locs w => ?_)
    refine lv_if_ne (tgt := 20) hx hb dX6_shoot_15 (by decide) (fun c15_2 => ?_) (fun c15_2 => ?_)
    · refine lv_iload_n hx hb dX6_shoot_20 rfl (lv_at hl 3 rfl) ?_
      refine lv_iload hx hb dX6_shoot_21 (lv_at hl 4 rfl) ?_
      refine lv_iload hx hb dX6_shoot_23 (lv_at hl 5 rfl) ?_
      refine r_ci w (r_runS (As := [.int di, .int sg, .int sn]) (rest := []) X w (kX6_isShot l E di sg sn ) ck_X6_109 ⟨Nat.le_of_ble_eq_true rfl, Nat.le_of_ble_eq_true rfl⟩ [] rfl (by decide +kernel) hl.1 (Nat.le_of_ble_eq_true rfl) rfl dX6_shoot_25 ⟨Nat.le_of_ble_eq_true rfl, Nat.le_of_ble_eq_true rfl⟩) (wHb h (sa 0) p1 p2 (ya 0) p4 k hs ++ (wSt E sa σ ++ (wHs E ya hh n o η ++ (wSh k j z sp ++ wWk j d)))) [] rfl (by decide +kernel) rfl rfl (fun H locs w => ?_)
      refine lv_if_ne (tgt := 34) hx hb dX6_shoot_28 (by decide) (fun c28_3 => ?_) (fun c28_3 => ?_)
      · refine lv_iload_n hx hb dX6_shoot_34 rfl (lv_at hl 1 rfl) ?_
        refine lv_aload_n hx hb dX6_shoot_35 rfl (lv_at hl 0 rfl) ?_
        refine r_get X w CL6 0 (by decide) wf_X6_10 0 rfl rfl dX6_shoot_36 ?_
        refine r_getN X w CL4 10 (by decide) nl_0 1 rfl rfl dX6_shoot_39 ?_
        refine lv_icmp_eq (tgt := 48) hx hb dX6_shoot_42 (by decide) (fun c42_4 => ?_) (fun c42_4 => ?_)
        · refine lv_aload_n hx hb dX6_shoot_48 rfl (lv_at hl 0 rfl) ?_
          refine r_get X w CL6 3 (by decide) wf_X6_25 0 rfl rfl dX6_shoot_49 ?_
          refine lv_aload_n hx hb dX6_shoot_52 rfl (lv_at hl 0 rfl) ?_
          refine r_get X w CL6 0 (by decide) wf_X6_10 0 rfl rfl dX6_shoot_53 ?_
          refine r_cv w (r_runV (As := [.ref (sa 0)]) (rest := []) X w (kX2_record l E ya hh n o η sa σ ) ck_X6_53 ⟨Nat.le_of_ble_eq_true rfl, Nat.le_of_ble_eq_true rfl⟩ [10, 11, 12, 13, 14, 15, 16, 17, 18, 19, 20, 21, 22, 23, 24, 25, 26, 27, 28, 29, 30, 31, 32, 33, 34, 35, 36, 37, 38, 39, 40, 41, 42, 43, 44, 45, 46, 47, 1, 2, 3, 4, 5, 6, 7, 8, 9] (hc_53 (E := E)) (by decide +kernel) (k0 := 0) CL2 rfl hl.1 (Nat.le_of_ble_eq_true rfl) rfl dX6_shoot_56 ⟨Nat.le_of_ble_eq_true rfl, Nat.le_of_ble_eq_true rfl⟩) (wHb h (sa 0) p1 p2 (ya 0) p4 k hs ++ (wSt E sa σ ++ (wHs E ya hh ((fX2_record n o η σ).1) ((fX2_record n o η σ).2.1) ((fX2_record n o η σ).2.2) ++ (wSh k j z sp ++ wWk j d)))) [10, 11, 12, 13, 14, 15, 16, 17, 18, 19, 20, 21, 22, 23, 24, 25, 26, 27, 28, 29, 30, 31, 32, 33, 34, 35, 36, 37, 38, 39, 40, 41, 42, 43, 44, 45, 46, 47, 1, 2, 3, 4, 5, 6, 7, 8, 9] (hc_53 (E := E)) (by decide +kernel) (ha_53 (E := E)) (hw_53 (E := E)) (fun H locs w => ?_)
          refine lv_aload_n hx hb dX6_shoot_59 rfl (lv_at hl 0 rfl) ?_
          refine r_get X w CL6 5 (by decide) wf_X6_39 0 rfl rfl dX6_shoot_60 ?_
          refine lv_aload_n hx hb dX6_shoot_63 rfl (lv_at hl 0 rfl) ?_
          refine r_get X w CL6 0 (by decide) wf_X6_10 0 rfl rfl dX6_shoot_64 ?_
          refine lv_iload_n hx hb dX6_shoot_67 rfl (lv_at hl 2 rfl) ?_
          refine lv_iload_n hx hb dX6_shoot_68 rfl (lv_at hl 3 rfl) ?_
          refine lv_iload hx hb dX6_shoot_69 (lv_at hl 4 rfl) ?_
          refine lv_iload hx hb dX6_shoot_71 (lv_at hl 5 rfl) ?_
          refine r_cv w (r_runV (As := [.ref (sa 0), .int bl, .int di, .int sg, .int sn]) (rest := []) X w (kX3_play l E k j z sp d sa σ bl di sg sn gs (sh_ok c28_3)) ck_X6_116 ⟨Nat.le_of_ble_eq_true rfl, Nat.le_of_ble_eq_true rfl⟩ [48, 49, 1, 2, 3, 4, 5, 6, 7, 8, 9] (hc_54 (E := E)) (by decide +kernel) (k0 := 0) CL3 rfl hl.1 (Nat.le_of_ble_eq_true rfl) rfl dX6_shoot_73 ⟨Nat.le_of_ble_eq_true rfl, Nat.le_of_ble_eq_true rfl⟩) (wHb h (sa 0) p1 p2 (ya 0) p4 k hs ++ (wSt E sa ((fX3_play z sp d σ bl di sg sn).2.2.2) ++ (wHs E ya hh ((fX2_record n o η σ).1) ((fX2_record n o η σ).2.1) ((fX2_record n o η σ).2.2) ++ (wSh k j ((fX3_play z sp d σ bl di sg sn).1) ((fX3_play z sp d σ bl di sg sn).2.1) ++ wWk j ((fX3_play z sp d σ bl di sg sn).2.2.1))))) [48, 49, 1, 2, 3, 4, 5, 6, 7, 8, 9] (hc_54 (E := E)) (by decide +kernel) (ha_54 (E := E)) (hw_54 (E := E)) (fun H locs w => ?_)
          refine lv_aload_n hx hb dX6_shoot_76 rfl (lv_at hl 0 rfl) ?_
          refine r_get X w CL6 0 (by decide) wf_X6_10 0 rfl rfl dX6_shoot_77 ?_
          refine lv_aload_n hx hb dX6_shoot_80 rfl (lv_at hl 0 rfl) ?_
          refine r_get X w CL6 5 (by decide) wf_X6_39 0 rfl rfl dX6_shoot_81 ?_
          refine r_getN X w CL3 8 (by decide) nl_1 48 rfl rfl dX6_shoot_84 ?_
          refine r_ci w (r_runV (As := [.int (((fX3_play z sp d σ bl di sg sn).1) 6)]) (rest := []) X w (kX4_valueOfBall l E sa ((fX3_play z sp d σ bl di sg sn).2.2.2) (((fX3_play z sp d σ bl di sg sn).1) 6) ) ck_X6_123 ⟨Nat.le_of_ble_eq_true rfl, Nat.le_of_ble_eq_true rfl⟩ [1, 2, 3, 4, 5, 6, 7, 8, 9] (hc_52 (E := E)) (by decide +kernel) (k0 := 0) CL4 rfl hl.1 (Nat.le_of_ble_eq_true rfl) rfl dX6_shoot_87 ⟨Nat.le_of_ble_eq_true rfl, Nat.le_of_ble_eq_true rfl⟩) (wHb h (sa 0) p1 p2 (ya 0) p4 k hs ++ (wSt E sa ((fX3_play z sp d σ bl di sg sn).2.2.2) ++ (wHs E ya hh ((fX2_record n o η σ).1) ((fX2_record n o η σ).2.1) ((fX2_record n o η σ).2.2) ++ (wSh k j ((fX3_play z sp d σ bl di sg sn).1) ((fX3_play z sp d σ bl di sg sn).2.1) ++ wWk j ((fX3_play z sp d σ bl di sg sn).2.2.1))))) [1, 2, 3, 4, 5, 6, 7, 8, 9] (hc_52 (E := E)) (by decide +kernel) (ha_52 (E := E)) (hw_52 (E := E)) (fun H locs w => ?_)
          refine lv_istore (lv' := [(6, .int (fX4_valueOfBall ((fX3_play z sp d σ bl di sg sn).2.2.2) (((fX3_play z sp d σ bl di sg sn).1) 6))), (0, .ref h), (1, .int pl), (2, .int bl), (3, .int di), (4, .int sg), (5, .int sn)]) hx hb dX6_shoot_90 hl (by decide) rfl (fun ls hl => ?_)
          refine lv_aload_n hx hb dX6_shoot_92 rfl (lv_at hl 1 rfl) ?_
          refine r_get X w CL6 0 (by decide) wf_X6_10 0 rfl rfl dX6_shoot_93 ?_
          refine lv_iload hx hb dX6_shoot_96 (lv_at hl 0 rfl) ?_
          refine r_cv w (r_runV (As := [.int (fX4_valueOfBall ((fX3_play z sp d σ bl di sg sn).2.2.2) (((fX3_play z sp d σ bl di sg sn).1) 6))]) (rest := []) X w (kX4_scoreShot l E sa ((fX3_play z sp d σ bl di sg sn).2.2.2) (fX4_valueOfBall ((fX3_play z sp d σ bl di sg sn).2.2.2) (((fX3_play z sp d σ bl di sg sn).1) 6)) ) ck_X6_124 ⟨Nat.le_of_ble_eq_true rfl, Nat.le_of_ble_eq_true rfl⟩ [1, 2, 3, 4, 5, 6, 7, 8, 9] (hc_52 (E := E)) (by decide +kernel) (k0 := 0) CL4 rfl hl.1 (Nat.le_of_ble_eq_true rfl) rfl dX6_shoot_98 ⟨Nat.le_of_ble_eq_true rfl, Nat.le_of_ble_eq_true rfl⟩) (wHb h (sa 0) p1 p2 (ya 0) p4 k hs ++ (wSt E sa (fX4_scoreShot ((fX3_play z sp d σ bl di sg sn).2.2.2) (fX4_valueOfBall ((fX3_play z sp d σ bl di sg sn).2.2.2) (((fX3_play z sp d σ bl di sg sn).1) 6))) ++ (wHs E ya hh ((fX2_record n o η σ).1) ((fX2_record n o η σ).2.1) ((fX2_record n o η σ).2.2) ++ (wSh k j ((fX3_play z sp d σ bl di sg sn).1) ((fX3_play z sp d σ bl di sg sn).2.1) ++ wWk j ((fX3_play z sp d σ bl di sg sn).2.2.1))))) [1, 2, 3, 4, 5, 6, 7, 8, 9] (hc_52 (E := E)) (by decide +kernel) (ha_52 (E := E)) (hw_52 (E := E)) (fun H locs w => ?_)
          refine lv_iload hx hb dX6_shoot_101 (lv_at hl 0 rfl) ?_
          have hq : fX6_shoot hs σ n o η z sp d pl bl di sg sn = ((fX4_valueOfBall ((fX3_play z sp d σ bl di sg sn).2.2.2) (((fX3_play z sp d σ bl di sg sn).1) 6)), (fX4_scoreShot ((fX3_play z sp d σ bl di sg sn).2.2.2) (fX4_valueOfBall ((fX3_play z sp d σ bl di sg sn).2.2.2) (((fX3_play z sp d σ bl di sg sn).1) 6))), (fX2_record n o η σ).1, (fX2_record n o η σ).2.1, (fX2_record n o η σ).2.2, (fX3_play z sp d σ bl di sg sn).1, (fX3_play z sp d σ bl di sg sn).2.1, (fX3_play z sp d σ bl di sg sn).2.2.1) := by simp only [fX6_shoot, if_neg c4_1, if_neg c15_2, if_neg c28_3, if_pos c42_4]
          obtain ⟨h0_, h1_, h2_, h3_, h4_, h5_, h6_, h7_⟩ := tup8 hq
          rw [h0_, h1_, h2_, h3_, h4_, h5_, h6_, h7_]
          exact r_iret X w hr rfl dX6_shoot_103
        · refine lv_bipush (v := (-4)) hx hb dX6_shoot_45 (by decide) ?_
          have hq : fX6_shoot hs σ n o η z sp d pl bl di sg sn = ((-4), σ, n, o, η, z, sp, d) := by simp only [fX6_shoot, if_neg c4_1, if_neg c15_2, if_neg c28_3, if_neg c42_4]
          obtain ⟨h0_, h1_, h2_, h3_, h4_, h5_, h6_, h7_⟩ := tup8 hq
          rw [h0_, h1_, h2_, h3_, h4_, h5_, h6_, h7_]
          exact r_iret X w hr rfl dX6_shoot_47
      · refine lv_bipush (v := (-2)) hx hb dX6_shoot_31 (by decide) ?_
        have hq : fX6_shoot hs σ n o η z sp d pl bl di sg sn = ((-2), σ, n, o, η, z, sp, d) := by simp only [fX6_shoot, if_neg c4_1, if_neg c15_2, if_pos c28_3]
        obtain ⟨h0_, h1_, h2_, h3_, h4_, h5_, h6_, h7_⟩ := tup8 hq
        rw [h0_, h1_, h2_, h3_, h4_, h5_, h6_, h7_]
        exact r_iret X w hr rfl dX6_shoot_33
    · refine lv_iconst (v := (-1)) hx hb dX6_shoot_18 (by decide) ?_
      have hq : fX6_shoot hs σ n o η z sp d pl bl di sg sn = ((-1), σ, n, o, η, z, sp, d) := by simp only [fX6_shoot, if_neg c4_1, if_pos c15_2]
      obtain ⟨h0_, h1_, h2_, h3_, h4_, h5_, h6_, h7_⟩ := tup8 hq
      rw [h0_, h1_, h2_, h3_, h4_, h5_, h6_, h7_]
      exact r_iret X w hr rfl dX6_shoot_19
def fX6_pass (hs : Int32) (σ : N2) (n : Int32) (o : Nat) (η : Nat → N2) (pl : Int32) : Int32 × N2 × Int32 × Nat × (Nat → N2) := if (fX6_isPlayer pl) = 0 then (((-1), σ, n, o, η)) else (if pl = (σ 8 2) then ((σ 8 3, (fX4_changeTurn σ), (fX2_record n o η σ).1, (fX2_record n o η σ).2.1, (fX2_record n o η σ).2.2)) else (((-4), σ, n, o, η)))
theorem dX6_pass_0 : decode cX6_pass 0 = .ok (.iload_n 1, 1) := by decide +kernel
theorem dX6_pass_1 : decode cX6_pass 1 = .ok (.invokestatic 106, 3) := by decide +kernel
theorem dX6_pass_4 : decode cX6_pass 4 = .ok (.ifCond .ne 5, 3) := by decide +kernel
theorem dX6_pass_7 : decode cX6_pass 7 = .ok (.iconst (-1), 1) := by decide +kernel
theorem dX6_pass_8 : decode cX6_pass 8 = .ok (.ireturn, 1) := by decide +kernel
theorem dX6_pass_9 : decode cX6_pass 9 = .ok (.iload_n 1, 1) := by decide +kernel
theorem dX6_pass_10 : decode cX6_pass 10 = .ok (.aload_n 0, 1) := by decide +kernel
theorem dX6_pass_11 : decode cX6_pass 11 = .ok (.getfield 10, 3) := by decide +kernel
theorem dX6_pass_14 : decode cX6_pass 14 = .ok (.getfield 113, 3) := by decide +kernel
theorem dX6_pass_17 : decode cX6_pass 17 = .ok (.if_icmp .eq 6, 3) := by decide +kernel
theorem dX6_pass_20 : decode cX6_pass 20 = .ok (.bipush (-4), 2) := by decide +kernel
theorem dX6_pass_22 : decode cX6_pass 22 = .ok (.ireturn, 1) := by decide +kernel
theorem dX6_pass_23 : decode cX6_pass 23 = .ok (.aload_n 0, 1) := by decide +kernel
theorem dX6_pass_24 : decode cX6_pass 24 = .ok (.getfield 10, 3) := by decide +kernel
theorem dX6_pass_27 : decode cX6_pass 27 = .ok (.getfield 127, 3) := by decide +kernel
theorem dX6_pass_30 : decode cX6_pass 30 = .ok (.istore_n 2, 1) := by decide +kernel
theorem dX6_pass_31 : decode cX6_pass 31 = .ok (.aload_n 0, 1) := by decide +kernel
theorem dX6_pass_32 : decode cX6_pass 32 = .ok (.getfield 25, 3) := by decide +kernel
theorem dX6_pass_35 : decode cX6_pass 35 = .ok (.aload_n 0, 1) := by decide +kernel
theorem dX6_pass_36 : decode cX6_pass 36 = .ok (.getfield 10, 3) := by decide +kernel
theorem dX6_pass_39 : decode cX6_pass 39 = .ok (.invokevirtual 53, 3) := by decide +kernel
theorem dX6_pass_42 : decode cX6_pass 42 = .ok (.aload_n 0, 1) := by decide +kernel
theorem dX6_pass_43 : decode cX6_pass 43 = .ok (.getfield 10, 3) := by decide +kernel
theorem dX6_pass_46 : decode cX6_pass 46 = .ok (.invokevirtual 130, 3) := by decide +kernel
theorem dX6_pass_49 : decode cX6_pass 49 = .ok (.iload_n 2, 1) := by decide +kernel
theorem dX6_pass_50 : decode cX6_pass 50 = .ok (.ireturn, 1) := by decide +kernel
theorem ck_X6_130 : CkV RX6 130 RX4 yX4_changeTurn cX4_changeTurn 1 none 0 := ⟨wm_X6_130, wim_yX4_changeTurn, wse_yX4_changeTurn, wi_X4, wc_yX4_changeTurn, by decide +kernel⟩
set_option maxHeartbeats 4000000 in
set_option maxRecDepth 100000 in
theorem kX6_pass (l : Launch) (E : Ev) (h : Nat) (p1 : Nat) (p2 : Nat) (p4 : Nat) (p5 : Nat) (hs : Int32) (sa : Nat → Nat) (σ : N2) (ya : Nat → Nat) (hh : Nat → Nat → Nat) (n : Int32) (o : Nat) (η : Nat → N2) (pl : Int32) : KQ l yX6_pass cX6_pass 3 (some .int) 3 102 E [.ref h, .int pl] (wHb h (sa 0) p1 p2 (ya 0) p4 p5 hs ++ (wSt E sa σ ++ wHs E ya hh n o η)) (QI E (wHb h (sa 0) p1 p2 (ya 0) p4 p5 hs ++ (wSt E sa σ ++ wHs E ya hh n o η)) (fX6_pass hs σ n o η pl).1 (wHb h (sa 0) p1 p2 (ya 0) p4 p5 hs ++ (wSt E sa ((fX6_pass hs σ n o η pl).2.1) ++ wHs E ya hh ((fX6_pass hs σ n o η pl).2.2.1) ((fX6_pass hs σ n o η pl).2.2.2.1) ((fX6_pass hs σ n o η pl).2.2.2.2)))) := by
  refine KQ.mk RX6 rfl (by decide +kernel) (Nat.le_of_ble_eq_true rfl) ?_
  intro p e s m below meth c ls X hr w hl
  have hx := X.1
  have hb := X.2.1
  have hl : lv_has ls 3 [(0, .ref h), (1, .int pl)] := hl
  refine lv_iload_n hx hb dX6_pass_0 rfl (lv_at hl 1 rfl) ?_
  refine r_ci w (r_runS (As := [.int pl]) (rest := []) X w (kX6_isPlayer l E pl ) ck_X6_106 ⟨Nat.le_of_ble_eq_true rfl, Nat.le_of_ble_eq_true rfl⟩ [] rfl (by decide +kernel) hl.1 (Nat.le_of_ble_eq_true rfl) rfl dX6_pass_1 ⟨Nat.le_of_ble_eq_true rfl, Nat.le_of_ble_eq_true rfl⟩) (wHb h (sa 0) p1 p2 (ya 0) p4 p5 hs ++ (wSt E sa σ ++ wHs E ya hh n o η)) [] rfl (by decide +kernel) rfl rfl (fun H locs w => ?_)
  refine lv_if_ne (tgt := 9) hx hb dX6_pass_4 (by decide) (fun c4_1 => ?_) (fun c4_1 => ?_)
  · refine lv_iload_n hx hb dX6_pass_9 rfl (lv_at hl 1 rfl) ?_
    refine lv_aload_n hx hb dX6_pass_10 rfl (lv_at hl 0 rfl) ?_
    refine r_get X w CL6 0 (by decide) wf_X6_10 0 rfl rfl dX6_pass_11 ?_
    refine r_getN X w CL4 10 (by decide) nl_0 1 rfl rfl dX6_pass_14 ?_
    refine lv_icmp_eq (tgt := 23) hx hb dX6_pass_17 (by decide) (fun c17_2 => ?_) (fun c17_2 => ?_)
    · refine lv_aload_n hx hb dX6_pass_23 rfl (lv_at hl 0 rfl) ?_
      refine r_get X w CL6 0 (by decide) wf_X6_10 0 rfl rfl dX6_pass_24 ?_
      refine r_getN X w CL4 11 (by decide) nl_2 1 rfl rfl dX6_pass_27 ?_
      refine lv_istore_n (lv' := [(2, .int (σ 8 3)), (0, .ref h), (1, .int pl)]) hx hb dX6_pass_30 rfl hl (by decide) rfl (fun ls hl => ?_)
      refine lv_aload_n hx hb dX6_pass_31 rfl (lv_at hl 1 rfl) ?_
      refine r_get X w CL6 3 (by decide) wf_X6_25 0 rfl rfl dX6_pass_32 ?_
      refine lv_aload_n hx hb dX6_pass_35 rfl (lv_at hl 1 rfl) ?_
      refine r_get X w CL6 0 (by decide) wf_X6_10 0 rfl rfl dX6_pass_36 ?_
      refine r_cv w (r_runV (As := [.ref (sa 0)]) (rest := []) X w (kX2_record l E ya hh n o η sa σ ) ck_X6_53 ⟨Nat.le_of_ble_eq_true rfl, Nat.le_of_ble_eq_true rfl⟩ [10, 11, 12, 13, 14, 15, 16, 17, 18, 19, 20, 21, 22, 23, 24, 25, 26, 27, 28, 29, 30, 31, 32, 33, 34, 35, 36, 37, 38, 39, 40, 41, 42, 43, 44, 45, 46, 47, 1, 2, 3, 4, 5, 6, 7, 8, 9] (hc_49 (E := E)) (by decide +kernel) (k0 := 0) CL2 rfl hl.1 (Nat.le_of_ble_eq_true rfl) rfl dX6_pass_39 ⟨Nat.le_of_ble_eq_true rfl, Nat.le_of_ble_eq_true rfl⟩) (wHb h (sa 0) p1 p2 (ya 0) p4 p5 hs ++ (wSt E sa σ ++ wHs E ya hh ((fX2_record n o η σ).1) ((fX2_record n o η σ).2.1) ((fX2_record n o η σ).2.2))) [10, 11, 12, 13, 14, 15, 16, 17, 18, 19, 20, 21, 22, 23, 24, 25, 26, 27, 28, 29, 30, 31, 32, 33, 34, 35, 36, 37, 38, 39, 40, 41, 42, 43, 44, 45, 46, 47, 1, 2, 3, 4, 5, 6, 7, 8, 9] (hc_49 (E := E)) (by decide +kernel) (ha_49 (E := E)) (hw_49 (E := E)) (fun H locs w => ?_)
      refine lv_aload_n hx hb dX6_pass_42 rfl (lv_at hl 1 rfl) ?_
      refine r_get X w CL6 0 (by decide) wf_X6_10 0 rfl rfl dX6_pass_43 ?_
      refine r_cv w (r_runV (As := []) (rest := []) X w (kX4_changeTurn l E sa σ ) ck_X6_130 ⟨Nat.le_of_ble_eq_true rfl, Nat.le_of_ble_eq_true rfl⟩ [1, 2, 3, 4, 5, 6, 7, 8, 9] (hc_48 (E := E)) (by decide +kernel) (k0 := 0) CL4 rfl hl.1 (Nat.le_of_ble_eq_true rfl) rfl dX6_pass_46 ⟨Nat.le_of_ble_eq_true rfl, Nat.le_of_ble_eq_true rfl⟩) (wHb h (sa 0) p1 p2 (ya 0) p4 p5 hs ++ (wSt E sa (fX4_changeTurn σ) ++ wHs E ya hh ((fX2_record n o η σ).1) ((fX2_record n o η σ).2.1) ((fX2_record n o η σ).2.2))) [1, 2, 3, 4, 5, 6, 7, 8, 9] (hc_48 (E := E)) (by decide +kernel) (ha_48 (E := E)) (hw_48 (E := E)) (fun H locs w => ?_)
      refine lv_iload_n hx hb dX6_pass_49 rfl (lv_at hl 0 rfl) ?_
      have hq : fX6_pass hs σ n o η pl = (σ 8 3, (fX4_changeTurn σ), (fX2_record n o η σ).1, (fX2_record n o η σ).2.1, (fX2_record n o η σ).2.2) := by simp only [fX6_pass, if_neg c4_1, if_pos c17_2]
      obtain ⟨h0_, h1_, h2_, h3_, h4_⟩ := tup5 hq
      rw [h0_, h1_, h2_, h3_, h4_]
      exact r_iret X w hr rfl dX6_pass_50
    · refine lv_bipush (v := (-4)) hx hb dX6_pass_20 (by decide) ?_
      have hq : fX6_pass hs σ n o η pl = ((-4), σ, n, o, η) := by simp only [fX6_pass, if_neg c4_1, if_neg c17_2]
      obtain ⟨h0_, h1_, h2_, h3_, h4_⟩ := tup5 hq
      rw [h0_, h1_, h2_, h3_, h4_]
      exact r_iret X w hr rfl dX6_pass_22
  · refine lv_iconst (v := (-1)) hx hb dX6_pass_7 (by decide) ?_
    have hq : fX6_pass hs σ n o η pl = ((-1), σ, n, o, η) := by simp only [fX6_pass, if_pos c4_1]
    obtain ⟨h0_, h1_, h2_, h3_, h4_⟩ := tup5 hq
    rw [h0_, h1_, h2_, h3_, h4_]
    exact r_iret X w hr rfl dX6_pass_8
def fX6_type (hs : Int32) (t : N2) (ch : Int32) : Int32 × N2 := if ((fX0_append t ch).1) = 0 then (((-3), (fX0_append t ch).2)) else ((((fX0_append t ch).2) 3 0, (fX0_append t ch).2))
theorem dX6_type_0 : decode cX6_type 0 = .ok (.aload_n 0, 1) := by decide +kernel
theorem dX6_type_1 : decode cX6_type 1 = .ok (.getfield 32, 3) := by decide +kernel
theorem dX6_type_4 : decode cX6_type 4 = .ok (.iload_n 1, 1) := by decide +kernel
theorem dX6_type_5 : decode cX6_type 5 = .ok (.invokevirtual 133, 3) := by decide +kernel
theorem dX6_type_8 : decode cX6_type 8 = .ok (.ifCond .eq 13, 3) := by decide +kernel
theorem dX6_type_11 : decode cX6_type 11 = .ok (.aload_n 0, 1) := by decide +kernel
theorem dX6_type_12 : decode cX6_type 12 = .ok (.getfield 32, 3) := by decide +kernel
theorem dX6_type_15 : decode cX6_type 15 = .ok (.getfield 137, 3) := by decide +kernel
theorem dX6_type_18 : decode cX6_type 18 = .ok (.goto 5, 3) := by decide +kernel
theorem dX6_type_21 : decode cX6_type 21 = .ok (.bipush (-3), 2) := by decide +kernel
theorem dX6_type_23 : decode cX6_type 23 = .ok (.ireturn, 1) := by decide +kernel
theorem ck_X6_133 : CkV RX6 133 RX0 yX0_append cX0_append 2 (some .boolean) 1 := ⟨wm_X6_133, wim_yX0_append, wse_yX0_append, wi_X0, wc_yX0_append, by decide +kernel⟩
theorem hc_55 {E : Ev} {a0 p0_0 p0_1 p0_2 p0_3 p0_4 p0_5 : Nat} {n0 : Int32} {a1 : Nat → Nat} {σ1 : N2} : ([1, 2, 3, 4] : List Nat).map (fun i => (wHb a0 p0_0 p0_1 p0_2 p0_3 p0_4 p0_5 n0 ++ wTx E a1 σ1)[i]?) = (wTx E a1 σ1).map some := rfl
theorem ha_55 {E : Ev} {a1 : Nat → Nat} {σ1 : N2} {τ0_0 : N2} : (wTx E a1 τ0_0).map Prod.fst = (wTx E a1 σ1).map Prod.fst := rfl
theorem hw_55 {E : Ev} {a0 p0_0 p0_1 p0_2 p0_3 p0_4 p0_5 : Nat} {n0 : Int32} {a1 : Nat → Nat} {σ1 : N2} {τ0_0 : N2} : wput (wHb a0 p0_0 p0_1 p0_2 p0_3 p0_4 p0_5 n0 ++ wTx E a1 σ1) [1, 2, 3, 4] (wTx E a1 τ0_0) = wHb a0 p0_0 p0_1 p0_2 p0_3 p0_4 p0_5 n0 ++ wTx E a1 τ0_0 := rfl
set_option maxHeartbeats 4000000 in
set_option maxRecDepth 100000 in
theorem kX6_type (l : Launch) (E : Ev) (h : Nat) (p0 : Nat) (p1 : Nat) (p2 : Nat) (p3 : Nat) (p5 : Nat) (hs : Int32) (xa : Nat → Nat) (t : N2) (ch : Int32) (hc : vp_nar .char ch = ch) : KQ l yX6_type cX6_type 2 (some .int) 1 21 E [.ref h, .int ch] (wHb h p0 p1 p2 p3 (xa 0) p5 hs ++ wTx E xa t) (QI E (wHb h p0 p1 p2 p3 (xa 0) p5 hs ++ wTx E xa t) (fX6_type hs t ch).1 (wHb h p0 p1 p2 p3 (xa 0) p5 hs ++ wTx E xa ((fX6_type hs t ch).2))) := by
  refine KQ.mk RX6 rfl (by decide +kernel) (Nat.le_of_ble_eq_true rfl) ?_
  intro p e s m below meth c ls X hr w hl
  have hx := X.1
  have hb := X.2.1
  have hl : lv_has ls 2 [(0, .ref h), (1, .int ch)] := hl
  refine lv_aload_n hx hb dX6_type_0 rfl (lv_at hl 0 rfl) ?_
  refine r_get X w CL6 4 (by decide) wf_X6_32 0 rfl rfl dX6_type_1 ?_
  refine lv_iload_n hx hb dX6_type_4 rfl (lv_at hl 1 rfl) ?_
  refine r_ci w (r_runV (As := [.int ch]) (rest := []) X w (kX0_append l E xa t ch hc) ck_X6_133 ⟨Nat.le_of_ble_eq_true rfl, Nat.le_of_ble_eq_true rfl⟩ [1, 2, 3, 4] (hc_55 (E := E)) (by decide +kernel) (k0 := 0) CL0 rfl hl.1 (Nat.le_of_ble_eq_true rfl) rfl dX6_type_5 ⟨Nat.le_of_ble_eq_true rfl, Nat.le_of_ble_eq_true rfl⟩) (wHb h p0 p1 p2 p3 (xa 0) p5 hs ++ wTx E xa ((fX0_append t ch).2)) [1, 2, 3, 4] (hc_55 (E := E)) (by decide +kernel) (ha_55 (E := E)) (hw_55 (E := E)) (fun H locs w => ?_)
  refine lv_if_eq (tgt := 21) hx hb dX6_type_8 (by decide) (fun c8_1 => ?_) (fun c8_1 => ?_)
  · refine lv_bipush (v := (-3)) hx hb dX6_type_21 (by decide) ?_
    have hq : fX6_type hs t ch = ((-3), (fX0_append t ch).2) := by simp only [fX6_type, if_pos c8_1]
    obtain ⟨h0_, h1_⟩ := tup2 hq
    rw [h0_, h1_]
    exact r_iret X w hr rfl dX6_type_23
  · refine lv_aload_n hx hb dX6_type_11 rfl (lv_at hl 0 rfl) ?_
    refine r_get X w CL6 4 (by decide) wf_X6_32 0 rfl rfl dX6_type_12 ?_
    refine r_getN X w CL0 1 (by decide) nl_3 1 rfl rfl dX6_type_15 ?_
    refine lv_goto (tgt := 23) hx hb dX6_type_18 (by decide) ?_
    have hq : fX6_type hs t ch = (((fX0_append t ch).2) 3 0, (fX0_append t ch).2) := by simp only [fX6_type, if_neg c8_1]
    obtain ⟨h0_, h1_⟩ := tup2 hq
    rw [h0_, h1_]
    exact r_iret X w hr rfl dX6_type_23
def fX6_clearText (hs : Int32) (t : N2) : Int32 × N2 := (t 3 0, u2 t 3 0 0)
theorem dX6_clearText_0 : decode cX6_clearText 0 = .ok (.aload_n 0, 1) := by decide +kernel
theorem dX6_clearText_1 : decode cX6_clearText 1 = .ok (.getfield 32, 3) := by decide +kernel
theorem dX6_clearText_4 : decode cX6_clearText 4 = .ok (.getfield 137, 3) := by decide +kernel
theorem dX6_clearText_7 : decode cX6_clearText 7 = .ok (.istore_n 1, 1) := by decide +kernel
theorem dX6_clearText_8 : decode cX6_clearText 8 = .ok (.aload_n 0, 1) := by decide +kernel
theorem dX6_clearText_9 : decode cX6_clearText 9 = .ok (.getfield 32, 3) := by decide +kernel
theorem dX6_clearText_12 : decode cX6_clearText 12 = .ok (.iconst 0, 1) := by decide +kernel
theorem dX6_clearText_13 : decode cX6_clearText 13 = .ok (.putfield 137, 3) := by decide +kernel
theorem dX6_clearText_16 : decode cX6_clearText 16 = .ok (.iload_n 1, 1) := by decide +kernel
theorem dX6_clearText_17 : decode cX6_clearText 17 = .ok (.ireturn, 1) := by decide +kernel
theorem ax_56 {E : Ev} {a0 p0_0 p0_1 p0_2 p0_3 p0_4 p0_5 : Nat} {n0 : Int32} {a1 : Nat → Nat} {σ1 : N2} {x : Int32} : (wHb a0 p0_0 p0_1 p0_2 p0_3 p0_4 p0_5 n0 ++ wTx E a1 σ1).set 1 (a1 0, .inr (0, ([.ref (a1 1), .int (σ1 3 0), .ref (a1 2), .ref (a1 3), .int (σ1 3 1), .int (σ1 3 2), .int (σ1 3 3)] : List Value).set 1 (.int x))) = wHb a0 p0_0 p0_1 p0_2 p0_3 p0_4 p0_5 n0 ++ wTx E a1 (u2 σ1 3 0 x) := rfl
set_option maxHeartbeats 4000000 in
set_option maxRecDepth 100000 in
theorem kX6_clearText (l : Launch) (E : Ev) (h : Nat) (p0 : Nat) (p1 : Nat) (p2 : Nat) (p3 : Nat) (p5 : Nat) (hs : Int32) (xa : Nat → Nat) (t : N2) : KQ l yX6_clearText cX6_clearText 2 (some .int) 0 0 E [.ref h] (wHb h p0 p1 p2 p3 (xa 0) p5 hs ++ wTx E xa t) (QI E (wHb h p0 p1 p2 p3 (xa 0) p5 hs ++ wTx E xa t) (fX6_clearText hs t).1 (wHb h p0 p1 p2 p3 (xa 0) p5 hs ++ wTx E xa ((fX6_clearText hs t).2))) := by
  refine KQ.mk RX6 rfl (by decide +kernel) (Nat.le_of_ble_eq_true rfl) ?_
  intro p e s m below meth c ls X hr w hl
  have hx := X.1
  have hb := X.2.1
  have hl : lv_has ls 2 [(0, .ref h)] := hl
  refine lv_aload_n hx hb dX6_clearText_0 rfl (lv_at hl 0 rfl) ?_
  refine r_get X w CL6 4 (by decide) wf_X6_32 0 rfl rfl dX6_clearText_1 ?_
  refine r_getN X w CL0 1 (by decide) nl_3 1 rfl rfl dX6_clearText_4 ?_
  refine lv_istore_n (lv' := [(1, .int (t 3 0)), (0, .ref h)]) hx hb dX6_clearText_7 rfl hl (by decide) rfl (fun ls hl => ?_)
  refine lv_aload_n hx hb dX6_clearText_8 rfl (lv_at hl 1 rfl) ?_
  refine r_get X w CL6 4 (by decide) wf_X6_32 0 rfl rfl dX6_clearText_9 ?_
  refine lv_iconst (v := 0) hx hb dX6_clearText_12 (by decide) ?_
  refine r_putN X w (wHb h p0 p1 p2 p3 (xa 0) p5 hs ++ wTx E xa (u2 t 3 0 0)) CL0 1 (by decide) nl_3 1 rfl rfl rfl rfl (Nat.le_of_ble_eq_true rfl) (ax_56 (E := E)) dX6_clearText_13 (fun H locs w => ?_)
  refine lv_iload_n hx hb dX6_clearText_16 rfl (lv_at hl 0 rfl) ?_
  have hq : fX6_clearText hs t = (t 3 0, u2 t 3 0 0) := rfl
  obtain ⟨h0_, h1_⟩ := tup2 hq
  rw [h0_, h1_]
  exact r_iret X w hr rfl dX6_clearText_17
def fX6_cell (hs : Int32) (q : Int32) (r : Int32) : Int32 := ((fX1_cellAt q r))
theorem dX6_cell_0 : decode cX6_cell 0 = .ok (.iload_n 1, 1) := by decide +kernel
theorem dX6_cell_1 : decode cX6_cell 1 = .ok (.iload_n 2, 1) := by decide +kernel
theorem dX6_cell_2 : decode cX6_cell 2 = .ok (.invokestatic 154, 3) := by decide +kernel
theorem dX6_cell_5 : decode cX6_cell 5 = .ok (.ireturn, 1) := by decide +kernel
theorem ck_X6_154 : CkS RX6 154 yX1_cellAt cX1_cellAt 2 (some .int) 2 := ⟨wm_X6_154, wst_yX1_cellAt, wi_X1, wc_yX1_cellAt, by decide +kernel⟩
set_option maxHeartbeats 4000000 in
set_option maxRecDepth 100000 in
theorem kX6_cell (l : Launch) (E : Ev) (h : Nat) (p0 : Nat) (p1 : Nat) (p2 : Nat) (p3 : Nat) (p4 : Nat) (p5 : Nat) (hs : Int32) (q : Int32) (r : Int32) : KQ l yX6_cell cX6_cell 3 (some .int) 2 41 E [.ref h, .int q, .int r] (wHb h p0 p1 p2 p3 p4 p5 hs) (QI E (wHb h p0 p1 p2 p3 p4 p5 hs) (fX6_cell hs q r) (wHb h p0 p1 p2 p3 p4 p5 hs)) := by
  refine KQ.mk RX6 rfl (by decide +kernel) (Nat.le_of_ble_eq_true rfl) ?_
  intro p e s m below meth c ls X hr w hl
  have hx := X.1
  have hb := X.2.1
  have hl : lv_has ls 3 [(0, .ref h), (1, .int q), (2, .int r)] := hl
  refine lv_iload_n hx hb dX6_cell_0 rfl (lv_at hl 1 rfl) ?_
  refine lv_iload_n hx hb dX6_cell_1 rfl (lv_at hl 2 rfl) ?_
  refine r_ci w (r_runS (As := [.int q, .int r]) (rest := []) X w (kX1_cellAt l E q r ) ck_X6_154 ⟨Nat.le_of_ble_eq_true rfl, Nat.le_of_ble_eq_true rfl⟩ [] rfl (by decide +kernel) hl.1 (Nat.le_of_ble_eq_true rfl) rfl dX6_cell_2 ⟨Nat.le_of_ble_eq_true rfl, Nat.le_of_ble_eq_true rfl⟩) (wHb h p0 p1 p2 p3 p4 p5 hs) [] rfl (by decide +kernel) rfl rfl (fun H locs w => ?_)
  have hq : fX6_cell hs q r = ((fX1_cellAt q r)) := rfl
  rw [hq]
  exact r_iret X w hr rfl dX6_cell_5
def fX6_ofCell (hs : Int32) (σ : N2) (ce : Int32) (wt : Int32) : Int32 := if (fX1_isCell ce) = 0 then (((-1))) else (if wt = 0 then (((fX1_columnOf ce) + 4)) else (if wt = 1 then (((fX1_rowOf ce) + 4)) else (if wt = 2 then (((fX4_ballOnCell σ ce))) else (if wt = 3 then (((fX1_cornerOf ce))) else (if wt = 4 then (((fX1_cellsBeside ce))) else (((-2))))))))
theorem dX6_ofCell_0 : decode cX6_ofCell 0 = .ok (.iload_n 1, 1) := by decide +kernel
theorem dX6_ofCell_1 : decode cX6_ofCell 1 = .ok (.invokestatic 43, 3) := by decide +kernel
theorem dX6_ofCell_4 : decode cX6_ofCell 4 = .ok (.ifCond .ne 5, 3) := by decide +kernel
theorem dX6_ofCell_7 : decode cX6_ofCell 7 = .ok (.iconst (-1), 1) := by decide +kernel
theorem dX6_ofCell_8 : decode cX6_ofCell 8 = .ok (.ireturn, 1) := by decide +kernel
theorem dX6_ofCell_9 : decode cX6_ofCell 9 = .ok (.iload_n 2, 1) := by decide +kernel
theorem dX6_ofCell_10 : decode cX6_ofCell 10 = .ok (.tableswitch 67 0 4 #[34, 41, 48, 57, 62], 34) := by decide +kernel
theorem dX6_ofCell_44 : decode cX6_ofCell 44 = .ok (.iload_n 1, 1) := by decide +kernel
theorem dX6_ofCell_45 : decode cX6_ofCell 45 = .ok (.invokestatic 157, 3) := by decide +kernel
theorem dX6_ofCell_48 : decode cX6_ofCell 48 = .ok (.iconst 4, 1) := by decide +kernel
theorem dX6_ofCell_49 : decode cX6_ofCell 49 = .ok (.iadd, 1) := by decide +kernel
theorem dX6_ofCell_50 : decode cX6_ofCell 50 = .ok (.ireturn, 1) := by decide +kernel
theorem dX6_ofCell_51 : decode cX6_ofCell 51 = .ok (.iload_n 1, 1) := by decide +kernel
theorem dX6_ofCell_52 : decode cX6_ofCell 52 = .ok (.invokestatic 160, 3) := by decide +kernel
theorem dX6_ofCell_55 : decode cX6_ofCell 55 = .ok (.iconst 4, 1) := by decide +kernel
theorem dX6_ofCell_56 : decode cX6_ofCell 56 = .ok (.iadd, 1) := by decide +kernel
theorem dX6_ofCell_57 : decode cX6_ofCell 57 = .ok (.ireturn, 1) := by decide +kernel
theorem dX6_ofCell_58 : decode cX6_ofCell 58 = .ok (.aload_n 0, 1) := by decide +kernel
theorem dX6_ofCell_59 : decode cX6_ofCell 59 = .ok (.getfield 10, 3) := by decide +kernel
theorem dX6_ofCell_62 : decode cX6_ofCell 62 = .ok (.iload_n 1, 1) := by decide +kernel
theorem dX6_ofCell_63 : decode cX6_ofCell 63 = .ok (.invokevirtual 82, 3) := by decide +kernel
theorem dX6_ofCell_66 : decode cX6_ofCell 66 = .ok (.ireturn, 1) := by decide +kernel
theorem dX6_ofCell_67 : decode cX6_ofCell 67 = .ok (.iload_n 1, 1) := by decide +kernel
theorem dX6_ofCell_68 : decode cX6_ofCell 68 = .ok (.invokestatic 163, 3) := by decide +kernel
theorem dX6_ofCell_71 : decode cX6_ofCell 71 = .ok (.ireturn, 1) := by decide +kernel
theorem dX6_ofCell_72 : decode cX6_ofCell 72 = .ok (.iload_n 1, 1) := by decide +kernel
theorem dX6_ofCell_73 : decode cX6_ofCell 73 = .ok (.invokestatic 166, 3) := by decide +kernel
theorem dX6_ofCell_76 : decode cX6_ofCell 76 = .ok (.ireturn, 1) := by decide +kernel
theorem dX6_ofCell_77 : decode cX6_ofCell 77 = .ok (.bipush (-2), 2) := by decide +kernel
theorem dX6_ofCell_79 : decode cX6_ofCell 79 = .ok (.ireturn, 1) := by decide +kernel
theorem ck_X6_157 : CkS RX6 157 yX1_columnOf cX1_columnOf 2 (some .int) 1 := ⟨wm_X6_157, wst_yX1_columnOf, wi_X1, wc_yX1_columnOf, by decide +kernel⟩
theorem ck_X6_160 : CkS RX6 160 yX1_rowOf cX1_rowOf 2 (some .int) 1 := ⟨wm_X6_160, wst_yX1_rowOf, wi_X1, wc_yX1_rowOf, by decide +kernel⟩
theorem ck_X6_163 : CkS RX6 163 yX1_cornerOf cX1_cornerOf 2 (some .int) 1 := ⟨wm_X6_163, wst_yX1_cornerOf, wi_X1, wc_yX1_cornerOf, by decide +kernel⟩
theorem ck_X6_166 : CkS RX6 166 yX1_cellsBeside cX1_cellsBeside 5 (some .int) 1 := ⟨wm_X6_166, wst_yX1_cellsBeside, wi_X1, wc_yX1_cellsBeside, by decide +kernel⟩
theorem hc_57 {E : Ev} {a0 p0_0 p0_1 p0_2 p0_3 p0_4 p0_5 : Nat} {n0 : Int32} {a1 : Nat → Nat} {σ1 : N2} : ([1, 2, 3, 4, 5, 6, 7, 8, 9] : List Nat).map (fun i => (wHb a0 p0_0 p0_1 p0_2 p0_3 p0_4 p0_5 n0 ++ wSt E a1 σ1)[i]?) = (wSt E a1 σ1).map some := rfl
theorem ha_57 {E : Ev} {a1 : Nat → Nat} {σ1 : N2} {τ0_0 : N2} : (wSt E a1 τ0_0).map Prod.fst = (wSt E a1 σ1).map Prod.fst := rfl
theorem hw_57 {E : Ev} {a0 p0_0 p0_1 p0_2 p0_3 p0_4 p0_5 : Nat} {n0 : Int32} {a1 : Nat → Nat} {σ1 : N2} {τ0_0 : N2} : wput (wHb a0 p0_0 p0_1 p0_2 p0_3 p0_4 p0_5 n0 ++ wSt E a1 σ1) [1, 2, 3, 4, 5, 6, 7, 8, 9] (wSt E a1 τ0_0) = wHb a0 p0_0 p0_1 p0_2 p0_3 p0_4 p0_5 n0 ++ wSt E a1 τ0_0 := rfl
set_option maxHeartbeats 4000000 in
set_option maxRecDepth 100000 in
theorem kX6_ofCell (l : Launch) (E : Ev) (h : Nat) (p1 : Nat) (p2 : Nat) (p3 : Nat) (p4 : Nat) (p5 : Nat) (hs : Int32) (sa : Nat → Nat) (σ : N2) (ce : Int32) (wt : Int32) : KQ l yX6_ofCell cX6_ofCell 3 (some .int) 3 66 E [.ref h, .int ce, .int wt] (wHb h (sa 0) p1 p2 p3 p4 p5 hs ++ wSt E sa σ) (QI E (wHb h (sa 0) p1 p2 p3 p4 p5 hs ++ wSt E sa σ) (fX6_ofCell hs σ ce wt) (wHb h (sa 0) p1 p2 p3 p4 p5 hs ++ wSt E sa σ)) := by
  refine KQ.mk RX6 rfl (by decide +kernel) (Nat.le_of_ble_eq_true rfl) ?_
  intro p e s m below meth c ls X hr w hl
  have hx := X.1
  have hb := X.2.1
  have hl : lv_has ls 3 [(0, .ref h), (1, .int ce), (2, .int wt)] := hl
  refine lv_iload_n hx hb dX6_ofCell_0 rfl (lv_at hl 1 rfl) ?_
  refine r_ci w (r_runS (As := [.int ce]) (rest := []) X w (kX1_isCell l E ce ) ck_X6_43 ⟨Nat.le_of_ble_eq_true rfl, Nat.le_of_ble_eq_true rfl⟩ [] rfl (by decide +kernel) hl.1 (Nat.le_of_ble_eq_true rfl) rfl dX6_ofCell_1 ⟨Nat.le_of_ble_eq_true rfl, Nat.le_of_ble_eq_true rfl⟩) (wHb h (sa 0) p1 p2 p3 p4 p5 hs ++ wSt E sa σ) [] rfl (by decide +kernel) rfl rfl (fun H locs w => ?_)
  refine lv_if_ne (tgt := 9) hx hb dX6_ofCell_4 (by decide) (fun c4_1 => ?_) (fun c4_1 => ?_)
  · refine lv_iload_n hx hb dX6_ofCell_9 rfl (lv_at hl 2 rfl) ?_
    by_cases c10_2 : wt = 0
    · refine lv_tableIn (off := 34) (tgt := 44) hx hb dX6_ofCell_10 (by rw [c10_2]; decide) (by rw [c10_2]; decide) (by rw [c10_2]; rfl) (by decide) ?_
      refine lv_iload_n hx hb dX6_ofCell_44 rfl (lv_at hl 1 rfl) ?_
      refine r_ci w (r_runS (As := [.int ce]) (rest := []) X w (kX1_columnOf l E ce ) ck_X6_157 ⟨Nat.le_of_ble_eq_true rfl, Nat.le_of_ble_eq_true rfl⟩ [] rfl (by decide +kernel) hl.1 (Nat.le_of_ble_eq_true rfl) rfl dX6_ofCell_45 ⟨Nat.le_of_ble_eq_true rfl, Nat.le_of_ble_eq_true rfl⟩) (wHb h (sa 0) p1 p2 p3 p4 p5 hs ++ wSt E sa σ) [] rfl (by decide +kernel) rfl rfl (fun H locs w => ?_)
      refine lv_iconst (v := 4) hx hb dX6_ofCell_48 (by decide) ?_
      refine lv_iadd hx hb dX6_ofCell_49 ?_
      have hq : fX6_ofCell hs σ ce wt = ((fX1_columnOf ce) + 4) := by simp only [fX6_ofCell, if_neg c4_1, if_pos c10_2]
      rw [hq]
      exact r_iret X w hr rfl dX6_ofCell_50
    · by_cases c10_3 : wt = 1
      · refine lv_tableIn (off := 41) (tgt := 51) hx hb dX6_ofCell_10 (by rw [c10_3]; decide) (by rw [c10_3]; decide) (by rw [c10_3]; rfl) (by decide) ?_
        refine lv_iload_n hx hb dX6_ofCell_51 rfl (lv_at hl 1 rfl) ?_
        refine r_ci w (r_runS (As := [.int ce]) (rest := []) X w (kX1_rowOf l E ce ) ck_X6_160 ⟨Nat.le_of_ble_eq_true rfl, Nat.le_of_ble_eq_true rfl⟩ [] rfl (by decide +kernel) hl.1 (Nat.le_of_ble_eq_true rfl) rfl dX6_ofCell_52 ⟨Nat.le_of_ble_eq_true rfl, Nat.le_of_ble_eq_true rfl⟩) (wHb h (sa 0) p1 p2 p3 p4 p5 hs ++ wSt E sa σ) [] rfl (by decide +kernel) rfl rfl (fun H locs w => ?_)
        refine lv_iconst (v := 4) hx hb dX6_ofCell_55 (by decide) ?_
        refine lv_iadd hx hb dX6_ofCell_56 ?_
        have hq : fX6_ofCell hs σ ce wt = ((fX1_rowOf ce) + 4) := by simp only [fX6_ofCell, if_neg c4_1, if_neg c10_2, if_pos c10_3]
        rw [hq]
        exact r_iret X w hr rfl dX6_ofCell_57
      · by_cases c10_4 : wt = 2
        · refine lv_tableIn (off := 48) (tgt := 58) hx hb dX6_ofCell_10 (by rw [c10_4]; decide) (by rw [c10_4]; decide) (by rw [c10_4]; rfl) (by decide) ?_
          refine lv_aload_n hx hb dX6_ofCell_58 rfl (lv_at hl 0 rfl) ?_
          refine r_get X w CL6 0 (by decide) wf_X6_10 0 rfl rfl dX6_ofCell_59 ?_
          refine lv_iload_n hx hb dX6_ofCell_62 rfl (lv_at hl 1 rfl) ?_
          refine r_ci w (r_runV (As := [.int ce]) (rest := []) X w (kX4_ballOnCell l E sa σ ce ) ck_X6_82 ⟨Nat.le_of_ble_eq_true rfl, Nat.le_of_ble_eq_true rfl⟩ [1, 2, 3, 4, 5, 6, 7, 8, 9] (hc_57 (E := E)) (by decide +kernel) (k0 := 0) CL4 rfl hl.1 (Nat.le_of_ble_eq_true rfl) rfl dX6_ofCell_63 ⟨Nat.le_of_ble_eq_true rfl, Nat.le_of_ble_eq_true rfl⟩) (wHb h (sa 0) p1 p2 p3 p4 p5 hs ++ wSt E sa σ) [1, 2, 3, 4, 5, 6, 7, 8, 9] (hc_57 (E := E)) (by decide +kernel) (ha_57 (E := E)) (hw_57 (E := E)) (fun H locs w => ?_)
          have hq : fX6_ofCell hs σ ce wt = ((fX4_ballOnCell σ ce)) := by simp only [fX6_ofCell, if_neg c4_1, if_neg c10_2, if_neg c10_3, if_pos c10_4]
          rw [hq]
          exact r_iret X w hr rfl dX6_ofCell_66
        · by_cases c10_5 : wt = 3
          · refine lv_tableIn (off := 57) (tgt := 67) hx hb dX6_ofCell_10 (by rw [c10_5]; decide) (by rw [c10_5]; decide) (by rw [c10_5]; rfl) (by decide) ?_
            refine lv_iload_n hx hb dX6_ofCell_67 rfl (lv_at hl 1 rfl) ?_
            refine r_ci w (r_runS (As := [.int ce]) (rest := []) X w (kX1_cornerOf l E ce ) ck_X6_163 ⟨Nat.le_of_ble_eq_true rfl, Nat.le_of_ble_eq_true rfl⟩ [] rfl (by decide +kernel) hl.1 (Nat.le_of_ble_eq_true rfl) rfl dX6_ofCell_68 ⟨Nat.le_of_ble_eq_true rfl, Nat.le_of_ble_eq_true rfl⟩) (wHb h (sa 0) p1 p2 p3 p4 p5 hs ++ wSt E sa σ) [] rfl (by decide +kernel) rfl rfl (fun H locs w => ?_)
            have hq : fX6_ofCell hs σ ce wt = ((fX1_cornerOf ce)) := by simp only [fX6_ofCell, if_neg c4_1, if_neg c10_2, if_neg c10_3, if_neg c10_4, if_pos c10_5]
            rw [hq]
            exact r_iret X w hr rfl dX6_ofCell_71
          · by_cases c10_6 : wt = 4
            · refine lv_tableIn (off := 62) (tgt := 72) hx hb dX6_ofCell_10 (by rw [c10_6]; decide) (by rw [c10_6]; decide) (by rw [c10_6]; rfl) (by decide) ?_
              refine lv_iload_n hx hb dX6_ofCell_72 rfl (lv_at hl 1 rfl) ?_
              refine r_ci w (r_runS (As := [.int ce]) (rest := []) X w (kX1_cellsBeside l E ce ) ck_X6_166 ⟨Nat.le_of_ble_eq_true rfl, Nat.le_of_ble_eq_true rfl⟩ [] rfl (by decide +kernel) hl.1 (Nat.le_of_ble_eq_true rfl) rfl dX6_ofCell_73 ⟨Nat.le_of_ble_eq_true rfl, Nat.le_of_ble_eq_true rfl⟩) (wHb h (sa 0) p1 p2 p3 p4 p5 hs ++ wSt E sa σ) [] rfl (by decide +kernel) rfl rfl (fun H locs w => ?_)
              have hq : fX6_ofCell hs σ ce wt = ((fX1_cellsBeside ce)) := by simp only [fX6_ofCell, if_neg c4_1, if_neg c10_2, if_neg c10_3, if_neg c10_4, if_neg c10_5, if_pos c10_6]
              rw [hq]
              exact r_iret X w hr rfl dX6_ofCell_76
            · refine lv_tableOut (tgt := 77) hx hb dX6_ofCell_10 (tab_out_4 c10_2 c10_3 c10_4 c10_5 c10_6) (by decide) ?_
              refine lv_bipush (v := (-2)) hx hb dX6_ofCell_77 (by decide) ?_
              have hq : fX6_ofCell hs σ ce wt = ((-2)) := by simp only [fX6_ofCell, if_neg c4_1, if_neg c10_2, if_neg c10_3, if_neg c10_4, if_neg c10_5, if_neg c10_6]
              rw [hq]
              exact r_iret X w hr rfl dX6_ofCell_79
  · refine lv_iconst (v := (-1)) hx hb dX6_ofCell_7 (by decide) ?_
    have hq : fX6_ofCell hs σ ce wt = ((-1)) := by simp only [fX6_ofCell, if_pos c4_1]
    rw [hq]
    exact r_iret X w hr rfl dX6_ofCell_8
def fX6_ball (hs : Int32) (σ : N2) (bl : Int32) (wt : Int32) : Int32 := if (fX4_hasBall σ bl) = 0 then (((-1))) else (if wt = 0 then ((σ 0 bl.toNatClampNeg)) else (if wt = 1 then ((σ 1 bl.toNatClampNeg)) else (if wt = 2 then ((σ 2 bl.toNatClampNeg)) else (if wt = 3 then ((σ 3 bl.toNatClampNeg)) else (if wt = 4 then ((σ 4 bl.toNatClampNeg)) else (((-2))))))))
theorem dX6_ball_0 : decode cX6_ball 0 = .ok (.aload_n 0, 1) := by decide +kernel
theorem dX6_ball_1 : decode cX6_ball 1 = .ok (.getfield 10, 3) := by decide +kernel
theorem dX6_ball_4 : decode cX6_ball 4 = .ok (.iload_n 1, 1) := by decide +kernel
theorem dX6_ball_5 : decode cX6_ball 5 = .ok (.invokevirtual 78, 3) := by decide +kernel
theorem dX6_ball_8 : decode cX6_ball 8 = .ok (.ifCond .ne 5, 3) := by decide +kernel
theorem dX6_ball_11 : decode cX6_ball 11 = .ok (.iconst (-1), 1) := by decide +kernel
theorem dX6_ball_12 : decode cX6_ball 12 = .ok (.ireturn, 1) := by decide +kernel
theorem dX6_ball_13 : decode cX6_ball 13 = .ok (.iload_n 2, 1) := by decide +kernel
theorem dX6_ball_14 : decode cX6_ball 14 = .ok (.tableswitch 84 0 4 #[34, 44, 54, 64, 74], 34) := by decide +kernel
theorem dX6_ball_48 : decode cX6_ball 48 = .ok (.aload_n 0, 1) := by decide +kernel
theorem dX6_ball_49 : decode cX6_ball 49 = .ok (.getfield 10, 3) := by decide +kernel
theorem dX6_ball_52 : decode cX6_ball 52 = .ok (.getfield 169, 3) := by decide +kernel
theorem dX6_ball_55 : decode cX6_ball 55 = .ok (.iload_n 1, 1) := by decide +kernel
theorem dX6_ball_56 : decode cX6_ball 56 = .ok (.iaload, 1) := by decide +kernel
theorem dX6_ball_57 : decode cX6_ball 57 = .ok (.ireturn, 1) := by decide +kernel
theorem dX6_ball_58 : decode cX6_ball 58 = .ok (.aload_n 0, 1) := by decide +kernel
theorem dX6_ball_59 : decode cX6_ball 59 = .ok (.getfield 10, 3) := by decide +kernel
theorem dX6_ball_62 : decode cX6_ball 62 = .ok (.getfield 172, 3) := by decide +kernel
theorem dX6_ball_65 : decode cX6_ball 65 = .ok (.iload_n 1, 1) := by decide +kernel
theorem dX6_ball_66 : decode cX6_ball 66 = .ok (.iaload, 1) := by decide +kernel
theorem dX6_ball_67 : decode cX6_ball 67 = .ok (.ireturn, 1) := by decide +kernel
theorem dX6_ball_68 : decode cX6_ball 68 = .ok (.aload_n 0, 1) := by decide +kernel
theorem dX6_ball_69 : decode cX6_ball 69 = .ok (.getfield 10, 3) := by decide +kernel
theorem dX6_ball_72 : decode cX6_ball 72 = .ok (.getfield 175, 3) := by decide +kernel
theorem dX6_ball_75 : decode cX6_ball 75 = .ok (.iload_n 1, 1) := by decide +kernel
theorem dX6_ball_76 : decode cX6_ball 76 = .ok (.iaload, 1) := by decide +kernel
theorem dX6_ball_77 : decode cX6_ball 77 = .ok (.ireturn, 1) := by decide +kernel
theorem dX6_ball_78 : decode cX6_ball 78 = .ok (.aload_n 0, 1) := by decide +kernel
theorem dX6_ball_79 : decode cX6_ball 79 = .ok (.getfield 10, 3) := by decide +kernel
theorem dX6_ball_82 : decode cX6_ball 82 = .ok (.getfield 178, 3) := by decide +kernel
theorem dX6_ball_85 : decode cX6_ball 85 = .ok (.iload_n 1, 1) := by decide +kernel
theorem dX6_ball_86 : decode cX6_ball 86 = .ok (.iaload, 1) := by decide +kernel
theorem dX6_ball_87 : decode cX6_ball 87 = .ok (.ireturn, 1) := by decide +kernel
theorem dX6_ball_88 : decode cX6_ball 88 = .ok (.aload_n 0, 1) := by decide +kernel
theorem dX6_ball_89 : decode cX6_ball 89 = .ok (.getfield 10, 3) := by decide +kernel
theorem dX6_ball_92 : decode cX6_ball 92 = .ok (.getfield 181, 3) := by decide +kernel
theorem dX6_ball_95 : decode cX6_ball 95 = .ok (.iload_n 1, 1) := by decide +kernel
theorem dX6_ball_96 : decode cX6_ball 96 = .ok (.iaload, 1) := by decide +kernel
theorem dX6_ball_97 : decode cX6_ball 97 = .ok (.ireturn, 1) := by decide +kernel
theorem dX6_ball_98 : decode cX6_ball 98 = .ok (.bipush (-2), 2) := by decide +kernel
theorem dX6_ball_100 : decode cX6_ball 100 = .ok (.ireturn, 1) := by decide +kernel
set_option maxHeartbeats 4000000 in
set_option maxRecDepth 100000 in
theorem kX6_ball (l : Launch) (E : Ev) (h : Nat) (p1 : Nat) (p2 : Nat) (p3 : Nat) (p4 : Nat) (p5 : Nat) (hs : Int32) (sa : Nat → Nat) (σ : N2) (bl : Int32) (wt : Int32) : KQ l yX6_ball cX6_ball 3 (some .int) 2 41 E [.ref h, .int bl, .int wt] (wHb h (sa 0) p1 p2 p3 p4 p5 hs ++ wSt E sa σ) (QI E (wHb h (sa 0) p1 p2 p3 p4 p5 hs ++ wSt E sa σ) (fX6_ball hs σ bl wt) (wHb h (sa 0) p1 p2 p3 p4 p5 hs ++ wSt E sa σ)) := by
  refine KQ.mk RX6 rfl (by decide +kernel) (Nat.le_of_ble_eq_true rfl) ?_
  intro p e s m below meth c ls X hr w hl
  have hx := X.1
  have hb := X.2.1
  have hl : lv_has ls 3 [(0, .ref h), (1, .int bl), (2, .int wt)] := hl
  refine lv_aload_n hx hb dX6_ball_0 rfl (lv_at hl 0 rfl) ?_
  refine r_get X w CL6 0 (by decide) wf_X6_10 0 rfl rfl dX6_ball_1 ?_
  refine lv_iload_n hx hb dX6_ball_4 rfl (lv_at hl 1 rfl) ?_
  refine r_ci w (r_runV (As := [.int bl]) (rest := []) X w (kX4_hasBall l E sa σ bl ) ck_X6_78 ⟨Nat.le_of_ble_eq_true rfl, Nat.le_of_ble_eq_true rfl⟩ [1, 2, 3, 4, 5, 6, 7, 8, 9] (hc_57 (E := E)) (by decide +kernel) (k0 := 0) CL4 rfl hl.1 (Nat.le_of_ble_eq_true rfl) rfl dX6_ball_5 ⟨Nat.le_of_ble_eq_true rfl, Nat.le_of_ble_eq_true rfl⟩) (wHb h (sa 0) p1 p2 p3 p4 p5 hs ++ wSt E sa σ) [1, 2, 3, 4, 5, 6, 7, 8, 9] (hc_57 (E := E)) (by decide +kernel) (ha_57 (E := E)) (hw_57 (E := E)) (fun H locs w => ?_)
  refine lv_if_ne (tgt := 13) hx hb dX6_ball_8 (by decide) (fun c8_1 => ?_) (fun c8_1 => ?_)
  · refine lv_iload_n hx hb dX6_ball_13 rfl (lv_at hl 2 rfl) ?_
    by_cases c14_2 : wt = 0
    · refine lv_tableIn (off := 34) (tgt := 48) hx hb dX6_ball_14 (by rw [c14_2]; decide) (by rw [c14_2]; decide) (by rw [c14_2]; rfl) (by decide) ?_
      refine lv_aload_n hx hb dX6_ball_48 rfl (lv_at hl 0 rfl) ?_
      refine r_get X w CL6 0 (by decide) wf_X6_10 0 rfl rfl dX6_ball_49 ?_
      refine r_getN X w CL4 0 (by decide) nl_5 1 rfl rfl dX6_ball_52 ?_
      refine lv_iload_n hx hb dX6_ball_55 rfl (lv_at hl 1 rfl) ?_
      refine r_iald X w 2 rfl (in_has c8_1) dX6_ball_56 ?_
      have hq : fX6_ball hs σ bl wt = (σ 0 bl.toNatClampNeg) := by simp only [fX6_ball, if_neg c8_1, if_pos c14_2]
      rw [hq]
      exact r_iret X w hr rfl dX6_ball_57
    · by_cases c14_3 : wt = 1
      · refine lv_tableIn (off := 44) (tgt := 58) hx hb dX6_ball_14 (by rw [c14_3]; decide) (by rw [c14_3]; decide) (by rw [c14_3]; rfl) (by decide) ?_
        refine lv_aload_n hx hb dX6_ball_58 rfl (lv_at hl 0 rfl) ?_
        refine r_get X w CL6 0 (by decide) wf_X6_10 0 rfl rfl dX6_ball_59 ?_
        refine r_getN X w CL4 1 (by decide) nl_6 1 rfl rfl dX6_ball_62 ?_
        refine lv_iload_n hx hb dX6_ball_65 rfl (lv_at hl 1 rfl) ?_
        refine r_iald X w 3 rfl (in_has c8_1) dX6_ball_66 ?_
        have hq : fX6_ball hs σ bl wt = (σ 1 bl.toNatClampNeg) := by simp only [fX6_ball, if_neg c8_1, if_neg c14_2, if_pos c14_3]
        rw [hq]
        exact r_iret X w hr rfl dX6_ball_67
      · by_cases c14_4 : wt = 2
        · refine lv_tableIn (off := 54) (tgt := 68) hx hb dX6_ball_14 (by rw [c14_4]; decide) (by rw [c14_4]; decide) (by rw [c14_4]; rfl) (by decide) ?_
          refine lv_aload_n hx hb dX6_ball_68 rfl (lv_at hl 0 rfl) ?_
          refine r_get X w CL6 0 (by decide) wf_X6_10 0 rfl rfl dX6_ball_69 ?_
          refine r_getN X w CL4 2 (by decide) nl_7 1 rfl rfl dX6_ball_72 ?_
          refine lv_iload_n hx hb dX6_ball_75 rfl (lv_at hl 1 rfl) ?_
          refine r_iald X w 4 rfl (in_has c8_1) dX6_ball_76 ?_
          have hq : fX6_ball hs σ bl wt = (σ 2 bl.toNatClampNeg) := by simp only [fX6_ball, if_neg c8_1, if_neg c14_2, if_neg c14_3, if_pos c14_4]
          rw [hq]
          exact r_iret X w hr rfl dX6_ball_77
        · by_cases c14_5 : wt = 3
          · refine lv_tableIn (off := 64) (tgt := 78) hx hb dX6_ball_14 (by rw [c14_5]; decide) (by rw [c14_5]; decide) (by rw [c14_5]; rfl) (by decide) ?_
            refine lv_aload_n hx hb dX6_ball_78 rfl (lv_at hl 0 rfl) ?_
            refine r_get X w CL6 0 (by decide) wf_X6_10 0 rfl rfl dX6_ball_79 ?_
            refine r_getN X w CL4 3 (by decide) nl_8 1 rfl rfl dX6_ball_82 ?_
            refine lv_iload_n hx hb dX6_ball_85 rfl (lv_at hl 1 rfl) ?_
            refine r_iald X w 5 rfl (in_has c8_1) dX6_ball_86 ?_
            have hq : fX6_ball hs σ bl wt = (σ 3 bl.toNatClampNeg) := by simp only [fX6_ball, if_neg c8_1, if_neg c14_2, if_neg c14_3, if_neg c14_4, if_pos c14_5]
            rw [hq]
            exact r_iret X w hr rfl dX6_ball_87
          · by_cases c14_6 : wt = 4
            · refine lv_tableIn (off := 74) (tgt := 88) hx hb dX6_ball_14 (by rw [c14_6]; decide) (by rw [c14_6]; decide) (by rw [c14_6]; rfl) (by decide) ?_
              refine lv_aload_n hx hb dX6_ball_88 rfl (lv_at hl 0 rfl) ?_
              refine r_get X w CL6 0 (by decide) wf_X6_10 0 rfl rfl dX6_ball_89 ?_
              refine r_getN X w CL4 4 (by decide) nl_9 1 rfl rfl dX6_ball_92 ?_
              refine lv_iload_n hx hb dX6_ball_95 rfl (lv_at hl 1 rfl) ?_
              refine r_iald X w 6 rfl (in_has c8_1) dX6_ball_96 ?_
              have hq : fX6_ball hs σ bl wt = (σ 4 bl.toNatClampNeg) := by simp only [fX6_ball, if_neg c8_1, if_neg c14_2, if_neg c14_3, if_neg c14_4, if_neg c14_5, if_pos c14_6]
              rw [hq]
              exact r_iret X w hr rfl dX6_ball_97
            · refine lv_tableOut (tgt := 98) hx hb dX6_ball_14 (tab_out_4 c14_2 c14_3 c14_4 c14_5 c14_6) (by decide) ?_
              refine lv_bipush (v := (-2)) hx hb dX6_ball_98 (by decide) ?_
              have hq : fX6_ball hs σ bl wt = ((-2)) := by simp only [fX6_ball, if_neg c8_1, if_neg c14_2, if_neg c14_3, if_neg c14_4, if_neg c14_5, if_neg c14_6]
              rw [hq]
              exact r_iret X w hr rfl dX6_ball_100
  · refine lv_iconst (v := (-1)) hx hb dX6_ball_11 (by decide) ?_
    have hq : fX6_ball hs σ bl wt = ((-1)) := by simp only [fX6_ball, if_pos c8_1]
    rw [hq]
    exact r_iret X w hr rfl dX6_ball_12
def fX6_tryShot (hs : Int32) (σ : N2) (σr : N2) (z : N1) (sp : UInt32) (d : N1) (bl : Int32) (di : Int32) (sg : Int32) (sn : Int32) : N2 × N1 × UInt32 × N1 := ((fX3_play z sp d (fX4_copyFrom σr σ) bl di sg sn).2.2.2, (fX3_play z sp d (fX4_copyFrom σr σ) bl di sg sn).1, (fX3_play z sp d (fX4_copyFrom σr σ) bl di sg sn).2.1, (fX3_play z sp d (fX4_copyFrom σr σ) bl di sg sn).2.2.1)
theorem dX6_tryShot_0 : decode cX6_tryShot 0 = .ok (.aload_n 0, 1) := by decide +kernel
theorem dX6_tryShot_1 : decode cX6_tryShot 1 = .ok (.getfield 19, 3) := by decide +kernel
theorem dX6_tryShot_4 : decode cX6_tryShot 4 = .ok (.aload_n 0, 1) := by decide +kernel
theorem dX6_tryShot_5 : decode cX6_tryShot 5 = .ok (.getfield 10, 3) := by decide +kernel
theorem dX6_tryShot_8 : decode cX6_tryShot 8 = .ok (.invokevirtual 65, 3) := by decide +kernel
theorem dX6_tryShot_11 : decode cX6_tryShot 11 = .ok (.aload_n 0, 1) := by decide +kernel
theorem dX6_tryShot_12 : decode cX6_tryShot 12 = .ok (.getfield 39, 3) := by decide +kernel
theorem dX6_tryShot_15 : decode cX6_tryShot 15 = .ok (.aload_n 0, 1) := by decide +kernel
theorem dX6_tryShot_16 : decode cX6_tryShot 16 = .ok (.getfield 19, 3) := by decide +kernel
theorem dX6_tryShot_19 : decode cX6_tryShot 19 = .ok (.iload_n 1, 1) := by decide +kernel
theorem dX6_tryShot_20 : decode cX6_tryShot 20 = .ok (.iload_n 2, 1) := by decide +kernel
theorem dX6_tryShot_21 : decode cX6_tryShot 21 = .ok (.iload_n 3, 1) := by decide +kernel
theorem dX6_tryShot_22 : decode cX6_tryShot 22 = .ok (.iload 4, 2) := by decide +kernel
theorem dX6_tryShot_24 : decode cX6_tryShot 24 = .ok (.invokevirtual 116, 3) := by decide +kernel
theorem dX6_tryShot_27 : decode cX6_tryShot 27 = .ok (.return_, 1) := by decide +kernel
theorem ck_X6_65 : CkV RX6 65 RX4 yX4_copyFrom cX4_copyFrom 2 none 1 := ⟨wm_X6_65, wim_yX4_copyFrom, wse_yX4_copyFrom, wi_X4, wc_yX4_copyFrom, by decide +kernel⟩
theorem hc_58 {E : Ev} {a0 p0_0 p0_1 p0_2 p0_3 p0_4 p0_5 : Nat} {n0 : Int32} {a1 : Nat → Nat} {σ1 : N2} {a2 : Nat → Nat} {σ2 : N2} {a3 j3 : Nat} {σ3 : N1} {v3 : UInt32} {a4 : Nat} {σ4 : N1} : ([10, 11, 12, 13, 14, 15, 16, 17, 18, 1, 2, 3, 4, 5, 6, 7, 8, 9] : List Nat).map (fun i => (wHb a0 p0_0 p0_1 p0_2 p0_3 p0_4 p0_5 n0 ++ (wSt E a1 σ1 ++ (wSt E a2 σ2 ++ (wSh a3 j3 σ3 v3 ++ wWk a4 σ4))))[i]?) = (wSt E a2 σ2 ++ wSt E a1 σ1).map some := get_app (is1 := rg 10 9) (is2 := rg 1 9) (by rw [show wHb a0 p0_0 p0_1 p0_2 p0_3 p0_4 p0_5 n0 ++ (wSt E a1 σ1 ++ (wSt E a2 σ2 ++ (wSh a3 j3 σ3 v3 ++ (wWk a4 σ4)))) = (wHb a0 p0_0 p0_1 p0_2 p0_3 p0_4 p0_5 n0 ++ (wSt E a1 σ1)) ++ (wSt E a2 σ2 ++ (wSh a3 j3 σ3 v3 ++ (wWk a4 σ4))) by simp only [List.append_assoc, List.nil_append, List.append_nil]]; exact get1 (s := 10) (n := 9) rfl rfl) ((by rw [show wHb a0 p0_0 p0_1 p0_2 p0_3 p0_4 p0_5 n0 ++ (wSt E a1 σ1 ++ (wSt E a2 σ2 ++ (wSh a3 j3 σ3 v3 ++ (wWk a4 σ4)))) = (wHb a0 p0_0 p0_1 p0_2 p0_3 p0_4 p0_5 n0) ++ (wSt E a1 σ1 ++ (wSt E a2 σ2 ++ (wSh a3 j3 σ3 v3 ++ (wWk a4 σ4)))) by simp only [List.append_assoc, List.nil_append, List.append_nil]]; exact get1 (s := 1) (n := 9) rfl rfl))
theorem ha_58 {E : Ev} {a1 : Nat → Nat} {σ1 : N2} {a2 : Nat → Nat} {σ2 : N2} {τ0_0 : N2} {τ1_0 : N2} : (wSt E a2 τ0_0 ++ wSt E a1 τ1_0).map Prod.fst = (wSt E a2 σ2 ++ wSt E a1 σ1).map Prod.fst := fst_app fst_St (fst_St)
theorem hw_58 {E : Ev} {a0 p0_0 p0_1 p0_2 p0_3 p0_4 p0_5 : Nat} {n0 : Int32} {a1 : Nat → Nat} {σ1 : N2} {a2 : Nat → Nat} {σ2 : N2} {a3 j3 : Nat} {σ3 : N1} {v3 : UInt32} {a4 : Nat} {σ4 : N1} {τ0_0 : N2} {τ1_0 : N2} : wput (wHb a0 p0_0 p0_1 p0_2 p0_3 p0_4 p0_5 n0 ++ (wSt E a1 σ1 ++ (wSt E a2 σ2 ++ (wSh a3 j3 σ3 v3 ++ wWk a4 σ4)))) [10, 11, 12, 13, 14, 15, 16, 17, 18, 1, 2, 3, 4, 5, 6, 7, 8, 9] (wSt E a2 τ0_0 ++ wSt E a1 τ1_0) = wHb a0 p0_0 p0_1 p0_2 p0_3 p0_4 p0_5 n0 ++ (wSt E a1 τ1_0 ++ (wSt E a2 τ0_0 ++ (wSh a3 j3 σ3 v3 ++ wWk a4 σ4))) := by
  show wput (wHb a0 p0_0 p0_1 p0_2 p0_3 p0_4 p0_5 n0 ++ (wSt E a1 σ1 ++ (wSt E a2 σ2 ++ (wSh a3 j3 σ3 v3 ++ (wWk a4 σ4))))) (rg 10 9 ++ (rg 1 9)) (wSt E a2 τ0_0 ++ wSt E a1 τ1_0) = _
  rw [wput_app rfl]
  rw [show wHb a0 p0_0 p0_1 p0_2 p0_3 p0_4 p0_5 n0 ++ (wSt E a1 σ1 ++ (wSt E a2 σ2 ++ (wSh a3 j3 σ3 v3 ++ (wWk a4 σ4)))) = (wHb a0 p0_0 p0_1 p0_2 p0_3 p0_4 p0_5 n0 ++ (wSt E a1 σ1)) ++ (wSt E a2 σ2 ++ (wSh a3 j3 σ3 v3 ++ (wWk a4 σ4))) by simp only [List.append_assoc, List.nil_append, List.append_nil], put1 (s := 10) (n := 9) rfl rfl rfl]
  rw [show (wHb a0 p0_0 p0_1 p0_2 p0_3 p0_4 p0_5 n0 ++ (wSt E a1 σ1)) ++ (wSt E a2 τ0_0 ++ (wSh a3 j3 σ3 v3 ++ (wWk a4 σ4))) = (wHb a0 p0_0 p0_1 p0_2 p0_3 p0_4 p0_5 n0) ++ (wSt E a1 σ1 ++ (wSt E a2 τ0_0 ++ (wSh a3 j3 σ3 v3 ++ (wWk a4 σ4)))) by simp only [List.append_assoc, List.nil_append, List.append_nil], put1 (s := 1) (n := 9) rfl rfl rfl]
  try simp only [List.append_assoc, List.nil_append, List.append_nil]
theorem hc_59 {E : Ev} {a0 p0_0 p0_1 p0_2 p0_3 p0_4 p0_5 : Nat} {n0 : Int32} {a1 : Nat → Nat} {σ1 : N2} {a2 : Nat → Nat} {σ2 : N2} {a3 j3 : Nat} {σ3 : N1} {v3 : UInt32} {a4 : Nat} {σ4 : N1} : ([19, 20, 10, 11, 12, 13, 14, 15, 16, 17, 18] : List Nat).map (fun i => (wHb a0 p0_0 p0_1 p0_2 p0_3 p0_4 p0_5 n0 ++ (wSt E a1 σ1 ++ (wSt E a2 σ2 ++ (wSh a3 j3 σ3 v3 ++ wWk a4 σ4))))[i]?) = (wSh a3 j3 σ3 v3 ++ (wWk a4 σ4 ++ wSt E a2 σ2)).map some := get_app (is1 := rg 19 1) (is2 := rg 20 1 ++ (rg 10 9)) (by rw [show wHb a0 p0_0 p0_1 p0_2 p0_3 p0_4 p0_5 n0 ++ (wSt E a1 σ1 ++ (wSt E a2 σ2 ++ (wSh a3 j3 σ3 v3 ++ (wWk a4 σ4)))) = (wHb a0 p0_0 p0_1 p0_2 p0_3 p0_4 p0_5 n0 ++ (wSt E a1 σ1 ++ (wSt E a2 σ2))) ++ (wSh a3 j3 σ3 v3 ++ (wWk a4 σ4)) by simp only [List.append_assoc, List.nil_append, List.append_nil]]; exact get1 (s := 19) (n := 1) rfl rfl) (get_app (is1 := rg 20 1) (is2 := rg 10 9) (by rw [show wHb a0 p0_0 p0_1 p0_2 p0_3 p0_4 p0_5 n0 ++ (wSt E a1 σ1 ++ (wSt E a2 σ2 ++ (wSh a3 j3 σ3 v3 ++ (wWk a4 σ4)))) = (wHb a0 p0_0 p0_1 p0_2 p0_3 p0_4 p0_5 n0 ++ (wSt E a1 σ1 ++ (wSt E a2 σ2 ++ (wSh a3 j3 σ3 v3)))) ++ (wWk a4 σ4 ++ (([] : va_W))) by simp only [List.append_assoc, List.nil_append, List.append_nil]]; exact get1 (s := 20) (n := 1) rfl rfl) ((by rw [show wHb a0 p0_0 p0_1 p0_2 p0_3 p0_4 p0_5 n0 ++ (wSt E a1 σ1 ++ (wSt E a2 σ2 ++ (wSh a3 j3 σ3 v3 ++ (wWk a4 σ4)))) = (wHb a0 p0_0 p0_1 p0_2 p0_3 p0_4 p0_5 n0 ++ (wSt E a1 σ1)) ++ (wSt E a2 σ2 ++ (wSh a3 j3 σ3 v3 ++ (wWk a4 σ4))) by simp only [List.append_assoc, List.nil_append, List.append_nil]]; exact get1 (s := 10) (n := 9) rfl rfl)))
theorem ha_59 {E : Ev} {a2 : Nat → Nat} {σ2 : N2} {a3 j3 : Nat} {σ3 : N1} {v3 : UInt32} {a4 : Nat} {σ4 : N1} {τ0_0 : N1} {τ0_1 : UInt32} {τ1_0 : N1} {τ2_0 : N2} : (wSh a3 j3 τ0_0 τ0_1 ++ (wWk a4 τ1_0 ++ wSt E a2 τ2_0)).map Prod.fst = (wSh a3 j3 σ3 v3 ++ (wWk a4 σ4 ++ wSt E a2 σ2)).map Prod.fst := fst_app fst_Sh (fst_app fst_Wk (fst_St))
theorem hw_59 {E : Ev} {a0 p0_0 p0_1 p0_2 p0_3 p0_4 p0_5 : Nat} {n0 : Int32} {a1 : Nat → Nat} {σ1 : N2} {a2 : Nat → Nat} {σ2 : N2} {a3 j3 : Nat} {σ3 : N1} {v3 : UInt32} {a4 : Nat} {σ4 : N1} {τ0_0 : N1} {τ0_1 : UInt32} {τ1_0 : N1} {τ2_0 : N2} : wput (wHb a0 p0_0 p0_1 p0_2 p0_3 p0_4 p0_5 n0 ++ (wSt E a1 σ1 ++ (wSt E a2 σ2 ++ (wSh a3 j3 σ3 v3 ++ wWk a4 σ4)))) [19, 20, 10, 11, 12, 13, 14, 15, 16, 17, 18] (wSh a3 j3 τ0_0 τ0_1 ++ (wWk a4 τ1_0 ++ wSt E a2 τ2_0)) = wHb a0 p0_0 p0_1 p0_2 p0_3 p0_4 p0_5 n0 ++ (wSt E a1 σ1 ++ (wSt E a2 τ2_0 ++ (wSh a3 j3 τ0_0 τ0_1 ++ wWk a4 τ1_0))) := by
  show wput (wHb a0 p0_0 p0_1 p0_2 p0_3 p0_4 p0_5 n0 ++ (wSt E a1 σ1 ++ (wSt E a2 σ2 ++ (wSh a3 j3 σ3 v3 ++ (wWk a4 σ4))))) (rg 19 1 ++ (rg 20 1 ++ (rg 10 9))) (wSh a3 j3 τ0_0 τ0_1 ++ (wWk a4 τ1_0 ++ wSt E a2 τ2_0)) = _
  rw [wput_app rfl]
  rw [show wHb a0 p0_0 p0_1 p0_2 p0_3 p0_4 p0_5 n0 ++ (wSt E a1 σ1 ++ (wSt E a2 σ2 ++ (wSh a3 j3 σ3 v3 ++ (wWk a4 σ4)))) = (wHb a0 p0_0 p0_1 p0_2 p0_3 p0_4 p0_5 n0 ++ (wSt E a1 σ1 ++ (wSt E a2 σ2))) ++ (wSh a3 j3 σ3 v3 ++ (wWk a4 σ4)) by simp only [List.append_assoc, List.nil_append, List.append_nil], put1 (s := 19) (n := 1) rfl rfl rfl]
  rw [wput_app rfl]
  rw [show (wHb a0 p0_0 p0_1 p0_2 p0_3 p0_4 p0_5 n0 ++ (wSt E a1 σ1 ++ (wSt E a2 σ2))) ++ (wSh a3 j3 τ0_0 τ0_1 ++ (wWk a4 σ4)) = (wHb a0 p0_0 p0_1 p0_2 p0_3 p0_4 p0_5 n0 ++ (wSt E a1 σ1 ++ (wSt E a2 σ2 ++ (wSh a3 j3 τ0_0 τ0_1)))) ++ (wWk a4 σ4 ++ (([] : va_W))) by simp only [List.append_assoc, List.nil_append, List.append_nil], put1 (s := 20) (n := 1) rfl rfl rfl]
  rw [show (wHb a0 p0_0 p0_1 p0_2 p0_3 p0_4 p0_5 n0 ++ (wSt E a1 σ1 ++ (wSt E a2 σ2 ++ (wSh a3 j3 τ0_0 τ0_1)))) ++ (wWk a4 τ1_0 ++ (([] : va_W))) = (wHb a0 p0_0 p0_1 p0_2 p0_3 p0_4 p0_5 n0 ++ (wSt E a1 σ1)) ++ (wSt E a2 σ2 ++ (wSh a3 j3 τ0_0 τ0_1 ++ (wWk a4 τ1_0))) by simp only [List.append_assoc, List.nil_append, List.append_nil], put1 (s := 10) (n := 9) rfl rfl rfl]
  try simp only [List.append_assoc, List.nil_append, List.append_nil]
set_option maxHeartbeats 4000000 in
set_option maxRecDepth 100000 in
theorem kX6_tryShot (l : Launch) (E : Ev) (h : Nat) (p1 : Nat) (p3 : Nat) (p4 : Nat) (k : Nat) (hs : Int32) (sa : Nat → Nat) (σ : N2) (ra : Nat → Nat) (σr : N2) (j : Nat) (z : N1) (sp : UInt32) (d : N1) (bl : Int32) (di : Int32) (sg : Int32) (sn : Int32) (gs : gset σ) (hg : 10 ≤ sg.toInt ∧ sg.toInt ≤ 999) : KQ l yX6_tryShot cX6_tryShot 5 none 5 119 E [.ref h, .int bl, .int di, .int sg, .int sn] (wHb h (sa 0) p1 (ra 0) p3 p4 k hs ++ (wSt E sa σ ++ (wSt E ra σr ++ (wSh k j z sp ++ wWk j d)))) (QV E (wHb h (sa 0) p1 (ra 0) p3 p4 k hs ++ (wSt E sa σ ++ (wSt E ra σr ++ (wSh k j z sp ++ wWk j d)))) (wHb h (sa 0) p1 (ra 0) p3 p4 k hs ++ (wSt E sa σ ++ (wSt E ra ((fX6_tryShot hs σ σr z sp d bl di sg sn).1) ++ (wSh k j ((fX6_tryShot hs σ σr z sp d bl di sg sn).2.1) ((fX6_tryShot hs σ σr z sp d bl di sg sn).2.2.1) ++ wWk j ((fX6_tryShot hs σ σr z sp d bl di sg sn).2.2.2)))))) := by
  refine KQ.mk RX6 rfl (by decide +kernel) (Nat.le_of_ble_eq_true rfl) ?_
  intro p e s m below meth c ls X hr w hl
  have hx := X.1
  have hb := X.2.1
  have hl : lv_has ls 5 [(0, .ref h), (1, .int bl), (2, .int di), (3, .int sg), (4, .int sn)] := hl
  refine lv_aload_n hx hb dX6_tryShot_0 rfl (lv_at hl 0 rfl) ?_
  refine r_get X w CL6 2 (by decide) wf_X6_19 0 rfl rfl dX6_tryShot_1 ?_
  refine lv_aload_n hx hb dX6_tryShot_4 rfl (lv_at hl 0 rfl) ?_
  refine r_get X w CL6 0 (by decide) wf_X6_10 0 rfl rfl dX6_tryShot_5 ?_
  refine r_cv w (r_runV (As := [.ref (sa 0)]) (rest := []) X w (kX4_copyFrom l E ra σr sa σ ) ck_X6_65 ⟨Nat.le_of_ble_eq_true rfl, Nat.le_of_ble_eq_true rfl⟩ [10, 11, 12, 13, 14, 15, 16, 17, 18, 1, 2, 3, 4, 5, 6, 7, 8, 9] (hc_58 (E := E)) (by decide +kernel) (k0 := 0) CL4 rfl hl.1 (Nat.le_of_ble_eq_true rfl) rfl dX6_tryShot_8 ⟨Nat.le_of_ble_eq_true rfl, Nat.le_of_ble_eq_true rfl⟩) (wHb h (sa 0) p1 (ra 0) p3 p4 k hs ++ (wSt E sa σ ++ (wSt E ra (fX4_copyFrom σr σ) ++ (wSh k j z sp ++ wWk j d)))) [10, 11, 12, 13, 14, 15, 16, 17, 18, 1, 2, 3, 4, 5, 6, 7, 8, 9] (hc_58 (E := E)) (by decide +kernel) (ha_58 (E := E)) (hw_58 (E := E)) (fun H locs w => ?_)
  refine lv_aload_n hx hb dX6_tryShot_11 rfl (lv_at hl 0 rfl) ?_
  refine r_get X w CL6 5 (by decide) wf_X6_39 0 rfl rfl dX6_tryShot_12 ?_
  refine lv_aload_n hx hb dX6_tryShot_15 rfl (lv_at hl 0 rfl) ?_
  refine r_get X w CL6 2 (by decide) wf_X6_19 0 rfl rfl dX6_tryShot_16 ?_
  refine lv_iload_n hx hb dX6_tryShot_19 rfl (lv_at hl 1 rfl) ?_
  refine lv_iload_n hx hb dX6_tryShot_20 rfl (lv_at hl 2 rfl) ?_
  refine lv_iload_n hx hb dX6_tryShot_21 rfl (lv_at hl 3 rfl) ?_
  refine lv_iload hx hb dX6_tryShot_22 (lv_at hl 4 rfl) ?_
  refine r_cv w (r_runV (As := [.ref (ra 0), .int bl, .int di, .int sg, .int sn]) (rest := []) X w (kX3_play l E k j z sp d ra (fX4_copyFrom σr σ) bl di sg sn gs hg) ck_X6_116 ⟨Nat.le_of_ble_eq_true rfl, Nat.le_of_ble_eq_true rfl⟩ [19, 20, 10, 11, 12, 13, 14, 15, 16, 17, 18] (hc_59 (E := E)) (by decide +kernel) (k0 := 0) CL3 rfl hl.1 (Nat.le_of_ble_eq_true rfl) rfl dX6_tryShot_24 ⟨Nat.le_of_ble_eq_true rfl, Nat.le_of_ble_eq_true rfl⟩) (wHb h (sa 0) p1 (ra 0) p3 p4 k hs ++ (wSt E sa σ ++ (wSt E ra ((fX3_play z sp d (fX4_copyFrom σr σ) bl di sg sn).2.2.2) ++ (wSh k j ((fX3_play z sp d (fX4_copyFrom σr σ) bl di sg sn).1) ((fX3_play z sp d (fX4_copyFrom σr σ) bl di sg sn).2.1) ++ wWk j ((fX3_play z sp d (fX4_copyFrom σr σ) bl di sg sn).2.2.1))))) [19, 20, 10, 11, 12, 13, 14, 15, 16, 17, 18] (hc_59 (E := E)) (by decide +kernel) (ha_59 (E := E)) (hw_59 (E := E)) (fun H locs w => ?_)
  have hq : fX6_tryShot hs σ σr z sp d bl di sg sn = ((fX3_play z sp d (fX4_copyFrom σr σ) bl di sg sn).2.2.2, (fX3_play z sp d (fX4_copyFrom σr σ) bl di sg sn).1, (fX3_play z sp d (fX4_copyFrom σr σ) bl di sg sn).2.1, (fX3_play z sp d (fX4_copyFrom σr σ) bl di sg sn).2.2.1) := rfl
  obtain ⟨h0_, h1_, h2_, h3_⟩ := tup4 hq
  rw [h0_, h1_, h2_, h3_]
  exact r_vret X w hr dX6_tryShot_27
def fX6_would (hs : Int32) (σ : N2) (σr : N2) (z : N1) (sp : UInt32) (d : N1) (bl : Int32) (di : Int32) (sg : Int32) (sn : Int32) (wt : Int32) : Int32 × N2 × N1 × UInt32 × N1 := if (fX4_hasBall σ bl) = 0 then (((-1), σr, z, sp, d)) else (if (fX6_isShot di sg sn) = 0 then (((-2), σr, z, sp, d)) else (if wt < 0 then (((-2), σr, z, sp, d)) else (if wt ≤ 5 then (if wt = 0 then ((((fX6_tryShot hs σ σr z sp d bl di sg sn).2.1) 3, (fX6_tryShot hs σ σr z sp d bl di sg sn).1, (fX6_tryShot hs σ σr z sp d bl di sg sn).2.1, (fX6_tryShot hs σ σr z sp d bl di sg sn).2.2.1, (fX6_tryShot hs σ σr z sp d bl di sg sn).2.2.2)) else (if wt = 1 then ((((fX6_tryShot hs σ σr z sp d bl di sg sn).2.1) 4, (fX6_tryShot hs σ σr z sp d bl di sg sn).1, (fX6_tryShot hs σ σr z sp d bl di sg sn).2.1, (fX6_tryShot hs σ σr z sp d bl di sg sn).2.2.1, (fX6_tryShot hs σ σr z sp d bl di sg sn).2.2.2)) else (if wt = 2 then ((((fX6_tryShot hs σ σr z sp d bl di sg sn).2.1) 5, (fX6_tryShot hs σ σr z sp d bl di sg sn).1, (fX6_tryShot hs σ σr z sp d bl di sg sn).2.1, (fX6_tryShot hs σ σr z sp d bl di sg sn).2.2.1, (fX6_tryShot hs σ σr z sp d bl di sg sn).2.2.2)) else (if wt = 3 then ((((fX6_tryShot hs σ σr z sp d bl di sg sn).2.1) 6, (fX6_tryShot hs σ σr z sp d bl di sg sn).1, (fX6_tryShot hs σ σr z sp d bl di sg sn).2.1, (fX6_tryShot hs σ σr z sp d bl di sg sn).2.2.1, (fX6_tryShot hs σ σr z sp d bl di sg sn).2.2.2)) else (if wt = 4 then (((fX4_cellOfBall ((fX6_tryShot hs σ σr z sp d bl di sg sn).1) bl), (fX6_tryShot hs σ σr z sp d bl di sg sn).1, (fX6_tryShot hs σ σr z sp d bl di sg sn).2.1, (fX6_tryShot hs σ σr z sp d bl di sg sn).2.2.1, (fX6_tryShot hs σ σr z sp d bl di sg sn).2.2.2)) else ((((fX6_tryShot hs σ σr z sp d bl di sg sn).2.1) 0, (fX6_tryShot hs σ σr z sp d bl di sg sn).1, (fX6_tryShot hs σ σr z sp d bl di sg sn).2.1, (fX6_tryShot hs σ σr z sp d bl di sg sn).2.2.1, (fX6_tryShot hs σ σr z sp d bl di sg sn).2.2.2))))))) else (((-2), σr, z, sp, d)))))
theorem dX6_would_0 : decode cX6_would 0 = .ok (.aload_n 0, 1) := by decide +kernel
theorem dX6_would_1 : decode cX6_would 1 = .ok (.getfield 10, 3) := by decide +kernel
theorem dX6_would_4 : decode cX6_would 4 = .ok (.iload_n 1, 1) := by decide +kernel
theorem dX6_would_5 : decode cX6_would 5 = .ok (.invokevirtual 78, 3) := by decide +kernel
theorem dX6_would_8 : decode cX6_would 8 = .ok (.ifCond .ne 5, 3) := by decide +kernel
theorem dX6_would_11 : decode cX6_would 11 = .ok (.iconst (-1), 1) := by decide +kernel
theorem dX6_would_12 : decode cX6_would 12 = .ok (.ireturn, 1) := by decide +kernel
theorem dX6_would_13 : decode cX6_would 13 = .ok (.iload_n 2, 1) := by decide +kernel
theorem dX6_would_14 : decode cX6_would 14 = .ok (.iload_n 3, 1) := by decide +kernel
theorem dX6_would_15 : decode cX6_would 15 = .ok (.iload 4, 2) := by decide +kernel
theorem dX6_would_17 : decode cX6_would 17 = .ok (.invokestatic 109, 3) := by decide +kernel
theorem dX6_would_20 : decode cX6_would 20 = .ok (.ifCond .eq 14, 3) := by decide +kernel
theorem dX6_would_23 : decode cX6_would 23 = .ok (.iload 5, 2) := by decide +kernel
theorem dX6_would_25 : decode cX6_would 25 = .ok (.ifCond .lt 9, 3) := by decide +kernel
theorem dX6_would_28 : decode cX6_would 28 = .ok (.iload 5, 2) := by decide +kernel
theorem dX6_would_30 : decode cX6_would 30 = .ok (.iconst 5, 1) := by decide +kernel
theorem dX6_would_31 : decode cX6_would 31 = .ok (.if_icmp .le 6, 3) := by decide +kernel
theorem dX6_would_34 : decode cX6_would 34 = .ok (.bipush (-2), 2) := by decide +kernel
theorem dX6_would_36 : decode cX6_would 36 = .ok (.ireturn, 1) := by decide +kernel
theorem dX6_would_37 : decode cX6_would 37 = .ok (.aload_n 0, 1) := by decide +kernel
theorem dX6_would_38 : decode cX6_would 38 = .ok (.iload_n 1, 1) := by decide +kernel
theorem dX6_would_39 : decode cX6_would 39 = .ok (.iload_n 2, 1) := by decide +kernel
theorem dX6_would_40 : decode cX6_would 40 = .ok (.iload_n 3, 1) := by decide +kernel
theorem dX6_would_41 : decode cX6_would 41 = .ok (.iload 4, 2) := by decide +kernel
theorem dX6_would_43 : decode cX6_would 43 = .ok (.invokevirtual 184, 3) := by decide +kernel
theorem dX6_would_46 : decode cX6_would 46 = .ok (.iload 5, 2) := by decide +kernel
theorem dX6_would_48 : decode cX6_would 48 = .ok (.tableswitch 77 0 4 #[36, 44, 52, 60, 68], 36) := by decide +kernel
theorem dX6_would_84 : decode cX6_would 84 = .ok (.aload_n 0, 1) := by decide +kernel
theorem dX6_would_85 : decode cX6_would 85 = .ok (.getfield 39, 3) := by decide +kernel
theorem dX6_would_88 : decode cX6_would 88 = .ok (.getfield 188, 3) := by decide +kernel
theorem dX6_would_91 : decode cX6_would 91 = .ok (.ireturn, 1) := by decide +kernel
theorem dX6_would_92 : decode cX6_would 92 = .ok (.aload_n 0, 1) := by decide +kernel
theorem dX6_would_93 : decode cX6_would 93 = .ok (.getfield 39, 3) := by decide +kernel
theorem dX6_would_96 : decode cX6_would 96 = .ok (.getfield 191, 3) := by decide +kernel
theorem dX6_would_99 : decode cX6_would 99 = .ok (.ireturn, 1) := by decide +kernel
theorem dX6_would_100 : decode cX6_would 100 = .ok (.aload_n 0, 1) := by decide +kernel
theorem dX6_would_101 : decode cX6_would 101 = .ok (.getfield 39, 3) := by decide +kernel
theorem dX6_would_104 : decode cX6_would 104 = .ok (.getfield 194, 3) := by decide +kernel
theorem dX6_would_107 : decode cX6_would 107 = .ok (.ireturn, 1) := by decide +kernel
theorem dX6_would_108 : decode cX6_would 108 = .ok (.aload_n 0, 1) := by decide +kernel
theorem dX6_would_109 : decode cX6_would 109 = .ok (.getfield 39, 3) := by decide +kernel
theorem dX6_would_112 : decode cX6_would 112 = .ok (.getfield 120, 3) := by decide +kernel
theorem dX6_would_115 : decode cX6_would 115 = .ok (.ireturn, 1) := by decide +kernel
theorem dX6_would_116 : decode cX6_would 116 = .ok (.aload_n 0, 1) := by decide +kernel
theorem dX6_would_117 : decode cX6_would 117 = .ok (.getfield 19, 3) := by decide +kernel
theorem dX6_would_120 : decode cX6_would 120 = .ok (.iload_n 1, 1) := by decide +kernel
theorem dX6_would_121 : decode cX6_would 121 = .ok (.invokevirtual 81, 3) := by decide +kernel
theorem dX6_would_124 : decode cX6_would 124 = .ok (.ireturn, 1) := by decide +kernel
theorem dX6_would_125 : decode cX6_would 125 = .ok (.aload_n 0, 1) := by decide +kernel
theorem dX6_would_126 : decode cX6_would 126 = .ok (.getfield 39, 3) := by decide +kernel
theorem dX6_would_129 : decode cX6_would 129 = .ok (.getfield 197, 3) := by decide +kernel
theorem dX6_would_132 : decode cX6_would 132 = .ok (.ireturn, 1) := by decide +kernel
theorem ck_X6_184 : CkV RX6 184 RX6 yX6_tryShot cX6_tryShot 5 none 4 := ⟨wm_X6_184, wim_yX6_tryShot, wse_yX6_tryShot, wi_X6, wc_yX6_tryShot, by decide +kernel⟩
theorem hc_60 {E : Ev} {a0 p0_0 p0_1 p0_2 p0_3 p0_4 p0_5 : Nat} {n0 : Int32} {a1 : Nat → Nat} {σ1 : N2} {a2 : Nat → Nat} {σ2 : N2} {a3 j3 : Nat} {σ3 : N1} {v3 : UInt32} {a4 : Nat} {σ4 : N1} : ([1, 2, 3, 4, 5, 6, 7, 8, 9] : List Nat).map (fun i => (wHb a0 p0_0 p0_1 p0_2 p0_3 p0_4 p0_5 n0 ++ (wSt E a1 σ1 ++ (wSt E a2 σ2 ++ (wSh a3 j3 σ3 v3 ++ wWk a4 σ4))))[i]?) = (wSt E a1 σ1).map some := by rw [show wHb a0 p0_0 p0_1 p0_2 p0_3 p0_4 p0_5 n0 ++ (wSt E a1 σ1 ++ (wSt E a2 σ2 ++ (wSh a3 j3 σ3 v3 ++ (wWk a4 σ4)))) = (wHb a0 p0_0 p0_1 p0_2 p0_3 p0_4 p0_5 n0) ++ (wSt E a1 σ1 ++ (wSt E a2 σ2 ++ (wSh a3 j3 σ3 v3 ++ (wWk a4 σ4)))) by simp only [List.append_assoc, List.nil_append, List.append_nil]]; exact get1 (s := 1) (n := 9) rfl rfl
theorem ha_60 {E : Ev} {a1 : Nat → Nat} {σ1 : N2} {τ0_0 : N2} : (wSt E a1 τ0_0).map Prod.fst = (wSt E a1 σ1).map Prod.fst := fst_St
theorem hw_60 {E : Ev} {a0 p0_0 p0_1 p0_2 p0_3 p0_4 p0_5 : Nat} {n0 : Int32} {a1 : Nat → Nat} {σ1 : N2} {a2 : Nat → Nat} {σ2 : N2} {a3 j3 : Nat} {σ3 : N1} {v3 : UInt32} {a4 : Nat} {σ4 : N1} {τ0_0 : N2} : wput (wHb a0 p0_0 p0_1 p0_2 p0_3 p0_4 p0_5 n0 ++ (wSt E a1 σ1 ++ (wSt E a2 σ2 ++ (wSh a3 j3 σ3 v3 ++ wWk a4 σ4)))) [1, 2, 3, 4, 5, 6, 7, 8, 9] (wSt E a1 τ0_0) = wHb a0 p0_0 p0_1 p0_2 p0_3 p0_4 p0_5 n0 ++ (wSt E a1 τ0_0 ++ (wSt E a2 σ2 ++ (wSh a3 j3 σ3 v3 ++ wWk a4 σ4))) := by
  show wput (wHb a0 p0_0 p0_1 p0_2 p0_3 p0_4 p0_5 n0 ++ (wSt E a1 σ1 ++ (wSt E a2 σ2 ++ (wSh a3 j3 σ3 v3 ++ (wWk a4 σ4))))) (rg 1 9) (wSt E a1 τ0_0) = _
  rw [show wHb a0 p0_0 p0_1 p0_2 p0_3 p0_4 p0_5 n0 ++ (wSt E a1 σ1 ++ (wSt E a2 σ2 ++ (wSh a3 j3 σ3 v3 ++ (wWk a4 σ4)))) = (wHb a0 p0_0 p0_1 p0_2 p0_3 p0_4 p0_5 n0) ++ (wSt E a1 σ1 ++ (wSt E a2 σ2 ++ (wSh a3 j3 σ3 v3 ++ (wWk a4 σ4)))) by simp only [List.append_assoc, List.nil_append, List.append_nil], put1 (s := 1) (n := 9) rfl rfl rfl]
  try simp only [List.append_assoc, List.nil_append, List.append_nil]
theorem hc_61 {E : Ev} {a0 p0_0 p0_1 p0_2 p0_3 p0_4 p0_5 : Nat} {n0 : Int32} {a1 : Nat → Nat} {σ1 : N2} {a2 : Nat → Nat} {σ2 : N2} {a3 j3 : Nat} {σ3 : N1} {v3 : UInt32} {a4 : Nat} {σ4 : N1} : ([0, 1, 2, 3, 4, 5, 6, 7, 8, 9, 10, 11, 12, 13, 14, 15, 16, 17, 18, 19, 20] : List Nat).map (fun i => (wHb a0 p0_0 p0_1 p0_2 p0_3 p0_4 p0_5 n0 ++ (wSt E a1 σ1 ++ (wSt E a2 σ2 ++ (wSh a3 j3 σ3 v3 ++ wWk a4 σ4))))[i]?) = (wHb a0 p0_0 p0_1 p0_2 p0_3 p0_4 p0_5 n0 ++ (wSt E a1 σ1 ++ (wSt E a2 σ2 ++ (wSh a3 j3 σ3 v3 ++ wWk a4 σ4)))).map some := get_app (is1 := rg 0 1) (is2 := rg 1 9 ++ (rg 10 9 ++ (rg 19 1 ++ (rg 20 1)))) (by rw [show wHb a0 p0_0 p0_1 p0_2 p0_3 p0_4 p0_5 n0 ++ (wSt E a1 σ1 ++ (wSt E a2 σ2 ++ (wSh a3 j3 σ3 v3 ++ (wWk a4 σ4)))) = ([] : va_W) ++ (wHb a0 p0_0 p0_1 p0_2 p0_3 p0_4 p0_5 n0 ++ (wSt E a1 σ1 ++ (wSt E a2 σ2 ++ (wSh a3 j3 σ3 v3 ++ (wWk a4 σ4))))) by simp only [List.append_assoc, List.nil_append, List.append_nil]]; exact get1 (s := 0) (n := 1) rfl rfl) (get_app (is1 := rg 1 9) (is2 := rg 10 9 ++ (rg 19 1 ++ (rg 20 1))) (by rw [show wHb a0 p0_0 p0_1 p0_2 p0_3 p0_4 p0_5 n0 ++ (wSt E a1 σ1 ++ (wSt E a2 σ2 ++ (wSh a3 j3 σ3 v3 ++ (wWk a4 σ4)))) = (wHb a0 p0_0 p0_1 p0_2 p0_3 p0_4 p0_5 n0) ++ (wSt E a1 σ1 ++ (wSt E a2 σ2 ++ (wSh a3 j3 σ3 v3 ++ (wWk a4 σ4)))) by simp only [List.append_assoc, List.nil_append, List.append_nil]]; exact get1 (s := 1) (n := 9) rfl rfl) (get_app (is1 := rg 10 9) (is2 := rg 19 1 ++ (rg 20 1)) (by rw [show wHb a0 p0_0 p0_1 p0_2 p0_3 p0_4 p0_5 n0 ++ (wSt E a1 σ1 ++ (wSt E a2 σ2 ++ (wSh a3 j3 σ3 v3 ++ (wWk a4 σ4)))) = (wHb a0 p0_0 p0_1 p0_2 p0_3 p0_4 p0_5 n0 ++ (wSt E a1 σ1)) ++ (wSt E a2 σ2 ++ (wSh a3 j3 σ3 v3 ++ (wWk a4 σ4))) by simp only [List.append_assoc, List.nil_append, List.append_nil]]; exact get1 (s := 10) (n := 9) rfl rfl) (get_app (is1 := rg 19 1) (is2 := rg 20 1) (by rw [show wHb a0 p0_0 p0_1 p0_2 p0_3 p0_4 p0_5 n0 ++ (wSt E a1 σ1 ++ (wSt E a2 σ2 ++ (wSh a3 j3 σ3 v3 ++ (wWk a4 σ4)))) = (wHb a0 p0_0 p0_1 p0_2 p0_3 p0_4 p0_5 n0 ++ (wSt E a1 σ1 ++ (wSt E a2 σ2))) ++ (wSh a3 j3 σ3 v3 ++ (wWk a4 σ4)) by simp only [List.append_assoc, List.nil_append, List.append_nil]]; exact get1 (s := 19) (n := 1) rfl rfl) ((by rw [show wHb a0 p0_0 p0_1 p0_2 p0_3 p0_4 p0_5 n0 ++ (wSt E a1 σ1 ++ (wSt E a2 σ2 ++ (wSh a3 j3 σ3 v3 ++ (wWk a4 σ4)))) = (wHb a0 p0_0 p0_1 p0_2 p0_3 p0_4 p0_5 n0 ++ (wSt E a1 σ1 ++ (wSt E a2 σ2 ++ (wSh a3 j3 σ3 v3)))) ++ (wWk a4 σ4 ++ (([] : va_W))) by simp only [List.append_assoc, List.nil_append, List.append_nil]]; exact get1 (s := 20) (n := 1) rfl rfl)))))
theorem ha_61 {E : Ev} {a0 p0_0 p0_1 p0_2 p0_3 p0_4 p0_5 : Nat} {n0 : Int32} {a1 : Nat → Nat} {σ1 : N2} {a2 : Nat → Nat} {σ2 : N2} {a3 j3 : Nat} {σ3 : N1} {v3 : UInt32} {a4 : Nat} {σ4 : N1} {τ0_0 : Int32} {τ1_0 : N2} {τ2_0 : N2} {τ3_0 : N1} {τ3_1 : UInt32} {τ4_0 : N1} : (wHb a0 p0_0 p0_1 p0_2 p0_3 p0_4 p0_5 τ0_0 ++ (wSt E a1 τ1_0 ++ (wSt E a2 τ2_0 ++ (wSh a3 j3 τ3_0 τ3_1 ++ wWk a4 τ4_0)))).map Prod.fst = (wHb a0 p0_0 p0_1 p0_2 p0_3 p0_4 p0_5 n0 ++ (wSt E a1 σ1 ++ (wSt E a2 σ2 ++ (wSh a3 j3 σ3 v3 ++ wWk a4 σ4)))).map Prod.fst := fst_app fst_Hb (fst_app fst_St (fst_app fst_St (fst_app fst_Sh (fst_Wk))))
theorem hw_61 {E : Ev} {a0 p0_0 p0_1 p0_2 p0_3 p0_4 p0_5 : Nat} {n0 : Int32} {a1 : Nat → Nat} {σ1 : N2} {a2 : Nat → Nat} {σ2 : N2} {a3 j3 : Nat} {σ3 : N1} {v3 : UInt32} {a4 : Nat} {σ4 : N1} {τ0_0 : Int32} {τ1_0 : N2} {τ2_0 : N2} {τ3_0 : N1} {τ3_1 : UInt32} {τ4_0 : N1} : wput (wHb a0 p0_0 p0_1 p0_2 p0_3 p0_4 p0_5 n0 ++ (wSt E a1 σ1 ++ (wSt E a2 σ2 ++ (wSh a3 j3 σ3 v3 ++ wWk a4 σ4)))) [0, 1, 2, 3, 4, 5, 6, 7, 8, 9, 10, 11, 12, 13, 14, 15, 16, 17, 18, 19, 20] (wHb a0 p0_0 p0_1 p0_2 p0_3 p0_4 p0_5 τ0_0 ++ (wSt E a1 τ1_0 ++ (wSt E a2 τ2_0 ++ (wSh a3 j3 τ3_0 τ3_1 ++ wWk a4 τ4_0)))) = wHb a0 p0_0 p0_1 p0_2 p0_3 p0_4 p0_5 τ0_0 ++ (wSt E a1 τ1_0 ++ (wSt E a2 τ2_0 ++ (wSh a3 j3 τ3_0 τ3_1 ++ wWk a4 τ4_0))) := by
  show wput (wHb a0 p0_0 p0_1 p0_2 p0_3 p0_4 p0_5 n0 ++ (wSt E a1 σ1 ++ (wSt E a2 σ2 ++ (wSh a3 j3 σ3 v3 ++ (wWk a4 σ4))))) (rg 0 1 ++ (rg 1 9 ++ (rg 10 9 ++ (rg 19 1 ++ (rg 20 1))))) (wHb a0 p0_0 p0_1 p0_2 p0_3 p0_4 p0_5 τ0_0 ++ (wSt E a1 τ1_0 ++ (wSt E a2 τ2_0 ++ (wSh a3 j3 τ3_0 τ3_1 ++ wWk a4 τ4_0)))) = _
  rw [wput_app rfl]
  rw [show wHb a0 p0_0 p0_1 p0_2 p0_3 p0_4 p0_5 n0 ++ (wSt E a1 σ1 ++ (wSt E a2 σ2 ++ (wSh a3 j3 σ3 v3 ++ (wWk a4 σ4)))) = ([] : va_W) ++ (wHb a0 p0_0 p0_1 p0_2 p0_3 p0_4 p0_5 n0 ++ (wSt E a1 σ1 ++ (wSt E a2 σ2 ++ (wSh a3 j3 σ3 v3 ++ (wWk a4 σ4))))) by simp only [List.append_assoc, List.nil_append, List.append_nil], put1 (s := 0) (n := 1) rfl rfl rfl]
  rw [wput_app rfl]
  rw [show ([] : va_W) ++ (wHb a0 p0_0 p0_1 p0_2 p0_3 p0_4 p0_5 τ0_0 ++ (wSt E a1 σ1 ++ (wSt E a2 σ2 ++ (wSh a3 j3 σ3 v3 ++ (wWk a4 σ4))))) = (wHb a0 p0_0 p0_1 p0_2 p0_3 p0_4 p0_5 τ0_0) ++ (wSt E a1 σ1 ++ (wSt E a2 σ2 ++ (wSh a3 j3 σ3 v3 ++ (wWk a4 σ4)))) by simp only [List.append_assoc, List.nil_append, List.append_nil], put1 (s := 1) (n := 9) rfl rfl rfl]
  rw [wput_app rfl]
  rw [show (wHb a0 p0_0 p0_1 p0_2 p0_3 p0_4 p0_5 τ0_0) ++ (wSt E a1 τ1_0 ++ (wSt E a2 σ2 ++ (wSh a3 j3 σ3 v3 ++ (wWk a4 σ4)))) = (wHb a0 p0_0 p0_1 p0_2 p0_3 p0_4 p0_5 τ0_0 ++ (wSt E a1 τ1_0)) ++ (wSt E a2 σ2 ++ (wSh a3 j3 σ3 v3 ++ (wWk a4 σ4))) by simp only [List.append_assoc, List.nil_append, List.append_nil], put1 (s := 10) (n := 9) rfl rfl rfl]
  rw [wput_app rfl]
  rw [show (wHb a0 p0_0 p0_1 p0_2 p0_3 p0_4 p0_5 τ0_0 ++ (wSt E a1 τ1_0)) ++ (wSt E a2 τ2_0 ++ (wSh a3 j3 σ3 v3 ++ (wWk a4 σ4))) = (wHb a0 p0_0 p0_1 p0_2 p0_3 p0_4 p0_5 τ0_0 ++ (wSt E a1 τ1_0 ++ (wSt E a2 τ2_0))) ++ (wSh a3 j3 σ3 v3 ++ (wWk a4 σ4)) by simp only [List.append_assoc, List.nil_append, List.append_nil], put1 (s := 19) (n := 1) rfl rfl rfl]
  rw [show (wHb a0 p0_0 p0_1 p0_2 p0_3 p0_4 p0_5 τ0_0 ++ (wSt E a1 τ1_0 ++ (wSt E a2 τ2_0))) ++ (wSh a3 j3 τ3_0 τ3_1 ++ (wWk a4 σ4)) = (wHb a0 p0_0 p0_1 p0_2 p0_3 p0_4 p0_5 τ0_0 ++ (wSt E a1 τ1_0 ++ (wSt E a2 τ2_0 ++ (wSh a3 j3 τ3_0 τ3_1)))) ++ (wWk a4 σ4 ++ (([] : va_W))) by simp only [List.append_assoc, List.nil_append, List.append_nil], put1 (s := 20) (n := 1) rfl rfl rfl]
  try simp only [List.append_assoc, List.nil_append, List.append_nil]
theorem hc_62 {E : Ev} {a0 p0_0 p0_1 p0_2 p0_3 p0_4 p0_5 : Nat} {n0 : Int32} {a1 : Nat → Nat} {σ1 : N2} {a2 : Nat → Nat} {σ2 : N2} {a3 j3 : Nat} {σ3 : N1} {v3 : UInt32} {a4 : Nat} {σ4 : N1} : ([10, 11, 12, 13, 14, 15, 16, 17, 18] : List Nat).map (fun i => (wHb a0 p0_0 p0_1 p0_2 p0_3 p0_4 p0_5 n0 ++ (wSt E a1 σ1 ++ (wSt E a2 σ2 ++ (wSh a3 j3 σ3 v3 ++ wWk a4 σ4))))[i]?) = (wSt E a2 σ2).map some := by rw [show wHb a0 p0_0 p0_1 p0_2 p0_3 p0_4 p0_5 n0 ++ (wSt E a1 σ1 ++ (wSt E a2 σ2 ++ (wSh a3 j3 σ3 v3 ++ (wWk a4 σ4)))) = (wHb a0 p0_0 p0_1 p0_2 p0_3 p0_4 p0_5 n0 ++ (wSt E a1 σ1)) ++ (wSt E a2 σ2 ++ (wSh a3 j3 σ3 v3 ++ (wWk a4 σ4))) by simp only [List.append_assoc, List.nil_append, List.append_nil]]; exact get1 (s := 10) (n := 9) rfl rfl
theorem ha_62 {E : Ev} {a2 : Nat → Nat} {σ2 : N2} {τ0_0 : N2} : (wSt E a2 τ0_0).map Prod.fst = (wSt E a2 σ2).map Prod.fst := fst_St
theorem hw_62 {E : Ev} {a0 p0_0 p0_1 p0_2 p0_3 p0_4 p0_5 : Nat} {n0 : Int32} {a1 : Nat → Nat} {σ1 : N2} {a2 : Nat → Nat} {σ2 : N2} {a3 j3 : Nat} {σ3 : N1} {v3 : UInt32} {a4 : Nat} {σ4 : N1} {τ0_0 : N2} : wput (wHb a0 p0_0 p0_1 p0_2 p0_3 p0_4 p0_5 n0 ++ (wSt E a1 σ1 ++ (wSt E a2 σ2 ++ (wSh a3 j3 σ3 v3 ++ wWk a4 σ4)))) [10, 11, 12, 13, 14, 15, 16, 17, 18] (wSt E a2 τ0_0) = wHb a0 p0_0 p0_1 p0_2 p0_3 p0_4 p0_5 n0 ++ (wSt E a1 σ1 ++ (wSt E a2 τ0_0 ++ (wSh a3 j3 σ3 v3 ++ wWk a4 σ4))) := by
  show wput (wHb a0 p0_0 p0_1 p0_2 p0_3 p0_4 p0_5 n0 ++ (wSt E a1 σ1 ++ (wSt E a2 σ2 ++ (wSh a3 j3 σ3 v3 ++ (wWk a4 σ4))))) (rg 10 9) (wSt E a2 τ0_0) = _
  rw [show wHb a0 p0_0 p0_1 p0_2 p0_3 p0_4 p0_5 n0 ++ (wSt E a1 σ1 ++ (wSt E a2 σ2 ++ (wSh a3 j3 σ3 v3 ++ (wWk a4 σ4)))) = (wHb a0 p0_0 p0_1 p0_2 p0_3 p0_4 p0_5 n0 ++ (wSt E a1 σ1)) ++ (wSt E a2 σ2 ++ (wSh a3 j3 σ3 v3 ++ (wWk a4 σ4))) by simp only [List.append_assoc, List.nil_append, List.append_nil], put1 (s := 10) (n := 9) rfl rfl rfl]
  try simp only [List.append_assoc, List.nil_append, List.append_nil]
set_option maxHeartbeats 4000000 in
set_option maxRecDepth 100000 in
theorem kX6_would (l : Launch) (E : Ev) (h : Nat) (p1 : Nat) (p3 : Nat) (p4 : Nat) (k : Nat) (hs : Int32) (sa : Nat → Nat) (σ : N2) (ra : Nat → Nat) (σr : N2) (j : Nat) (z : N1) (sp : UInt32) (d : N1) (bl : Int32) (di : Int32) (sg : Int32) (sn : Int32) (wt : Int32) (gs : gset σ) : KQ l yX6_would cX6_would 6 (some .int) 6 143 E [.ref h, .int bl, .int di, .int sg, .int sn, .int wt] (wHb h (sa 0) p1 (ra 0) p3 p4 k hs ++ (wSt E sa σ ++ (wSt E ra σr ++ (wSh k j z sp ++ wWk j d)))) (QI E (wHb h (sa 0) p1 (ra 0) p3 p4 k hs ++ (wSt E sa σ ++ (wSt E ra σr ++ (wSh k j z sp ++ wWk j d)))) (fX6_would hs σ σr z sp d bl di sg sn wt).1 (wHb h (sa 0) p1 (ra 0) p3 p4 k hs ++ (wSt E sa σ ++ (wSt E ra ((fX6_would hs σ σr z sp d bl di sg sn wt).2.1) ++ (wSh k j ((fX6_would hs σ σr z sp d bl di sg sn wt).2.2.1) ((fX6_would hs σ σr z sp d bl di sg sn wt).2.2.2.1) ++ wWk j ((fX6_would hs σ σr z sp d bl di sg sn wt).2.2.2.2)))))) := by
  refine KQ.mk RX6 rfl (by decide +kernel) (Nat.le_of_ble_eq_true rfl) ?_
  intro p e s m below meth c ls X hr w hl
  have hx := X.1
  have hb := X.2.1
  have hl : lv_has ls 6 [(0, .ref h), (1, .int bl), (2, .int di), (3, .int sg), (4, .int sn), (5, .int wt)] := hl
  refine lv_aload_n hx hb dX6_would_0 rfl (lv_at hl 0 rfl) ?_
  refine r_get X w CL6 0 (by decide) wf_X6_10 0 rfl rfl dX6_would_1 ?_
  refine lv_iload_n hx hb dX6_would_4 rfl (lv_at hl 1 rfl) ?_
  refine r_ci w (r_runV (As := [.int bl]) (rest := []) X w (kX4_hasBall l E sa σ bl ) ck_X6_78 ⟨Nat.le_of_ble_eq_true rfl, Nat.le_of_ble_eq_true rfl⟩ [1, 2, 3, 4, 5, 6, 7, 8, 9] (hc_60 (E := E)) (by decide +kernel) (k0 := 0) CL4 rfl hl.1 (Nat.le_of_ble_eq_true rfl) rfl dX6_would_5 ⟨Nat.le_of_ble_eq_true rfl, Nat.le_of_ble_eq_true rfl⟩) (wHb h (sa 0) p1 (ra 0) p3 p4 k hs ++ (wSt E sa σ ++ (wSt E ra σr ++ (wSh k j z sp ++ wWk j d)))) [1, 2, 3, 4, 5, 6, 7, 8, 9] (hc_60 (E := E)) (by decide +kernel) (ha_60 (E := E)) (hw_60 (E := E)) (fun H locs w => ?_)
  refine lv_if_ne (tgt := 13) hx hb dX6_would_8 (by decide) (fun c8_1 => ?_) (fun c8_1 => ?_)
  · refine lv_iload_n hx hb dX6_would_13 rfl (lv_at hl 2 rfl) ?_
    refine lv_iload_n hx hb dX6_would_14 rfl (lv_at hl 3 rfl) ?_
    refine lv_iload hx hb dX6_would_15 (lv_at hl 4 rfl) ?_
    refine r_ci w (r_runS (As := [.int di, .int sg, .int sn]) (rest := []) X w (kX6_isShot l E di sg sn ) ck_X6_109 ⟨Nat.le_of_ble_eq_true rfl, Nat.le_of_ble_eq_true rfl⟩ [] rfl (by decide +kernel) hl.1 (Nat.le_of_ble_eq_true rfl) rfl dX6_would_17 ⟨Nat.le_of_ble_eq_true rfl, Nat.le_of_ble_eq_true rfl⟩) (wHb h (sa 0) p1 (ra 0) p3 p4 k hs ++ (wSt E sa σ ++ (wSt E ra σr ++ (wSh k j z sp ++ wWk j d)))) [] rfl (by decide +kernel) rfl rfl (fun H locs w => ?_)
    refine lv_if_eq (tgt := 34) hx hb dX6_would_20 (by decide) (fun c20_2 => ?_) (fun c20_2 => ?_)
    · refine lv_bipush (v := (-2)) hx hb dX6_would_34 (by decide) ?_
      have hq : fX6_would hs σ σr z sp d bl di sg sn wt = ((-2), σr, z, sp, d) := by simp only [fX6_would, if_neg c8_1, if_pos c20_2]
      obtain ⟨h0_, h1_, h2_, h3_, h4_⟩ := tup5 hq
      rw [h0_, h1_, h2_, h3_, h4_]
      exact r_iret X w hr rfl dX6_would_36
    · refine lv_iload hx hb dX6_would_23 (lv_at hl 5 rfl) ?_
      refine lv_if_lt (tgt := 34) hx hb dX6_would_25 (by decide) (fun c25_3 => ?_) (fun c25_3 => ?_)
      · refine lv_bipush (v := (-2)) hx hb dX6_would_34 (by decide) ?_
        have hq : fX6_would hs σ σr z sp d bl di sg sn wt = ((-2), σr, z, sp, d) := by simp only [fX6_would, if_neg c8_1, if_neg c20_2, if_pos c25_3]
        obtain ⟨h0_, h1_, h2_, h3_, h4_⟩ := tup5 hq
        rw [h0_, h1_, h2_, h3_, h4_]
        exact r_iret X w hr rfl dX6_would_36
      · refine lv_iload hx hb dX6_would_28 (lv_at hl 5 rfl) ?_
        refine lv_iconst (v := 5) hx hb dX6_would_30 (by decide) ?_
        refine lv_icmp_le (tgt := 37) hx hb dX6_would_31 (by decide) (fun c31_4 => ?_) (fun c31_4 => ?_)
        · refine lv_aload_n hx hb dX6_would_37 rfl (lv_at hl 0 rfl) ?_
          refine lv_iload_n hx hb dX6_would_38 rfl (lv_at hl 1 rfl) ?_
          refine lv_iload_n hx hb dX6_would_39 rfl (lv_at hl 2 rfl) ?_
          refine lv_iload_n hx hb dX6_would_40 rfl (lv_at hl 3 rfl) ?_
          refine lv_iload hx hb dX6_would_41 (lv_at hl 4 rfl) ?_
          refine r_cv w (r_runV (As := [.int bl, .int di, .int sg, .int sn]) (rest := []) X w (kX6_tryShot l E h p1 p3 p4 k hs sa σ ra σr j z sp d bl di sg sn gs (sh_ok c20_2)) ck_X6_184 ⟨Nat.le_of_ble_eq_true rfl, Nat.le_of_ble_eq_true rfl⟩ [0, 1, 2, 3, 4, 5, 6, 7, 8, 9, 10, 11, 12, 13, 14, 15, 16, 17, 18, 19, 20] (hc_61 (E := E)) (by decide +kernel) (k0 := 0) CL6 rfl hl.1 (Nat.le_of_ble_eq_true rfl) rfl dX6_would_43 ⟨Nat.le_of_ble_eq_true rfl, Nat.le_of_ble_eq_true rfl⟩) (wHb h (sa 0) p1 (ra 0) p3 p4 k hs ++ (wSt E sa σ ++ (wSt E ra ((fX6_tryShot hs σ σr z sp d bl di sg sn).1) ++ (wSh k j ((fX6_tryShot hs σ σr z sp d bl di sg sn).2.1) ((fX6_tryShot hs σ σr z sp d bl di sg sn).2.2.1) ++ wWk j ((fX6_tryShot hs σ σr z sp d bl di sg sn).2.2.2))))) [0, 1, 2, 3, 4, 5, 6, 7, 8, 9, 10, 11, 12, 13, 14, 15, 16, 17, 18, 19, 20] (hc_61 (E := E)) (by decide +kernel) (ha_61 (E := E)) (hw_61 (E := E)) (fun H locs w => ?_)
          refine lv_iload hx hb dX6_would_46 (lv_at hl 5 rfl) ?_
          by_cases c48_5 : wt = 0
          · refine lv_tableIn (off := 36) (tgt := 84) hx hb dX6_would_48 (by rw [c48_5]; decide) (by rw [c48_5]; decide) (by rw [c48_5]; rfl) (by decide) ?_
            refine lv_aload_n hx hb dX6_would_84 rfl (lv_at hl 0 rfl) ?_
            refine r_get X w CL6 5 (by decide) wf_X6_39 0 rfl rfl dX6_would_85 ?_
            refine r_getN X w CL3 5 (by decide) nl_10 19 rfl rfl dX6_would_88 ?_
            have hq : fX6_would hs σ σr z sp d bl di sg sn wt = (((fX6_tryShot hs σ σr z sp d bl di sg sn).2.1) 3, (fX6_tryShot hs σ σr z sp d bl di sg sn).1, (fX6_tryShot hs σ σr z sp d bl di sg sn).2.1, (fX6_tryShot hs σ σr z sp d bl di sg sn).2.2.1, (fX6_tryShot hs σ σr z sp d bl di sg sn).2.2.2) := by simp only [fX6_would, if_neg c8_1, if_neg c20_2, if_neg c25_3, if_pos c31_4, if_pos c48_5]
            obtain ⟨h0_, h1_, h2_, h3_, h4_⟩ := tup5 hq
            rw [h0_, h1_, h2_, h3_, h4_]
            exact r_iret X w hr rfl dX6_would_91
          · by_cases c48_6 : wt = 1
            · refine lv_tableIn (off := 44) (tgt := 92) hx hb dX6_would_48 (by rw [c48_6]; decide) (by rw [c48_6]; decide) (by rw [c48_6]; rfl) (by decide) ?_
              refine lv_aload_n hx hb dX6_would_92 rfl (lv_at hl 0 rfl) ?_
              refine r_get X w CL6 5 (by decide) wf_X6_39 0 rfl rfl dX6_would_93 ?_
              refine r_getN X w CL3 6 (by decide) nl_11 19 rfl rfl dX6_would_96 ?_
              have hq : fX6_would hs σ σr z sp d bl di sg sn wt = (((fX6_tryShot hs σ σr z sp d bl di sg sn).2.1) 4, (fX6_tryShot hs σ σr z sp d bl di sg sn).1, (fX6_tryShot hs σ σr z sp d bl di sg sn).2.1, (fX6_tryShot hs σ σr z sp d bl di sg sn).2.2.1, (fX6_tryShot hs σ σr z sp d bl di sg sn).2.2.2) := by simp only [fX6_would, if_neg c8_1, if_neg c20_2, if_neg c25_3, if_pos c31_4, if_neg c48_5, if_pos c48_6]
              obtain ⟨h0_, h1_, h2_, h3_, h4_⟩ := tup5 hq
              rw [h0_, h1_, h2_, h3_, h4_]
              exact r_iret X w hr rfl dX6_would_99
            · by_cases c48_7 : wt = 2
              · refine lv_tableIn (off := 52) (tgt := 100) hx hb dX6_would_48 (by rw [c48_7]; decide) (by rw [c48_7]; decide) (by rw [c48_7]; rfl) (by decide) ?_
                refine lv_aload_n hx hb dX6_would_100 rfl (lv_at hl 0 rfl) ?_
                refine r_get X w CL6 5 (by decide) wf_X6_39 0 rfl rfl dX6_would_101 ?_
                refine r_getN X w CL3 7 (by decide) nl_12 19 rfl rfl dX6_would_104 ?_
                have hq : fX6_would hs σ σr z sp d bl di sg sn wt = (((fX6_tryShot hs σ σr z sp d bl di sg sn).2.1) 5, (fX6_tryShot hs σ σr z sp d bl di sg sn).1, (fX6_tryShot hs σ σr z sp d bl di sg sn).2.1, (fX6_tryShot hs σ σr z sp d bl di sg sn).2.2.1, (fX6_tryShot hs σ σr z sp d bl di sg sn).2.2.2) := by simp only [fX6_would, if_neg c8_1, if_neg c20_2, if_neg c25_3, if_pos c31_4, if_neg c48_5, if_neg c48_6, if_pos c48_7]
                obtain ⟨h0_, h1_, h2_, h3_, h4_⟩ := tup5 hq
                rw [h0_, h1_, h2_, h3_, h4_]
                exact r_iret X w hr rfl dX6_would_107
              · by_cases c48_8 : wt = 3
                · refine lv_tableIn (off := 60) (tgt := 108) hx hb dX6_would_48 (by rw [c48_8]; decide) (by rw [c48_8]; decide) (by rw [c48_8]; rfl) (by decide) ?_
                  refine lv_aload_n hx hb dX6_would_108 rfl (lv_at hl 0 rfl) ?_
                  refine r_get X w CL6 5 (by decide) wf_X6_39 0 rfl rfl dX6_would_109 ?_
                  refine r_getN X w CL3 8 (by decide) nl_1 19 rfl rfl dX6_would_112 ?_
                  have hq : fX6_would hs σ σr z sp d bl di sg sn wt = (((fX6_tryShot hs σ σr z sp d bl di sg sn).2.1) 6, (fX6_tryShot hs σ σr z sp d bl di sg sn).1, (fX6_tryShot hs σ σr z sp d bl di sg sn).2.1, (fX6_tryShot hs σ σr z sp d bl di sg sn).2.2.1, (fX6_tryShot hs σ σr z sp d bl di sg sn).2.2.2) := by simp only [fX6_would, if_neg c8_1, if_neg c20_2, if_neg c25_3, if_pos c31_4, if_neg c48_5, if_neg c48_6, if_neg c48_7, if_pos c48_8]
                  obtain ⟨h0_, h1_, h2_, h3_, h4_⟩ := tup5 hq
                  rw [h0_, h1_, h2_, h3_, h4_]
                  exact r_iret X w hr rfl dX6_would_115
                · by_cases c48_9 : wt = 4
                  · refine lv_tableIn (off := 68) (tgt := 116) hx hb dX6_would_48 (by rw [c48_9]; decide) (by rw [c48_9]; decide) (by rw [c48_9]; rfl) (by decide) ?_
                    refine lv_aload_n hx hb dX6_would_116 rfl (lv_at hl 0 rfl) ?_
                    refine r_get X w CL6 2 (by decide) wf_X6_19 0 rfl rfl dX6_would_117 ?_
                    refine lv_iload_n hx hb dX6_would_120 rfl (lv_at hl 1 rfl) ?_
                    refine r_ci w (r_runV (As := [.int bl]) (rest := []) X w (kX4_cellOfBall l E ra ((fX6_tryShot hs σ σr z sp d bl di sg sn).1) bl ) ck_X6_81 ⟨Nat.le_of_ble_eq_true rfl, Nat.le_of_ble_eq_true rfl⟩ [10, 11, 12, 13, 14, 15, 16, 17, 18] (hc_62 (E := E)) (by decide +kernel) (k0 := 0) CL4 rfl hl.1 (Nat.le_of_ble_eq_true rfl) rfl dX6_would_121 ⟨Nat.le_of_ble_eq_true rfl, Nat.le_of_ble_eq_true rfl⟩) (wHb h (sa 0) p1 (ra 0) p3 p4 k hs ++ (wSt E sa σ ++ (wSt E ra ((fX6_tryShot hs σ σr z sp d bl di sg sn).1) ++ (wSh k j ((fX6_tryShot hs σ σr z sp d bl di sg sn).2.1) ((fX6_tryShot hs σ σr z sp d bl di sg sn).2.2.1) ++ wWk j ((fX6_tryShot hs σ σr z sp d bl di sg sn).2.2.2))))) [10, 11, 12, 13, 14, 15, 16, 17, 18] (hc_62 (E := E)) (by decide +kernel) (ha_62 (E := E)) (hw_62 (E := E)) (fun H locs w => ?_)
                    have hq : fX6_would hs σ σr z sp d bl di sg sn wt = ((fX4_cellOfBall ((fX6_tryShot hs σ σr z sp d bl di sg sn).1) bl), (fX6_tryShot hs σ σr z sp d bl di sg sn).1, (fX6_tryShot hs σ σr z sp d bl di sg sn).2.1, (fX6_tryShot hs σ σr z sp d bl di sg sn).2.2.1, (fX6_tryShot hs σ σr z sp d bl di sg sn).2.2.2) := by simp only [fX6_would, if_neg c8_1, if_neg c20_2, if_neg c25_3, if_pos c31_4, if_neg c48_5, if_neg c48_6, if_neg c48_7, if_neg c48_8, if_pos c48_9]
                    obtain ⟨h0_, h1_, h2_, h3_, h4_⟩ := tup5 hq
                    rw [h0_, h1_, h2_, h3_, h4_]
                    exact r_iret X w hr rfl dX6_would_124
                  · refine lv_tableOut (tgt := 125) hx hb dX6_would_48 (tab_out_4 c48_5 c48_6 c48_7 c48_8 c48_9) (by decide) ?_
                    refine lv_aload_n hx hb dX6_would_125 rfl (lv_at hl 0 rfl) ?_
                    refine r_get X w CL6 5 (by decide) wf_X6_39 0 rfl rfl dX6_would_126 ?_
                    refine r_getN X w CL3 1 (by decide) nl_13 19 rfl rfl dX6_would_129 ?_
                    have hq : fX6_would hs σ σr z sp d bl di sg sn wt = (((fX6_tryShot hs σ σr z sp d bl di sg sn).2.1) 0, (fX6_tryShot hs σ σr z sp d bl di sg sn).1, (fX6_tryShot hs σ σr z sp d bl di sg sn).2.1, (fX6_tryShot hs σ σr z sp d bl di sg sn).2.2.1, (fX6_tryShot hs σ σr z sp d bl di sg sn).2.2.2) := by simp only [fX6_would, if_neg c8_1, if_neg c20_2, if_neg c25_3, if_pos c31_4, if_neg c48_5, if_neg c48_6, if_neg c48_7, if_neg c48_8, if_neg c48_9]
                    obtain ⟨h0_, h1_, h2_, h3_, h4_⟩ := tup5 hq
                    rw [h0_, h1_, h2_, h3_, h4_]
                    exact r_iret X w hr rfl dX6_would_132
        · refine lv_bipush (v := (-2)) hx hb dX6_would_34 (by decide) ?_
          have hq : fX6_would hs σ σr z sp d bl di sg sn wt = ((-2), σr, z, sp, d) := by simp only [fX6_would, if_neg c8_1, if_neg c20_2, if_neg c25_3, if_neg c31_4]
          obtain ⟨h0_, h1_, h2_, h3_, h4_⟩ := tup5 hq
          rw [h0_, h1_, h2_, h3_, h4_]
          exact r_iret X w hr rfl dX6_would_36
  · refine lv_iconst (v := (-1)) hx hb dX6_would_11 (by decide) ?_
    have hq : fX6_would hs σ σr z sp d bl di sg sn wt = ((-1), σr, z, sp, d) := by simp only [fX6_would, if_pos c8_1]
    obtain ⟨h0_, h1_, h2_, h3_, h4_⟩ := tup5 hq
    rw [h0_, h1_, h2_, h3_, h4_]
    exact r_iret X w hr rfl dX6_would_12
def fX6_speedLeft (hs : Int32) (σ : N2) (σr : N2) (z : N1) (sp : UInt32) (d : N1) (bl : Int32) (di : Int32) (sg : Int32) (sn : Int32) : UInt32 × N2 × N1 × UInt32 × N1 := if (fX4_hasBall σ bl) = 0 then ((3212836864, σr, z, sp, d)) else (if (fX6_isShot di sg sn) = 0 then ((3212836864, σr, z, sp, d)) else (((fX6_tryShot hs σ σr z sp d bl di sg sn).2.2.1, (fX6_tryShot hs σ σr z sp d bl di sg sn).1, (fX6_tryShot hs σ σr z sp d bl di sg sn).2.1, (fX6_tryShot hs σ σr z sp d bl di sg sn).2.2.1, (fX6_tryShot hs σ σr z sp d bl di sg sn).2.2.2)))
theorem dX6_speedLeft_0 : decode cX6_speedLeft 0 = .ok (.aload_n 0, 1) := by decide +kernel
theorem dX6_speedLeft_1 : decode cX6_speedLeft 1 = .ok (.getfield 10, 3) := by decide +kernel
theorem dX6_speedLeft_4 : decode cX6_speedLeft 4 = .ok (.iload_n 1, 1) := by decide +kernel
theorem dX6_speedLeft_5 : decode cX6_speedLeft 5 = .ok (.invokevirtual 78, 3) := by decide +kernel
theorem dX6_speedLeft_8 : decode cX6_speedLeft 8 = .ok (.ifCond .eq 13, 3) := by decide +kernel
theorem dX6_speedLeft_11 : decode cX6_speedLeft 11 = .ok (.iload_n 2, 1) := by decide +kernel
theorem dX6_speedLeft_12 : decode cX6_speedLeft 12 = .ok (.iload_n 3, 1) := by decide +kernel
theorem dX6_speedLeft_13 : decode cX6_speedLeft 13 = .ok (.iload 4, 2) := by decide +kernel
theorem dX6_speedLeft_15 : decode cX6_speedLeft 15 = .ok (.invokestatic 109, 3) := by decide +kernel
theorem dX6_speedLeft_18 : decode cX6_speedLeft 18 = .ok (.ifCond .ne 6, 3) := by decide +kernel
theorem dX6_speedLeft_21 : decode cX6_speedLeft 21 = .ok (.ldc 200, 2) := by decide +kernel
theorem dX6_speedLeft_23 : decode cX6_speedLeft 23 = .ok (.freturn, 1) := by decide +kernel
theorem dX6_speedLeft_24 : decode cX6_speedLeft 24 = .ok (.aload_n 0, 1) := by decide +kernel
theorem dX6_speedLeft_25 : decode cX6_speedLeft 25 = .ok (.iload_n 1, 1) := by decide +kernel
theorem dX6_speedLeft_26 : decode cX6_speedLeft 26 = .ok (.iload_n 2, 1) := by decide +kernel
theorem dX6_speedLeft_27 : decode cX6_speedLeft 27 = .ok (.iload_n 3, 1) := by decide +kernel
theorem dX6_speedLeft_28 : decode cX6_speedLeft 28 = .ok (.iload 4, 2) := by decide +kernel
theorem dX6_speedLeft_30 : decode cX6_speedLeft 30 = .ok (.invokevirtual 184, 3) := by decide +kernel
theorem dX6_speedLeft_33 : decode cX6_speedLeft 33 = .ok (.aload_n 0, 1) := by decide +kernel
theorem dX6_speedLeft_34 : decode cX6_speedLeft 34 = .ok (.getfield 39, 3) := by decide +kernel
theorem dX6_speedLeft_37 : decode cX6_speedLeft 37 = .ok (.getfield 201, 3) := by decide +kernel
theorem dX6_speedLeft_40 : decode cX6_speedLeft 40 = .ok (.freturn, 1) := by decide +kernel
set_option maxHeartbeats 4000000 in
set_option maxRecDepth 100000 in
theorem kX6_speedLeft (l : Launch) (E : Ev) (h : Nat) (p1 : Nat) (p3 : Nat) (p4 : Nat) (k : Nat) (hs : Int32) (sa : Nat → Nat) (σ : N2) (ra : Nat → Nat) (σr : N2) (j : Nat) (z : N1) (sp : UInt32) (d : N1) (bl : Int32) (di : Int32) (sg : Int32) (sn : Int32) (gs : gset σ) : KQ l yX6_speedLeft cX6_speedLeft 5 (some .float) 6 143 E [.ref h, .int bl, .int di, .int sg, .int sn] (wHb h (sa 0) p1 (ra 0) p3 p4 k hs ++ (wSt E sa σ ++ (wSt E ra σr ++ (wSh k j z sp ++ wWk j d)))) (QF E (wHb h (sa 0) p1 (ra 0) p3 p4 k hs ++ (wSt E sa σ ++ (wSt E ra σr ++ (wSh k j z sp ++ wWk j d)))) (fX6_speedLeft hs σ σr z sp d bl di sg sn).1 (wHb h (sa 0) p1 (ra 0) p3 p4 k hs ++ (wSt E sa σ ++ (wSt E ra ((fX6_speedLeft hs σ σr z sp d bl di sg sn).2.1) ++ (wSh k j ((fX6_speedLeft hs σ σr z sp d bl di sg sn).2.2.1) ((fX6_speedLeft hs σ σr z sp d bl di sg sn).2.2.2.1) ++ wWk j ((fX6_speedLeft hs σ σr z sp d bl di sg sn).2.2.2.2)))))) := by
  refine KQ.mk RX6 rfl (by decide +kernel) (Nat.le_of_ble_eq_true rfl) ?_
  intro p e s m below meth c ls X hr w hl
  have hx := X.1
  have hb := X.2.1
  have hl : lv_has ls 5 [(0, .ref h), (1, .int bl), (2, .int di), (3, .int sg), (4, .int sn)] := hl
  refine lv_aload_n hx hb dX6_speedLeft_0 rfl (lv_at hl 0 rfl) ?_
  refine r_get X w CL6 0 (by decide) wf_X6_10 0 rfl rfl dX6_speedLeft_1 ?_
  refine lv_iload_n hx hb dX6_speedLeft_4 rfl (lv_at hl 1 rfl) ?_
  refine r_ci w (r_runV (As := [.int bl]) (rest := []) X w (kX4_hasBall l E sa σ bl ) ck_X6_78 ⟨Nat.le_of_ble_eq_true rfl, Nat.le_of_ble_eq_true rfl⟩ [1, 2, 3, 4, 5, 6, 7, 8, 9] (hc_60 (E := E)) (by decide +kernel) (k0 := 0) CL4 rfl hl.1 (Nat.le_of_ble_eq_true rfl) rfl dX6_speedLeft_5 ⟨Nat.le_of_ble_eq_true rfl, Nat.le_of_ble_eq_true rfl⟩) (wHb h (sa 0) p1 (ra 0) p3 p4 k hs ++ (wSt E sa σ ++ (wSt E ra σr ++ (wSh k j z sp ++ wWk j d)))) [1, 2, 3, 4, 5, 6, 7, 8, 9] (hc_60 (E := E)) (by decide +kernel) (ha_60 (E := E)) (hw_60 (E := E)) (fun H locs w => ?_)
  refine lv_if_eq (tgt := 21) hx hb dX6_speedLeft_8 (by decide) (fun c8_1 => ?_) (fun c8_1 => ?_)
  · refine r_ldcf X wk_X6_200 dX6_speedLeft_21 ?_
    have hq : fX6_speedLeft hs σ σr z sp d bl di sg sn = (3212836864, σr, z, sp, d) := by simp only [fX6_speedLeft, if_pos c8_1]
    obtain ⟨h0_, h1_, h2_, h3_, h4_⟩ := tup5 hq
    rw [h0_, h1_, h2_, h3_, h4_]
    exact r_fret X w hr rfl dX6_speedLeft_23
  · refine lv_iload_n hx hb dX6_speedLeft_11 rfl (lv_at hl 2 rfl) ?_
    refine lv_iload_n hx hb dX6_speedLeft_12 rfl (lv_at hl 3 rfl) ?_
    refine lv_iload hx hb dX6_speedLeft_13 (lv_at hl 4 rfl) ?_
    refine r_ci w (r_runS (As := [.int di, .int sg, .int sn]) (rest := []) X w (kX6_isShot l E di sg sn ) ck_X6_109 ⟨Nat.le_of_ble_eq_true rfl, Nat.le_of_ble_eq_true rfl⟩ [] rfl (by decide +kernel) hl.1 (Nat.le_of_ble_eq_true rfl) rfl dX6_speedLeft_15 ⟨Nat.le_of_ble_eq_true rfl, Nat.le_of_ble_eq_true rfl⟩) (wHb h (sa 0) p1 (ra 0) p3 p4 k hs ++ (wSt E sa σ ++ (wSt E ra σr ++ (wSh k j z sp ++ wWk j d)))) [] rfl (by decide +kernel) rfl rfl (fun H locs w => ?_)
    refine lv_if_ne (tgt := 24) hx hb dX6_speedLeft_18 (by decide) (fun c18_2 => ?_) (fun c18_2 => ?_)
    · refine lv_aload_n hx hb dX6_speedLeft_24 rfl (lv_at hl 0 rfl) ?_
      refine lv_iload_n hx hb dX6_speedLeft_25 rfl (lv_at hl 1 rfl) ?_
      refine lv_iload_n hx hb dX6_speedLeft_26 rfl (lv_at hl 2 rfl) ?_
      refine lv_iload_n hx hb dX6_speedLeft_27 rfl (lv_at hl 3 rfl) ?_
      refine lv_iload hx hb dX6_speedLeft_28 (lv_at hl 4 rfl) ?_
      refine r_cv w (r_runV (As := [.int bl, .int di, .int sg, .int sn]) (rest := []) X w (kX6_tryShot l E h p1 p3 p4 k hs sa σ ra σr j z sp d bl di sg sn gs (sh_ok c18_2)) ck_X6_184 ⟨Nat.le_of_ble_eq_true rfl, Nat.le_of_ble_eq_true rfl⟩ [0, 1, 2, 3, 4, 5, 6, 7, 8, 9, 10, 11, 12, 13, 14, 15, 16, 17, 18, 19, 20] (hc_61 (E := E)) (by decide +kernel) (k0 := 0) CL6 rfl hl.1 (Nat.le_of_ble_eq_true rfl) rfl dX6_speedLeft_30 ⟨Nat.le_of_ble_eq_true rfl, Nat.le_of_ble_eq_true rfl⟩) (wHb h (sa 0) p1 (ra 0) p3 p4 k hs ++ (wSt E sa σ ++ (wSt E ra ((fX6_tryShot hs σ σr z sp d bl di sg sn).1) ++ (wSh k j ((fX6_tryShot hs σ σr z sp d bl di sg sn).2.1) ((fX6_tryShot hs σ σr z sp d bl di sg sn).2.2.1) ++ wWk j ((fX6_tryShot hs σ σr z sp d bl di sg sn).2.2.2))))) [0, 1, 2, 3, 4, 5, 6, 7, 8, 9, 10, 11, 12, 13, 14, 15, 16, 17, 18, 19, 20] (hc_61 (E := E)) (by decide +kernel) (ha_61 (E := E)) (hw_61 (E := E)) (fun H locs w => ?_)
      refine lv_aload_n hx hb dX6_speedLeft_33 rfl (lv_at hl 0 rfl) ?_
      refine r_get X w CL6 5 (by decide) wf_X6_39 0 rfl rfl dX6_speedLeft_34 ?_
      refine r_getN X w CL3 2 (by decide) nl_14 19 rfl rfl dX6_speedLeft_37 ?_
      have hq : fX6_speedLeft hs σ σr z sp d bl di sg sn = ((fX6_tryShot hs σ σr z sp d bl di sg sn).2.2.1, (fX6_tryShot hs σ σr z sp d bl di sg sn).1, (fX6_tryShot hs σ σr z sp d bl di sg sn).2.1, (fX6_tryShot hs σ σr z sp d bl di sg sn).2.2.1, (fX6_tryShot hs σ σr z sp d bl di sg sn).2.2.2) := by simp only [fX6_speedLeft, if_neg c8_1, if_neg c18_2]
      obtain ⟨h0_, h1_, h2_, h3_, h4_⟩ := tup5 hq
      rw [h0_, h1_, h2_, h3_, h4_]
      exact r_fret X w hr rfl dX6_speedLeft_40
    · refine r_ldcf X wk_X6_200 dX6_speedLeft_21 ?_
      have hq : fX6_speedLeft hs σ σr z sp d bl di sg sn = (3212836864, σr, z, sp, d) := by simp only [fX6_speedLeft, if_neg c8_1, if_pos c18_2]
      obtain ⟨h0_, h1_, h2_, h3_, h4_⟩ := tup5 hq
      rw [h0_, h1_, h2_, h3_, h4_]
      exact r_fret X w hr rfl dX6_speedLeft_23
def fX6_along (hs : Int32) (z : N1) (sp : UInt32) (d : N1) (ce : Int32) (di : Int32) (se : Int32) (bk : Int32) : Int32 × N1 := if (fX1_isCell ce) = 0 then (((-1), d)) else (if (fX1_isDirection di) = 0 then (((-2), d)) else (if se < 0 then (((-2), d)) else (if se ≤ 99 then (if bk = 0 then (((fX1_cellAt ((wkN (fX5_startAt d ce di) se.toNatClampNeg) 0) ((wkN (fX5_startAt d ce di) se.toNatClampNeg) 1)), wkN (fX5_startAt d ce di) se.toNatClampNeg)) else (((fX1_cellAt ((wkN (upd (wkN (fX5_startAt d ce di) se.toNatClampNeg) 2 (fX1_turned ((wkN (fX5_startAt d ce di) se.toNatClampNeg) 2) 3)) se.toNatClampNeg) 0) ((wkN (upd (wkN (fX5_startAt d ce di) se.toNatClampNeg) 2 (fX1_turned ((wkN (fX5_startAt d ce di) se.toNatClampNeg) 2) 3)) se.toNatClampNeg) 1)), wkN (upd (wkN (fX5_startAt d ce di) se.toNatClampNeg) 2 (fX1_turned ((wkN (fX5_startAt d ce di) se.toNatClampNeg) 2) 3)) se.toNatClampNeg))) else (((-2), d)))))
theorem dX6_along_0 : decode cX6_along 0 = .ok (.iload_n 1, 1) := by decide +kernel
theorem dX6_along_1 : decode cX6_along 1 = .ok (.invokestatic 43, 3) := by decide +kernel
theorem dX6_along_4 : decode cX6_along 4 = .ok (.ifCond .ne 5, 3) := by decide +kernel
theorem dX6_along_7 : decode cX6_along 7 = .ok (.iconst (-1), 1) := by decide +kernel
theorem dX6_along_8 : decode cX6_along 8 = .ok (.ireturn, 1) := by decide +kernel
theorem dX6_along_9 : decode cX6_along 9 = .ok (.iload_n 2, 1) := by decide +kernel
theorem dX6_along_10 : decode cX6_along 10 = .ok (.invokestatic 205, 3) := by decide +kernel
theorem dX6_along_13 : decode cX6_along 13 = .ok (.ifCond .eq 13, 3) := by decide +kernel
theorem dX6_along_16 : decode cX6_along 16 = .ok (.iload_n 3, 1) := by decide +kernel
theorem dX6_along_17 : decode cX6_along 17 = .ok (.ifCond .lt 9, 3) := by decide +kernel
theorem dX6_along_20 : decode cX6_along 20 = .ok (.iload_n 3, 1) := by decide +kernel
theorem dX6_along_21 : decode cX6_along 21 = .ok (.bipush 99, 2) := by decide +kernel
theorem dX6_along_23 : decode cX6_along 23 = .ok (.if_icmp .le 6, 3) := by decide +kernel
theorem dX6_along_26 : decode cX6_along 26 = .ok (.bipush (-2), 2) := by decide +kernel
theorem dX6_along_28 : decode cX6_along 28 = .ok (.ireturn, 1) := by decide +kernel
theorem dX6_along_29 : decode cX6_along 29 = .ok (.aload_n 0, 1) := by decide +kernel
theorem dX6_along_30 : decode cX6_along 30 = .ok (.getfield 39, 3) := by decide +kernel
theorem dX6_along_33 : decode cX6_along 33 = .ok (.getfield 208, 3) := by decide +kernel
theorem dX6_along_36 : decode cX6_along 36 = .ok (.astore 5, 2) := by decide +kernel
theorem dX6_along_38 : decode cX6_along 38 = .ok (.aload 5, 2) := by decide +kernel
theorem dX6_along_40 : decode cX6_along 40 = .ok (.iload_n 1, 1) := by decide +kernel
theorem dX6_along_41 : decode cX6_along 41 = .ok (.iload_n 2, 1) := by decide +kernel
theorem dX6_along_42 : decode cX6_along 42 = .ok (.invokevirtual 212, 3) := by decide +kernel
theorem dX6_along_45 : decode cX6_along 45 = .ok (.aload 5, 2) := by decide +kernel
theorem dX6_along_47 : decode cX6_along 47 = .ok (.iload_n 3, 1) := by decide +kernel
theorem dX6_along_48 : decode cX6_along 48 = .ok (.invokevirtual 217, 3) := by decide +kernel
theorem dX6_along_51 : decode cX6_along 51 = .ok (.iload 4, 2) := by decide +kernel
theorem dX6_along_53 : decode cX6_along 53 = .ok (.ifCond .eq 23, 3) := by decide +kernel
theorem dX6_along_56 : decode cX6_along 56 = .ok (.aload 5, 2) := by decide +kernel
theorem dX6_along_58 : decode cX6_along 58 = .ok (.aload 5, 2) := by decide +kernel
theorem dX6_along_60 : decode cX6_along 60 = .ok (.getfield 220, 3) := by decide +kernel
theorem dX6_along_63 : decode cX6_along 63 = .ok (.iconst 3, 1) := by decide +kernel
theorem dX6_along_64 : decode cX6_along 64 = .ok (.invokestatic 223, 3) := by decide +kernel
theorem dX6_along_67 : decode cX6_along 67 = .ok (.putfield 220, 3) := by decide +kernel
theorem dX6_along_70 : decode cX6_along 70 = .ok (.aload 5, 2) := by decide +kernel
theorem dX6_along_72 : decode cX6_along 72 = .ok (.iload_n 3, 1) := by decide +kernel
theorem dX6_along_73 : decode cX6_along 73 = .ok (.invokevirtual 217, 3) := by decide +kernel
theorem dX6_along_76 : decode cX6_along 76 = .ok (.aload 5, 2) := by decide +kernel
theorem dX6_along_78 : decode cX6_along 78 = .ok (.getfield 226, 3) := by decide +kernel
theorem dX6_along_81 : decode cX6_along 81 = .ok (.aload 5, 2) := by decide +kernel
theorem dX6_along_83 : decode cX6_along 83 = .ok (.getfield 229, 3) := by decide +kernel
theorem dX6_along_86 : decode cX6_along 86 = .ok (.invokestatic 154, 3) := by decide +kernel
theorem dX6_along_89 : decode cX6_along 89 = .ok (.ireturn, 1) := by decide +kernel
theorem ck_X6_212 : CkV RX6 212 RX5 yX5_startAt cX5_startAt 3 none 2 := ⟨wm_X6_212, wim_yX5_startAt, wse_yX5_startAt, wi_X5, wc_yX5_startAt, by decide +kernel⟩
theorem ck_X6_217 : CkV RX6 217 RX5 yX5_walk cX5_walk 3 none 1 := ⟨wm_X6_217, wim_yX5_walk, wse_yX5_walk, wi_X5, wc_yX5_walk, by decide +kernel⟩
theorem ck_X6_223 : CkS RX6 223 yX1_turned cX1_turned 2 (some .int) 2 := ⟨wm_X6_223, wst_yX1_turned, wi_X1, wc_yX1_turned, by decide +kernel⟩
theorem hc_63 {E : Ev} {a0 p0_0 p0_1 p0_2 p0_3 p0_4 p0_5 : Nat} {n0 : Int32} {a1 j1 : Nat} {σ1 : N1} {v1 : UInt32} {a2 : Nat} {σ2 : N1} : ([2] : List Nat).map (fun i => (wHb a0 p0_0 p0_1 p0_2 p0_3 p0_4 p0_5 n0 ++ (wSh a1 j1 σ1 v1 ++ wWk a2 σ2))[i]?) = (wWk a2 σ2).map some := rfl
theorem ha_63 {E : Ev} {a2 : Nat} {σ2 : N1} {τ0_0 : N1} : (wWk a2 τ0_0).map Prod.fst = (wWk a2 σ2).map Prod.fst := rfl
theorem hw_63 {E : Ev} {a0 p0_0 p0_1 p0_2 p0_3 p0_4 p0_5 : Nat} {n0 : Int32} {a1 j1 : Nat} {σ1 : N1} {v1 : UInt32} {a2 : Nat} {σ2 : N1} {τ0_0 : N1} : wput (wHb a0 p0_0 p0_1 p0_2 p0_3 p0_4 p0_5 n0 ++ (wSh a1 j1 σ1 v1 ++ wWk a2 σ2)) [2] (wWk a2 τ0_0) = wHb a0 p0_0 p0_1 p0_2 p0_3 p0_4 p0_5 n0 ++ (wSh a1 j1 σ1 v1 ++ wWk a2 τ0_0) := rfl
theorem ax_64 {E : Ev} {a0 p0_0 p0_1 p0_2 p0_3 p0_4 p0_5 : Nat} {n0 : Int32} {a1 j1 : Nat} {σ1 : N1} {v1 : UInt32} {a2 : Nat} {σ2 : N1} {x : Int32} : (wHb a0 p0_0 p0_1 p0_2 p0_3 p0_4 p0_5 n0 ++ (wSh a1 j1 σ1 v1 ++ wWk a2 σ2)).set 2 (a2, .inr (4, ([.int (σ2 0), .int (σ2 1), .int (σ2 2)] : List Value).set 2 (.int x))) = wHb a0 p0_0 p0_1 p0_2 p0_3 p0_4 p0_5 n0 ++ (wSh a1 j1 σ1 v1 ++ wWk a2 (upd σ2 2 x)) := rfl
set_option maxHeartbeats 4000000 in
set_option maxRecDepth 100000 in
theorem kX6_along (l : Launch) (E : Ev) (h : Nat) (p0 : Nat) (p1 : Nat) (p2 : Nat) (p3 : Nat) (p4 : Nat) (k : Nat) (hs : Int32) (j : Nat) (z : N1) (sp : UInt32) (d : N1) (ce : Int32) (di : Int32) (se : Int32) (bk : Int32) : KQ l yX6_along cX6_along 6 (some .int) 4 92 E [.ref h, .int ce, .int di, .int se, .int bk] (wHb h p0 p1 p2 p3 p4 k hs ++ (wSh k j z sp ++ wWk j d)) (QI E (wHb h p0 p1 p2 p3 p4 k hs ++ (wSh k j z sp ++ wWk j d)) (fX6_along hs z sp d ce di se bk).1 (wHb h p0 p1 p2 p3 p4 k hs ++ (wSh k j z sp ++ wWk j ((fX6_along hs z sp d ce di se bk).2)))) := by
  refine KQ.mk RX6 rfl (by decide +kernel) (Nat.le_of_ble_eq_true rfl) ?_
  intro p e s m below meth c ls X hr w hl
  have hx := X.1
  have hb := X.2.1
  have hl : lv_has ls 6 [(0, .ref h), (1, .int ce), (2, .int di), (3, .int se), (4, .int bk)] := hl
  refine lv_iload_n hx hb dX6_along_0 rfl (lv_at hl 1 rfl) ?_
  refine r_ci w (r_runS (As := [.int ce]) (rest := []) X w (kX1_isCell l E ce ) ck_X6_43 ⟨Nat.le_of_ble_eq_true rfl, Nat.le_of_ble_eq_true rfl⟩ [] rfl (by decide +kernel) hl.1 (Nat.le_of_ble_eq_true rfl) rfl dX6_along_1 ⟨Nat.le_of_ble_eq_true rfl, Nat.le_of_ble_eq_true rfl⟩) (wHb h p0 p1 p2 p3 p4 k hs ++ (wSh k j z sp ++ wWk j d)) [] rfl (by decide +kernel) rfl rfl (fun H locs w => ?_)
  refine lv_if_ne (tgt := 9) hx hb dX6_along_4 (by decide) (fun c4_1 => ?_) (fun c4_1 => ?_)
  · refine lv_iload_n hx hb dX6_along_9 rfl (lv_at hl 2 rfl) ?_
    refine r_ci w (r_runS (As := [.int di]) (rest := []) X w (kX1_isDirection l E di ) ck_X6_205 ⟨Nat.le_of_ble_eq_true rfl, Nat.le_of_ble_eq_true rfl⟩ [] rfl (by decide +kernel) hl.1 (Nat.le_of_ble_eq_true rfl) rfl dX6_along_10 ⟨Nat.le_of_ble_eq_true rfl, Nat.le_of_ble_eq_true rfl⟩) (wHb h p0 p1 p2 p3 p4 k hs ++ (wSh k j z sp ++ wWk j d)) [] rfl (by decide +kernel) rfl rfl (fun H locs w => ?_)
    refine lv_if_eq (tgt := 26) hx hb dX6_along_13 (by decide) (fun c13_2 => ?_) (fun c13_2 => ?_)
    · refine lv_bipush (v := (-2)) hx hb dX6_along_26 (by decide) ?_
      have hq : fX6_along hs z sp d ce di se bk = ((-2), d) := by simp only [fX6_along, if_neg c4_1, if_pos c13_2]
      obtain ⟨h0_, h1_⟩ := tup2 hq
      rw [h0_, h1_]
      exact r_iret X w hr rfl dX6_along_28
    · refine lv_iload_n hx hb dX6_along_16 rfl (lv_at hl 3 rfl) ?_
      refine lv_if_lt (tgt := 26) hx hb dX6_along_17 (by decide) (fun c17_3 => ?_) (fun c17_3 => ?_)
      · refine lv_bipush (v := (-2)) hx hb dX6_along_26 (by decide) ?_
        have hq : fX6_along hs z sp d ce di se bk = ((-2), d) := by simp only [fX6_along, if_neg c4_1, if_neg c13_2, if_pos c17_3]
        obtain ⟨h0_, h1_⟩ := tup2 hq
        rw [h0_, h1_]
        exact r_iret X w hr rfl dX6_along_28
      · refine lv_iload_n hx hb dX6_along_20 rfl (lv_at hl 3 rfl) ?_
        refine lv_bipush (v := 99) hx hb dX6_along_21 (by decide) ?_
        refine lv_icmp_le (tgt := 29) hx hb dX6_along_23 (by decide) (fun c23_4 => ?_) (fun c23_4 => ?_)
        · refine lv_aload_n hx hb dX6_along_29 rfl (lv_at hl 0 rfl) ?_
          refine r_get X w CL6 5 (by decide) wf_X6_39 0 rfl rfl dX6_along_30 ?_
          refine r_getN X w CL3 0 (by decide) nl_15 1 rfl rfl dX6_along_33 ?_
          refine lv_astore (lv' := [(5, .ref j), (0, .ref h), (1, .int ce), (2, .int di), (3, .int se), (4, .int bk)]) hx hb dX6_along_36 hl (by decide) rfl (fun ls hl => ?_)
          refine lv_aload hx hb dX6_along_38 (lv_at hl 0 rfl) ?_
          refine lv_iload_n hx hb dX6_along_40 rfl (lv_at hl 2 rfl) ?_
          refine lv_iload_n hx hb dX6_along_41 rfl (lv_at hl 3 rfl) ?_
          refine r_cv w (r_runV (As := [.int ce, .int di]) (rest := []) X w (kX5_startAt l E j d ce di ) ck_X6_212 ⟨Nat.le_of_ble_eq_true rfl, Nat.le_of_ble_eq_true rfl⟩ [2] (hc_63 (E := E)) (by decide +kernel) (k0 := 0) CL5 rfl hl.1 (Nat.le_of_ble_eq_true rfl) rfl dX6_along_42 ⟨Nat.le_of_ble_eq_true rfl, Nat.le_of_ble_eq_true rfl⟩) (wHb h p0 p1 p2 p3 p4 k hs ++ (wSh k j z sp ++ wWk j (fX5_startAt d ce di))) [2] (hc_63 (E := E)) (by decide +kernel) (ha_63 (E := E)) (hw_63 (E := E)) (fun H locs w => ?_)
          refine lv_aload hx hb dX6_along_45 (lv_at hl 0 rfl) ?_
          refine lv_iload_n hx hb dX6_along_47 rfl (lv_at hl 4 rfl) ?_
          refine r_cv w (r_runV (As := [.int se]) (rest := []) X w (kX5_walkI l E j (fX5_startAt d ce di) se c17_3) ck_X6_217 ⟨Nat.le_of_ble_eq_true rfl, Nat.le_of_ble_eq_true rfl⟩ [2] (hc_63 (E := E)) (by decide +kernel) (k0 := 0) CL5 rfl hl.1 (Nat.le_of_ble_eq_true rfl) rfl dX6_along_48 ⟨Nat.le_of_ble_eq_true rfl, Nat.le_of_ble_eq_true rfl⟩) (wHb h p0 p1 p2 p3 p4 k hs ++ (wSh k j z sp ++ wWk j (wkN (fX5_startAt d ce di) se.toNatClampNeg))) [2] (hc_63 (E := E)) (by decide +kernel) (ha_63 (E := E)) (hw_63 (E := E)) (fun H locs w => ?_)
          refine lv_iload hx hb dX6_along_51 (lv_at hl 5 rfl) ?_
          refine lv_if_eq (tgt := 76) hx hb dX6_along_53 (by decide) (fun c53_5 => ?_) (fun c53_5 => ?_)
          · refine lv_aload hx hb dX6_along_76 (lv_at hl 0 rfl) ?_
            refine r_getN X w CL5 0 (by decide) nl_17 2 rfl rfl dX6_along_78 ?_
            refine lv_aload hx hb dX6_along_81 (lv_at hl 0 rfl) ?_
            refine r_getN X w CL5 1 (by decide) nl_18 2 rfl rfl dX6_along_83 ?_
            refine r_ci w (r_runS (As := [.int ((wkN (fX5_startAt d ce di) se.toNatClampNeg) 0), .int ((wkN (fX5_startAt d ce di) se.toNatClampNeg) 1)]) (rest := []) X w (kX1_cellAt l E ((wkN (fX5_startAt d ce di) se.toNatClampNeg) 0) ((wkN (fX5_startAt d ce di) se.toNatClampNeg) 1) ) ck_X6_154 ⟨Nat.le_of_ble_eq_true rfl, Nat.le_of_ble_eq_true rfl⟩ [] rfl (by decide +kernel) hl.1 (Nat.le_of_ble_eq_true rfl) rfl dX6_along_86 ⟨Nat.le_of_ble_eq_true rfl, Nat.le_of_ble_eq_true rfl⟩) (wHb h p0 p1 p2 p3 p4 k hs ++ (wSh k j z sp ++ wWk j (wkN (fX5_startAt d ce di) se.toNatClampNeg))) [] rfl (by decide +kernel) rfl rfl (fun H locs w => ?_)
            have hq : fX6_along hs z sp d ce di se bk = ((fX1_cellAt ((wkN (fX5_startAt d ce di) se.toNatClampNeg) 0) ((wkN (fX5_startAt d ce di) se.toNatClampNeg) 1)), wkN (fX5_startAt d ce di) se.toNatClampNeg) := by simp only [fX6_along, if_neg c4_1, if_neg c13_2, if_neg c17_3, if_pos c23_4, if_pos c53_5]
            obtain ⟨h0_, h1_⟩ := tup2 hq
            rw [h0_, h1_]
            exact r_iret X w hr rfl dX6_along_89
          · refine lv_aload hx hb dX6_along_56 (lv_at hl 0 rfl) ?_
            refine lv_aload hx hb dX6_along_58 (lv_at hl 0 rfl) ?_
            refine r_getN X w CL5 2 (by decide) nl_16 2 rfl rfl dX6_along_60 ?_
            refine lv_iconst (v := 3) hx hb dX6_along_63 (by decide) ?_
            refine r_ci w (r_runS (As := [.int ((wkN (fX5_startAt d ce di) se.toNatClampNeg) 2), .int 3]) (rest := [.ref j]) X w (kX1_turned l E ((wkN (fX5_startAt d ce di) se.toNatClampNeg) 2) 3 ) ck_X6_223 ⟨Nat.le_of_ble_eq_true rfl, Nat.le_of_ble_eq_true rfl⟩ [] rfl (by decide +kernel) hl.1 (Nat.le_of_ble_eq_true rfl) rfl dX6_along_64 ⟨Nat.le_of_ble_eq_true rfl, Nat.le_of_ble_eq_true rfl⟩) (wHb h p0 p1 p2 p3 p4 k hs ++ (wSh k j z sp ++ wWk j (wkN (fX5_startAt d ce di) se.toNatClampNeg))) [] rfl (by decide +kernel) rfl rfl (fun H locs w => ?_)
            refine r_putN X w (wHb h p0 p1 p2 p3 p4 k hs ++ (wSh k j z sp ++ wWk j (upd (wkN (fX5_startAt d ce di) se.toNatClampNeg) 2 (fX1_turned ((wkN (fX5_startAt d ce di) se.toNatClampNeg) 2) 3)))) CL5 2 (by decide) nl_16 2 rfl rfl rfl rfl (Nat.le_of_ble_eq_true rfl) (ax_64 (E := E)) dX6_along_67 (fun H locs w => ?_)
            refine lv_aload hx hb dX6_along_70 (lv_at hl 0 rfl) ?_
            refine lv_iload_n hx hb dX6_along_72 rfl (lv_at hl 4 rfl) ?_
            refine r_cv w (r_runV (As := [.int se]) (rest := []) X w (kX5_walkI l E j (upd (wkN (fX5_startAt d ce di) se.toNatClampNeg) 2 (fX1_turned ((wkN (fX5_startAt d ce di) se.toNatClampNeg) 2) 3)) se c17_3) ck_X6_217 ⟨Nat.le_of_ble_eq_true rfl, Nat.le_of_ble_eq_true rfl⟩ [2] (hc_63 (E := E)) (by decide +kernel) (k0 := 0) CL5 rfl hl.1 (Nat.le_of_ble_eq_true rfl) rfl dX6_along_73 ⟨Nat.le_of_ble_eq_true rfl, Nat.le_of_ble_eq_true rfl⟩) (wHb h p0 p1 p2 p3 p4 k hs ++ (wSh k j z sp ++ wWk j (wkN (upd (wkN (fX5_startAt d ce di) se.toNatClampNeg) 2 (fX1_turned ((wkN (fX5_startAt d ce di) se.toNatClampNeg) 2) 3)) se.toNatClampNeg))) [2] (hc_63 (E := E)) (by decide +kernel) (ha_63 (E := E)) (hw_63 (E := E)) (fun H locs w => ?_)
            refine lv_aload hx hb dX6_along_76 (lv_at hl 0 rfl) ?_
            refine r_getN X w CL5 0 (by decide) nl_17 2 rfl rfl dX6_along_78 ?_
            refine lv_aload hx hb dX6_along_81 (lv_at hl 0 rfl) ?_
            refine r_getN X w CL5 1 (by decide) nl_18 2 rfl rfl dX6_along_83 ?_
            refine r_ci w (r_runS (As := [.int ((wkN (upd (wkN (fX5_startAt d ce di) se.toNatClampNeg) 2 (fX1_turned ((wkN (fX5_startAt d ce di) se.toNatClampNeg) 2) 3)) se.toNatClampNeg) 0), .int ((wkN (upd (wkN (fX5_startAt d ce di) se.toNatClampNeg) 2 (fX1_turned ((wkN (fX5_startAt d ce di) se.toNatClampNeg) 2) 3)) se.toNatClampNeg) 1)]) (rest := []) X w (kX1_cellAt l E ((wkN (upd (wkN (fX5_startAt d ce di) se.toNatClampNeg) 2 (fX1_turned ((wkN (fX5_startAt d ce di) se.toNatClampNeg) 2) 3)) se.toNatClampNeg) 0) ((wkN (upd (wkN (fX5_startAt d ce di) se.toNatClampNeg) 2 (fX1_turned ((wkN (fX5_startAt d ce di) se.toNatClampNeg) 2) 3)) se.toNatClampNeg) 1) ) ck_X6_154 ⟨Nat.le_of_ble_eq_true rfl, Nat.le_of_ble_eq_true rfl⟩ [] rfl (by decide +kernel) hl.1 (Nat.le_of_ble_eq_true rfl) rfl dX6_along_86 ⟨Nat.le_of_ble_eq_true rfl, Nat.le_of_ble_eq_true rfl⟩) (wHb h p0 p1 p2 p3 p4 k hs ++ (wSh k j z sp ++ wWk j (wkN (upd (wkN (fX5_startAt d ce di) se.toNatClampNeg) 2 (fX1_turned ((wkN (fX5_startAt d ce di) se.toNatClampNeg) 2) 3)) se.toNatClampNeg))) [] rfl (by decide +kernel) rfl rfl (fun H locs w => ?_)
            have hq : fX6_along hs z sp d ce di se bk = ((fX1_cellAt ((wkN (upd (wkN (fX5_startAt d ce di) se.toNatClampNeg) 2 (fX1_turned ((wkN (fX5_startAt d ce di) se.toNatClampNeg) 2) 3)) se.toNatClampNeg) 0) ((wkN (upd (wkN (fX5_startAt d ce di) se.toNatClampNeg) 2 (fX1_turned ((wkN (fX5_startAt d ce di) se.toNatClampNeg) 2) 3)) se.toNatClampNeg) 1)), wkN (upd (wkN (fX5_startAt d ce di) se.toNatClampNeg) 2 (fX1_turned ((wkN (fX5_startAt d ce di) se.toNatClampNeg) 2) 3)) se.toNatClampNeg) := by simp only [fX6_along, if_neg c4_1, if_neg c13_2, if_neg c17_3, if_pos c23_4, if_neg c53_5]
            obtain ⟨h0_, h1_⟩ := tup2 hq
            rw [h0_, h1_]
            exact r_iret X w hr rfl dX6_along_89
        · refine lv_bipush (v := (-2)) hx hb dX6_along_26 (by decide) ?_
          have hq : fX6_along hs z sp d ce di se bk = ((-2), d) := by simp only [fX6_along, if_neg c4_1, if_neg c13_2, if_neg c17_3, if_neg c23_4]
          obtain ⟨h0_, h1_⟩ := tup2 hq
          rw [h0_, h1_]
          exact r_iret X w hr rfl dX6_along_28
  · refine lv_iconst (v := (-1)) hx hb dX6_along_7 (by decide) ?_
    have hq : fX6_along hs z sp d ce di se bk = ((-1), d) := by simp only [fX6_along, if_pos c4_1]
    obtain ⟨h0_, h1_⟩ := tup2 hq
    rw [h0_, h1_]
    exact r_iret X w hr rfl dX6_along_8
def fX6_count (hs : Int32) (σ : N2) (n : Int32) (o : Nat) (η : Nat → N2) (t : N2) (wt : Int32) : Int32 := if wt = 0 then (((fX4_ballsOnFelt σ))) else (if wt = 1 then ((σ 8 0)) else (if wt = 2 then ((σ 8 2)) else (if wt = 3 then ((σ 7 0)) else (if wt = 4 then ((σ 7 1)) else (if wt = 5 then ((σ 8 3)) else (if wt = 6 then ((σ 8 4)) else (if wt = 7 then ((σ 8 5)) else (if wt = 8 then (((fX4_total (σ 3)))) else (if wt = 9 then (((fX4_total (σ 4)))) else (if wt = 10 then ((σ 8 1)) else (if wt = 11 then ((σ 6 0)) else (if wt = 12 then ((σ 6 1)) else (if wt = 13 then ((σ 6 2)) else (if wt = 14 then ((n)) else (if wt = 15 then ((t 3 0)) else (((-2))))))))))))))))))
theorem dX6_count_0 : decode cX6_count 0 = .ok (.iload_n 1, 1) := by decide +kernel
theorem dX6_count_1 : decode cX6_count 1 = .ok (.tableswitch 223 0 15 #[79, 87, 95, 103, 113, 123, 131, 139, 147, 158, 169, 177, 187, 197, 207, 215], 79) := by decide +kernel
theorem dX6_count_80 : decode cX6_count 80 = .ok (.aload_n 0, 1) := by decide +kernel
theorem dX6_count_81 : decode cX6_count 81 = .ok (.getfield 10, 3) := by decide +kernel
theorem dX6_count_84 : decode cX6_count 84 = .ok (.invokevirtual 151, 3) := by decide +kernel
theorem dX6_count_87 : decode cX6_count 87 = .ok (.ireturn, 1) := by decide +kernel
theorem dX6_count_88 : decode cX6_count 88 = .ok (.aload_n 0, 1) := by decide +kernel
theorem dX6_count_89 : decode cX6_count 89 = .ok (.getfield 10, 3) := by decide +kernel
theorem dX6_count_92 : decode cX6_count 92 = .ok (.getfield 236, 3) := by decide +kernel
theorem dX6_count_95 : decode cX6_count 95 = .ok (.ireturn, 1) := by decide +kernel
theorem dX6_count_96 : decode cX6_count 96 = .ok (.aload_n 0, 1) := by decide +kernel
theorem dX6_count_97 : decode cX6_count 97 = .ok (.getfield 10, 3) := by decide +kernel
theorem dX6_count_100 : decode cX6_count 100 = .ok (.getfield 113, 3) := by decide +kernel
theorem dX6_count_103 : decode cX6_count 103 = .ok (.ireturn, 1) := by decide +kernel
theorem dX6_count_104 : decode cX6_count 104 = .ok (.aload_n 0, 1) := by decide +kernel
theorem dX6_count_105 : decode cX6_count 105 = .ok (.getfield 10, 3) := by decide +kernel
theorem dX6_count_108 : decode cX6_count 108 = .ok (.getfield 239, 3) := by decide +kernel
theorem dX6_count_111 : decode cX6_count 111 = .ok (.iconst 0, 1) := by decide +kernel
theorem dX6_count_112 : decode cX6_count 112 = .ok (.iaload, 1) := by decide +kernel
theorem dX6_count_113 : decode cX6_count 113 = .ok (.ireturn, 1) := by decide +kernel
theorem dX6_count_114 : decode cX6_count 114 = .ok (.aload_n 0, 1) := by decide +kernel
theorem dX6_count_115 : decode cX6_count 115 = .ok (.getfield 10, 3) := by decide +kernel
theorem dX6_count_118 : decode cX6_count 118 = .ok (.getfield 239, 3) := by decide +kernel
theorem dX6_count_121 : decode cX6_count 121 = .ok (.iconst 1, 1) := by decide +kernel
theorem dX6_count_122 : decode cX6_count 122 = .ok (.iaload, 1) := by decide +kernel
theorem dX6_count_123 : decode cX6_count 123 = .ok (.ireturn, 1) := by decide +kernel
theorem dX6_count_124 : decode cX6_count 124 = .ok (.aload_n 0, 1) := by decide +kernel
theorem dX6_count_125 : decode cX6_count 125 = .ok (.getfield 10, 3) := by decide +kernel
theorem dX6_count_128 : decode cX6_count 128 = .ok (.getfield 127, 3) := by decide +kernel
theorem dX6_count_131 : decode cX6_count 131 = .ok (.ireturn, 1) := by decide +kernel
theorem dX6_count_132 : decode cX6_count 132 = .ok (.aload_n 0, 1) := by decide +kernel
theorem dX6_count_133 : decode cX6_count 133 = .ok (.getfield 10, 3) := by decide +kernel
theorem dX6_count_136 : decode cX6_count 136 = .ok (.getfield 242, 3) := by decide +kernel
theorem dX6_count_139 : decode cX6_count 139 = .ok (.ireturn, 1) := by decide +kernel
theorem dX6_count_140 : decode cX6_count 140 = .ok (.aload_n 0, 1) := by decide +kernel
theorem dX6_count_141 : decode cX6_count 141 = .ok (.getfield 10, 3) := by decide +kernel
theorem dX6_count_144 : decode cX6_count 144 = .ok (.getfield 245, 3) := by decide +kernel
theorem dX6_count_147 : decode cX6_count 147 = .ok (.ireturn, 1) := by decide +kernel
theorem dX6_count_148 : decode cX6_count 148 = .ok (.aload_n 0, 1) := by decide +kernel
theorem dX6_count_149 : decode cX6_count 149 = .ok (.getfield 10, 3) := by decide +kernel
theorem dX6_count_152 : decode cX6_count 152 = .ok (.getfield 178, 3) := by decide +kernel
theorem dX6_count_155 : decode cX6_count 155 = .ok (.invokestatic 248, 3) := by decide +kernel
theorem dX6_count_158 : decode cX6_count 158 = .ok (.ireturn, 1) := by decide +kernel
theorem dX6_count_159 : decode cX6_count 159 = .ok (.aload_n 0, 1) := by decide +kernel
theorem dX6_count_160 : decode cX6_count 160 = .ok (.getfield 10, 3) := by decide +kernel
theorem dX6_count_163 : decode cX6_count 163 = .ok (.getfield 181, 3) := by decide +kernel
theorem dX6_count_166 : decode cX6_count 166 = .ok (.invokestatic 248, 3) := by decide +kernel
theorem dX6_count_169 : decode cX6_count 169 = .ok (.ireturn, 1) := by decide +kernel
theorem dX6_count_170 : decode cX6_count 170 = .ok (.aload_n 0, 1) := by decide +kernel
theorem dX6_count_171 : decode cX6_count 171 = .ok (.getfield 10, 3) := by decide +kernel
theorem dX6_count_174 : decode cX6_count 174 = .ok (.getfield 93, 3) := by decide +kernel
theorem dX6_count_177 : decode cX6_count 177 = .ok (.ireturn, 1) := by decide +kernel
theorem dX6_count_178 : decode cX6_count 178 = .ok (.aload_n 0, 1) := by decide +kernel
theorem dX6_count_179 : decode cX6_count 179 = .ok (.getfield 10, 3) := by decide +kernel
theorem dX6_count_182 : decode cX6_count 182 = .ok (.getfield 103, 3) := by decide +kernel
theorem dX6_count_185 : decode cX6_count 185 = .ok (.iconst 0, 1) := by decide +kernel
theorem dX6_count_186 : decode cX6_count 186 = .ok (.iaload, 1) := by decide +kernel
theorem dX6_count_187 : decode cX6_count 187 = .ok (.ireturn, 1) := by decide +kernel
theorem dX6_count_188 : decode cX6_count 188 = .ok (.aload_n 0, 1) := by decide +kernel
theorem dX6_count_189 : decode cX6_count 189 = .ok (.getfield 10, 3) := by decide +kernel
theorem dX6_count_192 : decode cX6_count 192 = .ok (.getfield 103, 3) := by decide +kernel
theorem dX6_count_195 : decode cX6_count 195 = .ok (.iconst 1, 1) := by decide +kernel
theorem dX6_count_196 : decode cX6_count 196 = .ok (.iaload, 1) := by decide +kernel
theorem dX6_count_197 : decode cX6_count 197 = .ok (.ireturn, 1) := by decide +kernel
theorem dX6_count_198 : decode cX6_count 198 = .ok (.aload_n 0, 1) := by decide +kernel
theorem dX6_count_199 : decode cX6_count 199 = .ok (.getfield 10, 3) := by decide +kernel
theorem dX6_count_202 : decode cX6_count 202 = .ok (.getfield 103, 3) := by decide +kernel
theorem dX6_count_205 : decode cX6_count 205 = .ok (.iconst 2, 1) := by decide +kernel
theorem dX6_count_206 : decode cX6_count 206 = .ok (.iaload, 1) := by decide +kernel
theorem dX6_count_207 : decode cX6_count 207 = .ok (.ireturn, 1) := by decide +kernel
theorem dX6_count_208 : decode cX6_count 208 = .ok (.aload_n 0, 1) := by decide +kernel
theorem dX6_count_209 : decode cX6_count 209 = .ok (.getfield 25, 3) := by decide +kernel
theorem dX6_count_212 : decode cX6_count 212 = .ok (.getfield 144, 3) := by decide +kernel
theorem dX6_count_215 : decode cX6_count 215 = .ok (.ireturn, 1) := by decide +kernel
theorem dX6_count_216 : decode cX6_count 216 = .ok (.aload_n 0, 1) := by decide +kernel
theorem dX6_count_217 : decode cX6_count 217 = .ok (.getfield 32, 3) := by decide +kernel
theorem dX6_count_220 : decode cX6_count 220 = .ok (.getfield 137, 3) := by decide +kernel
theorem dX6_count_223 : decode cX6_count 223 = .ok (.ireturn, 1) := by decide +kernel
theorem dX6_count_224 : decode cX6_count 224 = .ok (.bipush (-2), 2) := by decide +kernel
theorem dX6_count_226 : decode cX6_count 226 = .ok (.ireturn, 1) := by decide +kernel
theorem ck_X6_151 : CkV RX6 151 RX4 yX4_ballsOnFelt cX4_ballsOnFelt 3 (some .int) 0 := ⟨wm_X6_151, wim_yX4_ballsOnFelt, wse_yX4_ballsOnFelt, wi_X4, wc_yX4_ballsOnFelt, by decide +kernel⟩
theorem ck_X6_248 : CkS RX6 248 yX4_total cX4_total 3 (some .int) 1 := ⟨wm_X6_248, wst_yX4_total, wi_X4, wc_yX4_total, by decide +kernel⟩
theorem hc_65 {E : Ev} {a0 p0_0 p0_1 p0_2 p0_3 p0_4 p0_5 : Nat} {n0 : Int32} {a1 : Nat → Nat} {σ1 : N2} {a2 : Nat → Nat} {h2 : Nat → Nat → Nat} {n2 : Int32} {η2 : Nat → N2} {o2 : Nat} {a3 : Nat → Nat} {σ3 : N2} : ([1, 2, 3, 4, 5, 6, 7, 8, 9] : List Nat).map (fun i => (wHb a0 p0_0 p0_1 p0_2 p0_3 p0_4 p0_5 n0 ++ (wSt E a1 σ1 ++ (wHs E a2 h2 n2 o2 η2 ++ wTx E a3 σ3)))[i]?) = (wSt E a1 σ1).map some := by rw [show wHb a0 p0_0 p0_1 p0_2 p0_3 p0_4 p0_5 n0 ++ (wSt E a1 σ1 ++ (wHs E a2 h2 n2 o2 η2 ++ (wTx E a3 σ3))) = (wHb a0 p0_0 p0_1 p0_2 p0_3 p0_4 p0_5 n0) ++ (wSt E a1 σ1 ++ (wHs E a2 h2 n2 o2 η2 ++ (wTx E a3 σ3))) by simp only [List.append_assoc, List.nil_append, List.append_nil]]; exact get1 (s := 1) (n := 9) rfl rfl
theorem ha_65 {E : Ev} {a1 : Nat → Nat} {σ1 : N2} {τ0_0 : N2} : (wSt E a1 τ0_0).map Prod.fst = (wSt E a1 σ1).map Prod.fst := fst_St
theorem hw_65 {E : Ev} {a0 p0_0 p0_1 p0_2 p0_3 p0_4 p0_5 : Nat} {n0 : Int32} {a1 : Nat → Nat} {σ1 : N2} {a2 : Nat → Nat} {h2 : Nat → Nat → Nat} {n2 : Int32} {η2 : Nat → N2} {o2 : Nat} {a3 : Nat → Nat} {σ3 : N2} {τ0_0 : N2} : wput (wHb a0 p0_0 p0_1 p0_2 p0_3 p0_4 p0_5 n0 ++ (wSt E a1 σ1 ++ (wHs E a2 h2 n2 o2 η2 ++ wTx E a3 σ3))) [1, 2, 3, 4, 5, 6, 7, 8, 9] (wSt E a1 τ0_0) = wHb a0 p0_0 p0_1 p0_2 p0_3 p0_4 p0_5 n0 ++ (wSt E a1 τ0_0 ++ (wHs E a2 h2 n2 o2 η2 ++ wTx E a3 σ3)) := by
  show wput (wHb a0 p0_0 p0_1 p0_2 p0_3 p0_4 p0_5 n0 ++ (wSt E a1 σ1 ++ (wHs E a2 h2 n2 o2 η2 ++ (wTx E a3 σ3)))) (rg 1 9) (wSt E a1 τ0_0) = _
  rw [show wHb a0 p0_0 p0_1 p0_2 p0_3 p0_4 p0_5 n0 ++ (wSt E a1 σ1 ++ (wHs E a2 h2 n2 o2 η2 ++ (wTx E a3 σ3))) = (wHb a0 p0_0 p0_1 p0_2 p0_3 p0_4 p0_5 n0) ++ (wSt E a1 σ1 ++ (wHs E a2 h2 n2 o2 η2 ++ (wTx E a3 σ3))) by simp only [List.append_assoc, List.nil_append, List.append_nil], put1 (s := 1) (n := 9) rfl rfl rfl]
  try simp only [List.append_assoc, List.nil_append, List.append_nil]
theorem hc_66 {E : Ev} {a0 p0_0 p0_1 p0_2 p0_3 p0_4 p0_5 : Nat} {n0 : Int32} {a1 : Nat → Nat} {σ1 : N2} {a2 : Nat → Nat} {h2 : Nat → Nat → Nat} {n2 : Int32} {η2 : Nat → N2} {o2 : Nat} {a3 : Nat → Nat} {σ3 : N2} : ([5] : List Nat).map (fun i => (wHb a0 p0_0 p0_1 p0_2 p0_3 p0_4 p0_5 n0 ++ (wSt E a1 σ1 ++ (wHs E a2 h2 n2 o2 η2 ++ wTx E a3 σ3)))[i]?) = (wAr E (a1 4) 12 (σ1 3)).map some := rfl
theorem ha_66 {E : Ev} {a1 : Nat → Nat} {σ1 : N2}  : (wAr E (a1 4) 12 (σ1 3)).map Prod.fst = (wAr E (a1 4) 12 (σ1 3)).map Prod.fst := rfl
theorem hw_66 {E : Ev} {a0 p0_0 p0_1 p0_2 p0_3 p0_4 p0_5 : Nat} {n0 : Int32} {a1 : Nat → Nat} {σ1 : N2} {a2 : Nat → Nat} {h2 : Nat → Nat → Nat} {n2 : Int32} {η2 : Nat → N2} {o2 : Nat} {a3 : Nat → Nat} {σ3 : N2}  : wput (wHb a0 p0_0 p0_1 p0_2 p0_3 p0_4 p0_5 n0 ++ (wSt E a1 σ1 ++ (wHs E a2 h2 n2 o2 η2 ++ wTx E a3 σ3))) [5] (wAr E (a1 4) 12 (σ1 3)) = wHb a0 p0_0 p0_1 p0_2 p0_3 p0_4 p0_5 n0 ++ (wSt E a1 σ1 ++ (wHs E a2 h2 n2 o2 η2 ++ wTx E a3 σ3)) := rfl
theorem hc_67 {E : Ev} {a0 p0_0 p0_1 p0_2 p0_3 p0_4 p0_5 : Nat} {n0 : Int32} {a1 : Nat → Nat} {σ1 : N2} {a2 : Nat → Nat} {h2 : Nat → Nat → Nat} {n2 : Int32} {η2 : Nat → N2} {o2 : Nat} {a3 : Nat → Nat} {σ3 : N2} : ([6] : List Nat).map (fun i => (wHb a0 p0_0 p0_1 p0_2 p0_3 p0_4 p0_5 n0 ++ (wSt E a1 σ1 ++ (wHs E a2 h2 n2 o2 η2 ++ wTx E a3 σ3)))[i]?) = (wAr E (a1 5) 12 (σ1 4)).map some := rfl
theorem ha_67 {E : Ev} {a1 : Nat → Nat} {σ1 : N2}  : (wAr E (a1 5) 12 (σ1 4)).map Prod.fst = (wAr E (a1 5) 12 (σ1 4)).map Prod.fst := rfl
theorem hw_67 {E : Ev} {a0 p0_0 p0_1 p0_2 p0_3 p0_4 p0_5 : Nat} {n0 : Int32} {a1 : Nat → Nat} {σ1 : N2} {a2 : Nat → Nat} {h2 : Nat → Nat → Nat} {n2 : Int32} {η2 : Nat → N2} {o2 : Nat} {a3 : Nat → Nat} {σ3 : N2}  : wput (wHb a0 p0_0 p0_1 p0_2 p0_3 p0_4 p0_5 n0 ++ (wSt E a1 σ1 ++ (wHs E a2 h2 n2 o2 η2 ++ wTx E a3 σ3))) [6] (wAr E (a1 5) 12 (σ1 4)) = wHb a0 p0_0 p0_1 p0_2 p0_3 p0_4 p0_5 n0 ++ (wSt E a1 σ1 ++ (wHs E a2 h2 n2 o2 η2 ++ wTx E a3 σ3)) := rfl
set_option maxHeartbeats 4000000 in
set_option maxRecDepth 100000 in
theorem kX6_count (l : Launch) (E : Ev) (h : Nat) (p1 : Nat) (p2 : Nat) (p5 : Nat) (hs : Int32) (sa : Nat → Nat) (σ : N2) (ya : Nat → Nat) (hh : Nat → Nat → Nat) (n : Int32) (o : Nat) (η : Nat → N2) (xa : Nat → Nat) (t : N2) (wt : Int32) : KQ l yX6_count cX6_count 2 (some .int) 1 22 E [.ref h, .int wt] (wHb h (sa 0) p1 p2 (ya 0) (xa 0) p5 hs ++ (wSt E sa σ ++ (wHs E ya hh n o η ++ wTx E xa t))) (QI E (wHb h (sa 0) p1 p2 (ya 0) (xa 0) p5 hs ++ (wSt E sa σ ++ (wHs E ya hh n o η ++ wTx E xa t))) (fX6_count hs σ n o η t wt) (wHb h (sa 0) p1 p2 (ya 0) (xa 0) p5 hs ++ (wSt E sa σ ++ (wHs E ya hh n o η ++ wTx E xa t)))) := by
  refine KQ.mk RX6 rfl (by decide +kernel) (Nat.le_of_ble_eq_true rfl) ?_
  intro p e s m below meth c ls X hr w hl
  have hx := X.1
  have hb := X.2.1
  have hl : lv_has ls 2 [(0, .ref h), (1, .int wt)] := hl
  refine lv_iload_n hx hb dX6_count_0 rfl (lv_at hl 1 rfl) ?_
  by_cases c1_1 : wt = 0
  · refine lv_tableIn (off := 79) (tgt := 80) hx hb dX6_count_1 (by rw [c1_1]; decide) (by rw [c1_1]; decide) (by rw [c1_1]; rfl) (by decide) ?_
    refine lv_aload_n hx hb dX6_count_80 rfl (lv_at hl 0 rfl) ?_
    refine r_get X w CL6 0 (by decide) wf_X6_10 0 rfl rfl dX6_count_81 ?_
    refine r_ci w (r_runV (As := []) (rest := []) X w (kX4_ballsOnFelt l E sa σ ) ck_X6_151 ⟨Nat.le_of_ble_eq_true rfl, Nat.le_of_ble_eq_true rfl⟩ [1, 2, 3, 4, 5, 6, 7, 8, 9] (hc_65 (E := E)) (by decide +kernel) (k0 := 0) CL4 rfl hl.1 (Nat.le_of_ble_eq_true rfl) rfl dX6_count_84 ⟨Nat.le_of_ble_eq_true rfl, Nat.le_of_ble_eq_true rfl⟩) (wHb h (sa 0) p1 p2 (ya 0) (xa 0) p5 hs ++ (wSt E sa σ ++ (wHs E ya hh n o η ++ wTx E xa t))) [1, 2, 3, 4, 5, 6, 7, 8, 9] (hc_65 (E := E)) (by decide +kernel) (ha_65 (E := E)) (hw_65 (E := E)) (fun H locs w => ?_)
    have hq : fX6_count hs σ n o η t wt = ((fX4_ballsOnFelt σ)) := by simp only [fX6_count, if_pos c1_1]
    rw [hq]
    exact r_iret X w hr rfl dX6_count_87
  · by_cases c1_2 : wt = 1
    · refine lv_tableIn (off := 87) (tgt := 88) hx hb dX6_count_1 (by rw [c1_2]; decide) (by rw [c1_2]; decide) (by rw [c1_2]; rfl) (by decide) ?_
      refine lv_aload_n hx hb dX6_count_88 rfl (lv_at hl 0 rfl) ?_
      refine r_get X w CL6 0 (by decide) wf_X6_10 0 rfl rfl dX6_count_89 ?_
      refine r_getN X w CL4 8 (by decide) nl_19 1 rfl rfl dX6_count_92 ?_
      have hq : fX6_count hs σ n o η t wt = (σ 8 0) := by simp only [fX6_count, if_neg c1_1, if_pos c1_2]
      rw [hq]
      exact r_iret X w hr rfl dX6_count_95
    · by_cases c1_3 : wt = 2
      · refine lv_tableIn (off := 95) (tgt := 96) hx hb dX6_count_1 (by rw [c1_3]; decide) (by rw [c1_3]; decide) (by rw [c1_3]; rfl) (by decide) ?_
        refine lv_aload_n hx hb dX6_count_96 rfl (lv_at hl 0 rfl) ?_
        refine r_get X w CL6 0 (by decide) wf_X6_10 0 rfl rfl dX6_count_97 ?_
        refine r_getN X w CL4 10 (by decide) nl_0 1 rfl rfl dX6_count_100 ?_
        have hq : fX6_count hs σ n o η t wt = (σ 8 2) := by simp only [fX6_count, if_neg c1_1, if_neg c1_2, if_pos c1_3]
        rw [hq]
        exact r_iret X w hr rfl dX6_count_103
      · by_cases c1_4 : wt = 3
        · refine lv_tableIn (off := 103) (tgt := 104) hx hb dX6_count_1 (by rw [c1_4]; decide) (by rw [c1_4]; decide) (by rw [c1_4]; rfl) (by decide) ?_
          refine lv_aload_n hx hb dX6_count_104 rfl (lv_at hl 0 rfl) ?_
          refine r_get X w CL6 0 (by decide) wf_X6_10 0 rfl rfl dX6_count_105 ?_
          refine r_getN X w CL4 7 (by decide) nl_20 1 rfl rfl dX6_count_108 ?_
          refine lv_iconst (v := 0) hx hb dX6_count_111 (by decide) ?_
          refine r_ialdL X w 9 rfl (j := 0) rfl (vin_c rfl) dX6_count_112 ?_
          have hq : fX6_count hs σ n o η t wt = (σ 7 0) := by simp only [fX6_count, if_neg c1_1, if_neg c1_2, if_neg c1_3, if_pos c1_4]
          rw [hq]
          exact r_iret X w hr rfl dX6_count_113
        · by_cases c1_5 : wt = 4
          · refine lv_tableIn (off := 113) (tgt := 114) hx hb dX6_count_1 (by rw [c1_5]; decide) (by rw [c1_5]; decide) (by rw [c1_5]; rfl) (by decide) ?_
            refine lv_aload_n hx hb dX6_count_114 rfl (lv_at hl 0 rfl) ?_
            refine r_get X w CL6 0 (by decide) wf_X6_10 0 rfl rfl dX6_count_115 ?_
            refine r_getN X w CL4 7 (by decide) nl_20 1 rfl rfl dX6_count_118 ?_
            refine lv_iconst (v := 1) hx hb dX6_count_121 (by decide) ?_
            refine r_ialdL X w 9 rfl (j := 1) rfl (vin_c rfl) dX6_count_122 ?_
            have hq : fX6_count hs σ n o η t wt = (σ 7 1) := by simp only [fX6_count, if_neg c1_1, if_neg c1_2, if_neg c1_3, if_neg c1_4, if_pos c1_5]
            rw [hq]
            exact r_iret X w hr rfl dX6_count_123
          · by_cases c1_6 : wt = 5
            · refine lv_tableIn (off := 123) (tgt := 124) hx hb dX6_count_1 (by rw [c1_6]; decide) (by rw [c1_6]; decide) (by rw [c1_6]; rfl) (by decide) ?_
              refine lv_aload_n hx hb dX6_count_124 rfl (lv_at hl 0 rfl) ?_
              refine r_get X w CL6 0 (by decide) wf_X6_10 0 rfl rfl dX6_count_125 ?_
              refine r_getN X w CL4 11 (by decide) nl_2 1 rfl rfl dX6_count_128 ?_
              have hq : fX6_count hs σ n o η t wt = (σ 8 3) := by simp only [fX6_count, if_neg c1_1, if_neg c1_2, if_neg c1_3, if_neg c1_4, if_neg c1_5, if_pos c1_6]
              rw [hq]
              exact r_iret X w hr rfl dX6_count_131
            · by_cases c1_7 : wt = 6
              · refine lv_tableIn (off := 131) (tgt := 132) hx hb dX6_count_1 (by rw [c1_7]; decide) (by rw [c1_7]; decide) (by rw [c1_7]; rfl) (by decide) ?_
                refine lv_aload_n hx hb dX6_count_132 rfl (lv_at hl 0 rfl) ?_
                refine r_get X w CL6 0 (by decide) wf_X6_10 0 rfl rfl dX6_count_133 ?_
                refine r_getN X w CL4 12 (by decide) nl_21 1 rfl rfl dX6_count_136 ?_
                have hq : fX6_count hs σ n o η t wt = (σ 8 4) := by simp only [fX6_count, if_neg c1_1, if_neg c1_2, if_neg c1_3, if_neg c1_4, if_neg c1_5, if_neg c1_6, if_pos c1_7]
                rw [hq]
                exact r_iret X w hr rfl dX6_count_139
              · by_cases c1_8 : wt = 7
                · refine lv_tableIn (off := 139) (tgt := 140) hx hb dX6_count_1 (by rw [c1_8]; decide) (by rw [c1_8]; decide) (by rw [c1_8]; rfl) (by decide) ?_
                  refine lv_aload_n hx hb dX6_count_140 rfl (lv_at hl 0 rfl) ?_
                  refine r_get X w CL6 0 (by decide) wf_X6_10 0 rfl rfl dX6_count_141 ?_
                  refine r_getN X w CL4 13 (by decide) nl_22 1 rfl rfl dX6_count_144 ?_
                  have hq : fX6_count hs σ n o η t wt = (σ 8 5) := by simp only [fX6_count, if_neg c1_1, if_neg c1_2, if_neg c1_3, if_neg c1_4, if_neg c1_5, if_neg c1_6, if_neg c1_7, if_pos c1_8]
                  rw [hq]
                  exact r_iret X w hr rfl dX6_count_147
                · by_cases c1_9 : wt = 8
                  · refine lv_tableIn (off := 147) (tgt := 148) hx hb dX6_count_1 (by rw [c1_9]; decide) (by rw [c1_9]; decide) (by rw [c1_9]; rfl) (by decide) ?_
                    refine lv_aload_n hx hb dX6_count_148 rfl (lv_at hl 0 rfl) ?_
                    refine r_get X w CL6 0 (by decide) wf_X6_10 0 rfl rfl dX6_count_149 ?_
                    refine r_getN X w CL4 3 (by decide) nl_8 1 rfl rfl dX6_count_152 ?_
                    refine r_ci w (r_runS (As := [.ref (sa 4)]) (rest := []) X w (kX4_total l E (sa 4) (σ 3) ) ck_X6_248 ⟨Nat.le_of_ble_eq_true rfl, Nat.le_of_ble_eq_true rfl⟩ [5] (hc_66 (E := E)) (by decide +kernel) hl.1 (Nat.le_of_ble_eq_true rfl) rfl dX6_count_155 ⟨Nat.le_of_ble_eq_true rfl, Nat.le_of_ble_eq_true rfl⟩) (wHb h (sa 0) p1 p2 (ya 0) (xa 0) p5 hs ++ (wSt E sa σ ++ (wHs E ya hh n o η ++ wTx E xa t))) [5] (hc_66 (E := E)) (by decide +kernel) (ha_66 (E := E)) (hw_66 (E := E)) (fun H locs w => ?_)
                    have hq : fX6_count hs σ n o η t wt = ((fX4_total (σ 3))) := by simp only [fX6_count, if_neg c1_1, if_neg c1_2, if_neg c1_3, if_neg c1_4, if_neg c1_5, if_neg c1_6, if_neg c1_7, if_neg c1_8, if_pos c1_9]
                    rw [hq]
                    exact r_iret X w hr rfl dX6_count_158
                  · by_cases c1_10 : wt = 9
                    · refine lv_tableIn (off := 158) (tgt := 159) hx hb dX6_count_1 (by rw [c1_10]; decide) (by rw [c1_10]; decide) (by rw [c1_10]; rfl) (by decide) ?_
                      refine lv_aload_n hx hb dX6_count_159 rfl (lv_at hl 0 rfl) ?_
                      refine r_get X w CL6 0 (by decide) wf_X6_10 0 rfl rfl dX6_count_160 ?_
                      refine r_getN X w CL4 4 (by decide) nl_9 1 rfl rfl dX6_count_163 ?_
                      refine r_ci w (r_runS (As := [.ref (sa 5)]) (rest := []) X w (kX4_total l E (sa 5) (σ 4) ) ck_X6_248 ⟨Nat.le_of_ble_eq_true rfl, Nat.le_of_ble_eq_true rfl⟩ [6] (hc_67 (E := E)) (by decide +kernel) hl.1 (Nat.le_of_ble_eq_true rfl) rfl dX6_count_166 ⟨Nat.le_of_ble_eq_true rfl, Nat.le_of_ble_eq_true rfl⟩) (wHb h (sa 0) p1 p2 (ya 0) (xa 0) p5 hs ++ (wSt E sa σ ++ (wHs E ya hh n o η ++ wTx E xa t))) [6] (hc_67 (E := E)) (by decide +kernel) (ha_67 (E := E)) (hw_67 (E := E)) (fun H locs w => ?_)
                      have hq : fX6_count hs σ n o η t wt = ((fX4_total (σ 4))) := by simp only [fX6_count, if_neg c1_1, if_neg c1_2, if_neg c1_3, if_neg c1_4, if_neg c1_5, if_neg c1_6, if_neg c1_7, if_neg c1_8, if_neg c1_9, if_pos c1_10]
                      rw [hq]
                      exact r_iret X w hr rfl dX6_count_169
                    · by_cases c1_11 : wt = 10
                      · refine lv_tableIn (off := 169) (tgt := 170) hx hb dX6_count_1 (by rw [c1_11]; decide) (by rw [c1_11]; decide) (by rw [c1_11]; rfl) (by decide) ?_
                        refine lv_aload_n hx hb dX6_count_170 rfl (lv_at hl 0 rfl) ?_
                        refine r_get X w CL6 0 (by decide) wf_X6_10 0 rfl rfl dX6_count_171 ?_
                        refine r_getN X w CL4 9 (by decide) nl_24 1 rfl rfl dX6_count_174 ?_
                        have hq : fX6_count hs σ n o η t wt = (σ 8 1) := by simp only [fX6_count, if_neg c1_1, if_neg c1_2, if_neg c1_3, if_neg c1_4, if_neg c1_5, if_neg c1_6, if_neg c1_7, if_neg c1_8, if_neg c1_9, if_neg c1_10, if_pos c1_11]
                        rw [hq]
                        exact r_iret X w hr rfl dX6_count_177
                      · by_cases c1_12 : wt = 11
                        · refine lv_tableIn (off := 177) (tgt := 178) hx hb dX6_count_1 (by rw [c1_12]; decide) (by rw [c1_12]; decide) (by rw [c1_12]; rfl) (by decide) ?_
                          refine lv_aload_n hx hb dX6_count_178 rfl (lv_at hl 0 rfl) ?_
                          refine r_get X w CL6 0 (by decide) wf_X6_10 0 rfl rfl dX6_count_179 ?_
                          refine r_getN X w CL4 6 (by decide) nl_26 1 rfl rfl dX6_count_182 ?_
                          refine lv_iconst (v := 0) hx hb dX6_count_185 (by decide) ?_
                          refine r_ialdL X w 8 rfl (j := 0) rfl (vin_c rfl) dX6_count_186 ?_
                          have hq : fX6_count hs σ n o η t wt = (σ 6 0) := by simp only [fX6_count, if_neg c1_1, if_neg c1_2, if_neg c1_3, if_neg c1_4, if_neg c1_5, if_neg c1_6, if_neg c1_7, if_neg c1_8, if_neg c1_9, if_neg c1_10, if_neg c1_11, if_pos c1_12]
                          rw [hq]
                          exact r_iret X w hr rfl dX6_count_187
                        · by_cases c1_13 : wt = 12
                          · refine lv_tableIn (off := 187) (tgt := 188) hx hb dX6_count_1 (by rw [c1_13]; decide) (by rw [c1_13]; decide) (by rw [c1_13]; rfl) (by decide) ?_
                            refine lv_aload_n hx hb dX6_count_188 rfl (lv_at hl 0 rfl) ?_
                            refine r_get X w CL6 0 (by decide) wf_X6_10 0 rfl rfl dX6_count_189 ?_
                            refine r_getN X w CL4 6 (by decide) nl_26 1 rfl rfl dX6_count_192 ?_
                            refine lv_iconst (v := 1) hx hb dX6_count_195 (by decide) ?_
                            refine r_ialdL X w 8 rfl (j := 1) rfl (vin_c rfl) dX6_count_196 ?_
                            have hq : fX6_count hs σ n o η t wt = (σ 6 1) := by simp only [fX6_count, if_neg c1_1, if_neg c1_2, if_neg c1_3, if_neg c1_4, if_neg c1_5, if_neg c1_6, if_neg c1_7, if_neg c1_8, if_neg c1_9, if_neg c1_10, if_neg c1_11, if_neg c1_12, if_pos c1_13]
                            rw [hq]
                            exact r_iret X w hr rfl dX6_count_197
                          · by_cases c1_14 : wt = 13
                            · refine lv_tableIn (off := 197) (tgt := 198) hx hb dX6_count_1 (by rw [c1_14]; decide) (by rw [c1_14]; decide) (by rw [c1_14]; rfl) (by decide) ?_
                              refine lv_aload_n hx hb dX6_count_198 rfl (lv_at hl 0 rfl) ?_
                              refine r_get X w CL6 0 (by decide) wf_X6_10 0 rfl rfl dX6_count_199 ?_
                              refine r_getN X w CL4 6 (by decide) nl_26 1 rfl rfl dX6_count_202 ?_
                              refine lv_iconst (v := 2) hx hb dX6_count_205 (by decide) ?_
                              refine r_ialdL X w 8 rfl (j := 2) rfl (vin_c rfl) dX6_count_206 ?_
                              have hq : fX6_count hs σ n o η t wt = (σ 6 2) := by simp only [fX6_count, if_neg c1_1, if_neg c1_2, if_neg c1_3, if_neg c1_4, if_neg c1_5, if_neg c1_6, if_neg c1_7, if_neg c1_8, if_neg c1_9, if_neg c1_10, if_neg c1_11, if_neg c1_12, if_neg c1_13, if_pos c1_14]
                              rw [hq]
                              exact r_iret X w hr rfl dX6_count_207
                            · by_cases c1_15 : wt = 14
                              · refine lv_tableIn (off := 207) (tgt := 208) hx hb dX6_count_1 (by rw [c1_15]; decide) (by rw [c1_15]; decide) (by rw [c1_15]; rfl) (by decide) ?_
                                refine lv_aload_n hx hb dX6_count_208 rfl (lv_at hl 0 rfl) ?_
                                refine r_get X w CL6 3 (by decide) wf_X6_25 0 rfl rfl dX6_count_209 ?_
                                refine r_getN X w CL2 1 (by decide) nl_4 10 rfl rfl dX6_count_212 ?_
                                have hq : fX6_count hs σ n o η t wt = (n) := by simp only [fX6_count, if_neg c1_1, if_neg c1_2, if_neg c1_3, if_neg c1_4, if_neg c1_5, if_neg c1_6, if_neg c1_7, if_neg c1_8, if_neg c1_9, if_neg c1_10, if_neg c1_11, if_neg c1_12, if_neg c1_13, if_neg c1_14, if_pos c1_15]
                                rw [hq]
                                exact r_iret X w hr rfl dX6_count_215
                              · by_cases c1_16 : wt = 15
                                · refine lv_tableIn (off := 215) (tgt := 216) hx hb dX6_count_1 (by rw [c1_16]; decide) (by rw [c1_16]; decide) (by rw [c1_16]; rfl) (by decide) ?_
                                  refine lv_aload_n hx hb dX6_count_216 rfl (lv_at hl 0 rfl) ?_
                                  refine r_get X w CL6 4 (by decide) wf_X6_32 0 rfl rfl dX6_count_217 ?_
                                  refine r_getN X w CL0 1 (by decide) nl_3 48 rfl rfl dX6_count_220 ?_
                                  have hq : fX6_count hs σ n o η t wt = (t 3 0) := by simp only [fX6_count, if_neg c1_1, if_neg c1_2, if_neg c1_3, if_neg c1_4, if_neg c1_5, if_neg c1_6, if_neg c1_7, if_neg c1_8, if_neg c1_9, if_neg c1_10, if_neg c1_11, if_neg c1_12, if_neg c1_13, if_neg c1_14, if_neg c1_15, if_pos c1_16]
                                  rw [hq]
                                  exact r_iret X w hr rfl dX6_count_223
                                · refine lv_tableOut (tgt := 224) hx hb dX6_count_1 (tab_out_15 c1_1 c1_2 c1_3 c1_4 c1_5 c1_6 c1_7 c1_8 c1_9 c1_10 c1_11 c1_12 c1_13 c1_14 c1_15 c1_16) (by decide) ?_
                                  refine lv_bipush (v := (-2)) hx hb dX6_count_224 (by decide) ?_
                                  have hq : fX6_count hs σ n o η t wt = ((-2)) := by simp only [fX6_count, if_neg c1_1, if_neg c1_2, if_neg c1_3, if_neg c1_4, if_neg c1_5, if_neg c1_6, if_neg c1_7, if_neg c1_8, if_neg c1_9, if_neg c1_10, if_neg c1_11, if_neg c1_12, if_neg c1_13, if_neg c1_14, if_neg c1_15, if_neg c1_16]
                                  rw [hq]
                                  exact r_iret X w hr rfl dX6_count_226
end
section
/-! HexBilliards: putAll, best (printed by wip/whole/gen/p12.py) -/
/-- the balls of a text that was read, put one after the other: -5, or the first refusal; the state then -/
def paN (t : N2) : Nat → Nat → N2 → Int32 × N2
  | 0, _, σ => ((-5), σ)
  | n + 1, k, σ => if fX4_refusalToAdd σ (fX0_cellOfBall t (nI k)) = (-5) then paN t n (k + 1) (fX4_addBall σ (fX0_cellOfBall t (nI k)) (fX0_valueOfBall t (nI k))).2 else (fX4_refusalToAdd σ (fX0_cellOfBall t (nI k)), σ)
def fX6_putAll (hs : Int32) (σ : N2) (σr : N2) (n : Int32) (o : Nat) (η : Nat → N2) (t : N2) : Int32 × N2 × N2 × Int32 × Nat × (Nat → N2) × N2 :=
  if (fX0_read t).1 = (-1) then
    (if (paN (fX0_read t).2 ((fX0_read t).2 3 1).toNatClampNeg 0 σ).1 = (-5) then
      ((fX0_read t).2 3 1, (paN (fX0_read t).2 ((fX0_read t).2 3 1).toNatClampNeg 0 σ).2, (paN (fX0_read t).2 ((fX0_read t).2 3 1).toNatClampNeg 0 σ).2, (fX2_record n o η σ).1, (fX2_record n o η σ).2.1, (fX2_record n o η σ).2.2, (fX0_read t).2)
    else ((paN (fX0_read t).2 ((fX0_read t).2 3 1).toNatClampNeg 0 σ).1, σ, (paN (fX0_read t).2 ((fX0_read t).2 3 1).toNatClampNeg 0 σ).2, n, o, η, (fX0_read t).2))
  else ((-100) - (fX0_read t).1, σ, σr, n, o, η, (fX0_read t).2)
theorem dX6_putAll_0 : decode cX6_putAll 0 = .ok (.aload_n 0, 1) := by decide +kernel
theorem dX6_putAll_1 : decode cX6_putAll 1 = .ok (.getfield 32, 3) := by decide +kernel
theorem dX6_putAll_4 : decode cX6_putAll 4 = .ok (.invokevirtual 61, 3) := by decide +kernel
theorem dX6_putAll_7 : decode cX6_putAll 7 = .ok (.istore_n 1, 1) := by decide +kernel
theorem dX6_putAll_8 : decode cX6_putAll 8 = .ok (.iload_n 1, 1) := by decide +kernel
theorem dX6_putAll_9 : decode cX6_putAll 9 = .ok (.iconst (-1), 1) := by decide +kernel
theorem dX6_putAll_10 : decode cX6_putAll 10 = .ok (.if_icmp .eq 8, 3) := by decide +kernel
theorem dX6_putAll_13 : decode cX6_putAll 13 = .ok (.bipush (-100), 2) := by decide +kernel
theorem dX6_putAll_15 : decode cX6_putAll 15 = .ok (.iload_n 1, 1) := by decide +kernel
theorem dX6_putAll_16 : decode cX6_putAll 16 = .ok (.isub, 1) := by decide +kernel
theorem dX6_putAll_17 : decode cX6_putAll 17 = .ok (.ireturn, 1) := by decide +kernel
theorem dX6_putAll_18 : decode cX6_putAll 18 = .ok (.aload_n 0, 1) := by decide +kernel
theorem dX6_putAll_19 : decode cX6_putAll 19 = .ok (.getfield 19, 3) := by decide +kernel
theorem dX6_putAll_22 : decode cX6_putAll 22 = .ok (.aload_n 0, 1) := by decide +kernel
theorem dX6_putAll_23 : decode cX6_putAll 23 = .ok (.getfield 10, 3) := by decide +kernel
theorem dX6_putAll_26 : decode cX6_putAll 26 = .ok (.invokevirtual 65, 3) := by decide +kernel
theorem dX6_putAll_29 : decode cX6_putAll 29 = .ok (.iconst 0, 1) := by decide +kernel
theorem dX6_putAll_30 : decode cX6_putAll 30 = .ok (.istore_n 2, 1) := by decide +kernel
theorem dX6_putAll_31 : decode cX6_putAll 31 = .ok (.iload_n 2, 1) := by decide +kernel
theorem dX6_putAll_32 : decode cX6_putAll 32 = .ok (.aload_n 0, 1) := by decide +kernel
theorem dX6_putAll_33 : decode cX6_putAll 33 = .ok (.getfield 32, 3) := by decide +kernel
theorem dX6_putAll_36 : decode cX6_putAll 36 = .ok (.getfield 68, 3) := by decide +kernel
theorem dX6_putAll_39 : decode cX6_putAll 39 = .ok (.if_icmp .ge 55, 3) := by decide +kernel
theorem dX6_putAll_42 : decode cX6_putAll 42 = .ok (.aload_n 0, 1) := by decide +kernel
theorem dX6_putAll_43 : decode cX6_putAll 43 = .ok (.getfield 32, 3) := by decide +kernel
theorem dX6_putAll_46 : decode cX6_putAll 46 = .ok (.iload_n 2, 1) := by decide +kernel
theorem dX6_putAll_47 : decode cX6_putAll 47 = .ok (.invokevirtual 72, 3) := by decide +kernel
theorem dX6_putAll_50 : decode cX6_putAll 50 = .ok (.istore_n 3, 1) := by decide +kernel
theorem dX6_putAll_51 : decode cX6_putAll 51 = .ok (.aload_n 0, 1) := by decide +kernel
theorem dX6_putAll_52 : decode cX6_putAll 52 = .ok (.getfield 19, 3) := by decide +kernel
theorem dX6_putAll_55 : decode cX6_putAll 55 = .ok (.iload_n 3, 1) := by decide +kernel
theorem dX6_putAll_56 : decode cX6_putAll 56 = .ok (.invokevirtual 49, 3) := by decide +kernel
theorem dX6_putAll_59 : decode cX6_putAll 59 = .ok (.istore 4, 2) := by decide +kernel
theorem dX6_putAll_61 : decode cX6_putAll 61 = .ok (.iload 4, 2) := by decide +kernel
theorem dX6_putAll_63 : decode cX6_putAll 63 = .ok (.bipush (-5), 2) := by decide +kernel
theorem dX6_putAll_65 : decode cX6_putAll 65 = .ok (.if_icmp .eq 6, 3) := by decide +kernel
theorem dX6_putAll_68 : decode cX6_putAll 68 = .ok (.iload 4, 2) := by decide +kernel
theorem dX6_putAll_70 : decode cX6_putAll 70 = .ok (.ireturn, 1) := by decide +kernel
theorem dX6_putAll_71 : decode cX6_putAll 71 = .ok (.aload_n 0, 1) := by decide +kernel
theorem dX6_putAll_72 : decode cX6_putAll 72 = .ok (.getfield 19, 3) := by decide +kernel
theorem dX6_putAll_75 : decode cX6_putAll 75 = .ok (.iload_n 3, 1) := by decide +kernel
theorem dX6_putAll_76 : decode cX6_putAll 76 = .ok (.aload_n 0, 1) := by decide +kernel
theorem dX6_putAll_77 : decode cX6_putAll 77 = .ok (.getfield 32, 3) := by decide +kernel
theorem dX6_putAll_80 : decode cX6_putAll 80 = .ok (.iload_n 2, 1) := by decide +kernel
theorem dX6_putAll_81 : decode cX6_putAll 81 = .ok (.invokevirtual 75, 3) := by decide +kernel
theorem dX6_putAll_84 : decode cX6_putAll 84 = .ok (.invokevirtual 57, 3) := by decide +kernel
theorem dX6_putAll_87 : decode cX6_putAll 87 = .ok (.pop, 1) := by decide +kernel
theorem dX6_putAll_88 : decode cX6_putAll 88 = .ok (.iinc 2 1, 3) := by decide +kernel
theorem dX6_putAll_91 : decode cX6_putAll 91 = .ok (.goto (-60), 3) := by decide +kernel
theorem dX6_putAll_94 : decode cX6_putAll 94 = .ok (.aload_n 0, 1) := by decide +kernel
theorem dX6_putAll_95 : decode cX6_putAll 95 = .ok (.getfield 25, 3) := by decide +kernel
theorem dX6_putAll_98 : decode cX6_putAll 98 = .ok (.aload_n 0, 1) := by decide +kernel
theorem dX6_putAll_99 : decode cX6_putAll 99 = .ok (.getfield 10, 3) := by decide +kernel
theorem dX6_putAll_102 : decode cX6_putAll 102 = .ok (.invokevirtual 53, 3) := by decide +kernel
theorem dX6_putAll_105 : decode cX6_putAll 105 = .ok (.aload_n 0, 1) := by decide +kernel
theorem dX6_putAll_106 : decode cX6_putAll 106 = .ok (.getfield 10, 3) := by decide +kernel
theorem dX6_putAll_109 : decode cX6_putAll 109 = .ok (.aload_n 0, 1) := by decide +kernel
theorem dX6_putAll_110 : decode cX6_putAll 110 = .ok (.getfield 19, 3) := by decide +kernel
theorem dX6_putAll_113 : decode cX6_putAll 113 = .ok (.invokevirtual 65, 3) := by decide +kernel
theorem dX6_putAll_116 : decode cX6_putAll 116 = .ok (.aload_n 0, 1) := by decide +kernel
theorem dX6_putAll_117 : decode cX6_putAll 117 = .ok (.getfield 32, 3) := by decide +kernel
theorem dX6_putAll_120 : decode cX6_putAll 120 = .ok (.getfield 68, 3) := by decide +kernel
theorem dX6_putAll_123 : decode cX6_putAll 123 = .ok (.ireturn, 1) := by decide +kernel
theorem ck_X6_61 : CkV RX6 61 RX0 yX0_read cX0_read 2 (some .int) 0 := ⟨wm_X6_61, wim_yX0_read, wse_yX0_read, wi_X0, wc_yX0_read, by decide +kernel⟩
theorem ck_X6_72 : CkV RX6 72 RX0 yX0_cellOfBall cX0_cellOfBall 2 (some .int) 1 := ⟨wm_X6_72, wim_yX0_cellOfBall, wse_yX0_cellOfBall, wi_X0, wc_yX0_cellOfBall, by decide +kernel⟩
theorem ck_X6_75 : CkV RX6 75 RX0 yX0_valueOfBall cX0_valueOfBall 2 (some .int) 1 := ⟨wm_X6_75, wim_yX0_valueOfBall, wse_yX0_valueOfBall, wi_X0, wc_yX0_valueOfBall, by decide +kernel⟩
theorem hc_68 {E : Ev} {a0 p0_0 p0_1 p0_2 p0_3 p0_4 p0_5 : Nat} {n0 : Int32} {a1 : Nat → Nat} {σ1 : N2} {a2 : Nat → Nat} {σ2 : N2} {a3 : Nat → Nat} {h3 : Nat → Nat → Nat} {n3 : Int32} {η3 : Nat → N2} {o3 : Nat} {a4 : Nat → Nat} {σ4 : N2} : ([57, 58, 59, 60] : List Nat).map (fun i => (wHb a0 p0_0 p0_1 p0_2 p0_3 p0_4 p0_5 n0 ++ (wSt E a1 σ1 ++ (wSt E a2 σ2 ++ (wHs E a3 h3 n3 o3 η3 ++ wTx E a4 σ4))))[i]?) = (wTx E a4 σ4).map some := by rw [show wHb a0 p0_0 p0_1 p0_2 p0_3 p0_4 p0_5 n0 ++ (wSt E a1 σ1 ++ (wSt E a2 σ2 ++ (wHs E a3 h3 n3 o3 η3 ++ (wTx E a4 σ4)))) = (wHb a0 p0_0 p0_1 p0_2 p0_3 p0_4 p0_5 n0 ++ (wSt E a1 σ1 ++ (wSt E a2 σ2 ++ (wHs E a3 h3 n3 o3 η3)))) ++ (wTx E a4 σ4 ++ (([] : va_W))) by simp only [List.append_assoc, List.nil_append, List.append_nil]]; exact get1 (s := 57) (n := 4) rfl rfl
theorem ha_68 {E : Ev} {a4 : Nat → Nat} {σ4 : N2} {τ0_0 : N2} : (wTx E a4 τ0_0).map Prod.fst = (wTx E a4 σ4).map Prod.fst := fst_Tx
theorem hw_68 {E : Ev} {a0 p0_0 p0_1 p0_2 p0_3 p0_4 p0_5 : Nat} {n0 : Int32} {a1 : Nat → Nat} {σ1 : N2} {a2 : Nat → Nat} {σ2 : N2} {a3 : Nat → Nat} {h3 : Nat → Nat → Nat} {n3 : Int32} {η3 : Nat → N2} {o3 : Nat} {a4 : Nat → Nat} {σ4 : N2} {τ0_0 : N2} : wput (wHb a0 p0_0 p0_1 p0_2 p0_3 p0_4 p0_5 n0 ++ (wSt E a1 σ1 ++ (wSt E a2 σ2 ++ (wHs E a3 h3 n3 o3 η3 ++ wTx E a4 σ4)))) [57, 58, 59, 60] (wTx E a4 τ0_0) = wHb a0 p0_0 p0_1 p0_2 p0_3 p0_4 p0_5 n0 ++ (wSt E a1 σ1 ++ (wSt E a2 σ2 ++ (wHs E a3 h3 n3 o3 η3 ++ wTx E a4 τ0_0))) := by
  show wput (wHb a0 p0_0 p0_1 p0_2 p0_3 p0_4 p0_5 n0 ++ (wSt E a1 σ1 ++ (wSt E a2 σ2 ++ (wHs E a3 h3 n3 o3 η3 ++ (wTx E a4 σ4))))) (rg 57 4) (wTx E a4 τ0_0) = _
  rw [show wHb a0 p0_0 p0_1 p0_2 p0_3 p0_4 p0_5 n0 ++ (wSt E a1 σ1 ++ (wSt E a2 σ2 ++ (wHs E a3 h3 n3 o3 η3 ++ (wTx E a4 σ4)))) = (wHb a0 p0_0 p0_1 p0_2 p0_3 p0_4 p0_5 n0 ++ (wSt E a1 σ1 ++ (wSt E a2 σ2 ++ (wHs E a3 h3 n3 o3 η3)))) ++ (wTx E a4 σ4 ++ (([] : va_W))) by simp only [List.append_assoc, List.nil_append, List.append_nil], put1 (s := 57) (n := 4) rfl rfl rfl]
  try simp only [List.append_assoc, List.nil_append, List.append_nil]
theorem hc_69 {E : Ev} {a0 p0_0 p0_1 p0_2 p0_3 p0_4 p0_5 : Nat} {n0 : Int32} {a1 : Nat → Nat} {σ1 : N2} {a2 : Nat → Nat} {σ2 : N2} {a3 : Nat → Nat} {h3 : Nat → Nat → Nat} {n3 : Int32} {η3 : Nat → N2} {o3 : Nat} {a4 : Nat → Nat} {σ4 : N2} : ([10, 11, 12, 13, 14, 15, 16, 17, 18, 1, 2, 3, 4, 5, 6, 7, 8, 9] : List Nat).map (fun i => (wHb a0 p0_0 p0_1 p0_2 p0_3 p0_4 p0_5 n0 ++ (wSt E a1 σ1 ++ (wSt E a2 σ2 ++ (wHs E a3 h3 n3 o3 η3 ++ wTx E a4 σ4))))[i]?) = (wSt E a2 σ2 ++ wSt E a1 σ1).map some := get_app (is1 := rg 10 9) (is2 := rg 1 9) (by rw [show wHb a0 p0_0 p0_1 p0_2 p0_3 p0_4 p0_5 n0 ++ (wSt E a1 σ1 ++ (wSt E a2 σ2 ++ (wHs E a3 h3 n3 o3 η3 ++ (wTx E a4 σ4)))) = (wHb a0 p0_0 p0_1 p0_2 p0_3 p0_4 p0_5 n0 ++ (wSt E a1 σ1)) ++ (wSt E a2 σ2 ++ (wHs E a3 h3 n3 o3 η3 ++ (wTx E a4 σ4))) by simp only [List.append_assoc, List.nil_append, List.append_nil]]; exact get1 (s := 10) (n := 9) rfl rfl) ((by rw [show wHb a0 p0_0 p0_1 p0_2 p0_3 p0_4 p0_5 n0 ++ (wSt E a1 σ1 ++ (wSt E a2 σ2 ++ (wHs E a3 h3 n3 o3 η3 ++ (wTx E a4 σ4)))) = (wHb a0 p0_0 p0_1 p0_2 p0_3 p0_4 p0_5 n0) ++ (wSt E a1 σ1 ++ (wSt E a2 σ2 ++ (wHs E a3 h3 n3 o3 η3 ++ (wTx E a4 σ4)))) by simp only [List.append_assoc, List.nil_append, List.append_nil]]; exact get1 (s := 1) (n := 9) rfl rfl))
theorem ha_69 {E : Ev} {a1 : Nat → Nat} {σ1 : N2} {a2 : Nat → Nat} {σ2 : N2} {τ0_0 : N2} {τ1_0 : N2} : (wSt E a2 τ0_0 ++ wSt E a1 τ1_0).map Prod.fst = (wSt E a2 σ2 ++ wSt E a1 σ1).map Prod.fst := fst_app fst_St (fst_St)
theorem hw_69 {E : Ev} {a0 p0_0 p0_1 p0_2 p0_3 p0_4 p0_5 : Nat} {n0 : Int32} {a1 : Nat → Nat} {σ1 : N2} {a2 : Nat → Nat} {σ2 : N2} {a3 : Nat → Nat} {h3 : Nat → Nat → Nat} {n3 : Int32} {η3 : Nat → N2} {o3 : Nat} {a4 : Nat → Nat} {σ4 : N2} {τ0_0 : N2} {τ1_0 : N2} : wput (wHb a0 p0_0 p0_1 p0_2 p0_3 p0_4 p0_5 n0 ++ (wSt E a1 σ1 ++ (wSt E a2 σ2 ++ (wHs E a3 h3 n3 o3 η3 ++ wTx E a4 σ4)))) [10, 11, 12, 13, 14, 15, 16, 17, 18, 1, 2, 3, 4, 5, 6, 7, 8, 9] (wSt E a2 τ0_0 ++ wSt E a1 τ1_0) = wHb a0 p0_0 p0_1 p0_2 p0_3 p0_4 p0_5 n0 ++ (wSt E a1 τ1_0 ++ (wSt E a2 τ0_0 ++ (wHs E a3 h3 n3 o3 η3 ++ wTx E a4 σ4))) := by
  show wput (wHb a0 p0_0 p0_1 p0_2 p0_3 p0_4 p0_5 n0 ++ (wSt E a1 σ1 ++ (wSt E a2 σ2 ++ (wHs E a3 h3 n3 o3 η3 ++ (wTx E a4 σ4))))) (rg 10 9 ++ (rg 1 9)) (wSt E a2 τ0_0 ++ wSt E a1 τ1_0) = _
  rw [wput_app rfl]
  rw [show wHb a0 p0_0 p0_1 p0_2 p0_3 p0_4 p0_5 n0 ++ (wSt E a1 σ1 ++ (wSt E a2 σ2 ++ (wHs E a3 h3 n3 o3 η3 ++ (wTx E a4 σ4)))) = (wHb a0 p0_0 p0_1 p0_2 p0_3 p0_4 p0_5 n0 ++ (wSt E a1 σ1)) ++ (wSt E a2 σ2 ++ (wHs E a3 h3 n3 o3 η3 ++ (wTx E a4 σ4))) by simp only [List.append_assoc, List.nil_append, List.append_nil], put1 (s := 10) (n := 9) rfl rfl rfl]
  rw [show (wHb a0 p0_0 p0_1 p0_2 p0_3 p0_4 p0_5 n0 ++ (wSt E a1 σ1)) ++ (wSt E a2 τ0_0 ++ (wHs E a3 h3 n3 o3 η3 ++ (wTx E a4 σ4))) = (wHb a0 p0_0 p0_1 p0_2 p0_3 p0_4 p0_5 n0) ++ (wSt E a1 σ1 ++ (wSt E a2 τ0_0 ++ (wHs E a3 h3 n3 o3 η3 ++ (wTx E a4 σ4)))) by simp only [List.append_assoc, List.nil_append, List.append_nil], put1 (s := 1) (n := 9) rfl rfl rfl]
  try simp only [List.append_assoc, List.nil_append, List.append_nil]
theorem hc_70 {E : Ev} {a0 p0_0 p0_1 p0_2 p0_3 p0_4 p0_5 : Nat} {n0 : Int32} {a1 : Nat → Nat} {σ1 : N2} {a2 : Nat → Nat} {σ2 : N2} {a3 : Nat → Nat} {h3 : Nat → Nat → Nat} {n3 : Int32} {η3 : Nat → N2} {o3 : Nat} {a4 : Nat → Nat} {σ4 : N2} : ([19, 20, 21, 22, 23, 24, 25, 26, 27, 28, 29, 30, 31, 32, 33, 34, 35, 36, 37, 38, 39, 40, 41, 42, 43, 44, 45, 46, 47, 48, 49, 50, 51, 52, 53, 54, 55, 56, 1, 2, 3, 4, 5, 6, 7, 8, 9] : List Nat).map (fun i => (wHb a0 p0_0 p0_1 p0_2 p0_3 p0_4 p0_5 n0 ++ (wSt E a1 σ1 ++ (wSt E a2 σ2 ++ (wHs E a3 h3 n3 o3 η3 ++ wTx E a4 σ4))))[i]?) = (wHs E a3 h3 n3 o3 η3 ++ wSt E a1 σ1).map some := get_app (is1 := rg 19 38) (is2 := rg 1 9) (by rw [show wHb a0 p0_0 p0_1 p0_2 p0_3 p0_4 p0_5 n0 ++ (wSt E a1 σ1 ++ (wSt E a2 σ2 ++ (wHs E a3 h3 n3 o3 η3 ++ (wTx E a4 σ4)))) = (wHb a0 p0_0 p0_1 p0_2 p0_3 p0_4 p0_5 n0 ++ (wSt E a1 σ1 ++ (wSt E a2 σ2))) ++ (wHs E a3 h3 n3 o3 η3 ++ (wTx E a4 σ4)) by simp only [List.append_assoc, List.nil_append, List.append_nil]]; exact get1 (s := 19) (n := 38) rfl rfl) ((by rw [show wHb a0 p0_0 p0_1 p0_2 p0_3 p0_4 p0_5 n0 ++ (wSt E a1 σ1 ++ (wSt E a2 σ2 ++ (wHs E a3 h3 n3 o3 η3 ++ (wTx E a4 σ4)))) = (wHb a0 p0_0 p0_1 p0_2 p0_3 p0_4 p0_5 n0) ++ (wSt E a1 σ1 ++ (wSt E a2 σ2 ++ (wHs E a3 h3 n3 o3 η3 ++ (wTx E a4 σ4)))) by simp only [List.append_assoc, List.nil_append, List.append_nil]]; exact get1 (s := 1) (n := 9) rfl rfl))
theorem ha_70 {E : Ev} {a1 : Nat → Nat} {σ1 : N2} {a3 : Nat → Nat} {h3 : Nat → Nat → Nat} {n3 : Int32} {η3 : Nat → N2} {o3 : Nat} {τ0_0 : Int32} {τ0_1 : Nat} {τ0_2 : Nat → N2} {τ1_0 : N2} : (wHs E a3 h3 τ0_0 τ0_1 τ0_2 ++ wSt E a1 τ1_0).map Prod.fst = (wHs E a3 h3 n3 o3 η3 ++ wSt E a1 σ1).map Prod.fst := fst_app fst_Hs (fst_St)
theorem hw_70 {E : Ev} {a0 p0_0 p0_1 p0_2 p0_3 p0_4 p0_5 : Nat} {n0 : Int32} {a1 : Nat → Nat} {σ1 : N2} {a2 : Nat → Nat} {σ2 : N2} {a3 : Nat → Nat} {h3 : Nat → Nat → Nat} {n3 : Int32} {η3 : Nat → N2} {o3 : Nat} {a4 : Nat → Nat} {σ4 : N2} {τ0_0 : Int32} {τ0_1 : Nat} {τ0_2 : Nat → N2} {τ1_0 : N2} : wput (wHb a0 p0_0 p0_1 p0_2 p0_3 p0_4 p0_5 n0 ++ (wSt E a1 σ1 ++ (wSt E a2 σ2 ++ (wHs E a3 h3 n3 o3 η3 ++ wTx E a4 σ4)))) [19, 20, 21, 22, 23, 24, 25, 26, 27, 28, 29, 30, 31, 32, 33, 34, 35, 36, 37, 38, 39, 40, 41, 42, 43, 44, 45, 46, 47, 48, 49, 50, 51, 52, 53, 54, 55, 56, 1, 2, 3, 4, 5, 6, 7, 8, 9] (wHs E a3 h3 τ0_0 τ0_1 τ0_2 ++ wSt E a1 τ1_0) = wHb a0 p0_0 p0_1 p0_2 p0_3 p0_4 p0_5 n0 ++ (wSt E a1 τ1_0 ++ (wSt E a2 σ2 ++ (wHs E a3 h3 τ0_0 τ0_1 τ0_2 ++ wTx E a4 σ4))) := by
  show wput (wHb a0 p0_0 p0_1 p0_2 p0_3 p0_4 p0_5 n0 ++ (wSt E a1 σ1 ++ (wSt E a2 σ2 ++ (wHs E a3 h3 n3 o3 η3 ++ (wTx E a4 σ4))))) (rg 19 38 ++ (rg 1 9)) (wHs E a3 h3 τ0_0 τ0_1 τ0_2 ++ wSt E a1 τ1_0) = _
  rw [wput_app rfl]
  rw [show wHb a0 p0_0 p0_1 p0_2 p0_3 p0_4 p0_5 n0 ++ (wSt E a1 σ1 ++ (wSt E a2 σ2 ++ (wHs E a3 h3 n3 o3 η3 ++ (wTx E a4 σ4)))) = (wHb a0 p0_0 p0_1 p0_2 p0_3 p0_4 p0_5 n0 ++ (wSt E a1 σ1 ++ (wSt E a2 σ2))) ++ (wHs E a3 h3 n3 o3 η3 ++ (wTx E a4 σ4)) by simp only [List.append_assoc, List.nil_append, List.append_nil], put1 (s := 19) (n := 38) rfl rfl rfl]
  rw [show (wHb a0 p0_0 p0_1 p0_2 p0_3 p0_4 p0_5 n0 ++ (wSt E a1 σ1 ++ (wSt E a2 σ2))) ++ (wHs E a3 h3 τ0_0 τ0_1 τ0_2 ++ (wTx E a4 σ4)) = (wHb a0 p0_0 p0_1 p0_2 p0_3 p0_4 p0_5 n0) ++ (wSt E a1 σ1 ++ (wSt E a2 σ2 ++ (wHs E a3 h3 τ0_0 τ0_1 τ0_2 ++ (wTx E a4 σ4)))) by simp only [List.append_assoc, List.nil_append, List.append_nil], put1 (s := 1) (n := 9) rfl rfl rfl]
  try simp only [List.append_assoc, List.nil_append, List.append_nil]
theorem hc_71 {E : Ev} {a0 p0_0 p0_1 p0_2 p0_3 p0_4 p0_5 : Nat} {n0 : Int32} {a1 : Nat → Nat} {σ1 : N2} {a2 : Nat → Nat} {σ2 : N2} {a3 : Nat → Nat} {h3 : Nat → Nat → Nat} {n3 : Int32} {η3 : Nat → N2} {o3 : Nat} {a4 : Nat → Nat} {σ4 : N2} : ([1, 2, 3, 4, 5, 6, 7, 8, 9, 10, 11, 12, 13, 14, 15, 16, 17, 18] : List Nat).map (fun i => (wHb a0 p0_0 p0_1 p0_2 p0_3 p0_4 p0_5 n0 ++ (wSt E a1 σ1 ++ (wSt E a2 σ2 ++ (wHs E a3 h3 n3 o3 η3 ++ wTx E a4 σ4))))[i]?) = (wSt E a1 σ1 ++ wSt E a2 σ2).map some := get_app (is1 := rg 1 9) (is2 := rg 10 9) (by rw [show wHb a0 p0_0 p0_1 p0_2 p0_3 p0_4 p0_5 n0 ++ (wSt E a1 σ1 ++ (wSt E a2 σ2 ++ (wHs E a3 h3 n3 o3 η3 ++ (wTx E a4 σ4)))) = (wHb a0 p0_0 p0_1 p0_2 p0_3 p0_4 p0_5 n0) ++ (wSt E a1 σ1 ++ (wSt E a2 σ2 ++ (wHs E a3 h3 n3 o3 η3 ++ (wTx E a4 σ4)))) by simp only [List.append_assoc, List.nil_append, List.append_nil]]; exact get1 (s := 1) (n := 9) rfl rfl) ((by rw [show wHb a0 p0_0 p0_1 p0_2 p0_3 p0_4 p0_5 n0 ++ (wSt E a1 σ1 ++ (wSt E a2 σ2 ++ (wHs E a3 h3 n3 o3 η3 ++ (wTx E a4 σ4)))) = (wHb a0 p0_0 p0_1 p0_2 p0_3 p0_4 p0_5 n0 ++ (wSt E a1 σ1)) ++ (wSt E a2 σ2 ++ (wHs E a3 h3 n3 o3 η3 ++ (wTx E a4 σ4))) by simp only [List.append_assoc, List.nil_append, List.append_nil]]; exact get1 (s := 10) (n := 9) rfl rfl))
theorem ha_71 {E : Ev} {a1 : Nat → Nat} {σ1 : N2} {a2 : Nat → Nat} {σ2 : N2} {τ0_0 : N2} {τ1_0 : N2} : (wSt E a1 τ0_0 ++ wSt E a2 τ1_0).map Prod.fst = (wSt E a1 σ1 ++ wSt E a2 σ2).map Prod.fst := fst_app fst_St (fst_St)
theorem hw_71 {E : Ev} {a0 p0_0 p0_1 p0_2 p0_3 p0_4 p0_5 : Nat} {n0 : Int32} {a1 : Nat → Nat} {σ1 : N2} {a2 : Nat → Nat} {σ2 : N2} {a3 : Nat → Nat} {h3 : Nat → Nat → Nat} {n3 : Int32} {η3 : Nat → N2} {o3 : Nat} {a4 : Nat → Nat} {σ4 : N2} {τ0_0 : N2} {τ1_0 : N2} : wput (wHb a0 p0_0 p0_1 p0_2 p0_3 p0_4 p0_5 n0 ++ (wSt E a1 σ1 ++ (wSt E a2 σ2 ++ (wHs E a3 h3 n3 o3 η3 ++ wTx E a4 σ4)))) [1, 2, 3, 4, 5, 6, 7, 8, 9, 10, 11, 12, 13, 14, 15, 16, 17, 18] (wSt E a1 τ0_0 ++ wSt E a2 τ1_0) = wHb a0 p0_0 p0_1 p0_2 p0_3 p0_4 p0_5 n0 ++ (wSt E a1 τ0_0 ++ (wSt E a2 τ1_0 ++ (wHs E a3 h3 n3 o3 η3 ++ wTx E a4 σ4))) := by
  show wput (wHb a0 p0_0 p0_1 p0_2 p0_3 p0_4 p0_5 n0 ++ (wSt E a1 σ1 ++ (wSt E a2 σ2 ++ (wHs E a3 h3 n3 o3 η3 ++ (wTx E a4 σ4))))) (rg 1 9 ++ (rg 10 9)) (wSt E a1 τ0_0 ++ wSt E a2 τ1_0) = _
  rw [wput_app rfl]
  rw [show wHb a0 p0_0 p0_1 p0_2 p0_3 p0_4 p0_5 n0 ++ (wSt E a1 σ1 ++ (wSt E a2 σ2 ++ (wHs E a3 h3 n3 o3 η3 ++ (wTx E a4 σ4)))) = (wHb a0 p0_0 p0_1 p0_2 p0_3 p0_4 p0_5 n0) ++ (wSt E a1 σ1 ++ (wSt E a2 σ2 ++ (wHs E a3 h3 n3 o3 η3 ++ (wTx E a4 σ4)))) by simp only [List.append_assoc, List.nil_append, List.append_nil], put1 (s := 1) (n := 9) rfl rfl rfl]
  rw [show (wHb a0 p0_0 p0_1 p0_2 p0_3 p0_4 p0_5 n0) ++ (wSt E a1 τ0_0 ++ (wSt E a2 σ2 ++ (wHs E a3 h3 n3 o3 η3 ++ (wTx E a4 σ4)))) = (wHb a0 p0_0 p0_1 p0_2 p0_3 p0_4 p0_5 n0 ++ (wSt E a1 τ0_0)) ++ (wSt E a2 σ2 ++ (wHs E a3 h3 n3 o3 η3 ++ (wTx E a4 σ4))) by simp only [List.append_assoc, List.nil_append, List.append_nil], put1 (s := 10) (n := 9) rfl rfl rfl]
  try simp only [List.append_assoc, List.nil_append, List.append_nil]
theorem hc_72 {E : Ev} {a0 p0_0 p0_1 p0_2 p0_3 p0_4 p0_5 : Nat} {n0 : Int32} {a1 : Nat → Nat} {σ1 : N2} {a2 : Nat → Nat} {σ2 : N2} {a3 : Nat → Nat} {h3 : Nat → Nat → Nat} {n3 : Int32} {η3 : Nat → N2} {o3 : Nat} {a4 : Nat → Nat} {σ4 : N2} : ([10, 11, 12, 13, 14, 15, 16, 17, 18] : List Nat).map (fun i => (wHb a0 p0_0 p0_1 p0_2 p0_3 p0_4 p0_5 n0 ++ (wSt E a1 σ1 ++ (wSt E a2 σ2 ++ (wHs E a3 h3 n3 o3 η3 ++ wTx E a4 σ4))))[i]?) = (wSt E a2 σ2).map some := by rw [show wHb a0 p0_0 p0_1 p0_2 p0_3 p0_4 p0_5 n0 ++ (wSt E a1 σ1 ++ (wSt E a2 σ2 ++ (wHs E a3 h3 n3 o3 η3 ++ (wTx E a4 σ4)))) = (wHb a0 p0_0 p0_1 p0_2 p0_3 p0_4 p0_5 n0 ++ (wSt E a1 σ1)) ++ (wSt E a2 σ2 ++ (wHs E a3 h3 n3 o3 η3 ++ (wTx E a4 σ4))) by simp only [List.append_assoc, List.nil_append, List.append_nil]]; exact get1 (s := 10) (n := 9) rfl rfl
theorem ha_72 {E : Ev} {a2 : Nat → Nat} {σ2 : N2} {τ0_0 : N2} : (wSt E a2 τ0_0).map Prod.fst = (wSt E a2 σ2).map Prod.fst := fst_St
theorem hw_72 {E : Ev} {a0 p0_0 p0_1 p0_2 p0_3 p0_4 p0_5 : Nat} {n0 : Int32} {a1 : Nat → Nat} {σ1 : N2} {a2 : Nat → Nat} {σ2 : N2} {a3 : Nat → Nat} {h3 : Nat → Nat → Nat} {n3 : Int32} {η3 : Nat → N2} {o3 : Nat} {a4 : Nat → Nat} {σ4 : N2} {τ0_0 : N2} : wput (wHb a0 p0_0 p0_1 p0_2 p0_3 p0_4 p0_5 n0 ++ (wSt E a1 σ1 ++ (wSt E a2 σ2 ++ (wHs E a3 h3 n3 o3 η3 ++ wTx E a4 σ4)))) [10, 11, 12, 13, 14, 15, 16, 17, 18] (wSt E a2 τ0_0) = wHb a0 p0_0 p0_1 p0_2 p0_3 p0_4 p0_5 n0 ++ (wSt E a1 σ1 ++ (wSt E a2 τ0_0 ++ (wHs E a3 h3 n3 o3 η3 ++ wTx E a4 σ4))) := by
  show wput (wHb a0 p0_0 p0_1 p0_2 p0_3 p0_4 p0_5 n0 ++ (wSt E a1 σ1 ++ (wSt E a2 σ2 ++ (wHs E a3 h3 n3 o3 η3 ++ (wTx E a4 σ4))))) (rg 10 9) (wSt E a2 τ0_0) = _
  rw [show wHb a0 p0_0 p0_1 p0_2 p0_3 p0_4 p0_5 n0 ++ (wSt E a1 σ1 ++ (wSt E a2 σ2 ++ (wHs E a3 h3 n3 o3 η3 ++ (wTx E a4 σ4)))) = (wHb a0 p0_0 p0_1 p0_2 p0_3 p0_4 p0_5 n0 ++ (wSt E a1 σ1)) ++ (wSt E a2 σ2 ++ (wHs E a3 h3 n3 o3 η3 ++ (wTx E a4 σ4))) by simp only [List.append_assoc, List.nil_append, List.append_nil], put1 (s := 10) (n := 9) rfl rfl rfl]
  try simp only [List.append_assoc, List.nil_append, List.append_nil]
set_option maxHeartbeats 4000000 in
set_option maxRecDepth 100000 in
theorem kX6_putAll (l : Launch) (E : Ev) (h : Nat) (p1 : Nat) (p5 : Nat) (hs : Int32) (sa : Nat → Nat) (σ : N2) (ra : Nat → Nat) (σr : N2) (ya : Nat → Nat) (hh : Nat → Nat → Nat) (n : Int32) (o : Nat) (η : Nat → N2) (xa : Nat → Nat) (t : N2) : KQ l yX6_putAll cX6_putAll 5 (some .int) 4 102 E [.ref h] (wHb h (sa 0) p1 (ra 0) (ya 0) (xa 0) p5 hs ++ (wSt E sa σ ++ (wSt E ra σr ++ (wHs E ya hh n o η ++ wTx E xa t)))) (QI E (wHb h (sa 0) p1 (ra 0) (ya 0) (xa 0) p5 hs ++ (wSt E sa σ ++ (wSt E ra σr ++ (wHs E ya hh n o η ++ wTx E xa t)))) (fX6_putAll hs σ σr n o η t).1 (wHb h (sa 0) p1 (ra 0) (ya 0) (xa 0) p5 hs ++ (wSt E sa ((fX6_putAll hs σ σr n o η t).2.1) ++ (wSt E ra ((fX6_putAll hs σ σr n o η t).2.2.1) ++ (wHs E ya hh ((fX6_putAll hs σ σr n o η t).2.2.2.1) ((fX6_putAll hs σ σr n o η t).2.2.2.2.1) ((fX6_putAll hs σ σr n o η t).2.2.2.2.2.1) ++ wTx E xa ((fX6_putAll hs σ σr n o η t).2.2.2.2.2.2)))))) := by
  refine KQ.mk RX6 rfl (by decide +kernel) (Nat.le_of_ble_eq_true rfl) ?_
  intro p e s m below meth c ls X hr w hl
  have hx := X.1
  have hb := X.2.1
  have hl : lv_has ls 5 [(0, .ref h)] := hl
  refine lv_aload_n hx hb dX6_putAll_0 rfl (lv_at hl 0 rfl) ?_
  refine r_get X w CL6 4 (by decide) wf_X6_32 0 rfl rfl dX6_putAll_1 ?_
  refine r_ci w (r_runV (As := []) (rest := []) X w (kX0_read l E xa t ) ck_X6_61 ⟨Nat.le_of_ble_eq_true rfl, Nat.le_of_ble_eq_true rfl⟩ [57, 58, 59, 60] (hc_68 (E := E)) (by decide +kernel) (k0 := 0) CL0 rfl hl.1 (Nat.le_of_ble_eq_true rfl) rfl dX6_putAll_4 ⟨Nat.le_of_ble_eq_true rfl, Nat.le_of_ble_eq_true rfl⟩) (wHb h (sa 0) p1 (ra 0) (ya 0) (xa 0) p5 hs ++ (wSt E sa σ ++ (wSt E ra σr ++ (wHs E ya hh n o η ++ wTx E xa ((fX0_read t).2))))) [57, 58, 59, 60] (hc_68 (E := E)) (by decide +kernel) (ha_68 (E := E)) (hw_68 (E := E)) (fun H locs w => ?_)
  refine lv_istore_n (lv' := [(1, .int ((fX0_read t).1)), (0, .ref h)]) hx hb dX6_putAll_7 rfl hl (by decide) rfl (fun ls hl => ?_)
  refine lv_iload_n hx hb dX6_putAll_8 rfl (lv_at hl 0 rfl) ?_
  refine lv_iconst (v := (-1)) hx hb dX6_putAll_9 (by decide) ?_
  refine lv_icmp_eq (tgt := 18) hx hb dX6_putAll_10 (by decide) (fun c10_1 => ?_) (fun c10_1 => ?_)
  · refine lv_aload_n hx hb dX6_putAll_18 rfl (lv_at hl 1 rfl) ?_
    refine r_get X w CL6 2 (by decide) wf_X6_19 0 rfl rfl dX6_putAll_19 ?_
    refine lv_aload_n hx hb dX6_putAll_22 rfl (lv_at hl 1 rfl) ?_
    refine r_get X w CL6 0 (by decide) wf_X6_10 0 rfl rfl dX6_putAll_23 ?_
    refine r_cv w (r_runV (As := [.ref (sa 0)]) (rest := []) X w (kX4_copyFrom l E ra σr sa σ ) ck_X6_65 ⟨Nat.le_of_ble_eq_true rfl, Nat.le_of_ble_eq_true rfl⟩ [10, 11, 12, 13, 14, 15, 16, 17, 18, 1, 2, 3, 4, 5, 6, 7, 8, 9] (hc_69 (E := E)) (by decide +kernel) (k0 := 0) CL4 rfl hl.1 (Nat.le_of_ble_eq_true rfl) rfl dX6_putAll_26 ⟨Nat.le_of_ble_eq_true rfl, Nat.le_of_ble_eq_true rfl⟩) (wHb h (sa 0) p1 (ra 0) (ya 0) (xa 0) p5 hs ++ (wSt E sa σ ++ (wSt E ra (fX4_copyFrom σr σ) ++ (wHs E ya hh n o η ++ wTx E xa ((fX0_read t).2))))) [10, 11, 12, 13, 14, 15, 16, 17, 18, 1, 2, 3, 4, 5, 6, 7, 8, 9] (hc_69 (E := E)) (by decide +kernel) (ha_69 (E := E)) (hw_69 (E := E)) (fun H locs w => ?_)
    refine lv_iconst (v := 0) hx hb dX6_putAll_29 (by decide) ?_
    refine lv_istore_n (lv' := [(2, .int 0), (1, .int ((fX0_read t).1)), (0, .ref h)]) hx hb dX6_putAll_30 rfl hl (by decide) rfl (fun ls hl => ?_)
    have loop : ∀ (n1 k : Nat), k + n1 = ((fX0_read t).2 3 1).toNatClampNeg → ∀ (σ1 : N2), paN (fX0_read t).2 n1 k σ1 = paN (fX0_read t).2 ((fX0_read t).2 3 1).toNatClampNeg 0 σ → ∀ (H : Heap) (locs : List Loc), Wd E (hB (wHb h (sa 0) p1 (ra 0) (ya 0) (xa 0) p5 hs ++ (wSt E sa σ ++ (wSt E ra σr ++ (wHs E ya hh n o η ++ wTx E xa t))))) s (wHb h (sa 0) p1 (ra 0) (ya 0) (xa 0) p5 hs ++ (wSt E sa σ ++ (wSt E ra σ1 ++ (wHs E ya hh n o η ++ wTx E xa ((fX0_read t).2))))) H locs → ∀ (ls : Array Slot), lv_has ls 5 [(2, .int (nI k)), (1, .int ((fX0_read t).1)), (0, .ref h)] → W p l e { frames := 4, cells := 0, slots := 0, locals := 102 } s m (([.ref h] : List Value)).toArray below meth c H locs 0 0 (MQ below (QI E (wHb h (sa 0) p1 (ra 0) (ya 0) (xa 0) p5 hs ++ (wSt E sa σ ++ (wSt E ra σr ++ (wHs E ya hh n o η ++ wTx E xa t)))) (fX6_putAll hs σ σr n o η t).1 (wHb h (sa 0) p1 (ra 0) (ya 0) (xa 0) p5 hs ++ (wSt E sa ((fX6_putAll hs σ σr n o η t).2.1) ++ (wSt E ra ((fX6_putAll hs σ σr n o η t).2.2.1) ++ (wHs E ya hh ((fX6_putAll hs σ σr n o η t).2.2.2.1) ((fX6_putAll hs σ σr n o η t).2.2.2.2.1) ((fX6_putAll hs σ σr n o η t).2.2.2.2.2.1) ++ wTx E xa ((fX6_putAll hs σ σr n o η t).2.2.2.2.2.2)))))) (([.ref h] : List Value)).toArray s 0 0 (hB (wHb h (sa 0) p1 (ra 0) (ya 0) (xa 0) p5 hs ++ (wSt E sa σ ++ (wSt E ra σr ++ (wHs E ya hh n o η ++ wTx E xa t)))))) (F0 m 31 ls []) := by
      intro n1
      induction n1 with
      | zero =>
        intro k hk_k σ1 hR H locs w ls hl
        obtain rfl : ((fX0_read t).2 3 1).toNatClampNeg = k := by omega
        refine lv_iload_n hx hb dX6_putAll_31 rfl (lv_at hl 0 rfl) ?_
        refine lv_aload_n hx hb dX6_putAll_32 rfl (lv_at hl 2 rfl) ?_
        refine r_get X w CL6 4 (by decide) wf_X6_32 0 rfl rfl dX6_putAll_33 ?_
        refine r_getN X w CL0 4 (by decide) nl_23 57 rfl rfl dX6_putAll_36 ?_
        refine lv_icmp_ge (tgt := 94) hx hb dX6_putAll_39 (by decide) (fun _ => ?_) (fun h => absurd (le_cl _) h)
        refine lv_aload_n hx hb dX6_putAll_94 rfl (lv_at hl 2 rfl) ?_
        refine r_get X w CL6 3 (by decide) wf_X6_25 0 rfl rfl dX6_putAll_95 ?_
        refine lv_aload_n hx hb dX6_putAll_98 rfl (lv_at hl 2 rfl) ?_
        refine r_get X w CL6 0 (by decide) wf_X6_10 0 rfl rfl dX6_putAll_99 ?_
        refine r_cv w (r_runV (As := [.ref (sa 0)]) (rest := []) X w (kX2_record l E ya hh n o η sa σ ) ck_X6_53 ⟨Nat.le_of_ble_eq_true rfl, Nat.le_of_ble_eq_true rfl⟩ [19, 20, 21, 22, 23, 24, 25, 26, 27, 28, 29, 30, 31, 32, 33, 34, 35, 36, 37, 38, 39, 40, 41, 42, 43, 44, 45, 46, 47, 48, 49, 50, 51, 52, 53, 54, 55, 56, 1, 2, 3, 4, 5, 6, 7, 8, 9] (hc_70 (E := E)) (by decide +kernel) (k0 := 0) CL2 rfl hl.1 (Nat.le_of_ble_eq_true rfl) rfl dX6_putAll_102 ⟨Nat.le_of_ble_eq_true rfl, Nat.le_of_ble_eq_true rfl⟩) (wHb h (sa 0) p1 (ra 0) (ya 0) (xa 0) p5 hs ++ (wSt E sa σ ++ (wSt E ra σ1 ++ (wHs E ya hh ((fX2_record n o η σ).1) ((fX2_record n o η σ).2.1) ((fX2_record n o η σ).2.2) ++ wTx E xa ((fX0_read t).2))))) [19, 20, 21, 22, 23, 24, 25, 26, 27, 28, 29, 30, 31, 32, 33, 34, 35, 36, 37, 38, 39, 40, 41, 42, 43, 44, 45, 46, 47, 48, 49, 50, 51, 52, 53, 54, 55, 56, 1, 2, 3, 4, 5, 6, 7, 8, 9] (hc_70 (E := E)) (by decide +kernel) (ha_70 (E := E)) (hw_70 (E := E)) (fun H locs w => ?_)
        refine lv_aload_n hx hb dX6_putAll_105 rfl (lv_at hl 2 rfl) ?_
        refine r_get X w CL6 0 (by decide) wf_X6_10 0 rfl rfl dX6_putAll_106 ?_
        refine lv_aload_n hx hb dX6_putAll_109 rfl (lv_at hl 2 rfl) ?_
        refine r_get X w CL6 2 (by decide) wf_X6_19 0 rfl rfl dX6_putAll_110 ?_
        refine r_cv w (r_runV (As := [.ref (ra 0)]) (rest := []) X w (kX4_copyFrom l E sa σ ra σ1 ) ck_X6_65 ⟨Nat.le_of_ble_eq_true rfl, Nat.le_of_ble_eq_true rfl⟩ [1, 2, 3, 4, 5, 6, 7, 8, 9, 10, 11, 12, 13, 14, 15, 16, 17, 18] (hc_71 (E := E)) (by decide +kernel) (k0 := 0) CL4 rfl hl.1 (Nat.le_of_ble_eq_true rfl) rfl dX6_putAll_113 ⟨Nat.le_of_ble_eq_true rfl, Nat.le_of_ble_eq_true rfl⟩) (wHb h (sa 0) p1 (ra 0) (ya 0) (xa 0) p5 hs ++ (wSt E sa (fX4_copyFrom σ σ1) ++ (wSt E ra σ1 ++ (wHs E ya hh ((fX2_record n o η σ).1) ((fX2_record n o η σ).2.1) ((fX2_record n o η σ).2.2) ++ wTx E xa ((fX0_read t).2))))) [1, 2, 3, 4, 5, 6, 7, 8, 9, 10, 11, 12, 13, 14, 15, 16, 17, 18] (hc_71 (E := E)) (by decide +kernel) (ha_71 (E := E)) (hw_71 (E := E)) (fun H locs w => ?_)
        refine lv_aload_n hx hb dX6_putAll_116 rfl (lv_at hl 2 rfl) ?_
        refine r_get X w CL6 4 (by decide) wf_X6_32 0 rfl rfl dX6_putAll_117 ?_
        refine r_getN X w CL0 4 (by decide) nl_23 57 rfl rfl dX6_putAll_120 ?_
        have hq : fX6_putAll hs σ σr n o η t = (((fX0_read t).2) 3 1, (fX4_copyFrom σ σ1), σ1, (fX2_record n o η σ).1, (fX2_record n o η σ).2.1, (fX2_record n o η σ).2.2, (fX0_read t).2) := by have hq2 := hR; simp only [paN] at hq2; simp only [fX6_putAll, if_pos c10_1, ← hq2, if_true, fX4_copyFrom]
        obtain ⟨h0_, h1_, h2_, h3_, h4_, h5_, h6_⟩ := tup7 hq
        rw [h0_, h1_, h2_, h3_, h4_, h5_, h6_]
        exact r_iret X w hr rfl dX6_putAll_123
      | succ n1 ih =>
        intro k hk_k σ1 hR H locs w ls hl
        have hkNn1 : k < ((fX0_read t).2 3 1).toNatClampNeg := by omega
        refine lv_iload_n hx hb dX6_putAll_31 rfl (lv_at hl 0 rfl) ?_
        refine lv_aload_n hx hb dX6_putAll_32 rfl (lv_at hl 2 rfl) ?_
        refine r_get X w CL6 4 (by decide) wf_X6_32 0 rfl rfl dX6_putAll_33 ?_
        refine r_getN X w CL0 4 (by decide) nl_23 57 rfl rfl dX6_putAll_36 ?_
        refine lv_icmp_ge (tgt := 94) hx hb dX6_putAll_39 (by decide) (fun h => absurd h (lt_cl hkNn1)) (fun _ => ?_)
        refine lv_aload_n hx hb dX6_putAll_42 rfl (lv_at hl 2 rfl) ?_
        refine r_get X w CL6 4 (by decide) wf_X6_32 0 rfl rfl dX6_putAll_43 ?_
        refine lv_iload_n hx hb dX6_putAll_46 rfl (lv_at hl 0 rfl) ?_
        refine r_ci w (r_runV (As := [.int (nI k)]) (rest := []) X w (kX0_cellOfBall l E xa ((fX0_read t).2) (nI k) ) ck_X6_72 ⟨Nat.le_of_ble_eq_true rfl, Nat.le_of_ble_eq_true rfl⟩ [57, 58, 59, 60] (hc_68 (E := E)) (by decide +kernel) (k0 := 0) CL0 rfl hl.1 (Nat.le_of_ble_eq_true rfl) rfl dX6_putAll_47 ⟨Nat.le_of_ble_eq_true rfl, Nat.le_of_ble_eq_true rfl⟩) (wHb h (sa 0) p1 (ra 0) (ya 0) (xa 0) p5 hs ++ (wSt E sa σ ++ (wSt E ra σ1 ++ (wHs E ya hh n o η ++ wTx E xa ((fX0_read t).2))))) [57, 58, 59, 60] (hc_68 (E := E)) (by decide +kernel) (ha_68 (E := E)) (hw_68 (E := E)) (fun H locs w => ?_)
        refine lv_istore_n (lv' := [(3, .int (fX0_cellOfBall ((fX0_read t).2) (nI k))), (2, .int (nI k)), (1, .int ((fX0_read t).1)), (0, .ref h)]) hx hb dX6_putAll_50 rfl hl (by decide) rfl (fun ls hl => ?_)
        refine lv_aload_n hx hb dX6_putAll_51 rfl (lv_at hl 3 rfl) ?_
        refine r_get X w CL6 2 (by decide) wf_X6_19 0 rfl rfl dX6_putAll_52 ?_
        refine lv_iload_n hx hb dX6_putAll_55 rfl (lv_at hl 0 rfl) ?_
        refine r_ci w (r_runV (As := [.int (fX0_cellOfBall ((fX0_read t).2) (nI k))]) (rest := []) X w (kX4_refusalToAdd l E ra σ1 (fX0_cellOfBall ((fX0_read t).2) (nI k)) ) ck_X6_49 ⟨Nat.le_of_ble_eq_true rfl, Nat.le_of_ble_eq_true rfl⟩ [10, 11, 12, 13, 14, 15, 16, 17, 18] (hc_72 (E := E)) (by decide +kernel) (k0 := 0) CL4 rfl hl.1 (Nat.le_of_ble_eq_true rfl) rfl dX6_putAll_56 ⟨Nat.le_of_ble_eq_true rfl, Nat.le_of_ble_eq_true rfl⟩) (wHb h (sa 0) p1 (ra 0) (ya 0) (xa 0) p5 hs ++ (wSt E sa σ ++ (wSt E ra σ1 ++ (wHs E ya hh n o η ++ wTx E xa ((fX0_read t).2))))) [10, 11, 12, 13, 14, 15, 16, 17, 18] (hc_72 (E := E)) (by decide +kernel) (ha_72 (E := E)) (hw_72 (E := E)) (fun H locs w => ?_)
        refine lv_istore (lv' := [(4, .int (fX4_refusalToAdd σ1 (fX0_cellOfBall ((fX0_read t).2) (nI k)))), (3, .int (fX0_cellOfBall ((fX0_read t).2) (nI k))), (2, .int (nI k)), (1, .int ((fX0_read t).1)), (0, .ref h)]) hx hb dX6_putAll_59 hl (by decide) rfl (fun ls hl => ?_)
        refine lv_iload hx hb dX6_putAll_61 (lv_at hl 0 rfl) ?_
        refine lv_bipush (v := (-5)) hx hb dX6_putAll_63 (by decide) ?_
        refine lv_icmp_eq (tgt := 71) hx hb dX6_putAll_65 (by decide) (fun c65_4 => ?_) (fun c65_4 => ?_)
        · refine lv_aload_n hx hb dX6_putAll_71 rfl (lv_at hl 4 rfl) ?_
          refine r_get X w CL6 2 (by decide) wf_X6_19 0 rfl rfl dX6_putAll_72 ?_
          refine lv_iload_n hx hb dX6_putAll_75 rfl (lv_at hl 1 rfl) ?_
          refine lv_aload_n hx hb dX6_putAll_76 rfl (lv_at hl 4 rfl) ?_
          refine r_get X w CL6 4 (by decide) wf_X6_32 0 rfl rfl dX6_putAll_77 ?_
          refine lv_iload_n hx hb dX6_putAll_80 rfl (lv_at hl 2 rfl) ?_
          refine r_ci w (r_runV (As := [.int (nI k)]) (rest := [.int (fX0_cellOfBall ((fX0_read t).2) (nI k)), .ref (ra 0)]) X w (kX0_valueOfBall l E xa ((fX0_read t).2) (nI k) ) ck_X6_75 ⟨Nat.le_of_ble_eq_true rfl, Nat.le_of_ble_eq_true rfl⟩ [57, 58, 59, 60] (hc_68 (E := E)) (by decide +kernel) (k0 := 0) CL0 rfl hl.1 (Nat.le_of_ble_eq_true rfl) rfl dX6_putAll_81 ⟨Nat.le_of_ble_eq_true rfl, Nat.le_of_ble_eq_true rfl⟩) (wHb h (sa 0) p1 (ra 0) (ya 0) (xa 0) p5 hs ++ (wSt E sa σ ++ (wSt E ra σ1 ++ (wHs E ya hh n o η ++ wTx E xa ((fX0_read t).2))))) [57, 58, 59, 60] (hc_68 (E := E)) (by decide +kernel) (ha_68 (E := E)) (hw_68 (E := E)) (fun H locs w => ?_)
          refine r_ci w (r_runV (As := [.int (fX0_cellOfBall ((fX0_read t).2) (nI k)), .int (fX0_valueOfBall ((fX0_read t).2) (nI k))]) (rest := []) X w (kX4_addBall l E ra σ1 (fX0_cellOfBall ((fX0_read t).2) (nI k)) (fX0_valueOfBall ((fX0_read t).2) (nI k)) ) ck_X6_57 ⟨Nat.le_of_ble_eq_true rfl, Nat.le_of_ble_eq_true rfl⟩ [10, 11, 12, 13, 14, 15, 16, 17, 18] (hc_72 (E := E)) (by decide +kernel) (k0 := 0) CL4 rfl hl.1 (Nat.le_of_ble_eq_true rfl) rfl dX6_putAll_84 ⟨Nat.le_of_ble_eq_true rfl, Nat.le_of_ble_eq_true rfl⟩) (wHb h (sa 0) p1 (ra 0) (ya 0) (xa 0) p5 hs ++ (wSt E sa σ ++ (wSt E ra ((fX4_addBall σ1 (fX0_cellOfBall ((fX0_read t).2) (nI k)) (fX0_valueOfBall ((fX0_read t).2) (nI k))).2) ++ (wHs E ya hh n o η ++ wTx E xa ((fX0_read t).2))))) [10, 11, 12, 13, 14, 15, 16, 17, 18] (hc_72 (E := E)) (by decide +kernel) (ha_72 (E := E)) (hw_72 (E := E)) (fun H locs w => ?_)
          refine lv_pop hx hb dX6_putAll_87 rfl ?_
          refine lv_iinc (v := (nI k) + 1) (lv' := [(2, .int ((nI k) + 1)), (4, .int (fX4_refusalToAdd σ1 (fX0_cellOfBall ((fX0_read t).2) (nI k)))), (3, .int (fX0_cellOfBall ((fX0_read t).2) (nI k))), (1, .int ((fX0_read t).1)), (0, .ref h)]) hx hb dX6_putAll_88 hl (k := 2) rfl (by first | rfl | decide) (by decide) rfl (fun ls hl => ?_)
          refine lv_goto (tgt := 31) hx hb dX6_putAll_91 (by decide) ?_
          have e0 : nI k + 1 = nI (k + 1) := nI_1 k
          rw [e0] at hl
          exact ih (k + 1) (by omega) _ (by rw [← hR]; simp only [paN, if_pos c65_4]) _ _ w ls (lv_sub hl [0, 3, 4] rfl)
        · refine lv_iload hx hb dX6_putAll_68 (lv_at hl 0 rfl) ?_
          have hq : fX6_putAll hs σ σr n o η t = ((fX4_refusalToAdd σ1 (fX0_cellOfBall ((fX0_read t).2) (nI k))), σ, σ1, n, o, η, (fX0_read t).2) := by have hq2 := hR; simp only [paN, if_neg c65_4] at hq2; simp only [fX6_putAll, if_pos c10_1, ← hq2, if_neg c65_4, fX4_copyFrom]
          obtain ⟨h0_, h1_, h2_, h3_, h4_, h5_, h6_⟩ := tup7 hq
          rw [h0_, h1_, h2_, h3_, h4_, h5_, h6_]
          exact r_iret X w hr rfl dX6_putAll_70
    exact loop (((fX0_read t).2 3 1).toNatClampNeg) 0 (by omega) _ rfl _ _ w ls (lv_sub hl [0, 1, 2] rfl)
  · refine lv_bipush (v := (-100)) hx hb dX6_putAll_13 (by decide) ?_
    refine lv_iload_n hx hb dX6_putAll_15 rfl (lv_at hl 0 rfl) ?_
    refine lv_isub hx hb dX6_putAll_16 ?_
    have hq : fX6_putAll hs σ σr n o η t = ((-100) - ((fX0_read t).1), σ, σr, n, o, η, (fX0_read t).2) := by simp only [fX6_putAll, if_neg c10_1]
    obtain ⟨h0_, h1_, h2_, h3_, h4_, h5_, h6_⟩ := tup7 hq
    rw [h0_, h1_, h2_, h3_, h4_, h5_, h6_]
    exact r_iret X w hr rfl dX6_putAll_17
abbrev B7 : Type := Int32 × Int32 × Int32 × N2 × N1 × UInt32 × N1
/-- the directions of one ball tried, from j on -/
def bsI (hs : Int32) (σ : N2) (sg sn : Int32) : Nat → Nat → Nat → B7 → B7
  | 0, _, _, s => s
  | n + 1, j, k, s => if fX4_hasBall σ (nI k) = 0 then s else
      if fX4_valueOfBall σ ((fX6_tryShot hs σ s.2.2.2.1 s.2.2.2.2.1 s.2.2.2.2.2.1 s.2.2.2.2.2.2 (nI k) (nI j) sg sn).2.1 6) ≤ s.1 then
        bsI hs σ sg sn n (j + 1) k (s.1, s.2.1, s.2.2.1, fX6_tryShot hs σ s.2.2.2.1 s.2.2.2.2.1 s.2.2.2.2.2.1 s.2.2.2.2.2.2 (nI k) (nI j) sg sn)
      else bsI hs σ sg sn n (j + 1) k (fX4_valueOfBall σ ((fX6_tryShot hs σ s.2.2.2.1 s.2.2.2.2.1 s.2.2.2.2.2.1 s.2.2.2.2.2.2 (nI k) (nI j) sg sn).2.1 6), nI k, nI j, fX6_tryShot hs σ s.2.2.2.1 s.2.2.2.2.1 s.2.2.2.2.2.1 s.2.2.2.2.2.2 (nI k) (nI j) sg sn)
def bsO (hs : Int32) (σ : N2) (sg sn : Int32) : Nat → Nat → B7 → B7
  | 0, _, s => s
  | n + 1, k, s => bsO hs σ sg sn n (k + 1) (bsI hs σ sg sn 6 0 k s)
def fX6_best (hs : Int32) (σ : N2) (σr : N2) (z : N1) (sp : UInt32) (d : N1) (sg sn wt : Int32) : Int32 × N2 × N1 × UInt32 × N1 :=
  if fX6_isForce sg sn = 0 then ((-2), σr, z, sp, d) else if wt < 0 then ((-2), σr, z, sp, d) else if wt ≤ 2 then
    (if wt = 0 then (bsO hs σ sg sn 12 0 (0, (-5), (-5), σr, z, sp, d)).2.1 else if wt = 1 then (bsO hs σ sg sn 12 0 (0, (-5), (-5), σr, z, sp, d)).2.2.1 else if (bsO hs σ sg sn 12 0 (0, (-5), (-5), σr, z, sp, d)).1 ≤ 0 then (-5) else (bsO hs σ sg sn 12 0 (0, (-5), (-5), σr, z, sp, d)).1, (bsO hs σ sg sn 12 0 (0, (-5), (-5), σr, z, sp, d)).2.2.2)
  else ((-2), σr, z, sp, d)
theorem dX6_best_0 : decode cX6_best 0 = .ok (.iload_n 1, 1) := by decide +kernel
theorem dX6_best_1 : decode cX6_best 1 = .ok (.iload_n 2, 1) := by decide +kernel
theorem dX6_best_2 : decode cX6_best 2 = .ok (.invokestatic 232, 3) := by decide +kernel
theorem dX6_best_5 : decode cX6_best 5 = .ok (.ifCond .eq 12, 3) := by decide +kernel
theorem dX6_best_8 : decode cX6_best 8 = .ok (.iload_n 3, 1) := by decide +kernel
theorem dX6_best_9 : decode cX6_best 9 = .ok (.ifCond .lt 8, 3) := by decide +kernel
theorem dX6_best_12 : decode cX6_best 12 = .ok (.iload_n 3, 1) := by decide +kernel
theorem dX6_best_13 : decode cX6_best 13 = .ok (.iconst 2, 1) := by decide +kernel
theorem dX6_best_14 : decode cX6_best 14 = .ok (.if_icmp .le 6, 3) := by decide +kernel
theorem dX6_best_17 : decode cX6_best 17 = .ok (.bipush (-2), 2) := by decide +kernel
theorem dX6_best_19 : decode cX6_best 19 = .ok (.ireturn, 1) := by decide +kernel
theorem dX6_best_20 : decode cX6_best 20 = .ok (.iconst 0, 1) := by decide +kernel
theorem dX6_best_21 : decode cX6_best 21 = .ok (.istore 4, 2) := by decide +kernel
theorem dX6_best_23 : decode cX6_best 23 = .ok (.bipush (-5), 2) := by decide +kernel
theorem dX6_best_25 : decode cX6_best 25 = .ok (.istore 5, 2) := by decide +kernel
theorem dX6_best_27 : decode cX6_best 27 = .ok (.bipush (-5), 2) := by decide +kernel
theorem dX6_best_29 : decode cX6_best 29 = .ok (.istore 6, 2) := by decide +kernel
theorem dX6_best_31 : decode cX6_best 31 = .ok (.iconst 0, 1) := by decide +kernel
theorem dX6_best_32 : decode cX6_best 32 = .ok (.istore 7, 2) := by decide +kernel
theorem dX6_best_34 : decode cX6_best 34 = .ok (.iload 7, 2) := by decide +kernel
theorem dX6_best_36 : decode cX6_best 36 = .ok (.bipush 12, 2) := by decide +kernel
theorem dX6_best_38 : decode cX6_best 38 = .ok (.if_icmp .ge 82, 3) := by decide +kernel
theorem dX6_best_41 : decode cX6_best 41 = .ok (.iconst 0, 1) := by decide +kernel
theorem dX6_best_42 : decode cX6_best 42 = .ok (.istore 8, 2) := by decide +kernel
theorem dX6_best_44 : decode cX6_best 44 = .ok (.iload 8, 2) := by decide +kernel
theorem dX6_best_46 : decode cX6_best 46 = .ok (.bipush 6, 2) := by decide +kernel
theorem dX6_best_48 : decode cX6_best 48 = .ok (.if_icmp .ge 66, 3) := by decide +kernel
theorem dX6_best_51 : decode cX6_best 51 = .ok (.aload_n 0, 1) := by decide +kernel
theorem dX6_best_52 : decode cX6_best 52 = .ok (.getfield 10, 3) := by decide +kernel
theorem dX6_best_55 : decode cX6_best 55 = .ok (.iload 7, 2) := by decide +kernel
theorem dX6_best_57 : decode cX6_best 57 = .ok (.invokevirtual 78, 3) := by decide +kernel
theorem dX6_best_60 : decode cX6_best 60 = .ok (.ifCond .eq 54, 3) := by decide +kernel
theorem dX6_best_63 : decode cX6_best 63 = .ok (.aload_n 0, 1) := by decide +kernel
theorem dX6_best_64 : decode cX6_best 64 = .ok (.iload 7, 2) := by decide +kernel
theorem dX6_best_66 : decode cX6_best 66 = .ok (.iload 8, 2) := by decide +kernel
theorem dX6_best_68 : decode cX6_best 68 = .ok (.iload_n 1, 1) := by decide +kernel
theorem dX6_best_69 : decode cX6_best 69 = .ok (.iload_n 2, 1) := by decide +kernel
theorem dX6_best_70 : decode cX6_best 70 = .ok (.invokevirtual 184, 3) := by decide +kernel
theorem dX6_best_73 : decode cX6_best 73 = .ok (.aload_n 0, 1) := by decide +kernel
theorem dX6_best_74 : decode cX6_best 74 = .ok (.getfield 10, 3) := by decide +kernel
theorem dX6_best_77 : decode cX6_best 77 = .ok (.aload_n 0, 1) := by decide +kernel
theorem dX6_best_78 : decode cX6_best 78 = .ok (.getfield 39, 3) := by decide +kernel
theorem dX6_best_81 : decode cX6_best 81 = .ok (.getfield 120, 3) := by decide +kernel
theorem dX6_best_84 : decode cX6_best 84 = .ok (.invokevirtual 123, 3) := by decide +kernel
theorem dX6_best_87 : decode cX6_best 87 = .ok (.istore 9, 2) := by decide +kernel
theorem dX6_best_89 : decode cX6_best 89 = .ok (.iload 9, 2) := by decide +kernel
theorem dX6_best_91 : decode cX6_best 91 = .ok (.iload 4, 2) := by decide +kernel
theorem dX6_best_93 : decode cX6_best 93 = .ok (.if_icmp .le 15, 3) := by decide +kernel
theorem dX6_best_96 : decode cX6_best 96 = .ok (.iload 9, 2) := by decide +kernel
theorem dX6_best_98 : decode cX6_best 98 = .ok (.istore 4, 2) := by decide +kernel
theorem dX6_best_100 : decode cX6_best 100 = .ok (.iload 7, 2) := by decide +kernel
theorem dX6_best_102 : decode cX6_best 102 = .ok (.istore 5, 2) := by decide +kernel
theorem dX6_best_104 : decode cX6_best 104 = .ok (.iload 8, 2) := by decide +kernel
theorem dX6_best_106 : decode cX6_best 106 = .ok (.istore 6, 2) := by decide +kernel
theorem dX6_best_108 : decode cX6_best 108 = .ok (.iinc 8 1, 3) := by decide +kernel
theorem dX6_best_111 : decode cX6_best 111 = .ok (.goto (-67), 3) := by decide +kernel
theorem dX6_best_114 : decode cX6_best 114 = .ok (.iinc 7 1, 3) := by decide +kernel
theorem dX6_best_117 : decode cX6_best 117 = .ok (.goto (-83), 3) := by decide +kernel
theorem dX6_best_120 : decode cX6_best 120 = .ok (.iload_n 3, 1) := by decide +kernel
theorem dX6_best_121 : decode cX6_best 121 = .ok (.lookupswitch 33 #[(0, 27), (1, 30)], 27) := by decide +kernel
theorem dX6_best_148 : decode cX6_best 148 = .ok (.iload 5, 2) := by decide +kernel
theorem dX6_best_150 : decode cX6_best 150 = .ok (.ireturn, 1) := by decide +kernel
theorem dX6_best_151 : decode cX6_best 151 = .ok (.iload 6, 2) := by decide +kernel
theorem dX6_best_153 : decode cX6_best 153 = .ok (.ireturn, 1) := by decide +kernel
theorem dX6_best_154 : decode cX6_best 154 = .ok (.iload 4, 2) := by decide +kernel
theorem dX6_best_156 : decode cX6_best 156 = .ok (.ifCond .le 8, 3) := by decide +kernel
theorem dX6_best_159 : decode cX6_best 159 = .ok (.iload 4, 2) := by decide +kernel
theorem dX6_best_161 : decode cX6_best 161 = .ok (.goto 5, 3) := by decide +kernel
theorem dX6_best_164 : decode cX6_best 164 = .ok (.bipush (-5), 2) := by decide +kernel
theorem dX6_best_166 : decode cX6_best 166 = .ok (.ireturn, 1) := by decide +kernel
set_option maxHeartbeats 4000000 in
set_option maxRecDepth 100000 in
theorem kX6_best (l : Launch) (E : Ev) (h : Nat) (p1 : Nat) (p3 : Nat) (p4 : Nat) (k : Nat) (hs : Int32) (sa : Nat → Nat) (σ : N2) (ra : Nat → Nat) (σr : N2) (j : Nat) (z : N1) (sp : UInt32) (d : N1) (sg : Int32) (sn : Int32) (wt : Int32) (gs : gset σ) : KQ l yX6_best cX6_best 10 (some .int) 6 143 E [.ref h, .int sg, .int sn, .int wt] (wHb h (sa 0) p1 (ra 0) p3 p4 k hs ++ (wSt E sa σ ++ (wSt E ra σr ++ (wSh k j z sp ++ wWk j d)))) (QI E (wHb h (sa 0) p1 (ra 0) p3 p4 k hs ++ (wSt E sa σ ++ (wSt E ra σr ++ (wSh k j z sp ++ wWk j d)))) (fX6_best hs σ σr z sp d sg sn wt).1 (wHb h (sa 0) p1 (ra 0) p3 p4 k hs ++ (wSt E sa σ ++ (wSt E ra ((fX6_best hs σ σr z sp d sg sn wt).2.1) ++ (wSh k j ((fX6_best hs σ σr z sp d sg sn wt).2.2.1) ((fX6_best hs σ σr z sp d sg sn wt).2.2.2.1) ++ wWk j ((fX6_best hs σ σr z sp d sg sn wt).2.2.2.2)))))) := by
  refine KQ.mk RX6 rfl (by decide +kernel) (Nat.le_of_ble_eq_true rfl) ?_
  intro p e s m below meth c ls X hr w hl
  have hx := X.1
  have hb := X.2.1
  have hl : lv_has ls 10 [(0, .ref h), (1, .int sg), (2, .int sn), (3, .int wt)] := hl
  refine lv_iload_n hx hb dX6_best_0 rfl (lv_at hl 1 rfl) ?_
  refine lv_iload_n hx hb dX6_best_1 rfl (lv_at hl 2 rfl) ?_
  refine r_ci w (r_runS (As := [.int sg, .int sn]) (rest := []) X w (kX6_isForce l E sg sn ) ck_X6_232 ⟨Nat.le_of_ble_eq_true rfl, Nat.le_of_ble_eq_true rfl⟩ [] rfl (by decide +kernel) hl.1 (Nat.le_of_ble_eq_true rfl) rfl dX6_best_2 ⟨Nat.le_of_ble_eq_true rfl, Nat.le_of_ble_eq_true rfl⟩) (wHb h (sa 0) p1 (ra 0) p3 p4 k hs ++ (wSt E sa σ ++ (wSt E ra σr ++ (wSh k j z sp ++ wWk j d)))) [] rfl (by decide +kernel) rfl rfl (fun H locs w => ?_)
  refine lv_if_eq (tgt := 17) hx hb dX6_best_5 (by decide) (fun c5_1 => ?_) (fun c5_1 => ?_)
  · refine lv_bipush (v := (-2)) hx hb dX6_best_17 (by decide) ?_
    have hq : fX6_best hs σ σr z sp d sg sn wt = ((-2), σr, z, sp, d) := by simp only [fX6_best, if_pos c5_1]
    obtain ⟨h0_, h1_, h2_, h3_, h4_⟩ := tup5 hq
    rw [h0_, h1_, h2_, h3_, h4_]
    exact r_iret X w hr rfl dX6_best_19
  · refine lv_iload_n hx hb dX6_best_8 rfl (lv_at hl 3 rfl) ?_
    refine lv_if_lt (tgt := 17) hx hb dX6_best_9 (by decide) (fun c9_2 => ?_) (fun c9_2 => ?_)
    · refine lv_bipush (v := (-2)) hx hb dX6_best_17 (by decide) ?_
      have hq : fX6_best hs σ σr z sp d sg sn wt = ((-2), σr, z, sp, d) := by simp only [fX6_best, if_neg c5_1, if_pos c9_2]
      obtain ⟨h0_, h1_, h2_, h3_, h4_⟩ := tup5 hq
      rw [h0_, h1_, h2_, h3_, h4_]
      exact r_iret X w hr rfl dX6_best_19
    · refine lv_iload_n hx hb dX6_best_12 rfl (lv_at hl 3 rfl) ?_
      refine lv_iconst (v := 2) hx hb dX6_best_13 (by decide) ?_
      refine lv_icmp_le (tgt := 20) hx hb dX6_best_14 (by decide) (fun c14_3 => ?_) (fun c14_3 => ?_)
      · refine lv_iconst (v := 0) hx hb dX6_best_20 (by decide) ?_
        refine lv_istore (lv' := [(4, .int 0), (0, .ref h), (1, .int sg), (2, .int sn), (3, .int wt)]) hx hb dX6_best_21 hl (by decide) rfl (fun ls hl => ?_)
        refine lv_bipush (v := (-5)) hx hb dX6_best_23 (by decide) ?_
        refine lv_istore (lv' := [(5, .int (-5)), (4, .int 0), (0, .ref h), (1, .int sg), (2, .int sn), (3, .int wt)]) hx hb dX6_best_25 hl (by decide) rfl (fun ls hl => ?_)
        refine lv_bipush (v := (-5)) hx hb dX6_best_27 (by decide) ?_
        refine lv_istore (lv' := [(6, .int (-5)), (5, .int (-5)), (4, .int 0), (0, .ref h), (1, .int sg), (2, .int sn), (3, .int wt)]) hx hb dX6_best_29 hl (by decide) rfl (fun ls hl => ?_)
        refine lv_iconst (v := 0) hx hb dX6_best_31 (by decide) ?_
        refine lv_istore (lv' := [(7, .int 0), (6, .int (-5)), (5, .int (-5)), (4, .int 0), (0, .ref h), (1, .int sg), (2, .int sn), (3, .int wt)]) hx hb dX6_best_32 hl (by decide) rfl (fun ls hl => ?_)
        have loop : ∀ (n i1 : Nat), i1 + n = 12 → ∀ (m1 b1 e1 : Int32) (σr1 : N2) (z1 : N1) (sp1 : UInt32) (d1 : N1), bsO hs σ sg sn n i1 (m1, b1, e1, σr1, z1, sp1, d1) = bsO hs σ sg sn 12 0 (0, (-5), (-5), σr, z, sp, d) → ∀ (H : Heap) (locs : List Loc), Wd E (hB (wHb h (sa 0) p1 (ra 0) p3 p4 k hs ++ (wSt E sa σ ++ (wSt E ra σr ++ (wSh k j z sp ++ wWk j d))))) s (wHb h (sa 0) p1 (ra 0) p3 p4 k hs ++ (wSt E sa σ ++ (wSt E ra σr1 ++ (wSh k j z1 sp1 ++ wWk j d1)))) H locs → ∀ (ls : Array Slot), lv_has ls 10 [(7, .int (nI i1)), (6, .int e1), (5, .int b1), (4, .int m1), (0, .ref h), (1, .int sg), (2, .int sn), (3, .int wt)] → W p l e { frames := 6, cells := 0, slots := 0, locals := 143 } s m (([.ref h, .int sg, .int sn, .int wt] : List Value)).toArray below meth c H locs 0 0 (MQ below (QI E (wHb h (sa 0) p1 (ra 0) p3 p4 k hs ++ (wSt E sa σ ++ (wSt E ra σr ++ (wSh k j z sp ++ wWk j d)))) (fX6_best hs σ σr z sp d sg sn wt).1 (wHb h (sa 0) p1 (ra 0) p3 p4 k hs ++ (wSt E sa σ ++ (wSt E ra ((fX6_best hs σ σr z sp d sg sn wt).2.1) ++ (wSh k j ((fX6_best hs σ σr z sp d sg sn wt).2.2.1) ((fX6_best hs σ σr z sp d sg sn wt).2.2.2.1) ++ wWk j ((fX6_best hs σ σr z sp d sg sn wt).2.2.2.2)))))) (([.ref h, .int sg, .int sn, .int wt] : List Value)).toArray s 0 0 (hB (wHb h (sa 0) p1 (ra 0) p3 p4 k hs ++ (wSt E sa σ ++ (wSt E ra σr ++ (wSh k j z sp ++ wWk j d)))))) (F0 m 34 ls []) := by
          intro n
          induction n with
          | zero =>
            intro i1 hk_i1 m1 b1 e1 σr1 z1 sp1 d1 hR H locs w ls hl
            obtain rfl : i1 = 12 := by omega
            refine lv_iload hx hb dX6_best_34 (lv_at hl 0 rfl) ?_
            refine lv_bipush (v := 12) hx hb dX6_best_36 (by decide) ?_
            refine lv_icmp_ge (tgt := 120) hx hb dX6_best_38 (by decide) (fun _ => ?_) (fun h => absurd (by decide : (12 : Int32) ≤ nI 12) h)
            refine lv_iload_n hx hb dX6_best_120 rfl (lv_at hl 7 rfl) ?_
            by_cases c121_5 : wt = 0
            · refine lv_lookup (off := 27) (tgt := 148) hx hb dX6_best_121 (by decide) (by show Op.lookupswitch.offset [(0, 27), (1, 30)] _ _ = _; rw [c121_5]; rfl) (by decide) ?_
              refine lv_iload hx hb dX6_best_148 (lv_at hl 2 rfl) ?_
              have hq : fX6_best hs σ σr z sp d sg sn wt = (b1, σr1, z1, sp1, d1) := by have hq2 : ((m1, b1, e1, σr1, z1, sp1, d1) : B7) = bsO hs σ sg sn 12 0 (0, (-5), (-5), σr, z, sp, d) := hR; simp only [fX6_best, ← hq2, if_neg c5_1, if_neg c9_2, if_pos c14_3, if_pos c121_5]
              obtain ⟨h0_, h1_, h2_, h3_, h4_⟩ := tup5 hq
              rw [h0_, h1_, h2_, h3_, h4_]
              exact r_iret X w hr rfl dX6_best_150
            · by_cases c121_6 : wt = 1
              · refine lv_lookup (off := 30) (tgt := 151) hx hb dX6_best_121 (by decide) (by show Op.lookupswitch.offset [(0, 27), (1, 30)] _ _ = _; rw [lv_osw (a := 0) c121_5 rfl, c121_6]; rfl) (by decide) ?_
                refine lv_iload hx hb dX6_best_151 (lv_at hl 1 rfl) ?_
                have hq : fX6_best hs σ σr z sp d sg sn wt = (e1, σr1, z1, sp1, d1) := by have hq2 : ((m1, b1, e1, σr1, z1, sp1, d1) : B7) = bsO hs σ sg sn 12 0 (0, (-5), (-5), σr, z, sp, d) := hR; simp only [fX6_best, ← hq2, if_neg c5_1, if_neg c9_2, if_pos c14_3, if_neg c121_5, if_pos c121_6]
                obtain ⟨h0_, h1_, h2_, h3_, h4_⟩ := tup5 hq
                rw [h0_, h1_, h2_, h3_, h4_]
                exact r_iret X w hr rfl dX6_best_153
              · refine lv_lookup (off := 33) (tgt := 154) hx hb dX6_best_121 (by decide) (by show Op.lookupswitch.offset [(0, 27), (1, 30)] _ _ = _; rw [lv_osw (a := 0) c121_5 rfl, lv_osw (a := 1) c121_6 rfl]; rfl) (by decide) ?_
                refine lv_iload hx hb dX6_best_154 (lv_at hl 3 rfl) ?_
                refine lv_if_le (tgt := 164) hx hb dX6_best_156 (by decide) (fun c156_7 => ?_) (fun c156_7 => ?_)
                · refine lv_bipush (v := (-5)) hx hb dX6_best_164 (by decide) ?_
                  have hq : fX6_best hs σ σr z sp d sg sn wt = ((-5), σr1, z1, sp1, d1) := by have hq2 : ((m1, b1, e1, σr1, z1, sp1, d1) : B7) = bsO hs σ sg sn 12 0 (0, (-5), (-5), σr, z, sp, d) := hR; simp only [fX6_best, ← hq2, if_neg c5_1, if_neg c9_2, if_pos c14_3, if_neg c121_5, if_neg c121_6, if_pos c156_7]
                  obtain ⟨h0_, h1_, h2_, h3_, h4_⟩ := tup5 hq
                  rw [h0_, h1_, h2_, h3_, h4_]
                  exact r_iret X w hr rfl dX6_best_166
                · refine lv_iload hx hb dX6_best_159 (lv_at hl 3 rfl) ?_
                  refine lv_goto (tgt := 166) hx hb dX6_best_161 (by decide) ?_
                  have hq : fX6_best hs σ σr z sp d sg sn wt = (m1, σr1, z1, sp1, d1) := by have hq2 : ((m1, b1, e1, σr1, z1, sp1, d1) : B7) = bsO hs σ sg sn 12 0 (0, (-5), (-5), σr, z, sp, d) := hR; simp only [fX6_best, ← hq2, if_neg c5_1, if_neg c9_2, if_pos c14_3, if_neg c121_5, if_neg c121_6, if_neg c156_7]
                  obtain ⟨h0_, h1_, h2_, h3_, h4_⟩ := tup5 hq
                  rw [h0_, h1_, h2_, h3_, h4_]
                  exact r_iret X w hr rfl dX6_best_166
          | succ n ih =>
            intro i1 hk_i1 m1 b1 e1 σr1 z1 sp1 d1 hR H locs w ls hl
            have hkN : i1 < 12 := by omega
            refine lv_iload hx hb dX6_best_34 (lv_at hl 0 rfl) ?_
            refine lv_bipush (v := 12) hx hb dX6_best_36 (by decide) ?_
            refine lv_icmp_ge (tgt := 120) hx hb dX6_best_38 (by decide) (fun h => absurd h (nI_ge (b := 12) hkN (by decide))) (fun _ => ?_)
            refine lv_iconst (v := 0) hx hb dX6_best_41 (by decide) ?_
            refine lv_istore (lv' := [(8, .int 0), (7, .int (nI i1)), (6, .int e1), (5, .int b1), (4, .int m1), (0, .ref h), (1, .int sg), (2, .int sn), (3, .int wt)]) hx hb dX6_best_42 hl (by decide) rfl (fun ls hl => ?_)
            have loop2 : ∀ (n2 j1 : Nat), j1 + n2 = 6 → ∀ (m2 b2 e2 : Int32) (σr2 : N2) (z2 : N1) (sp2 : UInt32) (d2 : N1), bsO hs σ sg sn n (i1 + 1) (bsI hs σ sg sn n2 j1 i1 (m2, b2, e2, σr2, z2, sp2, d2)) = bsO hs σ sg sn 12 0 (0, (-5), (-5), σr, z, sp, d) → ∀ (H : Heap) (locs : List Loc), Wd E (hB (wHb h (sa 0) p1 (ra 0) p3 p4 k hs ++ (wSt E sa σ ++ (wSt E ra σr ++ (wSh k j z sp ++ wWk j d))))) s (wHb h (sa 0) p1 (ra 0) p3 p4 k hs ++ (wSt E sa σ ++ (wSt E ra σr2 ++ (wSh k j z2 sp2 ++ wWk j d2)))) H locs → ∀ (ls : Array Slot), lv_has ls 10 [(8, .int (nI j1)), (7, .int (nI i1)), (6, .int e2), (5, .int b2), (4, .int m2), (0, .ref h), (1, .int sg), (2, .int sn), (3, .int wt)] → W p l e { frames := 6, cells := 0, slots := 0, locals := 143 } s m (([.ref h, .int sg, .int sn, .int wt] : List Value)).toArray below meth c H locs 0 0 (MQ below (QI E (wHb h (sa 0) p1 (ra 0) p3 p4 k hs ++ (wSt E sa σ ++ (wSt E ra σr ++ (wSh k j z sp ++ wWk j d)))) (fX6_best hs σ σr z sp d sg sn wt).1 (wHb h (sa 0) p1 (ra 0) p3 p4 k hs ++ (wSt E sa σ ++ (wSt E ra ((fX6_best hs σ σr z sp d sg sn wt).2.1) ++ (wSh k j ((fX6_best hs σ σr z sp d sg sn wt).2.2.1) ((fX6_best hs σ σr z sp d sg sn wt).2.2.2.1) ++ wWk j ((fX6_best hs σ σr z sp d sg sn wt).2.2.2.2)))))) (([.ref h, .int sg, .int sn, .int wt] : List Value)).toArray s 0 0 (hB (wHb h (sa 0) p1 (ra 0) p3 p4 k hs ++ (wSt E sa σ ++ (wSt E ra σr ++ (wSh k j z sp ++ wWk j d)))))) (F0 m 44 ls []) := by
              intro n2
              induction n2 with
              | zero =>
                intro j1 hk_j1 m2 b2 e2 σr2 z2 sp2 d2 hR2 H locs w ls hl
                obtain rfl : j1 = 6 := by omega
                refine lv_iload hx hb dX6_best_44 (lv_at hl 0 rfl) ?_
                refine lv_bipush (v := 6) hx hb dX6_best_46 (by decide) ?_
                refine lv_icmp_ge (tgt := 114) hx hb dX6_best_48 (by decide) (fun _ => ?_) (fun h => absurd (by decide : (6 : Int32) ≤ nI 6) h)
                refine lv_iinc (v := (nI i1) + 1) (lv' := [(7, .int ((nI i1) + 1)), (8, .int (nI 6)), (6, .int e2), (5, .int b2), (4, .int m2), (0, .ref h), (1, .int sg), (2, .int sn), (3, .int wt)]) hx hb dX6_best_114 hl (k := 1) rfl (by first | rfl | decide) (by decide) rfl (fun ls hl => ?_)
                refine lv_goto (tgt := 34) hx hb dX6_best_117 (by decide) ?_
                have e0 : nI i1 + 1 = nI (i1 + 1) := nI_1 i1
                rw [e0] at hl
                exact ih (i1 + 1) (by omega) _ _ _ _ _ _ _ (by rw [← hR2]; simp only [bsI]) _ _ w ls (lv_sub hl [0, 2, 3, 4, 5, 6, 7, 8] rfl)
              | succ n2 ih2 =>
                intro j1 hk_j1 m2 b2 e2 σr2 z2 sp2 d2 hR2 H locs w ls hl
                have hkNn2 : j1 < 6 := by omega
                refine lv_iload hx hb dX6_best_44 (lv_at hl 0 rfl) ?_
                refine lv_bipush (v := 6) hx hb dX6_best_46 (by decide) ?_
                refine lv_icmp_ge (tgt := 114) hx hb dX6_best_48 (by decide) (fun h => absurd h (nI_ge (b := 6) hkNn2 (by decide))) (fun _ => ?_)
                refine lv_aload_n hx hb dX6_best_51 rfl (lv_at hl 5 rfl) ?_
                refine r_get X w CL6 0 (by decide) wf_X6_10 0 rfl rfl dX6_best_52 ?_
                refine lv_iload hx hb dX6_best_55 (lv_at hl 1 rfl) ?_
                refine r_ci w (r_runV (As := [.int (nI i1)]) (rest := []) X w (kX4_hasBall l E sa σ (nI i1) ) ck_X6_78 ⟨Nat.le_of_ble_eq_true rfl, Nat.le_of_ble_eq_true rfl⟩ [1, 2, 3, 4, 5, 6, 7, 8, 9] (hc_60 (E := E)) (by decide +kernel) (k0 := 0) CL4 rfl hl.1 (Nat.le_of_ble_eq_true rfl) rfl dX6_best_57 ⟨Nat.le_of_ble_eq_true rfl, Nat.le_of_ble_eq_true rfl⟩) (wHb h (sa 0) p1 (ra 0) p3 p4 k hs ++ (wSt E sa σ ++ (wSt E ra σr2 ++ (wSh k j z2 sp2 ++ wWk j d2)))) [1, 2, 3, 4, 5, 6, 7, 8, 9] (hc_60 (E := E)) (by decide +kernel) (ha_60 (E := E)) (hw_60 (E := E)) (fun H locs w => ?_)
                refine lv_if_eq (tgt := 114) hx hb dX6_best_60 (by decide) (fun c60_11 => ?_) (fun c60_11 => ?_)
                · refine lv_iinc (v := (nI i1) + 1) (lv' := [(7, .int ((nI i1) + 1)), (8, .int (nI j1)), (6, .int e2), (5, .int b2), (4, .int m2), (0, .ref h), (1, .int sg), (2, .int sn), (3, .int wt)]) hx hb dX6_best_114 hl (k := 1) rfl (by first | rfl | decide) (by decide) rfl (fun ls hl => ?_)
                  refine lv_goto (tgt := 34) hx hb dX6_best_117 (by decide) ?_
                  have e0 : nI i1 + 1 = nI (i1 + 1) := nI_1 i1
                  rw [e0] at hl
                  exact ih (i1 + 1) (by omega) _ _ _ _ _ _ _ (by rw [← hR2]; simp only [bsI, if_pos c60_11]) _ _ w ls (lv_sub hl [0, 2, 3, 4, 5, 6, 7, 8] rfl)
                · refine lv_aload_n hx hb dX6_best_63 rfl (lv_at hl 5 rfl) ?_
                  refine lv_iload hx hb dX6_best_64 (lv_at hl 1 rfl) ?_
                  refine lv_iload hx hb dX6_best_66 (lv_at hl 0 rfl) ?_
                  refine lv_iload_n hx hb dX6_best_68 rfl (lv_at hl 6 rfl) ?_
                  refine lv_iload_n hx hb dX6_best_69 rfl (lv_at hl 7 rfl) ?_
                  refine r_cv w (r_runV (As := [.int (nI i1), .int (nI j1), .int sg, .int sn]) (rest := []) X w (kX6_tryShot l E h p1 p3 p4 k hs sa σ ra σr2 j z2 sp2 d2 (nI i1) (nI j1) sg sn gs (fo_ok c5_1)) ck_X6_184 ⟨Nat.le_of_ble_eq_true rfl, Nat.le_of_ble_eq_true rfl⟩ [0, 1, 2, 3, 4, 5, 6, 7, 8, 9, 10, 11, 12, 13, 14, 15, 16, 17, 18, 19, 20] (hc_61 (E := E)) (by decide +kernel) (k0 := 0) CL6 rfl hl.1 (Nat.le_of_ble_eq_true rfl) rfl dX6_best_70 ⟨Nat.le_of_ble_eq_true rfl, Nat.le_of_ble_eq_true rfl⟩) (wHb h (sa 0) p1 (ra 0) p3 p4 k hs ++ (wSt E sa σ ++ (wSt E ra ((fX6_tryShot hs σ σr2 z2 sp2 d2 (nI i1) (nI j1) sg sn).1) ++ (wSh k j ((fX6_tryShot hs σ σr2 z2 sp2 d2 (nI i1) (nI j1) sg sn).2.1) ((fX6_tryShot hs σ σr2 z2 sp2 d2 (nI i1) (nI j1) sg sn).2.2.1) ++ wWk j ((fX6_tryShot hs σ σr2 z2 sp2 d2 (nI i1) (nI j1) sg sn).2.2.2))))) [0, 1, 2, 3, 4, 5, 6, 7, 8, 9, 10, 11, 12, 13, 14, 15, 16, 17, 18, 19, 20] (hc_61 (E := E)) (by decide +kernel) (ha_61 (E := E)) (hw_61 (E := E)) (fun H locs w => ?_)
                  refine lv_aload_n hx hb dX6_best_73 rfl (lv_at hl 5 rfl) ?_
                  refine r_get X w CL6 0 (by decide) wf_X6_10 0 rfl rfl dX6_best_74 ?_
                  refine lv_aload_n hx hb dX6_best_77 rfl (lv_at hl 5 rfl) ?_
                  refine r_get X w CL6 5 (by decide) wf_X6_39 0 rfl rfl dX6_best_78 ?_
                  refine r_getN X w CL3 8 (by decide) nl_1 19 rfl rfl dX6_best_81 ?_
                  refine r_ci w (r_runV (As := [.int (((fX6_tryShot hs σ σr2 z2 sp2 d2 (nI i1) (nI j1) sg sn).2.1) 6)]) (rest := []) X w (kX4_valueOfBall l E sa σ (((fX6_tryShot hs σ σr2 z2 sp2 d2 (nI i1) (nI j1) sg sn).2.1) 6) ) ck_X6_123 ⟨Nat.le_of_ble_eq_true rfl, Nat.le_of_ble_eq_true rfl⟩ [1, 2, 3, 4, 5, 6, 7, 8, 9] (hc_60 (E := E)) (by decide +kernel) (k0 := 0) CL4 rfl hl.1 (Nat.le_of_ble_eq_true rfl) rfl dX6_best_84 ⟨Nat.le_of_ble_eq_true rfl, Nat.le_of_ble_eq_true rfl⟩) (wHb h (sa 0) p1 (ra 0) p3 p4 k hs ++ (wSt E sa σ ++ (wSt E ra ((fX6_tryShot hs σ σr2 z2 sp2 d2 (nI i1) (nI j1) sg sn).1) ++ (wSh k j ((fX6_tryShot hs σ σr2 z2 sp2 d2 (nI i1) (nI j1) sg sn).2.1) ((fX6_tryShot hs σ σr2 z2 sp2 d2 (nI i1) (nI j1) sg sn).2.2.1) ++ wWk j ((fX6_tryShot hs σ σr2 z2 sp2 d2 (nI i1) (nI j1) sg sn).2.2.2))))) [1, 2, 3, 4, 5, 6, 7, 8, 9] (hc_60 (E := E)) (by decide +kernel) (ha_60 (E := E)) (hw_60 (E := E)) (fun H locs w => ?_)
                  refine lv_istore (lv' := [(9, .int (fX4_valueOfBall σ (((fX6_tryShot hs σ σr2 z2 sp2 d2 (nI i1) (nI j1) sg sn).2.1) 6))), (8, .int (nI j1)), (7, .int (nI i1)), (6, .int e2), (5, .int b2), (4, .int m2), (0, .ref h), (1, .int sg), (2, .int sn), (3, .int wt)]) hx hb dX6_best_87 hl (by decide) rfl (fun ls hl => ?_)
                  refine lv_iload hx hb dX6_best_89 (lv_at hl 0 rfl) ?_
                  refine lv_iload hx hb dX6_best_91 (lv_at hl 5 rfl) ?_
                  refine lv_icmp_le (tgt := 108) hx hb dX6_best_93 (by decide) (fun c93_12 => ?_) (fun c93_12 => ?_)
                  · refine lv_iinc (v := (nI j1) + 1) (lv' := [(8, .int ((nI j1) + 1)), (9, .int (fX4_valueOfBall σ (((fX6_tryShot hs σ σr2 z2 sp2 d2 (nI i1) (nI j1) sg sn).2.1) 6))), (7, .int (nI i1)), (6, .int e2), (5, .int b2), (4, .int m2), (0, .ref h), (1, .int sg), (2, .int sn), (3, .int wt)]) hx hb dX6_best_108 hl (k := 1) rfl (by first | rfl | decide) (by decide) rfl (fun ls hl => ?_)
                    refine lv_goto (tgt := 44) hx hb dX6_best_111 (by decide) ?_
                    have e0 : nI j1 + 1 = nI (j1 + 1) := nI_1 j1
                    rw [e0] at hl
                    exact ih2 (j1 + 1) (by omega) _ _ _ _ _ _ _ (by rw [← hR2]; simp only [bsI, if_neg c60_11, if_pos c93_12]) _ _ w ls (lv_sub hl [0, 2, 3, 4, 5, 6, 7, 8, 9] rfl)
                  · refine lv_iload hx hb dX6_best_96 (lv_at hl 0 rfl) ?_
                    refine lv_istore (lv' := [(4, .int (fX4_valueOfBall σ (((fX6_tryShot hs σ σr2 z2 sp2 d2 (nI i1) (nI j1) sg sn).2.1) 6))), (9, .int (fX4_valueOfBall σ (((fX6_tryShot hs σ σr2 z2 sp2 d2 (nI i1) (nI j1) sg sn).2.1) 6))), (8, .int (nI j1)), (7, .int (nI i1)), (6, .int e2), (5, .int b2), (0, .ref h), (1, .int sg), (2, .int sn), (3, .int wt)]) hx hb dX6_best_98 hl (by decide) rfl (fun ls hl => ?_)
                    refine lv_iload hx hb dX6_best_100 (lv_at hl 3 rfl) ?_
                    refine lv_istore (lv' := [(5, .int (nI i1)), (4, .int (fX4_valueOfBall σ (((fX6_tryShot hs σ σr2 z2 sp2 d2 (nI i1) (nI j1) sg sn).2.1) 6))), (9, .int (fX4_valueOfBall σ (((fX6_tryShot hs σ σr2 z2 sp2 d2 (nI i1) (nI j1) sg sn).2.1) 6))), (8, .int (nI j1)), (7, .int (nI i1)), (6, .int e2), (0, .ref h), (1, .int sg), (2, .int sn), (3, .int wt)]) hx hb dX6_best_102 hl (by decide) rfl (fun ls hl => ?_)
                    refine lv_iload hx hb dX6_best_104 (lv_at hl 3 rfl) ?_
                    refine lv_istore (lv' := [(6, .int (nI j1)), (5, .int (nI i1)), (4, .int (fX4_valueOfBall σ (((fX6_tryShot hs σ σr2 z2 sp2 d2 (nI i1) (nI j1) sg sn).2.1) 6))), (9, .int (fX4_valueOfBall σ (((fX6_tryShot hs σ σr2 z2 sp2 d2 (nI i1) (nI j1) sg sn).2.1) 6))), (8, .int (nI j1)), (7, .int (nI i1)), (0, .ref h), (1, .int sg), (2, .int sn), (3, .int wt)]) hx hb dX6_best_106 hl (by decide) rfl (fun ls hl => ?_)
                    refine lv_iinc (v := (nI j1) + 1) (lv' := [(8, .int ((nI j1) + 1)), (6, .int (nI j1)), (5, .int (nI i1)), (4, .int (fX4_valueOfBall σ (((fX6_tryShot hs σ σr2 z2 sp2 d2 (nI i1) (nI j1) sg sn).2.1) 6))), (9, .int (fX4_valueOfBall σ (((fX6_tryShot hs σ σr2 z2 sp2 d2 (nI i1) (nI j1) sg sn).2.1) 6))), (7, .int (nI i1)), (0, .ref h), (1, .int sg), (2, .int sn), (3, .int wt)]) hx hb dX6_best_108 hl (k := 4) rfl (by first | rfl | decide) (by decide) rfl (fun ls hl => ?_)
                    refine lv_goto (tgt := 44) hx hb dX6_best_111 (by decide) ?_
                    have e0 : nI j1 + 1 = nI (j1 + 1) := nI_1 j1
                    rw [e0] at hl
                    exact ih2 (j1 + 1) (by omega) _ _ _ _ _ _ _ (by rw [← hR2]; simp only [bsI, if_neg c60_11, if_neg c93_12]) _ _ w ls (lv_sub hl [0, 5, 1, 2, 3, 6, 7, 8, 9] rfl)
            exact loop2 6 0 (by omega) _ _ _ _ _ _ _ hR _ _ w ls (lv_sub hl [0, 1, 2, 3, 4, 5, 6, 7, 8] rfl)
        exact loop 12 0 (by omega) _ _ _ _ _ _ _ rfl _ _ w ls (lv_sub hl [0, 1, 2, 3, 4, 5, 6, 7] rfl)
      · refine lv_bipush (v := (-2)) hx hb dX6_best_17 (by decide) ?_
        have hq : fX6_best hs σ σr z sp d sg sn wt = ((-2), σr, z, sp, d) := by simp only [fX6_best, if_neg c5_1, if_neg c9_2, if_neg c14_3]
        obtain ⟨h0_, h1_, h2_, h3_, h4_⟩ := tup5 hq
        rw [h0_, h1_, h2_, h3_, h4_]
        exact r_iret X w hr rfl dX6_best_19
end
section
/-! a row copied up to a place -/
def cpN (f g : N1) (k : Nat) : N1 := fun j => if j < k then f j else g j
theorem cpN_succ (f g : N1) {k : Nat} (h : k < 2 ^ 31) : upd (cpN f g k) (nI k).toNatClampNeg (f (nI k).toNatClampNeg) = cpN f g (k + 1) := by
  rw [nI_clamp h]
  funext j
  unfold upd cpN
  by_cases h1 : j = k
  · subst h1; simp
  · by_cases h2 : j < k
    · rw [if_neg h1, if_pos h2, if_pos (by omega)]
    · rw [if_neg h1, if_neg h2, if_neg (by omega)]
theorem cpN_0 (f g : N1) : cpN f g 0 = g := by funext j; simp [cpN]
end
section
/-! constructors: contracts that make cells, and rows for new objects (wip/whole/gen/pre25.lean) -/
section RN
variable {p : Program} {l : Launch} {e : Env} {R : Room} {s : State} {m : MethodId} {args : Array Value} {below : List Frame} {meth : Method} {c : Code} {H : Heap} {locs : List Loc} {cells slots : Nat} {Q : State → Prop}
variable {cc : ByteArray} {nL : Nat} {own : String} {E : Ev} {A : Nat → Prop} {ws : va_W} {pc : Nat} {ls : Array Slot} {rest : List Value} {a : Nat}
variable {y : MethodName} {bytes : ByteArray} {maxL : Nat} {fr lo ce sl : Nat} {wc : va_W} {index : Nat}
/-- a constructor's end: its cells and the fresh ones are a world with K -/
def QN (E : Ev) (wc : va_W) (sz : Nat) (K : va_W → Prop) : Array Value → State → Outcome → State → Prop := va_Qv (fun (_ : Unit) => True) (fun _ t => ∃ w' : va_W, K w' ∧ va_P E.1 vwCl w' t.heap ∧ va_D (va_A wc sz) w') (va_A wc sz)
def PreN (E : Ev) (wc : va_W) (sz : Nat) (U : State) : Prop := U.heap.size = sz ∧ Pre E wc U ∧ va_AO RX4 U
theorem PreN.blind (av : List Value) (E : Ev) (wc : va_W) (sz : Nat) : FrameBlind (va_Pc av (PreN E wc sz)) := fun a U g mk h => by
  have h2 := Pre.blind av E wc a U g mk ⟨h.1, h.2.2.1⟩
  exact ⟨h2.1, h.2.1, h2.2, va_AO.moved (u := U) (U := U.calling g mk a) (Vm.Alike.refl U.vm) h.2.2.2⟩
def KN (l : Launch) (y : MethodName) (bytes : ByteArray) (maxL : Nat) (fr lo ce sl : Nat) (E : Ev) (av : List Value) (wc : va_W) (K : va_W → Prop) : Prop :=
  ∀ sz : Nat, Met l y (.code y bytes maxL none :: T0) { frames := fr, cells := ce, slots := sl, locals := lo } (va_Pc av (PreN E wc sz)) (QN E wc sz K) ce sl (va_A wc sz)
theorem Stt.grow {E : Ev} {wc : va_W} {U : State} {H : Heap} (h : Stt E (hB wc) U H) : Stt E (va_A wc H.size) U H := by
  intro i q hq
  obtain ⟨⟨cf, kf, fi, f, a, cell, h1, h2, h3, h4, h5, h6, h7, h8⟩, ⟨cl, g1, g2, g3, g4, g5, g6, g7⟩⟩ := h i q hq
  have lt : ∀ {a : Nat} {c : Cell}, H[a]? = some c → a < H.size := fun h => (Array.getElem?_eq_some_iff.mp h).1
  refine ⟨⟨cf, kf, fi, f, a, cell, h1, h2, h3, h4, h5, h6, h7, ?_⟩, ⟨cl, g1, g2, g3, g4, g5, g6, ?_⟩⟩
  · rintro (⟨k, e, hk⟩ | hk)
    · exact h8 ⟨k, e, hk⟩
    · exact absurd (lt h5) (by omega)
  · rintro (⟨k, e, hk⟩ | hk)
    · exact g7 ⟨k, e, hk⟩
    · exact absurd (lt g1) (by omega)
theorem KN.mk {av : List Value} {K : va_W → Prop} (own : String) (hown : y.cls = own) (hy : plainFor y = true) (hlen : (lg_sl av).length ≤ maxL)
    (body : ∀ (p : Program) (e : Env) (s : State) (m : MethodId) (below : List Frame) (meth : Method) (c : Code) (ls : Array Slot), Cx p m meth c bytes maxL s av.toArray own E (va_A wc s.heap.size) → meth.name = y.name → va_AO RX4 s → meth.sig.returnType = none → Wd E (va_A wc s.heap.size) s wc s.heap [] → lv_has ls maxL (lv_args 0 av) →
      W p l e { frames := fr, cells := ce, slots := sl, locals := lo } s m av.toArray below meth c s.heap [] 0 0 (MQ below (QN E wc s.heap.size K) av.toArray s ce sl (va_A wc s.heap.size)) (F0 m 0 ls [])) : KN l y bytes maxL fr lo ce sl E av wc K := by
  intro sz
  refine metW (cc := bytes) (maxL := maxL) (ret := none) hy rfl ?_
  intro p e s m args below meth c s₁ B hml hv
  obtain ⟨rfl, rfl, ⟨hP, hK, hD0, hT, hN⟩, hAO⟩ := hv
  have hts := atoms_spec (ws := .code y bytes maxL none :: T0) B.pre
  have hf := findClass_of_methodNamed B.named
  rw [hown] at hf
  rw [lg_entry_eq]
  exact body p e s m below meth c _ ⟨B.exec, B.bytes, hml, hf, fun w hw => hts w (List.mem_cons_of_mem _ hw), hK, hT.grow, hN, B.notSynchronized⟩ (name_of_methodNamed B.named B.method).1 hAO B.returns ⟨hP, hD0.self, va_S.rf⟩ (lv_entry av hlen)
theorem r_nret {K : va_W → Prop} {w' : va_W} (X : Cx p m meth c cc nL s args own E (va_A wc s.heap.size)) (w : Wd E (va_A wc s.heap.size) s w' H locs) (hr : meth.sig.returnType = none) (hK : K w') (h1 : cells ≤ ce) (h2 : slots ≤ sl) (hdg : decode cc pc = .ok (.return_, 1)) : W p l e R s m args below meth c H locs cells slots (MQ below (QN E wc s.heap.size K) args s ce sl (va_A wc s.heap.size)) (F0 m pc ls []) := by
  refine W.widen (k := ce) (n := sl) h1 h2 ?_
  exact W.vret X.1 X.2.1 hr (fun t ht hW => ⟨⟨(), rfl, trivial, w', hK, by rw [ht]; exact w.1, w.2.1⟩, w.2.2.F ht⟩) w.2.2.2.2 hdg X.2.2.2.2.2.2.2.2
/-- Object.<init> -/
theorem r_obj (X : Cx p m meth c cc nL s args own E A) (hlink : Cond.methodLink own index objectInit ∈ T0) (hsz : ls.size = nL) (hdg : decode cc pc = .ok (.invokespecial index, 3)) (hfr : 1 ≤ R.frames) (hlo : 20 ≤ R.locals)
    (kk : W p l e R s m args below meth c H locs cells slots Q (F0 m (pc + 3) ls [])) : W p l e R s m args below meth c H locs cells slots Q (F0 m pc ls [.ref a]) := by
  refine W.objInit X.1 X.2.1 X.2.2.2.1 (X.2.2.2.2.1 _ hlink) (X.2.2.2.2.1 _ wim_objectInit) (X.2.2.2.2.1 _ wc_objectInit) rfl (hsz.trans X.2.2.1.symm) rfl hdg hfr (by show 2 * 0 + 0 + 12 ≤ _; omega) ?_
  exact W.eq (g2 := F0 m (pc + 3) ls []) rfl kk
theorem r_newa (X : Cx p m meth c cc nL s args own E A) (w : Wd E A s ws H locs) (hA : ∀ q, s.heap.size ≤ q → A q) {n : Int32} {N : Nat} (hn : ¬ n < 0) (hN : n.toNatClampNeg = N) (hby : N * 4 ≤ 536870912) (hc : cells + 1 ≤ R.cells) (hs : slots + N ≤ R.slots) (hdg : decode cc pc = .ok (.newarray .int, 2))
    (kk : ∀ (q : Nat) (H1 : Heap), Wd E A s (ws ++ [(q, .inl (E.2.1.1, N, .inl (fun _ => 0)))]) H1 locs → W p l e R s m args below meth c H1 locs (cells + 1) (slots + N) Q (F0 m (pc + 2) ls (.ref q :: rest))) : W p l e R s m args below meth c H locs cells slots Q (F0 m pc ls (.int n :: rest)) := by
  obtain ⟨hx, hb, hml, hown, hts, hK, hT, hN9, hlk⟩ := X
  refine va_newa (atype := .int) (ty := .int) (a0 := (N, .inl (fun _ => 0))) hx hb (hts _ wac_int) rfl hK w.1 w.2.1 w.2.2 hA (fun cA => rfl) hn hN hby hc hs hdg (fun q cA H1 hK1 h1 h2 h3 => ?_)
  have e1 : s.vm.findClass "[I" = some cA := va_nm_int (hK1.2 3 (cA, .int) rfl).2
  have e2 : s.vm.findClass "[I" = some E.2.1.1 := va_nm_int (hK.2 0 (E.2.1.1, .int) rfl).2
  have e3 : cA = E.2.1.1 := Option.some.inj (e1.symm.trans e2)
  subst e3
  exact kk q H1 ⟨h1, h2, h3⟩
theorem r_newc (X : Cx p m meth c cc nL s args own E A) (w : Wd E A s ws H locs) (hA : ∀ q, s.heap.size ≤ q → A q) {n : Int32} {N : Nat} (hn : ¬ n < 0) (hN : n.toNatClampNeg = N) (hby : N * 2 ≤ 536870912) (hc : cells + 1 ≤ R.cells) (hs : slots + N ≤ R.slots) (hdg : decode cc pc = .ok (.newarray .char, 2))
    (kk : ∀ (q : Nat) (H1 : Heap), Wd E A s (ws ++ [(q, .inl (E.2.1.2.1, N, .inl (fun _ => 0)))]) H1 locs → W p l e R s m args below meth c H1 locs (cells + 1) (slots + N) Q (F0 m (pc + 2) ls (.ref q :: rest))) : W p l e R s m args below meth c H locs cells slots Q (F0 m pc ls (.int n :: rest)) := by
  obtain ⟨hx, hb, hml, hown, hts, hK, hT, hN9, hlk⟩ := X
  refine va_newa (atype := .char) (ty := .char) (a0 := (N, .inl (fun _ => 0))) hx hb (hts _ wac_char) rfl hK w.1 w.2.1 w.2.2 hA (fun cA => rfl) hn hN hby hc hs hdg (fun q cA H1 hK1 h1 h2 h3 => ?_)
  have e1 : s.vm.findClass ("[" ++ FieldType.char.toString) = some cA := (hK1.2 3 (cA, .char) rfl).2
  have e2 : s.vm.findClass ("[" ++ FieldType.char.toString) = some E.2.1.2.1 := (hK.2 1 (E.2.1.2.1, .char) rfl).2
  have e3 : cA = E.2.1.2.1 := Option.some.inj (e1.symm.trans e2)
  subst e3
  exact kk q H1 ⟨h1, h2, h3⟩
theorem r_newq (X : Cx p m meth c cc nL s args own E A) (w : Wd E A s ws H locs) (hA : ∀ q, s.heap.size ≤ q → A q) (hAO : va_AO RX4 s) (hcl : Cond.classLink own index RX4 ∈ T0) {n : Int32} {N : Nat} (hn : ¬ n < 0) (hN : n.toNatClampNeg = N) (hby : N * 4 ≤ 536870912) (hc : cells + 1 ≤ R.cells) (hs : slots + N ≤ R.slots) (hdg : decode cc pc = .ok (.anewarray index, 3))
    (kk : ∀ (q : Nat) (H1 : Heap), Wd E A s (ws ++ [(q, .inl (E.2.1.2.2, N, .inr (.inr (.inr (.inr (fun _ => none))))))]) H1 locs → W p l e R s m args below meth c H1 locs (cells + 1) (slots + N) Q (F0 m (pc + 3) ls (.ref q :: rest))) : W p l e R s m args below meth c H locs cells slots Q (F0 m pc ls (.int n :: rest)) := by
  obtain ⟨hx, hb, hml, hown, hts, hK, hT, hN9, hlk⟩ := X
  refine va_newq hx hb hown (hts _ hcl) hAO hK w.1 w.2.1 w.2.2 hA hn hN hby hc hs hdg (fun q cA H1 hK1 h1 h2 h3 => ?_)
  obtain ⟨-, -, -, -, -, e1⟩ := (hK1.2 3 (cA, .object RX4) rfl).2
  obtain ⟨-, -, -, -, -, e2⟩ := (hK.2 2 (E.2.1.2.2, .object RX4) rfl).2
  have e3 : cA = E.2.1.2.2 := Option.some.inj (e1.symm.trans e2)
  subst e3
  exact kk q H1 ⟨h1, h2, h3⟩
theorem r_putF (X : Cx p m meth c cc nL s args own E A) (w : Wd E A s ws H locs) (ws' : va_W) {ci N : Nat} {C : String} {T : u_T} {ty : Nat → FieldType} (f : CL ci C T N ty) (k : Nat) (hk : k < N) (hlink : Cond.fieldLink own index C (T k).2.1 (T k).2.2.1 ∈ T0) (q0 : Nat) {fs : List Value} (he : ws[q0]? = some (a, .inr (ci, fs))) {v : Value} (hfin : (T k).2.2.2 = true) (hin : meth.name = "<init>") (hdecl : C = own) (hn : narrow (ty k) v = v) (hfit : fits (ty k) v = true) (hl : k < fs.length) (hw : ws.set q0 (a, .inr (ci, fs.set k v)) = ws') (hdg : decode cc pc = .ok (.putfield index, 3))
    (kk : ∀ (H1 : Heap) (locs1 : List Loc), Wd E A s ws' H1 locs1 → W p l e R s m args below meth c H1 locs1 cells slots Q (F0 m (pc + 3) ls rest)) : W p l e R s m args below meth c H locs cells slots Q (F0 m pc ls (v :: .ref a :: rest)) := by
  obtain ⟨hx, hb, hml, hown, hts, hK, hT, hN, hlk⟩ := X
  subst hw
  exact va_putF hx hb hts f.1 ty f.2.2.1 f.2.2.2.1 hown hK w.1 w.2.1 w.2.2 q0 he f.2.1 k hk (hts _ hlink) (by rw [f.2.2.2.2 k hk]; exact fun _ h => h) hfin hin (by rw [f.2.2.2.2 k hk]; exact hdecl) (f.2.2.1 k hk) hn hfit hl hdg (fun H1 locs1 h1 h2 h3 => kk H1 locs1 ⟨h1, h2, h3⟩)
/-- what came back from a constructor, beside the rest -/
theorem Wd.mk2 {w' : va_W} {H1 : Heap} {locs1 : List Loc} (w : Wd E A s (ws ++ wc) H locs) (hA : ∀ q, s.heap.size ≤ q → A q) (hk : ∀ q : Nat, q < H.size → ¬ va_A wc H.size q → H1[q]? = H[q]?) (hP1 : va_P E.1 vwCl w' H1) (hD1 : va_D (va_A wc H.size) w') (hS1 : va_S A s.heap H1 locs1) : Wd E A s (ws ++ w') H1 locs1 := by
  obtain ⟨hP, hD, hS⟩ := w
  have left : ∀ (k : Nat) (q : Nat × va_E), ws[k]? = some q → k < ws.length ∧ (ws ++ wc)[k]? = some q := fun k q h => by
    have hl := (List.getElem?_eq_some_iff.mp h).1
    exact ⟨hl, by rw [List.getElem?_append_left hl]; exact h⟩
  have free : ∀ q, va_A wc H.size q → A q := by
    rintro q (⟨k, e, h⟩ | h)
    · exact hD.2 (ws.length + k) (q, e) (by rw [List.getElem?_append_right (by omega), Nat.add_sub_cancel_left]; exact h)
    · exact hA q (Nat.le_trans hS.1 h)
  have apart : ∀ (k : Nat) (q : Nat × va_E), ws[k]? = some q → ¬ va_A wc H.size q.1 := by
    rintro k q h (⟨j, e, h2⟩ | h2)
    · have h3 := hD.1 k (ws.length + j) q (q.1, e) (left k q h).2 (by rw [List.getElem?_append_right (by omega), Nat.add_sub_cancel_left]; exact h2) rfl
      have := (left k q h).1
      omega
    · exact absurd (hP k q (left k q h).2).lt (by omega)
  refine ⟨va_P.app (fun k q h => ?_) hP1, va_D.app ⟨fun i j x z hi hj h => hD.1 i j x z (left i x hi).2 (left j z hj).2 h, fun k q h => hD.2 k q (left k q h).2⟩ (hD1.weaken (fun k q _ h => free q.1 h)) (fun i j x z hx hz hxz => ?_), hS1⟩
  · exact (hP k q (left k q h).2).kept (hk q.1 (hP k q (left k q h).2).lt (apart k q h))
  · exact apart i x hx (by rw [hxz]; exact hD1.2 j z hz)
def CkI (own : String) (index : Nat) (y : MethodName) (bytes : ByteArray) (maxL : Nat) (n : Nat) : Prop := Cond.methodLink own index y ∈ T0 ∧ Cond.instanceMethod y ∈ T0 ∧ Cond.initialized y.cls ∈ T0 ∧ Cond.code y bytes maxL none ∈ T0 ∧ (y.name = "<init>" ∧ y.cls ≠ "java/lang/invoke/MethodHandle" ∧ y.cls ≠ "java/lang/invoke/VarHandle" ∧ (parseMethodDescriptor y.desc).map (fun d => d.parameters.length) = some n)
def CkIN (own : String) (index : Nat) (y : MethodName) (bytes : ByteArray) (maxL : Nat) (n : Nat) : Prop := Cond.methodLinkNest own index y RX6 ∈ NL ∧ Cond.instanceMethod y ∈ T0 ∧ Cond.initialized y.cls ∈ T0 ∧ Cond.code y bytes maxL none ∈ T0 ∧ (y.name = "<init>" ∧ y.cls ≠ "java/lang/invoke/MethodHandle" ∧ y.cls ≠ "java/lang/invoke/VarHandle" ∧ (parseMethodDescriptor y.desc).map (fun d => d.parameters.length) = some n)
theorem Wd.preN (X : Cx p m meth c cc nL s args own E A) (hAO : va_AO RX4 s) (w : Wd E A s ws H locs) (is : List Nat) (hC : is.map (fun i => ws[i]?) = wc.map some) (hn : va_nd is = true) (U : State) (hU : U.heap = H) (hW : s.WarmedH U.vm) : PreN E wc H.size U := ⟨by rw [hU], w.pre X is hC hn U hU hW, hAO.moved hW.alike⟩
theorem r_runI {b : Nat} {K : va_W → Prop} (X : Cx p m meth c cc nL s args own E A) (hAO : va_AO RX4 s) (w : Wd E A s ws H locs) (hM : KN l y bytes maxL fr lo ce sl E [.ref b] wc K) (ck : CkI own index y bytes maxL 0) (hR : fr + 1 ≤ R.frames ∧ 8 + (maxL + 11) + lo ≤ R.locals) (is : List Nat) (hC : is.map (fun i => ws[i]?) = wc.map some) (hn : va_nd is = true) (hsz : ls.size = nL) (hst : (rest.map fun v => v.category).sum ≤ 8) (hdg : decode cc pc = .ok (.invokespecial index, 3)) (hcs : cells + ce ≤ R.cells ∧ slots + sl ≤ R.slots) :
    va_Run p l e R s m args below meth c H locs cells slots ce sl (F0 m pc ls (.ref b :: rest)) rest (QN E wc H.size K #[.ref b]) (va_A wc H.size) := by
  have hts := X.2.2.2.2.1
  exact va_runI (As := []) ⟨X.1, X.2.1, X.2.2.1, X.2.2.2.1, hts⟩ (hM H.size) (cwI 0 hts (code_good ck.2.2.2.1) rfl rfl rfl (hts _ ck.2.2.1) (hts _ ck.1) (hts _ ck.2.1) ck.2.2.2.2.1 ck.2.2.2.2.2 hR) ⟨PreN.blind _ _ _ _, fun U hU hW => ⟨rfl, w.preN X hAO is hC hn U hU hW⟩⟩ rfl rfl hsz rfl (lv_room hst) hdg hcs
theorem r_runIN {b : Nat} {K : va_W → Prop} (X : Cx p m meth c cc nL s args own E A) (hAO : va_AO RX4 s) (w : Wd E A s ws H locs) (hM : KN l y bytes maxL fr lo ce sl E [.ref b] wc K) (ck : CkIN own index y bytes maxL 0) (hR : fr + 1 ≤ R.frames ∧ 8 + (maxL + 11) + lo ≤ R.locals) (is : List Nat) (hC : is.map (fun i => ws[i]?) = wc.map some) (hn : va_nd is = true) (hsz : ls.size = nL) (hst : (rest.map fun v => v.category).sum ≤ 8) (hdg : decode cc pc = .ok (.invokespecial index, 3)) (hcs : cells + ce ≤ R.cells ∧ slots + sl ≤ R.slots) :
    va_Run p l e R s m args below meth c H locs cells slots ce sl (F0 m pc ls (.ref b :: rest)) rest (QN E wc H.size K #[.ref b]) (va_A wc H.size) := by
  have hts := X.2.2.2.2.1
  have hN := X.2.2.2.2.2.2.2.1
  exact va_runIN (As := []) ⟨X.1, X.2.1, X.2.2.1, X.2.2.2.1, hts⟩ (hM H.size) ⟨va_cnB 0 hts (code_good ck.2.2.2.1) rfl rfl rfl (hN _ ck.1) (hts _ ck.2.2.1) ck.2.2.2.2.2 hR, ck.2.2.2.2.1, hts _ ck.2.1⟩ ⟨PreN.blind _ _ _ _, fun U hU hW => ⟨rfl, w.preN X hAO is hC hn U hU hW⟩⟩ rfl rfl hsz rfl (lv_room hst) hdg hcs
theorem last_at {ws : va_W} {x : Nat × va_E} : [ws.length].map (fun i => (ws ++ [x])[i]?) = [x].map some := by simp
/-- new, dup, <init>: the object's cells stand behind the world -/
theorem r_mk0 {C : String} {T : u_T} {ty : Nat → FieldType} {ci N : Nat} {fs : List Value} {K : Nat → va_W → Prop} (X : Cx p m meth c cc nL s args own E A) (w : Wd E A s ws H locs) (hA : ∀ q, s.heap.size ≤ q → A q) (f : CL ci C T N ty) (hcl : Cond.classLink own index C ∈ T0) (hinst : Cond.instantiable C N ∈ T0) (hini : Cond.initialized C ∈ T0) (hfs : ∀ j, j < N → defaultValue (ty j) = vp_V fs j) (hdn : decode cc pc = .ok (.new index, 3)) (hdd : decode cc (pc + 3) = .ok (.dup, 1)) (hc : cells + 1 + ce ≤ R.cells) (hs : slots + N + sl ≤ R.slots)
    (hrun : ∀ (q : Nat) (H1 : Heap), Wd E A s (ws ++ [(q, .inr (ci, fs))]) H1 locs → va_Run p l e R s m args below meth c H1 locs (cells + 1) (slots + N) ce sl (F0 m (pc + 4) ls (.ref q :: .ref q :: rest)) (.ref q :: rest) (QN E [(q, .inr (ci, fs))] H1.size (K q) #[.ref q]) (va_A [(q, .inr (ci, fs))] H1.size))
    (kk : ∀ (q : Nat) (w' : va_W) (H1 : Heap) (locs1 : List Loc), K q w' → Wd E A s (ws ++ w') H1 locs1 → W p l e R s m args below meth c H1 locs1 (cells + 1 + ce) (slots + N + sl) Q (F0 m (pc + 7) ls (.ref q :: rest))) : W p l e R s m args below meth c H locs cells slots Q (F0 m pc ls rest) := by
  obtain ⟨hx, hb, hml, hown, hts, hK, hT, hN9, hlk⟩ := X
  refine va_new (ci := ci) (fs := fs) (C := C) (T := T) (N := N) hx hb hts f.1 ty f.2.2.1 hown (hts _ hcl) (hts _ hinst) (hts _ hini) hK w.1 w.2.1 w.2.2 hA f.2.1 hfs (by omega) (by omega) hdn (fun q H1 h1 h2 h3 => ?_)
  refine lv_dup hx hb hdd rfl ?_
  have w1 : Wd E A s (ws ++ [(q, .inr (ci, fs))]) H1 locs := ⟨h1, h2, h3⟩
  have hfree := va_free h2 h3 hA [ws.length] (last_at (ws := ws) (x := (q, .inr (ci, fs))))
  refine va_callv (hrun q H1 w1) h3 (fun q _ h => hfree q h) hfree (fun u t H2 locs1 ht hvm hx9 hB hz hk hS => ?_)
  obtain ⟨w', hKw, hP1, hD1⟩ := hB
  rw [ht] at hP1
  exact kk q w' H2 locs1 hKw (w1.mk2 hA hk hP1 hD1 hS)
end RN
end
section
/-! a static row copied into a row of ours (wip/whole/gen/pre26.lean) -/
section RT
variable {p : Program} {l : Launch} {e : Env} {R : Room} {s : State} {m : MethodId} {args : Array Value} {below : List Frame} {meth : Method} {c : Code} {H : Heap} {locs : List Loc} {cells slots : Nat} {Q : State → Prop}
variable {cc : ByteArray} {nL : Nat} {own : String} {E : Ev} {A : Nat → Prop} {ws : va_W} {pc : Nat} {ls : Array Slot} {rest : List Value} {a index : Nat}
theorem clamp_i {z : Int32} (hz : ¬ z < 0) : z.toInt = (z.toNatClampNeg : Int) := by
  rw [Int32.lt_iff_toInt_lt, Int32.toInt_zero] at hz
  rw [Int32.toNatClampNeg]
  omega
theorem r_copyT (X : Cx p m meth c cc nL s args own E A) (w : Wd E A s ws H locs) (ws' : va_W) (hlink : Cond.methodLink own index arraycopyName ∈ T0) (i : Nat) {ref nn : String} {L : List Int32} (hi : sL[i]? = some (ref, nn, L)) (q1 : Nat) {n : Nat} {g : Nat → Int32} (ha1 : ws[q1]? = some (a, .inl (E.2.1.1, n, .inl g))) {k : Int32} (hk : ¬ k < 0) (hkn : k.toNatClampNeg = n) (hL : L.length = n) (hw : ws.set q1 (a, .inl (E.2.1.1, n, .inl (sT i))) = ws') (hsz : ls.size = nL) (hframes : 1 ≤ R.frames) (hlocals : (rest.map fun v => v.category).sum + (nativeFrameWords "java/lang/System" "arraycopy" 5 + 11) ≤ R.locals) (hdg : decode cc pc = .ok (.invokestatic index, 3))
    (kk : ∀ (H1 : Heap) (locs1 : List Loc), Wd E A s ws' H1 locs1 → W p l e R s m args below meth c H1 locs1 cells slots Q (F0 m (pc + 3) ls rest)) : W p l e R s m args below meth c H locs cells slots Q (F0 m pc ls (.int k :: .int 0 :: .ref a :: .int 0 :: .ref (E.2.2 i) :: rest)) := by
  subst hw
  obtain ⟨hx, hb, hml, hown, hts, hK, hT0, hN9, hlk⟩ := X
  obtain ⟨hP, hD, hS⟩ := w
  obtain ⟨src, t1, t2, t3, t4, -, t6, t7⟩ := (hT0 i _ hi).2
  intro T hT X
  have hlt : E.2.2 i < s.heap.size := (Array.getElem?_eq_some_iff.mp t1).1
  have hc0 : H[E.2.2 i]? = some src := by rw [hS.2.1 _ hlt t7]; exact t1
  have hc1 : H[a]? = some (vp_cell E.2.1.1 (n, .inl g)) := hP q1 _ ha1
  obtain ⟨u1, k0, hk0, cm0, hkk0⟩ := t2
  obtain ⟨-, k1, hk1, cm1, hkk1⟩ := (hK.2 0 _ rfl).1 n (fun j => .int (g j))
  have hz : ¬ (0 : Int32) < 0 := by decide
  have e0 : (0 : Int32).toNatClampNeg = 0 := rfl
  have hv : ∀ j : Nat, j < n → src.slots[j]? = some (.int (sT i j)) := fun j hj => t6 j (by rw [hL]; exact hj)
  have hlen : n ≤ src.slots.size := by
    have := t4
    rw [hL] at this
    exact this
  obtain ⟨vm', X', step⟩ := X.arraycopy hx hown (hts _ hlink) (hts _ wnat_arraycopyName) (hts _ wst_arraycopyName) (hts _ wi_java_lang_System) (src := E.2.2 i) (dst := a) (cs := src) (cd := vp_cell E.2.1.1 (n, .inl g)) (srcPos := 0) (destPos := 0) (n := k) (by rw [hT]; exact hc0) (by rw [hT]; exact hc1)
    u1 (fun _ h => by cases h) t3 (fun h => by cases h) hk0 hk1 hkk0 hkk1 (by simp [refKind]) hz hz hk
    (by rw [clamp_i hz, clamp_i hk, hkn, e0]; omega)
    (by rw [clamp_i hz, clamp_i hk, hkn, e0]; show ¬ _ > ((arrV E.2.1.1 n (fun j => .int (g j))).slots.size : Int); rw [arrV_size]; omega)
    (fun vm₁ _ j hj => by
      have e : src.slots.getD ((0 : Int32).toNatClampNeg + j) .null = .int (sT i ((0 : Int32).toNatClampNeg + j)) := by
        rw [Array.getD_eq_getD_getElem?, hv _ (by rw [e0]; rw [hkn] at hj; omega)]
        rfl
      rw [e]
      exact ⟨rfl, trivial⟩)
    (g := F0 m pc ls (.int k :: .int 0 :: .ref a :: .int 0 :: .ref (E.2.2 i) :: rest)) rfl (by rw [hml]; exact hsz) (rest := rest) rfl (by rw [hb]; exact hdg) hframes (by show 2 * 0 + _ + _ ≤ _; omega)
  have e1 : copied src (vp_cell E.2.1.1 (n, .inl g)) 0 0 k = vp_cell E.2.1.1 (n, .inl (va_cpy (sT i) g (0 : Int32).toNatClampNeg (0 : Int32).toNatClampNeg k.toNatClampNeg)) := va_copiedX (fun z => .int z) src E.2.1.1 (sT i) g hv (by rw [e0, hkn]; omega)
  rw [e1] at X' step
  have hl : a < H.size := (Array.getElem?_eq_some_iff.mp hc1).1
  generalize hN : (vp_cell E.2.1.1 (n, .inl (va_cpy (sT i) g (0 : Int32).toNatClampNeg (0 : Int32).toNatClampNeg k.toNatClampNeg))) = nc at X' step
  have hheap : ((T.setVm vm').setCell a nc).heap = H.setIfInBounds a nc := by rw [← hT]; rfl
  have oq : ∀ q : Nat, q ≠ a → (H.setIfInBounds a nc)[q]? = H[q]? := fun q hq => by simp [Array.getElem?_setIfInBounds, Ne.symm hq]
  have at1 : (H.setIfInBounds a nc)[a]? = some (vp_cell E.2.1.1 (n, .inl (va_cpy (sT i) g (0 : Int32).toNatClampNeg (0 : Int32).toNatClampNeg k.toNatClampNeg))) := by rw [hN]; simp [Array.getElem?_setIfInBounds, hl]
  have mk : ∀ L : List Loc, va_S A s.heap (H.setIfInBounds a nc) L → Wd E A s (ws.set q1 (a, .inl (E.2.1.1, n, .inl (sT i)))) (H.setIfInBounds a nc) L := by
    intro L hSL
    have w1 : Wd E A s (ws.set q1 (a, .inl (E.2.1.1, n, .inl (va_cpy (sT i) g (0 : Int32).toNatClampNeg (0 : Int32).toNatClampNeg k.toNatClampNeg)))) (H.setIfInBounds a nc) L := ⟨hP.set hD ha1 at1 oq, hD.set ha1, hSL⟩
    have hq : q1 < ws.length := (List.getElem?_eq_some_iff.mp ha1).1
    have w2 := w1.arr q1 (sT i) (List.getElem?_set_self hq) (fun j hj => by
      show va_cpy (sT i) g 0 0 k.toNatClampNeg j = sT i j
      rw [pk_cpy_in (Nat.zero_le j) (by rw [hkn]; show j < 0 + n; omega)]
      show sT i (0 + (j - 0)) = sT i j
      rw [Nat.zero_add, Nat.sub_zero])
    rw [List.set_set] at w2
    exact w2
  obtain ⟨t, a1, b1⟩ := kk _ _ (mk _ ⟨by simp; exact hS.1, fun q g1 g2 => by
      rw [oq q (fun e => g2 (by rw [e]; exact hD.2 q1 _ ha1))]
      exact hS.2.1 q g1 g2, fun q hq => by
      rcases List.mem_append.mp hq with h | h
      · exact hS.2.2 q h
      · obtain ⟨z, -, hz⟩ := List.mem_map.mp h
        rw [← hz]
        exact hD.2 q1 _ ha1⟩) _ hheap X'
  exact ⟨t, step t a1, b1⟩
end RT

def fJ7_fill12 (f : N1) (x : Int32) : N1 := fun _ => x
theorem dJ7_fill_53178_0 : decode cJ7_fill_53178 0 = .ok (.iconst 0, 1) := by decide +kernel
theorem dJ7_fill_53178_1 : decode cJ7_fill_53178 1 = .ok (.istore_n 2, 1) := by decide +kernel
theorem dJ7_fill_53178_2 : decode cJ7_fill_53178 2 = .ok (.aload_n 0, 1) := by decide +kernel
theorem dJ7_fill_53178_3 : decode cJ7_fill_53178 3 = .ok (.arraylength, 1) := by decide +kernel
theorem dJ7_fill_53178_4 : decode cJ7_fill_53178 4 = .ok (.istore_n 3, 1) := by decide +kernel
theorem dJ7_fill_53178_5 : decode cJ7_fill_53178 5 = .ok (.iload_n 2, 1) := by decide +kernel
theorem dJ7_fill_53178_6 : decode cJ7_fill_53178 6 = .ok (.iload_n 3, 1) := by decide +kernel
theorem dJ7_fill_53178_7 : decode cJ7_fill_53178 7 = .ok (.if_icmp .ge 13, 3) := by decide +kernel
theorem dJ7_fill_53178_10 : decode cJ7_fill_53178 10 = .ok (.aload_n 0, 1) := by decide +kernel
theorem dJ7_fill_53178_11 : decode cJ7_fill_53178 11 = .ok (.iload_n 2, 1) := by decide +kernel
theorem dJ7_fill_53178_12 : decode cJ7_fill_53178 12 = .ok (.iload_n 1, 1) := by decide +kernel
theorem dJ7_fill_53178_13 : decode cJ7_fill_53178 13 = .ok (.iastore, 1) := by decide +kernel
theorem dJ7_fill_53178_14 : decode cJ7_fill_53178 14 = .ok (.iinc 2 1, 3) := by decide +kernel
theorem dJ7_fill_53178_17 : decode cJ7_fill_53178 17 = .ok (.goto (-12), 3) := by decide +kernel
theorem dJ7_fill_53178_20 : decode cJ7_fill_53178 20 = .ok (.return_, 1) := by decide +kernel
theorem ax_73 {E : Ev} {a0 : Nat} {σ0 : N1} {i x : Int32} : (wAr E a0 12 σ0).set 0 (a0, .inl (E.2.1.1, 12, .inl (upd (σ0) i.toNatClampNeg x))) = wAr E a0 12 (upd σ0 i.toNatClampNeg x) := rfl
set_option maxHeartbeats 4000000 in
set_option maxRecDepth 100000 in
theorem kJ7_fill12 (l : Launch) (E : Ev) (a : Nat) (f : N1) (x : Int32) : KQ l yJ7_fill_53178 cJ7_fill_53178 4 none 0 0 E [.ref a, .int x] (wAr E a 12 f) (QV E (wAr E a 12 f) (wAr E a 12 (fJ7_fill12 f x))) := by
  refine KQ.mk RJ7 rfl (by decide +kernel) (Nat.le_of_ble_eq_true rfl) ?_
  intro p e s m below meth c ls X hr w hl
  have hx := X.1
  have hb := X.2.1
  have hl : lv_has ls 4 [(0, .ref a), (1, .int x)] := hl
  refine lv_iconst (v := 0) hx hb dJ7_fill_53178_0 (by decide) ?_
  refine lv_istore_n (lv' := [(2, .int 0), (0, .ref a), (1, .int x)]) hx hb dJ7_fill_53178_1 rfl hl (by decide) rfl (fun ls hl => ?_)
  refine lv_aload_n hx hb dJ7_fill_53178_2 rfl (lv_at hl 1 rfl) ?_
  refine r_alen X w 0 rfl dJ7_fill_53178_3 ?_
  refine lv_istore_n (lv' := [(3, .int (Int32.ofNat 12)), (2, .int 0), (0, .ref a), (1, .int x)]) hx hb dJ7_fill_53178_4 rfl hl (by decide) rfl (fun ls hl => ?_)
  rw [show wAr E a 12 f = wAr E a 12 (cpN (fun _ => x) f 0) by rw [cpN_0]] at w
  have loop : ∀ (n k : Nat), k + n = 12 → ∀ (H : Heap) (locs : List Loc), Wd E (hB (wAr E a 12 f)) s (wAr E a 12 (cpN (fun _ => x) f k)) H locs → ∀ (ls : Array Slot), lv_has ls 4 [(3, .int (Int32.ofNat 12)), (2, .int (nI k)), (0, .ref a), (1, .int x)] → W p l e { frames := 0, cells := 0, slots := 0, locals := 0 } s m (([.ref a, .int x] : List Value)).toArray below meth c H locs 0 0 (MQ below (QV E (wAr E a 12 f) (wAr E a 12 (fJ7_fill12 f x))) (([.ref a, .int x] : List Value)).toArray s 0 0 (hB (wAr E a 12 f))) (F0 m 5 ls []) := by
    intro n
    induction n with
    | zero =>
      intro k hk_k H locs w ls hl
      obtain rfl : k = 12 := by omega
      refine lv_iload_n hx hb dJ7_fill_53178_5 rfl (lv_at hl 1 rfl) ?_
      refine lv_iload_n hx hb dJ7_fill_53178_6 rfl (lv_at hl 0 rfl) ?_
      refine lv_icmp_ge (tgt := 20) hx hb dJ7_fill_53178_7 (by decide) (fun _ => ?_) (fun h => absurd (by decide : Int32.ofNat 12 ≤ nI 12) h)
      have w := w.arr 0 (fun _ => x) rfl (fun q hq => by simp [cpN, hq])
      have hq : fJ7_fill12 f x = ((fun _ => x)) := rfl
      rw [hq]
      exact r_vret X w hr dJ7_fill_53178_20
    | succ n ih =>
      intro k hk_k H locs w ls hl
      have hkN : k < 12 := by omega
      refine lv_iload_n hx hb dJ7_fill_53178_5 rfl (lv_at hl 1 rfl) ?_
      refine lv_iload_n hx hb dJ7_fill_53178_6 rfl (lv_at hl 0 rfl) ?_
      refine lv_icmp_ge (tgt := 20) hx hb dJ7_fill_53178_7 (by decide) (fun h => absurd h (nI_ge (b := 12) hkN (by decide))) (fun _ => ?_)
      refine lv_aload_n hx hb dJ7_fill_53178_10 rfl (lv_at hl 2 rfl) ?_
      refine lv_iload_n hx hb dJ7_fill_53178_11 rfl (lv_at hl 1 rfl) ?_
      refine lv_iload_n hx hb dJ7_fill_53178_12 rfl (lv_at hl 3 rfl) ?_
      refine r_iast X w (wAr E a 12 (upd (cpN (fun _ => x) f k) (nI k).toNatClampNeg x)) 0 rfl (vp_in_nI hkN (by decide)) (ax_73 (E := E)) dJ7_fill_53178_13 (fun H locs w => ?_)
      refine lv_iinc (v := (nI k) + 1) (lv' := [(2, .int ((nI k) + 1)), (3, .int (Int32.ofNat 12)), (0, .ref a), (1, .int x)]) hx hb dJ7_fill_53178_14 hl (k := 1) rfl (by first | rfl | decide) (by decide) rfl (fun ls hl => ?_)
      refine lv_goto (tgt := 5) hx hb dJ7_fill_53178_17 (by decide) ?_
      have e0 : nI k + 1 = nI (k + 1) := nI_1 k
      rw [e0] at hl
      have e1 : upd (cpN (fun _ => x) f k) (nI k).toNatClampNeg x = cpN (fun _ => x) f (k + 1) := cpN_succ (fun _ => x) f (by omega)
      rw [e1] at w
      exact ih (k + 1) (by omega) _ _ w ls (lv_sub hl [1, 0, 2, 3] rfl)
  exact loop 12 0 (by omega) _ _ w ls (lv_sub hl [0, 1, 2, 3] rfl)
def fJ7_fill61 (f : N1) (x : Int32) : N1 := fun _ => x
theorem ax_74 {E : Ev} {a0 : Nat} {σ0 : N1} {i x : Int32} : (wAr E a0 61 σ0).set 0 (a0, .inl (E.2.1.1, 61, .inl (upd (σ0) i.toNatClampNeg x))) = wAr E a0 61 (upd σ0 i.toNatClampNeg x) := rfl
set_option maxHeartbeats 4000000 in
set_option maxRecDepth 100000 in
theorem kJ7_fill61 (l : Launch) (E : Ev) (a : Nat) (f : N1) (x : Int32) : KQ l yJ7_fill_53178 cJ7_fill_53178 4 none 0 0 E [.ref a, .int x] (wAr E a 61 f) (QV E (wAr E a 61 f) (wAr E a 61 (fJ7_fill61 f x))) := by
  refine KQ.mk RJ7 rfl (by decide +kernel) (Nat.le_of_ble_eq_true rfl) ?_
  intro p e s m below meth c ls X hr w hl
  have hx := X.1
  have hb := X.2.1
  have hl : lv_has ls 4 [(0, .ref a), (1, .int x)] := hl
  refine lv_iconst (v := 0) hx hb dJ7_fill_53178_0 (by decide) ?_
  refine lv_istore_n (lv' := [(2, .int 0), (0, .ref a), (1, .int x)]) hx hb dJ7_fill_53178_1 rfl hl (by decide) rfl (fun ls hl => ?_)
  refine lv_aload_n hx hb dJ7_fill_53178_2 rfl (lv_at hl 1 rfl) ?_
  refine r_alen X w 0 rfl dJ7_fill_53178_3 ?_
  refine lv_istore_n (lv' := [(3, .int (Int32.ofNat 61)), (2, .int 0), (0, .ref a), (1, .int x)]) hx hb dJ7_fill_53178_4 rfl hl (by decide) rfl (fun ls hl => ?_)
  rw [show wAr E a 61 f = wAr E a 61 (cpN (fun _ => x) f 0) by rw [cpN_0]] at w
  have loop : ∀ (n k : Nat), k + n = 61 → ∀ (H : Heap) (locs : List Loc), Wd E (hB (wAr E a 61 f)) s (wAr E a 61 (cpN (fun _ => x) f k)) H locs → ∀ (ls : Array Slot), lv_has ls 4 [(3, .int (Int32.ofNat 61)), (2, .int (nI k)), (0, .ref a), (1, .int x)] → W p l e { frames := 0, cells := 0, slots := 0, locals := 0 } s m (([.ref a, .int x] : List Value)).toArray below meth c H locs 0 0 (MQ below (QV E (wAr E a 61 f) (wAr E a 61 (fJ7_fill61 f x))) (([.ref a, .int x] : List Value)).toArray s 0 0 (hB (wAr E a 61 f))) (F0 m 5 ls []) := by
    intro n
    induction n with
    | zero =>
      intro k hk_k H locs w ls hl
      obtain rfl : k = 61 := by omega
      refine lv_iload_n hx hb dJ7_fill_53178_5 rfl (lv_at hl 1 rfl) ?_
      refine lv_iload_n hx hb dJ7_fill_53178_6 rfl (lv_at hl 0 rfl) ?_
      refine lv_icmp_ge (tgt := 20) hx hb dJ7_fill_53178_7 (by decide) (fun _ => ?_) (fun h => absurd (by decide : Int32.ofNat 61 ≤ nI 61) h)
      have w := w.arr 0 (fun _ => x) rfl (fun q hq => by simp [cpN, hq])
      have hq : fJ7_fill61 f x = ((fun _ => x)) := rfl
      rw [hq]
      exact r_vret X w hr dJ7_fill_53178_20
    | succ n ih =>
      intro k hk_k H locs w ls hl
      have hkN : k < 61 := by omega
      refine lv_iload_n hx hb dJ7_fill_53178_5 rfl (lv_at hl 1 rfl) ?_
      refine lv_iload_n hx hb dJ7_fill_53178_6 rfl (lv_at hl 0 rfl) ?_
      refine lv_icmp_ge (tgt := 20) hx hb dJ7_fill_53178_7 (by decide) (fun h => absurd h (nI_ge (b := 61) hkN (by decide))) (fun _ => ?_)
      refine lv_aload_n hx hb dJ7_fill_53178_10 rfl (lv_at hl 2 rfl) ?_
      refine lv_iload_n hx hb dJ7_fill_53178_11 rfl (lv_at hl 1 rfl) ?_
      refine lv_iload_n hx hb dJ7_fill_53178_12 rfl (lv_at hl 3 rfl) ?_
      refine r_iast X w (wAr E a 61 (upd (cpN (fun _ => x) f k) (nI k).toNatClampNeg x)) 0 rfl (vp_in_nI hkN (by decide)) (ax_74 (E := E)) dJ7_fill_53178_13 (fun H locs w => ?_)
      refine lv_iinc (v := (nI k) + 1) (lv' := [(2, .int ((nI k) + 1)), (3, .int (Int32.ofNat 61)), (0, .ref a), (1, .int x)]) hx hb dJ7_fill_53178_14 hl (k := 1) rfl (by first | rfl | decide) (by decide) rfl (fun ls hl => ?_)
      refine lv_goto (tgt := 5) hx hb dJ7_fill_53178_17 (by decide) ?_
      have e0 : nI k + 1 = nI (k + 1) := nI_1 k
      rw [e0] at hl
      have e1 : upd (cpN (fun _ => x) f k) (nI k).toNatClampNeg x = cpN (fun _ => x) f (k + 1) := cpN_succ (fun _ => x) f (by omega)
      rw [e1] at w
      exact ih (k + 1) (by omega) _ _ w ls (lv_sub hl [1, 0, 2, 3] rfl)
  exact loop 61 0 (by omega) _ _ w ls (lv_sub hl [0, 1, 2, 3] rfl)
end
section
/-! constructors (printed by wip/whole/gen/p27.py) -/
/-- addresses as a function -/
def adL (L : List Nat) (i : Nat) : Nat := L.getD i 0
def zgI : N1 := fun _ => 0
def tgI : N2 := fun _ _ => 0
/-- a fresh State -/
def sgI : N2 := u2 (va_up (va_up (va_up tgI 0 (fun _ => (-5))) 5 (fun _ => (-5))) 6 (sT 2)) 8 1 63
theorem dX5_init_0 : decode cX5_init 0 = .ok (.aload_n 0, 1) := by decide +kernel
theorem dX5_init_1 : decode cX5_init 1 = .ok (.invokespecial 3, 3) := by decide +kernel
theorem dX5_init_4 : decode cX5_init 4 = .ok (.return_, 1) := by decide +kernel
set_option maxHeartbeats 4000000 in
set_option maxRecDepth 100000 in
theorem kX5_init (l : Launch) (E : Ev) (b : Nat) : KN l yX5_init cX5_init 1 1 20 0 0 E [.ref b] [(b, .inr (4, [.int 0, .int 0, .int 0]))] (fun w2 => w2 = wWk b zgI) := by
  refine KN.mk RX5 rfl (by decide +kernel) (Nat.le_of_ble_eq_true rfl) ?_
  intro p e s m below meth c ls X hnm hAO hr w hl
  have hin : meth.name = "<init>" := hnm
  have hx := X.1
  have hb := X.2.1
  have hA : ∀ q : Nat, s.heap.size ≤ q → va_A [(b, .inr (4, [.int 0, .int 0, .int 0]))] s.heap.size q := fun q h => Or.inr h
  have hl : lv_has ls 1 [(0, .ref b)] := hl
  refine lv_aload_n hx hb dX5_init_0 rfl (lv_at hl 0 rfl) ?_
  refine r_obj X wm_X5_3 hl.1 dX5_init_1 (Nat.le_of_ble_eq_true rfl) (Nat.le_of_ble_eq_true rfl) ?_
  exact r_nret X w hr (rfl) (Nat.le_of_ble_eq_true rfl) (Nat.le_of_ble_eq_true rfl) dX5_init_4
theorem dX3_init_0 : decode cX3_init 0 = .ok (.aload_n 0, 1) := by decide +kernel
theorem dX3_init_1 : decode cX3_init 1 = .ok (.invokespecial 3, 3) := by decide +kernel
theorem dX3_init_4 : decode cX3_init 4 = .ok (.aload_n 0, 1) := by decide +kernel
theorem dX3_init_5 : decode cX3_init 5 = .ok (.new 9, 3) := by decide +kernel
theorem dX3_init_8 : decode cX3_init 8 = .ok (.dup, 1) := by decide +kernel
theorem dX3_init_9 : decode cX3_init 9 = .ok (.invokespecial 11, 3) := by decide +kernel
theorem dX3_init_12 : decode cX3_init 12 = .ok (.putfield 12, 3) := by decide +kernel
theorem dX3_init_15 : decode cX3_init 15 = .ok (.return_, 1) := by decide +kernel
set_option maxHeartbeats 4000000 in
set_option maxRecDepth 100000 in
theorem kX3_init (l : Launch) (E : Ev) (b : Nat) : KN l yX3_init cX3_init 1 2 60 1 3 E [.ref b] [(b, .inr (2, [.null, .int 0, .float 0, .int 0, .int 0, .int 0, .int 0, .int 0, .int 0]))] (fun w2 => ∃ j : Nat, w2 = wSh b j zgI 0 ++ wWk j zgI) := by
  refine KN.mk RX3 rfl (by decide +kernel) (Nat.le_of_ble_eq_true rfl) ?_
  intro p e s m below meth c ls X hnm hAO hr w hl
  have hin : meth.name = "<init>" := hnm
  have hx := X.1
  have hb := X.2.1
  have hA : ∀ q : Nat, s.heap.size ≤ q → va_A [(b, .inr (2, [.null, .int 0, .float 0, .int 0, .int 0, .int 0, .int 0, .int 0, .int 0]))] s.heap.size q := fun q h => Or.inr h
  have hl : lv_has ls 1 [(0, .ref b)] := hl
  refine lv_aload_n hx hb dX3_init_0 rfl (lv_at hl 0 rfl) ?_
  refine r_obj X wm_X3_3 hl.1 dX3_init_1 (Nat.le_of_ble_eq_true rfl) (Nat.le_of_ble_eq_true rfl) ?_
  refine lv_aload_n hx hb dX3_init_4 rfl (lv_at hl 0 rfl) ?_
  have hfsq1 : ∀ j, j < 3 → defaultValue (tyX5 j) = vp_V [.int 0, .int 0, .int 0] j := by
      intro j hj
      match j, hj with
      | 0, _ => rfl
      | 1, _ => rfl
      | 2, _ => rfl
  refine r_mk0 (C := RX5) (fs := [.int 0, .int 0, .int 0]) (ce := 0) (sl := 0) X w hA CL5 wcl_X3_9 wn_X5 wi_X5 hfsq1 dX3_init_5 dX3_init_8 (Nat.le_of_ble_eq_true rfl) (Nat.le_of_ble_eq_true rfl) (fun q H w => r_runIN X hAO w (kX5_init l E q) ⟨nl_30, wim_yX5_init, wi_X5, wc_yX5_init, by decide +kernel⟩ ⟨(Nat.le_of_ble_eq_true rfl), (Nat.le_of_ble_eq_true rfl)⟩ _ last_at rfl hl.1 (Nat.le_of_ble_eq_true rfl) dX3_init_9 ⟨(Nat.le_of_ble_eq_true rfl), (Nat.le_of_ble_eq_true rfl)⟩) (fun q1 w2 H locs hK w => ?_)
  subst hK
  refine r_putF X w ([(b, .inr (2, [.ref q1, .int 0, .float 0, .int 0, .int 0, .int 0, .int 0, .int 0, .int 0]))] ++ wWk q1 zgI) CL3 0 (by decide) wf_X3_12 0 rfl rfl hin rfl rfl rfl (Nat.le_of_ble_eq_true rfl) rfl dX3_init_12 (fun H locs w => ?_)
  exact r_nret X w hr (⟨q1, rfl⟩) (Nat.le_of_ble_eq_true rfl) (Nat.le_of_ble_eq_true rfl) dX3_init_15
theorem dX0_init_0 : decode cX0_init 0 = .ok (.aload_n 0, 1) := by decide +kernel
theorem dX0_init_1 : decode cX0_init 1 = .ok (.invokespecial 3, 3) := by decide +kernel
theorem dX0_init_4 : decode cX0_init 4 = .ok (.aload_n 0, 1) := by decide +kernel
theorem dX0_init_5 : decode cX0_init 5 = .ok (.bipush 60, 2) := by decide +kernel
theorem dX0_init_7 : decode cX0_init 7 = .ok (.newarray .char, 2) := by decide +kernel
theorem dX0_init_9 : decode cX0_init 9 = .ok (.putfield 11, 3) := by decide +kernel
theorem dX0_init_12 : decode cX0_init 12 = .ok (.aload_n 0, 1) := by decide +kernel
theorem dX0_init_13 : decode cX0_init 13 = .ok (.bipush 16, 2) := by decide +kernel
theorem dX0_init_15 : decode cX0_init 15 = .ok (.newarray .int, 2) := by decide +kernel
theorem dX0_init_17 : decode cX0_init 17 = .ok (.putfield 15, 3) := by decide +kernel
theorem dX0_init_20 : decode cX0_init 20 = .ok (.aload_n 0, 1) := by decide +kernel
theorem dX0_init_21 : decode cX0_init 21 = .ok (.bipush 16, 2) := by decide +kernel
theorem dX0_init_23 : decode cX0_init 23 = .ok (.newarray .int, 2) := by decide +kernel
theorem dX0_init_25 : decode cX0_init 25 = .ok (.putfield 19, 3) := by decide +kernel
theorem dX0_init_28 : decode cX0_init 28 = .ok (.return_, 1) := by decide +kernel
set_option maxHeartbeats 4000000 in
set_option maxRecDepth 100000 in
theorem kX0_init (l : Launch) (E : Ev) (b : Nat) : KN l yX0_init cX0_init 1 1 20 3 92 E [.ref b] [(b, .inr (0, [.null, .int 0, .null, .null, .int 0, .int 0, .int 0]))] (fun w2 => ∃ a : Nat → Nat, a 0 = b ∧ w2 = wTx E a tgI) := by
  refine KN.mk RX0 rfl (by decide +kernel) (Nat.le_of_ble_eq_true rfl) ?_
  intro p e s m below meth c ls X hnm hAO hr w hl
  have hin : meth.name = "<init>" := hnm
  have hx := X.1
  have hb := X.2.1
  have hA : ∀ q : Nat, s.heap.size ≤ q → va_A [(b, .inr (0, [.null, .int 0, .null, .null, .int 0, .int 0, .int 0]))] s.heap.size q := fun q h => Or.inr h
  have hl : lv_has ls 1 [(0, .ref b)] := hl
  refine lv_aload_n hx hb dX0_init_0 rfl (lv_at hl 0 rfl) ?_
  refine r_obj X wm_X0_3 hl.1 dX0_init_1 (Nat.le_of_ble_eq_true rfl) (Nat.le_of_ble_eq_true rfl) ?_
  refine lv_aload_n hx hb dX0_init_4 rfl (lv_at hl 0 rfl) ?_
  refine lv_bipush (v := 60) hx hb dX0_init_5 (by decide) ?_
  refine r_newc X w hA (N := 60) (by decide) rfl (Nat.le_of_ble_eq_true rfl) (Nat.le_of_ble_eq_true rfl) (Nat.le_of_ble_eq_true rfl) dX0_init_7 (fun q1 H w => ?_)
  have w : Wd E (va_A [(b, .inr (0, [.null, .int 0, .null, .null, .int 0, .int 0, .int 0]))] s.heap.size) s [(b, .inr (0, [.null, .int 0, .null, .null, .int 0, .int 0, .int 0])), (q1, .inl (E.2.1.2.1, 60, .inl (fun _ => 0)))] H _ := w
  refine r_putF X w [(b, .inr (0, [.ref q1, .int 0, .null, .null, .int 0, .int 0, .int 0])), (q1, .inl (E.2.1.2.1, 60, .inl (fun _ => 0)))] CL0 0 (by decide) wf_X0_11 0 rfl rfl hin rfl rfl rfl (Nat.le_of_ble_eq_true rfl) rfl dX0_init_9 (fun H locs w => ?_)
  refine lv_aload_n hx hb dX0_init_12 rfl (lv_at hl 0 rfl) ?_
  refine lv_bipush (v := 16) hx hb dX0_init_13 (by decide) ?_
  refine r_newa X w hA (N := 16) (by decide) rfl (Nat.le_of_ble_eq_true rfl) (Nat.le_of_ble_eq_true rfl) (Nat.le_of_ble_eq_true rfl) dX0_init_15 (fun q2 H w => ?_)
  have w : Wd E (va_A [(b, .inr (0, [.null, .int 0, .null, .null, .int 0, .int 0, .int 0]))] s.heap.size) s [(b, .inr (0, [.ref q1, .int 0, .null, .null, .int 0, .int 0, .int 0])), (q1, .inl (E.2.1.2.1, 60, .inl (fun _ => 0))), (q2, .inl (E.2.1.1, 16, .inl (fun _ => 0)))] H _ := w
  refine r_putF X w [(b, .inr (0, [.ref q1, .int 0, .ref q2, .null, .int 0, .int 0, .int 0])), (q1, .inl (E.2.1.2.1, 60, .inl (fun _ => 0))), (q2, .inl (E.2.1.1, 16, .inl (fun _ => 0)))] CL0 2 (by decide) wf_X0_15 0 rfl rfl hin rfl rfl rfl (Nat.le_of_ble_eq_true rfl) rfl dX0_init_17 (fun H locs w => ?_)
  refine lv_aload_n hx hb dX0_init_20 rfl (lv_at hl 0 rfl) ?_
  refine lv_bipush (v := 16) hx hb dX0_init_21 (by decide) ?_
  refine r_newa X w hA (N := 16) (by decide) rfl (Nat.le_of_ble_eq_true rfl) (Nat.le_of_ble_eq_true rfl) (Nat.le_of_ble_eq_true rfl) dX0_init_23 (fun q3 H w => ?_)
  have w : Wd E (va_A [(b, .inr (0, [.null, .int 0, .null, .null, .int 0, .int 0, .int 0]))] s.heap.size) s [(b, .inr (0, [.ref q1, .int 0, .ref q2, .null, .int 0, .int 0, .int 0])), (q1, .inl (E.2.1.2.1, 60, .inl (fun _ => 0))), (q2, .inl (E.2.1.1, 16, .inl (fun _ => 0))), (q3, .inl (E.2.1.1, 16, .inl (fun _ => 0)))] H _ := w
  refine r_putF X w [(b, .inr (0, [.ref q1, .int 0, .ref q2, .ref q3, .int 0, .int 0, .int 0])), (q1, .inl (E.2.1.2.1, 60, .inl (fun _ => 0))), (q2, .inl (E.2.1.1, 16, .inl (fun _ => 0))), (q3, .inl (E.2.1.1, 16, .inl (fun _ => 0)))] CL0 3 (by decide) wf_X0_19 0 rfl rfl hin rfl rfl rfl (Nat.le_of_ble_eq_true rfl) rfl dX0_init_25 (fun H locs w => ?_)
  exact r_nret X w hr (⟨adL [b, q1, q2, q3], rfl, rfl⟩) (Nat.le_of_ble_eq_true rfl) (Nat.le_of_ble_eq_true rfl) dX0_init_28
theorem dX4_init_0 : decode cX4_init 0 = .ok (.aload_n 0, 1) := by decide +kernel
theorem dX4_init_1 : decode cX4_init 1 = .ok (.invokespecial 3, 3) := by decide +kernel
theorem dX4_init_4 : decode cX4_init 4 = .ok (.aload_n 0, 1) := by decide +kernel
theorem dX4_init_5 : decode cX4_init 5 = .ok (.bipush 12, 2) := by decide +kernel
theorem dX4_init_7 : decode cX4_init 7 = .ok (.newarray .int, 2) := by decide +kernel
theorem dX4_init_9 : decode cX4_init 9 = .ok (.putfield 9, 3) := by decide +kernel
theorem dX4_init_12 : decode cX4_init 12 = .ok (.aload_n 0, 1) := by decide +kernel
theorem dX4_init_13 : decode cX4_init 13 = .ok (.bipush 12, 2) := by decide +kernel
theorem dX4_init_15 : decode cX4_init 15 = .ok (.newarray .int, 2) := by decide +kernel
theorem dX4_init_17 : decode cX4_init 17 = .ok (.putfield 15, 3) := by decide +kernel
theorem dX4_init_20 : decode cX4_init 20 = .ok (.aload_n 0, 1) := by decide +kernel
theorem dX4_init_21 : decode cX4_init 21 = .ok (.bipush 12, 2) := by decide +kernel
theorem dX4_init_23 : decode cX4_init 23 = .ok (.newarray .int, 2) := by decide +kernel
theorem dX4_init_25 : decode cX4_init 25 = .ok (.putfield 18, 3) := by decide +kernel
theorem dX4_init_28 : decode cX4_init 28 = .ok (.aload_n 0, 1) := by decide +kernel
theorem dX4_init_29 : decode cX4_init 29 = .ok (.bipush 12, 2) := by decide +kernel
theorem dX4_init_31 : decode cX4_init 31 = .ok (.newarray .int, 2) := by decide +kernel
theorem dX4_init_33 : decode cX4_init 33 = .ok (.putfield 21, 3) := by decide +kernel
theorem dX4_init_36 : decode cX4_init 36 = .ok (.aload_n 0, 1) := by decide +kernel
theorem dX4_init_37 : decode cX4_init 37 = .ok (.bipush 12, 2) := by decide +kernel
theorem dX4_init_39 : decode cX4_init 39 = .ok (.newarray .int, 2) := by decide +kernel
theorem dX4_init_41 : decode cX4_init 41 = .ok (.putfield 24, 3) := by decide +kernel
theorem dX4_init_44 : decode cX4_init 44 = .ok (.aload_n 0, 1) := by decide +kernel
theorem dX4_init_45 : decode cX4_init 45 = .ok (.bipush 61, 2) := by decide +kernel
theorem dX4_init_47 : decode cX4_init 47 = .ok (.newarray .int, 2) := by decide +kernel
theorem dX4_init_49 : decode cX4_init 49 = .ok (.putfield 27, 3) := by decide +kernel
theorem dX4_init_52 : decode cX4_init 52 = .ok (.aload_n 0, 1) := by decide +kernel
theorem dX4_init_53 : decode cX4_init 53 = .ok (.iconst 3, 1) := by decide +kernel
theorem dX4_init_54 : decode cX4_init 54 = .ok (.newarray .int, 2) := by decide +kernel
theorem dX4_init_56 : decode cX4_init 56 = .ok (.putfield 30, 3) := by decide +kernel
theorem dX4_init_59 : decode cX4_init 59 = .ok (.aload_n 0, 1) := by decide +kernel
theorem dX4_init_60 : decode cX4_init 60 = .ok (.iconst 2, 1) := by decide +kernel
theorem dX4_init_61 : decode cX4_init 61 = .ok (.newarray .int, 2) := by decide +kernel
theorem dX4_init_63 : decode cX4_init 63 = .ok (.putfield 33, 3) := by decide +kernel
theorem dX4_init_66 : decode cX4_init 66 = .ok (.aload_n 0, 1) := by decide +kernel
theorem dX4_init_67 : decode cX4_init 67 = .ok (.getfield 9, 3) := by decide +kernel
theorem dX4_init_70 : decode cX4_init 70 = .ok (.bipush (-5), 2) := by decide +kernel
theorem dX4_init_72 : decode cX4_init 72 = .ok (.invokestatic 36, 3) := by decide +kernel
theorem dX4_init_75 : decode cX4_init 75 = .ok (.aload_n 0, 1) := by decide +kernel
theorem dX4_init_76 : decode cX4_init 76 = .ok (.getfield 27, 3) := by decide +kernel
theorem dX4_init_79 : decode cX4_init 79 = .ok (.bipush (-5), 2) := by decide +kernel
theorem dX4_init_81 : decode cX4_init 81 = .ok (.invokestatic 36, 3) := by decide +kernel
theorem dX4_init_84 : decode cX4_init 84 = .ok (.getstatic 42, 3) := by decide +kernel
theorem dX4_init_87 : decode cX4_init 87 = .ok (.iconst 0, 1) := by decide +kernel
theorem dX4_init_88 : decode cX4_init 88 = .ok (.aload_n 0, 1) := by decide +kernel
theorem dX4_init_89 : decode cX4_init 89 = .ok (.getfield 30, 3) := by decide +kernel
theorem dX4_init_92 : decode cX4_init 92 = .ok (.iconst 0, 1) := by decide +kernel
theorem dX4_init_93 : decode cX4_init 93 = .ok (.iconst 3, 1) := by decide +kernel
theorem dX4_init_94 : decode cX4_init 94 = .ok (.invokestatic 45, 3) := by decide +kernel
theorem dX4_init_97 : decode cX4_init 97 = .ok (.aload_n 0, 1) := by decide +kernel
theorem dX4_init_98 : decode cX4_init 98 = .ok (.bipush 63, 2) := by decide +kernel
theorem dX4_init_100 : decode cX4_init 100 = .ok (.putfield 51, 3) := by decide +kernel
theorem dX4_init_103 : decode cX4_init 103 = .ok (.return_, 1) := by decide +kernel
theorem ck_X4_36 : CkS RX4 36 yJ7_fill_53178 cJ7_fill_53178 4 none 2 := ⟨wm_X4_36, wst_yJ7_fill_53178, wi_J7, wc_yJ7_fill_53178, by decide +kernel⟩
theorem hc_75 {E : Ev} {a0 : Nat → Nat} {σ0 : N2} : ([1] : List Nat).map (fun i => (wSt E a0 σ0)[i]?) = (wAr E (a0 1) 12 (σ0 0)).map some := rfl
theorem ha_75 {E : Ev} {a0 : Nat → Nat} {σ0 : N2}  {τ0 : N1} : (wAr E (a0 1) 12 τ0).map Prod.fst = (wAr E (a0 1) 12 (σ0 0)).map Prod.fst := rfl
theorem hw_75 {E : Ev} {a0 : Nat → Nat} {σ0 : N2}  {τ0 : N1} : wput (wSt E a0 σ0) [1] (wAr E (a0 1) 12 τ0) = wSt E a0 (va_up σ0 0 τ0) := rfl
theorem hc_76 {E : Ev} {a0 : Nat → Nat} {σ0 : N2} : ([6] : List Nat).map (fun i => (wSt E a0 σ0)[i]?) = (wAr E (a0 6) 61 (σ0 5)).map some := rfl
theorem ha_76 {E : Ev} {a0 : Nat → Nat} {σ0 : N2}  {τ0 : N1} : (wAr E (a0 6) 61 τ0).map Prod.fst = (wAr E (a0 6) 61 (σ0 5)).map Prod.fst := rfl
theorem hw_76 {E : Ev} {a0 : Nat → Nat} {σ0 : N2}  {τ0 : N1} : wput (wSt E a0 σ0) [6] (wAr E (a0 6) 61 τ0) = wSt E a0 (va_up σ0 5 τ0) := rfl
theorem ax_77 {E : Ev} {a0 : Nat → Nat} {σ0 : N2} {x : Int32} : (wSt E a0 σ0).set 0 (a0 0, .inr (3, ([.ref (a0 1), .ref (a0 2), .ref (a0 3), .ref (a0 4), .ref (a0 5), .ref (a0 6), .ref (a0 7), .ref (a0 8), .int (σ0 8 0), .int (σ0 8 1), .int (σ0 8 2), .int (σ0 8 3), .int (σ0 8 4), .int (σ0 8 5)] : List Value).set 9 (.int x))) = wSt E a0 (u2 σ0 8 1 x) := rfl
set_option maxHeartbeats 4000000 in
set_option maxRecDepth 100000 in
theorem kX4_init (l : Launch) (E : Ev) (b : Nat) : KN l yX4_init cX4_init 1 1 80 8 126 E [.ref b] [(b, .inr (3, [.null, .null, .null, .null, .null, .null, .null, .null, .int 0, .int 0, .int 0, .int 0, .int 0, .int 0]))] (fun w2 => ∃ a : Nat → Nat, a 0 = b ∧ w2 = wSt E a sgI) := by
  refine KN.mk RX4 rfl (by decide +kernel) (Nat.le_of_ble_eq_true rfl) ?_
  intro p e s m below meth c ls X hnm hAO hr w hl
  have hin : meth.name = "<init>" := hnm
  have hx := X.1
  have hb := X.2.1
  have hA : ∀ q : Nat, s.heap.size ≤ q → va_A [(b, .inr (3, [.null, .null, .null, .null, .null, .null, .null, .null, .int 0, .int 0, .int 0, .int 0, .int 0, .int 0]))] s.heap.size q := fun q h => Or.inr h
  have hl : lv_has ls 1 [(0, .ref b)] := hl
  refine lv_aload_n hx hb dX4_init_0 rfl (lv_at hl 0 rfl) ?_
  refine r_obj X wm_X4_3 hl.1 dX4_init_1 (Nat.le_of_ble_eq_true rfl) (Nat.le_of_ble_eq_true rfl) ?_
  refine lv_aload_n hx hb dX4_init_4 rfl (lv_at hl 0 rfl) ?_
  refine lv_bipush (v := 12) hx hb dX4_init_5 (by decide) ?_
  refine r_newa X w hA (N := 12) (by decide) rfl (Nat.le_of_ble_eq_true rfl) (Nat.le_of_ble_eq_true rfl) (Nat.le_of_ble_eq_true rfl) dX4_init_7 (fun q1 H w => ?_)
  have w : Wd E (va_A [(b, .inr (3, [.null, .null, .null, .null, .null, .null, .null, .null, .int 0, .int 0, .int 0, .int 0, .int 0, .int 0]))] s.heap.size) s [(b, .inr (3, [.null, .null, .null, .null, .null, .null, .null, .null, .int 0, .int 0, .int 0, .int 0, .int 0, .int 0])), (q1, .inl (E.2.1.1, 12, .inl (fun _ => 0)))] H _ := w
  refine r_putF X w [(b, .inr (3, [.ref q1, .null, .null, .null, .null, .null, .null, .null, .int 0, .int 0, .int 0, .int 0, .int 0, .int 0])), (q1, .inl (E.2.1.1, 12, .inl (fun _ => 0)))] CL4 0 (by decide) wf_X4_9 0 rfl rfl hin rfl rfl rfl (Nat.le_of_ble_eq_true rfl) rfl dX4_init_9 (fun H locs w => ?_)
  refine lv_aload_n hx hb dX4_init_12 rfl (lv_at hl 0 rfl) ?_
  refine lv_bipush (v := 12) hx hb dX4_init_13 (by decide) ?_
  refine r_newa X w hA (N := 12) (by decide) rfl (Nat.le_of_ble_eq_true rfl) (Nat.le_of_ble_eq_true rfl) (Nat.le_of_ble_eq_true rfl) dX4_init_15 (fun q2 H w => ?_)
  have w : Wd E (va_A [(b, .inr (3, [.null, .null, .null, .null, .null, .null, .null, .null, .int 0, .int 0, .int 0, .int 0, .int 0, .int 0]))] s.heap.size) s [(b, .inr (3, [.ref q1, .null, .null, .null, .null, .null, .null, .null, .int 0, .int 0, .int 0, .int 0, .int 0, .int 0])), (q1, .inl (E.2.1.1, 12, .inl (fun _ => 0))), (q2, .inl (E.2.1.1, 12, .inl (fun _ => 0)))] H _ := w
  refine r_putF X w [(b, .inr (3, [.ref q1, .ref q2, .null, .null, .null, .null, .null, .null, .int 0, .int 0, .int 0, .int 0, .int 0, .int 0])), (q1, .inl (E.2.1.1, 12, .inl (fun _ => 0))), (q2, .inl (E.2.1.1, 12, .inl (fun _ => 0)))] CL4 1 (by decide) wf_X4_15 0 rfl rfl hin rfl rfl rfl (Nat.le_of_ble_eq_true rfl) rfl dX4_init_17 (fun H locs w => ?_)
  refine lv_aload_n hx hb dX4_init_20 rfl (lv_at hl 0 rfl) ?_
  refine lv_bipush (v := 12) hx hb dX4_init_21 (by decide) ?_
  refine r_newa X w hA (N := 12) (by decide) rfl (Nat.le_of_ble_eq_true rfl) (Nat.le_of_ble_eq_true rfl) (Nat.le_of_ble_eq_true rfl) dX4_init_23 (fun q3 H w => ?_)
  have w : Wd E (va_A [(b, .inr (3, [.null, .null, .null, .null, .null, .null, .null, .null, .int 0, .int 0, .int 0, .int 0, .int 0, .int 0]))] s.heap.size) s [(b, .inr (3, [.ref q1, .ref q2, .null, .null, .null, .null, .null, .null, .int 0, .int 0, .int 0, .int 0, .int 0, .int 0])), (q1, .inl (E.2.1.1, 12, .inl (fun _ => 0))), (q2, .inl (E.2.1.1, 12, .inl (fun _ => 0))), (q3, .inl (E.2.1.1, 12, .inl (fun _ => 0)))] H _ := w
  refine r_putF X w [(b, .inr (3, [.ref q1, .ref q2, .ref q3, .null, .null, .null, .null, .null, .int 0, .int 0, .int 0, .int 0, .int 0, .int 0])), (q1, .inl (E.2.1.1, 12, .inl (fun _ => 0))), (q2, .inl (E.2.1.1, 12, .inl (fun _ => 0))), (q3, .inl (E.2.1.1, 12, .inl (fun _ => 0)))] CL4 2 (by decide) wf_X4_18 0 rfl rfl hin rfl rfl rfl (Nat.le_of_ble_eq_true rfl) rfl dX4_init_25 (fun H locs w => ?_)
  refine lv_aload_n hx hb dX4_init_28 rfl (lv_at hl 0 rfl) ?_
  refine lv_bipush (v := 12) hx hb dX4_init_29 (by decide) ?_
  refine r_newa X w hA (N := 12) (by decide) rfl (Nat.le_of_ble_eq_true rfl) (Nat.le_of_ble_eq_true rfl) (Nat.le_of_ble_eq_true rfl) dX4_init_31 (fun q4 H w => ?_)
  have w : Wd E (va_A [(b, .inr (3, [.null, .null, .null, .null, .null, .null, .null, .null, .int 0, .int 0, .int 0, .int 0, .int 0, .int 0]))] s.heap.size) s [(b, .inr (3, [.ref q1, .ref q2, .ref q3, .null, .null, .null, .null, .null, .int 0, .int 0, .int 0, .int 0, .int 0, .int 0])), (q1, .inl (E.2.1.1, 12, .inl (fun _ => 0))), (q2, .inl (E.2.1.1, 12, .inl (fun _ => 0))), (q3, .inl (E.2.1.1, 12, .inl (fun _ => 0))), (q4, .inl (E.2.1.1, 12, .inl (fun _ => 0)))] H _ := w
  refine r_putF X w [(b, .inr (3, [.ref q1, .ref q2, .ref q3, .ref q4, .null, .null, .null, .null, .int 0, .int 0, .int 0, .int 0, .int 0, .int 0])), (q1, .inl (E.2.1.1, 12, .inl (fun _ => 0))), (q2, .inl (E.2.1.1, 12, .inl (fun _ => 0))), (q3, .inl (E.2.1.1, 12, .inl (fun _ => 0))), (q4, .inl (E.2.1.1, 12, .inl (fun _ => 0)))] CL4 3 (by decide) wf_X4_21 0 rfl rfl hin rfl rfl rfl (Nat.le_of_ble_eq_true rfl) rfl dX4_init_33 (fun H locs w => ?_)
  refine lv_aload_n hx hb dX4_init_36 rfl (lv_at hl 0 rfl) ?_
  refine lv_bipush (v := 12) hx hb dX4_init_37 (by decide) ?_
  refine r_newa X w hA (N := 12) (by decide) rfl (Nat.le_of_ble_eq_true rfl) (Nat.le_of_ble_eq_true rfl) (Nat.le_of_ble_eq_true rfl) dX4_init_39 (fun q5 H w => ?_)
  have w : Wd E (va_A [(b, .inr (3, [.null, .null, .null, .null, .null, .null, .null, .null, .int 0, .int 0, .int 0, .int 0, .int 0, .int 0]))] s.heap.size) s [(b, .inr (3, [.ref q1, .ref q2, .ref q3, .ref q4, .null, .null, .null, .null, .int 0, .int 0, .int 0, .int 0, .int 0, .int 0])), (q1, .inl (E.2.1.1, 12, .inl (fun _ => 0))), (q2, .inl (E.2.1.1, 12, .inl (fun _ => 0))), (q3, .inl (E.2.1.1, 12, .inl (fun _ => 0))), (q4, .inl (E.2.1.1, 12, .inl (fun _ => 0))), (q5, .inl (E.2.1.1, 12, .inl (fun _ => 0)))] H _ := w
  refine r_putF X w [(b, .inr (3, [.ref q1, .ref q2, .ref q3, .ref q4, .ref q5, .null, .null, .null, .int 0, .int 0, .int 0, .int 0, .int 0, .int 0])), (q1, .inl (E.2.1.1, 12, .inl (fun _ => 0))), (q2, .inl (E.2.1.1, 12, .inl (fun _ => 0))), (q3, .inl (E.2.1.1, 12, .inl (fun _ => 0))), (q4, .inl (E.2.1.1, 12, .inl (fun _ => 0))), (q5, .inl (E.2.1.1, 12, .inl (fun _ => 0)))] CL4 4 (by decide) wf_X4_24 0 rfl rfl hin rfl rfl rfl (Nat.le_of_ble_eq_true rfl) rfl dX4_init_41 (fun H locs w => ?_)
  refine lv_aload_n hx hb dX4_init_44 rfl (lv_at hl 0 rfl) ?_
  refine lv_bipush (v := 61) hx hb dX4_init_45 (by decide) ?_
  refine r_newa X w hA (N := 61) (by decide) rfl (Nat.le_of_ble_eq_true rfl) (Nat.le_of_ble_eq_true rfl) (Nat.le_of_ble_eq_true rfl) dX4_init_47 (fun q6 H w => ?_)
  have w : Wd E (va_A [(b, .inr (3, [.null, .null, .null, .null, .null, .null, .null, .null, .int 0, .int 0, .int 0, .int 0, .int 0, .int 0]))] s.heap.size) s [(b, .inr (3, [.ref q1, .ref q2, .ref q3, .ref q4, .ref q5, .null, .null, .null, .int 0, .int 0, .int 0, .int 0, .int 0, .int 0])), (q1, .inl (E.2.1.1, 12, .inl (fun _ => 0))), (q2, .inl (E.2.1.1, 12, .inl (fun _ => 0))), (q3, .inl (E.2.1.1, 12, .inl (fun _ => 0))), (q4, .inl (E.2.1.1, 12, .inl (fun _ => 0))), (q5, .inl (E.2.1.1, 12, .inl (fun _ => 0))), (q6, .inl (E.2.1.1, 61, .inl (fun _ => 0)))] H _ := w
  refine r_putF X w [(b, .inr (3, [.ref q1, .ref q2, .ref q3, .ref q4, .ref q5, .ref q6, .null, .null, .int 0, .int 0, .int 0, .int 0, .int 0, .int 0])), (q1, .inl (E.2.1.1, 12, .inl (fun _ => 0))), (q2, .inl (E.2.1.1, 12, .inl (fun _ => 0))), (q3, .inl (E.2.1.1, 12, .inl (fun _ => 0))), (q4, .inl (E.2.1.1, 12, .inl (fun _ => 0))), (q5, .inl (E.2.1.1, 12, .inl (fun _ => 0))), (q6, .inl (E.2.1.1, 61, .inl (fun _ => 0)))] CL4 5 (by decide) wf_X4_27 0 rfl rfl hin rfl rfl rfl (Nat.le_of_ble_eq_true rfl) rfl dX4_init_49 (fun H locs w => ?_)
  refine lv_aload_n hx hb dX4_init_52 rfl (lv_at hl 0 rfl) ?_
  refine lv_iconst (v := 3) hx hb dX4_init_53 (by decide) ?_
  refine r_newa X w hA (N := 3) (by decide) rfl (Nat.le_of_ble_eq_true rfl) (Nat.le_of_ble_eq_true rfl) (Nat.le_of_ble_eq_true rfl) dX4_init_54 (fun q7 H w => ?_)
  have w : Wd E (va_A [(b, .inr (3, [.null, .null, .null, .null, .null, .null, .null, .null, .int 0, .int 0, .int 0, .int 0, .int 0, .int 0]))] s.heap.size) s [(b, .inr (3, [.ref q1, .ref q2, .ref q3, .ref q4, .ref q5, .ref q6, .null, .null, .int 0, .int 0, .int 0, .int 0, .int 0, .int 0])), (q1, .inl (E.2.1.1, 12, .inl (fun _ => 0))), (q2, .inl (E.2.1.1, 12, .inl (fun _ => 0))), (q3, .inl (E.2.1.1, 12, .inl (fun _ => 0))), (q4, .inl (E.2.1.1, 12, .inl (fun _ => 0))), (q5, .inl (E.2.1.1, 12, .inl (fun _ => 0))), (q6, .inl (E.2.1.1, 61, .inl (fun _ => 0))), (q7, .inl (E.2.1.1, 3, .inl (fun _ => 0)))] H _ := w
  refine r_putF X w [(b, .inr (3, [.ref q1, .ref q2, .ref q3, .ref q4, .ref q5, .ref q6, .ref q7, .null, .int 0, .int 0, .int 0, .int 0, .int 0, .int 0])), (q1, .inl (E.2.1.1, 12, .inl (fun _ => 0))), (q2, .inl (E.2.1.1, 12, .inl (fun _ => 0))), (q3, .inl (E.2.1.1, 12, .inl (fun _ => 0))), (q4, .inl (E.2.1.1, 12, .inl (fun _ => 0))), (q5, .inl (E.2.1.1, 12, .inl (fun _ => 0))), (q6, .inl (E.2.1.1, 61, .inl (fun _ => 0))), (q7, .inl (E.2.1.1, 3, .inl (fun _ => 0)))] CL4 6 (by decide) wf_X4_30 0 rfl rfl hin rfl rfl rfl (Nat.le_of_ble_eq_true rfl) rfl dX4_init_56 (fun H locs w => ?_)
  refine lv_aload_n hx hb dX4_init_59 rfl (lv_at hl 0 rfl) ?_
  refine lv_iconst (v := 2) hx hb dX4_init_60 (by decide) ?_
  refine r_newa X w hA (N := 2) (by decide) rfl (Nat.le_of_ble_eq_true rfl) (Nat.le_of_ble_eq_true rfl) (Nat.le_of_ble_eq_true rfl) dX4_init_61 (fun q8 H w => ?_)
  have w : Wd E (va_A [(b, .inr (3, [.null, .null, .null, .null, .null, .null, .null, .null, .int 0, .int 0, .int 0, .int 0, .int 0, .int 0]))] s.heap.size) s [(b, .inr (3, [.ref q1, .ref q2, .ref q3, .ref q4, .ref q5, .ref q6, .ref q7, .null, .int 0, .int 0, .int 0, .int 0, .int 0, .int 0])), (q1, .inl (E.2.1.1, 12, .inl (fun _ => 0))), (q2, .inl (E.2.1.1, 12, .inl (fun _ => 0))), (q3, .inl (E.2.1.1, 12, .inl (fun _ => 0))), (q4, .inl (E.2.1.1, 12, .inl (fun _ => 0))), (q5, .inl (E.2.1.1, 12, .inl (fun _ => 0))), (q6, .inl (E.2.1.1, 61, .inl (fun _ => 0))), (q7, .inl (E.2.1.1, 3, .inl (fun _ => 0))), (q8, .inl (E.2.1.1, 2, .inl (fun _ => 0)))] H _ := w
  refine r_putF X w [(b, .inr (3, [.ref q1, .ref q2, .ref q3, .ref q4, .ref q5, .ref q6, .ref q7, .ref q8, .int 0, .int 0, .int 0, .int 0, .int 0, .int 0])), (q1, .inl (E.2.1.1, 12, .inl (fun _ => 0))), (q2, .inl (E.2.1.1, 12, .inl (fun _ => 0))), (q3, .inl (E.2.1.1, 12, .inl (fun _ => 0))), (q4, .inl (E.2.1.1, 12, .inl (fun _ => 0))), (q5, .inl (E.2.1.1, 12, .inl (fun _ => 0))), (q6, .inl (E.2.1.1, 61, .inl (fun _ => 0))), (q7, .inl (E.2.1.1, 3, .inl (fun _ => 0))), (q8, .inl (E.2.1.1, 2, .inl (fun _ => 0)))] CL4 7 (by decide) wf_X4_33 0 rfl rfl hin rfl rfl rfl (Nat.le_of_ble_eq_true rfl) rfl dX4_init_63 (fun H locs w => ?_)
  obtain ⟨a, ha⟩ : ∃ a : Nat → Nat, a = adL [b, q1, q2, q3, q4, q5, q6, q7, q8] := ⟨_, rfl⟩
  have ha0 : a 0 = b := by rw [ha]; rfl
  have w : Wd E (va_A [(b, .inr (3, [.null, .null, .null, .null, .null, .null, .null, .null, .int 0, .int 0, .int 0, .int 0, .int 0, .int 0]))] s.heap.size) s (wSt E a tgI) H locs := by rw [ha]; exact w
  have hl : lv_has ls 1 [(0, .ref (a 0))] := by rw [ha]; exact hl
  refine lv_aload_n hx hb dX4_init_66 rfl (lv_at hl 0 rfl) ?_
  refine r_get X w CL4 0 (by decide) wf_X4_9 0 rfl rfl dX4_init_67 ?_
  refine lv_bipush (v := (-5)) hx hb dX4_init_70 (by decide) ?_
  refine r_cv w (r_runS (As := [.ref (a 1), .int (-5)]) (rest := []) X w (kJ7_fill12 l E (a 1) (tgI 0) (-5) ) ck_X4_36 ⟨Nat.le_of_ble_eq_true rfl, Nat.le_of_ble_eq_true rfl⟩ [1] (hc_75 (E := E)) (by decide +kernel) hl.1 (Nat.le_of_ble_eq_true rfl) rfl dX4_init_72 ⟨Nat.le_of_ble_eq_true rfl, Nat.le_of_ble_eq_true rfl⟩) (wSt E a (va_up tgI 0 (fJ7_fill12 (tgI 0) (-5)))) [1] (hc_75 (E := E)) (by decide +kernel) (ha_75 (E := E)) (hw_75 (E := E)) (fun H locs w => ?_)
  refine lv_aload_n hx hb dX4_init_75 rfl (lv_at hl 0 rfl) ?_
  refine r_get X w CL4 5 (by decide) wf_X4_27 0 rfl rfl dX4_init_76 ?_
  refine lv_bipush (v := (-5)) hx hb dX4_init_79 (by decide) ?_
  refine r_cv w (r_runS (As := [.ref (a 6), .int (-5)]) (rest := []) X w (kJ7_fill61 l E (a 6) ((va_up tgI 0 (fJ7_fill12 (tgI 0) (-5))) 5) (-5) ) ck_X4_36 ⟨Nat.le_of_ble_eq_true rfl, Nat.le_of_ble_eq_true rfl⟩ [6] (hc_76 (E := E)) (by decide +kernel) hl.1 (Nat.le_of_ble_eq_true rfl) rfl dX4_init_81 ⟨Nat.le_of_ble_eq_true rfl, Nat.le_of_ble_eq_true rfl⟩) (wSt E a (va_up (va_up tgI 0 (fJ7_fill12 (tgI 0) (-5))) 5 (fJ7_fill61 ((va_up tgI 0 (fJ7_fill12 (tgI 0) (-5))) 5) (-5)))) [6] (hc_76 (E := E)) (by decide +kernel) (ha_76 (E := E)) (hw_76 (E := E)) (fun H locs w => ?_)
  refine r_getsN X w 2 rfl nl_27 dX4_init_84 ?_
  refine lv_iconst (v := 0) hx hb dX4_init_87 (by decide) ?_
  refine lv_aload_n hx hb dX4_init_88 rfl (lv_at hl 0 rfl) ?_
  refine r_get X w CL4 6 (by decide) wf_X4_30 0 rfl rfl dX4_init_89 ?_
  refine lv_iconst (v := 0) hx hb dX4_init_92 (by decide) ?_
  refine lv_iconst (v := 3) hx hb dX4_init_93 (by decide) ?_
  refine r_copyT X w (wSt E a (va_up (va_up (va_up tgI 0 (fJ7_fill12 (tgI 0) (-5))) 5 (fJ7_fill61 ((va_up tgI 0 (fJ7_fill12 (tgI 0) (-5))) 5) (-5))) 6 (sT 2))) wm_X4_45 2 rfl 7 rfl (by decide) rfl rfl rfl hl.1 (Nat.le_of_ble_eq_true rfl) (Nat.le_of_ble_eq_true rfl) dX4_init_94 (fun H locs w => ?_)
  refine lv_aload_n hx hb dX4_init_97 rfl (lv_at hl 0 rfl) ?_
  refine lv_bipush (v := 63) hx hb dX4_init_98 (by decide) ?_
  refine r_put X w (wSt E a (u2 (va_up (va_up (va_up tgI 0 (fJ7_fill12 (tgI 0) (-5))) 5 (fJ7_fill61 ((va_up tgI 0 (fJ7_fill12 (tgI 0) (-5))) 5) (-5))) 6 (sT 2)) 8 1 63)) CL4 9 (by decide) wf_X4_51 0 rfl rfl rfl rfl (Nat.le_of_ble_eq_true rfl) (ax_77 (E := E)) dX4_init_100 (fun H locs w => ?_)
  exact r_nret X w hr ⟨a, ha0, rfl⟩ (Nat.le_of_ble_eq_true rfl) (Nat.le_of_ble_eq_true rfl) dX4_init_103
theorem dX2_init_0 : decode cX2_init 0 = .ok (.aload_n 0, 1) := by decide +kernel
theorem dX2_init_1 : decode cX2_init 1 = .ok (.invokespecial 1, 3) := by decide +kernel
theorem dX2_init_4 : decode cX2_init 4 = .ok (.aload_n 0, 1) := by decide +kernel
theorem dX2_init_5 : decode cX2_init 5 = .ok (.iconst 4, 1) := by decide +kernel
theorem dX2_init_6 : decode cX2_init 6 = .ok (.anewarray 9, 3) := by decide +kernel
theorem dX2_init_9 : decode cX2_init 9 = .ok (.putfield 11, 3) := by decide +kernel
theorem dX2_init_12 : decode cX2_init 12 = .ok (.iconst 0, 1) := by decide +kernel
theorem dX2_init_13 : decode cX2_init 13 = .ok (.istore_n 1, 1) := by decide +kernel
theorem dX2_init_14 : decode cX2_init 14 = .ok (.iload_n 1, 1) := by decide +kernel
theorem dX2_init_15 : decode cX2_init 15 = .ok (.iconst 4, 1) := by decide +kernel
theorem dX2_init_16 : decode cX2_init 16 = .ok (.if_icmp .ge 22, 3) := by decide +kernel
theorem dX2_init_19 : decode cX2_init 19 = .ok (.aload_n 0, 1) := by decide +kernel
theorem dX2_init_20 : decode cX2_init 20 = .ok (.getfield 11, 3) := by decide +kernel
theorem dX2_init_23 : decode cX2_init 23 = .ok (.iload_n 1, 1) := by decide +kernel
theorem dX2_init_24 : decode cX2_init 24 = .ok (.new 9, 3) := by decide +kernel
theorem dX2_init_27 : decode cX2_init 27 = .ok (.dup, 1) := by decide +kernel
theorem dX2_init_28 : decode cX2_init 28 = .ok (.invokespecial 15, 3) := by decide +kernel
theorem dX2_init_31 : decode cX2_init 31 = .ok (.aastore, 1) := by decide +kernel
theorem dX2_init_32 : decode cX2_init 32 = .ok (.iinc 1 1, 3) := by decide +kernel
theorem dX2_init_35 : decode cX2_init 35 = .ok (.goto (-21), 3) := by decide +kernel
theorem dX2_init_38 : decode cX2_init 38 = .ok (.return_, 1) := by decide +kernel
set_option maxHeartbeats 4000000 in
set_option maxRecDepth 100000 in
theorem kX2_init (l : Launch) (E : Ev) (b : Nat) : KN l yX2_init cX2_init 2 3 120 37 564 E [.ref b] [(b, .inr (1, [.null, .int 0]))] (fun w2 => ∃ (a : Nat → Nat) (hh : Nat → Nat → Nat), a 0 = b ∧ w2 = wHs E a hh 0 0 (fun _ => sgI)) := by
  refine KN.mk RX2 rfl (by decide +kernel) (Nat.le_of_ble_eq_true rfl) ?_
  intro p e s m below meth c ls X hnm hAO hr w hl
  have hin : meth.name = "<init>" := hnm
  have hx := X.1
  have hb := X.2.1
  have hA : ∀ q : Nat, s.heap.size ≤ q → va_A [(b, .inr (1, [.null, .int 0]))] s.heap.size q := fun q h => Or.inr h
  have hl : lv_has ls 2 [(0, .ref b)] := hl
  refine lv_aload_n hx hb dX2_init_0 rfl (lv_at hl 0 rfl) ?_
  refine r_obj X wm_X2_1 hl.1 dX2_init_1 (Nat.le_of_ble_eq_true rfl) (Nat.le_of_ble_eq_true rfl) ?_
  refine lv_aload_n hx hb dX2_init_4 rfl (lv_at hl 0 rfl) ?_
  refine lv_iconst (v := 4) hx hb dX2_init_5 (by decide) ?_
  refine r_newq X w hA hAO wcl_X2_9 (N := 4) (by decide) rfl (Nat.le_of_ble_eq_true rfl) (Nat.le_of_ble_eq_true rfl) (Nat.le_of_ble_eq_true rfl) dX2_init_6 (fun q1 H w => ?_)
  have w : Wd E (va_A [(b, .inr (1, [.null, .int 0]))] s.heap.size) s [(b, .inr (1, [.null, .int 0])), (q1, .inl (E.2.1.2.2, 4, .inr (.inr (.inr (.inr (fun _ => none))))))] H _ := w
  refine r_putF X w [(b, .inr (1, [.ref q1, .int 0])), (q1, .inl (E.2.1.2.2, 4, .inr (.inr (.inr (.inr (fun _ => none))))))] CL2 0 (by decide) wf_X2_11 0 rfl rfl hin rfl rfl rfl (Nat.le_of_ble_eq_true rfl) rfl dX2_init_9 (fun H locs w => ?_)
  refine lv_iconst (v := 0) hx hb dX2_init_12 (by decide) ?_
  refine lv_istore_n (lv' := [(1, .int 0), (0, .ref b)]) hx hb dX2_init_13 rfl hl (by decide) rfl (fun ls hl => ?_)
  refine lv_iload_n hx hb dX2_init_14 rfl (lv_at hl 0 rfl) ?_
  refine lv_iconst (v := 4) hx hb dX2_init_15 (by decide) ?_
  refine lv_icmp_ge (tgt := 38) hx hb dX2_init_16 (by decide) (fun h => absurd h (by decide)) (fun _ => ?_)
  refine lv_aload_n hx hb dX2_init_19 rfl (lv_at hl 1 rfl) ?_
  refine r_get X w CL2 0 (by decide) wf_X2_11 0 rfl rfl dX2_init_20 ?_
  refine lv_iload_n hx hb dX2_init_23 rfl (lv_at hl 0 rfl) ?_
  have hfsq2 : ∀ j, j < 14 → defaultValue (tyX4 j) = vp_V [.null, .null, .null, .null, .null, .null, .null, .null, .int 0, .int 0, .int 0, .int 0, .int 0, .int 0] j := by
      intro j hj
      match j, hj with
      | 0, _ => rfl
      | 1, _ => rfl
      | 2, _ => rfl
      | 3, _ => rfl
      | 4, _ => rfl
      | 5, _ => rfl
      | 6, _ => rfl
      | 7, _ => rfl
      | 8, _ => rfl
      | 9, _ => rfl
      | 10, _ => rfl
      | 11, _ => rfl
      | 12, _ => rfl
      | 13, _ => rfl
  refine r_mk0 (C := RX4) (fs := [.null, .null, .null, .null, .null, .null, .null, .null, .int 0, .int 0, .int 0, .int 0, .int 0, .int 0]) (ce := 8) (sl := 126) X w hA CL4 wcl_X2_9 wn_X4 wi_X4 hfsq2 dX2_init_24 dX2_init_27 (Nat.le_of_ble_eq_true rfl) (Nat.le_of_ble_eq_true rfl) (fun q H w => r_runI X hAO w (kX4_init l E q) ⟨wm_X2_15, wim_yX4_init, wi_X4, wc_yX4_init, by decide +kernel⟩ ⟨(Nat.le_of_ble_eq_true rfl), (Nat.le_of_ble_eq_true rfl)⟩ _ last_at rfl hl.1 (Nat.le_of_ble_eq_true rfl) dX2_init_28 ⟨(Nat.le_of_ble_eq_true rfl), (Nat.le_of_ble_eq_true rfl)⟩) (fun q2 w2 H locs hK w => ?_)
  obtain ⟨a0, rfl, rfl⟩ := hK
  refine r_astq X w ([(b, .inr (1, [.ref q1, .int 0])), (q1, .inl (E.2.1.2.2, 4, .inr (.inr (.inr (.inr (va_up (fun _ => none) (0 : Int32).toNatClampNeg (some (a0 0))))))))] ++ wSt E a0 sgI) 1 2 rfl rfl (vin_c rfl) rfl dX2_init_31 (fun H locs w => ?_)
  refine lv_iinc (v := 1) (lv' := [(1, .int 1), (0, .ref b)]) hx hb dX2_init_32 hl (k := 0) rfl (by first | rfl | decide) (by decide) rfl (fun ls hl => ?_)
  refine lv_goto (tgt := 14) hx hb dX2_init_35 (by decide) ?_
  refine lv_iload_n hx hb dX2_init_14 rfl (lv_at hl 0 rfl) ?_
  refine lv_iconst (v := 4) hx hb dX2_init_15 (by decide) ?_
  refine lv_icmp_ge (tgt := 38) hx hb dX2_init_16 (by decide) (fun h => absurd h (by decide)) (fun _ => ?_)
  refine lv_aload_n hx hb dX2_init_19 rfl (lv_at hl 1 rfl) ?_
  refine r_get X w CL2 0 (by decide) wf_X2_11 0 rfl rfl dX2_init_20 ?_
  refine lv_iload_n hx hb dX2_init_23 rfl (lv_at hl 0 rfl) ?_
  have hfsq3 : ∀ j, j < 14 → defaultValue (tyX4 j) = vp_V [.null, .null, .null, .null, .null, .null, .null, .null, .int 0, .int 0, .int 0, .int 0, .int 0, .int 0] j := by
      intro j hj
      match j, hj with
      | 0, _ => rfl
      | 1, _ => rfl
      | 2, _ => rfl
      | 3, _ => rfl
      | 4, _ => rfl
      | 5, _ => rfl
      | 6, _ => rfl
      | 7, _ => rfl
      | 8, _ => rfl
      | 9, _ => rfl
      | 10, _ => rfl
      | 11, _ => rfl
      | 12, _ => rfl
      | 13, _ => rfl
  refine r_mk0 (C := RX4) (fs := [.null, .null, .null, .null, .null, .null, .null, .null, .int 0, .int 0, .int 0, .int 0, .int 0, .int 0]) (ce := 8) (sl := 126) X w hA CL4 wcl_X2_9 wn_X4 wi_X4 hfsq3 dX2_init_24 dX2_init_27 (Nat.le_of_ble_eq_true rfl) (Nat.le_of_ble_eq_true rfl) (fun q H w => r_runI X hAO w (kX4_init l E q) ⟨wm_X2_15, wim_yX4_init, wi_X4, wc_yX4_init, by decide +kernel⟩ ⟨(Nat.le_of_ble_eq_true rfl), (Nat.le_of_ble_eq_true rfl)⟩ _ last_at rfl hl.1 (Nat.le_of_ble_eq_true rfl) dX2_init_28 ⟨(Nat.le_of_ble_eq_true rfl), (Nat.le_of_ble_eq_true rfl)⟩) (fun q3 w2 H locs hK w => ?_)
  obtain ⟨a1, rfl, rfl⟩ := hK
  refine r_astq X w (([(b, .inr (1, [.ref q1, .int 0])), (q1, .inl (E.2.1.2.2, 4, .inr (.inr (.inr (.inr (va_up (va_up (fun _ => none) (0 : Int32).toNatClampNeg (some (a0 0))) (1 : Int32).toNatClampNeg (some (a1 0))))))))] ++ wSt E a0 sgI) ++ wSt E a1 sgI) 1 11 rfl rfl (vin_c rfl) rfl dX2_init_31 (fun H locs w => ?_)
  refine lv_iinc (v := 2) (lv' := [(1, .int 2), (0, .ref b)]) hx hb dX2_init_32 hl (k := 0) rfl (by first | rfl | decide) (by decide) rfl (fun ls hl => ?_)
  refine lv_goto (tgt := 14) hx hb dX2_init_35 (by decide) ?_
  refine lv_iload_n hx hb dX2_init_14 rfl (lv_at hl 0 rfl) ?_
  refine lv_iconst (v := 4) hx hb dX2_init_15 (by decide) ?_
  refine lv_icmp_ge (tgt := 38) hx hb dX2_init_16 (by decide) (fun h => absurd h (by decide)) (fun _ => ?_)
  refine lv_aload_n hx hb dX2_init_19 rfl (lv_at hl 1 rfl) ?_
  refine r_get X w CL2 0 (by decide) wf_X2_11 0 rfl rfl dX2_init_20 ?_
  refine lv_iload_n hx hb dX2_init_23 rfl (lv_at hl 0 rfl) ?_
  have hfsq4 : ∀ j, j < 14 → defaultValue (tyX4 j) = vp_V [.null, .null, .null, .null, .null, .null, .null, .null, .int 0, .int 0, .int 0, .int 0, .int 0, .int 0] j := by
      intro j hj
      match j, hj with
      | 0, _ => rfl
      | 1, _ => rfl
      | 2, _ => rfl
      | 3, _ => rfl
      | 4, _ => rfl
      | 5, _ => rfl
      | 6, _ => rfl
      | 7, _ => rfl
      | 8, _ => rfl
      | 9, _ => rfl
      | 10, _ => rfl
      | 11, _ => rfl
      | 12, _ => rfl
      | 13, _ => rfl
  refine r_mk0 (C := RX4) (fs := [.null, .null, .null, .null, .null, .null, .null, .null, .int 0, .int 0, .int 0, .int 0, .int 0, .int 0]) (ce := 8) (sl := 126) X w hA CL4 wcl_X2_9 wn_X4 wi_X4 hfsq4 dX2_init_24 dX2_init_27 (Nat.le_of_ble_eq_true rfl) (Nat.le_of_ble_eq_true rfl) (fun q H w => r_runI X hAO w (kX4_init l E q) ⟨wm_X2_15, wim_yX4_init, wi_X4, wc_yX4_init, by decide +kernel⟩ ⟨(Nat.le_of_ble_eq_true rfl), (Nat.le_of_ble_eq_true rfl)⟩ _ last_at rfl hl.1 (Nat.le_of_ble_eq_true rfl) dX2_init_28 ⟨(Nat.le_of_ble_eq_true rfl), (Nat.le_of_ble_eq_true rfl)⟩) (fun q4 w2 H locs hK w => ?_)
  obtain ⟨a2, rfl, rfl⟩ := hK
  refine r_astq X w ((([(b, .inr (1, [.ref q1, .int 0])), (q1, .inl (E.2.1.2.2, 4, .inr (.inr (.inr (.inr (va_up (va_up (va_up (fun _ => none) (0 : Int32).toNatClampNeg (some (a0 0))) (1 : Int32).toNatClampNeg (some (a1 0))) (2 : Int32).toNatClampNeg (some (a2 0))))))))] ++ wSt E a0 sgI) ++ wSt E a1 sgI) ++ wSt E a2 sgI) 1 20 rfl rfl (vin_c rfl) rfl dX2_init_31 (fun H locs w => ?_)
  refine lv_iinc (v := 3) (lv' := [(1, .int 3), (0, .ref b)]) hx hb dX2_init_32 hl (k := 0) rfl (by first | rfl | decide) (by decide) rfl (fun ls hl => ?_)
  refine lv_goto (tgt := 14) hx hb dX2_init_35 (by decide) ?_
  refine lv_iload_n hx hb dX2_init_14 rfl (lv_at hl 0 rfl) ?_
  refine lv_iconst (v := 4) hx hb dX2_init_15 (by decide) ?_
  refine lv_icmp_ge (tgt := 38) hx hb dX2_init_16 (by decide) (fun h => absurd h (by decide)) (fun _ => ?_)
  refine lv_aload_n hx hb dX2_init_19 rfl (lv_at hl 1 rfl) ?_
  refine r_get X w CL2 0 (by decide) wf_X2_11 0 rfl rfl dX2_init_20 ?_
  refine lv_iload_n hx hb dX2_init_23 rfl (lv_at hl 0 rfl) ?_
  have hfsq5 : ∀ j, j < 14 → defaultValue (tyX4 j) = vp_V [.null, .null, .null, .null, .null, .null, .null, .null, .int 0, .int 0, .int 0, .int 0, .int 0, .int 0] j := by
      intro j hj
      match j, hj with
      | 0, _ => rfl
      | 1, _ => rfl
      | 2, _ => rfl
      | 3, _ => rfl
      | 4, _ => rfl
      | 5, _ => rfl
      | 6, _ => rfl
      | 7, _ => rfl
      | 8, _ => rfl
      | 9, _ => rfl
      | 10, _ => rfl
      | 11, _ => rfl
      | 12, _ => rfl
      | 13, _ => rfl
  refine r_mk0 (C := RX4) (fs := [.null, .null, .null, .null, .null, .null, .null, .null, .int 0, .int 0, .int 0, .int 0, .int 0, .int 0]) (ce := 8) (sl := 126) X w hA CL4 wcl_X2_9 wn_X4 wi_X4 hfsq5 dX2_init_24 dX2_init_27 (Nat.le_of_ble_eq_true rfl) (Nat.le_of_ble_eq_true rfl) (fun q H w => r_runI X hAO w (kX4_init l E q) ⟨wm_X2_15, wim_yX4_init, wi_X4, wc_yX4_init, by decide +kernel⟩ ⟨(Nat.le_of_ble_eq_true rfl), (Nat.le_of_ble_eq_true rfl)⟩ _ last_at rfl hl.1 (Nat.le_of_ble_eq_true rfl) dX2_init_28 ⟨(Nat.le_of_ble_eq_true rfl), (Nat.le_of_ble_eq_true rfl)⟩) (fun q5 w2 H locs hK w => ?_)
  obtain ⟨a3, rfl, rfl⟩ := hK
  refine r_astq X w (((([(b, .inr (1, [.ref q1, .int 0])), (q1, .inl (E.2.1.2.2, 4, .inr (.inr (.inr (.inr (va_up (va_up (va_up (va_up (fun _ => none) (0 : Int32).toNatClampNeg (some (a0 0))) (1 : Int32).toNatClampNeg (some (a1 0))) (2 : Int32).toNatClampNeg (some (a2 0))) (3 : Int32).toNatClampNeg (some (a3 0))))))))] ++ wSt E a0 sgI) ++ wSt E a1 sgI) ++ wSt E a2 sgI) ++ wSt E a3 sgI) 1 29 rfl rfl (vin_c rfl) rfl dX2_init_31 (fun H locs w => ?_)
  refine lv_iinc (v := 4) (lv' := [(1, .int 4), (0, .ref b)]) hx hb dX2_init_32 hl (k := 0) rfl (by first | rfl | decide) (by decide) rfl (fun ls hl => ?_)
  refine lv_goto (tgt := 14) hx hb dX2_init_35 (by decide) ?_
  refine lv_iload_n hx hb dX2_init_14 rfl (lv_at hl 0 rfl) ?_
  refine lv_iconst (v := 4) hx hb dX2_init_15 (by decide) ?_
  refine lv_icmp_ge (tgt := 38) hx hb dX2_init_16 (by decide) (fun _ => ?_) (fun h => absurd (by decide) h)
  obtain ⟨hh, hhe⟩ : ∃ hh : Nat → Nat → Nat, hh = fun i => [a0, a1, a2, a3].getD i a3 := ⟨_, rfl⟩
  have w := w.arrq 1 (fun i => some (hh ((i + 0) % 4) 0)) rfl (by
    intro j hj
    rw [hhe]
    match j, hj with
    | 0, _ => rfl
    | 1, _ => rfl
    | 2, _ => rfl
    | 3, _ => rfl)
  have w : Wd E (va_A [(b, .inr (1, [.null, .int 0]))] s.heap.size) s (wHs E (adL [b, q1]) hh 0 0 (fun _ => sgI)) H locs := by
    have w2 : Wd E (va_A [(b, .inr (1, [.null, .int 0]))] s.heap.size) s ((((([(b, .inr (1, [.ref q1, .int 0])), (q1, .inl (E.2.1.2.2, 4, .inr (.inr (.inr (.inr (fun i => some (hh ((i + 0) % 4) 0)))))))] ++ wSt E a0 sgI) ++ wSt E a1 sgI) ++ wSt E a2 sgI) ++ wSt E a3 sgI)) H locs := w
    rw [List.append_assoc, List.append_assoc, List.append_assoc] at w2
    have h0 : hh 0 = a0 := by rw [hhe]; rfl
    have h1 : hh 1 = a1 := by rw [hhe]; rfl
    have h2 : hh 2 = a2 := by rw [hhe]; rfl
    have h3 : hh 3 = a3 := by rw [hhe]; rfl
    rw [← h0, ← h1, ← h2, ← h3] at w2
    exact w2
  exact r_nret X w hr (⟨adL [b, q1], hh, rfl, rfl⟩) (Nat.le_of_ble_eq_true rfl) (Nat.le_of_ble_eq_true rfl) dX2_init_38
theorem dX6_init_0 : decode cX6_init 0 = .ok (.aload_n 0, 1) := by decide +kernel
theorem dX6_init_1 : decode cX6_init 1 = .ok (.invokespecial 1, 3) := by decide +kernel
theorem dX6_init_4 : decode cX6_init 4 = .ok (.aload_n 0, 1) := by decide +kernel
theorem dX6_init_5 : decode cX6_init 5 = .ok (.new 7, 3) := by decide +kernel
theorem dX6_init_8 : decode cX6_init 8 = .ok (.dup, 1) := by decide +kernel
theorem dX6_init_9 : decode cX6_init 9 = .ok (.invokespecial 9, 3) := by decide +kernel
theorem dX6_init_12 : decode cX6_init 12 = .ok (.putfield 10, 3) := by decide +kernel
theorem dX6_init_15 : decode cX6_init 15 = .ok (.aload_n 0, 1) := by decide +kernel
theorem dX6_init_16 : decode cX6_init 16 = .ok (.new 7, 3) := by decide +kernel
theorem dX6_init_19 : decode cX6_init 19 = .ok (.dup, 1) := by decide +kernel
theorem dX6_init_20 : decode cX6_init 20 = .ok (.invokespecial 9, 3) := by decide +kernel
theorem dX6_init_23 : decode cX6_init 23 = .ok (.putfield 16, 3) := by decide +kernel
theorem dX6_init_26 : decode cX6_init 26 = .ok (.aload_n 0, 1) := by decide +kernel
theorem dX6_init_27 : decode cX6_init 27 = .ok (.new 7, 3) := by decide +kernel
theorem dX6_init_30 : decode cX6_init 30 = .ok (.dup, 1) := by decide +kernel
theorem dX6_init_31 : decode cX6_init 31 = .ok (.invokespecial 9, 3) := by decide +kernel
theorem dX6_init_34 : decode cX6_init 34 = .ok (.putfield 19, 3) := by decide +kernel
theorem dX6_init_37 : decode cX6_init 37 = .ok (.aload_n 0, 1) := by decide +kernel
theorem dX6_init_38 : decode cX6_init 38 = .ok (.new 22, 3) := by decide +kernel
theorem dX6_init_41 : decode cX6_init 41 = .ok (.dup, 1) := by decide +kernel
theorem dX6_init_42 : decode cX6_init 42 = .ok (.invokespecial 24, 3) := by decide +kernel
theorem dX6_init_45 : decode cX6_init 45 = .ok (.putfield 25, 3) := by decide +kernel
theorem dX6_init_48 : decode cX6_init 48 = .ok (.aload_n 0, 1) := by decide +kernel
theorem dX6_init_49 : decode cX6_init 49 = .ok (.new 29, 3) := by decide +kernel
theorem dX6_init_52 : decode cX6_init 52 = .ok (.dup, 1) := by decide +kernel
theorem dX6_init_53 : decode cX6_init 53 = .ok (.invokespecial 31, 3) := by decide +kernel
theorem dX6_init_56 : decode cX6_init 56 = .ok (.putfield 32, 3) := by decide +kernel
theorem dX6_init_59 : decode cX6_init 59 = .ok (.aload_n 0, 1) := by decide +kernel
theorem dX6_init_60 : decode cX6_init 60 = .ok (.new 36, 3) := by decide +kernel
theorem dX6_init_63 : decode cX6_init 63 = .ok (.dup, 1) := by decide +kernel
theorem dX6_init_64 : decode cX6_init 64 = .ok (.invokespecial 38, 3) := by decide +kernel
theorem dX6_init_67 : decode cX6_init 67 = .ok (.putfield 39, 3) := by decide +kernel
theorem dX6_init_70 : decode cX6_init 70 = .ok (.return_, 1) := by decide +kernel
set_option maxHeartbeats 4000000 in
set_option maxRecDepth 100000 in
theorem kX6_init (l : Launch) (E : Ev) (b : Nat) : KN l yX6_init cX6_init 1 5 160 71 1097 E [.ref b] [(b, .inr (5, [.null, .null, .null, .null, .null, .null, .int 0]))] (fun w2 => ∃ (a1 a2 a3 ah : Nat → Nat) (hh : Nat → Nat → Nat) (a5 : Nat → Nat) (k j : Nat), w2 = wHb b (a1 0) (a2 0) (a3 0) (ah 0) (a5 0) k 0 ++ (wSt E a1 sgI ++ (wSt E a2 sgI ++ (wSt E a3 sgI ++ (wHs E ah hh 0 0 (fun _ => sgI) ++ (wTx E a5 tgI ++ (wSh k j zgI 0 ++ wWk j zgI))))))) := by
  refine KN.mk RX6 rfl (by decide +kernel) (Nat.le_of_ble_eq_true rfl) ?_
  intro p e s m below meth c ls X hnm hAO hr w hl
  have hin : meth.name = "<init>" := hnm
  have hx := X.1
  have hb := X.2.1
  have hA : ∀ q : Nat, s.heap.size ≤ q → va_A [(b, .inr (5, [.null, .null, .null, .null, .null, .null, .int 0]))] s.heap.size q := fun q h => Or.inr h
  have hl : lv_has ls 1 [(0, .ref b)] := hl
  refine lv_aload_n hx hb dX6_init_0 rfl (lv_at hl 0 rfl) ?_
  refine r_obj X wm_X6_1 hl.1 dX6_init_1 (Nat.le_of_ble_eq_true rfl) (Nat.le_of_ble_eq_true rfl) ?_
  refine lv_aload_n hx hb dX6_init_4 rfl (lv_at hl 0 rfl) ?_
  have hfsq1 : ∀ j, j < 14 → defaultValue (tyX4 j) = vp_V [.null, .null, .null, .null, .null, .null, .null, .null, .int 0, .int 0, .int 0, .int 0, .int 0, .int 0] j := by
      intro j hj
      match j, hj with
      | 0, _ => rfl
      | 1, _ => rfl
      | 2, _ => rfl
      | 3, _ => rfl
      | 4, _ => rfl
      | 5, _ => rfl
      | 6, _ => rfl
      | 7, _ => rfl
      | 8, _ => rfl
      | 9, _ => rfl
      | 10, _ => rfl
      | 11, _ => rfl
      | 12, _ => rfl
      | 13, _ => rfl
  refine r_mk0 (C := RX4) (fs := [.null, .null, .null, .null, .null, .null, .null, .null, .int 0, .int 0, .int 0, .int 0, .int 0, .int 0]) (ce := 8) (sl := 126) X w hA CL4 wcl_X6_7 wn_X4 wi_X4 hfsq1 dX6_init_5 dX6_init_8 (Nat.le_of_ble_eq_true rfl) (Nat.le_of_ble_eq_true rfl) (fun q H w => r_runI X hAO w (kX4_init l E q) ⟨wm_X6_9, wim_yX4_init, wi_X4, wc_yX4_init, by decide +kernel⟩ ⟨(Nat.le_of_ble_eq_true rfl), (Nat.le_of_ble_eq_true rfl)⟩ _ last_at rfl hl.1 (Nat.le_of_ble_eq_true rfl) dX6_init_9 ⟨(Nat.le_of_ble_eq_true rfl), (Nat.le_of_ble_eq_true rfl)⟩) (fun q1 w2 H locs hK w => ?_)
  obtain ⟨a1, rfl, rfl⟩ := hK
  refine r_putF X w ([(b, .inr (5, [.ref (a1 0), .null, .null, .null, .null, .null, .int 0]))] ++ wSt E a1 sgI) CL6 0 (by decide) wf_X6_10 0 rfl rfl hin rfl rfl rfl (Nat.le_of_ble_eq_true rfl) rfl dX6_init_12 (fun H locs w => ?_)
  refine lv_aload_n hx hb dX6_init_15 rfl (lv_at hl 0 rfl) ?_
  have hfsq2 : ∀ j, j < 14 → defaultValue (tyX4 j) = vp_V [.null, .null, .null, .null, .null, .null, .null, .null, .int 0, .int 0, .int 0, .int 0, .int 0, .int 0] j := by
      intro j hj
      match j, hj with
      | 0, _ => rfl
      | 1, _ => rfl
      | 2, _ => rfl
      | 3, _ => rfl
      | 4, _ => rfl
      | 5, _ => rfl
      | 6, _ => rfl
      | 7, _ => rfl
      | 8, _ => rfl
      | 9, _ => rfl
      | 10, _ => rfl
      | 11, _ => rfl
      | 12, _ => rfl
      | 13, _ => rfl
  refine r_mk0 (C := RX4) (fs := [.null, .null, .null, .null, .null, .null, .null, .null, .int 0, .int 0, .int 0, .int 0, .int 0, .int 0]) (ce := 8) (sl := 126) X w hA CL4 wcl_X6_7 wn_X4 wi_X4 hfsq2 dX6_init_16 dX6_init_19 (Nat.le_of_ble_eq_true rfl) (Nat.le_of_ble_eq_true rfl) (fun q H w => r_runI X hAO w (kX4_init l E q) ⟨wm_X6_9, wim_yX4_init, wi_X4, wc_yX4_init, by decide +kernel⟩ ⟨(Nat.le_of_ble_eq_true rfl), (Nat.le_of_ble_eq_true rfl)⟩ _ last_at rfl hl.1 (Nat.le_of_ble_eq_true rfl) dX6_init_20 ⟨(Nat.le_of_ble_eq_true rfl), (Nat.le_of_ble_eq_true rfl)⟩) (fun q2 w2 H locs hK w => ?_)
  obtain ⟨a2, rfl, rfl⟩ := hK
  refine r_putF X w (([(b, .inr (5, [.ref (a1 0), .ref (a2 0), .null, .null, .null, .null, .int 0]))] ++ wSt E a1 sgI) ++ wSt E a2 sgI) CL6 1 (by decide) wf_X6_16 0 rfl rfl hin rfl rfl rfl (Nat.le_of_ble_eq_true rfl) rfl dX6_init_23 (fun H locs w => ?_)
  refine lv_aload_n hx hb dX6_init_26 rfl (lv_at hl 0 rfl) ?_
  have hfsq3 : ∀ j, j < 14 → defaultValue (tyX4 j) = vp_V [.null, .null, .null, .null, .null, .null, .null, .null, .int 0, .int 0, .int 0, .int 0, .int 0, .int 0] j := by
      intro j hj
      match j, hj with
      | 0, _ => rfl
      | 1, _ => rfl
      | 2, _ => rfl
      | 3, _ => rfl
      | 4, _ => rfl
      | 5, _ => rfl
      | 6, _ => rfl
      | 7, _ => rfl
      | 8, _ => rfl
      | 9, _ => rfl
      | 10, _ => rfl
      | 11, _ => rfl
      | 12, _ => rfl
      | 13, _ => rfl
  refine r_mk0 (C := RX4) (fs := [.null, .null, .null, .null, .null, .null, .null, .null, .int 0, .int 0, .int 0, .int 0, .int 0, .int 0]) (ce := 8) (sl := 126) X w hA CL4 wcl_X6_7 wn_X4 wi_X4 hfsq3 dX6_init_27 dX6_init_30 (Nat.le_of_ble_eq_true rfl) (Nat.le_of_ble_eq_true rfl) (fun q H w => r_runI X hAO w (kX4_init l E q) ⟨wm_X6_9, wim_yX4_init, wi_X4, wc_yX4_init, by decide +kernel⟩ ⟨(Nat.le_of_ble_eq_true rfl), (Nat.le_of_ble_eq_true rfl)⟩ _ last_at rfl hl.1 (Nat.le_of_ble_eq_true rfl) dX6_init_31 ⟨(Nat.le_of_ble_eq_true rfl), (Nat.le_of_ble_eq_true rfl)⟩) (fun q3 w2 H locs hK w => ?_)
  obtain ⟨a3, rfl, rfl⟩ := hK
  refine r_putF X w ((([(b, .inr (5, [.ref (a1 0), .ref (a2 0), .ref (a3 0), .null, .null, .null, .int 0]))] ++ wSt E a1 sgI) ++ wSt E a2 sgI) ++ wSt E a3 sgI) CL6 2 (by decide) wf_X6_19 0 rfl rfl hin rfl rfl rfl (Nat.le_of_ble_eq_true rfl) rfl dX6_init_34 (fun H locs w => ?_)
  refine lv_aload_n hx hb dX6_init_37 rfl (lv_at hl 0 rfl) ?_
  have hfsq4 : ∀ j, j < 2 → defaultValue (tyX2 j) = vp_V [.null, .int 0] j := by
      intro j hj
      match j, hj with
      | 0, _ => rfl
      | 1, _ => rfl
  refine r_mk0 (C := RX2) (fs := [.null, .int 0]) (ce := 37) (sl := 564) X w hA CL2 wcl_X6_22 wn_X2 wi_X2 hfsq4 dX6_init_38 dX6_init_41 (Nat.le_of_ble_eq_true rfl) (Nat.le_of_ble_eq_true rfl) (fun q H w => r_runI X hAO w (kX2_init l E q) ⟨wm_X6_24, wim_yX2_init, wi_X2, wc_yX2_init, by decide +kernel⟩ ⟨(Nat.le_of_ble_eq_true rfl), (Nat.le_of_ble_eq_true rfl)⟩ _ last_at rfl hl.1 (Nat.le_of_ble_eq_true rfl) dX6_init_42 ⟨(Nat.le_of_ble_eq_true rfl), (Nat.le_of_ble_eq_true rfl)⟩) (fun q4 w2 H locs hK w => ?_)
  obtain ⟨ah, hh, rfl, rfl⟩ := hK
  refine r_putF X w (((([(b, .inr (5, [.ref (a1 0), .ref (a2 0), .ref (a3 0), .ref (ah 0), .null, .null, .int 0]))] ++ wSt E a1 sgI) ++ wSt E a2 sgI) ++ wSt E a3 sgI) ++ wHs E ah hh 0 0 (fun _ => sgI)) CL6 3 (by decide) wf_X6_25 0 rfl rfl hin rfl rfl rfl (Nat.le_of_ble_eq_true rfl) rfl dX6_init_45 (fun H locs w => ?_)
  refine lv_aload_n hx hb dX6_init_48 rfl (lv_at hl 0 rfl) ?_
  have hfsq5 : ∀ j, j < 7 → defaultValue (tyX0 j) = vp_V [.null, .int 0, .null, .null, .int 0, .int 0, .int 0] j := by
      intro j hj
      match j, hj with
      | 0, _ => rfl
      | 1, _ => rfl
      | 2, _ => rfl
      | 3, _ => rfl
      | 4, _ => rfl
      | 5, _ => rfl
      | 6, _ => rfl
  refine r_mk0 (C := RX0) (fs := [.null, .int 0, .null, .null, .int 0, .int 0, .int 0]) (ce := 3) (sl := 92) X w hA CL0 wcl_X6_29 wn_X0 wi_X0 hfsq5 dX6_init_49 dX6_init_52 (Nat.le_of_ble_eq_true rfl) (Nat.le_of_ble_eq_true rfl) (fun q H w => r_runIN X hAO w (kX0_init l E q) ⟨nl_28, wim_yX0_init, wi_X0, wc_yX0_init, by decide +kernel⟩ ⟨(Nat.le_of_ble_eq_true rfl), (Nat.le_of_ble_eq_true rfl)⟩ _ last_at rfl hl.1 (Nat.le_of_ble_eq_true rfl) dX6_init_53 ⟨(Nat.le_of_ble_eq_true rfl), (Nat.le_of_ble_eq_true rfl)⟩) (fun q5 w2 H locs hK w => ?_)
  obtain ⟨a5, rfl, rfl⟩ := hK
  refine r_putF X w ((((([(b, .inr (5, [.ref (a1 0), .ref (a2 0), .ref (a3 0), .ref (ah 0), .ref (a5 0), .null, .int 0]))] ++ wSt E a1 sgI) ++ wSt E a2 sgI) ++ wSt E a3 sgI) ++ wHs E ah hh 0 0 (fun _ => sgI)) ++ wTx E a5 tgI) CL6 4 (by decide) wf_X6_32 0 rfl rfl hin rfl rfl rfl (Nat.le_of_ble_eq_true rfl) rfl dX6_init_56 (fun H locs w => ?_)
  refine lv_aload_n hx hb dX6_init_59 rfl (lv_at hl 0 rfl) ?_
  have hfsq6 : ∀ j, j < 9 → defaultValue (tyX3 j) = vp_V [.null, .int 0, .float 0, .int 0, .int 0, .int 0, .int 0, .int 0, .int 0] j := by
      intro j hj
      match j, hj with
      | 0, _ => rfl
      | 1, _ => rfl
      | 2, _ => rfl
      | 3, _ => rfl
      | 4, _ => rfl
      | 5, _ => rfl
      | 6, _ => rfl
      | 7, _ => rfl
      | 8, _ => rfl
  refine r_mk0 (C := RX3) (fs := [.null, .int 0, .float 0, .int 0, .int 0, .int 0, .int 0, .int 0, .int 0]) (ce := 1) (sl := 3) X w hA CL3 wcl_X6_36 wn_X3 wi_X3 hfsq6 dX6_init_60 dX6_init_63 (Nat.le_of_ble_eq_true rfl) (Nat.le_of_ble_eq_true rfl) (fun q H w => r_runIN X hAO w (kX3_init l E q) ⟨nl_29, wim_yX3_init, wi_X3, wc_yX3_init, by decide +kernel⟩ ⟨(Nat.le_of_ble_eq_true rfl), (Nat.le_of_ble_eq_true rfl)⟩ _ last_at rfl hl.1 (Nat.le_of_ble_eq_true rfl) dX6_init_64 ⟨(Nat.le_of_ble_eq_true rfl), (Nat.le_of_ble_eq_true rfl)⟩) (fun q6 w2 H locs hK w => ?_)
  obtain ⟨j, rfl⟩ := hK
  refine r_putF X w (((((([(b, .inr (5, [.ref (a1 0), .ref (a2 0), .ref (a3 0), .ref (ah 0), .ref (a5 0), .ref q6, .int 0]))] ++ wSt E a1 sgI) ++ wSt E a2 sgI) ++ wSt E a3 sgI) ++ wHs E ah hh 0 0 (fun _ => sgI)) ++ wTx E a5 tgI) ++ (wSh q6 j zgI 0 ++ wWk j zgI)) CL6 5 (by decide) wf_X6_39 0 rfl rfl hin rfl rfl rfl (Nat.le_of_ble_eq_true rfl) rfl dX6_init_67 (fun H locs w => ?_)
  rw [List.append_assoc, List.append_assoc, List.append_assoc, List.append_assoc, List.append_assoc] at w
  exact r_nret X w hr (⟨a1, a2, a3, ah, hh, a5, q6, j, rfl⟩) (Nat.le_of_ble_eq_true rfl) (Nat.le_of_ble_eq_true rfl) dX6_init_70
end
section
/-! p24: a state of the class as the image of a row of 73 (printed by wip/p24/p30.py) -/
theorem ix_c {c x : Int32} {n : Nat} (hc : 0 ≤ c.toInt) (hx : 0 ≤ x.toInt) (hn : c.toInt + x.toInt < n) (hn2 : n ≤ 1000) : vp_in (c + x) n := by
  rw [vp_in_iff, ti_add (by omega) (by omega)]
  omega
theorem ix_v {c x : Int32} {n m : Nat} (h : vp_in x m) (hc : 0 ≤ c.toInt) (hn : c.toInt + m ≤ n) (hn2 : n ≤ 1000) : vp_in (c + x) n := by
  rw [vp_in_iff] at h
  exact ix_c hc h.1 (by omega) hn2
def boN (f : N1) (ce : Int32) : Nat → Nat → Int32
  | 0, _ => (-5)
  | n + 1, k => if f (13 + nI k).toNatClampNeg = ce then nI k else boN f ce n (k + 1)
theorem u2_row {μ : N2} {a b i : Nat} {v : Int32} (h : ¬ i = a) : u2 μ a b v i = μ i := by
  unfold u2 va_up
  exact if_neg h
theorem u2_at {μ : N2} {a b j : Nat} {v : Int32} : u2 μ a b v a j = if j = b then v else μ a j := by
  unfold u2 va_up upd
  simp only [if_pos]
theorem u2_self {μ : N2} {a b : Nat} {v : Int32} : u2 μ a b v a = upd (μ a) b v := by
  funext j
  rw [u2_at]
  rfl
theorem cl_nat {k : Nat} (h : k < 1000) : (Int32.ofNat k).toNatClampNeg = k := by
  have h2 : (Int32.ofNat k).toInt = (k : Int) := Int32.toInt_ofNat_of_lt (by omega)
  show (Int32.ofNat k).toInt.toNat = k
  rw [h2]
  rfl
theorem vin_cases {x : Int32} {n : Nat} (h : vp_in x n) : ∃ k, k < n ∧ x = Int32.ofNat k := by
  rw [vp_in_iff] at h
  have h3 : x.toInt < 2147483648 := Int32.toInt_lt x
  refine ⟨x.toInt.toNat, by omega, Int32.toInt_inj.mp ?_⟩
  rw [Int32.toInt_ofNat_of_lt (by omega)]
  omega
theorem row_ix : ∀ k : Fin 12, (13 + Int32.ofNat k.val).toNatClampNeg = 13 + k.val ∧ (25 + Int32.ofNat k.val).toNatClampNeg = 25 + k.val ∧ (37 + Int32.ofNat k.val).toNatClampNeg = 37 + k.val ∧ (49 + Int32.ofNat k.val).toNatClampNeg = 49 + k.val ∧ (61 + Int32.ofNat k.val).toNatClampNeg = 61 + k.val := by decide +kernel
def tQ (c : Nat) : Int32 := ([0, 1, 2, 3, 4, -1, 0, 1, 2, 3, 4, -2, -1, 0, 1, 2, 3, 4, -3, -2, -1, 0, 1, 2, 3, 4, -4, -3, -2, -1, 0, 1, 2, 3, 4, -4, -3, -2, -1, 0, 1, 2, 3, -4, -3, -2, -1, 0, 1, 2, -4, -3, -2, -1, 0, 1, -4, -3, -2, -1, 0] : List Int32).getD c 0
def tR (c : Nat) : Int32 := ([-4, -4, -4, -4, -4, -3, -3, -3, -3, -3, -3, -2, -2, -2, -2, -2, -2, -2, -1, -1, -1, -1, -1, -1, -1, -1, 0, 0, 0, 0, 0, 0, 0, 0, 0, 1, 1, 1, 1, 1, 1, 1, 1, 2, 2, 2, 2, 2, 2, 2, 3, 3, 3, 3, 3, 3, 4, 4, 4, 4, 4] : List Int32).getD c 0
def tuD (q r w : Int32) : Int32 := if (fX1_isOut (q + (fX1_stepQ w))) = 0 then (if (fX1_isOut (r + (fX1_stepR w))) = 0 then (fX1_turned (-w) 2) else (if (fX1_isOut ((q + (fX1_stepQ w)) + (r + (fX1_stepR w)))) = 0 then (fX1_turned (-w) 0) else (fX1_turned w 3))) else (if (fX1_isOut (r + (fX1_stepR w))) = 0 then (if (fX1_isOut ((q + (fX1_stepQ w)) + (r + (fX1_stepR w)))) = 0 then (fX1_turned (-w) 4) else (fX1_turned w 3)) else (fX1_turned w 3))
/-- rows of numbers that may be played on -/
def gA (f : N1) : Prop := (0 ≤ (f 12).toInt ∧ (f 12).toInt ≤ 12) ∧ (∀ b : Nat, b < 12 → vp_in (f (13 + b)) 61 ∨ f (13 + b) = (-5)) ∧ True
def ahC (c w : Int32) : Int32 := fX1_cellAt (tQ c.toNatClampNeg + fX1_stepQ w) (tR c.toNatClampNeg + fX1_stepR w)
def tuC (c w : Int32) : Int32 := tuD (tQ c.toNatClampNeg) (tR c.toNatClampNeg) w
def coC (c : Int32) : Int32 := fX1_cornerOf c
def nxC (w : Int32) : Int32 := (w + 1) - (w + 1) / 6 * 6
theorem fin_ah : ∀ c : Fin 61, ∀ w : Fin 6, ahC (.ofNat c.val) (.ofNat w.val) = (-5) ∨ ¬ (ahC (.ofNat c.val) (.ofNat w.val) < 0 ∨ 61 ≤ (ahC (.ofNat c.val) (.ofNat w.val)).toNatClampNeg) := by decide +kernel
theorem fin_tu : ∀ c : Fin 61, ∀ w : Fin 6, ahC (.ofNat c.val) (.ofNat w.val) = (-5) → (¬ (tuC (.ofNat c.val) (.ofNat w.val) < 0 ∨ 6 ≤ (tuC (.ofNat c.val) (.ofNat w.val)).toNatClampNeg)) ∧ ¬ ahC (.ofNat c.val) (tuC (.ofNat c.val) (.ofNat w.val)) = (-5) := by decide +kernel
theorem fin_nx : ∀ w : Fin 6, ¬ (nxC (.ofNat w.val) < 0 ∨ 6 ≤ (nxC (.ofNat w.val)).toNatClampNeg) := by decide +kernel
theorem gA_upd {f : N1} {j : Nat} {x : Int32} (hA : gA f) (hj : 25 ≤ j) : gA (upd f j x) := by
  have hne : ∀ i, i < 25 → upd f j x i = f i := by
    intro i hi
    unfold upd
    exact if_neg (by omega)
  unfold gA
  rw [hne 12 (by decide)]
  refine ⟨hA.1, fun b hb => ?_, trivial⟩
  rw [hne (13 + b) (by omega)]
  exact hA.2.1 b hb
theorem gA_cell {f : N1} {b : Nat} {x : Int32} (hA : gA f) (hx : vp_in x 61 ∨ x = (-5)) : gA (upd f (13 + b) x) := by
  have hne : ∀ i, i < 13 → upd f (13 + b) x i = f i := by
    intro i hi
    unfold upd
    exact if_neg (by omega)
  unfold gA
  rw [hne 12 (by decide)]
  refine ⟨hA.1, fun c hc => ?_, trivial⟩
  unfold upd
  split
  · exact hx
  · exact hA.2.1 c hc
theorem upd_at {f : N1} {j : Nat} {x : Int32} : upd f j x j = x := by simp [upd]
theorem upd_ne {f : N1} {i j : Nat} {x : Int32} (h : ¬ i = j) : upd f j x i = f i := by simp [upd, h]
theorem nI_c {k : Nat} (h : k < 1000) : (nI k).toNatClampNeg = k := nI_clamp (by omega)
theorem ix13 {k : Nat} (h : k < 12) : (13 + nI k).toNatClampNeg = 13 + k := (row_ix ⟨k, h⟩).1
theorem ix25 {k : Nat} (h : k < 12) : (25 + nI k).toNatClampNeg = 25 + k := (row_ix ⟨k, h⟩).2.1
theorem nI_inj {a b : Nat} (ha : a < 1000) (hb : b < 1000) (h : nI a = nI b) : a = b := by
  have := congrArg Int32.toNatClampNeg h
  rw [nI_c ha, nI_c hb] at this
  exact this
theorem nI_no {c : Nat} (h : c < 1000) : ¬ nI c = (-5) := by
  intro q
  have h1 : (nI c).toInt = (c : Int) := Int32.toInt_ofNat_of_lt (show c < 2147483648 by omega)
  rw [q] at h1
  have h2 : ((-5) : Int32).toInt = -5 := rfl
  omega
theorem vin_nI {x : Int32} {n : Nat} (h : vp_in x n) : ∃ k, k < n ∧ x = nI k := vin_cases h
def bo (f : N1) (c : Nat) : Int32 := boN f (nI c) 12 0
/-- the class's state of a row -/
def cls (f : N1) : N2 := fun i j =>
  if i = 0 then (if j < 12 then f (13 + j) else (-5))
  else if i = 1 then (if j < 12 then f (25 + j) else 0)
  else if i = 2 then (if j < 12 then f (37 + j) else 0)
  else if i = 3 then (if j < 12 then f (49 + j) else 0)
  else if i = 4 then (if j < 12 then f (61 + j) else 0)
  else if i = 5 then (if j < 61 then bo f j else (-5))
  else if i = 6 then (if j < 3 then f j else 0)
  else if i = 7 then (if j < 2 then f (6 + j) else 0)
  else if i = 8 then (if j = 0 then f 12 else if j = 1 then f 3 else if j = 2 then f 4 else if j = 3 then f 5 else if j = 4 then f 8 else if j = 5 then f 9 else 0)
  else 0
theorem cls_0 {f : N1} {j : Nat} (h : j < 12) : cls f 0 j = f (13 + j) := by simp [cls, h]
theorem cls_1 {f : N1} {j : Nat} (h : j < 12) : cls f 1 j = f (25 + j) := by simp [cls, h]
theorem cls_2 {f : N1} {j : Nat} (h : j < 12) : cls f 2 j = f (37 + j) := by simp [cls, h]
theorem cls_3 {f : N1} {j : Nat} (h : j < 12) : cls f 3 j = f (49 + j) := by simp [cls, h]
theorem cls_4 {f : N1} {j : Nat} (h : j < 12) : cls f 4 j = f (61 + j) := by simp [cls, h]
theorem cls_5 {f : N1} {j : Nat} (h : j < 61) : cls f 5 j = bo f j := by simp [cls, h]
theorem cls_6 {f : N1} {j : Nat} (h : j < 3) : cls f 6 j = f j := by simp [cls, h]
theorem cls_7 {f : N1} {j : Nat} (h : j < 2) : cls f 7 j = f (6 + j) := by simp [cls, h]
theorem cls_80 {f : N1} : cls f 8 0 = f 12 := by simp [cls]
theorem cls_81 {f : N1} : cls f 8 1 = f 3 := by simp [cls]
theorem cls_82 {f : N1} : cls f 8 2 = f 4 := by simp [cls]
theorem cls_83 {f : N1} : cls f 8 3 = f 5 := by simp [cls]
theorem cls_84 {f : N1} : cls f 8 4 = f 8 := by simp [cls]
theorem cls_85 {f : N1} : cls f 8 5 = f 9 := by simp [cls]
theorem boN_spec (f : N1) (ce : Int32) : ∀ (n k : Nat), k + n ≤ 12 → (boN f ce n k = (-5) ∧ ∀ j, k ≤ j → j < k + n → ¬ f (13 + j) = ce) ∨ ∃ j, k ≤ j ∧ j < k + n ∧ boN f ce n k = nI j ∧ f (13 + j) = ce := by
  intro n
  induction n with
  | zero => intro k hk; exact Or.inl ⟨rfl, fun j h1 h2 => by omega⟩
  | succ n ih =>
    intro k hk
    unfold boN
    rw [ix13 (show k < 12 by omega)]
    by_cases h : f (13 + k) = ce
    · rw [if_pos h]
      exact Or.inr ⟨k, Nat.le_refl _, by omega, rfl, h⟩
    · rw [if_neg h]
      rcases ih (k + 1) (by omega) with ⟨h1, h2⟩ | ⟨j, h1, h2, h3, h4⟩
      · refine Or.inl ⟨h1, fun j h3 h4 => ?_⟩
        by_cases hj : j = k
        · rw [hj]; exact h
        · exact h2 j (by omega) (by omega)
      · exact Or.inr ⟨j, by omega, by omega, h3, h4⟩
theorem boN_congr {f g : N1} {ce : Int32} : ∀ (n k : Nat), k + n ≤ 12 → (∀ b, b < 12 → f (13 + b) = g (13 + b)) → boN f ce n k = boN g ce n k := by
  intro n
  induction n with
  | zero => intro k hk h; rfl
  | succ n ih =>
    intro k hk h
    unfold boN
    rw [ix13 (show k < 12 by omega), h k (by omega), ih (k + 1) (by omega) h]
theorem bo_congr {f g : N1} {c : Nat} (h : ∀ b, b < 12 → f (13 + b) = g (13 + b)) : bo f c = bo g c := boN_congr 12 0 (by omega) h
theorem bo_spec (f : N1) (c : Nat) : (bo f c = (-5) ∧ ∀ j, j < 12 → ¬ f (13 + j) = nI c) ∨ ∃ j, j < 12 ∧ bo f c = nI j ∧ f (13 + j) = nI c := by
  rcases boN_spec f (nI c) 12 0 (by omega) with ⟨h1, h2⟩ | ⟨j, h1, h2, h3, h4⟩
  · exact Or.inl ⟨h1, fun j hj => h2 j (by omega) (by omega)⟩
  · exact Or.inr ⟨j, by omega, h3, h4⟩
/-- no two balls on a cell; balls still to come are away; whose turn -/
def gD (f : N1) : Prop := ∀ a b, a < 12 → b < 12 → f (13 + a) = f (13 + b) → f (13 + a) = (-5) ∨ a = b
def gR (f : N1) : Prop := ∀ b : Nat, b < 12 → (f 12).toInt ≤ (b : Int) → f (13 + b) = (-5)
def gU (f : N1) : Prop := f 4 = 0 ∨ f 4 = 1
def gF (f : N1) : Prop := gA f ∧ gD f ∧ gR f ∧ gU f
theorem bo_one {f : N1} {c k : Nat} (hD : gD f) (hc : c < 61) (hk : k < 12) (h : f (13 + k) = nI c) : bo f c = nI k := by
  rcases bo_spec f c with ⟨h1, h2⟩ | ⟨j, h1, h2, h3⟩
  · exact absurd h (h2 k hk)
  · rcases hD j k h1 hk (h3.trans h.symm) with h4 | h4
    · exact absurd (h3.symm.trans h4) (nI_no (by omega))
    · rw [h2, h4]
theorem bo_non {f : N1} {c : Nat} (h : ∀ j, j < 12 → ¬ f (13 + j) = nI c) : bo f c = (-5) := by
  rcases bo_spec f c with ⟨h1, -⟩ | ⟨j, h1, -, h3⟩
  · exact h1
  · exact absurd h3 (h j h1)
theorem cls_r0 {f g : N1} (h : ∀ b, b < 12 → f (13 + b) = g (13 + b)) : cls f 0 = cls g 0 := by
  funext j
  by_cases hj : j < 12
  · rw [cls_0 hj, cls_0 hj, h j hj]
  · simp [cls, hj]
theorem cls_r1 {f g : N1} (h : ∀ b, b < 12 → f (25 + b) = g (25 + b)) : cls f 1 = cls g 1 := by
  funext j
  by_cases hj : j < 12
  · rw [cls_1 hj, cls_1 hj, h j hj]
  · simp [cls, hj]
theorem cls_r2 {f g : N1} (h : ∀ b, b < 12 → f (37 + b) = g (37 + b)) : cls f 2 = cls g 2 := by
  funext j
  by_cases hj : j < 12
  · rw [cls_2 hj, cls_2 hj, h j hj]
  · simp [cls, hj]
theorem cls_r3 {f g : N1} (h : ∀ b, b < 12 → f (49 + b) = g (49 + b)) : cls f 3 = cls g 3 := by
  funext j
  by_cases hj : j < 12
  · rw [cls_3 hj, cls_3 hj, h j hj]
  · simp [cls, hj]
theorem cls_r4 {f g : N1} (h : ∀ b, b < 12 → f (61 + b) = g (61 + b)) : cls f 4 = cls g 4 := by
  funext j
  by_cases hj : j < 12
  · rw [cls_4 hj, cls_4 hj, h j hj]
  · simp [cls, hj]
theorem cls_r5 {f g : N1} (h : ∀ b, b < 12 → f (13 + b) = g (13 + b)) : cls f 5 = cls g 5 := by
  funext j
  by_cases hj : j < 61
  · rw [cls_5 hj, cls_5 hj, bo_congr h]
  · simp [cls, hj]
theorem cls_r6 {f g : N1} (h : ∀ b, b < 3 → f b = g b) : cls f 6 = cls g 6 := by
  funext j
  by_cases hj : j < 3
  · rw [cls_6 hj, cls_6 hj, h j hj]
  · simp [cls, hj]
theorem cls_r7 {f g : N1} (h : ∀ b, b < 2 → f (6 + b) = g (6 + b)) : cls f 7 = cls g 7 := by
  funext j
  by_cases hj : j < 2
  · rw [cls_7 hj, cls_7 hj, h j hj]
  · simp [cls, hj]
theorem cls_r8 {f g : N1} (h : f 12 = g 12 ∧ f 3 = g 3 ∧ f 4 = g 4 ∧ f 5 = g 5 ∧ f 8 = g 8 ∧ f 9 = g 9) : cls f 8 = cls g 8 := by
  obtain ⟨h1, h2, h3, h4, h5, h6⟩ := h
  funext j
  simp [cls, h1, h2, h3, h4, h5, h6]
theorem cls_hi {f : N1} {i : Nat} (h : 9 ≤ i) : cls f i = fun _ => 0 := by
  funext j
  simp [cls, show ¬ i = 0 by omega, show ¬ i = 1 by omega, show ¬ i = 2 by omega, show ¬ i = 3 by omega, show ¬ i = 4 by omega, show ¬ i = 5 by omega, show ¬ i = 6 by omega, show ¬ i = 7 by omega, show ¬ i = 8 by omega]
theorem cls_rows {σ : N2} {g : N1} (h0 : σ 0 = cls g 0) (h1 : σ 1 = cls g 1) (h2 : σ 2 = cls g 2) (h3 : σ 3 = cls g 3) (h4 : σ 4 = cls g 4) (h5 : σ 5 = cls g 5) (h6 : σ 6 = cls g 6) (h7 : σ 7 = cls g 7) (h8 : σ 8 = cls g 8) (h9 : ∀ i, 9 ≤ i → σ i = fun _ => 0) : σ = cls g := by
  funext i
  match i with
  | 0 => exact h0
  | 1 => exact h1
  | 2 => exact h2
  | 3 => exact h3
  | 4 => exact h4
  | 5 => exact h5
  | 6 => exact h6
  | 7 => exact h7
  | 8 => exact h8
  | i + 9 => rw [h9 (i + 9) (by omega), cls_hi (by omega)]
theorem cls_same {f g : N1} (h : ∀ j, j < 73 → f j = g j) : cls f = cls g :=
  cls_rows (cls_r0 fun b hb => h _ (by omega)) (cls_r1 fun b hb => h _ (by omega)) (cls_r2 fun b hb => h _ (by omega)) (cls_r3 fun b hb => h _ (by omega)) (cls_r4 fun b hb => h _ (by omega)) (cls_r5 fun b hb => h _ (by omega)) (cls_r6 fun b hb => h _ (by omega)) (cls_r7 fun b hb => h _ (by omega)) (cls_r8 ⟨h _ (by omega), h _ (by omega), h _ (by omega), h _ (by omega), h _ (by omega), h _ (by omega)⟩) (fun i hi => cls_hi hi)
theorem cls_u1 {f : N1} {k : Nat} {x : Int32} (hk : k < 12) : u2 (cls f) 1 k x = cls (upd f (25 + k) x) :=
  cls_rows (by rw [u2_row (by decide)]; exact cls_r0 fun b hb => (upd_ne (by omega)).symm) (by
    funext j
    rw [u2_at]
    by_cases hj : j = k
    · rw [if_pos hj, hj, cls_1 hk, upd_at]
    · rw [if_neg hj]
      by_cases h2 : j < 12
      · rw [cls_1 h2, cls_1 h2, upd_ne (by omega)]
      · simp [cls, h2]) (by rw [u2_row (by decide)]; exact cls_r2 fun b hb => (upd_ne (by omega)).symm) (by rw [u2_row (by decide)]; exact cls_r3 fun b hb => (upd_ne (by omega)).symm) (by rw [u2_row (by decide)]; exact cls_r4 fun b hb => (upd_ne (by omega)).symm) (by rw [u2_row (by decide)]; exact cls_r5 fun b hb => (upd_ne (by omega)).symm) (by rw [u2_row (by decide)]; exact cls_r6 fun b hb => (upd_ne (by omega)).symm) (by rw [u2_row (by decide)]; exact cls_r7 fun b hb => (upd_ne (by omega)).symm) (by rw [u2_row (by decide)]; exact cls_r8 ⟨(upd_ne (by omega)).symm, (upd_ne (by omega)).symm, (upd_ne (by omega)).symm, (upd_ne (by omega)).symm, (upd_ne (by omega)).symm, (upd_ne (by omega)).symm⟩) (fun i hi => by rw [u2_row (by omega)]; exact cls_hi hi)
theorem cls_u2 {f : N1} {k : Nat} {x : Int32} (hk : k < 12) : u2 (cls f) 2 k x = cls (upd f (37 + k) x) :=
  cls_rows (by rw [u2_row (by decide)]; exact cls_r0 fun b hb => (upd_ne (by omega)).symm) (by rw [u2_row (by decide)]; exact cls_r1 fun b hb => (upd_ne (by omega)).symm) (by
    funext j
    rw [u2_at]
    by_cases hj : j = k
    · rw [if_pos hj, hj, cls_2 hk, upd_at]
    · rw [if_neg hj]
      by_cases h2 : j < 12
      · rw [cls_2 h2, cls_2 h2, upd_ne (by omega)]
      · simp [cls, h2]) (by rw [u2_row (by decide)]; exact cls_r3 fun b hb => (upd_ne (by omega)).symm) (by rw [u2_row (by decide)]; exact cls_r4 fun b hb => (upd_ne (by omega)).symm) (by rw [u2_row (by decide)]; exact cls_r5 fun b hb => (upd_ne (by omega)).symm) (by rw [u2_row (by decide)]; exact cls_r6 fun b hb => (upd_ne (by omega)).symm) (by rw [u2_row (by decide)]; exact cls_r7 fun b hb => (upd_ne (by omega)).symm) (by rw [u2_row (by decide)]; exact cls_r8 ⟨(upd_ne (by omega)).symm, (upd_ne (by omega)).symm, (upd_ne (by omega)).symm, (upd_ne (by omega)).symm, (upd_ne (by omega)).symm, (upd_ne (by omega)).symm⟩) (fun i hi => by rw [u2_row (by omega)]; exact cls_hi hi)
theorem cls_u3 {f : N1} {k : Nat} {x : Int32} (hk : k < 12) : u2 (cls f) 3 k x = cls (upd f (49 + k) x) :=
  cls_rows (by rw [u2_row (by decide)]; exact cls_r0 fun b hb => (upd_ne (by omega)).symm) (by rw [u2_row (by decide)]; exact cls_r1 fun b hb => (upd_ne (by omega)).symm) (by rw [u2_row (by decide)]; exact cls_r2 fun b hb => (upd_ne (by omega)).symm) (by
    funext j
    rw [u2_at]
    by_cases hj : j = k
    · rw [if_pos hj, hj, cls_3 hk, upd_at]
    · rw [if_neg hj]
      by_cases h2 : j < 12
      · rw [cls_3 h2, cls_3 h2, upd_ne (by omega)]
      · simp [cls, h2]) (by rw [u2_row (by decide)]; exact cls_r4 fun b hb => (upd_ne (by omega)).symm) (by rw [u2_row (by decide)]; exact cls_r5 fun b hb => (upd_ne (by omega)).symm) (by rw [u2_row (by decide)]; exact cls_r6 fun b hb => (upd_ne (by omega)).symm) (by rw [u2_row (by decide)]; exact cls_r7 fun b hb => (upd_ne (by omega)).symm) (by rw [u2_row (by decide)]; exact cls_r8 ⟨(upd_ne (by omega)).symm, (upd_ne (by omega)).symm, (upd_ne (by omega)).symm, (upd_ne (by omega)).symm, (upd_ne (by omega)).symm, (upd_ne (by omega)).symm⟩) (fun i hi => by rw [u2_row (by omega)]; exact cls_hi hi)
theorem cls_u4 {f : N1} {k : Nat} {x : Int32} (hk : k < 12) : u2 (cls f) 4 k x = cls (upd f (61 + k) x) :=
  cls_rows (by rw [u2_row (by decide)]; exact cls_r0 fun b hb => (upd_ne (by omega)).symm) (by rw [u2_row (by decide)]; exact cls_r1 fun b hb => (upd_ne (by omega)).symm) (by rw [u2_row (by decide)]; exact cls_r2 fun b hb => (upd_ne (by omega)).symm) (by rw [u2_row (by decide)]; exact cls_r3 fun b hb => (upd_ne (by omega)).symm) (by
    funext j
    rw [u2_at]
    by_cases hj : j = k
    · rw [if_pos hj, hj, cls_4 hk, upd_at]
    · rw [if_neg hj]
      by_cases h2 : j < 12
      · rw [cls_4 h2, cls_4 h2, upd_ne (by omega)]
      · simp [cls, h2]) (by rw [u2_row (by decide)]; exact cls_r5 fun b hb => (upd_ne (by omega)).symm) (by rw [u2_row (by decide)]; exact cls_r6 fun b hb => (upd_ne (by omega)).symm) (by rw [u2_row (by decide)]; exact cls_r7 fun b hb => (upd_ne (by omega)).symm) (by rw [u2_row (by decide)]; exact cls_r8 ⟨(upd_ne (by omega)).symm, (upd_ne (by omega)).symm, (upd_ne (by omega)).symm, (upd_ne (by omega)).symm, (upd_ne (by omega)).symm, (upd_ne (by omega)).symm⟩) (fun i hi => by rw [u2_row (by omega)]; exact cls_hi hi)
theorem cls_u6 {f : N1} {k : Nat} {x : Int32} (hk : k < 3) : u2 (cls f) 6 k x = cls (upd f k x) :=
  cls_rows (by rw [u2_row (by decide)]; exact cls_r0 fun b hb => (upd_ne (by omega)).symm) (by rw [u2_row (by decide)]; exact cls_r1 fun b hb => (upd_ne (by omega)).symm) (by rw [u2_row (by decide)]; exact cls_r2 fun b hb => (upd_ne (by omega)).symm) (by rw [u2_row (by decide)]; exact cls_r3 fun b hb => (upd_ne (by omega)).symm) (by rw [u2_row (by decide)]; exact cls_r4 fun b hb => (upd_ne (by omega)).symm) (by rw [u2_row (by decide)]; exact cls_r5 fun b hb => (upd_ne (by omega)).symm) (by
    funext j
    rw [u2_at]
    by_cases hj : j = k
    · rw [if_pos hj, hj, cls_6 hk, upd_at]
    · rw [if_neg hj]
      by_cases h2 : j < 3
      · rw [cls_6 h2, cls_6 h2, upd_ne (by omega)]
      · simp [cls, h2]) (by rw [u2_row (by decide)]; exact cls_r7 fun b hb => (upd_ne (by omega)).symm) (by rw [u2_row (by decide)]; exact cls_r8 ⟨(upd_ne (by omega)).symm, (upd_ne (by omega)).symm, (upd_ne (by omega)).symm, (upd_ne (by omega)).symm, (upd_ne (by omega)).symm, (upd_ne (by omega)).symm⟩) (fun i hi => by rw [u2_row (by omega)]; exact cls_hi hi)
theorem cls_u7 {f : N1} {k : Nat} {x : Int32} (hk : k < 2) : u2 (cls f) 7 k x = cls (upd f (6 + k) x) :=
  cls_rows (by rw [u2_row (by decide)]; exact cls_r0 fun b hb => (upd_ne (by omega)).symm) (by rw [u2_row (by decide)]; exact cls_r1 fun b hb => (upd_ne (by omega)).symm) (by rw [u2_row (by decide)]; exact cls_r2 fun b hb => (upd_ne (by omega)).symm) (by rw [u2_row (by decide)]; exact cls_r3 fun b hb => (upd_ne (by omega)).symm) (by rw [u2_row (by decide)]; exact cls_r4 fun b hb => (upd_ne (by omega)).symm) (by rw [u2_row (by decide)]; exact cls_r5 fun b hb => (upd_ne (by omega)).symm) (by rw [u2_row (by decide)]; exact cls_r6 fun b hb => (upd_ne (by omega)).symm) (by
    funext j
    rw [u2_at]
    by_cases hj : j = k
    · rw [if_pos hj, hj, cls_7 hk, upd_at]
    · rw [if_neg hj]
      by_cases h2 : j < 2
      · rw [cls_7 h2, cls_7 h2, upd_ne (by omega)]
      · simp [cls, h2]) (by rw [u2_row (by decide)]; exact cls_r8 ⟨(upd_ne (by omega)).symm, (upd_ne (by omega)).symm, (upd_ne (by omega)).symm, (upd_ne (by omega)).symm, (upd_ne (by omega)).symm, (upd_ne (by omega)).symm⟩) (fun i hi => by rw [u2_row (by omega)]; exact cls_hi hi)
theorem cls_u80 {f : N1} {x : Int32} : u2 (cls f) 8 0 x = cls (upd f 12 x) :=
  cls_rows (by rw [u2_row (by decide)]; exact cls_r0 fun b hb => (upd_ne (by omega)).symm) (by rw [u2_row (by decide)]; exact cls_r1 fun b hb => (upd_ne (by omega)).symm) (by rw [u2_row (by decide)]; exact cls_r2 fun b hb => (upd_ne (by omega)).symm) (by rw [u2_row (by decide)]; exact cls_r3 fun b hb => (upd_ne (by omega)).symm) (by rw [u2_row (by decide)]; exact cls_r4 fun b hb => (upd_ne (by omega)).symm) (by rw [u2_row (by decide)]; exact cls_r5 fun b hb => (upd_ne (by omega)).symm) (by rw [u2_row (by decide)]; exact cls_r6 fun b hb => (upd_ne (by omega)).symm) (by rw [u2_row (by decide)]; exact cls_r7 fun b hb => (upd_ne (by omega)).symm) (by
    funext j
    rw [u2_at]
    by_cases hj : j = 0
    · rw [if_pos hj, hj, cls_80, upd_at]
    · rw [if_neg hj]
      simp [cls, upd, hj]) (fun i hi => by rw [u2_row (by omega)]; exact cls_hi hi)
theorem cls_u81 {f : N1} {x : Int32} : u2 (cls f) 8 1 x = cls (upd f 3 x) :=
  cls_rows (by rw [u2_row (by decide)]; exact cls_r0 fun b hb => (upd_ne (by omega)).symm) (by rw [u2_row (by decide)]; exact cls_r1 fun b hb => (upd_ne (by omega)).symm) (by rw [u2_row (by decide)]; exact cls_r2 fun b hb => (upd_ne (by omega)).symm) (by rw [u2_row (by decide)]; exact cls_r3 fun b hb => (upd_ne (by omega)).symm) (by rw [u2_row (by decide)]; exact cls_r4 fun b hb => (upd_ne (by omega)).symm) (by rw [u2_row (by decide)]; exact cls_r5 fun b hb => (upd_ne (by omega)).symm) (by rw [u2_row (by decide)]; exact cls_r6 fun b hb => (upd_ne (by omega)).symm) (by rw [u2_row (by decide)]; exact cls_r7 fun b hb => (upd_ne (by omega)).symm) (by
    funext j
    rw [u2_at]
    by_cases hj : j = 1
    · rw [if_pos hj, hj, cls_81, upd_at]
    · rw [if_neg hj]
      simp [cls, upd, hj]) (fun i hi => by rw [u2_row (by omega)]; exact cls_hi hi)
theorem cls_u82 {f : N1} {x : Int32} : u2 (cls f) 8 2 x = cls (upd f 4 x) :=
  cls_rows (by rw [u2_row (by decide)]; exact cls_r0 fun b hb => (upd_ne (by omega)).symm) (by rw [u2_row (by decide)]; exact cls_r1 fun b hb => (upd_ne (by omega)).symm) (by rw [u2_row (by decide)]; exact cls_r2 fun b hb => (upd_ne (by omega)).symm) (by rw [u2_row (by decide)]; exact cls_r3 fun b hb => (upd_ne (by omega)).symm) (by rw [u2_row (by decide)]; exact cls_r4 fun b hb => (upd_ne (by omega)).symm) (by rw [u2_row (by decide)]; exact cls_r5 fun b hb => (upd_ne (by omega)).symm) (by rw [u2_row (by decide)]; exact cls_r6 fun b hb => (upd_ne (by omega)).symm) (by rw [u2_row (by decide)]; exact cls_r7 fun b hb => (upd_ne (by omega)).symm) (by
    funext j
    rw [u2_at]
    by_cases hj : j = 2
    · rw [if_pos hj, hj, cls_82, upd_at]
    · rw [if_neg hj]
      simp [cls, upd, hj]) (fun i hi => by rw [u2_row (by omega)]; exact cls_hi hi)
theorem cls_u83 {f : N1} {x : Int32} : u2 (cls f) 8 3 x = cls (upd f 5 x) :=
  cls_rows (by rw [u2_row (by decide)]; exact cls_r0 fun b hb => (upd_ne (by omega)).symm) (by rw [u2_row (by decide)]; exact cls_r1 fun b hb => (upd_ne (by omega)).symm) (by rw [u2_row (by decide)]; exact cls_r2 fun b hb => (upd_ne (by omega)).symm) (by rw [u2_row (by decide)]; exact cls_r3 fun b hb => (upd_ne (by omega)).symm) (by rw [u2_row (by decide)]; exact cls_r4 fun b hb => (upd_ne (by omega)).symm) (by rw [u2_row (by decide)]; exact cls_r5 fun b hb => (upd_ne (by omega)).symm) (by rw [u2_row (by decide)]; exact cls_r6 fun b hb => (upd_ne (by omega)).symm) (by rw [u2_row (by decide)]; exact cls_r7 fun b hb => (upd_ne (by omega)).symm) (by
    funext j
    rw [u2_at]
    by_cases hj : j = 3
    · rw [if_pos hj, hj, cls_83, upd_at]
    · rw [if_neg hj]
      simp [cls, upd, hj]) (fun i hi => by rw [u2_row (by omega)]; exact cls_hi hi)
theorem cls_u84 {f : N1} {x : Int32} : u2 (cls f) 8 4 x = cls (upd f 8 x) :=
  cls_rows (by rw [u2_row (by decide)]; exact cls_r0 fun b hb => (upd_ne (by omega)).symm) (by rw [u2_row (by decide)]; exact cls_r1 fun b hb => (upd_ne (by omega)).symm) (by rw [u2_row (by decide)]; exact cls_r2 fun b hb => (upd_ne (by omega)).symm) (by rw [u2_row (by decide)]; exact cls_r3 fun b hb => (upd_ne (by omega)).symm) (by rw [u2_row (by decide)]; exact cls_r4 fun b hb => (upd_ne (by omega)).symm) (by rw [u2_row (by decide)]; exact cls_r5 fun b hb => (upd_ne (by omega)).symm) (by rw [u2_row (by decide)]; exact cls_r6 fun b hb => (upd_ne (by omega)).symm) (by rw [u2_row (by decide)]; exact cls_r7 fun b hb => (upd_ne (by omega)).symm) (by
    funext j
    rw [u2_at]
    by_cases hj : j = 4
    · rw [if_pos hj, hj, cls_84, upd_at]
    · rw [if_neg hj]
      simp [cls, upd, hj]) (fun i hi => by rw [u2_row (by omega)]; exact cls_hi hi)
theorem cls_u85 {f : N1} {x : Int32} : u2 (cls f) 8 5 x = cls (upd f 9 x) :=
  cls_rows (by rw [u2_row (by decide)]; exact cls_r0 fun b hb => (upd_ne (by omega)).symm) (by rw [u2_row (by decide)]; exact cls_r1 fun b hb => (upd_ne (by omega)).symm) (by rw [u2_row (by decide)]; exact cls_r2 fun b hb => (upd_ne (by omega)).symm) (by rw [u2_row (by decide)]; exact cls_r3 fun b hb => (upd_ne (by omega)).symm) (by rw [u2_row (by decide)]; exact cls_r4 fun b hb => (upd_ne (by omega)).symm) (by rw [u2_row (by decide)]; exact cls_r5 fun b hb => (upd_ne (by omega)).symm) (by rw [u2_row (by decide)]; exact cls_r6 fun b hb => (upd_ne (by omega)).symm) (by rw [u2_row (by decide)]; exact cls_r7 fun b hb => (upd_ne (by omega)).symm) (by
    funext j
    rw [u2_at]
    by_cases hj : j = 5
    · rw [if_pos hj, hj, cls_85, upd_at]
    · rw [if_neg hj]
      simp [cls, upd, hj]) (fun i hi => by rw [u2_row (by omega)]; exact cls_hi hi)
/-- numbers that the class doesn't keep -/
theorem cls_tot {f : N1} {k : Nat} {x : Int32} (hk : k = 10 ∨ k = 11) : cls f = cls (upd f k x) :=
  cls_rows (cls_r0 fun b hb => (upd_ne (by omega)).symm) (cls_r1 fun b hb => (upd_ne (by omega)).symm) (cls_r2 fun b hb => (upd_ne (by omega)).symm) (cls_r3 fun b hb => (upd_ne (by omega)).symm) (cls_r4 fun b hb => (upd_ne (by omega)).symm) (cls_r5 fun b hb => (upd_ne (by omega)).symm) (cls_r6 fun b hb => (upd_ne (by omega)).symm) (cls_r7 fun b hb => (upd_ne (by omega)).symm) (cls_r8 ⟨(upd_ne (by omega)).symm, (upd_ne (by omega)).symm, (upd_ne (by omega)).symm, (upd_ne (by omega)).symm, (upd_ne (by omega)).symm, (upd_ne (by omega)).symm⟩) (fun i hi => cls_hi hi)
/-! a ball goes away, comes, moves -/
theorem isBN {k : Nat} (h : k < 12) : ¬ fX4_isBallNumber (nI k) = 0 := by
  have h2 : ∀ k : Fin 12, ¬ fX4_isBallNumber (nI k.val) = 0 := by decide +kernel
  exact h2 ⟨k, h⟩
theorem isCe {c : Nat} (h : c < 61) : ¬ fX1_isCell (nI c) = 0 := by
  have h2 : ∀ c : Fin 61, ¬ fX1_isCell (nI c.val) = 0 := by decide +kernel
  exact h2 ⟨c, h⟩
theorem isC5 : fX1_isCell (-5) = 0 := rfl
theorem lift_5 {f : N1} {k : Nat} (hk : k < 12) (h : f (13 + k) = (-5)) : fX4_lift (cls f) (nI k) = cls f := by
  unfold fX4_lift
  rw [if_neg (isBN hk), nI_c (by omega), cls_0 hk, h, if_pos isC5]
theorem upd_self {f : N1} {j : Nat} {x : Int32} (h : f j = x) : upd f j x = f := by
  funext i
  by_cases hi : i = j
  · rw [hi, upd_at, h]
  · rw [upd_ne hi]
theorem upd_twice {f : N1} {j : Nat} {x y : Int32} : upd (upd f j x) j y = upd f j y := by
  funext i
  by_cases hi : i = j
  · rw [hi, upd_at, upd_at]
  · rw [upd_ne hi, upd_ne hi, upd_ne hi]
/-- one ball's cell: what the search finds -/
theorem bo_upd {f : N1} {k c : Nat} {x : Int32} (hD : gD f) (hD2 : gD (upd f (13 + k) x)) (hk : k < 12) (hc : c < 61) : bo (upd f (13 + k) x) c = if x = nI c then nI k else if f (13 + k) = nI c then (-5) else bo f c := by
  by_cases h1 : x = nI c
  · rw [if_pos h1]
    exact bo_one hD2 hc hk (by rw [upd_at]; exact h1)
  · rw [if_neg h1]
    by_cases h2 : f (13 + k) = nI c
    · rw [if_pos h2]
      refine bo_non (fun j hj => ?_)
      by_cases hjk : j = k
      · rw [hjk, upd_at]; exact h1
      · rw [upd_ne (by omega)]
        intro h3
        rcases hD j k hj hk (h3.trans h2.symm) with h4 | h4
        · exact nI_no (show c < 1000 by omega) (h3.symm.trans h4)
        · exact hjk h4
    · rw [if_neg h2]
      rcases bo_spec f c with ⟨h3, h4⟩ | ⟨j, h3, h4, h5⟩
      · rw [h3]
        refine bo_non (fun j hj => ?_)
        by_cases hjk : j = k
        · rw [hjk, upd_at]; exact h1
        · rw [upd_ne (by omega)]; exact h4 j hj
      · rw [h4]
        have hjk : ¬ j = k := fun q => h2 (q ▸ h5)
        exact bo_one hD2 hc h3 (by rw [upd_ne (by omega)]; exact h5)
theorem gD_away {f : N1} {k : Nat} (hD : gD f) (hk : k < 12) : gD (upd f (13 + k) (-5)) := by
  intro a b ha hb h
  by_cases h1 : a = k
  · exact Or.inl (by rw [h1, upd_at])
  · by_cases h2 : b = k
    · rw [h2, upd_at] at h
      exact Or.inl h
    · rw [upd_ne (by omega), upd_ne (by omega)] at h
      rw [upd_ne (by omega)]
      exact hD a b ha hb h
theorem gD_put {f : N1} {k c : Nat} (hD : gD f) (hk : k < 12) (h : ∀ j, j < 12 → ¬ f (13 + j) = nI c) : gD (upd f (13 + k) (nI c)) := by
  intro a b ha hb h3
  by_cases h1 : a = k
  · by_cases h2 : b = k
    · exact Or.inr (h1.trans h2.symm)
    · rw [h1, upd_at, upd_ne (by omega)] at h3
      exact absurd h3.symm (h b hb)
  · by_cases h2 : b = k
    · rw [h2, upd_at, upd_ne (by omega)] at h3
      exact absurd h3 (h a ha)
    · rw [upd_ne (by omega), upd_ne (by omega)] at h3
      rw [upd_ne (by omega)]
      exact hD a b ha hb h3
theorem cls_away {f : N1} {k c : Nat} (hD : gD f) (hk : k < 12) (hc : c < 61) (h : f (13 + k) = nI c) : u2 (u2 (cls f) 5 c (-5)) 0 k (-5) = cls (upd f (13 + k) (-5)) := by
  have hD2 := gD_away hD hk
  refine cls_rows ?_ ?_ ?_ ?_ ?_ ?_ ?_ ?_ ?_ (fun i hi => ?_)
  · funext j
    rw [u2_at, u2_row (by decide)]
    by_cases hj : j = k
    · rw [if_pos hj, hj, cls_0 hk, upd_at]
    · rw [if_neg hj]
      by_cases h2 : j < 12
      · rw [cls_0 h2, cls_0 h2, upd_ne (by omega)]
      · simp [cls, h2]
  · rw [u2_row (by decide), u2_row (by decide)]; exact cls_r1 fun b hb => (upd_ne (by omega)).symm
  · rw [u2_row (by decide), u2_row (by decide)]; exact cls_r2 fun b hb => (upd_ne (by omega)).symm
  · rw [u2_row (by decide), u2_row (by decide)]; exact cls_r3 fun b hb => (upd_ne (by omega)).symm
  · rw [u2_row (by decide), u2_row (by decide)]; exact cls_r4 fun b hb => (upd_ne (by omega)).symm
  · rw [u2_row (by decide)]
    funext j
    rw [u2_at]
    by_cases hj : j < 61
    · rw [cls_5 hj, cls_5 hj, bo_upd hD hD2 hk hj, if_neg (show ¬ (-5) = nI j from fun q => nI_no (show j < 1000 by omega) q.symm), h]
      by_cases h2 : j = c
      · rw [if_pos h2, h2, if_pos rfl]
      · rw [if_neg h2, if_neg (show ¬ nI c = nI j from fun q => h2 (nI_inj (by omega) (by omega) q).symm)]
    · rw [if_neg (by omega)]
      simp [cls, hj]
  · rw [u2_row (by decide), u2_row (by decide)]; exact cls_r6 fun b hb => (upd_ne (by omega)).symm
  · rw [u2_row (by decide), u2_row (by decide)]; exact cls_r7 fun b hb => (upd_ne (by omega)).symm
  · rw [u2_row (by decide), u2_row (by decide)]; exact cls_r8 ⟨(upd_ne (by omega)).symm, (upd_ne (by omega)).symm, (upd_ne (by omega)).symm, (upd_ne (by omega)).symm, (upd_ne (by omega)).symm, (upd_ne (by omega)).symm⟩
  · rw [u2_row (by omega), u2_row (by omega)]; exact cls_hi hi
theorem lift_c {f : N1} {k : Nat} (hA : gA f) (hD : gD f) (hk : k < 12) : fX4_lift (cls f) (nI k) = cls (upd f (13 + k) (-5)) := by
  rcases hA.2.1 k hk with h | h
  · obtain ⟨c, hc, e⟩ := vin_nI h
    unfold fX4_lift
    rw [if_neg (isBN hk), nI_c (by omega), cls_0 hk, e, if_neg (isCe hc), nI_c (show c < 1000 by omega)]
    exact cls_away hD hk hc e
  · rw [lift_5 hk h, upd_self h]
theorem cls_come {f : N1} {k c : Nat} (hD : gD f) (hk : k < 12) (hc : c < 61) (h5 : f (13 + k) = (-5)) (h : ∀ j, j < 12 → ¬ f (13 + j) = nI c) : u2 (u2 (cls f) 0 k (nI c)) 5 c (nI k) = cls (upd f (13 + k) (nI c)) := by
  have hD2 := gD_put hD hk h
  refine cls_rows ?_ ?_ ?_ ?_ ?_ ?_ ?_ ?_ ?_ (fun i hi => ?_)
  · rw [u2_row (by decide)]
    funext j
    rw [u2_at]
    by_cases hj : j = k
    · rw [if_pos hj, hj, cls_0 hk, upd_at]
    · rw [if_neg hj]
      by_cases h2 : j < 12
      · rw [cls_0 h2, cls_0 h2, upd_ne (by omega)]
      · simp [cls, h2]
  · rw [u2_row (by decide), u2_row (by decide)]; exact cls_r1 fun b hb => (upd_ne (by omega)).symm
  · rw [u2_row (by decide), u2_row (by decide)]; exact cls_r2 fun b hb => (upd_ne (by omega)).symm
  · rw [u2_row (by decide), u2_row (by decide)]; exact cls_r3 fun b hb => (upd_ne (by omega)).symm
  · rw [u2_row (by decide), u2_row (by decide)]; exact cls_r4 fun b hb => (upd_ne (by omega)).symm
  · funext j
    rw [u2_at, u2_row (by decide)]
    by_cases hj : j < 61
    · rw [cls_5 hj, cls_5 hj, bo_upd hD hD2 hk hj]
      by_cases h2 : j = c
      · rw [if_pos h2, h2, if_pos rfl]
      · rw [if_neg h2, if_neg (show ¬ nI c = nI j from fun q => h2 (nI_inj (by omega) (by omega) q).symm), h5, if_neg (show ¬ (-5) = nI j from fun q => nI_no (show j < 1000 by omega) q.symm)]
    · rw [if_neg (by omega)]
      simp [cls, hj]
  · rw [u2_row (by decide), u2_row (by decide)]; exact cls_r6 fun b hb => (upd_ne (by omega)).symm
  · rw [u2_row (by decide), u2_row (by decide)]; exact cls_r7 fun b hb => (upd_ne (by omega)).symm
  · rw [u2_row (by decide), u2_row (by decide)]; exact cls_r8 ⟨(upd_ne (by omega)).symm, (upd_ne (by omega)).symm, (upd_ne (by omega)).symm, (upd_ne (by omega)).symm, (upd_ne (by omega)).symm, (upd_ne (by omega)).symm⟩
  · rw [u2_row (by omega), u2_row (by omega)]; exact cls_hi hi
theorem place_c {f : N1} {k c : Nat} (hA : gA f) (hD : gD f) (hk : k < 12) (hc : c < 61) (h : ∀ j, j < 12 → ¬ f (13 + j) = nI c) : fX4_place (cls f) (nI k) (nI c) = cls (upd f (13 + k) (nI c)) := by
  unfold fX4_place
  rw [if_neg (isBN hk), if_neg (isCe hc), lift_c hA hD hk, nI_c (show k < 1000 by omega), nI_c (show c < 1000 by omega)]
  rw [cls_come (gD_away hD hk) hk hc upd_at (fun j hj => ?_), upd_twice]
  by_cases hjk : j = k
  · rw [hjk, upd_at]
    exact fun q => nI_no (show c < 1000 by omega) q.symm
  · rw [upd_ne (by omega)]
    exact h j hj
theorem gm_start : ∀ c : Fin 61, fX1_columnOf (nI c.val) = tQ c.val ∧ fX1_rowOf (nI c.val) = tR c.val := by decide +kernel
theorem gm_ahead : ∀ c : Fin 61, ∀ w : Fin 6, fX1_cellAt (tQ c.val + fX1_stepQ (nI w.val)) (tR c.val + fX1_stepR (nI w.val)) = ahC (nI c.val) (nI w.val) := by decide +kernel
theorem gm_step : ∀ c : Fin 61, ∀ w : Fin 6, ahC (nI c.val) (nI w.val) = (-5) ∨ (tQ c.val + fX1_stepQ (nI w.val) = tQ (ahC (nI c.val) (nI w.val)).toNatClampNeg ∧ tR c.val + fX1_stepR (nI w.val) = tR (ahC (nI c.val) (nI w.val)).toNatClampNeg) := by decide +kernel
theorem tuD_f (d : N1) : fX5_turnAtBank d = upd d 2 (tuD (d 0) (d 1) (d 2)) := by
  unfold fX5_turnAtBank tuD
  repeat' split
  all_goals rfl
theorem gm_turn : ∀ c : Fin 61, ∀ w : Fin 6, ¬ ahC (nI c.val) (nI w.val) = (-5) ∨ tuD (tQ c.val) (tR c.val) (nI w.val) = tuC (nI c.val) (nI w.val) := by decide +kernel
theorem gm_next : ∀ w : Fin 6, fX1_turned (nI w.val) 1 = nxC (nI w.val) := by decide +kernel
theorem gm_corner : ∀ c : Fin 61, fX1_cornerOf (nI c.val) = coC (nI c.val) := by decide +kernel
theorem nI_back {x : Int32} {n : Nat} (h : vp_in x n) (hn : n ≤ 1000) : nI x.toNatClampNeg = x ∧ x.toNatClampNeg < n := by
  obtain ⟨k, hk, rfl⟩ := vin_nI h
  rw [nI_c (by omega)]
  exact ⟨rfl, hk⟩
theorem ah_in {c w : Nat} (hc : c < 61) (hw : w < 6) (h : ¬ ahC (nI c) (nI w) = (-5)) : vp_in (ahC (nI c) (nI w)) 61 := by
  rcases fin_ah ⟨c, hc⟩ ⟨w, hw⟩ with h2 | h2
  · exact absurd h2 h
  · exact h2
theorem tu_vin {c w : Nat} (hc : c < 61) (hw : w < 6) (h : ahC (nI c) (nI w) = (-5)) : vp_in (tuC (nI c) (nI w)) 6 := (fin_tu ⟨c, hc⟩ ⟨w, hw⟩ h).1
theorem nx_vin {w : Nat} (hw : w < 6) : vp_in (nxC (nI w)) 6 := fin_nx ⟨w, hw⟩
/-- the walker on a cell, looking in a direction -/
def dW (d : N1) (c w : Nat) : Prop := d 0 = tQ c ∧ d 1 = tR c ∧ d 2 = nI w
theorem dW_start {d : N1} {c w : Nat} (hc : c < 61) : dW (fX5_startAt d (nI c) (nI w)) c w := by
  have h := gm_start ⟨c, hc⟩
  unfold fX5_startAt dW
  rw [upd_at, upd_ne (show ¬ 0 = 2 by decide), upd_ne (show ¬ 0 = 1 by decide), upd_at, upd_ne (show ¬ 1 = 2 by decide), upd_at]
  exact ⟨h.1, h.2, rfl⟩
theorem dW_ahead {d : N1} {c w : Nat} (h : dW d c w) (hc : c < 61) (hw : w < 6) : fX5_cellAhead d = ahC (nI c) (nI w) := by
  unfold fX5_cellAhead
  rw [h.1, h.2.1, h.2.2]
  exact gm_ahead ⟨c, hc⟩ ⟨w, hw⟩
theorem dW_step {d : N1} {c w : Nat} (h : dW d c w) (hc : c < 61) (hw : w < 6) (hn : ¬ ahC (nI c) (nI w) = (-5)) : dW (fX5_stepAhead d) (ahC (nI c) (nI w)).toNatClampNeg w := by
  have g := (gm_step ⟨c, hc⟩ ⟨w, hw⟩).resolve_left hn
  unfold fX5_stepAhead dW
  rw [upd_ne (show ¬ 0 = 1 by decide), upd_at, upd_at, upd_ne (show ¬ 1 = 0 by decide), upd_ne (show ¬ 2 = 0 by decide), upd_ne (show ¬ 2 = 1 by decide), upd_ne (show ¬ 2 = 0 by decide), h.1, h.2.1, h.2.2]
  exact ⟨g.1, g.2, rfl⟩
theorem dW_dir {d : N1} {c w v : Nat} (h : dW d c w) : dW (upd d 2 (nI v)) c v := by
  unfold dW
  rw [upd_ne (show ¬ 0 = 2 by decide), upd_ne (show ¬ 1 = 2 by decide), upd_at]
  exact ⟨h.1, h.2.1, rfl⟩
theorem dW_bank {d : N1} {c w : Nat} (h : dW d c w) (hc : c < 61) (hw : w < 6) (hn : ahC (nI c) (nI w) = (-5)) : dW (fX5_turnAtBank d) c (tuC (nI c) (nI w)).toNatClampNeg := by
  have g := (gm_turn ⟨c, hc⟩ ⟨w, hw⟩).resolve_left (fun q => q hn)
  rw [tuD_f, h.1, h.2.1, h.2.2]
  have g2 : tuD (tQ c) (tR c) (nI w) = nI (tuC (nI c) (nI w)).toNatClampNeg := by
    rw [(nI_back (tu_vin hc hw hn) (by decide)).1]
    exact g
  rw [g2]
  exact dW_dir h
theorem dW_open {d : N1} {c w : Nat} (h : dW d c w) (hc : c < 61) (hw : w < 6) : dW (fX5_turnOnIfOpen d) c (if ahC (nI c) (nxC (nI w)) = (-5) then nI w else nxC (nI w)).toNatClampNeg := by
  have g : fX1_turned (nI w) 1 = nxC (nI w) := gm_next ⟨w, hw⟩
  obtain ⟨b1, b2⟩ := nI_back (nx_vin hw) (by decide)
  have e : fX1_cellAt ((d 0) + (fX1_stepQ (fX1_turned (d 2) 1))) ((d 1) + (fX1_stepR (fX1_turned (d 2) 1))) = ahC (nI c) (nxC (nI w)) := by
    rw [h.1, h.2.1, h.2.2, g, ← b1]
    exact gm_ahead ⟨c, hc⟩ ⟨_, b2⟩
  unfold fX5_turnOnIfOpen
  rw [e]
  by_cases h5 : ahC (nI c) (nxC (nI w)) = (-5)
  · rw [if_pos h5, if_pos h5, nI_c (by omega)]
    exact h
  · rw [if_neg h5, if_neg h5, h.2.2, g]
    have := dW_dir (v := (nxC (nI w)).toNatClampNeg) h
    rw [b1] at this
    exact this
/-! sums -/
theorem tot_up {g : N1} {k : Nat} (hk : k < 12) : ∀ n : Nat, n ≤ 12 → fX4_totalN (upd g k (g k + 1)) n = if k < n then fX4_totalN g n + 1 else fX4_totalN g n := by
  intro n
  induction n with
  | zero => intro _; rw [if_neg (by omega)]; rfl
  | succ n ih =>
    intro hn
    unfold fX4_totalN
    rw [ih (by omega), nI_c (show n < 1000 by omega)]
    by_cases h1 : k < n
    · rw [if_pos h1, if_pos (by omega), upd_ne (by omega), Int32.add_assoc, Int32.add_comm 1, ← Int32.add_assoc]
    · rw [if_neg h1]
      by_cases h2 : n = k
      · rw [h2, upd_at, if_pos (by omega), ← Int32.add_assoc]
      · rw [upd_ne h2, if_neg (by omega)]
theorem tot_cls3 {f : N1} {k : Nat} (hk : k < 12) : fX4_total (cls (upd f (49 + k) (f (49 + k) + 1)) 3) = fX4_total (cls f 3) + 1 := by
  rw [← cls_u3 hk, u2_self, ← cls_3 (f := f) hk]
  unfold fX4_total
  rw [tot_up hk 12 (by omega), if_pos hk]
theorem tot_cls4 {f : N1} {k : Nat} (hk : k < 12) : fX4_total (cls (upd f (61 + k) (f (61 + k) + 1)) 4) = fX4_total (cls f 4) + 1 := by
  rw [← cls_u4 hk, u2_self, ← cls_4 (f := f) hk]
  unfold fX4_total
  rw [tot_up hk 12 (by omega), if_pos hk]
theorem gF_upd {f : N1} {j : Nat} {x : Int32} (h : gF f) (hj : 25 ≤ j) : gF (upd f j x) := by
  obtain ⟨hA, hD, hR, hU⟩ := h
  refine ⟨gA_upd hA hj, fun a b ha hb => ?_, fun b hb => ?_, ?_⟩
  · rw [upd_ne (by omega), upd_ne (by omega)]
    exact hD a b ha hb
  · rw [upd_ne (by omega), upd_ne (by omega)]
    exact hR b hb
  · unfold gU
    rw [upd_ne (by omega)]
    exact hU
theorem gF_away {f : N1} {k : Nat} (h : gF f) (hk : k < 12) : gF (upd f (13 + k) (-5)) := by
  obtain ⟨hA, hD, hR, hU⟩ := h
  refine ⟨gA_cell hA (Or.inr rfl), gD_away hD hk, fun b hb => ?_, ?_⟩
  · rw [upd_ne (show ¬ 12 = 13 + k by omega)]
    by_cases h2 : b = k
    · rw [h2, upd_at]; exact fun _ => rfl
    · rw [upd_ne (by omega)]
      exact hR b hb
  · unfold gU
    rw [upd_ne (by omega)]
    exact hU
theorem gF_put {f : N1} {k c : Nat} (h : gF f) (hk : k < 12) (hc : c < 61) (he : (k : Int) < (f 12).toInt) (hn : ∀ j, j < 12 → ¬ f (13 + j) = nI c) : gF (upd f (13 + k) (nI c)) := by
  obtain ⟨hA, hD, hR, hU⟩ := h
  refine ⟨gA_cell hA (Or.inl (vp_in_nI hc (by decide))), gD_put hD hk hn, fun b hb => ?_, ?_⟩
  · rw [upd_ne (show ¬ 12 = 13 + k by omega)]
    intro h2
    rw [upd_ne (by omega)]
    exact hR b hb h2
  · unfold gU
    rw [upd_ne (by omega)]
    exact hU
theorem ever_lt {f : N1} {k c : Nat} (hR : gR f) (hk : k < 12) (hc : c < 61) (h : f (13 + k) = nI c) : (k : Int) < (f 12).toInt := by
  by_cases h2 : (k : Int) < (f 12).toInt
  · exact h2
  · exact absurd (h.symm.trans (hR k hk (by omega))) (nI_no (by omega))
/-! the class's events in short -/
theorem bank_cl (z : N1) (sp : UInt32) (d : N1) (σ : N2) : fX3_bank z sp d σ = (upd (upd z 4 (z 4 + 1)) 2 (if z 2 + z 1 < 3 then z 2 + z 1 else z 2 + z 1 - 3), FP.fmul sp (kF (σ 6 1)), if z 2 + z 1 < 3 then fX5_turnAtBank d else fX5_turnOnIfOpen (fX5_turnAtBank d), fX4_addBank σ (z 0)) := by
  unfold fX3_bank
  simp only [upd_at, upd_twice, upd_ne (f := z) (show ¬ 2 = 4 by decide), upd_ne (f := z) (show ¬ 1 = 4 by decide), upd_ne (f := z) (show ¬ 0 = 4 by decide)]
  split
  · rfl
  · rfl
theorem hit_cl (z : N1) (sp : UInt32) (d : N1) (σ : N2) (ot : Int32) : fX3_hit z sp d σ ot = (upd (upd (upd (upd z 5 (z 5 + 1)) 0 ot) 1 0) 2 0, FP.fmul sp (kF (σ 6 2)), fX5_stepAhead d, fX4_addHit σ (z 0)) := by
  unfold fX3_hit
  simp only [upd_ne (f := z) (show ¬ 0 = 5 by decide)]
  rfl
theorem step_cl (z : N1) (sp : UInt32) (d : N1) (σ : N2) (ce : Int32) : fX3_step z sp d σ ce = if fX4_isOpenPot (fX4_place (fX4_addStep σ (z 0)) (z 0) ce) ce = 0 then (upd z 3 (z 3 + 1), FP.fmul sp (kF (σ 6 0)), fX5_stepAhead d, fX4_place (fX4_addStep σ (z 0)) (z 0) ce) else (upd (upd z 3 (z 3 + 1)) 6 (z 0), FP.fmul sp (kF (σ 6 0)), fX5_stepAhead d, fX4_lift (fX4_place (fX4_addStep σ (z 0)) (z 0) ce) (z 0)) := by
  unfold fX3_step
  simp only [upd_ne (f := z) (show ¬ 0 = 3 by decide)]
  rfl
theorem pot_cl {f : N1} {c : Nat} (hc : c < 61) : fX4_isOpenPot (cls f) (nI c) = if coC (nI c) = (-5) then 0 else if (((f 3) >>> ((coC (nI c)) &&& 31)) &&& 1) = 1 then 1 else 0 := by
  unfold fX4_isOpenPot
  rw [gm_corner ⟨c, hc⟩, cls_81]
theorem bank_add {f : N1} {k : Nat} (hk : k < 12) : fX4_addBank (cls f) (nI k) = cls (upd f (49 + k) (f (49 + k) + 1)) := by
  unfold fX4_addBank
  rw [if_neg (isBN hk), nI_c (by omega), cls_3 hk, cls_u3 hk]
theorem hit_add {f : N1} {k : Nat} (hk : k < 12) : fX4_addHit (cls f) (nI k) = cls (upd f (61 + k) (f (61 + k) + 1)) := by
  unfold fX4_addHit
  rw [if_neg (isBN hk), nI_c (by omega), cls_4 hk, cls_u4 hk]
theorem step_add {f : N1} {k : Nat} (hk : k < 12) : fX4_addStep (cls f) (nI k) = cls (upd f (37 + k) (f (37 + k) + 1)) := by
  unfold fX4_addStep
  rw [if_neg (isBN hk), nI_c (by omega), cls_2 hk, cls_u2 hk]
theorem upd_comm {f : N1} {i j : Nat} {x y : Int32} (h : ¬ i = j) : upd (upd f i x) j y = upd (upd f j y) i x := by
  funext k
  by_cases h1 : k = i
  · by_cases h2 : k = j
    · exact absurd (h1.symm.trans h2) h
    · rw [upd_ne h2, h1, upd_at, upd_at]
  · by_cases h2 : k = j
    · rw [upd_ne h1, h2, upd_at, upd_at]
    · rw [upd_ne h2, upd_ne h1, upd_ne h1, upd_ne h2]
end
section
/-! p24: a felt turned half around (wip/p24/p31.lean) -/
/-- a cell on the turned felt -/
def rC (x : Int32) : Int32 := if x < 0 then x else if (60 : Int32) < x then x else 60 - x
/-- a direction, a corner on the turned felt -/
def rvN (w : Nat) : Nat := (w + 3) % 6
/-- open pots on the turned felt -/
def rP (x : Int32) : Int32 := (x >>> ((3 : Int32) &&& 31)) ||| ((x &&& 7) <<< ((3 : Int32) &&& 31))
/-- the turned felt -/
def rt (f : N1) : N1 := fun j => if j = 3 then rP (f 3) else if 13 ≤ j ∧ j < 25 then rC (f j) else f j
def gP (f : N1) : Prop := vp_in (f 3) 64
theorem rC_5 : rC (-5) = (-5) := by decide +kernel
theorem rC_c {c : Nat} (h : c < 61) : rC (nI c) = nI (60 - c) := by
  have h2 : ∀ c : Fin 61, rC (nI c.val) = nI (60 - c.val) := by decide +kernel
  exact h2 ⟨c, h⟩
theorem rv_lt (w : Nat) : rvN w < 6 := Nat.mod_lt _ (by decide)
theorem rt_cell {f : N1} {k : Nat} (h : k < 12) : rt f (13 + k) = rC (f (13 + k)) := by
  unfold rt
  rw [if_neg (by omega), if_pos ⟨by omega, by omega⟩]
theorem rt_3 {f : N1} : rt f 3 = rP (f 3) := by
  unfold rt
  rw [if_pos rfl]
theorem rt_oth {f : N1} {j : Nat} (h : j < 3 ∨ 3 < j ∧ j < 13 ∨ 25 ≤ j) : rt f j = f j := by
  unfold rt
  rw [if_neg (by omega), if_neg (by omega)]
theorem rt_upd {f : N1} {j : Nat} {x : Int32} (h : j < 3 ∨ 3 < j ∧ j < 13 ∨ 25 ≤ j) : rt (upd f j x) = upd (rt f) j x := by
  funext i
  by_cases hi : i = j
  · rw [hi, upd_at, rt_oth h, upd_at]
  · rw [upd_ne hi]
    unfold rt
    rw [upd_ne hi, upd_ne (show ¬ 3 = j by omega)]
theorem rt_updc {f : N1} {k : Nat} {x : Int32} (h : k < 12) : rt (upd f (13 + k) x) = upd (rt f) (13 + k) (rC x) := by
  funext i
  by_cases hi : i = 13 + k
  · rw [hi, upd_at, rt_cell h, upd_at]
  · rw [upd_ne hi]
    unfold rt
    rw [upd_ne hi, upd_ne (show ¬ 3 = 13 + k by omega)]
theorem rt_upd3 {f : N1} {x : Int32} : rt (upd f 3 x) = upd (rt f) 3 (rP x) := by
  funext i
  by_cases hi : i = 3
  · rw [hi, upd_at, rt_3, upd_at]
  · rw [upd_ne hi]
    unfold rt
    rw [if_neg hi, if_neg hi, upd_ne hi]
/-! the felt's facts -/
theorem rt_ah : ∀ c : Fin 61, ∀ w : Fin 6, ahC (nI (60 - c.val)) (nI (rvN w.val)) = rC (ahC (nI c.val) (nI w.val)) := by decide +kernel
theorem rt_tu : ∀ c : Fin 61, ∀ w : Fin 6, ¬ ahC (nI c.val) (nI w.val) = (-5) ∨ tuC (nI (60 - c.val)) (nI (rvN w.val)) = nI (rvN (tuC (nI c.val) (nI w.val)).toNatClampNeg) := by decide +kernel
theorem rt_nx : ∀ w : Fin 6, nxC (nI (rvN w.val)) = nI (rvN (nxC (nI w.val)).toNatClampNeg) := by decide +kernel
theorem rt_co : ∀ c : Fin 61, (coC (nI c.val) = (-5) ∧ coC (nI (60 - c.val)) = (-5)) ∨ (∃ k : Fin 6, coC (nI c.val) = nI k.val ∧ coC (nI (60 - c.val)) = nI (rvN k.val)) := by decide +kernel
theorem rt_pot : ∀ o : Fin 64, ∀ k : Fin 6, ((rP (nI o.val)) >>> ((nI (rvN k.val)) &&& 31)) &&& 1 = ((nI o.val) >>> ((nI k.val) &&& 31)) &&& 1 := by decide +kernel
theorem rt_pots : ∀ o : Fin 64, (¬ (rP (nI o.val) < 0 ∨ 64 ≤ (rP (nI o.val)).toNatClampNeg)) ∧ rP (rP (nI o.val)) = nI o.val := by decide +kernel
theorem rt_open {f : N1} {c : Nat} (hp : gP f) (hc : c < 61) : fX4_isOpenPot (cls (rt f)) (nI (60 - c)) = fX4_isOpenPot (cls f) (nI c) := by
  obtain ⟨o, ho, e⟩ := vin_nI hp
  rw [pot_cl (by omega), pot_cl hc, rt_3, e]
  rcases rt_co ⟨c, hc⟩ with ⟨h1, h2⟩ | ⟨k, h1, h2⟩
  · rw [if_pos h1, if_pos h2]
  · rw [h1, h2, rt_pot ⟨o, ho⟩ k, if_neg (fun q => nI_no (show rvN k.val < 1000 from Nat.lt_trans (rv_lt _) (by decide)) q), if_neg (fun q => nI_no (show k.val < 1000 by omega) q)]
theorem rC_iff {x : Int32} {c : Nat} (hx : vp_in x 61 ∨ x = (-5)) (hc : c < 61) : rC x = nI (60 - c) ↔ x = nI c := by
  rcases hx with h | h
  · obtain ⟨k, hk, rfl⟩ := vin_nI h
    rw [rC_c hk]
    constructor
    · intro q
      have := nI_inj (show 60 - k < 1000 by omega) (show 60 - c < 1000 by omega) q
      rw [show k = c by omega]
    · intro q
      have := nI_inj (show k < 1000 by omega) (show c < 1000 by omega) q
      rw [this]
  · rw [h, rC_5]
    constructor
    · intro q; exact absurd q.symm (nI_no (by omega))
    · intro q; exact absurd q.symm (nI_no (by omega))
theorem rC_no {x : Int32} (hx : vp_in x 61 ∨ x = (-5)) : rC x = (-5) ↔ x = (-5) := by
  rcases hx with h | h
  · obtain ⟨k, hk, rfl⟩ := vin_nI h
    rw [rC_c hk]
    exact ⟨fun q => absurd q (nI_no (by omega)), fun q => absurd q (nI_no (by omega))⟩
  · rw [h, rC_5]
theorem rC_in {x : Int32} (hx : vp_in x 61 ∨ x = (-5)) : vp_in (rC x) 61 ∨ rC x = (-5) := by
  rcases hx with h | h
  · obtain ⟨k, hk, rfl⟩ := vin_nI h
    rw [rC_c hk]
    exact Or.inl (vp_in_nI (by omega) (by decide))
  · rw [h, rC_5]
    exact Or.inr rfl
theorem rC_inj {x y : Int32} (hx : vp_in x 61 ∨ x = (-5)) (hy : vp_in y 61 ∨ y = (-5)) (h : rC x = rC y) : x = y := by
  rcases hx with h1 | h1
  · obtain ⟨k, hk, rfl⟩ := vin_nI h1
    rw [rC_c hk] at h
    exact ((rC_iff hy hk).mp h.symm).symm
  · rw [h1, rC_5] at h
    rw [h1, (rC_no hy).mp h.symm]
theorem rt_bo {f : N1} {c : Nat} (hF : gF f) (hc : c < 61) : bo (rt f) (60 - c) = bo f c := by
  obtain ⟨hA, hD, hR, -⟩ := hF
  have hD2 : gD (rt f) := by
    intro a b ha hb h
    rw [rt_cell ha, rt_cell hb] at h
    have := rC_inj (hA.2.1 a ha) (hA.2.1 b hb) h
    rcases hD a b ha hb this with h2 | h2
    · rw [rt_cell ha, h2]
      exact Or.inl rC_5
    · exact Or.inr h2
  rcases bo_spec f c with ⟨h1, h2⟩ | ⟨j, h1, h2, h3⟩
  · rw [h1]
    refine bo_non (fun j hj => ?_)
    rw [rt_cell hj]
    exact fun q => h2 j hj ((rC_iff (hA.2.1 j hj) hc).mp q)
  · rw [h2]
    refine bo_one hD2 (by omega) h1 ?_
    rw [rt_cell h1]
    exact (rC_iff (hA.2.1 j h1) hc).mpr h3
theorem rt_gF {f : N1} (hF : gF f) : gF (rt f) := by
  obtain ⟨hA, hD, hR, hU⟩ := hF
  refine ⟨⟨?_, fun b hb => ?_, trivial⟩, fun a b ha hb h => ?_, fun b hb h => ?_, ?_⟩
  · rw [rt_oth (by omega)]
    exact hA.1
  · rw [rt_cell hb]
    exact rC_in (hA.2.1 b hb)
  · rw [rt_cell ha, rt_cell hb] at h
    rcases hD a b ha hb (rC_inj (hA.2.1 a ha) (hA.2.1 b hb) h) with h2 | h2
    · rw [rt_cell ha, h2]
      exact Or.inl rC_5
    · exact Or.inr h2
  · rw [rt_oth (by omega)] at h
    rw [rt_cell hb, hR b hb h]
    exact rC_5
  · unfold gU
    rw [rt_oth (by omega)]
    exact hU
end
section
/-! p24: an event of a shot on both felts (wip/p24/p32.lean) -/
/-- both walkers -/
def DP (d e : N1) (c w : Nat) : Prop := dW d c w ∧ dW e (60 - c) (rvN w)
theorem DP_start {d e : N1} {c w : Nat} (hc : c < 61) : DP (fX5_startAt d (nI c) (nI w)) (fX5_startAt e (nI (60 - c)) (nI (rvN w))) c w :=
  ⟨dW_start hc, dW_start (by omega)⟩
theorem DP_ahead {d e : N1} {c w : Nat} (h : DP d e c w) (hc : c < 61) (hw : w < 6) : fX5_cellAhead d = ahC (nI c) (nI w) ∧ fX5_cellAhead e = rC (ahC (nI c) (nI w)) :=
  ⟨dW_ahead h.1 hc hw, (dW_ahead h.2 (by omega) (rv_lt w)).trans (rt_ah ⟨c, hc⟩ ⟨w, hw⟩)⟩
theorem ah_or {c w : Nat} (hc : c < 61) (hw : w < 6) : vp_in (ahC (nI c) (nI w)) 61 ∨ ahC (nI c) (nI w) = (-5) := (fin_ah ⟨c, hc⟩ ⟨w, hw⟩).symm
theorem DP_step {d e : N1} {c w b : Nat} (h : DP d e c w) (hc : c < 61) (hw : w < 6) (hb : b < 61) (ha : ahC (nI c) (nI w) = nI b) : DP (fX5_stepAhead d) (fX5_stepAhead e) b w := by
  have h1 := dW_step h.1 hc hw (by rw [ha]; exact nI_no (by omega))
  have ea : ahC (nI (60 - c)) (nI (rvN w)) = nI (60 - b) := (rt_ah ⟨c, hc⟩ ⟨w, hw⟩).trans (by rw [ha, rC_c hb])
  have h2 := dW_step h.2 (show 60 - c < 61 by omega) (rv_lt w) (by rw [ea]; exact nI_no (by omega))
  rw [ha, nI_c (by omega)] at h1
  rw [ea, nI_c (by omega)] at h2
  exact ⟨h1, h2⟩
theorem DP_bank {d e : N1} {c w : Nat} (h : DP d e c w) (hc : c < 61) (hw : w < 6) (ha : ahC (nI c) (nI w) = (-5)) : ∃ v, v < 6 ∧ DP (fX5_turnAtBank d) (fX5_turnAtBank e) c v := by
  have h1 := dW_bank h.1 hc hw ha
  have ea : ahC (nI (60 - c)) (nI (rvN w)) = (-5) := (rt_ah ⟨c, hc⟩ ⟨w, hw⟩).trans (by rw [ha, rC_5])
  have h2 := dW_bank h.2 (show 60 - c < 61 by omega) (rv_lt w) ea
  have et := (rt_tu ⟨c, hc⟩ ⟨w, hw⟩).resolve_left (fun q => q ha)
  rw [et, nI_c (Nat.lt_trans (rv_lt _) (by decide))] at h2
  exact ⟨_, (nI_back (tu_vin hc hw ha) (by decide)).2, h1, h2⟩
theorem DP_open {d e : N1} {c w : Nat} (h : DP d e c w) (hc : c < 61) (hw : w < 6) : ∃ v, v < 6 ∧ DP (fX5_turnOnIfOpen d) (fX5_turnOnIfOpen e) c v := by
  have h1 := dW_open h.1 hc hw
  have h2 := dW_open h.2 (show 60 - c < 61 by omega) (rv_lt w)
  obtain ⟨b1, b2⟩ := nI_back (nx_vin hw) (by decide)
  have en := rt_nx ⟨w, hw⟩
  have ea : ahC (nI (60 - c)) (nxC (nI (rvN w))) = rC (ahC (nI c) (nxC (nI w))) := by
    rw [en]
    refine (rt_ah ⟨c, hc⟩ ⟨_, b2⟩).trans ?_
    rw [b1]
  have eo : vp_in (ahC (nI c) (nxC (nI w))) 61 ∨ ahC (nI c) (nxC (nI w)) = (-5) := by
    rw [← b1]
    exact ah_or hc b2
  rw [ea] at h2
  by_cases h5 : ahC (nI c) (nxC (nI w)) = (-5)
  · rw [if_pos h5, nI_c (by omega)] at h1
    rw [if_pos ((rC_no eo).mpr h5), nI_c (Nat.lt_trans (rv_lt _) (by decide))] at h2
    exact ⟨w, hw, h1, h2⟩
  · rw [if_neg h5] at h1
    rw [if_neg (fun q => h5 ((rC_no eo).mp q)), en, nI_c (Nat.lt_trans (rv_lt _) (by decide))] at h2
    exact ⟨_, b2, h1, h2⟩
/-- rows that only grow -/
def grw (f0 : N1) (n : Nat) (f : N1) : Prop := (∀ j, j < 13 ∨ 25 ≤ j ∧ j < 37 → f j = f0 j) ∧ ∀ j, 37 ≤ j → j < 73 → (f0 j).toInt ≤ (f j).toInt ∧ (f j).toInt ≤ (f0 j).toInt + n
def bnd (f : N1) (M : Int) : Prop := ∀ j, 37 ≤ j → j < 73 → 0 ≤ (f j).toInt ∧ (f j).toInt ≤ M
theorem grw_0 {f : N1} : grw f 0 f := ⟨fun _ _ => rfl, fun j _ _ => by omega⟩
theorem inc_i {x : Int32} (h : 0 ≤ x.toInt) (h2 : x.toInt ≤ 2000000000) : (x + 1).toInt = x.toInt + 1 := by
  have h1 : (1 : Int32).toInt = 1 := rfl
  rw [ti_add (by omega) (by omega), h1]
theorem grw_inc {f0 f : N1} {n j : Nat} (hg : grw f0 n f) (hb : bnd f0 1000000000) (hn : n ≤ 1000000) (h1 : 37 ≤ j) (h2 : j < 73) : grw f0 (n + 1) (upd f j (f j + 1)) := by
  refine ⟨fun i hi => ?_, fun i hi hi2 => ?_⟩
  · rw [upd_ne (by omega)]
    exact hg.1 i hi
  · have a := hg.2 i hi hi2
    have b := hb i hi hi2
    by_cases h3 : i = j
    · subst h3
      rw [upd_at, inc_i (by omega) (by omega)]
      omega
    · rw [upd_ne h3]
      omega
theorem grw_cell {f0 f : N1} {n k : Nat} {x : Int32} (hg : grw f0 n f) (hk : k < 12) : grw f0 n (upd f (13 + k) x) := by
  refine ⟨fun i hi => ?_, fun i hi hi2 => ?_⟩
  · rw [upd_ne (by omega)]
    exact hg.1 i hi
  · rw [upd_ne (by omega)]
    exact hg.2 i hi hi2
/-- in a shot, on both felts: begun at f0, after n events -/
def QR (f0 : N1) (n : Nat) (z d e f : N1) : Prop := gF f ∧ gP f ∧ grw f0 n f ∧ ∃ k, k < 12 ∧ z 0 = nI k ∧ (k : Int) < (f 12).toInt ∧
  ((z 6 = (-5) ∧ (∀ b, b < 12 → (f (13 + b) = (-5) ↔ f0 (13 + b) = (-5))) ∧ ∃ c w, c < 61 ∧ w < 6 ∧ f (13 + k) = nI c ∧ DP d e c w) ∨
   (z 6 = nI k ∧ f (13 + k) = (-5) ∧ ¬ f0 (13 + k) = (-5) ∧ ∀ b, b < 12 → ¬ b = k → (f (13 + b) = (-5) ↔ f0 (13 + b) = (-5))))
theorem gP_upd {f : N1} {j : Nat} {x : Int32} (h : gP f) (hj : ¬ j = 3) : gP (upd f j x) := by
  unfold gP
  rw [upd_ne (fun q => hj q.symm)]
  exact h
end
