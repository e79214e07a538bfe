-- ===== PART A: goes FIRST, ahead of the names: the tables' words, and 'selects' of the private methods out of them =====
/-- a private method of a class that the tables say can be made, by its rows of tables_1 -/
def lw_okq (q : MethodName × Nat) : Prop := (q.1.cls ≠ "java/lang/invoke/MethodHandle" ∧ q.1.cls ≠ "java/lang/invoke/VarHandle") ∧ Cond.instantiable q.1.cls q.2 ∈ tables_1 ∧ Cond.privateMethod q.1 ∈ tables_1 ∧ Cond.instanceMethod q.1 ∈ tables_1
theorem lw_p0 : lw_okq (⟨"HexBilliards$History", "dropOldest", "()V"⟩, 2) := ⟨⟨by decide +kernel, by decide +kernel⟩, List.mem_of_getElem? (i := 92) (by decide +kernel), List.mem_of_getElem? (i := 274) (by decide +kernel), List.mem_of_getElem? (i := 275) (by decide +kernel)⟩
theorem lw_p1 : lw_okq (⟨"HexBilliards$BallText", "takes", "(C)Z"⟩, 7) := ⟨⟨by decide +kernel, by decide +kernel⟩, List.mem_of_getElem? (i := 109) (by decide +kernel), List.mem_of_getElem? (i := 356) (by decide +kernel), List.mem_of_getElem? (i := 357) (by decide +kernel)⟩
theorem lw_p2 : lw_okq (⟨"HexBilliards$BallText", "beginsNumber", "(CCI)Z"⟩, 7) := ⟨⟨by decide +kernel, by decide +kernel⟩, List.mem_of_getElem? (i := 109) (by decide +kernel), List.mem_of_getElem? (i := 360) (by decide +kernel), List.mem_of_getElem? (i := 361) (by decide +kernel)⟩
theorem lw_p3 : lw_okq (⟨"HexBilliards$BallText", "endsCell", "()Z"⟩, 7) := ⟨⟨by decide +kernel, by decide +kernel⟩, List.mem_of_getElem? (i := 109) (by decide +kernel), List.mem_of_getElem? (i := 364) (by decide +kernel), List.mem_of_getElem? (i := 365) (by decide +kernel)⟩
theorem lw_p4 : lw_okq (⟨"HexBilliards$BallText", "growsNumber", "(CI)Z"⟩, 7) := ⟨⟨by decide +kernel, by decide +kernel⟩, List.mem_of_getElem? (i := 109) (by decide +kernel), List.mem_of_getElem? (i := 368) (by decide +kernel), List.mem_of_getElem? (i := 369) (by decide +kernel)⟩
theorem lw_p5 : lw_okq (⟨"HexBilliards$BallText", "endBall", "()Z"⟩, 7) := ⟨⟨by decide +kernel, by decide +kernel⟩, List.mem_of_getElem? (i := 109) (by decide +kernel), List.mem_of_getElem? (i := 372) (by decide +kernel), List.mem_of_getElem? (i := 373) (by decide +kernel)⟩
theorem lw_p6 : lw_okq (⟨"HexBilliards", "tryShot", "(IIII)V"⟩, 7) := ⟨⟨by decide +kernel, by decide +kernel⟩, List.mem_of_getElem? (i := 12) (by decide +kernel), List.mem_of_getElem? (i := 441) (by decide +kernel), List.mem_of_getElem? (i := 442) (by decide +kernel)⟩
theorem lw_p7 : lw_okq (⟨"HexBilliards$Shot", "bank", "(LHexBilliards$State;)V"⟩, 9) := ⟨⟨by decide +kernel, by decide +kernel⟩, List.mem_of_getElem? (i := 140) (by decide +kernel), List.mem_of_getElem? (i := 471) (by decide +kernel), List.mem_of_getElem? (i := 472) (by decide +kernel)⟩
theorem lw_p8 : lw_okq (⟨"HexBilliards$Shot", "slow", "(I)V"⟩, 9) := ⟨⟨by decide +kernel, by decide +kernel⟩, List.mem_of_getElem? (i := 140) (by decide +kernel), List.mem_of_getElem? (i := 475) (by decide +kernel), List.mem_of_getElem? (i := 476) (by decide +kernel)⟩
theorem lw_p9 : lw_okq (⟨"HexBilliards$Shot", "step", "(LHexBilliards$State;I)V"⟩, 9) := ⟨⟨by decide +kernel, by decide +kernel⟩, List.mem_of_getElem? (i := 140) (by decide +kernel), List.mem_of_getElem? (i := 499) (by decide +kernel), List.mem_of_getElem? (i := 500) (by decide +kernel)⟩
theorem lw_p10 : lw_okq (⟨"HexBilliards$Shot", "hit", "(LHexBilliards$State;I)V"⟩, 9) := ⟨⟨by decide +kernel, by decide +kernel⟩, List.mem_of_getElem? (i := 140) (by decide +kernel), List.mem_of_getElem? (i := 518) (by decide +kernel), List.mem_of_getElem? (i := 519) (by decide +kernel)⟩
def lw_privs_1 : List (MethodName × Nat) := [(⟨"HexBilliards$History", "dropOldest", "()V"⟩, 2), (⟨"HexBilliards$BallText", "takes", "(C)Z"⟩, 7), (⟨"HexBilliards$BallText", "beginsNumber", "(CCI)Z"⟩, 7), (⟨"HexBilliards$BallText", "endsCell", "()Z"⟩, 7), (⟨"HexBilliards$BallText", "growsNumber", "(CI)Z"⟩, 7), (⟨"HexBilliards$BallText", "endBall", "()Z"⟩, 7), (⟨"HexBilliards", "tryShot", "(IIII)V"⟩, 7), (⟨"HexBilliards$Shot", "bank", "(LHexBilliards$State;)V"⟩, 9), (⟨"HexBilliards$Shot", "slow", "(I)V"⟩, 9), (⟨"HexBilliards$Shot", "step", "(LHexBilliards$State;I)V"⟩, 9), (⟨"HexBilliards$Shot", "hit", "(LHexBilliards$State;I)V"⟩, 9)]
theorem lw_r1 : ∀ q ∈ lw_privs_1, lw_okq q := List.forall_mem_cons.mpr ⟨lw_p0, List.forall_mem_cons.mpr ⟨lw_p1, List.forall_mem_cons.mpr ⟨lw_p2, List.forall_mem_cons.mpr ⟨lw_p3, List.forall_mem_cons.mpr ⟨lw_p4, List.forall_mem_cons.mpr ⟨lw_p5, List.forall_mem_cons.mpr ⟨lw_p6, List.forall_mem_cons.mpr ⟨lw_p7, List.forall_mem_cons.mpr ⟨lw_p8, List.forall_mem_cons.mpr ⟨lw_p9, List.forall_mem_cons.mpr ⟨lw_p10, fun _ h => absurd h List.not_mem_nil⟩⟩⟩⟩⟩⟩⟩⟩⟩⟩⟩
def lw_privs : List (MethodName × Nat) := lw_privs_1
def lw_tbl : List Cond := k2_sels lw_privs ++ tables_1
theorem lw_privs_ok : ∀ q ∈ lw_privs, lw_okq q := lw_r1
/-- the streams that the claim lets the run draw from -/
abbrev lw_cs : List Choice := [Jvm.Choice.named "NaN.bits"]
theorem lw_bits : nanBits ∈ lw_cs := by first | decide | exact List.mem_cons_self | simp [lw_cs, nanBits]
-- ===== end of PART A; then your names; then what follows =====
/-! ===== BEGIN printed: names, fields, word lists, decode rows ===== -/
def RX0 : String := "HexBilliards$BallText"
def TX0 : u_T := fun k => match k with
  | 0 => ("HexBilliards$BallText", "characters", "[C", true)
  | 1 => ("HexBilliards$BallText", "length", "I", false)
  | 2 => ("HexBilliards$BallText", "cells", "[I", true)
  | 3 => ("HexBilliards$BallText", "values", "[I", true)
  | 4 => ("HexBilliards$BallText", "balls", "I", false)
  | 5 => ("HexBilliards$BallText", "place", "I", false)
  | _ => ("HexBilliards$BallText", "number", "I", false)
def tyX0 : Nat → FieldType := fun k => match k with
  | 0 => .array .char
  | 1 => .int
  | 2 => .array .int
  | 3 => .array .int
  | 4 => .int
  | 5 => .int
  | _ => .int
abbrev wsX00 : List Cond := u_ws RX0 TX0 7
theorem nmX0 : ∀ a, a < 7 → ∀ b, b < 7 → a ≠ b → (TX0 a).2.1 ≠ (TX0 b).2.1 := by decide +kernel
theorem tyX0_ok : ∀ k, k < 7 → parseFieldDescriptor (TX0 k).2.2.1 = some (tyX0 k) := by decide +kernel
abbrev cX0_init : ByteArray := prog_2_method_1_code
def yX0_init : MethodName := ⟨RX0, "<init>", "()V"⟩
abbrev cX0_append : ByteArray := prog_2_method_2_code
def yX0_append : MethodName := ⟨RX0, "append", "(C)Z"⟩
abbrev cX0_cellOfBall : ByteArray := prog_2_method_3_code
def yX0_cellOfBall : MethodName := ⟨RX0, "cellOfBall", "(I)I"⟩
abbrev cX0_valueOfBall : ByteArray := prog_2_method_4_code
def yX0_valueOfBall : MethodName := ⟨RX0, "valueOfBall", "(I)I"⟩
abbrev cX0_read : ByteArray := prog_2_method_5_code
def yX0_read : MethodName := ⟨RX0, "read", "()I"⟩
abbrev cX0_takes : ByteArray := prog_2_method_6_code
def yX0_takes : MethodName := ⟨RX0, "takes", "(C)Z"⟩
abbrev cX0_beginsNumber : ByteArray := prog_2_method_7_code
def yX0_beginsNumber : MethodName := ⟨RX0, "beginsNumber", "(CCI)Z"⟩
abbrev cX0_growsNumber : ByteArray := prog_2_method_8_code
def yX0_growsNumber : MethodName := ⟨RX0, "growsNumber", "(CI)Z"⟩
abbrev cX0_endsCell : ByteArray := prog_2_method_9_code
def yX0_endsCell : MethodName := ⟨RX0, "endsCell", "()Z"⟩
abbrev cX0_endBall : ByteArray := prog_2_method_10_code
def yX0_endBall : MethodName := ⟨RX0, "endBall", "()Z"⟩
def RX1 : String := "HexBilliards$Felt"
def TX1 : u_T := fun k => match k with
  | _ => ("", "", "", false)
def tyX1 : Nat → FieldType := fun k => match k with
  | _ => .int
abbrev wsX10 : List Cond := u_ws RX1 TX1 0
theorem nmX1 : ∀ a, a < 0 → ∀ b, b < 0 → a ≠ b → (TX1 a).2.1 ≠ (TX1 b).2.1 := by decide +kernel
theorem tyX1_ok : ∀ k, k < 0 → parseFieldDescriptor (TX1 k).2.2.1 = some (tyX1 k) := by decide +kernel
abbrev cX1_isCell : ByteArray := prog_3_method_2_code
def yX1_isCell : MethodName := ⟨RX1, "isCell", "(I)Z"⟩
abbrev cX1_isDirection : ByteArray := prog_3_method_3_code
def yX1_isDirection : MethodName := ⟨RX1, "isDirection", "(I)Z"⟩
abbrev cX1_isOut : ByteArray := prog_3_method_4_code
def yX1_isOut : MethodName := ⟨RX1, "isOut", "(I)Z"⟩
abbrev cX1_cellAt : ByteArray := prog_3_method_5_code
def yX1_cellAt : MethodName := ⟨RX1, "cellAt", "(II)I"⟩
abbrev cX1_firstColumn : ByteArray := prog_3_method_6_code
def yX1_firstColumn : MethodName := ⟨RX1, "firstColumn", "(I)I"⟩
abbrev cX1_rowOf : ByteArray := prog_3_method_7_code
def yX1_rowOf : MethodName := ⟨RX1, "rowOf", "(I)I"⟩
abbrev cX1_columnOf : ByteArray := prog_3_method_8_code
def yX1_columnOf : MethodName := ⟨RX1, "columnOf", "(I)I"⟩
abbrev cX1_stepQ : ByteArray := prog_3_method_9_code
def yX1_stepQ : MethodName := ⟨RX1, "stepQ", "(I)I"⟩
abbrev cX1_stepR : ByteArray := prog_3_method_10_code
def yX1_stepR : MethodName := ⟨RX1, "stepR", "(I)I"⟩
abbrev cX1_turned : ByteArray := prog_3_method_11_code
def yX1_turned : MethodName := ⟨RX1, "turned", "(II)I"⟩
abbrev cX1_cornerOf : ByteArray := prog_3_method_12_code
def yX1_cornerOf : MethodName := ⟨RX1, "cornerOf", "(I)I"⟩
abbrev cX1_cellsBeside : ByteArray := prog_3_method_13_code
def yX1_cellsBeside : MethodName := ⟨RX1, "cellsBeside", "(I)I"⟩
def RX2 : String := "HexBilliards$History"
def TX2 : u_T := fun k => match k with
  | 0 => ("HexBilliards$History", "states", "[LHexBilliards$State;", true)
  | _ => ("HexBilliards$History", "size", "I", false)
def tyX2 : Nat → FieldType := fun k => match k with
  | 0 => .array (.object "HexBilliards$State")
  | _ => .int
abbrev wsX20 : List Cond := u_ws RX2 TX2 2
theorem nmX2 : ∀ a, a < 2 → ∀ b, b < 2 → a ≠ b → (TX2 a).2.1 ≠ (TX2 b).2.1 := by decide +kernel
theorem tyX2_ok : ∀ k, k < 2 → parseFieldDescriptor (TX2 k).2.2.1 = some (tyX2 k) := by decide +kernel
abbrev cX2_init : ByteArray := prog_4_method_1_code
def yX2_init : MethodName := ⟨RX2, "<init>", "()V"⟩
abbrev cX2_record : ByteArray := prog_4_method_2_code
def yX2_record : MethodName := ⟨RX2, "record", "(LHexBilliards$State;)V"⟩
abbrev cX2_dropOldest : ByteArray := prog_4_method_4_code
def yX2_dropOldest : MethodName := ⟨RX2, "dropOldest", "()V"⟩
def RX3 : String := "HexBilliards$Shot"
def TX3 : u_T := fun k => match k with
  | 0 => ("HexBilliards$Shot", "walker", "LHexBilliards$Walker;", true)
  | 1 => ("HexBilliards$Shot", "mover", "I", false)
  | 2 => ("HexBilliards$Shot", "speed", "F", false)
  | 3 => ("HexBilliards$Shot", "spin", "I", false)
  | 4 => ("HexBilliards$Shot", "thirds", "I", false)
  | 5 => ("HexBilliards$Shot", "steps", "I", false)
  | 6 => ("HexBilliards$Shot", "banks", "I", false)
  | 7 => ("HexBilliards$Shot", "hits", "I", false)
  | _ => ("HexBilliards$Shot", "gone", "I", false)
def tyX3 : Nat → FieldType := fun k => match k with
  | 0 => .object "HexBilliards$Walker"
  | 1 => .int
  | 2 => .float
  | 3 => .int
  | 4 => .int
  | 5 => .int
  | 6 => .int
  | 7 => .int
  | _ => .int
abbrev wsX30 : List Cond := u_ws RX3 TX3 9
theorem nmX3 : ∀ a, a < 9 → ∀ b, b < 9 → a ≠ b → (TX3 a).2.1 ≠ (TX3 b).2.1 := by decide +kernel
theorem tyX3_ok : ∀ k, k < 9 → parseFieldDescriptor (TX3 k).2.2.1 = some (tyX3 k) := by decide +kernel
abbrev cX3_init : ByteArray := prog_5_method_1_code
def yX3_init : MethodName := ⟨RX3, "<init>", "()V"⟩
abbrev cX3_play : ByteArray := prog_5_method_2_code
def yX3_play : MethodName := ⟨RX3, "play", "(LHexBilliards$State;IIII)V"⟩
abbrev cX3_bank : ByteArray := prog_5_method_3_code
def yX3_bank : MethodName := ⟨RX3, "bank", "(LHexBilliards$State;)V"⟩
abbrev cX3_hit : ByteArray := prog_5_method_4_code
def yX3_hit : MethodName := ⟨RX3, "hit", "(LHexBilliards$State;I)V"⟩
abbrev cX3_step : ByteArray := prog_5_method_5_code
def yX3_step : MethodName := ⟨RX3, "step", "(LHexBilliards$State;I)V"⟩
abbrev cX3_slow : ByteArray := prog_5_method_6_code
def yX3_slow : MethodName := ⟨RX3, "slow", "(I)V"⟩
def RX4 : String := "HexBilliards$State"
def TX4 : u_T := fun k => match k with
  | 0 => ("HexBilliards$State", "cellOf", "[I", true)
  | 1 => ("HexBilliards$State", "valueOf", "[I", true)
  | 2 => ("HexBilliards$State", "stepsOf", "[I", true)
  | 3 => ("HexBilliards$State", "banksOf", "[I", true)
  | 4 => ("HexBilliards$State", "hitsOf", "[I", true)
  | 5 => ("HexBilliards$State", "ballOn", "[I", true)
  | 6 => ("HexBilliards$State", "settings", "[I", true)
  | 7 => ("HexBilliards$State", "scores", "[I", true)
  | 8 => ("HexBilliards$State", "ballsSoFar", "I", false)
  | 9 => ("HexBilliards$State", "openPots", "I", false)
  | 10 => ("HexBilliards$State", "turn", "I", false)
  | 11 => ("HexBilliards$State", "run", "I", false)
  | 12 => ("HexBilliards$State", "shots", "I", false)
  | _ => ("HexBilliards$State", "goneByShots", "I", false)
def tyX4 : Nat → FieldType := fun k => match k with
  | 0 => .array .int
  | 1 => .array .int
  | 2 => .array .int
  | 3 => .array .int
  | 4 => .array .int
  | 5 => .array .int
  | 6 => .array .int
  | 7 => .array .int
  | 8 => .int
  | 9 => .int
  | 10 => .int
  | 11 => .int
  | 12 => .int
  | _ => .int
abbrev wsX40 : List Cond := u_ws RX4 TX4 14
theorem nmX4 : ∀ a, a < 14 → ∀ b, b < 14 → a ≠ b → (TX4 a).2.1 ≠ (TX4 b).2.1 := by decide +kernel
theorem tyX4_ok : ∀ k, k < 14 → parseFieldDescriptor (TX4 k).2.2.1 = some (tyX4 k) := by decide +kernel
abbrev cX4_init : ByteArray := prog_6_method_1_code
def yX4_init : MethodName := ⟨RX4, "<init>", "()V"⟩
abbrev cX4_copyFrom : ByteArray := prog_6_method_2_code
def yX4_copyFrom : MethodName := ⟨RX4, "copyFrom", "(LHexBilliards$State;)V"⟩
abbrev cX4_isBallNumber : ByteArray := prog_6_method_3_code
def yX4_isBallNumber : MethodName := ⟨RX4, "isBallNumber", "(I)Z"⟩
abbrev cX4_total : ByteArray := prog_6_method_4_code
def yX4_total : MethodName := ⟨RX4, "total", "([I)I"⟩
abbrev cX4_hasBall : ByteArray := prog_6_method_5_code
def yX4_hasBall : MethodName := ⟨RX4, "hasBall", "(I)Z"⟩
abbrev cX4_cellOfBall : ByteArray := prog_6_method_6_code
def yX4_cellOfBall : MethodName := ⟨RX4, "cellOfBall", "(I)I"⟩
abbrev cX4_valueOfBall : ByteArray := prog_6_method_7_code
def yX4_valueOfBall : MethodName := ⟨RX4, "valueOfBall", "(I)I"⟩
abbrev cX4_ballOnCell : ByteArray := prog_6_method_8_code
def yX4_ballOnCell : MethodName := ⟨RX4, "ballOnCell", "(I)I"⟩
abbrev cX4_ballsOnFelt : ByteArray := prog_6_method_9_code
def yX4_ballsOnFelt : MethodName := ⟨RX4, "ballsOnFelt", "()I"⟩
abbrev cX4_isOpenPot : ByteArray := prog_6_method_10_code
def yX4_isOpenPot : MethodName := ⟨RX4, "isOpenPot", "(I)Z"⟩
abbrev cX4_refusalToAdd : ByteArray := prog_6_method_11_code
def yX4_refusalToAdd : MethodName := ⟨RX4, "refusalToAdd", "(I)I"⟩
abbrev cX4_addBall : ByteArray := prog_6_method_12_code
def yX4_addBall : MethodName := ⟨RX4, "addBall", "(II)I"⟩
abbrev cX4_place : ByteArray := prog_6_method_13_code
def yX4_place : MethodName := ⟨RX4, "place", "(II)V"⟩
abbrev cX4_lift : ByteArray := prog_6_method_14_code
def yX4_lift : MethodName := ⟨RX4, "lift", "(I)V"⟩
abbrev cX4_addStep : ByteArray := prog_6_method_15_code
def yX4_addStep : MethodName := ⟨RX4, "addStep", "(I)V"⟩
abbrev cX4_addBank : ByteArray := prog_6_method_16_code
def yX4_addBank : MethodName := ⟨RX4, "addBank", "(I)V"⟩
abbrev cX4_addHit : ByteArray := prog_6_method_17_code
def yX4_addHit : MethodName := ⟨RX4, "addHit", "(I)V"⟩
abbrev cX4_scoreShot : ByteArray := prog_6_method_18_code
def yX4_scoreShot : MethodName := ⟨RX4, "scoreShot", "(I)V"⟩
abbrev cX4_changeTurn : ByteArray := prog_6_method_19_code
def yX4_changeTurn : MethodName := ⟨RX4, "changeTurn", "()V"⟩
def RX5 : String := "HexBilliards$Walker"
def TX5 : u_T := fun k => match k with
  | 0 => ("HexBilliards$Walker", "q", "I", false)
  | 1 => ("HexBilliards$Walker", "r", "I", false)
  | _ => ("HexBilliards$Walker", "direction", "I", false)
def tyX5 : Nat → FieldType := fun k => match k with
  | 0 => .int
  | 1 => .int
  | _ => .int
abbrev wsX50 : List Cond := u_ws RX5 TX5 3
theorem nmX5 : ∀ a, a < 3 → ∀ b, b < 3 → a ≠ b → (TX5 a).2.1 ≠ (TX5 b).2.1 := by decide +kernel
theorem tyX5_ok : ∀ k, k < 3 → parseFieldDescriptor (TX5 k).2.2.1 = some (tyX5 k) := by decide +kernel
abbrev cX5_init : ByteArray := prog_7_method_1_code
def yX5_init : MethodName := ⟨RX5, "<init>", "()V"⟩
abbrev cX5_startAt : ByteArray := prog_7_method_2_code
def yX5_startAt : MethodName := ⟨RX5, "startAt", "(II)V"⟩
abbrev cX5_cellAhead : ByteArray := prog_7_method_3_code
def yX5_cellAhead : MethodName := ⟨RX5, "cellAhead", "()I"⟩
abbrev cX5_stepAhead : ByteArray := prog_7_method_4_code
def yX5_stepAhead : MethodName := ⟨RX5, "stepAhead", "()V"⟩
abbrev cX5_turnAtBank : ByteArray := prog_7_method_5_code
def yX5_turnAtBank : MethodName := ⟨RX5, "turnAtBank", "()V"⟩
abbrev cX5_turnOnIfOpen : ByteArray := prog_7_method_6_code
def yX5_turnOnIfOpen : MethodName := ⟨RX5, "turnOnIfOpen", "()V"⟩
abbrev cX5_walk : ByteArray := prog_7_method_7_code
def yX5_walk : MethodName := ⟨RX5, "walk", "(I)V"⟩
def RX6 : String := "HexBilliards"
def TX6 : u_T := fun k => match k with
  | 0 => ("HexBilliards", "state", "LHexBilliards$State;", true)
  | 1 => ("HexBilliards", "snapshot", "LHexBilliards$State;", true)
  | 2 => ("HexBilliards", "trial", "LHexBilliards$State;", true)
  | 3 => ("HexBilliards", "history", "LHexBilliards$History;", true)
  | 4 => ("HexBilliards", "text", "LHexBilliards$BallText;", true)
  | 5 => ("HexBilliards", "shot", "LHexBilliards$Shot;", true)
  | _ => ("HexBilliards", "hasSnapshot", "Z", false)
def tyX6 : Nat → FieldType := fun k => match k with
  | 0 => .object "HexBilliards$State"
  | 1 => .object "HexBilliards$State"
  | 2 => .object "HexBilliards$State"
  | 3 => .object "HexBilliards$History"
  | 4 => .object "HexBilliards$BallText"
  | 5 => .object "HexBilliards$Shot"
  | _ => .boolean
abbrev wsX60 : List Cond := u_ws RX6 TX6 7
theorem nmX6 : ∀ a, a < 7 → ∀ b, b < 7 → a ≠ b → (TX6 a).2.1 ≠ (TX6 b).2.1 := by decide +kernel
theorem tyX6_ok : ∀ k, k < 7 → parseFieldDescriptor (TX6 k).2.2.1 = some (tyX6 k) := by decide +kernel
abbrev cX6_init : ByteArray := prog_1_method_1_code
def yX6_init : MethodName := ⟨RX6, "<init>", "()V"⟩
abbrev cX6_put : ByteArray := prog_1_method_2_code
def yX6_put : MethodName := ⟨RX6, "put", "(II)I"⟩
abbrev cX6_putAll : ByteArray := prog_1_method_3_code
def yX6_putAll : MethodName := ⟨RX6, "putAll", "()I"⟩
abbrev cX6_move : ByteArray := prog_1_method_4_code
def yX6_move : MethodName := ⟨RX6, "move", "(II)I"⟩
abbrev cX6_takeOff : ByteArray := prog_1_method_5_code
def yX6_takeOff : MethodName := ⟨RX6, "takeOff", "(I)I"⟩
abbrev cX6_setPots : ByteArray := prog_1_method_6_code
def yX6_setPots : MethodName := ⟨RX6, "setPots", "(I)I"⟩
abbrev cX6_set : ByteArray := prog_1_method_7_code
def yX6_set : MethodName := ⟨RX6, "set", "(II)I"⟩
abbrev cX6_shoot : ByteArray := prog_1_method_8_code
def yX6_shoot : MethodName := ⟨RX6, "shoot", "(IIIII)I"⟩
abbrev cX6_pass : ByteArray := prog_1_method_9_code
def yX6_pass : MethodName := ⟨RX6, "pass", "(I)I"⟩
abbrev cX6_type : ByteArray := prog_1_method_10_code
def yX6_type : MethodName := ⟨RX6, "type", "(C)I"⟩
abbrev cX6_clearText : ByteArray := prog_1_method_11_code
def yX6_clearText : MethodName := ⟨RX6, "clearText", "()I"⟩
abbrev cX6_cell : ByteArray := prog_1_method_15_code
def yX6_cell : MethodName := ⟨RX6, "cell", "(II)I"⟩
abbrev cX6_ofCell : ByteArray := prog_1_method_16_code
def yX6_ofCell : MethodName := ⟨RX6, "ofCell", "(II)I"⟩
abbrev cX6_ball : ByteArray := prog_1_method_17_code
def yX6_ball : MethodName := ⟨RX6, "ball", "(II)I"⟩
abbrev cX6_would : ByteArray := prog_1_method_18_code
def yX6_would : MethodName := ⟨RX6, "would", "(IIIII)I"⟩
abbrev cX6_speedLeft : ByteArray := prog_1_method_19_code
def yX6_speedLeft : MethodName := ⟨RX6, "speedLeft", "(IIII)F"⟩
abbrev cX6_along : ByteArray := prog_1_method_20_code
def yX6_along : MethodName := ⟨RX6, "along", "(IIIZ)I"⟩
abbrev cX6_best : ByteArray := prog_1_method_21_code
def yX6_best : MethodName := ⟨RX6, "best", "(III)I"⟩
abbrev cX6_count : ByteArray := prog_1_method_22_code
def yX6_count : MethodName := ⟨RX6, "count", "(I)I"⟩
abbrev cX6_isPlayer : ByteArray := prog_1_method_23_code
def yX6_isPlayer : MethodName := ⟨RX6, "isPlayer", "(I)Z"⟩
abbrev cX6_isShot : ByteArray := prog_1_method_24_code
def yX6_isShot : MethodName := ⟨RX6, "isShot", "(III)Z"⟩
abbrev cX6_isForce : ByteArray := prog_1_method_25_code
def yX6_isForce : MethodName := ⟨RX6, "isForce", "(II)Z"⟩
abbrev cX6_tryShot : ByteArray := prog_1_method_26_code
def yX6_tryShot : MethodName := ⟨RX6, "tryShot", "(IIII)V"⟩
def RX7 : String := "HexBilliardsModel"
def TX7 : u_T := fun k => match k with
  | _ => ("", "", "", false)
def tyX7 : Nat → FieldType := fun k => match k with
  | _ => .int
abbrev wsX70 : List Cond := u_ws RX7 TX7 0
theorem nmX7 : ∀ a, a < 0 → ∀ b, b < 0 → a ≠ b → (TX7 a).2.1 ≠ (TX7 b).2.1 := by decide +kernel
theorem tyX7_ok : ∀ k, k < 0 → parseFieldDescriptor (TX7 k).2.2.1 = some (tyX7 k) := by decide +kernel
def RJ9 : String := "java/lang/Math"
def TJ9 : u_T := fun k => match k with
  | _ => ("", "", "", false)
def tyJ9 : Nat → FieldType := fun k => match k with
  | _ => .int
abbrev wsJ90 : List Cond := u_ws RJ9 TJ9 0
theorem nmJ9 : ∀ a, a < 0 → ∀ b, b < 0 → a ≠ b → (TJ9 a).2.1 ≠ (TJ9 b).2.1 := by decide +kernel
theorem tyJ9_ok : ∀ k, k < 0 → parseFieldDescriptor (TJ9 k).2.2.1 = some (tyJ9 k) := by decide +kernel
abbrev cJ9_floorMod_7cf53 : ByteArray := prog_10_method_50_code
def yJ9_floorMod_7cf53 : MethodName := ⟨RJ9, "floorMod", "(II)I"⟩
def RJ10 : String := "java/lang/System"
def TJ10 : u_T := fun k => match k with
  | _ => ("", "", "", false)
def tyJ10 : Nat → FieldType := fun k => match k with
  | _ => .int
abbrev wsJ100 : List Cond := u_ws RJ10 TJ10 0
theorem nmJ10 : ∀ a, a < 0 → ∀ b, b < 0 → a ≠ b → (TJ10 a).2.1 ≠ (TJ10 b).2.1 := by decide +kernel
theorem tyJ10_ok : ∀ k, k < 0 → parseFieldDescriptor (TJ10 k).2.2.1 = some (tyJ10 k) := by decide +kernel
def RJ7 : String := "java/util/Arrays"
def TJ7 : u_T := fun k => match k with
  | _ => ("", "", "", false)
def tyJ7 : Nat → FieldType := fun k => match k with
  | _ => .int
abbrev wsJ70 : List Cond := u_ws RJ7 TJ7 0
theorem nmJ7 : ∀ a, a < 0 → ∀ b, b < 0 → a ≠ b → (TJ7 a).2.1 ≠ (TJ7 b).2.1 := by decide +kernel
theorem tyJ7_ok : ∀ k, k < 0 → parseFieldDescriptor (TJ7 k).2.2.1 = some (tyJ7 k) := by decide +kernel
abbrev cJ7_fill_53178 : ByteArray := prog_12_method_103_code
def yJ7_fill_53178 : MethodName := ⟨RJ7, "fill", "([II)V"⟩
def RL : String := "HexBilliardsLaw"
abbrev cL_cell : ByteArray := method_2_code
def yL_cell : MethodName := ⟨RL, "cell", "([II)I"⟩
abbrev cL_up : ByteArray := method_3_code
def yL_up : MethodName := ⟨RL, "up", "(II)I"⟩
abbrev cL_there : ByteArray := method_4_code
def yL_there : MethodName := ⟨RL, "there", "(I)I"⟩
abbrev cL_way : ByteArray := method_5_code
def yL_way : MethodName := ⟨RL, "way", "(I)I"⟩
abbrev cL_pots : ByteArray := method_6_code
def yL_pots : MethodName := ⟨RL, "pots", "(I)I"⟩
abbrev cL_number : ByteArray := method_7_code
def yL_number : MethodName := ⟨RL, "number", "(LHexBilliards;I)Z"⟩
abbrev cL_isStep : ByteArray := method_8_code
def yL_isStep : MethodName := ⟨RL, "isStep", "(LHexBilliards;LHexBilliards;II)Z"⟩
abbrev cL_isShot : ByteArray := method_9_code
def yL_isShot : MethodName := ⟨RL, "isShot", "(LHexBilliards;LHexBilliards;III)Z"⟩
abbrev cL_areAlike : ByteArray := method_10_code
def yL_areAlike : MethodName := ⟨RL, "areAlike", "(LHexBilliards;LHexBilliards;I)Z"⟩
abbrev cL_isWell : ByteArray := method_11_code
def yL_isWell : MethodName := ⟨RL, "isWell", "(LHexBilliards;I)Z"⟩
abbrev cL_law : ByteArray := code
def yL_law : MethodName := ⟨RL, "law", "([I)Z"⟩
abbrev vwCl : List vw_C := [(RX0, TX0, 7), (RX2, TX2, 2), (RX3, TX3, 9), (RX4, TX4, 14), (RX5, TX5, 3), (RX6, TX6, 7)]
/-- the words that every method of ours may ask for: all good words of the tables -/
def T0 : List Cond := lw_tbl.filter goodWord
theorem T0_tbl : ∀ w ∈ T0, w ∈ lw_tbl := fun _ h => (List.mem_filter.mp h).1
theorem T0_good : ∀ w ∈ T0, goodWord w = true := fun _ h => (List.mem_filter.mp h).2
theorem T0_in (c : Cond) : ∀ {ws : List Cond}, (∀ w ∈ ws, w ∈ T0) → GoodIn (c :: T0) ws := fun h w hw => ⟨List.mem_cons_of_mem _ (h w hw), good_of_word (T0_good w (h w hw))⟩
theorem T0_k1 : ∀ {w : Cond}, w ∈ tables_1_1 → goodWord w = true → w ∈ T0 := fun h g => List.mem_filter.mpr ⟨List.mem_append_right _ (List.mem_append_left _ h), g⟩
theorem T0_k2 : ∀ {w : Cond}, w ∈ tables_1_2 → goodWord w = true → w ∈ T0 := fun h g => List.mem_filter.mpr ⟨List.mem_append_right _ (List.mem_append_right _ (List.mem_append_left _ h)), g⟩
theorem T0_k3 : ∀ {w : Cond}, w ∈ tables_1_3 → goodWord w = true → w ∈ T0 := fun h g => List.mem_filter.mpr ⟨List.mem_append_right _ (List.mem_append_right _ (List.mem_append_right _ h)), g⟩
theorem lt_k1 : ∀ {w : Cond}, w ∈ tables_1_1 → w ∈ lw_tbl := fun h => List.mem_append_right _ (List.mem_append_left _ h)
theorem lt_k2 : ∀ {w : Cond}, w ∈ tables_1_2 → w ∈ lw_tbl := fun h => List.mem_append_right _ (List.mem_append_right _ (List.mem_append_left _ h))
theorem lt_k3 : ∀ {w : Cond}, w ∈ tables_1_3 → w ∈ lw_tbl := fun h => List.mem_append_right _ (List.mem_append_right _ (List.mem_append_right _ h))
theorem T0_p : ∀ {q : MethodName × Nat}, q ∈ lw_privs → goodWord (Cond.selects q.1.cls q.1 q.1) = true → Cond.selects q.1.cls q.1 q.1 ∈ T0 := fun h g => List.mem_filter.mpr ⟨List.mem_append_left _ (List.mem_map.mpr ⟨_, h, rfl⟩), g⟩
theorem wcl_L_10 : Cond.classLink RL 10 RX6 ∈ T0 := T0_k1 (List.mem_of_getElem? (i := 11) rfl) rfl
theorem wn_X6 : Cond.instantiable RX6 7 ∈ T0 := T0_k1 (List.mem_of_getElem? (i := 12) rfl) rfl
theorem wi_X6 : Cond.initialized RX6 ∈ T0 := T0_k1 (List.mem_of_getElem? (i := 1) rfl) rfl
theorem wm_L_95 : Cond.methodLink RL 95 yX6_init ∈ T0 := T0_k1 (List.mem_of_getElem? (i := 13) rfl) rfl
theorem wim_yX6_init : Cond.instanceMethod yX6_init ∈ T0 := T0_k1 (List.mem_of_getElem? (i := 14) rfl) rfl
theorem wc_yX6_init : Cond.code yX6_init cX6_init 1 none ∈ T0 := T0_k1 (List.mem_of_getElem? (i := 15) rfl) rfl
theorem wm_X6_1 : Cond.methodLink RX6 1 objectInit ∈ T0 := T0_k1 (List.mem_of_getElem? (i := 16) rfl) rfl
theorem wim_objectInit : Cond.instanceMethod objectInit ∈ T0 := T0_k1 (List.mem_of_getElem? (i := 17) rfl) rfl
theorem wc_objectInit : Cond.code objectInit ⟨#[0xb1]⟩ 1 none ∈ T0 := T0_k1 (List.mem_of_getElem? (i := 18) rfl) rfl
theorem wcl_X6_7 : Cond.classLink RX6 7 RX4 ∈ T0 := T0_k1 (List.mem_of_getElem? (i := 19) rfl) rfl
theorem wn_X4 : Cond.instantiable RX4 14 ∈ T0 := T0_k1 (List.mem_of_getElem? (i := 20) rfl) rfl
theorem wi_X4 : Cond.initialized RX4 ∈ T0 := T0_k1 (List.mem_of_getElem? (i := 2) rfl) rfl
theorem wf_X6_10 : Cond.fieldLink RX6 10 "HexBilliards" "state" "LHexBilliards$State;" ∈ T0 := T0_k1 (List.mem_of_getElem? (i := 199) rfl) rfl
theorem wf_X6_16 : Cond.fieldLink RX6 16 "HexBilliards" "snapshot" "LHexBilliards$State;" ∈ T0 := T0_k1 (List.mem_of_getElem? (i := 200) rfl) rfl
theorem wf_X6_19 : Cond.fieldLink RX6 19 "HexBilliards" "trial" "LHexBilliards$State;" ∈ T0 := T0_k1 (List.mem_of_getElem? (i := 201) rfl) rfl
theorem wcl_X6_22 : Cond.classLink RX6 22 RX2 ∈ T0 := T0_k1 (List.mem_of_getElem? (i := 91) rfl) rfl
theorem wn_X2 : Cond.instantiable RX2 2 ∈ T0 := T0_k1 (List.mem_of_getElem? (i := 92) rfl) rfl
theorem wi_X2 : Cond.initialized RX2 ∈ T0 := T0_k1 (List.mem_of_getElem? (i := 5) rfl) rfl
theorem wf_X6_25 : Cond.fieldLink RX6 25 "HexBilliards" "history" "LHexBilliards$History;" ∈ T0 := T0_k1 (List.mem_of_getElem? (i := 202) rfl) rfl
theorem wcl_X6_29 : Cond.classLink RX6 29 RX0 ∈ T0 := T0_k1 (List.mem_of_getElem? (i := 108) rfl) rfl
theorem wn_X0 : Cond.instantiable RX0 7 ∈ T0 := T0_k1 (List.mem_of_getElem? (i := 109) rfl) rfl
theorem wi_X0 : Cond.initialized RX0 ∈ T0 := T0_k1 (List.mem_of_getElem? (i := 6) rfl) rfl
theorem wf_X6_32 : Cond.fieldLink RX6 32 "HexBilliards" "text" "LHexBilliards$BallText;" ∈ T0 := T0_k1 (List.mem_of_getElem? (i := 203) rfl) rfl
theorem wcl_X6_36 : Cond.classLink RX6 36 RX3 ∈ T0 := T0_k1 (List.mem_of_getElem? (i := 139) rfl) rfl
theorem wn_X3 : Cond.instantiable RX3 9 ∈ T0 := T0_k1 (List.mem_of_getElem? (i := 140) rfl) rfl
theorem wi_X3 : Cond.initialized RX3 ∈ T0 := T0_k1 (List.mem_of_getElem? (i := 7) rfl) rfl
theorem wf_X6_39 : Cond.fieldLink RX6 39 "HexBilliards" "shot" "LHexBilliards$Shot;" ∈ T0 := T0_k1 (List.mem_of_getElem? (i := 204) rfl) rfl
theorem wm_X6_9 : Cond.methodLink RX6 9 yX4_init ∈ T0 := T0_k1 (List.mem_of_getElem? (i := 21) rfl) rfl
theorem wim_yX4_init : Cond.instanceMethod yX4_init ∈ T0 := T0_k1 (List.mem_of_getElem? (i := 22) rfl) rfl
theorem wc_yX4_init : Cond.code yX4_init cX4_init 1 none ∈ T0 := T0_k1 (List.mem_of_getElem? (i := 23) rfl) rfl
theorem wm_X4_3 : Cond.methodLink RX4 3 objectInit ∈ T0 := T0_k1 (List.mem_of_getElem? (i := 24) rfl) rfl
theorem wac_int : Cond.arrayClass .int ∈ T0 := T0_k1 (List.mem_of_getElem? (i := 90) rfl) rfl
theorem wf_X4_9 : Cond.fieldLink RX4 9 "HexBilliards$State" "cellOf" "[I" ∈ T0 := T0_k1 (List.mem_of_getElem? (i := 33) rfl) rfl
theorem wf_X4_15 : Cond.fieldLink RX4 15 "HexBilliards$State" "valueOf" "[I" ∈ T0 := T0_k1 (List.mem_of_getElem? (i := 35) rfl) rfl
theorem wf_X4_18 : Cond.fieldLink RX4 18 "HexBilliards$State" "stepsOf" "[I" ∈ T0 := T0_k1 (List.mem_of_getElem? (i := 37) rfl) rfl
theorem wf_X4_21 : Cond.fieldLink RX4 21 "HexBilliards$State" "banksOf" "[I" ∈ T0 := T0_k1 (List.mem_of_getElem? (i := 39) rfl) rfl
theorem wf_X4_24 : Cond.fieldLink RX4 24 "HexBilliards$State" "hitsOf" "[I" ∈ T0 := T0_k1 (List.mem_of_getElem? (i := 41) rfl) rfl
theorem wf_X4_27 : Cond.fieldLink RX4 27 "HexBilliards$State" "ballOn" "[I" ∈ T0 := T0_k1 (List.mem_of_getElem? (i := 43) rfl) rfl
theorem wf_X4_30 : Cond.fieldLink RX4 30 "HexBilliards$State" "settings" "[I" ∈ T0 := T0_k1 (List.mem_of_getElem? (i := 44) rfl) rfl
theorem wf_X4_33 : Cond.fieldLink RX4 33 "HexBilliards$State" "scores" "[I" ∈ T0 := T0_k1 (List.mem_of_getElem? (i := 47) rfl) rfl
theorem wm_X4_45 : Cond.methodLink RX4 45 arraycopyName ∈ T0 := T0_k1 (List.mem_of_getElem? (i := 30) rfl) rfl
theorem wnat_arraycopyName : Cond.native arraycopyName ∈ T0 := T0_k1 (List.mem_of_getElem? (i := 32) rfl) rfl
theorem wst_arraycopyName : Cond.static arraycopyName ∈ T0 := T0_k1 (List.mem_of_getElem? (i := 31) rfl) rfl
theorem wi_java_lang_System : Cond.initialized "java/lang/System" ∈ T0 := T0_k1 (List.mem_of_getElem? (i := 4) rfl) rfl
theorem wf_X4_51 : Cond.fieldLink RX4 51 "HexBilliards$State" "openPots" "I" ∈ T0 := T0_k1 (List.mem_of_getElem? (i := 51) rfl) rfl
theorem wm_X4_36 : Cond.methodLink RX4 36 yJ7_fill_53178 ∈ T0 := T0_k1 (List.mem_of_getElem? (i := 25) rfl) rfl
theorem wst_yJ7_fill_53178 : Cond.static yJ7_fill_53178 ∈ T0 := T0_k1 (List.mem_of_getElem? (i := 26) rfl) rfl
theorem wi_J7 : Cond.initialized RJ7 ∈ T0 := T0_k1 (List.mem_of_getElem? (i := 3) rfl) rfl
theorem wc_yJ7_fill_53178 : Cond.code yJ7_fill_53178 cJ7_fill_53178 4 none ∈ T0 := T0_k1 (List.mem_of_getElem? (i := 27) rfl) rfl
theorem wm_X6_24 : Cond.methodLink RX6 24 yX2_init ∈ T0 := T0_k1 (List.mem_of_getElem? (i := 93) rfl) rfl
theorem wim_yX2_init : Cond.instanceMethod yX2_init ∈ T0 := T0_k1 (List.mem_of_getElem? (i := 94) rfl) rfl
theorem wc_yX2_init : Cond.code yX2_init cX2_init 2 none ∈ T0 := T0_k1 (List.mem_of_getElem? (i := 95) rfl) rfl
theorem wm_X2_1 : Cond.methodLink RX2 1 objectInit ∈ T0 := T0_k1 (List.mem_of_getElem? (i := 96) rfl) rfl
theorem wcl_X2_9 : Cond.classLink RX2 9 RX4 ∈ T0 := T0_k1 (List.mem_of_getElem? (i := 97) rfl) rfl
theorem wf_X2_11 : Cond.fieldLink RX2 11 "HexBilliards$History" "states" "[LHexBilliards$State;" ∈ T0 := T0_k1 (List.mem_of_getElem? (i := 100) rfl) rfl
theorem wm_X2_15 : Cond.methodLink RX2 15 yX4_init ∈ T0 := T0_k1 (List.mem_of_getElem? (i := 99) rfl) rfl
theorem wim_yX0_init : Cond.instanceMethod yX0_init ∈ T0 := T0_k1 (List.mem_of_getElem? (i := 111) rfl) rfl
theorem wc_yX0_init : Cond.code yX0_init cX0_init 1 none ∈ T0 := T0_k1 (List.mem_of_getElem? (i := 112) rfl) rfl
theorem wm_X0_3 : Cond.methodLink RX0 3 objectInit ∈ T0 := T0_k1 (List.mem_of_getElem? (i := 113) rfl) rfl
theorem wac_char : Cond.arrayClass .char ∈ T0 := T0_k1 (List.mem_of_getElem? (i := 138) rfl) rfl
theorem wf_X0_11 : Cond.fieldLink RX0 11 "HexBilliards$BallText" "characters" "[C" ∈ T0 := T0_k1 (List.mem_of_getElem? (i := 114) rfl) rfl
theorem wf_X0_15 : Cond.fieldLink RX0 15 "HexBilliards$BallText" "cells" "[I" ∈ T0 := T0_k1 (List.mem_of_getElem? (i := 117) rfl) rfl
theorem wf_X0_19 : Cond.fieldLink RX0 19 "HexBilliards$BallText" "values" "[I" ∈ T0 := T0_k1 (List.mem_of_getElem? (i := 118) rfl) rfl
theorem wim_yX3_init : Cond.instanceMethod yX3_init ∈ T0 := T0_k1 (List.mem_of_getElem? (i := 142) rfl) rfl
theorem wc_yX3_init : Cond.code yX3_init cX3_init 1 none ∈ T0 := T0_k1 (List.mem_of_getElem? (i := 143) rfl) rfl
theorem wm_X3_3 : Cond.methodLink RX3 3 objectInit ∈ T0 := T0_k1 (List.mem_of_getElem? (i := 144) rfl) rfl
theorem wcl_X3_9 : Cond.classLink RX3 9 RX5 ∈ T0 := T0_k1 (List.mem_of_getElem? (i := 145) rfl) rfl
theorem wn_X5 : Cond.instantiable RX5 3 ∈ T0 := T0_k1 (List.mem_of_getElem? (i := 146) rfl) rfl
theorem wi_X5 : Cond.initialized RX5 ∈ T0 := T0_k1 (List.mem_of_getElem? (i := 8) rfl) rfl
theorem wf_X3_12 : Cond.fieldLink RX3 12 "HexBilliards$Shot" "walker" "LHexBilliards$Walker;" ∈ T0 := T0_k1 (List.mem_of_getElem? (i := 164) rfl) rfl
theorem wim_yX5_init : Cond.instanceMethod yX5_init ∈ T0 := T0_k1 (List.mem_of_getElem? (i := 148) rfl) rfl
theorem wc_yX5_init : Cond.code yX5_init cX5_init 1 none ∈ T0 := T0_k1 (List.mem_of_getElem? (i := 149) rfl) rfl
theorem wm_X5_3 : Cond.methodLink RX5 3 objectInit ∈ T0 := T0_k1 (List.mem_of_getElem? (i := 150) rfl) rfl
theorem wm_L_96 : Cond.methodLink RL 96 yL_cell ∈ T0 := T0_k1 (List.mem_of_getElem? (i := 220) rfl) rfl
theorem wst_yL_cell : Cond.static yL_cell ∈ T0 := T0_k1 (List.mem_of_getElem? (i := 221) rfl) rfl
theorem wi_L : Cond.initialized RL ∈ T0 := T0_k1 (List.mem_of_getElem? (i := 0) rfl) rfl
theorem wc_yL_cell : Cond.code yL_cell cL_cell 2 (some .int) ∈ T0 := T0_k1 (List.mem_of_getElem? (i := 222) rfl) rfl
theorem wk_L_7 : Cond.constant RL 7 (2127807911) ∈ T0 := T0_k1 (List.mem_of_getElem? (i := 223) rfl) rfl
theorem wm_L_99 : Cond.methodLink RL 99 yL_isStep ∈ T0 := T0_k1 (List.mem_of_getElem? (i := 224) rfl) rfl
theorem wst_yL_isStep : Cond.static yL_isStep ∈ T0 := T0_k1 (List.mem_of_getElem? (i := 225) rfl) rfl
theorem wc_yL_isStep : Cond.code yL_isStep cL_isStep 12 (some .boolean) ∈ T0 := T0_k1 (List.mem_of_getElem? (i := 226) rfl) rfl
theorem wm_L_15 : Cond.methodLink RL 15 yX6_count ∈ T0 := T0_k1 (List.mem_of_getElem? (i := 227) rfl) rfl
theorem wim_yX6_count : Cond.instanceMethod yX6_count ∈ T0 := T0_k1 (List.mem_of_getElem? (i := 228) rfl) rfl
theorem wse_yX6_count : Cond.selects RX6 yX6_count yX6_count ∈ T0 := T0_k1 (List.mem_of_getElem? (i := 229) rfl) rfl
theorem wc_yX6_count : Cond.code yX6_count cX6_count 2 (some .int) ∈ T0 := T0_k1 (List.mem_of_getElem? (i := 230) rfl) rfl
theorem wm_X6_151 : Cond.methodLink RX6 151 yX4_ballsOnFelt ∈ T0 := T0_k1 (List.mem_of_getElem? (i := 231) rfl) rfl
theorem wim_yX4_ballsOnFelt : Cond.instanceMethod yX4_ballsOnFelt ∈ T0 := T0_k1 (List.mem_of_getElem? (i := 232) rfl) rfl
theorem wse_yX4_ballsOnFelt : Cond.selects RX4 yX4_ballsOnFelt yX4_ballsOnFelt ∈ T0 := T0_k1 (List.mem_of_getElem? (i := 233) rfl) rfl
theorem wc_yX4_ballsOnFelt : Cond.code yX4_ballsOnFelt cX4_ballsOnFelt 3 (some .int) ∈ T0 := T0_k1 (List.mem_of_getElem? (i := 234) rfl) rfl
theorem wm_X6_248 : Cond.methodLink RX6 248 yX4_total ∈ T0 := T0_k1 (List.mem_of_getElem? (i := 235) rfl) rfl
theorem wst_yX4_total : Cond.static yX4_total ∈ T0 := T0_k1 (List.mem_of_getElem? (i := 236) rfl) rfl
theorem wc_yX4_total : Cond.code yX4_total cX4_total 3 (some .int) ∈ T0 := T0_k1 (List.mem_of_getElem? (i := 237) rfl) rfl
theorem wm_L_19 : Cond.methodLink RL 19 yL_up ∈ T0 := T0_k1 (List.mem_of_getElem? (i := 238) rfl) rfl
theorem wst_yL_up : Cond.static yL_up ∈ T0 := T0_k1 (List.mem_of_getElem? (i := 239) rfl) rfl
theorem wc_yL_up : Cond.code yL_up cL_up 2 (some .int) ∈ T0 := T0_k2 (List.mem_of_getElem? (i := 0) rfl) rfl
theorem wk_L_8 : Cond.constant RL 8 (2147483647) ∈ T0 := T0_k2 (List.mem_of_getElem? (i := 1) rfl) rfl
theorem wm_L_25 : Cond.methodLink RL 25 yX6_ball ∈ T0 := T0_k2 (List.mem_of_getElem? (i := 2) rfl) rfl
theorem wim_yX6_ball : Cond.instanceMethod yX6_ball ∈ T0 := T0_k2 (List.mem_of_getElem? (i := 3) rfl) rfl
theorem wse_yX6_ball : Cond.selects RX6 yX6_ball yX6_ball ∈ T0 := T0_k2 (List.mem_of_getElem? (i := 4) rfl) rfl
theorem wc_yX6_ball : Cond.code yX6_ball cX6_ball 3 (some .int) ∈ T0 := T0_k2 (List.mem_of_getElem? (i := 5) rfl) rfl
theorem wm_X6_78 : Cond.methodLink RX6 78 yX4_hasBall ∈ T0 := T0_k2 (List.mem_of_getElem? (i := 6) rfl) rfl
theorem wim_yX4_hasBall : Cond.instanceMethod yX4_hasBall ∈ T0 := T0_k2 (List.mem_of_getElem? (i := 7) rfl) rfl
theorem wse_yX4_hasBall : Cond.selects RX4 yX4_hasBall yX4_hasBall ∈ T0 := T0_k2 (List.mem_of_getElem? (i := 8) rfl) rfl
theorem wc_yX4_hasBall : Cond.code yX4_hasBall cX4_hasBall 2 (some .boolean) ∈ T0 := T0_k2 (List.mem_of_getElem? (i := 9) rfl) rfl
theorem wm_X4_70 : Cond.methodLink RX4 70 yX4_isBallNumber ∈ T0 := T0_k2 (List.mem_of_getElem? (i := 10) rfl) rfl
theorem wst_yX4_isBallNumber : Cond.static yX4_isBallNumber ∈ T0 := T0_k2 (List.mem_of_getElem? (i := 11) rfl) rfl
theorem wc_yX4_isBallNumber : Cond.code yX4_isBallNumber cX4_isBallNumber 1 (some .boolean) ∈ T0 := T0_k2 (List.mem_of_getElem? (i := 12) rfl) rfl
theorem wm_L_28 : Cond.methodLink RL 28 yX6_put ∈ T0 := T0_k2 (List.mem_of_getElem? (i := 13) rfl) rfl
theorem wim_yX6_put : Cond.instanceMethod yX6_put ∈ T0 := T0_k2 (List.mem_of_getElem? (i := 14) rfl) rfl
theorem wse_yX6_put : Cond.selects RX6 yX6_put yX6_put ∈ T0 := T0_k2 (List.mem_of_getElem? (i := 15) rfl) rfl
theorem wc_yX6_put : Cond.code yX6_put cX6_put 4 (some .int) ∈ T0 := T0_k2 (List.mem_of_getElem? (i := 16) rfl) rfl
theorem wm_X6_43 : Cond.methodLink RX6 43 yX1_isCell ∈ T0 := T0_k2 (List.mem_of_getElem? (i := 17) rfl) rfl
theorem wst_yX1_isCell : Cond.static yX1_isCell ∈ T0 := T0_k2 (List.mem_of_getElem? (i := 18) rfl) rfl
theorem wi_X1 : Cond.initialized RX1 ∈ T0 := T0_k1 (List.mem_of_getElem? (i := 9) rfl) rfl
theorem wc_yX1_isCell : Cond.code yX1_isCell cX1_isCell 1 (some .boolean) ∈ T0 := T0_k2 (List.mem_of_getElem? (i := 19) rfl) rfl
theorem wm_X6_49 : Cond.methodLink RX6 49 yX4_refusalToAdd ∈ T0 := T0_k2 (List.mem_of_getElem? (i := 20) rfl) rfl
theorem wim_yX4_refusalToAdd : Cond.instanceMethod yX4_refusalToAdd ∈ T0 := T0_k2 (List.mem_of_getElem? (i := 21) rfl) rfl
theorem wse_yX4_refusalToAdd : Cond.selects RX4 yX4_refusalToAdd yX4_refusalToAdd ∈ T0 := T0_k2 (List.mem_of_getElem? (i := 22) rfl) rfl
theorem wc_yX4_refusalToAdd : Cond.code yX4_refusalToAdd cX4_refusalToAdd 2 (some .int) ∈ T0 := T0_k2 (List.mem_of_getElem? (i := 23) rfl) rfl
theorem wf_X4_55 : Cond.fieldLink RX4 55 "HexBilliards$State" "ballsSoFar" "I" ∈ T0 := T0_k1 (List.mem_of_getElem? (i := 49) rfl) rfl
theorem wm_X4_83 : Cond.methodLink RX4 83 yX4_ballOnCell ∈ T0 := T0_k2 (List.mem_of_getElem? (i := 24) rfl) rfl
theorem wim_yX4_ballOnCell : Cond.instanceMethod yX4_ballOnCell ∈ T0 := T0_k2 (List.mem_of_getElem? (i := 25) rfl) rfl
theorem wse_yX4_ballOnCell : Cond.selects RX4 yX4_ballOnCell yX4_ballOnCell ∈ T0 := T0_k2 (List.mem_of_getElem? (i := 26) rfl) rfl
theorem wc_yX4_ballOnCell : Cond.code yX4_ballOnCell cX4_ballOnCell 2 (some .int) ∈ T0 := T0_k2 (List.mem_of_getElem? (i := 27) rfl) rfl
theorem wm_X4_74 : Cond.methodLink RX4 74 yX1_isCell ∈ T0 := T0_k2 (List.mem_of_getElem? (i := 28) rfl) rfl
theorem wm_X6_53 : Cond.methodLink RX6 53 yX2_record ∈ T0 := T0_k2 (List.mem_of_getElem? (i := 29) rfl) rfl
theorem wim_yX2_record : Cond.instanceMethod yX2_record ∈ T0 := T0_k2 (List.mem_of_getElem? (i := 30) rfl) rfl
theorem wse_yX2_record : Cond.selects RX2 yX2_record yX2_record ∈ T0 := T0_k2 (List.mem_of_getElem? (i := 31) rfl) rfl
theorem wc_yX2_record : Cond.code yX2_record cX2_record 2 none ∈ T0 := T0_k2 (List.mem_of_getElem? (i := 32) rfl) rfl
theorem wf_X2_16 : Cond.fieldLink RX2 16 "HexBilliards$History" "size" "I" ∈ T0 := T0_k1 (List.mem_of_getElem? (i := 101) rfl) rfl
theorem wm_X2_20 : Cond.methodLink RX2 20 yX2_dropOldest ∈ T0 := T0_k2 (List.mem_of_getElem? (i := 33) rfl) rfl
theorem wim_yX2_dropOldest : Cond.instanceMethod yX2_dropOldest ∈ T0 := T0_k2 (List.mem_of_getElem? (i := 35) rfl) rfl
theorem wse_yX2_dropOldest : Cond.selects RX2 yX2_dropOldest yX2_dropOldest ∈ T0 := T0_p (List.mem_of_getElem? (i := 0) rfl) rfl
theorem wc_yX2_dropOldest : Cond.code yX2_dropOldest cX2_dropOldest 3 none ∈ T0 := T0_k2 (List.mem_of_getElem? (i := 36) rfl) rfl
theorem wm_X2_23 : Cond.methodLink RX2 23 yX4_copyFrom ∈ T0 := T0_k2 (List.mem_of_getElem? (i := 37) rfl) rfl
theorem wim_yX4_copyFrom : Cond.instanceMethod yX4_copyFrom ∈ T0 := T0_k2 (List.mem_of_getElem? (i := 38) rfl) rfl
theorem wse_yX4_copyFrom : Cond.selects RX4 yX4_copyFrom yX4_copyFrom ∈ T0 := T0_k2 (List.mem_of_getElem? (i := 39) rfl) rfl
theorem wc_yX4_copyFrom : Cond.code yX4_copyFrom cX4_copyFrom 2 none ∈ T0 := T0_k2 (List.mem_of_getElem? (i := 40) rfl) rfl
theorem wf_X4_58 : Cond.fieldLink RX4 58 "HexBilliards$State" "turn" "I" ∈ T0 := T0_k1 (List.mem_of_getElem? (i := 53) rfl) rfl
theorem wf_X4_61 : Cond.fieldLink RX4 61 "HexBilliards$State" "run" "I" ∈ T0 := T0_k1 (List.mem_of_getElem? (i := 55) rfl) rfl
theorem wf_X4_64 : Cond.fieldLink RX4 64 "HexBilliards$State" "shots" "I" ∈ T0 := T0_k1 (List.mem_of_getElem? (i := 57) rfl) rfl
theorem wf_X4_67 : Cond.fieldLink RX4 67 "HexBilliards$State" "goneByShots" "I" ∈ T0 := T0_k1 (List.mem_of_getElem? (i := 59) rfl) rfl
theorem wm_X6_57 : Cond.methodLink RX6 57 yX4_addBall ∈ T0 := T0_k2 (List.mem_of_getElem? (i := 41) rfl) rfl
theorem wim_yX4_addBall : Cond.instanceMethod yX4_addBall ∈ T0 := T0_k2 (List.mem_of_getElem? (i := 42) rfl) rfl
theorem wse_yX4_addBall : Cond.selects RX4 yX4_addBall yX4_addBall ∈ T0 := T0_k2 (List.mem_of_getElem? (i := 43) rfl) rfl
theorem wc_yX4_addBall : Cond.code yX4_addBall cX4_addBall 4 (some .int) ∈ T0 := T0_k2 (List.mem_of_getElem? (i := 44) rfl) rfl
theorem wm_X4_86 : Cond.methodLink RX4 86 yX4_place ∈ T0 := T0_k2 (List.mem_of_getElem? (i := 45) rfl) rfl
theorem wim_yX4_place : Cond.instanceMethod yX4_place ∈ T0 := T0_k2 (List.mem_of_getElem? (i := 46) rfl) rfl
theorem wse_yX4_place : Cond.selects RX4 yX4_place yX4_place ∈ T0 := T0_k2 (List.mem_of_getElem? (i := 47) rfl) rfl
theorem wc_yX4_place : Cond.code yX4_place cX4_place 3 none ∈ T0 := T0_k2 (List.mem_of_getElem? (i := 48) rfl) rfl
theorem wm_X4_90 : Cond.methodLink RX4 90 yX4_lift ∈ T0 := T0_k2 (List.mem_of_getElem? (i := 49) rfl) rfl
theorem wim_yX4_lift : Cond.instanceMethod yX4_lift ∈ T0 := T0_k2 (List.mem_of_getElem? (i := 50) rfl) rfl
theorem wse_yX4_lift : Cond.selects RX4 yX4_lift yX4_lift ∈ T0 := T0_k2 (List.mem_of_getElem? (i := 51) rfl) rfl
theorem wc_yX4_lift : Cond.code yX4_lift cX4_lift 2 none ∈ T0 := T0_k2 (List.mem_of_getElem? (i := 52) rfl) rfl
theorem wm_L_31 : Cond.methodLink RL 31 yL_there ∈ T0 := T0_k2 (List.mem_of_getElem? (i := 53) rfl) rfl
theorem wst_yL_there : Cond.static yL_there ∈ T0 := T0_k2 (List.mem_of_getElem? (i := 54) rfl) rfl
theorem wc_yL_there : Cond.code yL_there cL_there 1 (some .int) ∈ T0 := T0_k2 (List.mem_of_getElem? (i := 55) rfl) rfl
theorem wm_L_34 : Cond.methodLink RL 34 yX6_ofCell ∈ T0 := T0_k2 (List.mem_of_getElem? (i := 56) rfl) rfl
theorem wim_yX6_ofCell : Cond.instanceMethod yX6_ofCell ∈ T0 := T0_k2 (List.mem_of_getElem? (i := 57) rfl) rfl
theorem wse_yX6_ofCell : Cond.selects RX6 yX6_ofCell yX6_ofCell ∈ T0 := T0_k2 (List.mem_of_getElem? (i := 58) rfl) rfl
theorem wc_yX6_ofCell : Cond.code yX6_ofCell cX6_ofCell 3 (some .int) ∈ T0 := T0_k2 (List.mem_of_getElem? (i := 59) rfl) rfl
theorem wm_X6_157 : Cond.methodLink RX6 157 yX1_columnOf ∈ T0 := T0_k2 (List.mem_of_getElem? (i := 60) rfl) rfl
theorem wst_yX1_columnOf : Cond.static yX1_columnOf ∈ T0 := T0_k2 (List.mem_of_getElem? (i := 61) rfl) rfl
theorem wc_yX1_columnOf : Cond.code yX1_columnOf cX1_columnOf 2 (some .int) ∈ T0 := T0_k2 (List.mem_of_getElem? (i := 62) rfl) rfl
theorem wf_X1_15 : Cond.fieldLink RX1 15 "HexBilliards$Felt" "FIRST_OF_ROW" "[I" ∈ T0 := T0_k2 (List.mem_of_getElem? (i := 66) rfl) rfl
theorem wm_X1_23 : Cond.methodLink RX1 23 yX1_rowOf ∈ T0 := T0_k2 (List.mem_of_getElem? (i := 63) rfl) rfl
theorem wst_yX1_rowOf : Cond.static yX1_rowOf ∈ T0 := T0_k2 (List.mem_of_getElem? (i := 64) rfl) rfl
theorem wc_yX1_rowOf : Cond.code yX1_rowOf cX1_rowOf 2 (some .int) ∈ T0 := T0_k2 (List.mem_of_getElem? (i := 65) rfl) rfl
theorem wm_X1_19 : Cond.methodLink RX1 19 yX1_firstColumn ∈ T0 := T0_k2 (List.mem_of_getElem? (i := 68) rfl) rfl
theorem wst_yX1_firstColumn : Cond.static yX1_firstColumn ∈ T0 := T0_k2 (List.mem_of_getElem? (i := 69) rfl) rfl
theorem wc_yX1_firstColumn : Cond.code yX1_firstColumn cX1_firstColumn 1 (some .int) ∈ T0 := T0_k2 (List.mem_of_getElem? (i := 70) rfl) rfl
theorem wm_X6_160 : Cond.methodLink RX6 160 yX1_rowOf ∈ T0 := T0_k2 (List.mem_of_getElem? (i := 71) rfl) rfl
theorem wm_X6_82 : Cond.methodLink RX6 82 yX4_ballOnCell ∈ T0 := T0_k2 (List.mem_of_getElem? (i := 72) rfl) rfl
theorem wm_X6_163 : Cond.methodLink RX6 163 yX1_cornerOf ∈ T0 := T0_k2 (List.mem_of_getElem? (i := 73) rfl) rfl
theorem wst_yX1_cornerOf : Cond.static yX1_cornerOf ∈ T0 := T0_k2 (List.mem_of_getElem? (i := 74) rfl) rfl
theorem wc_yX1_cornerOf : Cond.code yX1_cornerOf cX1_cornerOf 2 (some .int) ∈ T0 := T0_k2 (List.mem_of_getElem? (i := 75) rfl) rfl
theorem wf_X1_41 : Cond.fieldLink RX1 41 "HexBilliards$Felt" "CORNER_CELLS" "[I" ∈ T0 := T0_k2 (List.mem_of_getElem? (i := 76) rfl) rfl
theorem wm_X6_166 : Cond.methodLink RX6 166 yX1_cellsBeside ∈ T0 := T0_k2 (List.mem_of_getElem? (i := 78) rfl) rfl
theorem wst_yX1_cellsBeside : Cond.static yX1_cellsBeside ∈ T0 := T0_k2 (List.mem_of_getElem? (i := 79) rfl) rfl
theorem wc_yX1_cellsBeside : Cond.code yX1_cellsBeside cX1_cellsBeside 5 (some .int) ∈ T0 := T0_k2 (List.mem_of_getElem? (i := 80) rfl) rfl
theorem wf_X1_29 : Cond.fieldLink RX1 29 "HexBilliards$Felt" "STEP_Q" "[I" ∈ T0 := T0_k2 (List.mem_of_getElem? (i := 82) rfl) rfl
theorem wf_X1_32 : Cond.fieldLink RX1 32 "HexBilliards$Felt" "STEP_R" "[I" ∈ T0 := T0_k2 (List.mem_of_getElem? (i := 84) rfl) rfl
theorem wm_X1_44 : Cond.methodLink RX1 44 yX1_columnOf ∈ T0 := T0_k2 (List.mem_of_getElem? (i := 81) rfl) rfl
theorem wm_X1_47 : Cond.methodLink RX1 47 yX1_cellAt ∈ T0 := T0_k2 (List.mem_of_getElem? (i := 86) rfl) rfl
theorem wst_yX1_cellAt : Cond.static yX1_cellAt ∈ T0 := T0_k2 (List.mem_of_getElem? (i := 87) rfl) rfl
theorem wc_yX1_cellAt : Cond.code yX1_cellAt cX1_cellAt 2 (some .int) ∈ T0 := T0_k2 (List.mem_of_getElem? (i := 88) rfl) rfl
theorem wm_X1_11 : Cond.methodLink RX1 11 yX1_isOut ∈ T0 := T0_k2 (List.mem_of_getElem? (i := 89) rfl) rfl
theorem wst_yX1_isOut : Cond.static yX1_isOut ∈ T0 := T0_k2 (List.mem_of_getElem? (i := 90) rfl) rfl
theorem wc_yX1_isOut : Cond.code yX1_isOut cX1_isOut 1 (some .boolean) ∈ T0 := T0_k2 (List.mem_of_getElem? (i := 91) rfl) rfl
theorem wm_L_37 : Cond.methodLink RL 37 yX6_clearText ∈ T0 := T0_k2 (List.mem_of_getElem? (i := 92) rfl) rfl
theorem wim_yX6_clearText : Cond.instanceMethod yX6_clearText ∈ T0 := T0_k2 (List.mem_of_getElem? (i := 93) rfl) rfl
theorem wse_yX6_clearText : Cond.selects RX6 yX6_clearText yX6_clearText ∈ T0 := T0_k2 (List.mem_of_getElem? (i := 94) rfl) rfl
theorem wc_yX6_clearText : Cond.code yX6_clearText cX6_clearText 2 (some .int) ∈ T0 := T0_k2 (List.mem_of_getElem? (i := 95) rfl) rfl
theorem wm_L_9 : Cond.methodLink RL 9 yX6_type ∈ T0 := T0_k2 (List.mem_of_getElem? (i := 96) rfl) rfl
theorem wim_yX6_type : Cond.instanceMethod yX6_type ∈ T0 := T0_k2 (List.mem_of_getElem? (i := 97) rfl) rfl
theorem wse_yX6_type : Cond.selects RX6 yX6_type yX6_type ∈ T0 := T0_k2 (List.mem_of_getElem? (i := 98) rfl) rfl
theorem wc_yX6_type : Cond.code yX6_type cX6_type 2 (some .int) ∈ T0 := T0_k2 (List.mem_of_getElem? (i := 99) rfl) rfl
theorem wm_X6_133 : Cond.methodLink RX6 133 yX0_append ∈ T0 := T0_k2 (List.mem_of_getElem? (i := 100) rfl) rfl
theorem wim_yX0_append : Cond.instanceMethod yX0_append ∈ T0 := T0_k2 (List.mem_of_getElem? (i := 101) rfl) rfl
theorem wse_yX0_append : Cond.selects RX0 yX0_append yX0_append ∈ T0 := T0_k2 (List.mem_of_getElem? (i := 102) rfl) rfl
theorem wc_yX0_append : Cond.code yX0_append cX0_append 2 (some .boolean) ∈ T0 := T0_k2 (List.mem_of_getElem? (i := 103) rfl) rfl
theorem wf_X0_22 : Cond.fieldLink RX0 22 "HexBilliards$BallText" "length" "I" ∈ T0 := T0_k1 (List.mem_of_getElem? (i := 115) rfl) rfl
theorem wm_L_41 : Cond.methodLink RL 41 yL_number ∈ T0 := T0_k2 (List.mem_of_getElem? (i := 104) rfl) rfl
theorem wst_yL_number : Cond.static yL_number ∈ T0 := T0_k2 (List.mem_of_getElem? (i := 105) rfl) rfl
theorem wc_yL_number : Cond.code yL_number cL_number 2 (some .boolean) ∈ T0 := T0_k2 (List.mem_of_getElem? (i := 106) rfl) rfl
theorem wm_L_45 : Cond.methodLink RL 45 yX6_putAll ∈ T0 := T0_k2 (List.mem_of_getElem? (i := 107) rfl) rfl
theorem wim_yX6_putAll : Cond.instanceMethod yX6_putAll ∈ T0 := T0_k2 (List.mem_of_getElem? (i := 108) rfl) rfl
theorem wse_yX6_putAll : Cond.selects RX6 yX6_putAll yX6_putAll ∈ T0 := T0_k2 (List.mem_of_getElem? (i := 109) rfl) rfl
theorem wc_yX6_putAll : Cond.code yX6_putAll cX6_putAll 5 (some .int) ∈ T0 := T0_k2 (List.mem_of_getElem? (i := 110) rfl) rfl
theorem wm_X6_61 : Cond.methodLink RX6 61 yX0_read ∈ T0 := T0_k2 (List.mem_of_getElem? (i := 111) rfl) rfl
theorem wim_yX0_read : Cond.instanceMethod yX0_read ∈ T0 := T0_k2 (List.mem_of_getElem? (i := 112) rfl) rfl
theorem wse_yX0_read : Cond.selects RX0 yX0_read yX0_read ∈ T0 := T0_k2 (List.mem_of_getElem? (i := 113) rfl) rfl
theorem wc_yX0_read : Cond.code yX0_read cX0_read 2 (some .int) ∈ T0 := T0_k2 (List.mem_of_getElem? (i := 114) rfl) rfl
theorem wf_X0_26 : Cond.fieldLink RX0 26 "HexBilliards$BallText" "balls" "I" ∈ T0 := T0_k1 (List.mem_of_getElem? (i := 120) rfl) rfl
theorem wf_X0_29 : Cond.fieldLink RX0 29 "HexBilliards$BallText" "place" "I" ∈ T0 := T0_k1 (List.mem_of_getElem? (i := 121) rfl) rfl
theorem wm_X0_32 : Cond.methodLink RX0 32 yX0_takes ∈ T0 := T0_k2 (List.mem_of_getElem? (i := 115) rfl) rfl
theorem wim_yX0_takes : Cond.instanceMethod yX0_takes ∈ T0 := T0_k2 (List.mem_of_getElem? (i := 117) rfl) rfl
theorem wse_yX0_takes : Cond.selects RX0 yX0_takes yX0_takes ∈ T0 := T0_p (List.mem_of_getElem? (i := 1) rfl) rfl
theorem wc_yX0_takes : Cond.code yX0_takes cX0_takes 2 (some .boolean) ∈ T0 := T0_k2 (List.mem_of_getElem? (i := 118) rfl) rfl
theorem wm_X0_40 : Cond.methodLink RX0 40 yX0_beginsNumber ∈ T0 := T0_k2 (List.mem_of_getElem? (i := 119) rfl) rfl
theorem wim_yX0_beginsNumber : Cond.instanceMethod yX0_beginsNumber ∈ T0 := T0_k2 (List.mem_of_getElem? (i := 121) rfl) rfl
theorem wse_yX0_beginsNumber : Cond.selects RX0 yX0_beginsNumber yX0_beginsNumber ∈ T0 := T0_p (List.mem_of_getElem? (i := 2) rfl) rfl
theorem wc_yX0_beginsNumber : Cond.code yX0_beginsNumber cX0_beginsNumber 4 (some .boolean) ∈ T0 := T0_k2 (List.mem_of_getElem? (i := 122) rfl) rfl
theorem wf_X0_51 : Cond.fieldLink RX0 51 "HexBilliards$BallText" "number" "I" ∈ T0 := T0_k1 (List.mem_of_getElem? (i := 122) rfl) rfl
theorem wm_X0_44 : Cond.methodLink RX0 44 yX0_endsCell ∈ T0 := T0_k2 (List.mem_of_getElem? (i := 123) rfl) rfl
theorem wim_yX0_endsCell : Cond.instanceMethod yX0_endsCell ∈ T0 := T0_k2 (List.mem_of_getElem? (i := 125) rfl) rfl
theorem wse_yX0_endsCell : Cond.selects RX0 yX0_endsCell yX0_endsCell ∈ T0 := T0_p (List.mem_of_getElem? (i := 3) rfl) rfl
theorem wc_yX0_endsCell : Cond.code yX0_endsCell cX0_endsCell 1 (some .boolean) ∈ T0 := T0_k2 (List.mem_of_getElem? (i := 126) rfl) rfl
theorem wm_X0_47 : Cond.methodLink RX0 47 yX0_growsNumber ∈ T0 := T0_k2 (List.mem_of_getElem? (i := 127) rfl) rfl
theorem wim_yX0_growsNumber : Cond.instanceMethod yX0_growsNumber ∈ T0 := T0_k2 (List.mem_of_getElem? (i := 129) rfl) rfl
theorem wse_yX0_growsNumber : Cond.selects RX0 yX0_growsNumber yX0_growsNumber ∈ T0 := T0_p (List.mem_of_getElem? (i := 4) rfl) rfl
theorem wc_yX0_growsNumber : Cond.code yX0_growsNumber cX0_growsNumber 4 (some .boolean) ∈ T0 := T0_k2 (List.mem_of_getElem? (i := 130) rfl) rfl
theorem wm_X0_36 : Cond.methodLink RX0 36 yX0_endBall ∈ T0 := T0_k2 (List.mem_of_getElem? (i := 131) rfl) rfl
theorem wim_yX0_endBall : Cond.instanceMethod yX0_endBall ∈ T0 := T0_k2 (List.mem_of_getElem? (i := 133) rfl) rfl
theorem wse_yX0_endBall : Cond.selects RX0 yX0_endBall yX0_endBall ∈ T0 := T0_p (List.mem_of_getElem? (i := 5) rfl) rfl
theorem wc_yX0_endBall : Cond.code yX0_endBall cX0_endBall 1 (some .boolean) ∈ T0 := T0_k2 (List.mem_of_getElem? (i := 134) rfl) rfl
theorem wm_X6_65 : Cond.methodLink RX6 65 yX4_copyFrom ∈ T0 := T0_k2 (List.mem_of_getElem? (i := 135) rfl) rfl
theorem wm_X6_72 : Cond.methodLink RX6 72 yX0_cellOfBall ∈ T0 := T0_k2 (List.mem_of_getElem? (i := 136) rfl) rfl
theorem wim_yX0_cellOfBall : Cond.instanceMethod yX0_cellOfBall ∈ T0 := T0_k2 (List.mem_of_getElem? (i := 137) rfl) rfl
theorem wse_yX0_cellOfBall : Cond.selects RX0 yX0_cellOfBall yX0_cellOfBall ∈ T0 := T0_k2 (List.mem_of_getElem? (i := 138) rfl) rfl
theorem wc_yX0_cellOfBall : Cond.code yX0_cellOfBall cX0_cellOfBall 2 (some .int) ∈ T0 := T0_k2 (List.mem_of_getElem? (i := 139) rfl) rfl
theorem wm_X6_75 : Cond.methodLink RX6 75 yX0_valueOfBall ∈ T0 := T0_k2 (List.mem_of_getElem? (i := 140) rfl) rfl
theorem wim_yX0_valueOfBall : Cond.instanceMethod yX0_valueOfBall ∈ T0 := T0_k2 (List.mem_of_getElem? (i := 141) rfl) rfl
theorem wse_yX0_valueOfBall : Cond.selects RX0 yX0_valueOfBall yX0_valueOfBall ∈ T0 := T0_k2 (List.mem_of_getElem? (i := 142) rfl) rfl
theorem wc_yX0_valueOfBall : Cond.code yX0_valueOfBall cX0_valueOfBall 2 (some .int) ∈ T0 := T0_k2 (List.mem_of_getElem? (i := 143) rfl) rfl
theorem wm_L_48 : Cond.methodLink RL 48 yX6_move ∈ T0 := T0_k2 (List.mem_of_getElem? (i := 144) rfl) rfl
theorem wim_yX6_move : Cond.instanceMethod yX6_move ∈ T0 := T0_k2 (List.mem_of_getElem? (i := 145) rfl) rfl
theorem wse_yX6_move : Cond.selects RX6 yX6_move yX6_move ∈ T0 := T0_k2 (List.mem_of_getElem? (i := 146) rfl) rfl
theorem wc_yX6_move : Cond.code yX6_move cX6_move 4 (some .int) ∈ T0 := T0_k2 (List.mem_of_getElem? (i := 147) rfl) rfl
theorem wm_X6_81 : Cond.methodLink RX6 81 yX4_cellOfBall ∈ T0 := T0_k2 (List.mem_of_getElem? (i := 148) rfl) rfl
theorem wim_yX4_cellOfBall : Cond.instanceMethod yX4_cellOfBall ∈ T0 := T0_k2 (List.mem_of_getElem? (i := 149) rfl) rfl
theorem wse_yX4_cellOfBall : Cond.selects RX4 yX4_cellOfBall yX4_cellOfBall ∈ T0 := T0_k2 (List.mem_of_getElem? (i := 150) rfl) rfl
theorem wc_yX4_cellOfBall : Cond.code yX4_cellOfBall cX4_cellOfBall 2 (some .int) ∈ T0 := T0_k2 (List.mem_of_getElem? (i := 151) rfl) rfl
theorem wm_X6_85 : Cond.methodLink RX6 85 yX4_place ∈ T0 := T0_k2 (List.mem_of_getElem? (i := 152) rfl) rfl
theorem wm_L_51 : Cond.methodLink RL 51 yX6_takeOff ∈ T0 := T0_k2 (List.mem_of_getElem? (i := 153) rfl) rfl
theorem wim_yX6_takeOff : Cond.instanceMethod yX6_takeOff ∈ T0 := T0_k2 (List.mem_of_getElem? (i := 154) rfl) rfl
theorem wse_yX6_takeOff : Cond.selects RX6 yX6_takeOff yX6_takeOff ∈ T0 := T0_k2 (List.mem_of_getElem? (i := 155) rfl) rfl
theorem wc_yX6_takeOff : Cond.code yX6_takeOff cX6_takeOff 3 (some .int) ∈ T0 := T0_k2 (List.mem_of_getElem? (i := 156) rfl) rfl
theorem wm_X6_89 : Cond.methodLink RX6 89 yX4_lift ∈ T0 := T0_k2 (List.mem_of_getElem? (i := 157) rfl) rfl
theorem wm_L_54 : Cond.methodLink RL 54 yX6_setPots ∈ T0 := T0_k2 (List.mem_of_getElem? (i := 158) rfl) rfl
theorem wim_yX6_setPots : Cond.instanceMethod yX6_setPots ∈ T0 := T0_k2 (List.mem_of_getElem? (i := 159) rfl) rfl
theorem wse_yX6_setPots : Cond.selects RX6 yX6_setPots yX6_setPots ∈ T0 := T0_k2 (List.mem_of_getElem? (i := 160) rfl) rfl
theorem wc_yX6_setPots : Cond.code yX6_setPots cX6_setPots 3 (some .int) ∈ T0 := T0_k2 (List.mem_of_getElem? (i := 161) rfl) rfl
theorem wm_L_57 : Cond.methodLink RL 57 yL_pots ∈ T0 := T0_k2 (List.mem_of_getElem? (i := 162) rfl) rfl
theorem wst_yL_pots : Cond.static yL_pots ∈ T0 := T0_k2 (List.mem_of_getElem? (i := 163) rfl) rfl
theorem wc_yL_pots : Cond.code yL_pots cL_pots 1 (some .int) ∈ T0 := T0_k2 (List.mem_of_getElem? (i := 164) rfl) rfl
theorem wm_L_60 : Cond.methodLink RL 60 yX6_set ∈ T0 := T0_k2 (List.mem_of_getElem? (i := 165) rfl) rfl
theorem wim_yX6_set : Cond.instanceMethod yX6_set ∈ T0 := T0_k2 (List.mem_of_getElem? (i := 166) rfl) rfl
theorem wse_yX6_set : Cond.selects RX6 yX6_set yX6_set ∈ T0 := T0_k2 (List.mem_of_getElem? (i := 167) rfl) rfl
theorem wc_yX6_set : Cond.code yX6_set cX6_set 4 (some .int) ∈ T0 := T0_k2 (List.mem_of_getElem? (i := 168) rfl) rfl
theorem wf_X6_96 : Cond.fieldLink RX6 96 "HexBilliards" "LOWEST_SETTING" "[I" ∈ T0 := T0_k2 (List.mem_of_getElem? (i := 169) rfl) rfl
theorem wf_X6_100 : Cond.fieldLink RX6 100 "HexBilliards" "HIGHEST_SETTING" "[I" ∈ T0 := T0_k2 (List.mem_of_getElem? (i := 171) rfl) rfl
theorem wm_L_63 : Cond.methodLink RL 63 yX6_pass ∈ T0 := T0_k2 (List.mem_of_getElem? (i := 173) rfl) rfl
theorem wim_yX6_pass : Cond.instanceMethod yX6_pass ∈ T0 := T0_k2 (List.mem_of_getElem? (i := 174) rfl) rfl
theorem wse_yX6_pass : Cond.selects RX6 yX6_pass yX6_pass ∈ T0 := T0_k2 (List.mem_of_getElem? (i := 175) rfl) rfl
theorem wc_yX6_pass : Cond.code yX6_pass cX6_pass 3 (some .int) ∈ T0 := T0_k2 (List.mem_of_getElem? (i := 176) rfl) rfl
theorem wm_X6_106 : Cond.methodLink RX6 106 yX6_isPlayer ∈ T0 := T0_k2 (List.mem_of_getElem? (i := 177) rfl) rfl
theorem wst_yX6_isPlayer : Cond.static yX6_isPlayer ∈ T0 := T0_k2 (List.mem_of_getElem? (i := 178) rfl) rfl
theorem wc_yX6_isPlayer : Cond.code yX6_isPlayer cX6_isPlayer 1 (some .boolean) ∈ T0 := T0_k2 (List.mem_of_getElem? (i := 179) rfl) rfl
theorem wm_X6_130 : Cond.methodLink RX6 130 yX4_changeTurn ∈ T0 := T0_k2 (List.mem_of_getElem? (i := 180) rfl) rfl
theorem wim_yX4_changeTurn : Cond.instanceMethod yX4_changeTurn ∈ T0 := T0_k2 (List.mem_of_getElem? (i := 181) rfl) rfl
theorem wse_yX4_changeTurn : Cond.selects RX4 yX4_changeTurn yX4_changeTurn ∈ T0 := T0_k2 (List.mem_of_getElem? (i := 182) rfl) rfl
theorem wc_yX4_changeTurn : Cond.code yX4_changeTurn cX4_changeTurn 1 none ∈ T0 := T0_k2 (List.mem_of_getElem? (i := 183) rfl) rfl
theorem wm_L_66 : Cond.methodLink RL 66 yL_isShot ∈ T0 := T0_k2 (List.mem_of_getElem? (i := 184) rfl) rfl
theorem wst_yL_isShot : Cond.static yL_isShot ∈ T0 := T0_k2 (List.mem_of_getElem? (i := 185) rfl) rfl
theorem wc_yL_isShot : Cond.code yL_isShot cL_isShot 17 (some .boolean) ∈ T0 := T0_k2 (List.mem_of_getElem? (i := 186) rfl) rfl
theorem wm_L_70 : Cond.methodLink RL 70 yX6_would ∈ T0 := T0_k2 (List.mem_of_getElem? (i := 187) rfl) rfl
theorem wim_yX6_would : Cond.instanceMethod yX6_would ∈ T0 := T0_k2 (List.mem_of_getElem? (i := 188) rfl) rfl
theorem wse_yX6_would : Cond.selects RX6 yX6_would yX6_would ∈ T0 := T0_k2 (List.mem_of_getElem? (i := 189) rfl) rfl
theorem wc_yX6_would : Cond.code yX6_would cX6_would 6 (some .int) ∈ T0 := T0_k2 (List.mem_of_getElem? (i := 190) rfl) rfl
theorem wm_X6_109 : Cond.methodLink RX6 109 yX6_isShot ∈ T0 := T0_k2 (List.mem_of_getElem? (i := 191) rfl) rfl
theorem wst_yX6_isShot : Cond.static yX6_isShot ∈ T0 := T0_k2 (List.mem_of_getElem? (i := 192) rfl) rfl
theorem wc_yX6_isShot : Cond.code yX6_isShot cX6_isShot 3 (some .boolean) ∈ T0 := T0_k2 (List.mem_of_getElem? (i := 193) rfl) rfl
theorem wm_X6_205 : Cond.methodLink RX6 205 yX1_isDirection ∈ T0 := T0_k2 (List.mem_of_getElem? (i := 194) rfl) rfl
theorem wst_yX1_isDirection : Cond.static yX1_isDirection ∈ T0 := T0_k2 (List.mem_of_getElem? (i := 195) rfl) rfl
theorem wc_yX1_isDirection : Cond.code yX1_isDirection cX1_isDirection 1 (some .boolean) ∈ T0 := T0_k2 (List.mem_of_getElem? (i := 196) rfl) rfl
theorem wm_X6_232 : Cond.methodLink RX6 232 yX6_isForce ∈ T0 := T0_k2 (List.mem_of_getElem? (i := 197) rfl) rfl
theorem wst_yX6_isForce : Cond.static yX6_isForce ∈ T0 := T0_k2 (List.mem_of_getElem? (i := 198) rfl) rfl
theorem wc_yX6_isForce : Cond.code yX6_isForce cX6_isForce 2 (some .boolean) ∈ T0 := T0_k2 (List.mem_of_getElem? (i := 199) rfl) rfl
theorem wm_X6_184 : Cond.methodLink RX6 184 yX6_tryShot ∈ T0 := T0_k2 (List.mem_of_getElem? (i := 200) rfl) rfl
theorem wim_yX6_tryShot : Cond.instanceMethod yX6_tryShot ∈ T0 := T0_k2 (List.mem_of_getElem? (i := 202) rfl) rfl
theorem wse_yX6_tryShot : Cond.selects RX6 yX6_tryShot yX6_tryShot ∈ T0 := T0_p (List.mem_of_getElem? (i := 6) rfl) rfl
theorem wc_yX6_tryShot : Cond.code yX6_tryShot cX6_tryShot 5 none ∈ T0 := T0_k2 (List.mem_of_getElem? (i := 203) rfl) rfl
theorem wm_X6_116 : Cond.methodLink RX6 116 yX3_play ∈ T0 := T0_k2 (List.mem_of_getElem? (i := 204) rfl) rfl
theorem wim_yX3_play : Cond.instanceMethod yX3_play ∈ T0 := T0_k2 (List.mem_of_getElem? (i := 205) rfl) rfl
theorem wse_yX3_play : Cond.selects RX3 yX3_play yX3_play ∈ T0 := T0_k2 (List.mem_of_getElem? (i := 206) rfl) rfl
theorem wc_yX3_play : Cond.code yX3_play cX3_play 9 none ∈ T0 := T0_k2 (List.mem_of_getElem? (i := 207) rfl) rfl
theorem wf_X3_28 : Cond.fieldLink RX3 28 "HexBilliards$Shot" "mover" "I" ∈ T0 := T0_k1 (List.mem_of_getElem? (i := 166) rfl) rfl
theorem wk_X3_32 : Cond.constantFloat RX3 32 (1092616192) ∈ T0 := T0_k2 (List.mem_of_getElem? (i := 215) rfl) rfl
theorem wf_X3_33 : Cond.fieldLink RX3 33 "HexBilliards$Shot" "speed" "F" ∈ T0 := T0_k1 (List.mem_of_getElem? (i := 168) rfl) rfl
theorem wf_X3_37 : Cond.fieldLink RX3 37 "HexBilliards$Shot" "spin" "I" ∈ T0 := T0_k1 (List.mem_of_getElem? (i := 170) rfl) rfl
theorem wf_X3_40 : Cond.fieldLink RX3 40 "HexBilliards$Shot" "thirds" "I" ∈ T0 := T0_k1 (List.mem_of_getElem? (i := 171) rfl) rfl
theorem wf_X3_43 : Cond.fieldLink RX3 43 "HexBilliards$Shot" "steps" "I" ∈ T0 := T0_k1 (List.mem_of_getElem? (i := 172) rfl) rfl
theorem wf_X3_46 : Cond.fieldLink RX3 46 "HexBilliards$Shot" "banks" "I" ∈ T0 := T0_k1 (List.mem_of_getElem? (i := 174) rfl) rfl
theorem wf_X3_49 : Cond.fieldLink RX3 49 "HexBilliards$Shot" "hits" "I" ∈ T0 := T0_k1 (List.mem_of_getElem? (i := 176) rfl) rfl
theorem wf_X3_52 : Cond.fieldLink RX3 52 "HexBilliards$Shot" "gone" "I" ∈ T0 := T0_k1 (List.mem_of_getElem? (i := 178) rfl) rfl
theorem wk_X3_55 : Cond.constant RX3 55 (1000000) ∈ T0 := T0_k2 (List.mem_of_getElem? (i := 216) rfl) rfl
theorem wm_X3_18 : Cond.methodLink RX3 18 yX4_cellOfBall ∈ T0 := T0_k2 (List.mem_of_getElem? (i := 208) rfl) rfl
theorem wm_X3_24 : Cond.methodLink RX3 24 yX5_startAt ∈ T0 := T0_k2 (List.mem_of_getElem? (i := 209) rfl) rfl
theorem wim_yX5_startAt : Cond.instanceMethod yX5_startAt ∈ T0 := T0_k2 (List.mem_of_getElem? (i := 210) rfl) rfl
theorem wse_yX5_startAt : Cond.selects RX5 yX5_startAt yX5_startAt ∈ T0 := T0_k2 (List.mem_of_getElem? (i := 211) rfl) rfl
theorem wc_yX5_startAt : Cond.code yX5_startAt cX5_startAt 3 none ∈ T0 := T0_k2 (List.mem_of_getElem? (i := 212) rfl) rfl
theorem wf_X5_15 : Cond.fieldLink RX5 15 "HexBilliards$Walker" "q" "I" ∈ T0 := T0_k1 (List.mem_of_getElem? (i := 151) rfl) rfl
theorem wf_X5_24 : Cond.fieldLink RX5 24 "HexBilliards$Walker" "r" "I" ∈ T0 := T0_k1 (List.mem_of_getElem? (i := 153) rfl) rfl
theorem wf_X5_27 : Cond.fieldLink RX5 27 "HexBilliards$Walker" "direction" "I" ∈ T0 := T0_k1 (List.mem_of_getElem? (i := 155) rfl) rfl
theorem wm_X5_9 : Cond.methodLink RX5 9 yX1_columnOf ∈ T0 := T0_k2 (List.mem_of_getElem? (i := 213) rfl) rfl
theorem wm_X5_21 : Cond.methodLink RX5 21 yX1_rowOf ∈ T0 := T0_k2 (List.mem_of_getElem? (i := 214) rfl) rfl
theorem wm_X3_56 : Cond.methodLink RX3 56 yX5_cellAhead ∈ T0 := T0_k2 (List.mem_of_getElem? (i := 217) rfl) rfl
theorem wim_yX5_cellAhead : Cond.instanceMethod yX5_cellAhead ∈ T0 := T0_k2 (List.mem_of_getElem? (i := 218) rfl) rfl
theorem wse_yX5_cellAhead : Cond.selects RX5 yX5_cellAhead yX5_cellAhead ∈ T0 := T0_k2 (List.mem_of_getElem? (i := 219) rfl) rfl
theorem wc_yX5_cellAhead : Cond.code yX5_cellAhead cX5_cellAhead 1 (some .int) ∈ T0 := T0_k2 (List.mem_of_getElem? (i := 220) rfl) rfl
theorem wm_X5_30 : Cond.methodLink RX5 30 yX1_stepQ ∈ T0 := T0_k2 (List.mem_of_getElem? (i := 221) rfl) rfl
theorem wst_yX1_stepQ : Cond.static yX1_stepQ ∈ T0 := T0_k2 (List.mem_of_getElem? (i := 222) rfl) rfl
theorem wc_yX1_stepQ : Cond.code yX1_stepQ cX1_stepQ 1 (some .int) ∈ T0 := T0_k2 (List.mem_of_getElem? (i := 223) rfl) rfl
theorem wm_X1_26 : Cond.methodLink RX1 26 yX1_isDirection ∈ T0 := T0_k2 (List.mem_of_getElem? (i := 224) rfl) rfl
theorem wm_X5_33 : Cond.methodLink RX5 33 yX1_stepR ∈ T0 := T0_k2 (List.mem_of_getElem? (i := 225) rfl) rfl
theorem wst_yX1_stepR : Cond.static yX1_stepR ∈ T0 := T0_k2 (List.mem_of_getElem? (i := 226) rfl) rfl
theorem wc_yX1_stepR : Cond.code yX1_stepR cX1_stepR 1 (some .int) ∈ T0 := T0_k2 (List.mem_of_getElem? (i := 227) rfl) rfl
theorem wm_X5_36 : Cond.methodLink RX5 36 yX1_cellAt ∈ T0 := T0_k2 (List.mem_of_getElem? (i := 228) rfl) rfl
theorem wm_X3_60 : Cond.methodLink RX3 60 yX4_ballOnCell ∈ T0 := T0_k2 (List.mem_of_getElem? (i := 229) rfl) rfl
theorem wm_X3_63 : Cond.methodLink RX3 63 yX3_bank ∈ T0 := T0_k2 (List.mem_of_getElem? (i := 230) rfl) rfl
theorem wim_yX3_bank : Cond.instanceMethod yX3_bank ∈ T0 := T0_k2 (List.mem_of_getElem? (i := 232) rfl) rfl
theorem wse_yX3_bank : Cond.selects RX3 yX3_bank yX3_bank ∈ T0 := T0_p (List.mem_of_getElem? (i := 7) rfl) rfl
theorem wc_yX3_bank : Cond.code yX3_bank cX3_bank 2 none ∈ T0 := T0_k2 (List.mem_of_getElem? (i := 233) rfl) rfl
theorem wm_X3_78 : Cond.methodLink RX3 78 yX3_slow ∈ T0 := T0_k2 (List.mem_of_getElem? (i := 234) rfl) rfl
theorem wim_yX3_slow : Cond.instanceMethod yX3_slow ∈ T0 := T0_k2 (List.mem_of_getElem? (i := 236) rfl) rfl
theorem wse_yX3_slow : Cond.selects RX3 yX3_slow yX3_slow ∈ T0 := T0_p (List.mem_of_getElem? (i := 8) rfl) rfl
theorem wc_yX3_slow : Cond.code yX3_slow cX3_slow 2 none ∈ T0 := T0_k2 (List.mem_of_getElem? (i := 237) rfl) rfl
theorem wk_X3_110 : Cond.constantFloat RX3 110 (1120403456) ∈ T0 := T0_k2 (List.mem_of_getElem? (i := 238) rfl) rfl
theorem wm_X3_82 : Cond.methodLink RX3 82 yX4_addBank ∈ T0 := T0_k2 (List.mem_of_getElem? (i := 239) rfl) rfl
theorem wim_yX4_addBank : Cond.instanceMethod yX4_addBank ∈ T0 := T0_k3 (List.mem_of_getElem? (i := 0) rfl) rfl
theorem wse_yX4_addBank : Cond.selects RX4 yX4_addBank yX4_addBank ∈ T0 := T0_k3 (List.mem_of_getElem? (i := 1) rfl) rfl
theorem wc_yX4_addBank : Cond.code yX4_addBank cX4_addBank 2 none ∈ T0 := T0_k3 (List.mem_of_getElem? (i := 2) rfl) rfl
theorem wm_X3_85 : Cond.methodLink RX3 85 yX5_turnAtBank ∈ T0 := T0_k3 (List.mem_of_getElem? (i := 3) rfl) rfl
theorem wim_yX5_turnAtBank : Cond.instanceMethod yX5_turnAtBank ∈ T0 := T0_k3 (List.mem_of_getElem? (i := 4) rfl) rfl
theorem wse_yX5_turnAtBank : Cond.selects RX5 yX5_turnAtBank yX5_turnAtBank ∈ T0 := T0_k3 (List.mem_of_getElem? (i := 5) rfl) rfl
theorem wc_yX5_turnAtBank : Cond.code yX5_turnAtBank cX5_turnAtBank 8 none ∈ T0 := T0_k3 (List.mem_of_getElem? (i := 6) rfl) rfl
theorem wm_X5_40 : Cond.methodLink RX5 40 yX1_isOut ∈ T0 := T0_k3 (List.mem_of_getElem? (i := 7) rfl) rfl
theorem wm_X5_44 : Cond.methodLink RX5 44 yX1_turned ∈ T0 := T0_k3 (List.mem_of_getElem? (i := 8) rfl) rfl
theorem wst_yX1_turned : Cond.static yX1_turned ∈ T0 := T0_k3 (List.mem_of_getElem? (i := 9) rfl) rfl
theorem wc_yX1_turned : Cond.code yX1_turned cX1_turned 2 (some .int) ∈ T0 := T0_k3 (List.mem_of_getElem? (i := 10) rfl) rfl
theorem wm_X1_35 : Cond.methodLink RX1 35 yJ9_floorMod_7cf53 ∈ T0 := T0_k3 (List.mem_of_getElem? (i := 11) rfl) rfl
theorem wst_yJ9_floorMod_7cf53 : Cond.static yJ9_floorMod_7cf53 ∈ T0 := T0_k3 (List.mem_of_getElem? (i := 12) rfl) rfl
theorem wi_J9 : Cond.initialized RJ9 ∈ T0 := T0_k1 (List.mem_of_getElem? (i := 10) rfl) rfl
theorem wc_yJ9_floorMod_7cf53 : Cond.code yJ9_floorMod_7cf53 cJ9_floorMod_7cf53 3 (some .int) ∈ T0 := T0_k3 (List.mem_of_getElem? (i := 13) rfl) rfl
theorem wm_X3_88 : Cond.methodLink RX3 88 yX5_turnOnIfOpen ∈ T0 := T0_k3 (List.mem_of_getElem? (i := 14) rfl) rfl
theorem wim_yX5_turnOnIfOpen : Cond.instanceMethod yX5_turnOnIfOpen ∈ T0 := T0_k3 (List.mem_of_getElem? (i := 15) rfl) rfl
theorem wse_yX5_turnOnIfOpen : Cond.selects RX5 yX5_turnOnIfOpen yX5_turnOnIfOpen ∈ T0 := T0_k3 (List.mem_of_getElem? (i := 16) rfl) rfl
theorem wc_yX5_turnOnIfOpen : Cond.code yX5_turnOnIfOpen cX5_turnOnIfOpen 2 none ∈ T0 := T0_k3 (List.mem_of_getElem? (i := 17) rfl) rfl
theorem wm_X3_67 : Cond.methodLink RX3 67 yX3_step ∈ T0 := T0_k3 (List.mem_of_getElem? (i := 18) rfl) rfl
theorem wim_yX3_step : Cond.instanceMethod yX3_step ∈ T0 := T0_k3 (List.mem_of_getElem? (i := 20) rfl) rfl
theorem wse_yX3_step : Cond.selects RX3 yX3_step yX3_step ∈ T0 := T0_p (List.mem_of_getElem? (i := 9) rfl) rfl
theorem wc_yX3_step : Cond.code yX3_step cX3_step 3 none ∈ T0 := T0_k3 (List.mem_of_getElem? (i := 21) rfl) rfl
theorem wm_X3_97 : Cond.methodLink RX3 97 yX4_addStep ∈ T0 := T0_k3 (List.mem_of_getElem? (i := 22) rfl) rfl
theorem wim_yX4_addStep : Cond.instanceMethod yX4_addStep ∈ T0 := T0_k3 (List.mem_of_getElem? (i := 23) rfl) rfl
theorem wse_yX4_addStep : Cond.selects RX4 yX4_addStep yX4_addStep ∈ T0 := T0_k3 (List.mem_of_getElem? (i := 24) rfl) rfl
theorem wc_yX4_addStep : Cond.code yX4_addStep cX4_addStep 2 none ∈ T0 := T0_k3 (List.mem_of_getElem? (i := 25) rfl) rfl
theorem wm_X3_100 : Cond.methodLink RX3 100 yX4_place ∈ T0 := T0_k3 (List.mem_of_getElem? (i := 26) rfl) rfl
theorem wm_X3_94 : Cond.methodLink RX3 94 yX5_stepAhead ∈ T0 := T0_k3 (List.mem_of_getElem? (i := 27) rfl) rfl
theorem wim_yX5_stepAhead : Cond.instanceMethod yX5_stepAhead ∈ T0 := T0_k3 (List.mem_of_getElem? (i := 28) rfl) rfl
theorem wse_yX5_stepAhead : Cond.selects RX5 yX5_stepAhead yX5_stepAhead ∈ T0 := T0_k3 (List.mem_of_getElem? (i := 29) rfl) rfl
theorem wc_yX5_stepAhead : Cond.code yX5_stepAhead cX5_stepAhead 1 none ∈ T0 := T0_k3 (List.mem_of_getElem? (i := 30) rfl) rfl
theorem wm_X3_103 : Cond.methodLink RX3 103 yX4_isOpenPot ∈ T0 := T0_k3 (List.mem_of_getElem? (i := 31) rfl) rfl
theorem wim_yX4_isOpenPot : Cond.instanceMethod yX4_isOpenPot ∈ T0 := T0_k3 (List.mem_of_getElem? (i := 32) rfl) rfl
theorem wse_yX4_isOpenPot : Cond.selects RX4 yX4_isOpenPot yX4_isOpenPot ∈ T0 := T0_k3 (List.mem_of_getElem? (i := 33) rfl) rfl
theorem wc_yX4_isOpenPot : Cond.code yX4_isOpenPot cX4_isOpenPot 3 (some .boolean) ∈ T0 := T0_k3 (List.mem_of_getElem? (i := 34) rfl) rfl
theorem wm_X4_79 : Cond.methodLink RX4 79 yX1_cornerOf ∈ T0 := T0_k3 (List.mem_of_getElem? (i := 35) rfl) rfl
theorem wm_X3_107 : Cond.methodLink RX3 107 yX4_lift ∈ T0 := T0_k3 (List.mem_of_getElem? (i := 36) rfl) rfl
theorem wm_X3_71 : Cond.methodLink RX3 71 yX3_hit ∈ T0 := T0_k3 (List.mem_of_getElem? (i := 37) rfl) rfl
theorem wim_yX3_hit : Cond.instanceMethod yX3_hit ∈ T0 := T0_k3 (List.mem_of_getElem? (i := 39) rfl) rfl
theorem wse_yX3_hit : Cond.selects RX3 yX3_hit yX3_hit ∈ T0 := T0_p (List.mem_of_getElem? (i := 10) rfl) rfl
theorem wc_yX3_hit : Cond.code yX3_hit cX3_hit 3 none ∈ T0 := T0_k3 (List.mem_of_getElem? (i := 40) rfl) rfl
theorem wm_X3_91 : Cond.methodLink RX3 91 yX4_addHit ∈ T0 := T0_k3 (List.mem_of_getElem? (i := 41) rfl) rfl
theorem wim_yX4_addHit : Cond.instanceMethod yX4_addHit ∈ T0 := T0_k3 (List.mem_of_getElem? (i := 42) rfl) rfl
theorem wse_yX4_addHit : Cond.selects RX4 yX4_addHit yX4_addHit ∈ T0 := T0_k3 (List.mem_of_getElem? (i := 43) rfl) rfl
theorem wc_yX4_addHit : Cond.code yX4_addHit cX4_addHit 2 none ∈ T0 := T0_k3 (List.mem_of_getElem? (i := 44) rfl) rfl
theorem wm_L_74 : Cond.methodLink RL 74 yX6_speedLeft ∈ T0 := T0_k3 (List.mem_of_getElem? (i := 45) rfl) rfl
theorem wim_yX6_speedLeft : Cond.instanceMethod yX6_speedLeft ∈ T0 := T0_k3 (List.mem_of_getElem? (i := 46) rfl) rfl
theorem wse_yX6_speedLeft : Cond.selects RX6 yX6_speedLeft yX6_speedLeft ∈ T0 := T0_k3 (List.mem_of_getElem? (i := 47) rfl) rfl
theorem wc_yX6_speedLeft : Cond.code yX6_speedLeft cX6_speedLeft 5 (some .float) ∈ T0 := T0_k3 (List.mem_of_getElem? (i := 48) rfl) rfl
theorem wk_X6_200 : Cond.constantFloat RX6 200 (3212836864) ∈ T0 := T0_k3 (List.mem_of_getElem? (i := 49) rfl) rfl
theorem wm_L_78 : Cond.methodLink RL 78 yL_way ∈ T0 := T0_k3 (List.mem_of_getElem? (i := 50) rfl) rfl
theorem wst_yL_way : Cond.static yL_way ∈ T0 := T0_k3 (List.mem_of_getElem? (i := 51) rfl) rfl
theorem wc_yL_way : Cond.code yL_way cL_way 1 (some .int) ∈ T0 := T0_k3 (List.mem_of_getElem? (i := 52) rfl) rfl
theorem wm_L_81 : Cond.methodLink RL 81 yX6_shoot ∈ T0 := T0_k3 (List.mem_of_getElem? (i := 53) rfl) rfl
theorem wim_yX6_shoot : Cond.instanceMethod yX6_shoot ∈ T0 := T0_k3 (List.mem_of_getElem? (i := 54) rfl) rfl
theorem wse_yX6_shoot : Cond.selects RX6 yX6_shoot yX6_shoot ∈ T0 := T0_k3 (List.mem_of_getElem? (i := 55) rfl) rfl
theorem wc_yX6_shoot : Cond.code yX6_shoot cX6_shoot 7 (some .int) ∈ T0 := T0_k3 (List.mem_of_getElem? (i := 56) rfl) rfl
theorem wm_X6_123 : Cond.methodLink RX6 123 yX4_valueOfBall ∈ T0 := T0_k3 (List.mem_of_getElem? (i := 57) rfl) rfl
theorem wim_yX4_valueOfBall : Cond.instanceMethod yX4_valueOfBall ∈ T0 := T0_k3 (List.mem_of_getElem? (i := 58) rfl) rfl
theorem wse_yX4_valueOfBall : Cond.selects RX4 yX4_valueOfBall yX4_valueOfBall ∈ T0 := T0_k3 (List.mem_of_getElem? (i := 59) rfl) rfl
theorem wc_yX4_valueOfBall : Cond.code yX4_valueOfBall cX4_valueOfBall 2 (some .int) ∈ T0 := T0_k3 (List.mem_of_getElem? (i := 60) rfl) rfl
theorem wm_X6_124 : Cond.methodLink RX6 124 yX4_scoreShot ∈ T0 := T0_k3 (List.mem_of_getElem? (i := 61) rfl) rfl
theorem wim_yX4_scoreShot : Cond.instanceMethod yX4_scoreShot ∈ T0 := T0_k3 (List.mem_of_getElem? (i := 62) rfl) rfl
theorem wse_yX4_scoreShot : Cond.selects RX4 yX4_scoreShot yX4_scoreShot ∈ T0 := T0_k3 (List.mem_of_getElem? (i := 63) rfl) rfl
theorem wc_yX4_scoreShot : Cond.code yX4_scoreShot cX4_scoreShot 2 none ∈ T0 := T0_k3 (List.mem_of_getElem? (i := 64) rfl) rfl
theorem wm_X4_94 : Cond.methodLink RX4 94 yX4_changeTurn ∈ T0 := T0_k3 (List.mem_of_getElem? (i := 65) rfl) rfl
theorem wm_L_103 : Cond.methodLink RL 103 yL_isWell ∈ T0 := T0_k3 (List.mem_of_getElem? (i := 84) rfl) rfl
theorem wst_yL_isWell : Cond.static yL_isWell ∈ T0 := T0_k3 (List.mem_of_getElem? (i := 85) rfl) rfl
theorem wc_yL_isWell : Cond.code yL_isWell cL_isWell 11 (some .boolean) ∈ T0 := T0_k3 (List.mem_of_getElem? (i := 86) rfl) rfl
theorem wm_L_88 : Cond.methodLink RL 88 yX6_cell ∈ T0 := T0_k3 (List.mem_of_getElem? (i := 87) rfl) rfl
theorem wim_yX6_cell : Cond.instanceMethod yX6_cell ∈ T0 := T0_k3 (List.mem_of_getElem? (i := 88) rfl) rfl
theorem wse_yX6_cell : Cond.selects RX6 yX6_cell yX6_cell ∈ T0 := T0_k3 (List.mem_of_getElem? (i := 89) rfl) rfl
theorem wc_yX6_cell : Cond.code yX6_cell cX6_cell 3 (some .int) ∈ T0 := T0_k3 (List.mem_of_getElem? (i := 90) rfl) rfl
theorem wm_X6_154 : Cond.methodLink RX6 154 yX1_cellAt ∈ T0 := T0_k3 (List.mem_of_getElem? (i := 83) rfl) rfl
theorem wm_L_91 : Cond.methodLink RL 91 yX6_best ∈ T0 := T0_k3 (List.mem_of_getElem? (i := 91) rfl) rfl
theorem wim_yX6_best : Cond.instanceMethod yX6_best ∈ T0 := T0_k3 (List.mem_of_getElem? (i := 92) rfl) rfl
theorem wse_yX6_best : Cond.selects RX6 yX6_best yX6_best ∈ T0 := T0_k3 (List.mem_of_getElem? (i := 93) rfl) rfl
theorem wc_yX6_best : Cond.code yX6_best cX6_best 10 (some .int) ∈ T0 := T0_k3 (List.mem_of_getElem? (i := 94) rfl) rfl
theorem wm_L_106 : Cond.methodLink RL 106 yL_areAlike ∈ T0 := T0_k3 (List.mem_of_getElem? (i := 67) rfl) rfl
theorem wst_yL_areAlike : Cond.static yL_areAlike ∈ T0 := T0_k3 (List.mem_of_getElem? (i := 68) rfl) rfl
theorem wc_yL_areAlike : Cond.code yL_areAlike cL_areAlike 8 (some .boolean) ∈ T0 := T0_k3 (List.mem_of_getElem? (i := 69) rfl) rfl
theorem wm_L_84 : Cond.methodLink RL 84 yX6_along ∈ T0 := T0_k3 (List.mem_of_getElem? (i := 70) rfl) rfl
theorem wim_yX6_along : Cond.instanceMethod yX6_along ∈ T0 := T0_k3 (List.mem_of_getElem? (i := 71) rfl) rfl
theorem wse_yX6_along : Cond.selects RX6 yX6_along yX6_along ∈ T0 := T0_k3 (List.mem_of_getElem? (i := 72) rfl) rfl
theorem wc_yX6_along : Cond.code yX6_along cX6_along 6 (some .int) ∈ T0 := T0_k3 (List.mem_of_getElem? (i := 73) rfl) rfl
theorem wm_X6_212 : Cond.methodLink RX6 212 yX5_startAt ∈ T0 := T0_k3 (List.mem_of_getElem? (i := 74) rfl) rfl
theorem wm_X6_217 : Cond.methodLink RX6 217 yX5_walk ∈ T0 := T0_k3 (List.mem_of_getElem? (i := 75) rfl) rfl
theorem wim_yX5_walk : Cond.instanceMethod yX5_walk ∈ T0 := T0_k3 (List.mem_of_getElem? (i := 76) rfl) rfl
theorem wse_yX5_walk : Cond.selects RX5 yX5_walk yX5_walk ∈ T0 := T0_k3 (List.mem_of_getElem? (i := 77) rfl) rfl
theorem wc_yX5_walk : Cond.code yX5_walk cX5_walk 3 none ∈ T0 := T0_k3 (List.mem_of_getElem? (i := 78) rfl) rfl
theorem wm_X5_47 : Cond.methodLink RX5 47 yX5_cellAhead ∈ T0 := T0_k3 (List.mem_of_getElem? (i := 79) rfl) rfl
theorem wm_X5_51 : Cond.methodLink RX5 51 yX5_turnAtBank ∈ T0 := T0_k3 (List.mem_of_getElem? (i := 80) rfl) rfl
theorem wm_X5_54 : Cond.methodLink RX5 54 yX5_stepAhead ∈ T0 := T0_k3 (List.mem_of_getElem? (i := 81) rfl) rfl
theorem wm_X6_223 : Cond.methodLink RX6 223 yX1_turned ∈ T0 := T0_k3 (List.mem_of_getElem? (i := 82) rfl) rfl
theorem T0X0 : ∀ w ∈ wsX00, w ∈ T0 := by
  intro w hw
  obtain ⟨k, hk, rfl⟩ := List.mem_map.mp hw
  have hk := List.mem_range.mp hk
  match k, hk with
  | 0, _ => exact T0_k1 (List.mem_of_getElem? (i := 123) rfl) rfl
  | 1, _ => exact T0_k1 (List.mem_of_getElem? (i := 125) rfl) rfl
  | 2, _ => exact T0_k1 (List.mem_of_getElem? (i := 127) rfl) rfl
  | 3, _ => exact T0_k1 (List.mem_of_getElem? (i := 129) rfl) rfl
  | 4, _ => exact T0_k1 (List.mem_of_getElem? (i := 131) rfl) rfl
  | 5, _ => exact T0_k1 (List.mem_of_getElem? (i := 133) rfl) rfl
  | 6, _ => exact T0_k1 (List.mem_of_getElem? (i := 135) rfl) rfl
  | k + 7, h => exact absurd h (by omega)
theorem T0X2 : ∀ w ∈ wsX20, w ∈ T0 := by
  intro w hw
  obtain ⟨k, hk, rfl⟩ := List.mem_map.mp hw
  have hk := List.mem_range.mp hk
  match k, hk with
  | 0, _ => exact T0_k1 (List.mem_of_getElem? (i := 103) rfl) rfl
  | 1, _ => exact T0_k1 (List.mem_of_getElem? (i := 105) rfl) rfl
  | k + 2, h => exact absurd h (by omega)
theorem T0X3 : ∀ w ∈ wsX30, w ∈ T0 := by
  intro w hw
  obtain ⟨k, hk, rfl⟩ := List.mem_map.mp hw
  have hk := List.mem_range.mp hk
  match k, hk with
  | 0, _ => exact T0_k1 (List.mem_of_getElem? (i := 180) rfl) rfl
  | 1, _ => exact T0_k1 (List.mem_of_getElem? (i := 182) rfl) rfl
  | 2, _ => exact T0_k1 (List.mem_of_getElem? (i := 184) rfl) rfl
  | 3, _ => exact T0_k1 (List.mem_of_getElem? (i := 186) rfl) rfl
  | 4, _ => exact T0_k1 (List.mem_of_getElem? (i := 188) rfl) rfl
  | 5, _ => exact T0_k1 (List.mem_of_getElem? (i := 190) rfl) rfl
  | 6, _ => exact T0_k1 (List.mem_of_getElem? (i := 192) rfl) rfl
  | 7, _ => exact T0_k1 (List.mem_of_getElem? (i := 194) rfl) rfl
  | 8, _ => exact T0_k1 (List.mem_of_getElem? (i := 196) rfl) rfl
  | k + 9, h => exact absurd h (by omega)
theorem T0X4 : ∀ w ∈ wsX40, w ∈ T0 := by
  intro w hw
  obtain ⟨k, hk, rfl⟩ := List.mem_map.mp hw
  have hk := List.mem_range.mp hk
  match k, hk with
  | 0, _ => exact T0_k1 (List.mem_of_getElem? (i := 61) rfl) rfl
  | 1, _ => exact T0_k1 (List.mem_of_getElem? (i := 63) rfl) rfl
  | 2, _ => exact T0_k1 (List.mem_of_getElem? (i := 65) rfl) rfl
  | 3, _ => exact T0_k1 (List.mem_of_getElem? (i := 67) rfl) rfl
  | 4, _ => exact T0_k1 (List.mem_of_getElem? (i := 69) rfl) rfl
  | 5, _ => exact T0_k1 (List.mem_of_getElem? (i := 71) rfl) rfl
  | 6, _ => exact T0_k1 (List.mem_of_getElem? (i := 73) rfl) rfl
  | 7, _ => exact T0_k1 (List.mem_of_getElem? (i := 75) rfl) rfl
  | 8, _ => exact T0_k1 (List.mem_of_getElem? (i := 77) rfl) rfl
  | 9, _ => exact T0_k1 (List.mem_of_getElem? (i := 79) rfl) rfl
  | 10, _ => exact T0_k1 (List.mem_of_getElem? (i := 81) rfl) rfl
  | 11, _ => exact T0_k1 (List.mem_of_getElem? (i := 83) rfl) rfl
  | 12, _ => exact T0_k1 (List.mem_of_getElem? (i := 85) rfl) rfl
  | 13, _ => exact T0_k1 (List.mem_of_getElem? (i := 87) rfl) rfl
  | k + 14, h => exact absurd h (by omega)
theorem T0X5 : ∀ w ∈ wsX50, w ∈ T0 := by
  intro w hw
  obtain ⟨k, hk, rfl⟩ := List.mem_map.mp hw
  have hk := List.mem_range.mp hk
  match k, hk with
  | 0, _ => exact T0_k1 (List.mem_of_getElem? (i := 157) rfl) rfl
  | 1, _ => exact T0_k1 (List.mem_of_getElem? (i := 159) rfl) rfl
  | 2, _ => exact T0_k1 (List.mem_of_getElem? (i := 161) rfl) rfl
  | k + 3, h => exact absurd h (by omega)
theorem T0X6 : ∀ w ∈ wsX60, w ∈ T0 := by
  intro w hw
  obtain ⟨k, hk, rfl⟩ := List.mem_map.mp hw
  have hk := List.mem_range.mp hk
  match k, hk with
  | 0, _ => exact T0_k1 (List.mem_of_getElem? (i := 205) rfl) rfl
  | 1, _ => exact T0_k1 (List.mem_of_getElem? (i := 207) rfl) rfl
  | 2, _ => exact T0_k1 (List.mem_of_getElem? (i := 209) rfl) rfl
  | 3, _ => exact T0_k1 (List.mem_of_getElem? (i := 211) rfl) rfl
  | 4, _ => exact T0_k1 (List.mem_of_getElem? (i := 213) rfl) rfl
  | 5, _ => exact T0_k1 (List.mem_of_getElem? (i := 215) rfl) rfl
  | 6, _ => exact T0_k1 (List.mem_of_getElem? (i := 217) rfl) rfl
  | k + 7, h => exact absurd h (by omega)
