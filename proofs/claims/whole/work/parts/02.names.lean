/-! ===== BEGIN printed: names, fields, word lists, decode rows ===== -/
def RX0 : String := "Stepscript$Dancer"
def TX0 : u_T := fun k => match k with
  | 0 => ("Stepscript$Dancer", "columns", "LStepscript$Track;", true)
  | 1 => ("Stepscript$Dancer", "rows", "LStepscript$Track;", true)
  | 2 => ("Stepscript$Dancer", "points", "I", false)
  | _ => ("Stepscript$Dancer", "out", "Z", false)
def tyX0 : Nat → FieldType := fun k => match k with
  | 0 => .object "Stepscript$Track"
  | 1 => .object "Stepscript$Track"
  | 2 => .int
  | _ => .boolean
abbrev wsX00 : List Cond := u_ws RX0 TX0 4
theorem nmX0 : ∀ a, a < 4 → ∀ b, b < 4 → a ≠ b → (TX0 a).2.1 ≠ (TX0 b).2.1 := by decide +kernel
theorem tyX0_ok : ∀ k, k < 4 → parseFieldDescriptor (TX0 k).2.2.1 = some (tyX0 k) := by decide +kernel
abbrev cX0_init : ByteArray := prog_2_method_1_code
def yX0_init : MethodName := ⟨RX0, "<init>", "(II)V"⟩
abbrev cX0_track : ByteArray := prog_2_method_2_code
def yX0_track : MethodName := ⟨RX0, "track", "(Z)LStepscript$Track;"⟩
abbrev cX0_countsWithMoves : ByteArray := prog_2_method_3_code
def yX0_countsWithMoves : MethodName := ⟨RX0, "countsWithMoves", "()I"⟩
abbrev cX0_isOffStage : ByteArray := prog_2_method_4_code
def yX0_isOffStage : MethodName := ⟨RX0, "isOffStage", "(I)Z"⟩
abbrev cX0_isWith : ByteArray := prog_2_method_5_code
def yX0_isWith : MethodName := ⟨RX0, "isWith", "(LStepscript$Dancer;I)Z"⟩
abbrev cX0_isBeside : ByteArray := prog_2_method_6_code
def yX0_isBeside : MethodName := ⟨RX0, "isBeside", "(LStepscript$Dancer;I)Z"⟩
abbrev cX0_changesPlacesWith : ByteArray := prog_2_method_7_code
def yX0_changesPlacesWith : MethodName := ⟨RX0, "changesPlacesWith", "(LStepscript$Dancer;I)Z"⟩
abbrev cX0_takesPlaceOf : ByteArray := prog_2_method_8_code
def yX0_takesPlaceOf : MethodName := ⟨RX0, "takesPlaceOf", "(LStepscript$Dancer;I)Z"⟩
abbrev cX0_canVisit : ByteArray := prog_2_method_9_code
def yX0_canVisit : MethodName := ⟨RX0, "canVisit", "(LStepscript$Dancer;I)Z"⟩
abbrev cX0_visit : ByteArray := prog_2_method_10_code
def yX0_visit : MethodName := ⟨RX0, "visit", "(LStepscript$Dancer;I)V"⟩
def RX1 : String := "Stepscript$Lift"
def TX1 : u_T := fun k => match k with
  | 0 => ("Stepscript$Lift", "count", "I", true)
  | 1 => ("Stepscript$Lift", "lifted", "I", true)
  | 2 => ("Stepscript$Lift", "one", "I", false)
  | 3 => ("Stepscript$Lift", "other", "I", false)
  | _ => ("Stepscript$Lift", "gone", "Z", false)
def tyX1 : Nat → FieldType := fun k => match k with
  | 0 => .int
  | 1 => .int
  | 2 => .int
  | 3 => .int
  | _ => .boolean
abbrev wsX10 : List Cond := u_ws RX1 TX1 5
theorem nmX1 : ∀ a, a < 5 → ∀ b, b < 5 → a ≠ b → (TX1 a).2.1 ≠ (TX1 b).2.1 := by decide +kernel
theorem tyX1_ok : ∀ k, k < 5 → parseFieldDescriptor (TX1 k).2.2.1 = some (tyX1 k) := by decide +kernel
abbrev cX1_init : ByteArray := prog_3_method_1_code
def yX1_init : MethodName := ⟨RX1, "<init>", "(IIII)V"⟩
abbrev cX1_isBy : ByteArray := prog_3_method_2_code
def yX1_isBy : MethodName := ⟨RX1, "isBy", "(I)Z"⟩
abbrev cX1_has : ByteArray := prog_3_method_3_code
def yX1_has : MethodName := ⟨RX1, "has", "(I)Z"⟩
abbrev cX1_replace : ByteArray := prog_3_method_4_code
def yX1_replace : MethodName := ⟨RX1, "replace", "(II)V"⟩
def RX2 : String := "Stepscript$Track"
def TX2 : u_T := fun k => match k with
  | 0 => ("Stepscript$Track", "first", "I", true)
  | 1 => ("Stepscript$Track", "moves", "[I", true)
  | _ => ("Stepscript$Track", "places", "[I", true)
def tyX2 : Nat → FieldType := fun k => match k with
  | 0 => .int
  | 1 => .array .int
  | _ => .array .int
abbrev wsX20 : List Cond := u_ws RX2 TX2 3
theorem nmX2 : ∀ a, a < 3 → ∀ b, b < 3 → a ≠ b → (TX2 a).2.1 ≠ (TX2 b).2.1 := by decide +kernel
theorem tyX2_ok : ∀ k, k < 3 → parseFieldDescriptor (TX2 k).2.2.1 = some (tyX2 k) := by decide +kernel
abbrev cX2_init : ByteArray := prog_4_method_1_code
def yX2_init : MethodName := ⟨RX2, "<init>", "(I)V"⟩
abbrev cX2_write : ByteArray := prog_4_method_2_code
def yX2_write : MethodName := ⟨RX2, "write", "(II)V"⟩
abbrev cX2_placeAheadOf : ByteArray := prog_4_method_3_code
def yX2_placeAheadOf : MethodName := ⟨RX2, "placeAheadOf", "(I)I"⟩
abbrev cX2_followedTo : ByteArray := prog_4_method_4_code
def yX2_followedTo : MethodName := ⟨RX2, "followedTo", "(I)I"⟩
abbrev cX2_wayIn : ByteArray := prog_4_method_5_code
def yX2_wayIn : MethodName := ⟨RX2, "wayIn", "(II)I"⟩
abbrev cX2_wayTo : ByteArray := prog_4_method_6_code
def yX2_wayTo : MethodName := ⟨RX2, "wayTo", "(LStepscript$Track;I)I"⟩
abbrev cX2_canVisit : ByteArray := prog_4_method_7_code
def yX2_canVisit : MethodName := ⟨RX2, "canVisit", "(LStepscript$Track;I)Z"⟩
abbrev cX2_visit : ByteArray := prog_4_method_8_code
def yX2_visit : MethodName := ⟨RX2, "visit", "(LStepscript$Track;I)V"⟩
def RX3 : String := "Stepscript"
def TX3 : u_T := fun k => match k with
  | 0 => ("Stepscript", "dancers", "Ljava/util/ArrayList;", true)
  | 1 => ("Stepscript", "lifts", "Ljava/util/ArrayList;", true)
  | 2 => ("Stepscript", "told", "[I", true)
  | 3 => ("Stepscript", "plans", "[[I", true)
  | _ => ("Stepscript", "day", "I", false)
def tyX3 : Nat → FieldType := fun k => match k with
  | 0 => .object "java/util/ArrayList"
  | 1 => .object "java/util/ArrayList"
  | 2 => .array .int
  | 3 => .array (.array .int)
  | _ => .int
abbrev wsX30 : List Cond := u_ws RX3 TX3 5
theorem nmX3 : ∀ a, a < 5 → ∀ b, b < 5 → a ≠ b → (TX3 a).2.1 ≠ (TX3 b).2.1 := by decide +kernel
theorem tyX3_ok : ∀ k, k < 5 → parseFieldDescriptor (TX3 k).2.2.1 = some (tyX3 k) := by decide +kernel
abbrev cX3_init : ByteArray := prog_1_method_1_code
def yX3_init : MethodName := ⟨RX3, "<init>", "()V"⟩
abbrev cX3_dancer : ByteArray := prog_1_method_2_code
def yX3_dancer : MethodName := ⟨RX3, "dancer", "(II)I"⟩
abbrev cX3_move : ByteArray := prog_1_method_3_code
def yX3_move : MethodName := ⟨RX3, "move", "(IIII)I"⟩
abbrev cX3_place : ByteArray := prog_1_method_4_code
def yX3_place : MethodName := ⟨RX3, "place", "(IIZ)I"⟩
abbrev cX3_placeAnew : ByteArray := prog_1_method_5_code
def yX3_placeAnew : MethodName := ⟨RX3, "placeAnew", "(IIZ)I"⟩
abbrev cX3_clashes : ByteArray := prog_1_method_6_code
def yX3_clashes : MethodName := ⟨RX3, "clashes", "(I)I"⟩
abbrev cX3_firstClash : ByteArray := prog_1_method_7_code
def yX3_firstClash : MethodName := ⟨RX3, "firstClash", "()I"⟩
abbrev cX3_lift : ByteArray := prog_1_method_8_code
def yX3_lift : MethodName := ⟨RX3, "lift", "(IIII)I"⟩
abbrev cX3_ofLift : ByteArray := prog_1_method_9_code
def yX3_ofLift : MethodName := ⟨RX3, "ofLift", "(II)I"⟩
abbrev cX3_tempo : ByteArray := prog_1_method_10_code
def yX3_tempo : MethodName := ⟨RX3, "tempo", "(II)I"⟩
abbrev cX3_begins : ByteArray := prog_1_method_11_code
def yX3_begins : MethodName := ⟨RX3, "begins", "(I)I"⟩
abbrev cX3_rehearse : ByteArray := prog_1_method_12_code
def yX3_rehearse : MethodName := ⟨RX3, "rehearse", "(IIII)I"⟩
abbrev cX3_rehearsal : ByteArray := prog_1_method_13_code
def yX3_rehearsal : MethodName := ⟨RX3, "rehearsal", "(II)I"⟩
abbrev cX3_knees : ByteArray := prog_1_method_14_code
def yX3_knees : MethodName := ⟨RX3, "knees", "(I)I"⟩
abbrev cX3_sleep : ByteArray := prog_1_method_15_code
def yX3_sleep : MethodName := ⟨RX3, "sleep", "()I"⟩
abbrev cX3_hurt : ByteArray := prog_1_method_16_code
def yX3_hurt : MethodName := ⟨RX3, "hurt", "(I)I"⟩
abbrev cX3_needDancer : ByteArray := prog_1_method_17_code
def yX3_needDancer : MethodName := ⟨RX3, "needDancer", "(I)V"⟩
abbrev cX3_needCount : ByteArray := prog_1_method_18_code
def yX3_needCount : MethodName := ⟨RX3, "needCount", "(I)V"⟩
abbrev cX3_needRoom : ByteArray := prog_1_method_19_code
def yX3_needRoom : MethodName := ⟨RX3, "needRoom", "(I)V"⟩
abbrev cX3_needHour : ByteArray := prog_1_method_20_code
def yX3_needHour : MethodName := ⟨RX3, "needHour", "(I)V"⟩
abbrev cX3_isOnStage : ByteArray := prog_1_method_21_code
def yX3_isOnStage : MethodName := ⟨RX3, "isOnStage", "(I)Z"⟩
abbrev cX3_isMove : ByteArray := prog_1_method_22_code
def yX3_isMove : MethodName := ⟨RX3, "isMove", "(I)Z"⟩
abbrev cX3_isFirstPlace : ByteArray := prog_1_method_23_code
def yX3_isFirstPlace : MethodName := ⟨RX3, "isFirstPlace", "(II)Z"⟩
abbrev cX3_isOut : ByteArray := prog_1_method_24_code
def yX3_isOut : MethodName := ⟨RX3, "isOut", "(I)Z"⟩
abbrev cX3_clashesAt : ByteArray := prog_1_method_25_code
def yX3_clashesAt : MethodName := ⟨RX3, "clashesAt", "(I)I"⟩
abbrev cX3_liftsWith : ByteArray := prog_1_method_26_code
def yX3_liftsWith : MethodName := ⟨RX3, "liftsWith", "(III)I"⟩
abbrev cX3_stateOf : ByteArray := prog_1_method_27_code
def yX3_stateOf : MethodName := ⟨RX3, "stateOf", "(LStepscript$Lift;)I"⟩
abbrev cX3_isFreeFor : ByteArray := prog_1_method_28_code
def yX3_isFreeFor : MethodName := ⟨RX3, "isFreeFor", "(LStepscript$Lift;I)Z"⟩
abbrev cX3_isBesideLifted : ByteArray := prog_1_method_29_code
def yX3_isBesideLifted : MethodName := ⟨RX3, "isBesideLifted", "(LStepscript$Lift;I)Z"⟩
abbrev cX3_lastOf : ByteArray := prog_1_method_30_code
def yX3_lastOf : MethodName := ⟨RX3, "lastOf", "(I)I"⟩
abbrev cX3_lastsAheadOf : ByteArray := prog_1_method_31_code
def yX3_lastsAheadOf : MethodName := ⟨RX3, "lastsAheadOf", "(I)J"⟩
abbrev cX3_freeRooms : ByteArray := prog_1_method_32_code
def yX3_freeRooms : MethodName := ⟨RX3, "freeRooms", "()V"⟩
abbrev cX3_takesPart : ByteArray := prog_1_method_33_code
def yX3_takesPart : MethodName := ⟨RX3, "takesPart", "(II)Z"⟩
abbrev cX3_partsIn : ByteArray := prog_1_method_34_code
def yX3_partsIn : MethodName := ⟨RX3, "partsIn", "(II)I"⟩
abbrev cX3_pointsFor : ByteArray := prog_1_method_35_code
def yX3_pointsFor : MethodName := ⟨RX3, "pointsFor", "(III)I"⟩
abbrev cX3_isAnyBusy : ByteArray := prog_1_method_36_code
def yX3_isAnyBusy : MethodName := ⟨RX3, "isAnyBusy", "(II)Z"⟩
abbrev cX3_canKneesBear : ByteArray := prog_1_method_37_code
def yX3_canKneesBear : MethodName := ⟨RX3, "canKneesBear", "(III)Z"⟩
abbrev cX3_chargeKnees : ByteArray := prog_1_method_38_code
def yX3_chargeKnees : MethodName := ⟨RX3, "chargeKnees", "(III)V"⟩
abbrev cX3_dropLiftsOf : ByteArray := prog_1_method_39_code
def yX3_dropLiftsOf : MethodName := ⟨RX3, "dropLiftsOf", "(I)V"⟩
abbrev cX3_replaceIn : ByteArray := prog_1_method_40_code
def yX3_replaceIn : MethodName := ⟨RX3, "replaceIn", "(LStepscript$Lift;I)I"⟩
abbrev cX3_movesNeeded : ByteArray := prog_1_method_41_code
def yX3_movesNeeded : MethodName := ⟨RX3, "movesNeeded", "(LStepscript$Lift;II)I"⟩
def RX4 : String := "StepscriptModel"
def TX4 : u_T := fun k => match k with
  | 0 => ("StepscriptModel", "first", "[I", true)
  | 1 => ("StepscriptModel", "second", "[I", true)
  | 2 => ("StepscriptModel", "out", "[I", true)
  | 3 => ("StepscriptModel", "knees", "[I", true)
  | 4 => ("StepscriptModel", "dancers", "I", false)
  | 5 => ("StepscriptModel", "mx", "[I", true)
  | 6 => ("StepscriptModel", "my", "[I", true)
  | 7 => ("StepscriptModel", "lc", "[I", true)
  | 8 => ("StepscriptModel", "ll", "[I", true)
  | 9 => ("StepscriptModel", "la", "[I", true)
  | 10 => ("StepscriptModel", "lb", "[I", true)
  | 11 => ("StepscriptModel", "lg", "[I", true)
  | 12 => ("StepscriptModel", "lifts", "I", false)
  | 13 => ("StepscriptModel", "told", "[I", true)
  | 14 => ("StepscriptModel", "taken", "[I", true)
  | 15 => ("StepscriptModel", "day", "I", false)
  | _ => ("StepscriptModel", "thrown", "I", false)
def tyX4 : Nat → FieldType := fun k => match k with
  | 0 => .array .int
  | 1 => .array .int
  | 2 => .array .int
  | 3 => .array .int
  | 4 => .int
  | 5 => .array .int
  | 6 => .array .int
  | 7 => .array .int
  | 8 => .array .int
  | 9 => .array .int
  | 10 => .array .int
  | 11 => .array .int
  | 12 => .int
  | 13 => .array .int
  | 14 => .array .int
  | 15 => .int
  | _ => .int
abbrev wsX40 : List Cond := u_ws RX4 TX4 17
theorem nmX4 : ∀ a, a < 17 → ∀ b, b < 17 → a ≠ b → (TX4 a).2.1 ≠ (TX4 b).2.1 := by decide +kernel
theorem tyX4_ok : ∀ k, k < 17 → parseFieldDescriptor (TX4 k).2.2.1 = some (tyX4 k) := by decide +kernel
abbrev cX4_init : ByteArray := prog_6_method_1_code
def yX4_init : MethodName := ⟨RX4, "<init>", "()V"⟩
abbrev cX4_thrown : ByteArray := prog_6_method_2_code
def yX4_thrown : MethodName := ⟨RX4, "thrown", "()I"⟩
abbrev cX4_holds : ByteArray := prog_6_method_3_code
def yX4_holds : MethodName := ⟨RX4, "holds", "(I)Z"⟩
abbrev cX4_in : ByteArray := prog_6_method_4_code
def yX4_in : MethodName := ⟨RX4, "in", "(III)Z"⟩
abbrev cX4_frees : ByteArray := prog_6_method_5_code
def yX4_frees : MethodName := ⟨RX4, "frees", "()V"⟩
abbrev cX4_isDancer : ByteArray := prog_6_method_6_code
def yX4_isDancer : MethodName := ⟨RX4, "isDancer", "(I)Z"⟩
abbrev cX4_isCount : ByteArray := prog_6_method_7_code
def yX4_isCount : MethodName := ⟨RX4, "isCount", "(I)Z"⟩
abbrev cX4_dancer : ByteArray := prog_6_method_8_code
def yX4_dancer : MethodName := ⟨RX4, "dancer", "(II)I"⟩
abbrev cX4_move : ByteArray := prog_6_method_9_code
def yX4_move : MethodName := ⟨RX4, "move", "(IIII)I"⟩
abbrev cX4_x : ByteArray := prog_6_method_10_code
def yX4_x : MethodName := ⟨RX4, "x", "(II)I"⟩
abbrev cX4_y : ByteArray := prog_6_method_11_code
def yX4_y : MethodName := ⟨RX4, "y", "(II)I"⟩
abbrev cX4_place : ByteArray := prog_6_method_12_code
def yX4_place : MethodName := ⟨RX4, "place", "(IIZ)I"⟩
abbrev cX4_placeAnew : ByteArray := prog_6_method_13_code
def yX4_placeAnew : MethodName := ⟨RX4, "placeAnew", "(IIZ)I"⟩
abbrev cX4_isAt : ByteArray := prog_6_method_14_code
def yX4_isAt : MethodName := ⟨RX4, "isAt", "(IIII)Z"⟩
abbrev cX4_clash : ByteArray := prog_6_method_15_code
def yX4_clash : MethodName := ⟨RX4, "clash", "(I)I"⟩
abbrev cX4_clashes : ByteArray := prog_6_method_16_code
def yX4_clashes : MethodName := ⟨RX4, "clashes", "(I)I"⟩
abbrev cX4_firstClash : ByteArray := prog_6_method_17_code
def yX4_firstClash : MethodName := ⟨RX4, "firstClash", "()I"⟩
abbrev cX4_isOf : ByteArray := prog_6_method_18_code
def yX4_isOf : MethodName := ⟨RX4, "isOf", "(II)Z"⟩
abbrev cX4_liftsOf : ByteArray := prog_6_method_19_code
def yX4_liftsOf : MethodName := ⟨RX4, "liftsOf", "(II)I"⟩
abbrev cX4_isBeside : ByteArray := prog_6_method_20_code
def yX4_isBeside : MethodName := ⟨RX4, "isBeside", "(III)Z"⟩
abbrev cX4_stands : ByteArray := prog_6_method_21_code
def yX4_stands : MethodName := ⟨RX4, "stands", "(I)Z"⟩
abbrev cX4_lift : ByteArray := prog_6_method_22_code
def yX4_lift : MethodName := ⟨RX4, "lift", "(IIII)I"⟩
abbrev cX4_ofLift : ByteArray := prog_6_method_23_code
def yX4_ofLift : MethodName := ⟨RX4, "ofLift", "(II)I"⟩
abbrev cX4_lasts : ByteArray := prog_6_method_24_code
def yX4_lasts : MethodName := ⟨RX4, "lasts", "(I)I"⟩
abbrev cX4_tempo : ByteArray := prog_6_method_25_code
def yX4_tempo : MethodName := ⟨RX4, "tempo", "(II)I"⟩
abbrev cX4_begins : ByteArray := prog_6_method_26_code
def yX4_begins : MethodName := ⟨RX4, "begins", "(I)I"⟩
abbrev cX4_flat : ByteArray := prog_6_method_27_code
def yX4_flat : MethodName := ⟨RX4, "flat", "(I)I"⟩
abbrev cX4_cost : ByteArray := prog_6_method_28_code
def yX4_cost : MethodName := ⟨RX4, "cost", "(III)I"⟩
abbrev cX4_isBusy : ByteArray := prog_6_method_29_code
def yX4_isBusy : MethodName := ⟨RX4, "isBusy", "(II)Z"⟩
abbrev cX4_rehearse : ByteArray := prog_6_method_30_code
def yX4_rehearse : MethodName := ⟨RX4, "rehearse", "(IIII)I"⟩
abbrev cX4_rehearsal : ByteArray := prog_6_method_31_code
def yX4_rehearsal : MethodName := ⟨RX4, "rehearsal", "(II)I"⟩
abbrev cX4_knees : ByteArray := prog_6_method_32_code
def yX4_knees : MethodName := ⟨RX4, "knees", "(I)I"⟩
abbrev cX4_canCome : ByteArray := prog_6_method_33_code
def yX4_canCome : MethodName := ⟨RX4, "canCome", "(III)Z"⟩
abbrev cX4_comes : ByteArray := prog_6_method_34_code
def yX4_comes : MethodName := ⟨RX4, "comes", "(III)V"⟩
abbrev cX4_mends : ByteArray := prog_6_method_35_code
def yX4_mends : MethodName := ⟨RX4, "mends", "(II)I"⟩
abbrev cX4_hurt : ByteArray := prog_6_method_36_code
def yX4_hurt : MethodName := ⟨RX4, "hurt", "(I)I"⟩
abbrev cX4_sleep : ByteArray := prog_6_method_37_code
def yX4_sleep : MethodName := ⟨RX4, "sleep", "()I"⟩
def RJx145de : String := "java/io/Serializable"
def TJx145de : u_T := fun k => match k with
  | _ => ("", "", "", false)
def tyJx145de : Nat → FieldType := fun k => match k with
  | _ => .int
abbrev wsJx145de0 : List Cond := u_ws RJx145de TJx145de 0
theorem nmJx145de : ∀ a, a < 0 → ∀ b, b < 0 → a ≠ b → (TJx145de a).2.1 ≠ (TJx145de b).2.1 := by decide +kernel
theorem tyJx145de_ok : ∀ k, k < 0 → parseFieldDescriptor (TJx145de k).2.2.1 = some (tyJx145de k) := by decide +kernel
def RJx00060 : String := "java/lang/ArrayIndexOutOfBoundsException"
def TJx00060 : u_T := fun k => match k with
  | 0 => ("java/lang/Throwable", "backtrace", "Ljava/lang/Object;", false)
  | 1 => ("java/lang/Throwable", "detailMessage", "Ljava/lang/String;", false)
  | 2 => ("java/lang/Throwable", "cause", "Ljava/lang/Throwable;", false)
  | 3 => ("java/lang/Throwable", "stackTrace", "[Ljava/lang/StackTraceElement;", false)
  | 4 => ("java/lang/Throwable", "depth", "I", false)
  | _ => ("java/lang/Throwable", "suppressedExceptions", "Ljava/util/List;", false)
def tyJx00060 : Nat → FieldType := fun k => match k with
  | 0 => .object "java/lang/Object"
  | 1 => .object "java/lang/String"
  | 2 => .object "java/lang/Throwable"
  | 3 => .array (.object "java/lang/StackTraceElement")
  | 4 => .int
  | _ => .object "java/util/List"
abbrev wsJx000600 : List Cond := u_ws RJx00060 TJx00060 6
theorem nmJx00060 : ∀ a, a < 6 → ∀ b, b < 6 → a ≠ b → (TJx00060 a).2.1 ≠ (TJx00060 b).2.1 := by decide +kernel
theorem tyJx00060_ok : ∀ k, k < 6 → parseFieldDescriptor (TJx00060 k).2.2.1 = some (tyJx00060 k) := by decide +kernel
abbrev cJx00060_init_a7421 : ByteArray := prog_9_method_2_code
def yJx00060_init_a7421 : MethodName := ⟨RJx00060, "<init>", "(Ljava/lang/String;)V"⟩
def RJx8e188 : String := "java/lang/Cloneable"
def TJx8e188 : u_T := fun k => match k with
  | _ => ("", "", "", false)
def tyJx8e188 : Nat → FieldType := fun k => match k with
  | _ => .int
abbrev wsJx8e1880 : List Cond := u_ws RJx8e188 TJx8e188 0
theorem nmJx8e188 : ∀ a, a < 0 → ∀ b, b < 0 → a ≠ b → (TJx8e188 a).2.1 ≠ (TJx8e188 b).2.1 := by decide +kernel
theorem tyJx8e188_ok : ∀ k, k < 0 → parseFieldDescriptor (TJx8e188 k).2.2.1 = some (tyJx8e188 k) := by decide +kernel
def RJxab1ab : String := "java/lang/Iterable"
def TJxab1ab : u_T := fun k => match k with
  | _ => ("", "", "", false)
def tyJxab1ab : Nat → FieldType := fun k => match k with
  | _ => .int
abbrev wsJxab1ab0 : List Cond := u_ws RJxab1ab TJxab1ab 0
theorem nmJxab1ab : ∀ a, a < 0 → ∀ b, b < 0 → a ≠ b → (TJxab1ab a).2.1 ≠ (TJxab1ab b).2.1 := by decide +kernel
theorem tyJxab1ab_ok : ∀ k, k < 0 → parseFieldDescriptor (TJxab1ab k).2.2.1 = some (tyJxab1ab k) := by decide +kernel
def RJ9 : String := "java/lang/Math"
def TJ9 : u_T := fun k => match k with
  | _ => ("", "", "", false)
def tyJ9 : Nat → FieldType := fun k => match k with
  | _ => .int
abbrev wsJ90 : List Cond := u_ws RJ9 TJ9 0
theorem nmJ9 : ∀ a, a < 0 → ∀ b, b < 0 → a ≠ b → (TJ9 a).2.1 ≠ (TJ9 b).2.1 := by decide +kernel
theorem tyJ9_ok : ∀ k, k < 0 → parseFieldDescriptor (TJ9 k).2.2.1 = some (tyJ9 k) := by decide +kernel
abbrev cJ9_abs_0f7a4 : ByteArray := prog_16_method_59_code
def yJ9_abs_0f7a4 : MethodName := ⟨RJ9, "abs", "(I)I"⟩
abbrev cJ9_max_7cf53 : ByteArray := prog_16_method_65_code
def yJ9_max_7cf53 : MethodName := ⟨RJ9, "max", "(II)I"⟩
abbrev cJ9_min_7cf53 : ByteArray := prog_16_method_69_code
def yJ9_min_7cf53 : MethodName := ⟨RJ9, "min", "(II)I"⟩
def RJ0 : String := "java/lang/String"
def TJ0 : u_T := fun k => match k with
  | 0 => ("java/lang/String", "value", "[B", true)
  | _ => ("java/lang/String", "coder", "B", true)
def tyJ0 : Nat → FieldType := fun k => match k with
  | 0 => .array .byte
  | _ => .byte
abbrev wsJ00 : List Cond := u_ws RJ0 TJ0 2
theorem nmJ0 : ∀ a, a < 2 → ∀ b, b < 2 → a ≠ b → (TJ0 a).2.1 ≠ (TJ0 b).2.1 := by decide +kernel
theorem tyJ0_ok : ∀ k, k < 2 → parseFieldDescriptor (TJ0 k).2.2.1 = some (tyJ0 k) := by decide +kernel
def RJ10 : String := "java/lang/System"
def TJ10 : u_T := fun k => match k with
  | _ => ("", "", "", false)
def tyJ10 : Nat → FieldType := fun k => match k with
  | _ => .int
abbrev wsJ100 : List Cond := u_ws RJ10 TJ10 0
theorem nmJ10 : ∀ a, a < 0 → ∀ b, b < 0 → a ≠ b → (TJ10 a).2.1 ≠ (TJ10 b).2.1 := by decide +kernel
theorem tyJ10_ok : ∀ k, k < 0 → parseFieldDescriptor (TJ10 k).2.2.1 = some (tyJ10 k) := by decide +kernel
def RJxa1e45 : String := "java/util/AbstractCollection"
def TJxa1e45 : u_T := fun k => match k with
  | _ => ("", "", "", false)
def tyJxa1e45 : Nat → FieldType := fun k => match k with
  | _ => .int
abbrev wsJxa1e450 : List Cond := u_ws RJxa1e45 TJxa1e45 0
theorem nmJxa1e45 : ∀ a, a < 0 → ∀ b, b < 0 → a ≠ b → (TJxa1e45 a).2.1 ≠ (TJxa1e45 b).2.1 := by decide +kernel
theorem tyJxa1e45_ok : ∀ k, k < 0 → parseFieldDescriptor (TJxa1e45 k).2.2.1 = some (tyJxa1e45 k) := by decide +kernel
abbrev cJxa1e45_init_da8c8 : ByteArray := prog_21_method_1_code
def yJxa1e45_init_da8c8 : MethodName := ⟨RJxa1e45, "<init>", "()V"⟩
def RJxc12de : String := "java/util/AbstractList"
def TJxc12de : u_T := fun k => match k with
  | _ => ("", "", "", false)
def tyJxc12de : Nat → FieldType := fun k => match k with
  | _ => .int
abbrev wsJxc12de0 : List Cond := u_ws RJxc12de TJxc12de 0
theorem nmJxc12de : ∀ a, a < 0 → ∀ b, b < 0 → a ≠ b → (TJxc12de a).2.1 ≠ (TJxc12de b).2.1 := by decide +kernel
theorem tyJxc12de_ok : ∀ k, k < 0 → parseFieldDescriptor (TJxc12de k).2.2.1 = some (tyJxc12de k) := by decide +kernel
abbrev cJxc12de_init_da8c8 : ByteArray := prog_22_method_1_code
def yJxc12de_init_da8c8 : MethodName := ⟨RJxc12de, "<init>", "()V"⟩
def RJx4a65c : String := "java/util/ArrayList"
def TJx4a65c : u_T := fun k => match k with
  | 0 => ("java/util/AbstractList", "modCount", "I", false)
  | 1 => ("java/util/ArrayList", "elementData", "[Ljava/lang/Object;", false)
  | _ => ("java/util/ArrayList", "size", "I", false)
def tyJx4a65c : Nat → FieldType := fun k => match k with
  | 0 => .int
  | 1 => .array (.object "java/lang/Object")
  | _ => .int
abbrev wsJx4a65c0 : List Cond := u_ws RJx4a65c TJx4a65c 3
theorem nmJx4a65c : ∀ a, a < 3 → ∀ b, b < 3 → a ≠ b → (TJx4a65c a).2.1 ≠ (TJx4a65c b).2.1 := by decide +kernel
theorem tyJx4a65c_ok : ∀ k, k < 3 → parseFieldDescriptor (TJx4a65c k).2.2.1 = some (tyJx4a65c k) := by decide +kernel
abbrev cJx4a65c_init_da8c8 : ByteArray := prog_23_method_2_code
def yJx4a65c_init_da8c8 : MethodName := ⟨RJx4a65c, "<init>", "()V"⟩
abbrev cJx4a65c_grow_92f84 : ByteArray := prog_23_method_6_code
def yJx4a65c_grow_92f84 : MethodName := ⟨RJx4a65c, "grow", "(I)[Ljava/lang/Object;"⟩
abbrev cJx4a65c_grow_d5877 : ByteArray := prog_23_method_7_code
def yJx4a65c_grow_d5877 : MethodName := ⟨RJx4a65c, "grow", "()[Ljava/lang/Object;"⟩
abbrev cJx4a65c_size_8abf5 : ByteArray := prog_23_method_8_code
def yJx4a65c_size_8abf5 : MethodName := ⟨RJx4a65c, "size", "()I"⟩
abbrev cJx4a65c_elementData_915e3 : ByteArray := prog_23_method_18_code
def yJx4a65c_elementData_915e3 : MethodName := ⟨RJx4a65c, "elementData", "(I)Ljava/lang/Object;"⟩
abbrev cJx4a65c_get_915e3 : ByteArray := prog_23_method_20_code
def yJx4a65c_get_915e3 : MethodName := ⟨RJx4a65c, "get", "(I)Ljava/lang/Object;"⟩
abbrev cJx4a65c_add_72be8 : ByteArray := prog_23_method_24_code
def yJx4a65c_add_72be8 : MethodName := ⟨RJx4a65c, "add", "(Ljava/lang/Object;[Ljava/lang/Object;I)V"⟩
abbrev cJx4a65c_add_9ea2d : ByteArray := prog_23_method_25_code
def yJx4a65c_add_9ea2d : MethodName := ⟨RJx4a65c, "add", "(Ljava/lang/Object;)Z"⟩
def RJ7 : String := "java/util/Arrays"
def TJ7 : u_T := fun k => match k with
  | _ => ("", "", "", false)
def tyJ7 : Nat → FieldType := fun k => match k with
  | _ => .int
abbrev wsJ70 : List Cond := u_ws RJ7 TJ7 0
theorem nmJ7 : ∀ a, a < 0 → ∀ b, b < 0 → a ≠ b → (TJ7 a).2.1 ≠ (TJ7 b).2.1 := by decide +kernel
theorem tyJ7_ok : ∀ k, k < 0 → parseFieldDescriptor (TJ7 k).2.2.1 = some (tyJ7 k) := by decide +kernel
abbrev cJ7_fill_53178 : ByteArray := prog_24_method_103_code
def yJ7_fill_53178 : MethodName := ⟨RJ7, "fill", "([II)V"⟩
abbrev cJ7_copyOf_1904c : ByteArray := prog_24_method_119_code
def yJ7_copyOf_1904c : MethodName := ⟨RJ7, "copyOf", "([Ljava/lang/Object;I)[Ljava/lang/Object;"⟩
abbrev cJ7_copyOf_6403c : ByteArray := prog_24_method_120_code
def yJ7_copyOf_6403c : MethodName := ⟨RJ7, "copyOf", "([Ljava/lang/Object;ILjava/lang/Class;)[Ljava/lang/Object;"⟩
def RJx5ef63 : String := "java/util/Collection"
def TJx5ef63 : u_T := fun k => match k with
  | _ => ("", "", "", false)
def tyJx5ef63 : Nat → FieldType := fun k => match k with
  | _ => .int
abbrev wsJx5ef630 : List Cond := u_ws RJx5ef63 TJx5ef63 0
theorem nmJx5ef63 : ∀ a, a < 0 → ∀ b, b < 0 → a ≠ b → (TJx5ef63 a).2.1 ≠ (TJx5ef63 b).2.1 := by decide +kernel
theorem tyJx5ef63_ok : ∀ k, k < 0 → parseFieldDescriptor (TJx5ef63 k).2.2.1 = some (tyJx5ef63 k) := by decide +kernel
def RJxbd725 : String := "java/util/List"
def TJxbd725 : u_T := fun k => match k with
  | _ => ("", "", "", false)
def tyJxbd725 : Nat → FieldType := fun k => match k with
  | _ => .int
abbrev wsJxbd7250 : List Cond := u_ws RJxbd725 TJxbd725 0
theorem nmJxbd725 : ∀ a, a < 0 → ∀ b, b < 0 → a ≠ b → (TJxbd725 a).2.1 ≠ (TJxbd725 b).2.1 := by decide +kernel
theorem tyJxbd725_ok : ∀ k, k < 0 → parseFieldDescriptor (TJxbd725 k).2.2.1 = some (tyJxbd725 k) := by decide +kernel
def RJ15 : String := "java/util/Objects"
def TJ15 : u_T := fun k => match k with
  | _ => ("", "", "", false)
def tyJ15 : Nat → FieldType := fun k => match k with
  | _ => .int
abbrev wsJ150 : List Cond := u_ws RJ15 TJ15 0
theorem nmJ15 : ∀ a, a < 0 → ∀ b, b < 0 → a ≠ b → (TJ15 a).2.1 ≠ (TJ15 b).2.1 := by decide +kernel
theorem tyJ15_ok : ∀ k, k < 0 → parseFieldDescriptor (TJ15 k).2.2.1 = some (tyJ15 k) := by decide +kernel
abbrev cJ15_checkIndex_7cf53 : ByteArray := prog_27_method_17_code
def yJ15_checkIndex_7cf53 : MethodName := ⟨RJ15, "checkIndex", "(II)I"⟩
def RJxf0a74 : String := "java/util/RandomAccess"
def TJxf0a74 : u_T := fun k => match k with
  | _ => ("", "", "", false)
def tyJxf0a74 : Nat → FieldType := fun k => match k with
  | _ => .int
abbrev wsJxf0a740 : List Cond := u_ws RJxf0a74 TJxf0a74 0
theorem nmJxf0a74 : ∀ a, a < 0 → ∀ b, b < 0 → a ≠ b → (TJxf0a74 a).2.1 ≠ (TJxf0a74 b).2.1 := by decide +kernel
theorem tyJxf0a74_ok : ∀ k, k < 0 → parseFieldDescriptor (TJxf0a74 k).2.2.1 = some (tyJxf0a74 k) := by decide +kernel
def RJxa66e6 : String := "java/util/SequencedCollection"
def TJxa66e6 : u_T := fun k => match k with
  | _ => ("", "", "", false)
def tyJxa66e6 : Nat → FieldType := fun k => match k with
  | _ => .int
abbrev wsJxa66e60 : List Cond := u_ws RJxa66e6 TJxa66e6 0
theorem nmJxa66e6 : ∀ a, a < 0 → ∀ b, b < 0 → a ≠ b → (TJxa66e6 a).2.1 ≠ (TJxa66e6 b).2.1 := by decide +kernel
theorem tyJxa66e6_ok : ∀ k, k < 0 → parseFieldDescriptor (TJxa66e6 k).2.2.1 = some (tyJxa66e6 k) := by decide +kernel
def RJ8 : String := "jdk/internal/util/ArraysSupport"
def TJ8 : u_T := fun k => match k with
  | _ => ("", "", "", false)
def tyJ8 : Nat → FieldType := fun k => match k with
  | _ => .int
abbrev wsJ80 : List Cond := u_ws RJ8 TJ8 0
theorem nmJ8 : ∀ a, a < 0 → ∀ b, b < 0 → a ≠ b → (TJ8 a).2.1 ≠ (TJ8 b).2.1 := by decide +kernel
theorem tyJ8_ok : ∀ k, k < 0 → parseFieldDescriptor (TJ8 k).2.2.1 = some (tyJ8 k) := by decide +kernel
abbrev cJ8_newLength_cabcc : ByteArray := prog_30_method_27_code
def yJ8_newLength_cabcc : MethodName := ⟨RJ8, "newLength", "(III)I"⟩
abbrev cJ8_hugeLength_7cf53 : ByteArray := prog_30_method_28_code
def yJ8_hugeLength_7cf53 : MethodName := ⟨RJ8, "hugeLength", "(II)I"⟩
def RJ3 : String := "jdk/internal/util/Preconditions"
def TJ3 : u_T := fun k => match k with
  | _ => ("", "", "", false)
def tyJ3 : Nat → FieldType := fun k => match k with
  | _ => .int
abbrev wsJ30 : List Cond := u_ws RJ3 TJ3 0
theorem nmJ3 : ∀ a, a < 0 → ∀ b, b < 0 → a ≠ b → (TJ3 a).2.1 ≠ (TJ3 b).2.1 := by decide +kernel
theorem tyJ3_ok : ∀ k, k < 0 → parseFieldDescriptor (TJ3 k).2.2.1 = some (tyJ3 k) := by decide +kernel
abbrev cJ3_checkIndex_8e157 : ByteArray := prog_31_method_11_code
def yJ3_checkIndex_8e157 : MethodName := ⟨RJ3, "checkIndex", "(IILjava/util/function/BiFunction;)I"⟩
def RL : String := "StepscriptLaw"
abbrev cL_dancer : ByteArray := method_3_code
def yL_dancer : MethodName := ⟨RL, "dancer", "(LStepscript;II[J)I"⟩
abbrev cL_move : ByteArray := method_4_code
def yL_move : MethodName := ⟨RL, "move", "(LStepscript;IIII[J)I"⟩
abbrev cL_place : ByteArray := method_5_code
def yL_place : MethodName := ⟨RL, "place", "(LStepscript;IIZ[J)I"⟩
abbrev cL_placeAnew : ByteArray := method_6_code
def yL_placeAnew : MethodName := ⟨RL, "placeAnew", "(LStepscript;IIZ[J)I"⟩
abbrev cL_clashes : ByteArray := method_7_code
def yL_clashes : MethodName := ⟨RL, "clashes", "(LStepscript;I[J)I"⟩
abbrev cL_lift : ByteArray := method_8_code
def yL_lift : MethodName := ⟨RL, "lift", "(LStepscript;IIII[J)I"⟩
abbrev cL_ofLift : ByteArray := method_9_code
def yL_ofLift : MethodName := ⟨RL, "ofLift", "(LStepscript;II[J)I"⟩
abbrev cL_tempo : ByteArray := method_10_code
def yL_tempo : MethodName := ⟨RL, "tempo", "(LStepscript;II[J)I"⟩
abbrev cL_begins : ByteArray := method_11_code
def yL_begins : MethodName := ⟨RL, "begins", "(LStepscript;I[J)I"⟩
abbrev cL_rehearse : ByteArray := method_12_code
def yL_rehearse : MethodName := ⟨RL, "rehearse", "(LStepscript;IIII[J)I"⟩
abbrev cL_rehearsal : ByteArray := method_13_code
def yL_rehearsal : MethodName := ⟨RL, "rehearsal", "(LStepscript;II[J)I"⟩
abbrev cL_knees : ByteArray := method_14_code
def yL_knees : MethodName := ⟨RL, "knees", "(LStepscript;I[J)I"⟩
abbrev cL_hurt : ByteArray := method_15_code
def yL_hurt : MethodName := ⟨RL, "hurt", "(LStepscript;I[J)I"⟩
abbrev cL_law : ByteArray := code
def yL_law : MethodName := ⟨RL, "law", "([I)Z"⟩
abbrev vwCl : List vw_C := [(RJ0, TJ0, 2), (RJx00060, TJx00060, 6), (RJx4a65c, TJx4a65c, 3), (RX0, TX0, 4), (RX1, TX1, 5), (RX2, TX2, 3), (RX3, TX3, 5), (RX4, TX4, 17)]
