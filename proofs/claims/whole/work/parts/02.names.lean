/-! ===== BEGIN printed: names, fields, word lists, decode rows ===== -/
def RX0 : String := "VaneHouse$AgendaEntry"
def TX0 : u_T := fun k => match k with
  | 0 => ("VaneHouse$AgendaEntry", "motion", "LVaneHouse$Motion;", true)
  | _ => ("VaneHouse$AgendaEntry", "hour", "I", true)
def tyX0 : Nat → FieldType := fun k => match k with
  | 0 => .object "VaneHouse$Motion"
  | _ => .int
abbrev wsX00 : List Cond := u_ws RX0 TX0 2
theorem nmX0 : ∀ a, a < 2 → ∀ b, b < 2 → a ≠ b → (TX0 a).2.1 ≠ (TX0 b).2.1 := by decide +kernel
theorem tyX0_ok : ∀ k, k < 2 → parseFieldDescriptor (TX0 k).2.2.1 = some (tyX0 k) := by decide +kernel
abbrev cX0_init : ByteArray := prog_2_method_1_code
def yX0_init : MethodName := ⟨RX0, "<init>", "(LVaneHouse$Motion;I)V"⟩
def RX1 : String := "VaneHouse$Mast"
def TX1 : u_T := fun k => match k with
  | 0 => ("VaneHouse$Mast", "column", "I", true)
  | 1 => ("VaneHouse$Mast", "row", "I", true)
  | 2 => ("VaneHouse$Mast", "height", "I", true)
  | 3 => ("VaneHouse$Mast", "weight", "I", true)
  | _ => ("VaneHouse$Mast", "higherOnes", "[I", true)
def tyX1 : Nat → FieldType := fun k => match k with
  | 0 => .int
  | 1 => .int
  | 2 => .int
  | 3 => .int
  | _ => .array .int
abbrev wsX10 : List Cond := u_ws RX1 TX1 5
theorem nmX1 : ∀ a, a < 5 → ∀ b, b < 5 → a ≠ b → (TX1 a).2.1 ≠ (TX1 b).2.1 := by decide +kernel
theorem tyX1_ok : ∀ k, k < 5 → parseFieldDescriptor (TX1 k).2.2.1 = some (tyX1 k) := by decide +kernel
abbrev cX1_init : ByteArray := prog_3_method_1_code
def yX1_init : MethodName := ⟨RX1, "<init>", "(IIII)V"⟩
abbrev cX1_lookAt : ByteArray := prog_3_method_2_code
def yX1_lookAt : MethodName := ⟨RX1, "lookAt", "(LVaneHouse$Mast;)V"⟩
abbrev cX1_isInLine : ByteArray := prog_3_method_3_code
def yX1_isInLine : MethodName := ⟨RX1, "isInLine", "(LVaneHouse$Mast;I)Z"⟩
abbrev cX1_leeOf : ByteArray := prog_3_method_4_code
def yX1_leeOf : MethodName := ⟨RX1, "leeOf", "(LVaneHouse$Wind;)I"⟩
def RX2 : String := "VaneHouse$Motion"
def TX2 : u_T := fun k => match k with
  | 0 => ("VaneHouse$Motion", "number", "I", true)
  | 1 => ("VaneHouse$Motion", "direction", "I", true)
  | 2 => ("VaneHouse$Motion", "spread", "I", true)
  | 3 => ("VaneHouse$Motion", "quorum", "I", true)
  | 4 => ("VaneHouse$Motion", "effect", "I", true)
  | 5 => ("VaneHouse$Motion", "votings", "I", false)
  | _ => ("VaneHouse$Motion", "passings", "I", false)
def tyX2 : Nat → FieldType := fun k => match k with
  | 0 => .int
  | 1 => .int
  | 2 => .int
  | 3 => .int
  | 4 => .int
  | 5 => .int
  | _ => .int
abbrev wsX20 : List Cond := u_ws RX2 TX2 7
theorem nmX2 : ∀ a, a < 7 → ∀ b, b < 7 → a ≠ b → (TX2 a).2.1 ≠ (TX2 b).2.1 := by decide +kernel
theorem tyX2_ok : ∀ k, k < 7 → parseFieldDescriptor (TX2 k).2.2.1 = some (tyX2 k) := by decide +kernel
abbrev cX2_init : ByteArray := prog_4_method_1_code
def yX2_init : MethodName := ⟨RX2, "<init>", "(IIIII)V"⟩
abbrev cX2_tell : ByteArray := prog_4_method_2_code
def yX2_tell : MethodName := ⟨RX2, "tell", "(ILVaneHouse$Town;)I"⟩
abbrev cX2_sideOf : ByteArray := prog_4_method_3_code
def yX2_sideOf : MethodName := ⟨RX2, "sideOf", "(LVaneHouse$Vane;)I"⟩
abbrev cX2_noteVoting : ByteArray := prog_4_method_4_code
def yX2_noteVoting : MethodName := ⟨RX2, "noteVoting", "(Z)V"⟩
def RX3 : String := "VaneHouse$Town"
def TX3 : u_T := fun k => match k with
  | _ => ("VaneHouse$Town", "vanes", "Ljava/util/ArrayList;", true)
def tyX3 : Nat → FieldType := fun k => match k with
  | _ => .object "java/util/ArrayList"
abbrev wsX30 : List Cond := u_ws RX3 TX3 1
theorem nmX3 : ∀ a, a < 1 → ∀ b, b < 1 → a ≠ b → (TX3 a).2.1 ≠ (TX3 b).2.1 := by decide +kernel
theorem tyX3_ok : ∀ k, k < 1 → parseFieldDescriptor (TX3 k).2.2.1 = some (tyX3 k) := by decide +kernel
abbrev cX3_init : ByteArray := prog_5_method_1_code
def yX3_init : MethodName := ⟨RX3, "<init>", "()V"⟩
abbrev cX3_copyAllFrom : ByteArray := prog_5_method_2_code
def yX3_copyAllFrom : MethodName := ⟨RX3, "copyAllFrom", "(LVaneHouse$Town;)V"⟩
abbrev cX3_hasOneAt : ByteArray := prog_5_method_3_code
def yX3_hasOneAt : MethodName := ⟨RX3, "hasOneAt", "(II)Z"⟩
abbrev cX3_shelter : ByteArray := prog_5_method_4_code
def yX3_shelter : MethodName := ⟨RX3, "shelter", "(LVaneHouse$Mast;)V"⟩
abbrev cX3_directionOf : ByteArray := prog_5_method_5_code
def yX3_directionOf : MethodName := ⟨RX3, "directionOf", "(I)I"⟩
abbrev cX3_blowOnAll : ByteArray := prog_5_method_6_code
def yX3_blowOnAll : MethodName := ⟨RX3, "blowOnAll", "(LVaneHouse$Wind;)V"⟩
abbrev cX3_rainOnAll : ByteArray := prog_5_method_7_code
def yX3_rainOnAll : MethodName := ⟨RX3, "rainOnAll", "()V"⟩
abbrev cX3_giveEffect : ByteArray := prog_5_method_8_code
def yX3_giveEffect : MethodName := ⟨RX3, "giveEffect", "(LVaneHouse$Motion;)V"⟩
abbrev cX3_carries : ByteArray := prog_5_method_9_code
def yX3_carries : MethodName := ⟨RX3, "carries", "(LVaneHouse$Motion;)Z"⟩
abbrev cX3_votesOnSide : ByteArray := prog_5_method_10_code
def yX3_votesOnSide : MethodName := ⟨RX3, "votesOnSide", "(LVaneHouse$Motion;I)I"⟩
abbrev cX3_allVotes : ByteArray := prog_5_method_11_code
def yX3_allVotes : MethodName := ⟨RX3, "allVotes", "()I"⟩
abbrev cX3_votesOf : ByteArray := prog_5_method_12_code
def yX3_votesOf : MethodName := ⟨RX3, "votesOf", "(I)I"⟩
abbrev cX3_vanesOf : ByteArray := prog_5_method_13_code
def yX3_vanesOf : MethodName := ⟨RX3, "vanesOf", "(I)I"⟩
abbrev cX3_boundVanes : ByteArray := prog_5_method_14_code
def yX3_boundVanes : MethodName := ⟨RX3, "boundVanes", "()I"⟩
abbrev cX3_stuckVanes : ByteArray := prog_5_method_15_code
def yX3_stuckVanes : MethodName := ⟨RX3, "stuckVanes", "(LVaneHouse$Wind;)I"⟩
def RX4 : String := "VaneHouse$Vane"
def TX4 : u_T := fun k => match k with
  | 0 => ("VaneHouse$Vane", "mast", "LVaneHouse$Mast;", true)
  | 1 => ("VaneHouse$Vane", "votes", "I", false)
  | 2 => ("VaneHouse$Vane", "rust", "I", false)
  | 3 => ("VaneHouse$Vane", "direction", "I", false)
  | 4 => ("VaneHouse$Vane", "spin", "I", false)
  | 5 => ("VaneHouse$Vane", "bound", "I", false)
  | _ => ("VaneHouse$Vane", "rainyHours", "I", false)
def tyX4 : Nat → FieldType := fun k => match k with
  | 0 => .object "VaneHouse$Mast"
  | 1 => .int
  | 2 => .int
  | 3 => .int
  | 4 => .int
  | 5 => .int
  | _ => .int
abbrev wsX40 : List Cond := u_ws RX4 TX4 7
theorem nmX4 : ∀ a, a < 7 → ∀ b, b < 7 → a ≠ b → (TX4 a).2.1 ≠ (TX4 b).2.1 := by decide +kernel
theorem tyX4_ok : ∀ k, k < 7 → parseFieldDescriptor (TX4 k).2.2.1 = some (tyX4 k) := by decide +kernel
abbrev cX4_init : ByteArray := prog_6_method_1_code
def yX4_init : MethodName := ⟨RX4, "<init>", "(LVaneHouse$Mast;II)V"⟩
abbrev cX4_copyFrom : ByteArray := prog_6_method_2_code
def yX4_copyFrom : MethodName := ⟨RX4, "copyFrom", "(LVaneHouse$Vane;)V"⟩
abbrev cX4_tell : ByteArray := prog_6_method_3_code
def yX4_tell : MethodName := ⟨RX4, "tell", "(ILVaneHouse$Wind;)I"⟩
abbrev cX4_partyNumber : ByteArray := prog_6_method_4_code
def yX4_partyNumber : MethodName := ⟨RX4, "partyNumber", "()I"⟩
abbrev cX4_windHere : ByteArray := prog_6_method_5_code
def yX4_windHere : MethodName := ⟨RX4, "windHere", "(LVaneHouse$Wind;)I"⟩
abbrev cX4_isStuck : ByteArray := prog_6_method_6_code
def yX4_isStuck : MethodName := ⟨RX4, "isStuck", "(LVaneHouse$Wind;)Z"⟩
abbrev cX4_blow : ByteArray := prog_6_method_7_code
def yX4_blow : MethodName := ⟨RX4, "blow", "(LVaneHouse$Wind;)V"⟩
abbrev cX4_nextSpin : ByteArray := prog_6_method_8_code
def yX4_nextSpin : MethodName := ⟨RX4, "nextSpin", "(LVaneHouse$Wind;)I"⟩
abbrev cX4_takeOil : ByteArray := prog_6_method_9_code
def yX4_takeOil : MethodName := ⟨RX4, "takeOil", "()V"⟩
abbrev cX4_takeRain : ByteArray := prog_6_method_10_code
def yX4_takeRain : MethodName := ⟨RX4, "takeRain", "()V"⟩
abbrev cX4_takeEffect : ByteArray := prog_6_method_11_code
def yX4_takeEffect : MethodName := ⟨RX4, "takeEffect", "(II)V"⟩
def RX5 : String := "VaneHouse$Wind"
def TX5 : u_T := fun k => match k with
  | 0 => ("VaneHouse$Wind", "direction", "I", true)
  | 1 => ("VaneHouse$Wind", "strength", "I", true)
  | 2 => ("VaneHouse$Wind", "rains", "Z", true)
  | _ => ("VaneHouse$Wind", "eighth", "I", true)
def tyX5 : Nat → FieldType := fun k => match k with
  | 0 => .int
  | 1 => .int
  | 2 => .boolean
  | _ => .int
abbrev wsX50 : List Cond := u_ws RX5 TX5 4
theorem nmX5 : ∀ a, a < 4 → ∀ b, b < 4 → a ≠ b → (TX5 a).2.1 ≠ (TX5 b).2.1 := by decide +kernel
theorem tyX5_ok : ∀ k, k < 4 → parseFieldDescriptor (TX5 k).2.2.1 = some (tyX5 k) := by decide +kernel
abbrev cX5_init : ByteArray := prog_7_method_1_code
def yX5_init : MethodName := ⟨RX5, "<init>", "(IIZ)V"⟩
abbrev cX5_tell : ByteArray := prog_7_method_2_code
def yX5_tell : MethodName := ⟨RX5, "tell", "(I)I"⟩
def RX6 : String := "VaneHouse"
def TX6 : u_T := fun k => match k with
  | 0 => ("VaneHouse", "firstWind", "LVaneHouse$Wind;", true)
  | 1 => ("VaneHouse", "winds", "Ljava/util/ArrayList;", true)
  | 2 => ("VaneHouse", "motions", "Ljava/util/ArrayList;", true)
  | 3 => ("VaneHouse", "agenda", "Ljava/util/ArrayList;", true)
  | 4 => ("VaneHouse", "town", "LVaneHouse$Town;", true)
  | 5 => ("VaneHouse", "ahead", "LVaneHouse$Town;", true)
  | 6 => ("VaneHouse", "hour", "I", false)
  | _ => ("VaneHouse", "passings", "I", false)
def tyX6 : Nat → FieldType := fun k => match k with
  | 0 => .object "VaneHouse$Wind"
  | 1 => .object "java/util/ArrayList"
  | 2 => .object "java/util/ArrayList"
  | 3 => .object "java/util/ArrayList"
  | 4 => .object "VaneHouse$Town"
  | 5 => .object "VaneHouse$Town"
  | 6 => .int
  | _ => .int
abbrev wsX60 : List Cond := u_ws RX6 TX6 8
theorem nmX6 : ∀ a, a < 8 → ∀ b, b < 8 → a ≠ b → (TX6 a).2.1 ≠ (TX6 b).2.1 := by decide +kernel
theorem tyX6_ok : ∀ k, k < 8 → parseFieldDescriptor (TX6 k).2.2.1 = some (tyX6 k) := by decide +kernel
abbrev cX6_init : ByteArray := prog_1_method_1_code
def yX6_init : MethodName := ⟨RX6, "<init>", "()V"⟩
abbrev cX6_beginWind : ByteArray := prog_1_method_2_code
def yX6_beginWind : MethodName := ⟨RX6, "beginWind", "(IIZ)I"⟩
abbrev cX6_addWind : ByteArray := prog_1_method_3_code
def yX6_addWind : MethodName := ⟨RX6, "addWind", "(IIZ)I"⟩
abbrev cX6_wind : ByteArray := prog_1_method_4_code
def yX6_wind : MethodName := ⟨RX6, "wind", "(II)I"⟩
abbrev cX6_setUp : ByteArray := prog_1_method_5_code
def yX6_setUp : MethodName := ⟨RX6, "setUp", "(IIIIII)I"⟩
abbrev cX6_oil : ByteArray := prog_1_method_6_code
def yX6_oil : MethodName := ⟨RX6, "oil", "(I)I"⟩
abbrev cX6_turn : ByteArray := prog_1_method_7_code
def yX6_turn : MethodName := ⟨RX6, "turn", "(II)I"⟩
abbrev cX6_vane : ByteArray := prog_1_method_8_code
def yX6_vane : MethodName := ⟨RX6, "vane", "(II)I"⟩
abbrev cX6_difference : ByteArray := prog_1_method_9_code
def yX6_difference : MethodName := ⟨RX6, "difference", "(II)I"⟩
abbrev cX6_move : ByteArray := prog_1_method_10_code
def yX6_move : MethodName := ⟨RX6, "move", "(IIII)I"⟩
abbrev cX6_put : ByteArray := prog_1_method_11_code
def yX6_put : MethodName := ⟨RX6, "put", "(II)I"⟩
abbrev cX6_motion : ByteArray := prog_1_method_12_code
def yX6_motion : MethodName := ⟨RX6, "motion", "(II)I"⟩
abbrev cX6_stand : ByteArray := prog_1_method_13_code
def yX6_stand : MethodName := ⟨RX6, "stand", "(II)I"⟩
abbrev cX6_pass : ByteArray := prog_1_method_14_code
def yX6_pass : MethodName := ⟨RX6, "pass", "(I)I"⟩
abbrev cX6_count : ByteArray := prog_1_method_15_code
def yX6_count : MethodName := ⟨RX6, "count", "(I)I"⟩
abbrev cX6_party : ByteArray := prog_1_method_16_code
def yX6_party : MethodName := ⟨RX6, "party", "(II)I"⟩
abbrev cX6_coalition : ByteArray := prog_1_method_17_code
def yX6_coalition : MethodName := ⟨RX6, "coalition", "()I"⟩
abbrev cX6_foresee : ByteArray := prog_1_method_18_code
def yX6_foresee : MethodName := ⟨RX6, "foresee", "(II)I"⟩
abbrev cX6_passes : ByteArray := prog_1_method_19_code
def yX6_passes : MethodName := ⟨RX6, "passes", "(II)I"⟩
abbrev cX6_advise : ByteArray := prog_1_method_20_code
def yX6_advise : MethodName := ⟨RX6, "advise", "(II)I"⟩
abbrev cX6_discord : ByteArray := prog_1_method_21_code
def yX6_discord : MethodName := ⟨RX6, "discord", "()D"⟩
abbrev cX6_digest : ByteArray := prog_1_method_22_code
def yX6_digest : MethodName := ⟨RX6, "digest", "()J"⟩
abbrev cX6_digestWinds : ByteArray := prog_1_method_23_code
def yX6_digestWinds : MethodName := ⟨RX6, "digestWinds", "(J)J"⟩
abbrev cX6_digestVanes : ByteArray := prog_1_method_24_code
def yX6_digestVanes : MethodName := ⟨RX6, "digestVanes", "(J)J"⟩
abbrev cX6_digestMotions : ByteArray := prog_1_method_25_code
def yX6_digestMotions : MethodName := ⟨RX6, "digestMotions", "(J)J"⟩
abbrev cX6_tally : ByteArray := prog_1_method_26_code
def yX6_tally : MethodName := ⟨RX6, "tally", "(I)I"⟩
abbrev cX6_windAt : ByteArray := prog_1_method_27_code
def yX6_windAt : MethodName := ⟨RX6, "windAt", "(I)LVaneHouse$Wind;"⟩
abbrev cX6_voteAndRain : ByteArray := prog_1_method_28_code
def yX6_voteAndRain : MethodName := ⟨RX6, "voteAndRain", "(LVaneHouse$Town;IZ)I"⟩
abbrev cX6_hoursUntilItPasses : ByteArray := prog_1_method_29_code
def yX6_hoursUntilItPasses : MethodName := ⟨RX6, "hoursUntilItPasses", "(LVaneHouse$Motion;I)I"⟩
abbrev cX6_dropPastEntries : ByteArray := prog_1_method_30_code
def yX6_dropPastEntries : MethodName := ⟨RX6, "dropPastEntries", "()V"⟩
abbrev cX6_isVane : ByteArray := prog_1_method_31_code
def yX6_isVane : MethodName := ⟨RX6, "isVane", "(I)Z"⟩
abbrev cX6_isMotion : ByteArray := prog_1_method_32_code
def yX6_isMotion : MethodName := ⟨RX6, "isMotion", "(I)Z"⟩
abbrev cX6_isDirection : ByteArray := prog_1_method_33_code
def yX6_isDirection : MethodName := ⟨RX6, "isDirection", "(I)Z"⟩
abbrev cX6_isWithin : ByteArray := prog_1_method_34_code
def yX6_isWithin : MethodName := ⟨RX6, "isWithin", "(III)Z"⟩
abbrev cX6_steps : ByteArray := prog_1_method_35_code
def yX6_steps : MethodName := ⟨RX6, "steps", "(II)I"⟩
abbrev cX6_distance : ByteArray := prog_1_method_36_code
def yX6_distance : MethodName := ⟨RX6, "distance", "(II)I"⟩
def RX7 : String := "VaneHouseModel$State"
def TX7 : u_T := fun k => match k with
  | 0 => ("VaneHouseModel$State", "hour", "I", false)
  | 1 => ("VaneHouseModel$State", "winds", "I", false)
  | 2 => ("VaneHouseModel$State", "direction", "[I", true)
  | 3 => ("VaneHouseModel$State", "strength", "[I", true)
  | 4 => ("VaneHouseModel$State", "rains", "[Z", true)
  | 5 => ("VaneHouseModel$State", "vanes", "I", false)
  | 6 => ("VaneHouseModel$State", "vane", "[I", true)
  | 7 => ("VaneHouseModel$State", "motions", "I", false)
  | 8 => ("VaneHouseModel$State", "motion", "[I", true)
  | 9 => ("VaneHouseModel$State", "entries", "I", false)
  | 10 => ("VaneHouseModel$State", "agenda", "[I", true)
  | _ => ("VaneHouseModel$State", "passed", "I", false)
def tyX7 : Nat → FieldType := fun k => match k with
  | 0 => .int
  | 1 => .int
  | 2 => .array .int
  | 3 => .array .int
  | 4 => .array .boolean
  | 5 => .int
  | 6 => .array .int
  | 7 => .int
  | 8 => .array .int
  | 9 => .int
  | 10 => .array .int
  | _ => .int
abbrev wsX70 : List Cond := u_ws RX7 TX7 12
theorem nmX7 : ∀ a, a < 12 → ∀ b, b < 12 → a ≠ b → (TX7 a).2.1 ≠ (TX7 b).2.1 := by decide +kernel
theorem tyX7_ok : ∀ k, k < 12 → parseFieldDescriptor (TX7 k).2.2.1 = some (tyX7 k) := by decide +kernel
abbrev cX7_init : ByteArray := prog_10_method_1_code
def yX7_init : MethodName := ⟨RX7, "<init>", "()V"⟩
abbrev cX7_become : ByteArray := prog_10_method_2_code
def yX7_become : MethodName := ⟨RX7, "become", "(LVaneHouseModel$State;)V"⟩
abbrev cX7_of : ByteArray := prog_10_method_3_code
def yX7_of : MethodName := ⟨RX7, "of", "(II)I"⟩
abbrev cX7_set : ByteArray := prog_10_method_4_code
def yX7_set : MethodName := ⟨RX7, "set", "(III)V"⟩
abbrev cX7_entry : ByteArray := prog_10_method_5_code
def yX7_entry : MethodName := ⟨RX7, "entry", "()I"⟩
abbrev cX7_lee : ByteArray := prog_10_method_6_code
def yX7_lee : MethodName := ⟨RX7, "lee", "(I)I"⟩
abbrev cX7_windAt : ByteArray := prog_10_method_7_code
def yX7_windAt : MethodName := ⟨RX7, "windAt", "(I)I"⟩
abbrev cX7_oil : ByteArray := prog_10_method_8_code
def yX7_oil : MethodName := ⟨RX7, "oil", "(I)V"⟩
abbrev cX7_turn : ByteArray := prog_10_method_9_code
def yX7_turn : MethodName := ⟨RX7, "turn", "()V"⟩
abbrev cX7_end : ByteArray := prog_10_method_10_code
def yX7_end : MethodName := ⟨RX7, "end", "()I"⟩
abbrev cX7_stand : ByteArray := prog_10_method_11_code
def yX7_stand : MethodName := ⟨RX7, "stand", "(II)I"⟩
abbrev cX7_votes : ByteArray := prog_10_method_12_code
def yX7_votes : MethodName := ⟨RX7, "votes", "(II)I"⟩
abbrev cX7_would : ByteArray := prog_10_method_13_code
def yX7_would : MethodName := ⟨RX7, "would", "(I)Z"⟩
abbrev cX7_vote : ByteArray := prog_10_method_14_code
def yX7_vote : MethodName := ⟨RX7, "vote", "(I)I"⟩
abbrev cX7_pass : ByteArray := prog_10_method_15_code
def yX7_pass : MethodName := ⟨RX7, "pass", "()I"⟩
def RX8 : String := "VaneHouseModel"
def TX8 : u_T := fun k => match k with
  | 0 => ("VaneHouseModel", "thrown", "I", false)
  | 1 => ("VaneHouseModel", "s", "LVaneHouseModel$State;", true)
  | _ => ("VaneHouseModel", "ahead", "LVaneHouseModel$State;", true)
def tyX8 : Nat → FieldType := fun k => match k with
  | 0 => .int
  | 1 => .object "VaneHouseModel$State"
  | _ => .object "VaneHouseModel$State"
abbrev wsX80 : List Cond := u_ws RX8 TX8 3
theorem nmX8 : ∀ a, a < 3 → ∀ b, b < 3 → a ≠ b → (TX8 a).2.1 ≠ (TX8 b).2.1 := by decide +kernel
theorem tyX8_ok : ∀ k, k < 3 → parseFieldDescriptor (TX8 k).2.2.1 = some (tyX8 k) := by decide +kernel
abbrev cX8_init : ByteArray := prog_9_method_1_code
def yX8_init : MethodName := ⟨RX8, "<init>", "()V"⟩
abbrev cX8_thrown : ByteArray := prog_9_method_2_code
def yX8_thrown : MethodName := ⟨RX8, "thrown", "()I"⟩
abbrev cX8_no : ByteArray := prog_9_method_3_code
def yX8_no : MethodName := ⟨RX8, "no", "(I)I"⟩
abbrev cX8_isIn : ByteArray := prog_9_method_4_code
def yX8_isIn : MethodName := ⟨RX8, "isIn", "(III)Z"⟩
abbrev cX8_apart : ByteArray := prog_9_method_5_code
def yX8_apart : MethodName := ⟨RX8, "apart", "(II)I"⟩
abbrev cX8_layWind : ByteArray := prog_9_method_6_code
def yX8_layWind : MethodName := ⟨RX8, "layWind", "(IIIZ)V"⟩
abbrev cX8_beginWind : ByteArray := prog_9_method_7_code
def yX8_beginWind : MethodName := ⟨RX8, "beginWind", "(IIZ)I"⟩
abbrev cX8_addWind : ByteArray := prog_9_method_8_code
def yX8_addWind : MethodName := ⟨RX8, "addWind", "(IIZ)I"⟩
abbrev cX8_windTold : ByteArray := prog_9_method_9_code
def yX8_windTold : MethodName := ⟨RX8, "windTold", "(II)I"⟩
abbrev cX8_wind : ByteArray := prog_9_method_10_code
def yX8_wind : MethodName := ⟨RX8, "wind", "(II)I"⟩
abbrev cX8_setUp : ByteArray := prog_9_method_11_code
def yX8_setUp : MethodName := ⟨RX8, "setUp", "(IIIIII)I"⟩
abbrev cX8_isVane : ByteArray := prog_9_method_12_code
def yX8_isVane : MethodName := ⟨RX8, "isVane", "(I)Z"⟩
abbrev cX8_oil : ByteArray := prog_9_method_13_code
def yX8_oil : MethodName := ⟨RX8, "oil", "(I)I"⟩
abbrev cX8_turn : ByteArray := prog_9_method_14_code
def yX8_turn : MethodName := ⟨RX8, "turn", "(II)I"⟩
abbrev cX8_partyOf : ByteArray := prog_9_method_15_code
def yX8_partyOf : MethodName := ⟨RX8, "partyOf", "(I)I"⟩
abbrev cX8_vaneTold : ByteArray := prog_9_method_16_code
def yX8_vaneTold : MethodName := ⟨RX8, "vaneTold", "(II)I"⟩
abbrev cX8_vane : ByteArray := prog_9_method_17_code
def yX8_vane : MethodName := ⟨RX8, "vane", "(II)I"⟩
abbrev cX8_difference : ByteArray := prog_9_method_18_code
def yX8_difference : MethodName := ⟨RX8, "difference", "(II)I"⟩
abbrev cX8_move : ByteArray := prog_9_method_19_code
def yX8_move : MethodName := ⟨RX8, "move", "(IIII)I"⟩
abbrev cX8_isMotion : ByteArray := prog_9_method_20_code
def yX8_isMotion : MethodName := ⟨RX8, "isMotion", "(I)Z"⟩
abbrev cX8_put : ByteArray := prog_9_method_21_code
def yX8_put : MethodName := ⟨RX8, "put", "(II)I"⟩
abbrev cX8_motionTold : ByteArray := prog_9_method_22_code
def yX8_motionTold : MethodName := ⟨RX8, "motionTold", "(II)I"⟩
abbrev cX8_motion : ByteArray := prog_9_method_23_code
def yX8_motion : MethodName := ⟨RX8, "motion", "(II)I"⟩
abbrev cX8_stand : ByteArray := prog_9_method_24_code
def yX8_stand : MethodName := ⟨RX8, "stand", "(II)I"⟩
abbrev cX8_pass : ByteArray := prog_9_method_25_code
def yX8_pass : MethodName := ⟨RX8, "pass", "(I)I"⟩
abbrev cX8_counted : ByteArray := prog_9_method_26_code
def yX8_counted : MethodName := ⟨RX8, "counted", "(I)I"⟩
abbrev cX8_count : ByteArray := prog_9_method_27_code
def yX8_count : MethodName := ⟨RX8, "count", "(I)I"⟩
abbrev cX8_partyTold : ByteArray := prog_9_method_28_code
def yX8_partyTold : MethodName := ⟨RX8, "partyTold", "(II)I"⟩
abbrev cX8_party : ByteArray := prog_9_method_29_code
def yX8_party : MethodName := ⟨RX8, "party", "(II)I"⟩
abbrev cX8_coalition : ByteArray := prog_9_method_30_code
def yX8_coalition : MethodName := ⟨RX8, "coalition", "()I"⟩
abbrev cX8_foresee : ByteArray := prog_9_method_31_code
def yX8_foresee : MethodName := ⟨RX8, "foresee", "(II)I"⟩
abbrev cX8_first : ByteArray := prog_9_method_32_code
def yX8_first : MethodName := ⟨RX8, "first", "(III)I"⟩
abbrev cX8_passes : ByteArray := prog_9_method_33_code
def yX8_passes : MethodName := ⟨RX8, "passes", "(II)I"⟩
abbrev cX8_advise : ByteArray := prog_9_method_34_code
def yX8_advise : MethodName := ⟨RX8, "advise", "(II)I"⟩
abbrev cX8_discord : ByteArray := prog_9_method_35_code
def yX8_discord : MethodName := ⟨RX8, "discord", "()D"⟩
abbrev cX8_digest : ByteArray := prog_9_method_36_code
def yX8_digest : MethodName := ⟨RX8, "digest", "()J"⟩
def RJx145de : String := "java/io/Serializable"
def TJx145de : u_T := fun k => match k with
  | _ => ("", "", "", false)
def tyJx145de : Nat → FieldType := fun k => match k with
  | _ => .int
abbrev wsJx145de0 : List Cond := u_ws RJx145de TJx145de 0
theorem nmJx145de : ∀ a, a < 0 → ∀ b, b < 0 → a ≠ b → (TJx145de a).2.1 ≠ (TJx145de b).2.1 := by decide +kernel
theorem tyJx145de_ok : ∀ k, k < 0 → parseFieldDescriptor (TJx145de k).2.2.1 = some (tyJx145de k) := by decide +kernel
def RJx8e188 : String := "java/lang/Cloneable"
def TJx8e188 : u_T := fun k => match k with
  | _ => ("", "", "", false)
def tyJx8e188 : Nat → FieldType := fun k => match k with
  | _ => .int
abbrev wsJx8e1880 : List Cond := u_ws RJx8e188 TJx8e188 0
theorem nmJx8e188 : ∀ a, a < 0 → ∀ b, b < 0 → a ≠ b → (TJx8e188 a).2.1 ≠ (TJx8e188 b).2.1 := by decide +kernel
theorem tyJx8e188_ok : ∀ k, k < 0 → parseFieldDescriptor (TJx8e188 k).2.2.1 = some (tyJx8e188 k) := by decide +kernel
def RJ6 : String := "java/lang/Integer"
def TJ6 : u_T := fun k => match k with
  | _ => ("", "", "", false)
def tyJ6 : Nat → FieldType := fun k => match k with
  | _ => .int
abbrev wsJ60 : List Cond := u_ws RJ6 TJ6 0
theorem nmJ6 : ∀ a, a < 0 → ∀ b, b < 0 → a ≠ b → (TJ6 a).2.1 ≠ (TJ6 b).2.1 := by decide +kernel
theorem tyJ6_ok : ∀ k, k < 0 → parseFieldDescriptor (TJ6 k).2.2.1 = some (tyJ6 k) := by decide +kernel
abbrev cJ6_bitCount_0f7a4 : ByteArray := prog_17_method_49_code
def yJ6_bitCount_0f7a4 : MethodName := ⟨RJ6, "bitCount", "(I)I"⟩
abbrev cJ6_signum_0f7a4 : ByteArray := prog_17_method_56_code
def yJ6_signum_0f7a4 : MethodName := ⟨RJ6, "signum", "(I)I"⟩
def RJxab1ab : String := "java/lang/Iterable"
def TJxab1ab : u_T := fun k => match k with
  | _ => ("", "", "", false)
def tyJxab1ab : Nat → FieldType := fun k => match k with
  | _ => .int
abbrev wsJxab1ab0 : List Cond := u_ws RJxab1ab TJxab1ab 0
theorem nmJxab1ab : ∀ a, a < 0 → ∀ b, b < 0 → a ≠ b → (TJxab1ab a).2.1 ≠ (TJxab1ab b).2.1 := by decide +kernel
theorem tyJxab1ab_ok : ∀ k, k < 0 → parseFieldDescriptor (TJxab1ab k).2.2.1 = some (tyJxab1ab k) := by decide +kernel
def RJ9 : String := "java/lang/Math"
def TJ9 : u_T := fun k => match k with
  | _ => ("", "", "", false)
def tyJ9 : Nat → FieldType := fun k => match k with
  | _ => .int
abbrev wsJ90 : List Cond := u_ws RJ9 TJ9 0
theorem nmJ9 : ∀ a, a < 0 → ∀ b, b < 0 → a ≠ b → (TJ9 a).2.1 ≠ (TJ9 b).2.1 := by decide +kernel
theorem tyJ9_ok : ∀ k, k < 0 → parseFieldDescriptor (TJ9 k).2.2.1 = some (tyJ9 k) := by decide +kernel
abbrev cJ9_floorMod_7cf53 : ByteArray := prog_19_method_50_code
def yJ9_floorMod_7cf53 : MethodName := ⟨RJ9, "floorMod", "(II)I"⟩
abbrev cJ9_abs_0f7a4 : ByteArray := prog_19_method_59_code
def yJ9_abs_0f7a4 : MethodName := ⟨RJ9, "abs", "(I)I"⟩
abbrev cJ9_max_7cf53 : ByteArray := prog_19_method_65_code
def yJ9_max_7cf53 : MethodName := ⟨RJ9, "max", "(II)I"⟩
abbrev cJ9_min_7cf53 : ByteArray := prog_19_method_69_code
def yJ9_min_7cf53 : MethodName := ⟨RJ9, "min", "(II)I"⟩
def RJ0 : String := "java/lang/String"
def TJ0 : u_T := fun k => match k with
  | _ => ("", "", "", false)
def tyJ0 : Nat → FieldType := fun k => match k with
  | _ => .int
abbrev wsJ00 : List Cond := u_ws RJ0 TJ0 0
theorem nmJ0 : ∀ a, a < 0 → ∀ b, b < 0 → a ≠ b → (TJ0 a).2.1 ≠ (TJ0 b).2.1 := by decide +kernel
theorem tyJ0_ok : ∀ k, k < 0 → parseFieldDescriptor (TJ0 k).2.2.1 = some (tyJ0 k) := by decide +kernel
def RJ10 : String := "java/lang/System"
def TJ10 : u_T := fun k => match k with
  | _ => ("", "", "", false)
def tyJ10 : Nat → FieldType := fun k => match k with
  | _ => .int
abbrev wsJ100 : List Cond := u_ws RJ10 TJ10 0
theorem nmJ10 : ∀ a, a < 0 → ∀ b, b < 0 → a ≠ b → (TJ10 a).2.1 ≠ (TJ10 b).2.1 := by decide +kernel
theorem tyJ10_ok : ∀ k, k < 0 → parseFieldDescriptor (TJ10 k).2.2.1 = some (tyJ10 k) := by decide +kernel
def RJxa1e45 : String := "java/util/AbstractCollection"
def TJxa1e45 : u_T := fun k => match k with
  | _ => ("", "", "", false)
def tyJxa1e45 : Nat → FieldType := fun k => match k with
  | _ => .int
abbrev wsJxa1e450 : List Cond := u_ws RJxa1e45 TJxa1e45 0
theorem nmJxa1e45 : ∀ a, a < 0 → ∀ b, b < 0 → a ≠ b → (TJxa1e45 a).2.1 ≠ (TJxa1e45 b).2.1 := by decide +kernel
theorem tyJxa1e45_ok : ∀ k, k < 0 → parseFieldDescriptor (TJxa1e45 k).2.2.1 = some (tyJxa1e45 k) := by decide +kernel
abbrev cJxa1e45_init_da8c8 : ByteArray := prog_24_method_1_code
def yJxa1e45_init_da8c8 : MethodName := ⟨RJxa1e45, "<init>", "()V"⟩
def RJxc12de : String := "java/util/AbstractList"
def TJxc12de : u_T := fun k => match k with
  | _ => ("", "", "", false)
def tyJxc12de : Nat → FieldType := fun k => match k with
  | _ => .int
abbrev wsJxc12de0 : List Cond := u_ws RJxc12de TJxc12de 0
theorem nmJxc12de : ∀ a, a < 0 → ∀ b, b < 0 → a ≠ b → (TJxc12de a).2.1 ≠ (TJxc12de b).2.1 := by decide +kernel
theorem tyJxc12de_ok : ∀ k, k < 0 → parseFieldDescriptor (TJxc12de k).2.2.1 = some (tyJxc12de k) := by decide +kernel
abbrev cJxc12de_init_da8c8 : ByteArray := prog_25_method_1_code
def yJxc12de_init_da8c8 : MethodName := ⟨RJxc12de, "<init>", "()V"⟩
def RJx4a65c : String := "java/util/ArrayList"
def TJx4a65c : u_T := fun k => match k with
  | 0 => ("java/util/AbstractList", "modCount", "I", false)
  | 1 => ("java/util/ArrayList", "elementData", "[Ljava/lang/Object;", false)
  | _ => ("java/util/ArrayList", "size", "I", false)
def tyJx4a65c : Nat → FieldType := fun k => match k with
  | 0 => .int
  | 1 => .array (.object "java/lang/Object")
  | _ => .int
abbrev wsJx4a65c0 : List Cond := u_ws RJx4a65c TJx4a65c 3
theorem nmJx4a65c : ∀ a, a < 3 → ∀ b, b < 3 → a ≠ b → (TJx4a65c a).2.1 ≠ (TJx4a65c b).2.1 := by decide +kernel
theorem tyJx4a65c_ok : ∀ k, k < 3 → parseFieldDescriptor (TJx4a65c k).2.2.1 = some (tyJx4a65c k) := by decide +kernel
abbrev cJx4a65c_init_da8c8 : ByteArray := prog_26_method_2_code
def yJx4a65c_init_da8c8 : MethodName := ⟨RJx4a65c, "<init>", "()V"⟩
abbrev cJx4a65c_grow_92f84 : ByteArray := prog_26_method_6_code
def yJx4a65c_grow_92f84 : MethodName := ⟨RJx4a65c, "grow", "(I)[Ljava/lang/Object;"⟩
abbrev cJx4a65c_grow_d5877 : ByteArray := prog_26_method_7_code
def yJx4a65c_grow_d5877 : MethodName := ⟨RJx4a65c, "grow", "()[Ljava/lang/Object;"⟩
abbrev cJx4a65c_size_8abf5 : ByteArray := prog_26_method_8_code
def yJx4a65c_size_8abf5 : MethodName := ⟨RJx4a65c, "size", "()I"⟩
abbrev cJx4a65c_elementData_915e3 : ByteArray := prog_26_method_18_code
def yJx4a65c_elementData_915e3 : MethodName := ⟨RJx4a65c, "elementData", "(I)Ljava/lang/Object;"⟩
abbrev cJx4a65c_get_915e3 : ByteArray := prog_26_method_20_code
def yJx4a65c_get_915e3 : MethodName := ⟨RJx4a65c, "get", "(I)Ljava/lang/Object;"⟩
abbrev cJx4a65c_add_72be8 : ByteArray := prog_26_method_24_code
def yJx4a65c_add_72be8 : MethodName := ⟨RJx4a65c, "add", "(Ljava/lang/Object;[Ljava/lang/Object;I)V"⟩
abbrev cJx4a65c_add_9ea2d : ByteArray := prog_26_method_25_code
def yJx4a65c_add_9ea2d : MethodName := ⟨RJx4a65c, "add", "(Ljava/lang/Object;)Z"⟩
abbrev cJx4a65c_remove_915e3 : ByteArray := prog_26_method_29_code
def yJx4a65c_remove_915e3 : MethodName := ⟨RJx4a65c, "remove", "(I)Ljava/lang/Object;"⟩
abbrev cJx4a65c_fastRemove_b59b0 : ByteArray := prog_26_method_39_code
def yJx4a65c_fastRemove_b59b0 : MethodName := ⟨RJx4a65c, "fastRemove", "([Ljava/lang/Object;I)V"⟩
abbrev cJx4a65c_clear_da8c8 : ByteArray := prog_26_method_40_code
def yJx4a65c_clear_da8c8 : MethodName := ⟨RJx4a65c, "clear", "()V"⟩
def RJ7 : String := "java/util/Arrays"
def TJ7 : u_T := fun k => match k with
  | _ => ("", "", "", false)
def tyJ7 : Nat → FieldType := fun k => match k with
  | _ => .int
abbrev wsJ70 : List Cond := u_ws RJ7 TJ7 0
theorem nmJ7 : ∀ a, a < 0 → ∀ b, b < 0 → a ≠ b → (TJ7 a).2.1 ≠ (TJ7 b).2.1 := by decide +kernel
theorem tyJ7_ok : ∀ k, k < 0 → parseFieldDescriptor (TJ7 k).2.2.1 = some (tyJ7 k) := by decide +kernel
abbrev cJ7_copyOf_1904c : ByteArray := prog_27_method_119_code
def yJ7_copyOf_1904c : MethodName := ⟨RJ7, "copyOf", "([Ljava/lang/Object;I)[Ljava/lang/Object;"⟩
abbrev cJ7_copyOf_6403c : ByteArray := prog_27_method_120_code
def yJ7_copyOf_6403c : MethodName := ⟨RJ7, "copyOf", "([Ljava/lang/Object;ILjava/lang/Class;)[Ljava/lang/Object;"⟩
def RJx5ef63 : String := "java/util/Collection"
def TJx5ef63 : u_T := fun k => match k with
  | _ => ("", "", "", false)
def tyJx5ef63 : Nat → FieldType := fun k => match k with
  | _ => .int
abbrev wsJx5ef630 : List Cond := u_ws RJx5ef63 TJx5ef63 0
theorem nmJx5ef63 : ∀ a, a < 0 → ∀ b, b < 0 → a ≠ b → (TJx5ef63 a).2.1 ≠ (TJx5ef63 b).2.1 := by decide +kernel
theorem tyJx5ef63_ok : ∀ k, k < 0 → parseFieldDescriptor (TJx5ef63 k).2.2.1 = some (tyJx5ef63 k) := by decide +kernel
def RJxbd725 : String := "java/util/List"
def TJxbd725 : u_T := fun k => match k with
  | _ => ("", "", "", false)
def tyJxbd725 : Nat → FieldType := fun k => match k with
  | _ => .int
abbrev wsJxbd7250 : List Cond := u_ws RJxbd725 TJxbd725 0
theorem nmJxbd725 : ∀ a, a < 0 → ∀ b, b < 0 → a ≠ b → (TJxbd725 a).2.1 ≠ (TJxbd725 b).2.1 := by decide +kernel
theorem tyJxbd725_ok : ∀ k, k < 0 → parseFieldDescriptor (TJxbd725 k).2.2.1 = some (tyJxbd725 k) := by decide +kernel
def RJ15 : String := "java/util/Objects"
def TJ15 : u_T := fun k => match k with
  | _ => ("", "", "", false)
def tyJ15 : Nat → FieldType := fun k => match k with
  | _ => .int
abbrev wsJ150 : List Cond := u_ws RJ15 TJ15 0
theorem nmJ15 : ∀ a, a < 0 → ∀ b, b < 0 → a ≠ b → (TJ15 a).2.1 ≠ (TJ15 b).2.1 := by decide +kernel
theorem tyJ15_ok : ∀ k, k < 0 → parseFieldDescriptor (TJ15 k).2.2.1 = some (tyJ15 k) := by decide +kernel
abbrev cJ15_checkIndex_7cf53 : ByteArray := prog_30_method_17_code
def yJ15_checkIndex_7cf53 : MethodName := ⟨RJ15, "checkIndex", "(II)I"⟩
def RJxf0a74 : String := "java/util/RandomAccess"
def TJxf0a74 : u_T := fun k => match k with
  | _ => ("", "", "", false)
def tyJxf0a74 : Nat → FieldType := fun k => match k with
  | _ => .int
abbrev wsJxf0a740 : List Cond := u_ws RJxf0a74 TJxf0a74 0
theorem nmJxf0a74 : ∀ a, a < 0 → ∀ b, b < 0 → a ≠ b → (TJxf0a74 a).2.1 ≠ (TJxf0a74 b).2.1 := by decide +kernel
theorem tyJxf0a74_ok : ∀ k, k < 0 → parseFieldDescriptor (TJxf0a74 k).2.2.1 = some (tyJxf0a74 k) := by decide +kernel
def RJxa66e6 : String := "java/util/SequencedCollection"
def TJxa66e6 : u_T := fun k => match k with
  | _ => ("", "", "", false)
def tyJxa66e6 : Nat → FieldType := fun k => match k with
  | _ => .int
abbrev wsJxa66e60 : List Cond := u_ws RJxa66e6 TJxa66e6 0
theorem nmJxa66e6 : ∀ a, a < 0 → ∀ b, b < 0 → a ≠ b → (TJxa66e6 a).2.1 ≠ (TJxa66e6 b).2.1 := by decide +kernel
theorem tyJxa66e6_ok : ∀ k, k < 0 → parseFieldDescriptor (TJxa66e6 k).2.2.1 = some (tyJxa66e6 k) := by decide +kernel
def RJ8 : String := "jdk/internal/util/ArraysSupport"
def TJ8 : u_T := fun k => match k with
  | _ => ("", "", "", false)
def tyJ8 : Nat → FieldType := fun k => match k with
  | _ => .int
abbrev wsJ80 : List Cond := u_ws RJ8 TJ8 0
theorem nmJ8 : ∀ a, a < 0 → ∀ b, b < 0 → a ≠ b → (TJ8 a).2.1 ≠ (TJ8 b).2.1 := by decide +kernel
theorem tyJ8_ok : ∀ k, k < 0 → parseFieldDescriptor (TJ8 k).2.2.1 = some (tyJ8 k) := by decide +kernel
abbrev cJ8_newLength_cabcc : ByteArray := prog_33_method_27_code
def yJ8_newLength_cabcc : MethodName := ⟨RJ8, "newLength", "(III)I"⟩
abbrev cJ8_hugeLength_7cf53 : ByteArray := prog_33_method_28_code
def yJ8_hugeLength_7cf53 : MethodName := ⟨RJ8, "hugeLength", "(II)I"⟩
def RJ3 : String := "jdk/internal/util/Preconditions"
def TJ3 : u_T := fun k => match k with
  | _ => ("", "", "", false)
def tyJ3 : Nat → FieldType := fun k => match k with
  | _ => .int
abbrev wsJ30 : List Cond := u_ws RJ3 TJ3 0
theorem nmJ3 : ∀ a, a < 0 → ∀ b, b < 0 → a ≠ b → (TJ3 a).2.1 ≠ (TJ3 b).2.1 := by decide +kernel
theorem tyJ3_ok : ∀ k, k < 0 → parseFieldDescriptor (TJ3 k).2.2.1 = some (tyJ3 k) := by decide +kernel
abbrev cJ3_checkIndex_8e157 : ByteArray := prog_34_method_11_code
def yJ3_checkIndex_8e157 : MethodName := ⟨RJ3, "checkIndex", "(IILjava/util/function/BiFunction;)I"⟩
def RL : String := "VaneHouseLaw"
abbrev cL_beginWind : ByteArray := method_3_code
def yL_beginWind : MethodName := ⟨RL, "beginWind", "(LVaneHouse;IIZ[J)I"⟩
abbrev cL_addWind : ByteArray := method_4_code
def yL_addWind : MethodName := ⟨RL, "addWind", "(LVaneHouse;IIZ[J)I"⟩
abbrev cL_wind : ByteArray := method_5_code
def yL_wind : MethodName := ⟨RL, "wind", "(LVaneHouse;II[J)I"⟩
abbrev cL_setUp : ByteArray := method_6_code
def yL_setUp : MethodName := ⟨RL, "setUp", "(LVaneHouse;IIIIII[J)I"⟩
abbrev cL_oil : ByteArray := method_7_code
def yL_oil : MethodName := ⟨RL, "oil", "(LVaneHouse;I[J)I"⟩
abbrev cL_turn : ByteArray := method_8_code
def yL_turn : MethodName := ⟨RL, "turn", "(LVaneHouse;II[J)I"⟩
abbrev cL_vane : ByteArray := method_9_code
def yL_vane : MethodName := ⟨RL, "vane", "(LVaneHouse;II[J)I"⟩
abbrev cL_difference : ByteArray := method_10_code
def yL_difference : MethodName := ⟨RL, "difference", "(LVaneHouse;II[J)I"⟩
abbrev cL_move : ByteArray := method_11_code
def yL_move : MethodName := ⟨RL, "move", "(LVaneHouse;IIII[J)I"⟩
abbrev cL_put : ByteArray := method_12_code
def yL_put : MethodName := ⟨RL, "put", "(LVaneHouse;II[J)I"⟩
abbrev cL_motion : ByteArray := method_13_code
def yL_motion : MethodName := ⟨RL, "motion", "(LVaneHouse;II[J)I"⟩
abbrev cL_stand : ByteArray := method_14_code
def yL_stand : MethodName := ⟨RL, "stand", "(LVaneHouse;II[J)I"⟩
abbrev cL_pass : ByteArray := method_15_code
def yL_pass : MethodName := ⟨RL, "pass", "(LVaneHouse;I[J)I"⟩
abbrev cL_count : ByteArray := method_16_code
def yL_count : MethodName := ⟨RL, "count", "(LVaneHouse;I[J)I"⟩
abbrev cL_party : ByteArray := method_17_code
def yL_party : MethodName := ⟨RL, "party", "(LVaneHouse;II[J)I"⟩
abbrev cL_foresee : ByteArray := method_18_code
def yL_foresee : MethodName := ⟨RL, "foresee", "(LVaneHouse;II[J)I"⟩
abbrev cL_passes : ByteArray := method_19_code
def yL_passes : MethodName := ⟨RL, "passes", "(LVaneHouse;II[J)I"⟩
abbrev cL_advise : ByteArray := method_20_code
def yL_advise : MethodName := ⟨RL, "advise", "(LVaneHouse;II[J)I"⟩
abbrev cL_law : ByteArray := code
def yL_law : MethodName := ⟨RL, "law", "([I)Z"⟩
abbrev vwCl : List vw_C := [(RJx4a65c, TJx4a65c, 3), (RX0, TX0, 2), (RX1, TX1, 5), (RX2, TX2, 7), (RX3, TX3, 1), (RX4, TX4, 7), (RX5, TX5, 4), (RX6, TX6, 8), (RX7, TX7, 12), (RX8, TX8, 3)]
